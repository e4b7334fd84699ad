theorem dX7_needAccount_0 : decode cX7_needAccount 0 = .ok (.iload_n 1, 1) := by decide +kernel
theorem dX7_needAccount_1 : decode cX7_needAccount 1 = .ok (.ifCond .lt 14, 3) := by decide +kernel
theorem dX7_needAccount_12 : decode cX7_needAccount 12 = .ok (.if_icmp .lt 14, 3) := by decide +kernel
theorem dX7_needAccount_26 : decode cX7_needAccount 26 = .ok (.return_, 1) := by decide +kernel
theorem dX7_needAccount_4 : decode cX7_needAccount 4 = .ok (.iload_n 1, 1) := by decide +kernel
theorem dX7_needAccount_5 : decode cX7_needAccount 5 = .ok (.aload_n 0, 1) := by decide +kernel
theorem dX7_needAccount_6 : decode cX7_needAccount 6 = .ok (.getfield 12, 3) := by decide +kernel
theorem dX7_needAccount_9 : decode cX7_needAccount 9 = .ok (.getfield 93, 3) := by decide +kernel
set_option maxHeartbeats 4000000 in
set_option maxRecDepth 100000 in
theorem c_T_needAccount (l : Launch) (D : va_G) (κ : ClassId × ClassId × ClassId) (a : Nat → Nat) (sz : Nat) (u : TS) (k : Nat) (q1 : OK u) (q2 : k < AC_count u) : TM l yX7_needAccount cX7_needAccount 2 none 0 0 D κ a u sz [.ref (a 0), .int (nI k)] (QV D κ a sz (fun u' => u' = u)) := by
  refine TM.of (by decide +kernel) (Nat.le_of_ble_eq_true rfl) ?_
  intro p e s m below meth c ls hC hr hk hsz H locs hG hl
  have hx := hC.1
  have hb := hC.2.1
  have hl : lv_has ls 2 [(0, .ref (a 0)), (1, .int (nI k))] := hl
  have qok := q1
  have ⟨n1, n2, n3, n4, n5, n6, n7, n8, n9, n10⟩ := qok.n
  refine lv_iload_n hx hb dX7_needAccount_0 rfl (lv_at hl 1 rfl) ?_
  refine bz_lt_f (tgt := 15) hx hb (by omega) dX7_needAccount_1 (by decide) ?_
  refine lv_iload_n hx hb dX7_needAccount_4 rfl (lv_at hl 1 rfl) ?_
  refine lv_aload_n hx hb dX7_needAccount_5 rfl (lv_at hl 0 rfl) ?_
  refine gf_T_accounts hC hG (hC.2.2.2.2 _ w16) dX7_needAccount_6 ?_
  refine gf_AC_count hC hG (hC.2.2.2.2 _ w138) dX7_needAccount_9 ?_
  refine bn_lt_t (tgt := 26) hx hb (by omega) (by omega) dX7_needAccount_12 (by decide) (q2) ?_
  exact te_v hC hG hr hk rfl dX7_needAccount_26
theorem k_T_needAccount {p : Program} {l : Launch} {e : Env} {R : Room} {s : State} {m : MethodId} {args : Array Value} {below : List Frame} {meth : Method} {c : Code} {H : Heap} {locs : List Loc} {cs ss : Nat} {Q : State → Prop} {cc : ByteArray} {nL pc : Nat} {ls : Array Slot} {rest : List Value} {own : String} {idx : Nat} {D : va_G} {κ : ClassId × ClassId × ClassId} {a : Nat → Nat} {u : TS} {A : Nat → Prop} (hC : CallFix p m c cc nL s args WALL own) (hG : GW D κ a u A s H locs) (k : Nat) (q1 : OK u) (q2 : k < AC_count u) (wl : Cond.methodLink own idx yX7_needAccount ∈ WALL) (hR : 0 + 1 ≤ R.frames ∧ 8 + (2 + 11) + 0 ≤ R.locals) (hls : ls.size = nL) (h8 : (rest.map fun v => v.category).sum ≤ 8) (hd : decode cc pc = .ok (.invokevirtual idx, 3)) (hcs : cs ≤ R.cells ∧ ss ≤ R.slots) (kk : ∀ (H1 : Heap) (locs1 : List Loc), GW D κ a u A s H1 locs1 → W p l e R s m args below meth c H1 locs1 cs ss Q (F0 m (pc + 3) ls (rest))) : W p l e R s m args below meth c H locs cs ss Q (F0 m pc ls (.int (nI k) :: .ref (a 0) :: rest)) :=
  tc_v hG (tr_V (n := 1) (k := 0) (ci := 7) (As := [.int (nI k)]) hC hG (c_T_needAccount l D κ a H.size u k q1 q2) rfl rfl wl w2 w151 w149 w150 (by decide +kernel) hR rfl hls rfl h8 hd hcs) (fun u' H1 locs1 hq hG1 => by subst hq; exact kk H1 locs1 hG1)

theorem dX7_needEntry_0 : decode cX7_needEntry 0 = .ok (.aload_n 0, 1) := by decide +kernel
theorem dX7_needEntry_1 : decode cX7_needEntry 1 = .ok (.getfield 26, 3) := by decide +kernel
theorem dX7_needEntry_21 : decode cX7_needEntry 21 = .ok (.return_, 1) := by decide +kernel
theorem dX7_needEntry_4 : decode cX7_needEntry 4 = .ok (.iload_n 1, 1) := by decide +kernel
theorem dX7_needEntry_5 : decode cX7_needEntry 5 = .ok (.invokevirtual 188, 3) := by decide +kernel
theorem dX7_needEntry_8 : decode cX7_needEntry 8 = .ok (.ifCond .ne 13, 3) := by decide +kernel
set_option maxHeartbeats 4000000 in
set_option maxRecDepth 100000 in
theorem c_T_needEntry (l : Launch) (D : va_G) (κ : ClassId × ClassId × ClassId) (a : Nat → Nat) (sz : Nat) (u : TS) (en : Nat) (q1 : OK u) (q2 : en < J_count u) : TM l yX7_needEntry cX7_needEntry 2 none 1 21 D κ a u sz [.ref (a 0), .int (nI en)] (QV D κ a sz (fun u' => u' = u)) := by
  refine TM.of (by decide +kernel) (Nat.le_of_ble_eq_true rfl) ?_
  intro p e s m below meth c ls hC hr hk hsz H locs hG hl
  have hx := hC.1
  have hb := hC.2.1
  have hl : lv_has ls 2 [(0, .ref (a 0)), (1, .int (nI en))] := hl
  have qok := q1
  have ⟨n1, n2, n3, n4, n5, n6, n7, n8, n9, n10⟩ := qok.n
  refine lv_aload_n hx hb dX7_needEntry_0 rfl (lv_at hl 0 rfl) ?_
  refine gf_T_journal hC hG (hC.2.2.2.2 _ w24) dX7_needEntry_1 ?_
  refine lv_iload_n hx hb dX7_needEntry_4 rfl (lv_at hl 1 rfl) ?_
  refine k_J_has hC hG en (by omega) (q1) w264 ⟨by decide, by decide⟩ hl.1 (Nat.le_of_ble_eq_true rfl) dX7_needEntry_5 ⟨Nat.zero_le _, Nat.zero_le _⟩ (fun H locs hG => ?_)
  refine bb_ne (tgt := 21) hx hb dX7_needEntry_8 (by decide) (fun h8 => ?_) (fun h8 => (show False from (by rw [decide_eq_false_iff_not] at h8; exact h8 q2)).elim)
  exact te_v hC hG hr hk rfl dX7_needEntry_21
theorem k_T_needEntry {p : Program} {l : Launch} {e : Env} {R : Room} {s : State} {m : MethodId} {args : Array Value} {below : List Frame} {meth : Method} {c : Code} {H : Heap} {locs : List Loc} {cs ss : Nat} {Q : State → Prop} {cc : ByteArray} {nL pc : Nat} {ls : Array Slot} {rest : List Value} {own : String} {idx : Nat} {D : va_G} {κ : ClassId × ClassId × ClassId} {a : Nat → Nat} {u : TS} {A : Nat → Prop} (hC : CallFix p m c cc nL s args WALL own) (hG : GW D κ a u A s H locs) (en : Nat) (q1 : OK u) (q2 : en < J_count u) (wl : Cond.methodLink own idx yX7_needEntry ∈ WALL) (hR : 1 + 1 ≤ R.frames ∧ 8 + (2 + 11) + 21 ≤ R.locals) (hls : ls.size = nL) (h8 : (rest.map fun v => v.category).sum ≤ 8) (hd : decode cc pc = .ok (.invokevirtual idx, 3)) (hcs : cs ≤ R.cells ∧ ss ≤ R.slots) (kk : ∀ (H1 : Heap) (locs1 : List Loc), GW D κ a u A s H1 locs1 → W p l e R s m args below meth c H1 locs1 cs ss Q (F0 m (pc + 3) ls (rest))) : W p l e R s m args below meth c H locs cs ss Q (F0 m pc ls (.int (nI en) :: .ref (a 0) :: rest)) :=
  tc_v hG (tr_V (n := 1) (k := 0) (ci := 7) (As := [.int (nI en)]) hC hG (c_T_needEntry l D κ a H.size u en q1 q2) rfl rfl wl w2 w263 w261 w262 (by decide +kernel) hR rfl hls rfl h8 hd hcs) (fun u' H1 locs1 hq hG1 => by subst hq; exact kk H1 locs1 hG1)

theorem dX7_needDay_0 : decode cX7_needDay 0 = .ok (.iload_n 0, 1) := by decide +kernel
theorem dX7_needDay_1 : decode cX7_needDay 1 = .ok (.ifCond .lt 10, 3) := by decide +kernel
theorem dX7_needDay_21 : decode cX7_needDay 21 = .ok (.return_, 1) := by decide +kernel
theorem dX7_needDay_4 : decode cX7_needDay 4 = .ok (.iload_n 0, 1) := by decide +kernel
theorem dX7_needDay_5 : decode cX7_needDay 5 = .ok (.sipush 364, 3) := by decide +kernel
theorem dX7_needDay_8 : decode cX7_needDay 8 = .ok (.if_icmp .le 13, 3) := by decide +kernel
set_option maxHeartbeats 4000000 in
set_option maxRecDepth 100000 in
theorem c_S_needDay (l : Launch) (D : va_G) (κ : ClassId × ClassId × ClassId) (a : Nat → Nat) (sz : Nat) (u : TS) (d : Nat) (q1 : d ≤ 364) : TM l yX7_needDay cX7_needDay 1 none 0 0 D κ a u sz [.int (nI d)] (QV D κ a sz (fun u' => u' = u)) := by
  refine TM.of (by decide +kernel) (Nat.le_of_ble_eq_true rfl) ?_
  intro p e s m below meth c ls hC hr hk hsz H locs hG hl
  have hx := hC.1
  have hb := hC.2.1
  have hl : lv_has ls 1 [(0, .int (nI d))] := hl
  refine lv_iload_n hx hb dX7_needDay_0 rfl (lv_at hl 0 rfl) ?_
  refine bz_lt_f (tgt := 11) hx hb (by omega) dX7_needDay_1 (by decide) ?_
  refine lv_iload_n hx hb dX7_needDay_4 rfl (lv_at hl 0 rfl) ?_
  refine lv_sipush (v := nI 364) hx hb dX7_needDay_5 (by decide) ?_
  refine bn_le_t (tgt := 21) hx hb (by omega) (by omega) dX7_needDay_8 (by decide) (q1) ?_
  exact te_v hC hG hr hk rfl dX7_needDay_21
theorem k_S_needDay {p : Program} {l : Launch} {e : Env} {R : Room} {s : State} {m : MethodId} {args : Array Value} {below : List Frame} {meth : Method} {c : Code} {H : Heap} {locs : List Loc} {cs ss : Nat} {Q : State → Prop} {cc : ByteArray} {nL pc : Nat} {ls : Array Slot} {rest : List Value} {own : String} {idx : Nat} {D : va_G} {κ : ClassId × ClassId × ClassId} {a : Nat → Nat} {u : TS} {A : Nat → Prop} (hC : CallFix p m c cc nL s args WALL own) (hG : GW D κ a u A s H locs) (d : Nat) (q1 : d ≤ 364) (wl : Cond.methodLink own idx yX7_needDay ∈ WALL) (hR : 0 + 1 ≤ R.frames ∧ 8 + (1 + 11) + 0 ≤ R.locals) (hls : ls.size = nL) (h8 : (rest.map fun v => v.category).sum ≤ 8) (hd : decode cc pc = .ok (.invokestatic idx, 3)) (hcs : cs ≤ R.cells ∧ ss ≤ R.slots) (kk : ∀ (H1 : Heap) (locs1 : List Loc), GW D κ a u A s H1 locs1 → W p l e R s m args below meth c H1 locs1 cs ss Q (F0 m (pc + 3) ls (rest))) : W p l e R s m args below meth c H locs cs ss Q (F0 m pc ls (.int (nI d) :: rest)) :=
  tc_v hG (tr_S (n := 1) (As := [.int (nI d)]) hC hG (c_S_needDay l D κ a H.size u d q1) wl w2 w189 w188 (by decide +kernel) hR rfl hls rfl h8 hd hcs) (fun u' H1 locs1 hq hG1 => by subst hq; exact kk H1 locs1 hG1)

theorem dX7_needDaysAway_0 : decode cX7_needDaysAway 0 = .ok (.iload_n 0, 1) := by decide +kernel
theorem dX7_needDaysAway_1 : decode cX7_needDaysAway 1 = .ok (.ifCond .lt 9, 3) := by decide +kernel
theorem dX7_needDaysAway_21 : decode cX7_needDaysAway 21 = .ok (.return_, 1) := by decide +kernel
theorem dX7_needDaysAway_4 : decode cX7_needDaysAway 4 = .ok (.iload_n 0, 1) := by decide +kernel
theorem dX7_needDaysAway_5 : decode cX7_needDaysAway 5 = .ok (.bipush 30, 2) := by decide +kernel
theorem dX7_needDaysAway_7 : decode cX7_needDaysAway 7 = .ok (.if_icmp .le 14, 3) := by decide +kernel
set_option maxHeartbeats 4000000 in
set_option maxRecDepth 100000 in
theorem c_S_needDaysAway (l : Launch) (D : va_G) (κ : ClassId × ClassId × ClassId) (a : Nat → Nat) (sz : Nat) (u : TS) (d : Nat) (q1 : d ≤ 30) : TM l yX7_needDaysAway cX7_needDaysAway 1 none 0 0 D κ a u sz [.int (nI d)] (QV D κ a sz (fun u' => u' = u)) := by
  refine TM.of (by decide +kernel) (Nat.le_of_ble_eq_true rfl) ?_
  intro p e s m below meth c ls hC hr hk hsz H locs hG hl
  have hx := hC.1
  have hb := hC.2.1
  have hl : lv_has ls 1 [(0, .int (nI d))] := hl
  refine lv_iload_n hx hb dX7_needDaysAway_0 rfl (lv_at hl 0 rfl) ?_
  refine bz_lt_f (tgt := 10) hx hb (by omega) dX7_needDaysAway_1 (by decide) ?_
  refine lv_iload_n hx hb dX7_needDaysAway_4 rfl (lv_at hl 0 rfl) ?_
  refine lv_bipush (v := nI 30) hx hb dX7_needDaysAway_5 (by decide) ?_
  refine bn_le_t (tgt := 21) hx hb (by omega) (by omega) dX7_needDaysAway_7 (by decide) (q1) ?_
  exact te_v hC hG hr hk rfl dX7_needDaysAway_21
theorem k_S_needDaysAway {p : Program} {l : Launch} {e : Env} {R : Room} {s : State} {m : MethodId} {args : Array Value} {below : List Frame} {meth : Method} {c : Code} {H : Heap} {locs : List Loc} {cs ss : Nat} {Q : State → Prop} {cc : ByteArray} {nL pc : Nat} {ls : Array Slot} {rest : List Value} {own : String} {idx : Nat} {D : va_G} {κ : ClassId × ClassId × ClassId} {a : Nat → Nat} {u : TS} {A : Nat → Prop} (hC : CallFix p m c cc nL s args WALL own) (hG : GW D κ a u A s H locs) (d : Nat) (q1 : d ≤ 30) (wl : Cond.methodLink own idx yX7_needDaysAway ∈ WALL) (hR : 0 + 1 ≤ R.frames ∧ 8 + (1 + 11) + 0 ≤ R.locals) (hls : ls.size = nL) (h8 : (rest.map fun v => v.category).sum ≤ 8) (hd : decode cc pc = .ok (.invokestatic idx, 3)) (hcs : cs ≤ R.cells ∧ ss ≤ R.slots) (kk : ∀ (H1 : Heap) (locs1 : List Loc), GW D κ a u A s H1 locs1 → W p l e R s m args below meth c H1 locs1 cs ss Q (F0 m (pc + 3) ls (rest))) : W p l e R s m args below meth c H locs cs ss Q (F0 m pc ls (.int (nI d) :: rest)) :=
  tc_v hG (tr_S (n := 1) (As := [.int (nI d)]) hC hG (c_S_needDaysAway l D κ a H.size u d q1) wl w2 w315 w314 (by decide +kernel) hR rfl hls rfl h8 hd hcs) (fun u' H1 locs1 hq hG1 => by subst hq; exact kk H1 locs1 hG1)

theorem dX7_needAmount_0 : decode cX7_needAmount 0 = .ok (.iload_n 0, 1) := by decide +kernel
theorem dX7_needAmount_1 : decode cX7_needAmount 1 = .ok (.ifCond .eq 16, 3) := by decide +kernel
theorem dX7_needAmount_11 : decode cX7_needAmount 11 = .ok (.iload_n 0, 1) := by decide +kernel
theorem dX7_needAmount_12 : decode cX7_needAmount 12 = .ok (.ldc 242, 2) := by decide +kernel
theorem dX7_needAmount_14 : decode cX7_needAmount 14 = .ok (.if_icmp .le 14, 3) := by decide +kernel
theorem dX7_needAmount_28 : decode cX7_needAmount 28 = .ok (.return_, 1) := by decide +kernel
theorem dX7_needAmount_4 : decode cX7_needAmount 4 = .ok (.iload_n 0, 1) := by decide +kernel
theorem dX7_needAmount_5 : decode cX7_needAmount 5 = .ok (.ldc_w 414, 3) := by decide +kernel
theorem dX7_needAmount_8 : decode cX7_needAmount 8 = .ok (.if_icmp .lt 9, 3) := by decide +kernel
set_option maxHeartbeats 4000000 in
set_option maxRecDepth 100000 in
theorem c_S_needAmount (l : Launch) (D : va_G) (κ : ClassId × ClassId × ClassId) (a : Nat → Nat) (sz : Nat) (u : TS) (x : Int32) (q1 : ¬ x = 0) (q2 : ¬ x < -1000000) (q3 : x ≤ nI 1000000) : TM l yX7_needAmount cX7_needAmount 1 none 0 0 D κ a u sz [.int x] (QV D κ a sz (fun u' => u' = u)) := by
  refine TM.of (by decide +kernel) (Nat.le_of_ble_eq_true rfl) ?_
  intro p e s m below meth c ls hC hr hk hsz H locs hG hl
  have hx := hC.1
  have hb := hC.2.1
  have hl : lv_has ls 1 [(0, .int x)] := hl
  refine lv_iload_n hx hb dX7_needAmount_0 rfl (lv_at hl 0 rfl) ?_
  refine lv_if_eq (tgt := 17) hx hb dX7_needAmount_1 (by decide) (fun h1 => absurd h1 (q1)) (fun h1 => ?_)
  refine lv_iload_n hx hb dX7_needAmount_4 rfl (lv_at hl 0 rfl) ?_
  refine lv_ldcw hx hb hC.2.2.2.1 (hC.2.2.2.2 _ w299) dX7_needAmount_5 ?_
  refine lv_icmp_lt (tgt := 17) hx hb dX7_needAmount_8 (by decide) (fun h8 => absurd h8 (q2)) (fun h8 => ?_)
  refine lv_iload_n hx hb dX7_needAmount_11 rfl (lv_at hl 0 rfl) ?_
  refine lv_ldc hx hb hC.2.2.2.1 (hC.2.2.2.2 _ w300) dX7_needAmount_12 ?_
  refine W.eq (g2 := F0 m 14 ls [.int (nI 1000000), .int x]) rfl ?_
  refine lv_icmp_le (tgt := 28) hx hb dX7_needAmount_14 (by decide) (fun h14 => ?_) (fun h14 => absurd (q3) h14)
  exact te_v hC hG hr hk rfl dX7_needAmount_28
theorem k_S_needAmount {p : Program} {l : Launch} {e : Env} {R : Room} {s : State} {m : MethodId} {args : Array Value} {below : List Frame} {meth : Method} {c : Code} {H : Heap} {locs : List Loc} {cs ss : Nat} {Q : State → Prop} {cc : ByteArray} {nL pc : Nat} {ls : Array Slot} {rest : List Value} {own : String} {idx : Nat} {D : va_G} {κ : ClassId × ClassId × ClassId} {a : Nat → Nat} {u : TS} {A : Nat → Prop} (hC : CallFix p m c cc nL s args WALL own) (hG : GW D κ a u A s H locs) (x : Int32) (q1 : ¬ x = 0) (q2 : ¬ x < -1000000) (q3 : x ≤ nI 1000000) (wl : Cond.methodLink own idx yX7_needAmount ∈ WALL) (hR : 0 + 1 ≤ R.frames ∧ 8 + (1 + 11) + 0 ≤ R.locals) (hls : ls.size = nL) (h8 : (rest.map fun v => v.category).sum ≤ 8) (hd : decode cc pc = .ok (.invokestatic idx, 3)) (hcs : cs ≤ R.cells ∧ ss ≤ R.slots) (kk : ∀ (H1 : Heap) (locs1 : List Loc), GW D κ a u A s H1 locs1 → W p l e R s m args below meth c H1 locs1 cs ss Q (F0 m (pc + 3) ls (rest))) : W p l e R s m args below meth c H locs cs ss Q (F0 m pc ls (.int x :: rest)) :=
  tc_v hG (tr_S (n := 1) (As := [.int x]) hC hG (c_S_needAmount l D κ a H.size u x q1 q2 q3) wl w2 w298 w297 (by decide +kernel) hR rfl hls rfl h8 hd hcs) (fun u' H1 locs1 hq hG1 => by subst hq; exact kk H1 locs1 hG1)

theorem dX7_mix_0 : decode cX7_mix 0 = .ok (.lload_n 0, 1) := by decide +kernel
theorem dX7_mix_1 : decode cX7_mix 1 = .ok (.ldc2_w 390, 3) := by decide +kernel
theorem dX7_mix_4 : decode cX7_mix 4 = .ok (.lmul, 1) := by decide +kernel
theorem dX7_mix_5 : decode cX7_mix 5 = .ok (.lload_n 2, 1) := by decide +kernel
theorem dX7_mix_6 : decode cX7_mix 6 = .ok (.ladd, 1) := by decide +kernel
theorem dX7_mix_7 : decode cX7_mix 7 = .ok (.lreturn, 1) := by decide +kernel
set_option maxHeartbeats 4000000 in
set_option maxRecDepth 100000 in
theorem c_S_mix (l : Launch) (D : va_G) (κ : ClassId × ClassId × ClassId) (a : Nat → Nat) (sz : Nat) (u : TS) (d : Int64) (x : Int64)  : TM l yX7_mix cX7_mix 4 (some .long) 0 0 D κ a u sz [.long d, .long x] (QL D κ a sz (fun r u' => r = (d * 31 + x) ∧ u' = u)) := by
  refine TM.of (by decide +kernel) (Nat.le_of_ble_eq_true rfl) ?_
  intro p e s m below meth c ls hC hr hk hsz H locs hG hl
  have hx := hC.1
  have hb := hC.2.1
  have hl : lv_has ls 4 [(0, .long d), (2, .long x)] := hl
  refine lv_lload_n hx hb dX7_mix_0 rfl (lv_at hl 0 rfl) ?_
  refine lv_ldc2 hx hb hC.2.2.2.1 (hC.2.2.2.2 _ w480) dX7_mix_1 ?_
  refine lv_lmul hx hb dX7_mix_4 ?_
  refine lv_lload_n hx hb dX7_mix_5 rfl (lv_at hl 1 rfl) ?_
  refine lv_ladd hx hb dX7_mix_6 ?_
  exact te_l hC hG hr hk ⟨(show ((d * (31 : Int64)) + x) = d * 31 + x from by rfl), rfl⟩ dX7_mix_7
theorem k_S_mix {p : Program} {l : Launch} {e : Env} {R : Room} {s : State} {m : MethodId} {args : Array Value} {below : List Frame} {meth : Method} {c : Code} {H : Heap} {locs : List Loc} {cs ss : Nat} {Q : State → Prop} {cc : ByteArray} {nL pc : Nat} {ls : Array Slot} {rest : List Value} {own : String} {idx : Nat} {D : va_G} {κ : ClassId × ClassId × ClassId} {a : Nat → Nat} {u : TS} {A : Nat → Prop} (hC : CallFix p m c cc nL s args WALL own) (hG : GW D κ a u A s H locs) (d : Int64) (x : Int64)  (wl : Cond.methodLink own idx yX7_mix ∈ WALL) (hR : 0 + 1 ≤ R.frames ∧ 8 + (4 + 11) + 0 ≤ R.locals) (hls : ls.size = nL) (h8 : (rest.map fun v => v.category).sum ≤ 8) (hd : decode cc pc = .ok (.invokestatic idx, 3)) (hcs : cs ≤ R.cells ∧ ss ≤ R.slots) (kk : ∀ (H1 : Heap) (locs1 : List Loc), GW D κ a u A s H1 locs1 → W p l e R s m args below meth c H1 locs1 cs ss Q (F0 m (pc + 3) ls (.long (d * 31 + x) :: rest))) : W p l e R s m args below meth c H locs cs ss Q (F0 m pc ls (.long x :: .long d :: rest)) :=
  tc_l hG (tr_S (n := 2) (As := [.long d, .long x]) hC hG (c_S_mix l D κ a H.size u d x ) wl w2 w479 w478 (by decide +kernel) hR rfl hls rfl h8 hd hcs) (fun r u' H1 locs1 hq hG1 => by obtain ⟨rfl, rfl⟩ := hq; exact kk H1 locs1 hG1)

theorem dX7_rate_0 : decode cX7_rate 0 = .ok (.iload_n 1, 1) := by decide +kernel
theorem dX7_rate_1 : decode cX7_rate 1 = .ok (.iconst 1, 1) := by decide +kernel
theorem dX7_rate_10 : decode cX7_rate 10 = .ok (.iload_n 2, 1) := by decide +kernel
theorem dX7_rate_11 : decode cX7_rate 11 = .ok (.iconst 1, 1) := by decide +kernel
theorem dX7_rate_12 : decode cX7_rate 12 = .ok (.if_icmp .lt 9, 3) := by decide +kernel
theorem dX7_rate_15 : decode cX7_rate 15 = .ok (.iload_n 2, 1) := by decide +kernel
theorem dX7_rate_16 : decode cX7_rate 16 = .ok (.ldc 70, 2) := by decide +kernel
theorem dX7_rate_18 : decode cX7_rate 18 = .ok (.if_icmp .le 13, 3) := by decide +kernel
theorem dX7_rate_2 : decode cX7_rate 2 = .ok (.if_icmp .lt 19, 3) := by decide +kernel
theorem dX7_rate_31 : decode cX7_rate 31 = .ok (.aload_n 0, 1) := by decide +kernel
theorem dX7_rate_32 : decode cX7_rate 32 = .ok (.getfield 12, 3) := by decide +kernel
theorem dX7_rate_35 : decode cX7_rate 35 = .ok (.iload_n 1, 1) := by decide +kernel
theorem dX7_rate_36 : decode cX7_rate 36 = .ok (.invokevirtual 78, 3) := by decide +kernel
theorem dX7_rate_39 : decode cX7_rate 39 = .ok (.ifCond .eq 13, 3) := by decide +kernel
theorem dX7_rate_5 : decode cX7_rate 5 = .ok (.iload_n 1, 1) := by decide +kernel
theorem dX7_rate_52 : decode cX7_rate 52 = .ok (.aload_n 0, 1) := by decide +kernel
theorem dX7_rate_53 : decode cX7_rate 53 = .ok (.getfield 12, 3) := by decide +kernel
theorem dX7_rate_56 : decode cX7_rate 56 = .ok (.getfield 87, 3) := by decide +kernel
theorem dX7_rate_59 : decode cX7_rate 59 = .ok (.iload_n 1, 1) := by decide +kernel
theorem dX7_rate_6 : decode cX7_rate 6 = .ok (.iconst 3, 1) := by decide +kernel
theorem dX7_rate_60 : decode cX7_rate 60 = .ok (.iaload, 1) := by decide +kernel
theorem dX7_rate_61 : decode cX7_rate 61 = .ok (.istore_n 3, 1) := by decide +kernel
theorem dX7_rate_62 : decode cX7_rate 62 = .ok (.aload_n 0, 1) := by decide +kernel
theorem dX7_rate_63 : decode cX7_rate 63 = .ok (.getfield 12, 3) := by decide +kernel
theorem dX7_rate_66 : decode cX7_rate 66 = .ok (.getfield 87, 3) := by decide +kernel
theorem dX7_rate_69 : decode cX7_rate 69 = .ok (.iload_n 1, 1) := by decide +kernel
theorem dX7_rate_7 : decode cX7_rate 7 = .ok (.if_icmp .gt 14, 3) := by decide +kernel
theorem dX7_rate_70 : decode cX7_rate 70 = .ok (.iload_n 2, 1) := by decide +kernel
theorem dX7_rate_71 : decode cX7_rate 71 = .ok (.iastore, 1) := by decide +kernel
theorem dX7_rate_72 : decode cX7_rate 72 = .ok (.iload_n 3, 1) := by decide +kernel
theorem dX7_rate_73 : decode cX7_rate 73 = .ok (.ireturn, 1) := by decide +kernel
set_option maxHeartbeats 4000000 in
set_option maxRecDepth 100000 in
theorem c_T_rate (l : Launch) (D : va_G) (κ : ClassId × ClassId × ClassId) (a : Nat → Nat) (sz : Nat) (u : TS) (cu : Nat) (rt : Nat) (q1 : OK u) (q2 : AC_count u = 0) (q3 : 1 ≤ cu ∧ cu ≤ 3) (q4 : 1 ≤ rt ∧ rt ≤ 100000) : TM l yX7_rate cX7_rate 4 (some .int) 1 22 D κ a u sz [.ref (a 0), .int (nI cu), .int (nI rt)] (QI D κ a sz (fun r u' => r = (AC_rates u cu) ∧ u' = sAI u 0 cu (nI rt))) := by
  refine TM.of (by decide +kernel) (Nat.le_of_ble_eq_true rfl) ?_
  intro p e s m below meth c ls hC hr hk hsz H locs hG hl
  have hx := hC.1
  have hb := hC.2.1
  have hl : lv_has ls 4 [(0, .ref (a 0)), (1, .int (nI cu)), (2, .int (nI rt))] := hl
  have qok := q1
  have ⟨n1, n2, n3, n4, n5, n6, n7, n8, n9, n10⟩ := qok.n
  refine lv_iload_n hx hb dX7_rate_0 rfl (lv_at hl 1 rfl) ?_
  refine lv_iconst (v := nI 1) hx hb dX7_rate_1 (by decide) ?_
  refine bn_lt_f (tgt := 21) hx hb (by omega) (by omega) dX7_rate_2 (by decide) (by omega) ?_
  refine lv_iload_n hx hb dX7_rate_5 rfl (lv_at hl 1 rfl) ?_
  refine lv_iconst (v := nI 3) hx hb dX7_rate_6 (by decide) ?_
  refine bn_gt_f (tgt := 21) hx hb (by omega) (by omega) dX7_rate_7 (by decide) (by omega) ?_
  refine lv_iload_n hx hb dX7_rate_10 rfl (lv_at hl 2 rfl) ?_
  refine lv_iconst (v := nI 1) hx hb dX7_rate_11 (by decide) ?_
  refine bn_lt_f (tgt := 21) hx hb (by omega) (by omega) dX7_rate_12 (by decide) (by omega) ?_
  refine lv_iload_n hx hb dX7_rate_15 rfl (lv_at hl 2 rfl) ?_
  refine lv_ldc hx hb hC.2.2.2.1 (hC.2.2.2.2 _ w128) dX7_rate_16 ?_
  refine W.eq (g2 := F0 m 18 ls [.int (nI 100000), .int (nI rt)]) rfl ?_
  refine bn_le_t (tgt := 31) hx hb (by omega) (by omega) dX7_rate_18 (by decide) (by omega) ?_
  refine lv_aload_n hx hb dX7_rate_31 rfl (lv_at hl 0 rfl) ?_
  refine gf_T_accounts hC hG (hC.2.2.2.2 _ w16) dX7_rate_32 ?_
  refine lv_iload_n hx hb dX7_rate_35 rfl (lv_at hl 1 rfl) ?_
  refine k_AC_anyIn hC hG cu (q2) w130 ⟨by decide, by decide⟩ hl.1 (Nat.le_of_ble_eq_true rfl) dX7_rate_36 ⟨Nat.zero_le _, Nat.zero_le _⟩ (fun H locs hG => ?_)
  refine bb_eq (tgt := 52) hx hb dX7_rate_39 (by decide) (fun h39 => ?_) (fun h39 => (show False from (Bool.false_ne_true h39)).elim)
  refine lv_aload_n hx hb dX7_rate_52 rfl (lv_at hl 0 rfl) ?_
  refine gf_T_accounts hC hG (hC.2.2.2.2 _ w16) dX7_rate_53 ?_
  refine gf_AC_rates hC hG (hC.2.2.2.2 _ w129) dX7_rate_56 ?_
  refine lv_iload_n hx hb dX7_rate_59 rfl (lv_at hl 1 rfl) ?_
  refine al_AC_rates hC hG (by omega) dX7_rate_60 ?_
  refine lv_istore_n (lv' := [(3, .int (AC_rates u cu)), (0, .ref (a 0)), (1, .int (nI cu)), (2, .int (nI rt))]) hx hb dX7_rate_61 rfl hl (by decide) rfl (fun ls hl => ?_)
  refine lv_aload_n hx hb dX7_rate_62 rfl (lv_at hl 1 rfl) ?_
  refine gf_T_accounts hC hG (hC.2.2.2.2 _ w16) dX7_rate_63 ?_
  refine gf_AC_rates hC hG (hC.2.2.2.2 _ w129) dX7_rate_66 ?_
  refine lv_iload_n hx hb dX7_rate_69 rfl (lv_at hl 2 rfl) ?_
  refine lv_iload_n hx hb dX7_rate_70 rfl (lv_at hl 3 rfl) ?_
  refine W.eq (g2 := F0 m 71 ls [.int (nI rt), .int (nI cu), .ref (a 10)]) rfl ?_
  refine as_AC_rates hC hG (by omega) dX7_rate_71 (fun H locs hG => ?_)
  refine lv_iload_n hx hb dX7_rate_72 rfl (lv_at hl 0 rfl) ?_
  exact te_i (v := (AC_rates u cu)) hC hG hr hk ⟨rfl, rfl⟩ dX7_rate_73
theorem k_T_rate {p : Program} {l : Launch} {e : Env} {R : Room} {s : State} {m : MethodId} {args : Array Value} {below : List Frame} {meth : Method} {c : Code} {H : Heap} {locs : List Loc} {cs ss : Nat} {Q : State → Prop} {cc : ByteArray} {nL pc : Nat} {ls : Array Slot} {rest : List Value} {own : String} {idx : Nat} {D : va_G} {κ : ClassId × ClassId × ClassId} {a : Nat → Nat} {u : TS} {A : Nat → Prop} (hC : CallFix p m c cc nL s args WALL own) (hG : GW D κ a u A s H locs) (cu : Nat) (rt : Nat) (q1 : OK u) (q2 : AC_count u = 0) (q3 : 1 ≤ cu ∧ cu ≤ 3) (q4 : 1 ≤ rt ∧ rt ≤ 100000) (wl : Cond.methodLink own idx yX7_rate ∈ WALL) (hR : 1 + 1 ≤ R.frames ∧ 8 + (4 + 11) + 22 ≤ R.locals) (hls : ls.size = nL) (h8 : (rest.map fun v => v.category).sum ≤ 8) (hd : decode cc pc = .ok (.invokevirtual idx, 3)) (hcs : cs ≤ R.cells ∧ ss ≤ R.slots) (kk : ∀ (H1 : Heap) (locs1 : List Loc), GW D κ a (sAI u 0 cu (nI rt)) A s H1 locs1 → W p l e R s m args below meth c H1 locs1 cs ss Q (F0 m (pc + 3) ls (.int (AC_rates u cu) :: rest))) : W p l e R s m args below meth c H locs cs ss Q (F0 m pc ls (.int (nI rt) :: .int (nI cu) :: .ref (a 0) :: rest)) :=
  tc_i hG (tr_V (n := 2) (k := 0) (ci := 7) (As := [.int (nI cu), .int (nI rt)]) hC hG (c_T_rate l D κ a H.size u cu rt q1 q2 q3 q4) rfl rfl wl w2 w123 w121 w122 (by decide +kernel) hR rfl hls rfl h8 hd hcs) (fun r u' H1 locs1 hq hG1 => by obtain ⟨rfl, rfl⟩ := hq; exact kk H1 locs1 hG1)

theorem dX7_account_0 : decode cX7_account 0 = .ok (.iload_n 1, 1) := by decide +kernel
theorem dX7_account_1 : decode cX7_account 1 = .ok (.ifCond .lt 17, 3) := by decide +kernel
theorem dX7_account_10 : decode cX7_account 10 = .ok (.ifCond .lt 8, 3) := by decide +kernel
theorem dX7_account_13 : decode cX7_account 13 = .ok (.iload_n 2, 1) := by decide +kernel
theorem dX7_account_14 : decode cX7_account 14 = .ok (.iconst 3, 1) := by decide +kernel
theorem dX7_account_15 : decode cX7_account 15 = .ok (.if_icmp .le 13, 3) := by decide +kernel
theorem dX7_account_28 : decode cX7_account 28 = .ok (.aload_n 0, 1) := by decide +kernel
theorem dX7_account_29 : decode cX7_account 29 = .ok (.getfield 12, 3) := by decide +kernel
theorem dX7_account_32 : decode cX7_account 32 = .ok (.getfield 93, 3) := by decide +kernel
theorem dX7_account_35 : decode cX7_account 35 = .ok (.bipush 10, 2) := by decide +kernel
theorem dX7_account_37 : decode cX7_account 37 = .ok (.if_icmp .lt 13, 3) := by decide +kernel
theorem dX7_account_4 : decode cX7_account 4 = .ok (.iload_n 1, 1) := by decide +kernel
theorem dX7_account_5 : decode cX7_account 5 = .ok (.iconst 4, 1) := by decide +kernel
theorem dX7_account_50 : decode cX7_account 50 = .ok (.aload_n 0, 1) := by decide +kernel
theorem dX7_account_51 : decode cX7_account 51 = .ok (.getfield 12, 3) := by decide +kernel
theorem dX7_account_54 : decode cX7_account 54 = .ok (.iload_n 1, 1) := by decide +kernel
theorem dX7_account_55 : decode cX7_account 55 = .ok (.iload_n 2, 1) := by decide +kernel
theorem dX7_account_56 : decode cX7_account 56 = .ok (.invokevirtual 98, 3) := by decide +kernel
theorem dX7_account_59 : decode cX7_account 59 = .ok (.ireturn, 1) := by decide +kernel
theorem dX7_account_6 : decode cX7_account 6 = .ok (.if_icmp .gt 12, 3) := by decide +kernel
theorem dX7_account_9 : decode cX7_account 9 = .ok (.iload_n 2, 1) := by decide +kernel
set_option maxHeartbeats 4000000 in
set_option maxRecDepth 100000 in
theorem c_T_account (l : Launch) (D : va_G) (κ : ClassId × ClassId × ClassId) (a : Nat → Nat) (sz : Nat) (u : TS) (kd : Nat) (cu : Nat) (q1 : OK u) (q2 : AC_count u < 10) (q3 : kd < 5) (q4 : cu < 4) : TM l yX7_account cX7_account 3 (some .int) 1 22 D κ a u sz [.ref (a 0), .int (nI kd), .int (nI cu)] (QI D κ a sz (fun r u' => r = (nI (AC_count u)) ∧ u' = fAccAdd u kd cu)) := by
  refine TM.of (by decide +kernel) (Nat.le_of_ble_eq_true rfl) ?_
  intro p e s m below meth c ls hC hr hk hsz H locs hG hl
  have hx := hC.1
  have hb := hC.2.1
  have hl : lv_has ls 3 [(0, .ref (a 0)), (1, .int (nI kd)), (2, .int (nI cu))] := hl
  have qok := q1
  have ⟨n1, n2, n3, n4, n5, n6, n7, n8, n9, n10⟩ := qok.n
  refine lv_iload_n hx hb dX7_account_0 rfl (lv_at hl 1 rfl) ?_
  refine bz_lt_f (tgt := 18) hx hb (by omega) dX7_account_1 (by decide) ?_
  refine lv_iload_n hx hb dX7_account_4 rfl (lv_at hl 1 rfl) ?_
  refine lv_iconst (v := nI 4) hx hb dX7_account_5 (by decide) ?_
  refine bn_gt_f (tgt := 18) hx hb (by omega) (by omega) dX7_account_6 (by decide) (by omega) ?_
  refine lv_iload_n hx hb dX7_account_9 rfl (lv_at hl 2 rfl) ?_
  refine bz_lt_f (tgt := 18) hx hb (by omega) dX7_account_10 (by decide) ?_
  refine lv_iload_n hx hb dX7_account_13 rfl (lv_at hl 2 rfl) ?_
  refine lv_iconst (v := nI 3) hx hb dX7_account_14 (by decide) ?_
  refine bn_le_t (tgt := 28) hx hb (by omega) (by omega) dX7_account_15 (by decide) (by omega) ?_
  refine lv_aload_n hx hb dX7_account_28 rfl (lv_at hl 0 rfl) ?_
  refine gf_T_accounts hC hG (hC.2.2.2.2 _ w16) dX7_account_29 ?_
  refine gf_AC_count hC hG (hC.2.2.2.2 _ w138) dX7_account_32 ?_
  refine lv_bipush (v := nI 10) hx hb dX7_account_35 (by decide) ?_
  refine bn_lt_t (tgt := 50) hx hb (by omega) (by omega) dX7_account_37 (by decide) (by omega) ?_
  refine lv_aload_n hx hb dX7_account_50 rfl (lv_at hl 0 rfl) ?_
  refine gf_T_accounts hC hG (hC.2.2.2.2 _ w16) dX7_account_51 ?_
  refine lv_iload_n hx hb dX7_account_54 rfl (lv_at hl 1 rfl) ?_
  refine lv_iload_n hx hb dX7_account_55 rfl (lv_at hl 2 rfl) ?_
  refine k_AC_add hC hG kd cu (q2) w139 ⟨by decide, by decide⟩ hl.1 (Nat.le_of_ble_eq_true rfl) dX7_account_56 ⟨Nat.zero_le _, Nat.zero_le _⟩ (fun H locs hG => ?_)
  exact te_i (v := (nI (AC_count u))) hC hG hr hk ⟨rfl, rfl⟩ dX7_account_59
theorem k_T_account {p : Program} {l : Launch} {e : Env} {R : Room} {s : State} {m : MethodId} {args : Array Value} {below : List Frame} {meth : Method} {c : Code} {H : Heap} {locs : List Loc} {cs ss : Nat} {Q : State → Prop} {cc : ByteArray} {nL pc : Nat} {ls : Array Slot} {rest : List Value} {own : String} {idx : Nat} {D : va_G} {κ : ClassId × ClassId × ClassId} {a : Nat → Nat} {u : TS} {A : Nat → Prop} (hC : CallFix p m c cc nL s args WALL own) (hG : GW D κ a u A s H locs) (kd : Nat) (cu : Nat) (q1 : OK u) (q2 : AC_count u < 10) (q3 : kd < 5) (q4 : cu < 4) (wl : Cond.methodLink own idx yX7_account ∈ WALL) (hR : 1 + 1 ≤ R.frames ∧ 8 + (3 + 11) + 22 ≤ R.locals) (hls : ls.size = nL) (h8 : (rest.map fun v => v.category).sum ≤ 8) (hd : decode cc pc = .ok (.invokevirtual idx, 3)) (hcs : cs ≤ R.cells ∧ ss ≤ R.slots) (kk : ∀ (H1 : Heap) (locs1 : List Loc), GW D κ a (fAccAdd u kd cu) A s H1 locs1 → W p l e R s m args below meth c H1 locs1 cs ss Q (F0 m (pc + 3) ls (.int (nI (AC_count u)) :: rest))) : W p l e R s m args below meth c H locs cs ss Q (F0 m pc ls (.int (nI cu) :: .int (nI kd) :: .ref (a 0) :: rest)) :=
  tc_i hG (tr_V (n := 2) (k := 0) (ci := 7) (As := [.int (nI kd), .int (nI cu)]) hC hG (c_T_account l D κ a H.size u kd cu q1 q2 q3 q4) rfl rfl wl w2 w137 w135 w136 (by decide +kernel) hR rfl hls rfl h8 hd hcs) (fun r u' H1 locs1 hq hG1 => by obtain ⟨rfl, rfl⟩ := hq; exact kk H1 locs1 hG1)

theorem dX7_exchange_0 : decode cX7_exchange 0 = .ok (.aload_n 0, 1) := by decide +kernel
theorem dX7_exchange_1 : decode cX7_exchange 1 = .ok (.iload_n 1, 1) := by decide +kernel
theorem dX7_exchange_12 : decode cX7_exchange 12 = .ok (.iload_n 1, 1) := by decide +kernel
theorem dX7_exchange_13 : decode cX7_exchange 13 = .ok (.iaload, 1) := by decide +kernel
theorem dX7_exchange_14 : decode cX7_exchange 14 = .ok (.ifCond .eq 13, 3) := by decide +kernel
theorem dX7_exchange_2 : decode cX7_exchange 2 = .ok (.invokevirtual 102, 3) := by decide +kernel
theorem dX7_exchange_27 : decode cX7_exchange 27 = .ok (.aload_n 0, 1) := by decide +kernel
theorem dX7_exchange_28 : decode cX7_exchange 28 = .ok (.getfield 63, 3) := by decide +kernel
theorem dX7_exchange_31 : decode cX7_exchange 31 = .ok (.istore_n 2, 1) := by decide +kernel
theorem dX7_exchange_32 : decode cX7_exchange 32 = .ok (.aload_n 0, 1) := by decide +kernel
theorem dX7_exchange_33 : decode cX7_exchange 33 = .ok (.iload_n 1, 1) := by decide +kernel
theorem dX7_exchange_34 : decode cX7_exchange 34 = .ok (.putfield 63, 3) := by decide +kernel
theorem dX7_exchange_37 : decode cX7_exchange 37 = .ok (.iload_n 2, 1) := by decide +kernel
theorem dX7_exchange_38 : decode cX7_exchange 38 = .ok (.ireturn, 1) := by decide +kernel
theorem dX7_exchange_5 : decode cX7_exchange 5 = .ok (.aload_n 0, 1) := by decide +kernel
theorem dX7_exchange_6 : decode cX7_exchange 6 = .ok (.getfield 12, 3) := by decide +kernel
theorem dX7_exchange_9 : decode cX7_exchange 9 = .ok (.getfield 126, 3) := by decide +kernel
set_option maxHeartbeats 4000000 in
set_option maxRecDepth 100000 in
theorem c_T_exchange (l : Launch) (D : va_G) (κ : ClassId × ClassId × ClassId) (a : Nat → Nat) (sz : Nat) (u : TS) (k : Nat) (q1 : OK u) (q2 : k < AC_count u) (q3 : AC_currency u k = 0) : TM l yX7_exchange cX7_exchange 3 (some .int) 1 21 D κ a u sz [.ref (a 0), .int (nI k)] (QI D κ a sz (fun r u' => r = (oI (T_exchangeAccount u)) ∧ u' = sO u 0 (some k))) := by
  refine TM.of (by decide +kernel) (Nat.le_of_ble_eq_true rfl) ?_
  intro p e s m below meth c ls hC hr hk hsz H locs hG hl
  have hx := hC.1
  have hb := hC.2.1
  have hl : lv_has ls 3 [(0, .ref (a 0)), (1, .int (nI k))] := hl
  have qok := q1
  have ⟨n1, n2, n3, n4, n5, n6, n7, n8, n9, n10⟩ := qok.n
  refine lv_aload_n hx hb dX7_exchange_0 rfl (lv_at hl 0 rfl) ?_
  refine lv_iload_n hx hb dX7_exchange_1 rfl (lv_at hl 1 rfl) ?_
  refine k_T_needAccount hC hG k (q1) (q2) w148 ⟨by decide, by decide⟩ hl.1 (Nat.le_of_ble_eq_true rfl) dX7_exchange_2 ⟨Nat.zero_le _, Nat.zero_le _⟩ (fun H locs hG => ?_)
  refine lv_aload_n hx hb dX7_exchange_5 rfl (lv_at hl 0 rfl) ?_
  refine gf_T_accounts hC hG (hC.2.2.2.2 _ w16) dX7_exchange_6 ?_
  refine gf_AC_currency hC hG (hC.2.2.2.2 _ w147) dX7_exchange_9 ?_
  refine lv_iload_n hx hb dX7_exchange_12 rfl (lv_at hl 1 rfl) ?_
  refine al_AC_currency hC hG (by omega) dX7_exchange_13 ?_
  refine bz_eq (tgt := 27) hx hb (by omega) dX7_exchange_14 (by decide) (fun h14 => ?_) (fun h14 => (show False from (h14 q3)).elim)
  refine lv_aload_n hx hb dX7_exchange_27 rfl (lv_at hl 0 rfl) ?_
  refine gf_T_exchangeAccount hC hG (hC.2.2.2.2 _ w42) dX7_exchange_28 ?_
  refine lv_istore_n (lv' := [(2, .int (oI (T_exchangeAccount u))), (0, .ref (a 0)), (1, .int (nI k))]) hx hb dX7_exchange_31 rfl hl (by decide) rfl (fun ls hl => ?_)
  refine lv_aload_n hx hb dX7_exchange_32 rfl (lv_at hl 1 rfl) ?_
  refine lv_iload_n hx hb dX7_exchange_33 rfl (lv_at hl 2 rfl) ?_
  refine W.eq (g2 := F0 m 34 ls [.int (oI (some k)), .ref (a 0)]) rfl ?_
  refine pf_T_exchangeAccount hC hG (hC.2.2.2.2 _ w42) dX7_exchange_34 (fun H locs hG => ?_)
  refine lv_iload_n hx hb dX7_exchange_37 rfl (lv_at hl 0 rfl) ?_
  exact te_i (v := (oI (T_exchangeAccount u))) hC hG hr hk ⟨rfl, rfl⟩ dX7_exchange_38
theorem k_T_exchange {p : Program} {l : Launch} {e : Env} {R : Room} {s : State} {m : MethodId} {args : Array Value} {below : List Frame} {meth : Method} {c : Code} {H : Heap} {locs : List Loc} {cs ss : Nat} {Q : State → Prop} {cc : ByteArray} {nL pc : Nat} {ls : Array Slot} {rest : List Value} {own : String} {idx : Nat} {D : va_G} {κ : ClassId × ClassId × ClassId} {a : Nat → Nat} {u : TS} {A : Nat → Prop} (hC : CallFix p m c cc nL s args WALL own) (hG : GW D κ a u A s H locs) (k : Nat) (q1 : OK u) (q2 : k < AC_count u) (q3 : AC_currency u k = 0) (wl : Cond.methodLink own idx yX7_exchange ∈ WALL) (hR : 1 + 1 ≤ R.frames ∧ 8 + (3 + 11) + 21 ≤ R.locals) (hls : ls.size = nL) (h8 : (rest.map fun v => v.category).sum ≤ 8) (hd : decode cc pc = .ok (.invokevirtual idx, 3)) (hcs : cs ≤ R.cells ∧ ss ≤ R.slots) (kk : ∀ (H1 : Heap) (locs1 : List Loc), GW D κ a (sO u 0 (some k)) A s H1 locs1 → W p l e R s m args below meth c H1 locs1 cs ss Q (F0 m (pc + 3) ls (.int (oI (T_exchangeAccount u)) :: rest))) : W p l e R s m args below meth c H locs cs ss Q (F0 m pc ls (.int (nI k) :: .ref (a 0) :: rest)) :=
  tc_i hG (tr_V (n := 1) (k := 0) (ci := 7) (As := [.int (nI k)]) hC hG (c_T_exchange l D κ a H.size u k q1 q2 q3) rfl rfl wl w2 w146 w144 w145 (by decide +kernel) hR rfl hls rfl h8 hd hcs) (fun r u' H1 locs1 hq hG1 => by obtain ⟨rfl, rfl⟩ := hq; exact kk H1 locs1 hG1)

theorem dX7_pass_0 : decode cX7_pass 0 = .ok (.iload_n 1, 1) := by decide +kernel
theorem dX7_pass_1 : decode cX7_pass 1 = .ok (.ifCond .lt 15, 3) := by decide +kernel
theorem dX7_pass_12 : decode cX7_pass 12 = .ok (.isub, 1) := by decide +kernel
theorem dX7_pass_13 : decode cX7_pass 13 = .ok (.if_icmp .le 13, 3) := by decide +kernel
theorem dX7_pass_26 : decode cX7_pass 26 = .ok (.aload_n 0, 1) := by decide +kernel
theorem dX7_pass_27 : decode cX7_pass 27 = .ok (.dup, 1) := by decide +kernel
theorem dX7_pass_28 : decode cX7_pass 28 = .ok (.getfield 67, 3) := by decide +kernel
theorem dX7_pass_31 : decode cX7_pass 31 = .ok (.iload_n 1, 1) := by decide +kernel
theorem dX7_pass_32 : decode cX7_pass 32 = .ok (.iadd, 1) := by decide +kernel
theorem dX7_pass_33 : decode cX7_pass 33 = .ok (.putfield 67, 3) := by decide +kernel
theorem dX7_pass_36 : decode cX7_pass 36 = .ok (.aload_n 0, 1) := by decide +kernel
theorem dX7_pass_37 : decode cX7_pass 37 = .ok (.getfield 67, 3) := by decide +kernel
theorem dX7_pass_4 : decode cX7_pass 4 = .ok (.iload_n 1, 1) := by decide +kernel
theorem dX7_pass_40 : decode cX7_pass 40 = .ok (.ireturn, 1) := by decide +kernel
theorem dX7_pass_5 : decode cX7_pass 5 = .ok (.sipush 364, 3) := by decide +kernel
theorem dX7_pass_8 : decode cX7_pass 8 = .ok (.aload_n 0, 1) := by decide +kernel
theorem dX7_pass_9 : decode cX7_pass 9 = .ok (.getfield 67, 3) := by decide +kernel
set_option maxHeartbeats 4000000 in
set_option maxRecDepth 100000 in
theorem c_T_pass (l : Launch) (D : va_G) (κ : ClassId × ClassId × ClassId) (a : Nat → Nat) (sz : Nat) (u : TS) (d : Nat) (q1 : OK u) (q2 : d ≤ 364 - T_today u) : TM l yX7_pass cX7_pass 2 (some .int) 0 0 D κ a u sz [.ref (a 0), .int (nI d)] (QI D κ a sz (fun r u' => r = (nI (T_today u + d)) ∧ u' = sN u 0 (T_today u + d))) := by
  refine TM.of (by decide +kernel) (Nat.le_of_ble_eq_true rfl) ?_
  intro p e s m below meth c ls hC hr hk hsz H locs hG hl
  have hx := hC.1
  have hb := hC.2.1
  have hl : lv_has ls 2 [(0, .ref (a 0)), (1, .int (nI d))] := hl
  have qok := q1
  have ⟨n1, n2, n3, n4, n5, n6, n7, n8, n9, n10⟩ := qok.n
  refine lv_iload_n hx hb dX7_pass_0 rfl (lv_at hl 1 rfl) ?_
  refine bz_lt_f (tgt := 16) hx hb (by omega) dX7_pass_1 (by decide) ?_
  refine lv_iload_n hx hb dX7_pass_4 rfl (lv_at hl 1 rfl) ?_
  refine lv_sipush (v := nI 364) hx hb dX7_pass_5 (by decide) ?_
  refine lv_aload_n hx hb dX7_pass_8 rfl (lv_at hl 0 rfl) ?_
  refine gf_T_today hC hG (hC.2.2.2.2 _ w43) dX7_pass_9 ?_
  refine ar_isub hx hb (by omega) dX7_pass_12 ?_
  refine bn_le_t (tgt := 26) hx hb (by omega) (by omega) dX7_pass_13 (by decide) (q2) ?_
  refine lv_aload_n hx hb dX7_pass_26 rfl (lv_at hl 0 rfl) ?_
  refine lv_dup hx hb dX7_pass_27 rfl ?_
  refine gf_T_today hC hG (hC.2.2.2.2 _ w43) dX7_pass_28 ?_
  refine lv_iload_n hx hb dX7_pass_31 rfl (lv_at hl 1 rfl) ?_
  refine ar_iadd hx hb dX7_pass_32 ?_
  refine pf_T_today hC hG (hC.2.2.2.2 _ w43) dX7_pass_33 (fun H locs hG => ?_)
  refine lv_aload_n hx hb dX7_pass_36 rfl (lv_at hl 0 rfl) ?_
  refine gf_T_today hC hG (hC.2.2.2.2 _ w43) dX7_pass_37 ?_
  refine W.eq (g2 := F0 m 40 ls [.int (nI ((T_today u) + d))]) rfl ?_
  exact te_i (v := (nI ((T_today u) + d))) hC hG hr hk ⟨(congrArg nI (show ((T_today u) + d) = T_today u + d from by rfl)), (by rfl)⟩ dX7_pass_40
theorem k_T_pass {p : Program} {l : Launch} {e : Env} {R : Room} {s : State} {m : MethodId} {args : Array Value} {below : List Frame} {meth : Method} {c : Code} {H : Heap} {locs : List Loc} {cs ss : Nat} {Q : State → Prop} {cc : ByteArray} {nL pc : Nat} {ls : Array Slot} {rest : List Value} {own : String} {idx : Nat} {D : va_G} {κ : ClassId × ClassId × ClassId} {a : Nat → Nat} {u : TS} {A : Nat → Prop} (hC : CallFix p m c cc nL s args WALL own) (hG : GW D κ a u A s H locs) (d : Nat) (q1 : OK u) (q2 : d ≤ 364 - T_today u) (wl : Cond.methodLink own idx yX7_pass ∈ WALL) (hR : 0 + 1 ≤ R.frames ∧ 8 + (2 + 11) + 0 ≤ R.locals) (hls : ls.size = nL) (h8 : (rest.map fun v => v.category).sum ≤ 8) (hd : decode cc pc = .ok (.invokevirtual idx, 3)) (hcs : cs ≤ R.cells ∧ ss ≤ R.slots) (kk : ∀ (H1 : Heap) (locs1 : List Loc), GW D κ a (sN u 0 (T_today u + d)) A s H1 locs1 → W p l e R s m args below meth c H1 locs1 cs ss Q (F0 m (pc + 3) ls (.int (nI (T_today u + d)) :: rest))) : W p l e R s m args below meth c H locs cs ss Q (F0 m pc ls (.int (nI d) :: .ref (a 0) :: rest)) :=
  tc_i hG (tr_V (n := 1) (k := 0) (ci := 7) (As := [.int (nI d)]) hC hG (c_T_pass l D κ a H.size u d q1 q2) rfl rfl wl w2 w157 w155 w156 (by decide +kernel) hR rfl hls rfl h8 hd hcs) (fun r u' H1 locs1 hq hG1 => by obtain ⟨rfl, rfl⟩ := hq; exact kk H1 locs1 hG1)

theorem dX7_draft_0 : decode cX7_draft 0 = .ok (.iload_n 1, 1) := by decide +kernel
theorem dX7_draft_1 : decode cX7_draft 1 = .ok (.invokestatic 133, 3) := by decide +kernel
theorem dX7_draft_12 : decode cX7_draft 12 = .ok (.if_icmp .le 13, 3) := by decide +kernel
theorem dX7_draft_25 : decode cX7_draft 25 = .ok (.aload_n 0, 1) := by decide +kernel
theorem dX7_draft_26 : decode cX7_draft 26 = .ok (.getfield 19, 3) := by decide +kernel
theorem dX7_draft_29 : decode cX7_draft 29 = .ok (.getfield 138, 3) := by decide +kernel
theorem dX7_draft_32 : decode cX7_draft 32 = .ok (.getfield 141, 3) := by decide +kernel
theorem dX7_draft_35 : decode cX7_draft 35 = .ok (.istore_n 3, 1) := by decide +kernel
theorem dX7_draft_36 : decode cX7_draft 36 = .ok (.aload_n 0, 1) := by decide +kernel
theorem dX7_draft_37 : decode cX7_draft 37 = .ok (.getfield 19, 3) := by decide +kernel
theorem dX7_draft_4 : decode cX7_draft 4 = .ok (.iload_n 2, 1) := by decide +kernel
theorem dX7_draft_40 : decode cX7_draft 40 = .ok (.iload_n 1, 1) := by decide +kernel
theorem dX7_draft_41 : decode cX7_draft 41 = .ok (.iload_n 2, 1) := by decide +kernel
theorem dX7_draft_42 : decode cX7_draft 42 = .ok (.invokevirtual 142, 3) := by decide +kernel
theorem dX7_draft_45 : decode cX7_draft 45 = .ok (.iload_n 3, 1) := by decide +kernel
theorem dX7_draft_46 : decode cX7_draft 46 = .ok (.ireturn, 1) := by decide +kernel
theorem dX7_draft_5 : decode cX7_draft 5 = .ok (.ifCond .lt 10, 3) := by decide +kernel
theorem dX7_draft_8 : decode cX7_draft 8 = .ok (.iload_n 2, 1) := by decide +kernel
theorem dX7_draft_9 : decode cX7_draft 9 = .ok (.sipush 999, 3) := by decide +kernel
set_option maxHeartbeats 4000000 in
set_option maxRecDepth 100000 in
theorem c_T_draft (l : Launch) (D : va_G) (κ : ClassId × ClassId × ClassId) (a : Nat → Nat) (sz : Nat) (u : TS) (d : Nat) (nt : Nat) (q1 : OK u) (q2 : d ≤ 364) (q3 : nt ≤ 999) : TM l yX7_draft cX7_draft 4 (some .int) 1 22 D κ a u sz [.ref (a 0), .int (nI d), .int (nI nt)] (QI D κ a sz (fun r u' => r = (nI (L0_count u)) ∧ u' = fBegin u d nt)) := by
  refine TM.of (by decide +kernel) (Nat.le_of_ble_eq_true rfl) ?_
  intro p e s m below meth c ls hC hr hk hsz H locs hG hl
  have hx := hC.1
  have hb := hC.2.1
  have hl : lv_has ls 4 [(0, .ref (a 0)), (1, .int (nI d)), (2, .int (nI nt))] := hl
  have qok := q1
  have ⟨n1, n2, n3, n4, n5, n6, n7, n8, n9, n10⟩ := qok.n
  refine lv_iload_n hx hb dX7_draft_0 rfl (lv_at hl 1 rfl) ?_
  refine k_S_needDay hC hG d (q2) w187 ⟨by decide, by decide⟩ hl.1 (Nat.le_of_ble_eq_true rfl) dX7_draft_1 ⟨Nat.zero_le _, Nat.zero_le _⟩ (fun H locs hG => ?_)
  refine lv_iload_n hx hb dX7_draft_4 rfl (lv_at hl 2 rfl) ?_
  refine bz_lt_f (tgt := 15) hx hb (by omega) dX7_draft_5 (by decide) ?_
  refine lv_iload_n hx hb dX7_draft_8 rfl (lv_at hl 2 rfl) ?_
  refine lv_sipush (v := nI 999) hx hb dX7_draft_9 (by decide) ?_
  refine bn_le_t (tgt := 25) hx hb (by omega) (by omega) dX7_draft_12 (by decide) (by omega) ?_
  refine lv_aload_n hx hb dX7_draft_25 rfl (lv_at hl 0 rfl) ?_
  refine gf_T_draft hC hG (hC.2.2.2.2 _ w20) dX7_draft_26 ?_
  refine gf_DR_legs hC hG (hC.2.2.2.2 _ w399) dX7_draft_29 ?_
  refine gf_L0_count hC hG (hC.2.2.2.2 _ w194) dX7_draft_32 ?_
  refine lv_istore_n (lv' := [(3, .int (nI (L0_count u))), (0, .ref (a 0)), (1, .int (nI d)), (2, .int (nI nt))]) hx hb dX7_draft_35 rfl hl (by decide) rfl (fun ls hl => ?_)
  refine lv_aload_n hx hb dX7_draft_36 rfl (lv_at hl 1 rfl) ?_
  refine gf_T_draft hC hG (hC.2.2.2.2 _ w20) dX7_draft_37 ?_
  refine lv_iload_n hx hb dX7_draft_40 rfl (lv_at hl 2 rfl) ?_
  refine lv_iload_n hx hb dX7_draft_41 rfl (lv_at hl 3 rfl) ?_
  refine k_DR_begin hC hG d nt  w400 ⟨by decide, by decide⟩ hl.1 (Nat.le_of_ble_eq_true rfl) dX7_draft_42 ⟨Nat.zero_le _, Nat.zero_le _⟩ (fun H locs hG => ?_)
  refine lv_iload_n hx hb dX7_draft_45 rfl (lv_at hl 0 rfl) ?_
  exact te_i (v := (nI (L0_count u))) hC hG hr hk ⟨rfl, rfl⟩ dX7_draft_46
theorem k_T_draft {p : Program} {l : Launch} {e : Env} {R : Room} {s : State} {m : MethodId} {args : Array Value} {below : List Frame} {meth : Method} {c : Code} {H : Heap} {locs : List Loc} {cs ss : Nat} {Q : State → Prop} {cc : ByteArray} {nL pc : Nat} {ls : Array Slot} {rest : List Value} {own : String} {idx : Nat} {D : va_G} {κ : ClassId × ClassId × ClassId} {a : Nat → Nat} {u : TS} {A : Nat → Prop} (hC : CallFix p m c cc nL s args WALL own) (hG : GW D κ a u A s H locs) (d : Nat) (nt : Nat) (q1 : OK u) (q2 : d ≤ 364) (q3 : nt ≤ 999) (wl : Cond.methodLink own idx yX7_draft ∈ WALL) (hR : 1 + 1 ≤ R.frames ∧ 8 + (4 + 11) + 22 ≤ R.locals) (hls : ls.size = nL) (h8 : (rest.map fun v => v.category).sum ≤ 8) (hd : decode cc pc = .ok (.invokevirtual idx, 3)) (hcs : cs ≤ R.cells ∧ ss ≤ R.slots) (kk : ∀ (H1 : Heap) (locs1 : List Loc), GW D κ a (fBegin u d nt) A s H1 locs1 → W p l e R s m args below meth c H1 locs1 cs ss Q (F0 m (pc + 3) ls (.int (nI (L0_count u)) :: rest))) : W p l e R s m args below meth c H locs cs ss Q (F0 m pc ls (.int (nI nt) :: .int (nI d) :: .ref (a 0) :: rest)) :=
  tc_i hG (tr_V (n := 2) (k := 0) (ci := 7) (As := [.int (nI d), .int (nI nt)]) hC hG (c_T_draft l D κ a H.size u d nt q1 q2 q3) rfl rfl wl w2 w398 w396 w397 (by decide +kernel) hR rfl hls rfl h8 hd hcs) (fun r u' H1 locs1 hq hG1 => by obtain ⟨rfl, rfl⟩ := hq; exact kk H1 locs1 hG1)

theorem dX7_leg_0 : decode cX7_leg 0 = .ok (.aload_n 0, 1) := by decide +kernel
theorem dX7_leg_1 : decode cX7_leg 1 = .ok (.iload_n 1, 1) := by decide +kernel
theorem dX7_leg_10 : decode cX7_leg 10 = .ok (.getfield 19, 3) := by decide +kernel
theorem dX7_leg_13 : decode cX7_leg 13 = .ok (.getfield 149, 3) := by decide +kernel
theorem dX7_leg_16 : decode cX7_leg 16 = .ok (.ifCond .eq 18, 3) := by decide +kernel
theorem dX7_leg_19 : decode cX7_leg 19 = .ok (.aload_n 0, 1) := by decide +kernel
theorem dX7_leg_2 : decode cX7_leg 2 = .ok (.invokevirtual 102, 3) := by decide +kernel
theorem dX7_leg_20 : decode cX7_leg 20 = .ok (.getfield 19, 3) := by decide +kernel
theorem dX7_leg_23 : decode cX7_leg 23 = .ok (.getfield 138, 3) := by decide +kernel
theorem dX7_leg_26 : decode cX7_leg 26 = .ok (.getfield 141, 3) := by decide +kernel
theorem dX7_leg_29 : decode cX7_leg 29 = .ok (.bipush 6, 2) := by decide +kernel
theorem dX7_leg_31 : decode cX7_leg 31 = .ok (.if_icmp .lt 13, 3) := by decide +kernel
theorem dX7_leg_44 : decode cX7_leg 44 = .ok (.aload_n 0, 1) := by decide +kernel
theorem dX7_leg_45 : decode cX7_leg 45 = .ok (.getfield 19, 3) := by decide +kernel
theorem dX7_leg_48 : decode cX7_leg 48 = .ok (.getfield 138, 3) := by decide +kernel
theorem dX7_leg_5 : decode cX7_leg 5 = .ok (.iload_n 2, 1) := by decide +kernel
theorem dX7_leg_51 : decode cX7_leg 51 = .ok (.iload_n 1, 1) := by decide +kernel
theorem dX7_leg_52 : decode cX7_leg 52 = .ok (.iload_n 2, 1) := by decide +kernel
theorem dX7_leg_53 : decode cX7_leg 53 = .ok (.i2l, 1) := by decide +kernel
theorem dX7_leg_54 : decode cX7_leg 54 = .ok (.aload_n 0, 1) := by decide +kernel
theorem dX7_leg_55 : decode cX7_leg 55 = .ok (.getfield 12, 3) := by decide +kernel
theorem dX7_leg_58 : decode cX7_leg 58 = .ok (.iload_n 1, 1) := by decide +kernel
theorem dX7_leg_59 : decode cX7_leg 59 = .ok (.iload_n 2, 1) := by decide +kernel
theorem dX7_leg_6 : decode cX7_leg 6 = .ok (.invokestatic 146, 3) := by decide +kernel
theorem dX7_leg_60 : decode cX7_leg 60 = .ok (.i2l, 1) := by decide +kernel
theorem dX7_leg_61 : decode cX7_leg 61 = .ok (.invokevirtual 155, 3) := by decide +kernel
theorem dX7_leg_64 : decode cX7_leg 64 = .ok (.invokevirtual 159, 3) := by decide +kernel
theorem dX7_leg_67 : decode cX7_leg 67 = .ok (.aload_n 0, 1) := by decide +kernel
theorem dX7_leg_68 : decode cX7_leg 68 = .ok (.getfield 19, 3) := by decide +kernel
theorem dX7_leg_71 : decode cX7_leg 71 = .ok (.getfield 138, 3) := by decide +kernel
theorem dX7_leg_74 : decode cX7_leg 74 = .ok (.invokevirtual 162, 3) := by decide +kernel
theorem dX7_leg_77 : decode cX7_leg 77 = .ok (.lreturn, 1) := by decide +kernel
theorem dX7_leg_9 : decode cX7_leg 9 = .ok (.aload_n 0, 1) := by decide +kernel
set_option maxHeartbeats 4000000 in
set_option maxRecDepth 100000 in
theorem c_T_leg (l : Launch) (D : va_G) (κ : ClassId × ClassId × ClassId) (a : Nat → Nat) (sz : Nat) (u : TS) (k : Nat) (x : Int32) (q1 : OK u) (q2 : k < AC_count u) (q3 : ¬ x = 0) (q4 : ¬ x < -1000000) (q5 : x ≤ nI 1000000) (q6 : DR_isThere u = true) (q7 : L0_count u < 6) : TM l yX7_leg cX7_leg 3 (some .long) 1 27 D κ a u sz [.ref (a 0), .int (nI k), .int x] (QL D κ a sz (fun r u' => r = (fSum (L0_worth (fRow 0 u k x.toInt64 (fWorth u k x.toInt64))) (L0_count (fRow 0 u k x.toInt64 (fWorth u k x.toInt64)))) ∧ u' = fRow 0 u k x.toInt64 (fWorth u k x.toInt64))) := by
  refine TM.of (by decide +kernel) (Nat.le_of_ble_eq_true rfl) ?_
  intro p e s m below meth c ls hC hr hk hsz H locs hG hl
  have hx := hC.1
  have hb := hC.2.1
  have hl : lv_has ls 3 [(0, .ref (a 0)), (1, .int (nI k)), (2, .int x)] := hl
  have qok := q1
  have ⟨n1, n2, n3, n4, n5, n6, n7, n8, n9, n10⟩ := qok.n
  refine lv_aload_n hx hb dX7_leg_0 rfl (lv_at hl 0 rfl) ?_
  refine lv_iload_n hx hb dX7_leg_1 rfl (lv_at hl 1 rfl) ?_
  refine k_T_needAccount hC hG k (q1) (q2) w148 ⟨by decide, by decide⟩ hl.1 (Nat.le_of_ble_eq_true rfl) dX7_leg_2 ⟨Nat.zero_le _, Nat.zero_le _⟩ (fun H locs hG => ?_)
  refine lv_iload_n hx hb dX7_leg_5 rfl (lv_at hl 2 rfl) ?_
  refine k_S_needAmount hC hG x (q3) (q4) (q5) w296 ⟨by decide, by decide⟩ hl.1 (Nat.le_of_ble_eq_true rfl) dX7_leg_6 ⟨Nat.zero_le _, Nat.zero_le _⟩ (fun H locs hG => ?_)
  refine lv_aload_n hx hb dX7_leg_9 rfl (lv_at hl 0 rfl) ?_
  refine gf_T_draft hC hG (hC.2.2.2.2 _ w20) dX7_leg_10 ?_
  refine gf_DR_isThere hC hG (hC.2.2.2.2 _ w409) dX7_leg_13 ?_
  refine bb_eq (tgt := 34) hx hb dX7_leg_16 (by decide) (fun h16 => (show False from (Bool.false_ne_true (h16.symm.trans q6))).elim) (fun h16 => ?_)
  refine lv_aload_n hx hb dX7_leg_19 rfl (lv_at hl 0 rfl) ?_
  refine gf_T_draft hC hG (hC.2.2.2.2 _ w20) dX7_leg_20 ?_
  refine gf_DR_legs hC hG (hC.2.2.2.2 _ w399) dX7_leg_23 ?_
  refine gf_L0_count hC hG (hC.2.2.2.2 _ w194) dX7_leg_26 ?_
  refine lv_bipush (v := nI 6) hx hb dX7_leg_29 (by decide) ?_
  refine bn_lt_t (tgt := 44) hx hb (by omega) (by omega) dX7_leg_31 (by decide) (q7) ?_
  refine lv_aload_n hx hb dX7_leg_44 rfl (lv_at hl 0 rfl) ?_
  refine gf_T_draft hC hG (hC.2.2.2.2 _ w20) dX7_leg_45 ?_
  refine gf_DR_legs hC hG (hC.2.2.2.2 _ w399) dX7_leg_48 ?_
  refine lv_iload_n hx hb dX7_leg_51 rfl (lv_at hl 1 rfl) ?_
  refine lv_iload_n hx hb dX7_leg_52 rfl (lv_at hl 2 rfl) ?_
  refine lv_i2l hx hb dX7_leg_53 rfl ?_
  refine lv_aload_n hx hb dX7_leg_54 rfl (lv_at hl 0 rfl) ?_
  refine gf_T_accounts hC hG (hC.2.2.2.2 _ w16) dX7_leg_55 ?_
  refine lv_iload_n hx hb dX7_leg_58 rfl (lv_at hl 1 rfl) ?_
  refine lv_iload_n hx hb dX7_leg_59 rfl (lv_at hl 2 rfl) ?_
  refine lv_i2l hx hb dX7_leg_60 rfl ?_
  refine k_AC_worth hC hG k (x.toInt64) (q2) (q1) w215 ⟨by decide, by decide⟩ hl.1 (Nat.le_of_ble_eq_true rfl) dX7_leg_61 ⟨Nat.zero_le _, Nat.zero_le _⟩ (fun H locs hG => ?_)
  refine k_L0_add hC hG k (x.toInt64) (fWorth u k (x.toInt64)) (by omega) w222 ⟨by decide, by decide⟩ hl.1 (Nat.le_of_ble_eq_true rfl) dX7_leg_64 ⟨Nat.zero_le _, Nat.zero_le _⟩ (fun H locs hG => ?_)
  refine lv_aload_n hx hb dX7_leg_67 rfl (lv_at hl 0 rfl) ?_
  refine gf_T_draft hC hG (hC.2.2.2.2 _ w20) dX7_leg_68 ?_
  refine gf_DR_legs hC hG (hC.2.2.2.2 _ w399) dX7_leg_71 ?_
  refine k_L0_worthSum hC hG  (by show L0_count u + 1 ≤ 10; omega) w226 ⟨by decide, by decide⟩ hl.1 (Nat.le_of_ble_eq_true rfl) dX7_leg_74 ⟨Nat.zero_le _, Nat.zero_le _⟩ (fun H locs hG => ?_)
  exact te_l hC hG hr hk ⟨(show (fSum (L0_worth (fRow 0 u k (x.toInt64) (fWorth u k (x.toInt64)))) (L0_count (fRow 0 u k (x.toInt64) (fWorth u k (x.toInt64))))) = fSum (L0_worth (fRow 0 u k x.toInt64 (fWorth u k x.toInt64))) (L0_count (fRow 0 u k x.toInt64 (fWorth u k x.toInt64))) from by rfl), (by rfl)⟩ dX7_leg_77
theorem k_T_leg {p : Program} {l : Launch} {e : Env} {R : Room} {s : State} {m : MethodId} {args : Array Value} {below : List Frame} {meth : Method} {c : Code} {H : Heap} {locs : List Loc} {cs ss : Nat} {Q : State → Prop} {cc : ByteArray} {nL pc : Nat} {ls : Array Slot} {rest : List Value} {own : String} {idx : Nat} {D : va_G} {κ : ClassId × ClassId × ClassId} {a : Nat → Nat} {u : TS} {A : Nat → Prop} (hC : CallFix p m c cc nL s args WALL own) (hG : GW D κ a u A s H locs) (k : Nat) (x : Int32) (q1 : OK u) (q2 : k < AC_count u) (q3 : ¬ x = 0) (q4 : ¬ x < -1000000) (q5 : x ≤ nI 1000000) (q6 : DR_isThere u = true) (q7 : L0_count u < 6) (wl : Cond.methodLink own idx yX7_leg ∈ WALL) (hR : 1 + 1 ≤ R.frames ∧ 8 + (3 + 11) + 27 ≤ R.locals) (hls : ls.size = nL) (h8 : (rest.map fun v => v.category).sum ≤ 8) (hd : decode cc pc = .ok (.invokevirtual idx, 3)) (hcs : cs ≤ R.cells ∧ ss ≤ R.slots) (kk : ∀ (H1 : Heap) (locs1 : List Loc), GW D κ a (fRow 0 u k x.toInt64 (fWorth u k x.toInt64)) A s H1 locs1 → W p l e R s m args below meth c H1 locs1 cs ss Q (F0 m (pc + 3) ls (.long (fSum (L0_worth (fRow 0 u k x.toInt64 (fWorth u k x.toInt64))) (L0_count (fRow 0 u k x.toInt64 (fWorth u k x.toInt64)))) :: rest))) : W p l e R s m args below meth c H locs cs ss Q (F0 m pc ls (.int x :: .int (nI k) :: .ref (a 0) :: rest)) :=
  tc_l hG (tr_V (n := 2) (k := 0) (ci := 7) (As := [.int (nI k), .int x]) hC hG (c_T_leg l D κ a H.size u k x q1 q2 q3 q4 q5 q6 q7) rfl rfl wl w2 w408 w406 w407 (by decide +kernel) hR rfl hls rfl h8 hd hcs) (fun r u' H1 locs1 hq hG1 => by obtain ⟨rfl, rfl⟩ := hq; exact kk H1 locs1 hG1)

theorem dX7_ofEntry_0 : decode cX7_ofEntry 0 = .ok (.aload_n 0, 1) := by decide +kernel
theorem dX7_ofEntry_1 : decode cX7_ofEntry 1 = .ok (.iload_n 1, 1) := by decide +kernel
theorem dX7_ofEntry_2 : decode cX7_ofEntry 2 = .ok (.invokevirtual 212, 3) := by decide +kernel
theorem dX7_ofEntry_36 : decode cX7_ofEntry 36 = .ok (.aload_n 0, 1) := by decide +kernel
theorem dX7_ofEntry_37 : decode cX7_ofEntry 37 = .ok (.getfield 26, 3) := by decide +kernel
theorem dX7_ofEntry_40 : decode cX7_ofEntry 40 = .ok (.getfield 215, 3) := by decide +kernel
theorem dX7_ofEntry_43 : decode cX7_ofEntry 43 = .ok (.iload_n 1, 1) := by decide +kernel
theorem dX7_ofEntry_44 : decode cX7_ofEntry 44 = .ok (.iaload, 1) := by decide +kernel
theorem dX7_ofEntry_45 : decode cX7_ofEntry 45 = .ok (.ireturn, 1) := by decide +kernel
theorem dX7_ofEntry_46 : decode cX7_ofEntry 46 = .ok (.aload_n 0, 1) := by decide +kernel
theorem dX7_ofEntry_47 : decode cX7_ofEntry 47 = .ok (.getfield 26, 3) := by decide +kernel
theorem dX7_ofEntry_5 : decode cX7_ofEntry 5 = .ok (.iload_n 2, 1) := by decide +kernel
theorem dX7_ofEntry_50 : decode cX7_ofEntry 50 = .ok (.getfield 210, 3) := by decide +kernel
theorem dX7_ofEntry_53 : decode cX7_ofEntry 53 = .ok (.iload_n 1, 1) := by decide +kernel
theorem dX7_ofEntry_54 : decode cX7_ofEntry 54 = .ok (.iaload, 1) := by decide +kernel
theorem dX7_ofEntry_55 : decode cX7_ofEntry 55 = .ok (.ireturn, 1) := by decide +kernel
theorem dX7_ofEntry_56 : decode cX7_ofEntry 56 = .ok (.aload_n 0, 1) := by decide +kernel
theorem dX7_ofEntry_57 : decode cX7_ofEntry 57 = .ok (.getfield 26, 3) := by decide +kernel
theorem dX7_ofEntry_6 : decode cX7_ofEntry 6 = .ok (.tableswitch 78 0 3 #[30, 40, 50, 60], 30) := by decide +kernel
theorem dX7_ofEntry_60 : decode cX7_ofEntry 60 = .ok (.getfield 217, 3) := by decide +kernel
theorem dX7_ofEntry_63 : decode cX7_ofEntry 63 = .ok (.iload_n 1, 1) := by decide +kernel
theorem dX7_ofEntry_64 : decode cX7_ofEntry 64 = .ok (.iaload, 1) := by decide +kernel
theorem dX7_ofEntry_65 : decode cX7_ofEntry 65 = .ok (.ireturn, 1) := by decide +kernel
theorem dX7_ofEntry_66 : decode cX7_ofEntry 66 = .ok (.aload_n 0, 1) := by decide +kernel
theorem dX7_ofEntry_67 : decode cX7_ofEntry 67 = .ok (.getfield 26, 3) := by decide +kernel
theorem dX7_ofEntry_70 : decode cX7_ofEntry 70 = .ok (.getfield 191, 3) := by decide +kernel
theorem dX7_ofEntry_73 : decode cX7_ofEntry 73 = .ok (.iload_n 1, 1) := by decide +kernel
theorem dX7_ofEntry_74 : decode cX7_ofEntry 74 = .ok (.baload, 1) := by decide +kernel
theorem dX7_ofEntry_75 : decode cX7_ofEntry 75 = .ok (.ifCond .eq 7, 3) := by decide +kernel
theorem dX7_ofEntry_78 : decode cX7_ofEntry 78 = .ok (.iconst 1, 1) := by decide +kernel
theorem dX7_ofEntry_79 : decode cX7_ofEntry 79 = .ok (.goto 4, 3) := by decide +kernel
theorem dX7_ofEntry_82 : decode cX7_ofEntry 82 = .ok (.iconst 0, 1) := by decide +kernel
theorem dX7_ofEntry_83 : decode cX7_ofEntry 83 = .ok (.ireturn, 1) := by decide +kernel
set_option maxHeartbeats 4000000 in
set_option maxRecDepth 100000 in
theorem c_T_ofEntry (l : Launch) (D : va_G) (κ : ClassId × ClassId × ClassId) (a : Nat → Nat) (sz : Nat) (u : TS) (en : Nat) (w : Nat) (q1 : OK u) (q2 : en < J_count u) (q3 : w ≤ 3) : TM l yX7_ofEntry cX7_ofEntry 3 (some .int) 2 42 D κ a u sz [.ref (a 0), .int (nI en), .int (nI w)] (QI D κ a sz (fun r u' => r = (nI (fOfE u en w)) ∧ u' = u)) := by
  refine TM.of (by decide +kernel) (Nat.le_of_ble_eq_true rfl) ?_
  intro p e s m below meth c ls hC hr hk hsz H locs hG hl
  have hx := hC.1
  have hb := hC.2.1
  have hl : lv_has ls 3 [(0, .ref (a 0)), (1, .int (nI en)), (2, .int (nI w))] := hl
  have qok := q1
  have ⟨n1, n2, n3, n4, n5, n6, n7, n8, n9, n10⟩ := qok.n
  refine lv_aload_n hx hb dX7_ofEntry_0 rfl (lv_at hl 0 rfl) ?_
  refine lv_iload_n hx hb dX7_ofEntry_1 rfl (lv_at hl 1 rfl) ?_
  refine k_T_needEntry hC hG en (q1) (q2) w260 ⟨by decide, by decide⟩ hl.1 (Nat.le_of_ble_eq_true rfl) dX7_ofEntry_2 ⟨Nat.zero_le _, Nat.zero_le _⟩ (fun H locs hG => ?_)
  refine lv_iload_n hx hb dX7_ofEntry_5 rfl (lv_at hl 2 rfl) ?_
  rcases (show w = 0 ∨ w = 1 ∨ w = 2 ∨ w = 3 from by omega) with h6 | h6 | h6 | h6
  · refine bt_in (v := 0) (off := 30) (tgt := 36) h6 hx hb dX7_ofEntry_6 (by decide) (by decide) (by decide) (by decide) ?_
    refine lv_aload_n hx hb dX7_ofEntry_36 rfl (lv_at hl 0 rfl) ?_
    refine gf_T_journal hC hG (hC.2.2.2.2 _ w24) dX7_ofEntry_37 ?_
    refine gf_J_day hC hG (hC.2.2.2.2 _ w256) dX7_ofEntry_40 ?_
    refine lv_iload_n hx hb dX7_ofEntry_43 rfl (lv_at hl 1 rfl) ?_
    refine al_J_day hC hG (by omega) dX7_ofEntry_44 ?_
    exact te_i (v := (nI (J_day u en))) hC hG hr hk ⟨(congrArg nI (show (J_day u en) = fOfE u en w from by simp [fOfE, h6])), rfl⟩ dX7_ofEntry_45
  · refine bt_in (v := 1) (off := 40) (tgt := 46) h6 hx hb dX7_ofEntry_6 (by decide) (by decide) (by decide) (by decide) ?_
    refine lv_aload_n hx hb dX7_ofEntry_46 rfl (lv_at hl 0 rfl) ?_
    refine gf_T_journal hC hG (hC.2.2.2.2 _ w24) dX7_ofEntry_47 ?_
    refine gf_J_note hC hG (hC.2.2.2.2 _ w257) dX7_ofEntry_50 ?_
    refine lv_iload_n hx hb dX7_ofEntry_53 rfl (lv_at hl 1 rfl) ?_
    refine al_J_note hC hG (by omega) dX7_ofEntry_54 ?_
    exact te_i (v := (nI (J_note u en))) hC hG hr hk ⟨(congrArg nI (show (J_note u en) = fOfE u en w from by simp [fOfE, h6])), rfl⟩ dX7_ofEntry_55
  · refine bt_in (v := 2) (off := 50) (tgt := 56) h6 hx hb dX7_ofEntry_6 (by decide) (by decide) (by decide) (by decide) ?_
    refine lv_aload_n hx hb dX7_ofEntry_56 rfl (lv_at hl 0 rfl) ?_
    refine gf_T_journal hC hG (hC.2.2.2.2 _ w24) dX7_ofEntry_57 ?_
    refine gf_J_legsOf hC hG (hC.2.2.2.2 _ w258) dX7_ofEntry_60 ?_
    refine lv_iload_n hx hb dX7_ofEntry_63 rfl (lv_at hl 1 rfl) ?_
    refine al_J_legsOf hC hG (by omega) dX7_ofEntry_64 ?_
    exact te_i (v := (nI (J_legsOf u en))) hC hG hr hk ⟨(congrArg nI (show (J_legsOf u en) = fOfE u en w from by simp [fOfE, h6])), rfl⟩ dX7_ofEntry_65
  · refine bt_in (v := 3) (off := 60) (tgt := 66) h6 hx hb dX7_ofEntry_6 (by decide) (by decide) (by decide) (by decide) ?_
    refine lv_aload_n hx hb dX7_ofEntry_66 rfl (lv_at hl 0 rfl) ?_
    refine gf_T_journal hC hG (hC.2.2.2.2 _ w24) dX7_ofEntry_67 ?_
    refine gf_J_gone hC hG (hC.2.2.2.2 _ w259) dX7_ofEntry_70 ?_
    refine lv_iload_n hx hb dX7_ofEntry_73 rfl (lv_at hl 1 rfl) ?_
    refine al_J_gone hC hG (by omega) dX7_ofEntry_74 ?_
    refine bb_eq (tgt := 82) hx hb dX7_ofEntry_75 (by decide) (fun h75 => ?_) (fun h75 => ?_)
    · refine lv_iconst (v := nI 0) hx hb dX7_ofEntry_82 (by decide) ?_
      exact te_i (v := (nI 0)) hC hG hr hk ⟨(congrArg nI (show 0 = fOfE u en w from by simp [fOfE, h6, h75])), rfl⟩ dX7_ofEntry_83
    · refine lv_iconst (v := nI 1) hx hb dX7_ofEntry_78 (by decide) ?_
      refine lv_goto (tgt := 83) hx hb dX7_ofEntry_79 (by decide) ?_
      exact te_i (v := (nI 1)) hC hG hr hk ⟨(congrArg nI (show 1 = fOfE u en w from by simp [fOfE, h6, h75])), rfl⟩ dX7_ofEntry_83
theorem k_T_ofEntry {p : Program} {l : Launch} {e : Env} {R : Room} {s : State} {m : MethodId} {args : Array Value} {below : List Frame} {meth : Method} {c : Code} {H : Heap} {locs : List Loc} {cs ss : Nat} {Q : State → Prop} {cc : ByteArray} {nL pc : Nat} {ls : Array Slot} {rest : List Value} {own : String} {idx : Nat} {D : va_G} {κ : ClassId × ClassId × ClassId} {a : Nat → Nat} {u : TS} {A : Nat → Prop} (hC : CallFix p m c cc nL s args WALL own) (hG : GW D κ a u A s H locs) (en : Nat) (w : Nat) (q1 : OK u) (q2 : en < J_count u) (q3 : w ≤ 3) (wl : Cond.methodLink own idx yX7_ofEntry ∈ WALL) (hR : 2 + 1 ≤ R.frames ∧ 8 + (3 + 11) + 42 ≤ R.locals) (hls : ls.size = nL) (h8 : (rest.map fun v => v.category).sum ≤ 8) (hd : decode cc pc = .ok (.invokevirtual idx, 3)) (hcs : cs ≤ R.cells ∧ ss ≤ R.slots) (kk : ∀ (H1 : Heap) (locs1 : List Loc), GW D κ a u A s H1 locs1 → W p l e R s m args below meth c H1 locs1 cs ss Q (F0 m (pc + 3) ls (.int (nI (fOfE u en w)) :: rest))) : W p l e R s m args below meth c H locs cs ss Q (F0 m pc ls (.int (nI w) :: .int (nI en) :: .ref (a 0) :: rest)) :=
  tc_i hG (tr_V (n := 2) (k := 0) (ci := 7) (As := [.int (nI en), .int (nI w)]) hC hG (c_T_ofEntry l D κ a H.size u en w q1 q2 q3) rfl rfl wl w2 w255 w253 w254 (by decide +kernel) hR rfl hls rfl h8 hd hcs) (fun r u' H1 locs1 hq hG1 => by obtain ⟨rfl, rfl⟩ := hq; exact kk H1 locs1 hG1)

theorem dX7_ofLeg_0 : decode cX7_ofLeg 0 = .ok (.aload_n 0, 1) := by decide +kernel
theorem dX7_ofLeg_1 : decode cX7_ofLeg 1 = .ok (.iload_n 1, 1) := by decide +kernel
theorem dX7_ofLeg_10 : decode cX7_ofLeg 10 = .ok (.aload_n 0, 1) := by decide +kernel
theorem dX7_ofLeg_100 : decode cX7_ofLeg 100 = .ok (.getfield 26, 3) := by decide +kernel
theorem dX7_ofLeg_103 : decode cX7_ofLeg 103 = .ok (.getfield 234, 3) := by decide +kernel
theorem dX7_ofLeg_106 : decode cX7_ofLeg 106 = .ok (.iload 4, 2) := by decide +kernel
theorem dX7_ofLeg_108 : decode cX7_ofLeg 108 = .ok (.laload, 1) := by decide +kernel
theorem dX7_ofLeg_109 : decode cX7_ofLeg 109 = .ok (.lreturn, 1) := by decide +kernel
theorem dX7_ofLeg_11 : decode cX7_ofLeg 11 = .ok (.getfield 26, 3) := by decide +kernel
theorem dX7_ofLeg_110 : decode cX7_ofLeg 110 = .ok (.aload_n 0, 1) := by decide +kernel
theorem dX7_ofLeg_111 : decode cX7_ofLeg 111 = .ok (.getfield 49, 3) := by decide +kernel
theorem dX7_ofLeg_114 : decode cX7_ofLeg 114 = .ok (.getfield 236, 3) := by decide +kernel
theorem dX7_ofLeg_117 : decode cX7_ofLeg 117 = .ok (.iload 4, 2) := by decide +kernel
theorem dX7_ofLeg_119 : decode cX7_ofLeg 119 = .ok (.iaload, 1) := by decide +kernel
theorem dX7_ofLeg_120 : decode cX7_ofLeg 120 = .ok (.i2l, 1) := by decide +kernel
theorem dX7_ofLeg_121 : decode cX7_ofLeg 121 = .ok (.lreturn, 1) := by decide +kernel
theorem dX7_ofLeg_14 : decode cX7_ofLeg 14 = .ok (.getfield 217, 3) := by decide +kernel
theorem dX7_ofLeg_17 : decode cX7_ofLeg 17 = .ok (.iload_n 1, 1) := by decide +kernel
theorem dX7_ofLeg_18 : decode cX7_ofLeg 18 = .ok (.iaload, 1) := by decide +kernel
theorem dX7_ofLeg_19 : decode cX7_ofLeg 19 = .ok (.if_icmp .lt 13, 3) := by decide +kernel
theorem dX7_ofLeg_2 : decode cX7_ofLeg 2 = .ok (.invokevirtual 212, 3) := by decide +kernel
theorem dX7_ofLeg_32 : decode cX7_ofLeg 32 = .ok (.aload_n 0, 1) := by decide +kernel
theorem dX7_ofLeg_33 : decode cX7_ofLeg 33 = .ok (.getfield 26, 3) := by decide +kernel
theorem dX7_ofLeg_36 : decode cX7_ofLeg 36 = .ok (.getfield 224, 3) := by decide +kernel
theorem dX7_ofLeg_39 : decode cX7_ofLeg 39 = .ok (.iload_n 1, 1) := by decide +kernel
theorem dX7_ofLeg_40 : decode cX7_ofLeg 40 = .ok (.iaload, 1) := by decide +kernel
theorem dX7_ofLeg_41 : decode cX7_ofLeg 41 = .ok (.iload_n 2, 1) := by decide +kernel
theorem dX7_ofLeg_42 : decode cX7_ofLeg 42 = .ok (.iadd, 1) := by decide +kernel
theorem dX7_ofLeg_43 : decode cX7_ofLeg 43 = .ok (.istore 4, 2) := by decide +kernel
theorem dX7_ofLeg_45 : decode cX7_ofLeg 45 = .ok (.iload_n 3, 1) := by decide +kernel
theorem dX7_ofLeg_46 : decode cX7_ofLeg 46 = .ok (.tableswitch 76 0 3 #[30, 42, 53, 64], 30) := by decide +kernel
theorem dX7_ofLeg_5 : decode cX7_ofLeg 5 = .ok (.iload_n 2, 1) := by decide +kernel
theorem dX7_ofLeg_6 : decode cX7_ofLeg 6 = .ok (.ifCond .lt 16, 3) := by decide +kernel
theorem dX7_ofLeg_76 : decode cX7_ofLeg 76 = .ok (.aload_n 0, 1) := by decide +kernel
theorem dX7_ofLeg_77 : decode cX7_ofLeg 77 = .ok (.getfield 26, 3) := by decide +kernel
theorem dX7_ofLeg_80 : decode cX7_ofLeg 80 = .ok (.getfield 227, 3) := by decide +kernel
theorem dX7_ofLeg_83 : decode cX7_ofLeg 83 = .ok (.iload 4, 2) := by decide +kernel
theorem dX7_ofLeg_85 : decode cX7_ofLeg 85 = .ok (.iaload, 1) := by decide +kernel
theorem dX7_ofLeg_86 : decode cX7_ofLeg 86 = .ok (.i2l, 1) := by decide +kernel
theorem dX7_ofLeg_87 : decode cX7_ofLeg 87 = .ok (.lreturn, 1) := by decide +kernel
theorem dX7_ofLeg_88 : decode cX7_ofLeg 88 = .ok (.aload_n 0, 1) := by decide +kernel
theorem dX7_ofLeg_89 : decode cX7_ofLeg 89 = .ok (.getfield 26, 3) := by decide +kernel
theorem dX7_ofLeg_9 : decode cX7_ofLeg 9 = .ok (.iload_n 2, 1) := by decide +kernel
theorem dX7_ofLeg_92 : decode cX7_ofLeg 92 = .ok (.getfield 230, 3) := by decide +kernel
theorem dX7_ofLeg_95 : decode cX7_ofLeg 95 = .ok (.iload 4, 2) := by decide +kernel
theorem dX7_ofLeg_97 : decode cX7_ofLeg 97 = .ok (.laload, 1) := by decide +kernel
theorem dX7_ofLeg_98 : decode cX7_ofLeg 98 = .ok (.lreturn, 1) := by decide +kernel
theorem dX7_ofLeg_99 : decode cX7_ofLeg 99 = .ok (.aload_n 0, 1) := by decide +kernel
set_option maxHeartbeats 4000000 in
set_option maxRecDepth 100000 in
theorem c_T_ofLeg (l : Launch) (D : va_G) (κ : ClassId × ClassId × ClassId) (a : Nat → Nat) (sz : Nat) (u : TS) (en : Nat) (g : Nat) (w : Nat) (q1 : OK u) (q2 : en < J_count u) (q3 : g < J_legsOf u en) (q4 : w ≤ 3) : TM l yX7_ofLeg cX7_ofLeg 5 (some .long) 2 42 D κ a u sz [.ref (a 0), .int (nI en), .int (nI g), .int (nI w)] (QL D κ a sz (fun r u' => r = (fOfL u en g w) ∧ u' = u)) := by
  refine TM.of (by decide +kernel) (Nat.le_of_ble_eq_true rfl) ?_
  intro p e s m below meth c ls hC hr hk hsz H locs hG hl
  have hx := hC.1
  have hb := hC.2.1
  have hl : lv_has ls 5 [(0, .ref (a 0)), (1, .int (nI en)), (2, .int (nI g)), (3, .int (nI w))] := hl
  have qok := q1
  have ⟨n1, n2, n3, n4, n5, n6, n7, n8, n9, n10⟩ := qok.n
  have k1 := q1.ent q2
  have k2 := q1.leg (g := J_firstLeg u en + g) (by omega)
  refine lv_aload_n hx hb dX7_ofLeg_0 rfl (lv_at hl 0 rfl) ?_
  refine lv_iload_n hx hb dX7_ofLeg_1 rfl (lv_at hl 1 rfl) ?_
  refine k_T_needEntry hC hG en (q1) (q2) w260 ⟨by decide, by decide⟩ hl.1 (Nat.le_of_ble_eq_true rfl) dX7_ofLeg_2 ⟨Nat.zero_le _, Nat.zero_le _⟩ (fun H locs hG => ?_)
  refine lv_iload_n hx hb dX7_ofLeg_5 rfl (lv_at hl 2 rfl) ?_
  refine bz_lt_f (tgt := 22) hx hb (by omega) dX7_ofLeg_6 (by decide) ?_
  refine lv_iload_n hx hb dX7_ofLeg_9 rfl (lv_at hl 2 rfl) ?_
  refine lv_aload_n hx hb dX7_ofLeg_10 rfl (lv_at hl 0 rfl) ?_
  refine gf_T_journal hC hG (hC.2.2.2.2 _ w24) dX7_ofLeg_11 ?_
  refine gf_J_legsOf hC hG (hC.2.2.2.2 _ w258) dX7_ofLeg_14 ?_
  refine lv_iload_n hx hb dX7_ofLeg_17 rfl (lv_at hl 1 rfl) ?_
  refine al_J_legsOf hC hG (by omega) dX7_ofLeg_18 ?_
  refine bn_lt_t (tgt := 32) hx hb (by omega) (by omega) dX7_ofLeg_19 (by decide) (q3) ?_
  refine lv_aload_n hx hb dX7_ofLeg_32 rfl (lv_at hl 0 rfl) ?_
  refine gf_T_journal hC hG (hC.2.2.2.2 _ w24) dX7_ofLeg_33 ?_
  refine gf_J_firstLeg hC hG (hC.2.2.2.2 _ w272) dX7_ofLeg_36 ?_
  refine lv_iload_n hx hb dX7_ofLeg_39 rfl (lv_at hl 1 rfl) ?_
  refine al_J_firstLeg hC hG (by omega) dX7_ofLeg_40 ?_
  refine lv_iload_n hx hb dX7_ofLeg_41 rfl (lv_at hl 2 rfl) ?_
  refine ar_iadd hx hb dX7_ofLeg_42 ?_
  refine lv_istore (lv' := [(4, .int (nI ((J_firstLeg u en) + g))), (0, .ref (a 0)), (1, .int (nI en)), (2, .int (nI g)), (3, .int (nI w))]) hx hb dX7_ofLeg_43 hl (by decide) rfl (fun ls hl => ?_)
  refine lv_iload_n hx hb dX7_ofLeg_45 rfl (lv_at hl 4 rfl) ?_
  rcases (show w = 0 ∨ w = 1 ∨ w = 2 ∨ w = 3 from by omega) with h46 | h46 | h46 | h46
  · refine bt_in (v := 0) (off := 30) (tgt := 76) h46 hx hb dX7_ofLeg_46 (by decide) (by decide) (by decide) (by decide) ?_
    refine lv_aload_n hx hb dX7_ofLeg_76 rfl (lv_at hl 1 rfl) ?_
    refine gf_T_journal hC hG (hC.2.2.2.2 _ w24) dX7_ofLeg_77 ?_
    refine gf_J_account hC hG (hC.2.2.2.2 _ w273) dX7_ofLeg_80 ?_
    refine lv_iload hx hb dX7_ofLeg_83 (lv_at hl 0 rfl) ?_
    refine al_J_account hC hG (by omega) dX7_ofLeg_85 ?_
    refine lv_i2l hx hb dX7_ofLeg_86 rfl ?_
    exact te_l hC hG hr hk ⟨(show ((nI (J_account u ((J_firstLeg u en) + g))).toInt64) = fOfL u en g w from by simp [fOfL, mLo, h46]), rfl⟩ dX7_ofLeg_87
  · refine bt_in (v := 1) (off := 42) (tgt := 88) h46 hx hb dX7_ofLeg_46 (by decide) (by decide) (by decide) (by decide) ?_
    refine lv_aload_n hx hb dX7_ofLeg_88 rfl (lv_at hl 1 rfl) ?_
    refine gf_T_journal hC hG (hC.2.2.2.2 _ w24) dX7_ofLeg_89 ?_
    refine gf_J_amount hC hG (hC.2.2.2.2 _ w274) dX7_ofLeg_92 ?_
    refine lv_iload hx hb dX7_ofLeg_95 (lv_at hl 0 rfl) ?_
    refine al_J_amount hC hG (by omega) dX7_ofLeg_97 ?_
    exact te_l hC hG hr hk ⟨(show (J_amount u ((J_firstLeg u en) + g)) = fOfL u en g w from by simp [fOfL, mLo, h46]), rfl⟩ dX7_ofLeg_98
  · refine bt_in (v := 2) (off := 53) (tgt := 99) h46 hx hb dX7_ofLeg_46 (by decide) (by decide) (by decide) (by decide) ?_
    refine lv_aload_n hx hb dX7_ofLeg_99 rfl (lv_at hl 1 rfl) ?_
    refine gf_T_journal hC hG (hC.2.2.2.2 _ w24) dX7_ofLeg_100 ?_
    refine gf_J_worth hC hG (hC.2.2.2.2 _ w275) dX7_ofLeg_103 ?_
    refine lv_iload hx hb dX7_ofLeg_106 (lv_at hl 0 rfl) ?_
    refine al_J_worth hC hG (by omega) dX7_ofLeg_108 ?_
    exact te_l hC hG hr hk ⟨(show (J_worth u ((J_firstLeg u en) + g)) = fOfL u en g w from by simp [fOfL, mLo, h46]), rfl⟩ dX7_ofLeg_109
  · refine bt_in (v := 3) (off := 64) (tgt := 110) h46 hx hb dX7_ofLeg_46 (by decide) (by decide) (by decide) (by decide) ?_
    refine lv_aload_n hx hb dX7_ofLeg_110 rfl (lv_at hl 1 rfl) ?_
    refine gf_T_kept hC hG (hC.2.2.2.2 _ w36) dX7_ofLeg_111 ?_
    refine gf_M0_lineOfLeg hC hG (hC.2.2.2.2 _ w276) dX7_ofLeg_114 ?_
    refine lv_iload hx hb dX7_ofLeg_117 (lv_at hl 0 rfl) ?_
    refine al_M0_lineOfLeg hC hG (by omega) dX7_ofLeg_119 ?_
    refine lv_i2l hx hb dX7_ofLeg_120 rfl ?_
    exact te_l hC hG hr hk ⟨(show ((oI (M0_lineOfLeg u ((J_firstLeg u en) + g))).toInt64) = fOfL u en g w from by simp [fOfL, mLo, h46]), rfl⟩ dX7_ofLeg_121
theorem k_T_ofLeg {p : Program} {l : Launch} {e : Env} {R : Room} {s : State} {m : MethodId} {args : Array Value} {below : List Frame} {meth : Method} {c : Code} {H : Heap} {locs : List Loc} {cs ss : Nat} {Q : State → Prop} {cc : ByteArray} {nL pc : Nat} {ls : Array Slot} {rest : List Value} {own : String} {idx : Nat} {D : va_G} {κ : ClassId × ClassId × ClassId} {a : Nat → Nat} {u : TS} {A : Nat → Prop} (hC : CallFix p m c cc nL s args WALL own) (hG : GW D κ a u A s H locs) (en : Nat) (g : Nat) (w : Nat) (q1 : OK u) (q2 : en < J_count u) (q3 : g < J_legsOf u en) (q4 : w ≤ 3) (wl : Cond.methodLink own idx yX7_ofLeg ∈ WALL) (hR : 2 + 1 ≤ R.frames ∧ 8 + (5 + 11) + 42 ≤ R.locals) (hls : ls.size = nL) (h8 : (rest.map fun v => v.category).sum ≤ 8) (hd : decode cc pc = .ok (.invokevirtual idx, 3)) (hcs : cs ≤ R.cells ∧ ss ≤ R.slots) (kk : ∀ (H1 : Heap) (locs1 : List Loc), GW D κ a u A s H1 locs1 → W p l e R s m args below meth c H1 locs1 cs ss Q (F0 m (pc + 3) ls (.long (fOfL u en g w) :: rest))) : W p l e R s m args below meth c H locs cs ss Q (F0 m pc ls (.int (nI w) :: .int (nI g) :: .int (nI en) :: .ref (a 0) :: rest)) :=
  tc_l hG (tr_V (n := 3) (k := 0) (ci := 7) (As := [.int (nI en), .int (nI g), .int (nI w)]) hC hG (c_T_ofLeg l D κ a H.size u en g w q1 q2 q3 q4) rfl rfl wl w2 w271 w269 w270 (by decide +kernel) hR rfl hls rfl h8 hd hcs) (fun r u' H1 locs1 hq hG1 => by obtain ⟨rfl, rfl⟩ := hq; exact kk H1 locs1 hG1)

theorem dX7_many_0 : decode cX7_many 0 = .ok (.iload_n 1, 1) := by decide +kernel
theorem dX7_many_1 : decode cX7_many 1 = .ok (.tableswitch 88 0 5 #[39, 47, 55, 67, 75, 80], 39) := by decide +kernel
theorem dX7_many_40 : decode cX7_many 40 = .ok (.aload_n 0, 1) := by decide +kernel
theorem dX7_many_41 : decode cX7_many 41 = .ok (.getfield 12, 3) := by decide +kernel
theorem dX7_many_44 : decode cX7_many 44 = .ok (.getfield 93, 3) := by decide +kernel
theorem dX7_many_47 : decode cX7_many 47 = .ok (.ireturn, 1) := by decide +kernel
theorem dX7_many_48 : decode cX7_many 48 = .ok (.aload_n 0, 1) := by decide +kernel
theorem dX7_many_49 : decode cX7_many 49 = .ok (.getfield 26, 3) := by decide +kernel
theorem dX7_many_52 : decode cX7_many 52 = .ok (.invokevirtual 337, 3) := by decide +kernel
theorem dX7_many_55 : decode cX7_many 55 = .ok (.ireturn, 1) := by decide +kernel
theorem dX7_many_56 : decode cX7_many 56 = .ok (.aload_n 0, 1) := by decide +kernel
theorem dX7_many_57 : decode cX7_many 57 = .ok (.getfield 33, 3) := by decide +kernel
theorem dX7_many_60 : decode cX7_many 60 = .ok (.aload_n 0, 1) := by decide +kernel
theorem dX7_many_61 : decode cX7_many 61 = .ok (.getfield 67, 3) := by decide +kernel
theorem dX7_many_64 : decode cX7_many 64 = .ok (.invokevirtual 340, 3) := by decide +kernel
theorem dX7_many_67 : decode cX7_many 67 = .ok (.ireturn, 1) := by decide +kernel
theorem dX7_many_68 : decode cX7_many 68 = .ok (.aload_n 0, 1) := by decide +kernel
theorem dX7_many_69 : decode cX7_many 69 = .ok (.getfield 40, 3) := by decide +kernel
theorem dX7_many_72 : decode cX7_many 72 = .ok (.getfield 301, 3) := by decide +kernel
theorem dX7_many_75 : decode cX7_many 75 = .ok (.ireturn, 1) := by decide +kernel
theorem dX7_many_76 : decode cX7_many 76 = .ok (.aload_n 0, 1) := by decide +kernel
theorem dX7_many_77 : decode cX7_many 77 = .ok (.getfield 67, 3) := by decide +kernel
theorem dX7_many_80 : decode cX7_many 80 = .ok (.ireturn, 1) := by decide +kernel
theorem dX7_many_81 : decode cX7_many 81 = .ok (.aload_n 0, 1) := by decide +kernel
theorem dX7_many_82 : decode cX7_many 82 = .ok (.getfield 26, 3) := by decide +kernel
theorem dX7_many_85 : decode cX7_many 85 = .ok (.invokevirtual 277, 3) := by decide +kernel
theorem dX7_many_88 : decode cX7_many 88 = .ok (.ireturn, 1) := by decide +kernel
set_option maxHeartbeats 4000000 in
set_option maxRecDepth 100000 in
theorem c_T_many (l : Launch) (D : va_G) (κ : ClassId × ClassId × ClassId) (a : Nat → Nat) (sz : Nat) (u : TS) (w : Nat) (q1 : OK u) (q2 : w ≤ 5) : TM l yX7_many cX7_many 2 (some .int) 2 42 D κ a u sz [.ref (a 0), .int (nI w)] (QI D κ a sz (fun r u' => r = (fMany u w) ∧ u' = u)) := by
  refine TM.of (by decide +kernel) (Nat.le_of_ble_eq_true rfl) ?_
  intro p e s m below meth c ls hC hr hk hsz H locs hG hl
  have hx := hC.1
  have hb := hC.2.1
  have hl : lv_has ls 2 [(0, .ref (a 0)), (1, .int (nI w))] := hl
  have qok := q1
  have ⟨n1, n2, n3, n4, n5, n6, n7, n8, n9, n10⟩ := qok.n
  refine lv_iload_n hx hb dX7_many_0 rfl (lv_at hl 1 rfl) ?_
  rcases (show w = 0 ∨ w = 1 ∨ w = 2 ∨ w = 3 ∨ w = 4 ∨ w = 5 from by omega) with h1 | h1 | h1 | h1 | h1 | h1
  · refine bt_in (v := 0) (off := 39) (tgt := 40) h1 hx hb dX7_many_1 (by decide) (by decide) (by decide) (by decide) ?_
    refine lv_aload_n hx hb dX7_many_40 rfl (lv_at hl 0 rfl) ?_
    refine gf_T_accounts hC hG (hC.2.2.2.2 _ w16) dX7_many_41 ?_
    refine gf_AC_count hC hG (hC.2.2.2.2 _ w138) dX7_many_44 ?_
    exact te_i (v := (nI (AC_count u))) hC hG hr hk ⟨(show (nI (AC_count u)) = fMany u w from by simp [fMany, h1]), rfl⟩ dX7_many_47
  · refine bt_in (v := 1) (off := 47) (tgt := 48) h1 hx hb dX7_many_1 (by decide) (by decide) (by decide) (by decide) ?_
    refine lv_aload_n hx hb dX7_many_48 rfl (lv_at hl 0 rfl) ?_
    refine gf_T_journal hC hG (hC.2.2.2.2 _ w24) dX7_many_49 ?_
    refine k_J_countStanding hC hG  (q1) w163 ⟨by decide, by decide⟩ hl.1 (Nat.le_of_ble_eq_true rfl) dX7_many_52 ⟨Nat.zero_le _, Nat.zero_le _⟩ (fun H locs hG => ?_)
    exact te_i (v := (nI (fStand u (J_count u)))) hC hG hr hk ⟨(show (nI (fStand u (J_count u))) = fMany u w from by simp [fMany, h1]), rfl⟩ dX7_many_55
  · refine bt_in (v := 2) (off := 55) (tgt := 56) h1 hx hb dX7_many_1 (by decide) (by decide) (by decide) (by decide) ?_
    refine lv_aload_n hx hb dX7_many_56 rfl (lv_at hl 0 rfl) ?_
    refine gf_T_holds hC hG (hC.2.2.2.2 _ w28) dX7_many_57 ?_
    refine lv_aload_n hx hb dX7_many_60 rfl (lv_at hl 0 rfl) ?_
    refine gf_T_today hC hG (hC.2.2.2.2 _ w43) dX7_many_61 ?_
    refine k_HO_countOpen hC hG (T_today u) (by omega) w167 ⟨by decide, by decide⟩ hl.1 (Nat.le_of_ble_eq_true rfl) dX7_many_64 ⟨Nat.zero_le _, Nat.zero_le _⟩ (fun H locs hG => ?_)
    exact te_i (v := (nI 0)) hC hG hr hk ⟨(show (nI 0) = fMany u w from by simp [fMany, h1]), rfl⟩ dX7_many_67
  · refine bt_in (v := 3) (off := 67) (tgt := 68) h1 hx hb dX7_many_1 (by decide) (by decide) (by decide) (by decide) ?_
    refine lv_aload_n hx hb dX7_many_68 rfl (lv_at hl 0 rfl) ?_
    refine gf_T_lines hC hG (hC.2.2.2.2 _ w32) dX7_many_69 ?_
    refine gf_LI_count hC hG (hC.2.2.2.2 _ w162) dX7_many_72 ?_
    exact te_i (v := (nI (LI_count u))) hC hG hr hk ⟨(show (nI (LI_count u)) = fMany u w from by simp [fMany, h1]), rfl⟩ dX7_many_75
  · refine bt_in (v := 4) (off := 75) (tgt := 76) h1 hx hb dX7_many_1 (by decide) (by decide) (by decide) (by decide) ?_
    refine lv_aload_n hx hb dX7_many_76 rfl (lv_at hl 0 rfl) ?_
    refine gf_T_today hC hG (hC.2.2.2.2 _ w43) dX7_many_77 ?_
    exact te_i (v := (nI (T_today u))) hC hG hr hk ⟨(show (nI (T_today u)) = fMany u w from by simp [fMany, h1]), rfl⟩ dX7_many_80
  · refine bt_in (v := 5) (off := 80) (tgt := 81) h1 hx hb dX7_many_1 (by decide) (by decide) (by decide) (by decide) ?_
    refine lv_aload_n hx hb dX7_many_81 rfl (lv_at hl 0 rfl) ?_
    refine gf_T_journal hC hG (hC.2.2.2.2 _ w24) dX7_many_82 ?_
    refine k_J_lastLocked hC hG  (q1) w175 ⟨by decide, by decide⟩ hl.1 (Nat.le_of_ble_eq_true rfl) dX7_many_85 ⟨Nat.zero_le _, Nat.zero_le _⟩ (fun H locs hG => ?_)
    exact te_i (v := (oI (fLock u))) hC hG hr hk ⟨(show (oI (fLock u)) = fMany u w from by simp [fMany, h1]), rfl⟩ dX7_many_88
theorem k_T_many {p : Program} {l : Launch} {e : Env} {R : Room} {s : State} {m : MethodId} {args : Array Value} {below : List Frame} {meth : Method} {c : Code} {H : Heap} {locs : List Loc} {cs ss : Nat} {Q : State → Prop} {cc : ByteArray} {nL pc : Nat} {ls : Array Slot} {rest : List Value} {own : String} {idx : Nat} {D : va_G} {κ : ClassId × ClassId × ClassId} {a : Nat → Nat} {u : TS} {A : Nat → Prop} (hC : CallFix p m c cc nL s args WALL own) (hG : GW D κ a u A s H locs) (w : Nat) (q1 : OK u) (q2 : w ≤ 5) (wl : Cond.methodLink own idx yX7_many ∈ WALL) (hR : 2 + 1 ≤ R.frames ∧ 8 + (2 + 11) + 42 ≤ R.locals) (hls : ls.size = nL) (h8 : (rest.map fun v => v.category).sum ≤ 8) (hd : decode cc pc = .ok (.invokevirtual idx, 3)) (hcs : cs ≤ R.cells ∧ ss ≤ R.slots) (kk : ∀ (H1 : Heap) (locs1 : List Loc), GW D κ a u A s H1 locs1 → W p l e R s m args below meth c H1 locs1 cs ss Q (F0 m (pc + 3) ls (.int (fMany u w) :: rest))) : W p l e R s m args below meth c H locs cs ss Q (F0 m pc ls (.int (nI w) :: .ref (a 0) :: rest)) :=
  tc_i hG (tr_V (n := 1) (k := 0) (ci := 7) (As := [.int (nI w)]) hC hG (c_T_many l D κ a H.size u w q1 q2) rfl rfl wl w2 w161 w159 w160 (by decide +kernel) hR rfl hls rfl h8 hd hcs) (fun r u' H1 locs1 hq hG1 => by obtain ⟨rfl, rfl⟩ := hq; exact kk H1 locs1 hG1)

theorem dX7_standOf_0 : decode cX7_standOf 0 = .ok (.aload_n 0, 1) := by decide +kernel
theorem dX7_standOf_1 : decode cX7_standOf 1 = .ok (.getfield 12, 3) := by decide +kernel
theorem dX7_standOf_10 : decode cX7_standOf 10 = .ok (.sipush 364, 3) := by decide +kernel
theorem dX7_standOf_13 : decode cX7_standOf 13 = .ok (.invokevirtual 345, 3) := by decide +kernel
theorem dX7_standOf_16 : decode cX7_standOf 16 = .ok (.invokevirtual 424, 3) := by decide +kernel
theorem dX7_standOf_19 : decode cX7_standOf 19 = .ok (.lreturn, 1) := by decide +kernel
theorem dX7_standOf_4 : decode cX7_standOf 4 = .ok (.iload_n 1, 1) := by decide +kernel
theorem dX7_standOf_5 : decode cX7_standOf 5 = .ok (.aload_n 0, 1) := by decide +kernel
theorem dX7_standOf_6 : decode cX7_standOf 6 = .ok (.getfield 26, 3) := by decide +kernel
theorem dX7_standOf_9 : decode cX7_standOf 9 = .ok (.iload_n 1, 1) := by decide +kernel
set_option maxHeartbeats 4000000 in
set_option maxRecDepth 100000 in
theorem c_T_standOf (l : Launch) (D : va_G) (κ : ClassId × ClassId × ClassId) (a : Nat → Nat) (sz : Nat) (u : TS) (k : Nat) (q1 : OK u) (q2 : k < AC_count u) : TM l yX7_standOf cX7_standOf 2 (some .long) 2 46 D κ a u sz [.ref (a 0), .int (nI k)] (QL D κ a sz (fun r u' => r = (fStO u k) ∧ u' = u)) := by
  refine TM.of (by decide +kernel) (Nat.le_of_ble_eq_true rfl) ?_
  intro p e s m below meth c ls hC hr hk hsz H locs hG hl
  have hx := hC.1
  have hb := hC.2.1
  have hl : lv_has ls 2 [(0, .ref (a 0)), (1, .int (nI k))] := hl
  have qok := q1
  have ⟨n1, n2, n3, n4, n5, n6, n7, n8, n9, n10⟩ := qok.n
  refine lv_aload_n hx hb dX7_standOf_0 rfl (lv_at hl 0 rfl) ?_
  refine gf_T_accounts hC hG (hC.2.2.2.2 _ w16) dX7_standOf_1 ?_
  refine lv_iload_n hx hb dX7_standOf_4 rfl (lv_at hl 1 rfl) ?_
  refine lv_aload_n hx hb dX7_standOf_5 rfl (lv_at hl 0 rfl) ?_
  refine gf_T_journal hC hG (hC.2.2.2.2 _ w24) dX7_standOf_6 ?_
  refine lv_iload_n hx hb dX7_standOf_9 rfl (lv_at hl 1 rfl) ?_
  refine lv_sipush (v := nI 364) hx hb dX7_standOf_10 (by decide) ?_
  refine k_J_amountUpTo hC hG k 364 (q1) (by omega) w199 ⟨by decide, by decide⟩ hl.1 (Nat.le_of_ble_eq_true rfl) dX7_standOf_13 ⟨Nat.zero_le _, Nat.zero_le _⟩ (fun H locs hG => ?_)
  refine k_AC_stand hC hG k (fAmt u k 364 (J_legCount u)) (q2) (q1) w445 ⟨by decide, by decide⟩ hl.1 (Nat.le_of_ble_eq_true rfl) dX7_standOf_16 ⟨Nat.zero_le _, Nat.zero_le _⟩ (fun H locs hG => ?_)
  exact te_l hC hG hr hk ⟨(show (fStd u k (fAmt u k 364 (J_legCount u))) = fStO u k from by rfl), rfl⟩ dX7_standOf_19
theorem k_T_standOf {p : Program} {l : Launch} {e : Env} {R : Room} {s : State} {m : MethodId} {args : Array Value} {below : List Frame} {meth : Method} {c : Code} {H : Heap} {locs : List Loc} {cs ss : Nat} {Q : State → Prop} {cc : ByteArray} {nL pc : Nat} {ls : Array Slot} {rest : List Value} {own : String} {idx : Nat} {D : va_G} {κ : ClassId × ClassId × ClassId} {a : Nat → Nat} {u : TS} {A : Nat → Prop} (hC : CallFix p m c cc nL s args WALL own) (hG : GW D κ a u A s H locs) (k : Nat) (q1 : OK u) (q2 : k < AC_count u) (wl : Cond.methodLink own idx yX7_standOf ∈ WALL) (hR : 2 + 1 ≤ R.frames ∧ 8 + (2 + 11) + 46 ≤ R.locals) (hls : ls.size = nL) (h8 : (rest.map fun v => v.category).sum ≤ 8) (hd : decode cc pc = .ok (.invokevirtual idx, 3)) (hcs : cs ≤ R.cells ∧ ss ≤ R.slots) (kk : ∀ (H1 : Heap) (locs1 : List Loc), GW D κ a u A s H1 locs1 → W p l e R s m args below meth c H1 locs1 cs ss Q (F0 m (pc + 3) ls (.long (fStO u k) :: rest))) : W p l e R s m args below meth c H locs cs ss Q (F0 m pc ls (.int (nI k) :: .ref (a 0) :: rest)) :=
  tc_l hG (tr_V (n := 1) (k := 0) (ci := 7) (As := [.int (nI k)]) hC hG (c_T_standOf l D κ a H.size u k q1 q2) rfl rfl wl w2 w492 w490 w491 (by decide +kernel) hR rfl hls rfl h8 hd hcs) (fun r u' H1 locs1 hq hG1 => by obtain ⟨rfl, rfl⟩ := hq; exact kk H1 locs1 hG1)

theorem dX7_hadIf_0 : decode cX7_hadIf 0 = .ok (.aload_n 0, 1) := by decide +kernel
theorem dX7_hadIf_1 : decode cX7_hadIf 1 = .ok (.iload_n 1, 1) := by decide +kernel
theorem dX7_hadIf_10 : decode cX7_hadIf 10 = .ok (.iload_n 2, 1) := by decide +kernel
theorem dX7_hadIf_11 : decode cX7_hadIf 11 = .ok (.iconst (-1), 1) := by decide +kernel
theorem dX7_hadIf_12 : decode cX7_hadIf 12 = .ok (.invokevirtual 113, 3) := by decide +kernel
theorem dX7_hadIf_15 : decode cX7_hadIf 15 = .ok (.lsub, 1) := by decide +kernel
theorem dX7_hadIf_16 : decode cX7_hadIf 16 = .ok (.lstore_n 3, 1) := by decide +kernel
theorem dX7_hadIf_17 : decode cX7_hadIf 17 = .ok (.aload_n 0, 1) := by decide +kernel
theorem dX7_hadIf_18 : decode cX7_hadIf 18 = .ok (.getfield 12, 3) := by decide +kernel
theorem dX7_hadIf_2 : decode cX7_hadIf 2 = .ok (.invokevirtual 109, 3) := by decide +kernel
theorem dX7_hadIf_21 : decode cX7_hadIf 21 = .ok (.getfield 122, 3) := by decide +kernel
theorem dX7_hadIf_24 : decode cX7_hadIf 24 = .ok (.iload_n 1, 1) := by decide +kernel
theorem dX7_hadIf_25 : decode cX7_hadIf 25 = .ok (.baload, 1) := by decide +kernel
theorem dX7_hadIf_26 : decode cX7_hadIf 26 = .ok (.ifCond .eq 18, 3) := by decide +kernel
theorem dX7_hadIf_44 : decode cX7_hadIf 44 = .ok (.lload_n 3, 1) := by decide +kernel
theorem dX7_hadIf_45 : decode cX7_hadIf 45 = .ok (.lreturn, 1) := by decide +kernel
theorem dX7_hadIf_5 : decode cX7_hadIf 5 = .ok (.aload_n 0, 1) := by decide +kernel
theorem dX7_hadIf_6 : decode cX7_hadIf 6 = .ok (.getfield 33, 3) := by decide +kernel
theorem dX7_hadIf_9 : decode cX7_hadIf 9 = .ok (.iload_n 1, 1) := by decide +kernel
set_option maxHeartbeats 4000000 in
set_option maxRecDepth 100000 in
theorem c_T_hadIf (l : Launch) (D : va_G) (κ : ClassId × ClassId × ClassId) (a : Nat → Nat) (sz : Nat) (u : TS) (k : Nat) (d : Nat) (q1 : OK u) (q2 : k < AC_count u) (q3 : d ≤ 364) : TM l yX7_hadIf cX7_hadIf 5 (some .long) 3 67 D κ a u sz [.ref (a 0), .int (nI k), .int (nI d)] (QL D κ a sz (fun r u' => r = (fStO u k - 0) ∧ u' = u)) := by
  refine TM.of (by decide +kernel) (Nat.le_of_ble_eq_true rfl) ?_
  intro p e s m below meth c ls hC hr hk hsz H locs hG hl
  have hx := hC.1
  have hb := hC.2.1
  have hl : lv_has ls 5 [(0, .ref (a 0)), (1, .int (nI k)), (2, .int (nI d))] := hl
  have qok := q1
  have ⟨n1, n2, n3, n4, n5, n6, n7, n8, n9, n10⟩ := qok.n
  refine lv_aload_n hx hb dX7_hadIf_0 rfl (lv_at hl 0 rfl) ?_
  refine lv_iload_n hx hb dX7_hadIf_1 rfl (lv_at hl 1 rfl) ?_
  refine k_T_standOf hC hG k (q1) (q2) w489 ⟨by decide, by decide⟩ hl.1 (Nat.le_of_ble_eq_true rfl) dX7_hadIf_2 ⟨Nat.zero_le _, Nat.zero_le _⟩ (fun H locs hG => ?_)
  refine lv_aload_n hx hb dX7_hadIf_5 rfl (lv_at hl 0 rfl) ?_
  refine gf_T_holds hC hG (hC.2.2.2.2 _ w28) dX7_hadIf_6 ?_
  refine lv_iload_n hx hb dX7_hadIf_9 rfl (lv_at hl 1 rfl) ?_
  refine lv_iload_n hx hb dX7_hadIf_10 rfl (lv_at hl 2 rfl) ?_
  refine lv_iconst (v := -1) hx hb dX7_hadIf_11 (by decide) ?_
  refine W.eq (g2 := F0 m 12 ls [.int (oI none), .int (nI d), .int (nI k), .ref (a 6), .long (fStO u k)]) rfl ?_
  refine k_HO_heldOn hC hG k d none (by omega) w449 ⟨by decide, by decide⟩ hl.1 (Nat.le_of_ble_eq_true rfl) dX7_hadIf_12 ⟨Nat.zero_le _, Nat.zero_le _⟩ (fun H locs hG => ?_)
  refine lv_lsub hx hb dX7_hadIf_15 ?_
  refine lv_lstore_n (lv' := [(3, .long ((fStO u k) - ((0 : Int64)))), (0, .ref (a 0)), (1, .int (nI k)), (2, .int (nI d))]) hx hb dX7_hadIf_16 rfl hl (by decide) rfl (fun ls hl => ?_)
  refine lv_aload_n hx hb dX7_hadIf_17 rfl (lv_at hl 1 rfl) ?_
  refine gf_T_accounts hC hG (hC.2.2.2.2 _ w16) dX7_hadIf_18 ?_
  refine gf_AC_hasFloor hC hG (hC.2.2.2.2 _ w439) dX7_hadIf_21 ?_
  refine lv_iload_n hx hb dX7_hadIf_24 rfl (lv_at hl 2 rfl) ?_
  refine al_AC_hasFloor hC hG (by omega) dX7_hadIf_25 ?_
  refine bb_eq (tgt := 44) hx hb dX7_hadIf_26 (by decide) (fun h26 => ?_) (fun h26 => (show False from (Bool.false_ne_true ((q1.nf k).symm.trans h26))).elim)
  refine lv_lload_n hx hb dX7_hadIf_44 rfl (lv_at hl 0 rfl) ?_
  exact te_l hC hG hr hk ⟨(show ((fStO u k) - ((0 : Int64))) = fStO u k - 0 from by rfl), rfl⟩ dX7_hadIf_45
theorem k_T_hadIf {p : Program} {l : Launch} {e : Env} {R : Room} {s : State} {m : MethodId} {args : Array Value} {below : List Frame} {meth : Method} {c : Code} {H : Heap} {locs : List Loc} {cs ss : Nat} {Q : State → Prop} {cc : ByteArray} {nL pc : Nat} {ls : Array Slot} {rest : List Value} {own : String} {idx : Nat} {D : va_G} {κ : ClassId × ClassId × ClassId} {a : Nat → Nat} {u : TS} {A : Nat → Prop} (hC : CallFix p m c cc nL s args WALL own) (hG : GW D κ a u A s H locs) (k : Nat) (d : Nat) (q1 : OK u) (q2 : k < AC_count u) (q3 : d ≤ 364) (wl : Cond.methodLink own idx yX7_hadIf ∈ WALL) (hR : 3 + 1 ≤ R.frames ∧ 8 + (5 + 11) + 67 ≤ R.locals) (hls : ls.size = nL) (h8 : (rest.map fun v => v.category).sum ≤ 8) (hd : decode cc pc = .ok (.invokevirtual idx, 3)) (hcs : cs ≤ R.cells ∧ ss ≤ R.slots) (kk : ∀ (H1 : Heap) (locs1 : List Loc), GW D κ a u A s H1 locs1 → W p l e R s m args below meth c H1 locs1 cs ss Q (F0 m (pc + 3) ls (.long (fStO u k - 0) :: rest))) : W p l e R s m args below meth c H locs cs ss Q (F0 m pc ls (.int (nI d) :: .int (nI k) :: .ref (a 0) :: rest)) :=
  tc_l hG (tr_V (n := 2) (k := 0) (ci := 7) (As := [.int (nI k), .int (nI d)]) hC hG (c_T_hadIf l D κ a H.size u k d q1 q2 q3) rfl rfl wl w2 w496 w494 w495 (by decide +kernel) hR rfl hls rfl h8 hd hcs) (fun r u' H1 locs1 hq hG1 => by obtain ⟨rfl, rfl⟩ := hq; exact kk H1 locs1 hG1)

theorem dX7_told_0 : decode cX7_told 0 = .ok (.aload_n 0, 1) := by decide +kernel
theorem dX7_told_1 : decode cX7_told 1 = .ok (.iload_n 1, 1) := by decide +kernel
theorem dX7_told_2 : decode cX7_told 2 = .ok (.invokevirtual 102, 3) := by decide +kernel
theorem dX7_told_40 : decode cX7_told 40 = .ok (.aload_n 0, 1) := by decide +kernel
theorem dX7_told_41 : decode cX7_told 41 = .ok (.getfield 26, 3) := by decide +kernel
theorem dX7_told_44 : decode cX7_told 44 = .ok (.iload_n 1, 1) := by decide +kernel
theorem dX7_told_45 : decode cX7_told 45 = .ok (.sipush 364, 3) := by decide +kernel
theorem dX7_told_48 : decode cX7_told 48 = .ok (.invokevirtual 345, 3) := by decide +kernel
theorem dX7_told_5 : decode cX7_told 5 = .ok (.iload_n 2, 1) := by decide +kernel
theorem dX7_told_51 : decode cX7_told 51 = .ok (.lreturn, 1) := by decide +kernel
theorem dX7_told_52 : decode cX7_told 52 = .ok (.aload_n 0, 1) := by decide +kernel
theorem dX7_told_53 : decode cX7_told 53 = .ok (.iload_n 1, 1) := by decide +kernel
theorem dX7_told_54 : decode cX7_told 54 = .ok (.invokevirtual 109, 3) := by decide +kernel
theorem dX7_told_57 : decode cX7_told 57 = .ok (.lreturn, 1) := by decide +kernel
theorem dX7_told_58 : decode cX7_told 58 = .ok (.aload_n 0, 1) := by decide +kernel
theorem dX7_told_59 : decode cX7_told 59 = .ok (.getfield 26, 3) := by decide +kernel
theorem dX7_told_6 : decode cX7_told 6 = .ok (.tableswitch 85 0 4 #[34, 46, 52, 61, 75], 34) := by decide +kernel
theorem dX7_told_62 : decode cX7_told 62 = .ok (.iload_n 1, 1) := by decide +kernel
theorem dX7_told_63 : decode cX7_told 63 = .ok (.invokevirtual 348, 3) := by decide +kernel
theorem dX7_told_66 : decode cX7_told 66 = .ok (.lreturn, 1) := by decide +kernel
theorem dX7_told_67 : decode cX7_told 67 = .ok (.aload_n 0, 1) := by decide +kernel
theorem dX7_told_68 : decode cX7_told 68 = .ok (.getfield 33, 3) := by decide +kernel
theorem dX7_told_71 : decode cX7_told 71 = .ok (.iload_n 1, 1) := by decide +kernel
theorem dX7_told_72 : decode cX7_told 72 = .ok (.aload_n 0, 1) := by decide +kernel
theorem dX7_told_73 : decode cX7_told 73 = .ok (.getfield 67, 3) := by decide +kernel
theorem dX7_told_76 : decode cX7_told 76 = .ok (.iconst (-1), 1) := by decide +kernel
theorem dX7_told_77 : decode cX7_told 77 = .ok (.invokevirtual 113, 3) := by decide +kernel
theorem dX7_told_80 : decode cX7_told 80 = .ok (.lreturn, 1) := by decide +kernel
theorem dX7_told_81 : decode cX7_told 81 = .ok (.aload_n 0, 1) := by decide +kernel
theorem dX7_told_82 : decode cX7_told 82 = .ok (.iload_n 1, 1) := by decide +kernel
theorem dX7_told_83 : decode cX7_told 83 = .ok (.aload_n 0, 1) := by decide +kernel
theorem dX7_told_84 : decode cX7_told 84 = .ok (.getfield 67, 3) := by decide +kernel
theorem dX7_told_87 : decode cX7_told 87 = .ok (.invokevirtual 248, 3) := by decide +kernel
theorem dX7_told_90 : decode cX7_told 90 = .ok (.lreturn, 1) := by decide +kernel
set_option maxHeartbeats 4000000 in
set_option maxRecDepth 100000 in
theorem c_T_told (l : Launch) (D : va_G) (κ : ClassId × ClassId × ClassId) (a : Nat → Nat) (sz : Nat) (u : TS) (k : Nat) (w : Nat) (q1 : OK u) (q2 : k < AC_count u) (q3 : w ≤ 4) : TM l yX7_told cX7_told 3 (some .long) 4 91 D κ a u sz [.ref (a 0), .int (nI k), .int (nI w)] (QL D κ a sz (fun r u' => r = (fTold u k w) ∧ u' = u)) := by
  refine TM.of (by decide +kernel) (Nat.le_of_ble_eq_true rfl) ?_
  intro p e s m below meth c ls hC hr hk hsz H locs hG hl
  have hx := hC.1
  have hb := hC.2.1
  have hl : lv_has ls 3 [(0, .ref (a 0)), (1, .int (nI k)), (2, .int (nI w))] := hl
  have qok := q1
  have ⟨n1, n2, n3, n4, n5, n6, n7, n8, n9, n10⟩ := qok.n
  refine lv_aload_n hx hb dX7_told_0 rfl (lv_at hl 0 rfl) ?_
  refine lv_iload_n hx hb dX7_told_1 rfl (lv_at hl 1 rfl) ?_
  refine k_T_needAccount hC hG k (q1) (q2) w148 ⟨by decide, by decide⟩ hl.1 (Nat.le_of_ble_eq_true rfl) dX7_told_2 ⟨Nat.zero_le _, Nat.zero_le _⟩ (fun H locs hG => ?_)
  refine lv_iload_n hx hb dX7_told_5 rfl (lv_at hl 2 rfl) ?_
  rcases (show w = 0 ∨ w = 1 ∨ w = 2 ∨ w = 3 ∨ w = 4 from by omega) with h6 | h6 | h6 | h6 | h6
  · refine bt_in (v := 0) (off := 34) (tgt := 40) h6 hx hb dX7_told_6 (by decide) (by decide) (by decide) (by decide) ?_
    refine lv_aload_n hx hb dX7_told_40 rfl (lv_at hl 0 rfl) ?_
    refine gf_T_journal hC hG (hC.2.2.2.2 _ w24) dX7_told_41 ?_
    refine lv_iload_n hx hb dX7_told_44 rfl (lv_at hl 1 rfl) ?_
    refine lv_sipush (v := nI 364) hx hb dX7_told_45 (by decide) ?_
    refine k_J_amountUpTo hC hG k 364 (q1) (by omega) w199 ⟨by decide, by decide⟩ hl.1 (Nat.le_of_ble_eq_true rfl) dX7_told_48 ⟨Nat.zero_le _, Nat.zero_le _⟩ (fun H locs hG => ?_)
    exact te_l hC hG hr hk ⟨(show (fAmt u k 364 (J_legCount u)) = fTold u k w from by simp [fTold, fBal, fStO, h6]), rfl⟩ dX7_told_51
  · refine bt_in (v := 1) (off := 46) (tgt := 52) h6 hx hb dX7_told_6 (by decide) (by decide) (by decide) (by decide) ?_
    refine lv_aload_n hx hb dX7_told_52 rfl (lv_at hl 0 rfl) ?_
    refine lv_iload_n hx hb dX7_told_53 rfl (lv_at hl 1 rfl) ?_
    refine k_T_standOf hC hG k (q1) (q2) w489 ⟨by decide, by decide⟩ hl.1 (Nat.le_of_ble_eq_true rfl) dX7_told_54 ⟨Nat.zero_le _, Nat.zero_le _⟩ (fun H locs hG => ?_)
    exact te_l hC hG hr hk ⟨(show (fStO u k) = fTold u k w from by simp [fTold, fBal, fStO, h6]), rfl⟩ dX7_told_57
  · refine bt_in (v := 2) (off := 52) (tgt := 58) h6 hx hb dX7_told_6 (by decide) (by decide) (by decide) (by decide) ?_
    refine lv_aload_n hx hb dX7_told_58 rfl (lv_at hl 0 rfl) ?_
    refine gf_T_journal hC hG (hC.2.2.2.2 _ w24) dX7_told_59 ?_
    refine lv_iload_n hx hb dX7_told_62 rfl (lv_at hl 1 rfl) ?_
    refine k_J_worthOn hC hG k (q1) (by omega) w466 ⟨by decide, by decide⟩ hl.1 (Nat.le_of_ble_eq_true rfl) dX7_told_63 ⟨Nat.zero_le _, Nat.zero_le _⟩ (fun H locs hG => ?_)
    exact te_l hC hG hr hk ⟨(show (fWor u k (J_legCount u)) = fTold u k w from by simp [fTold, fBal, fStO, h6]), rfl⟩ dX7_told_66
  · refine bt_in (v := 3) (off := 61) (tgt := 67) h6 hx hb dX7_told_6 (by decide) (by decide) (by decide) (by decide) ?_
    refine lv_aload_n hx hb dX7_told_67 rfl (lv_at hl 0 rfl) ?_
    refine gf_T_holds hC hG (hC.2.2.2.2 _ w28) dX7_told_68 ?_
    refine lv_iload_n hx hb dX7_told_71 rfl (lv_at hl 1 rfl) ?_
    refine lv_aload_n hx hb dX7_told_72 rfl (lv_at hl 0 rfl) ?_
    refine gf_T_today hC hG (hC.2.2.2.2 _ w43) dX7_told_73 ?_
    refine lv_iconst (v := -1) hx hb dX7_told_76 (by decide) ?_
    refine W.eq (g2 := F0 m 77 ls [.int (oI none), .int (nI (T_today u)), .int (nI k), .ref (a 6)]) rfl ?_
    refine k_HO_heldOn hC hG k (T_today u) none (by omega) w449 ⟨by decide, by decide⟩ hl.1 (Nat.le_of_ble_eq_true rfl) dX7_told_77 ⟨Nat.zero_le _, Nat.zero_le _⟩ (fun H locs hG => ?_)
    exact te_l hC hG hr hk ⟨(show ((0 : Int64)) = fTold u k w from by simp [fTold, fBal, fStO, h6]), rfl⟩ dX7_told_80
  · refine bt_in (v := 4) (off := 75) (tgt := 81) h6 hx hb dX7_told_6 (by decide) (by decide) (by decide) (by decide) ?_
    refine lv_aload_n hx hb dX7_told_81 rfl (lv_at hl 0 rfl) ?_
    refine lv_iload_n hx hb dX7_told_82 rfl (lv_at hl 1 rfl) ?_
    refine lv_aload_n hx hb dX7_told_83 rfl (lv_at hl 0 rfl) ?_
    refine gf_T_today hC hG (hC.2.2.2.2 _ w43) dX7_told_84 ?_
    refine k_T_hadIf hC hG k (T_today u) (q1) (q2) (by omega) w493 ⟨by decide, by decide⟩ hl.1 (Nat.le_of_ble_eq_true rfl) dX7_told_87 ⟨Nat.zero_le _, Nat.zero_le _⟩ (fun H locs hG => ?_)
    exact te_l hC hG hr hk ⟨(show (fStO u k - 0) = fTold u k w from by simp [fTold, fBal, fStO, h6]), rfl⟩ dX7_told_90
theorem k_T_told {p : Program} {l : Launch} {e : Env} {R : Room} {s : State} {m : MethodId} {args : Array Value} {below : List Frame} {meth : Method} {c : Code} {H : Heap} {locs : List Loc} {cs ss : Nat} {Q : State → Prop} {cc : ByteArray} {nL pc : Nat} {ls : Array Slot} {rest : List Value} {own : String} {idx : Nat} {D : va_G} {κ : ClassId × ClassId × ClassId} {a : Nat → Nat} {u : TS} {A : Nat → Prop} (hC : CallFix p m c cc nL s args WALL own) (hG : GW D κ a u A s H locs) (k : Nat) (w : Nat) (q1 : OK u) (q2 : k < AC_count u) (q3 : w ≤ 4) (wl : Cond.methodLink own idx yX7_told ∈ WALL) (hR : 4 + 1 ≤ R.frames ∧ 8 + (3 + 11) + 91 ≤ R.locals) (hls : ls.size = nL) (h8 : (rest.map fun v => v.category).sum ≤ 8) (hd : decode cc pc = .ok (.invokevirtual idx, 3)) (hcs : cs ≤ R.cells ∧ ss ≤ R.slots) (kk : ∀ (H1 : Heap) (locs1 : List Loc), GW D κ a u A s H1 locs1 → W p l e R s m args below meth c H1 locs1 cs ss Q (F0 m (pc + 3) ls (.long (fTold u k w) :: rest))) : W p l e R s m args below meth c H locs cs ss Q (F0 m pc ls (.int (nI w) :: .int (nI k) :: .ref (a 0) :: rest)) :=
  tc_l hG (tr_V (n := 2) (k := 0) (ci := 7) (As := [.int (nI k), .int (nI w)]) hC hG (c_T_told l D κ a H.size u k w q1 q2 q3) rfl rfl wl w2 w488 w486 w487 (by decide +kernel) hR rfl hls rfl h8 hd hcs) (fun r u' H1 locs1 hq hG1 => by obtain ⟨rfl, rfl⟩ := hq; exact kk H1 locs1 hG1)

theorem dX7_at_0 : decode cX7_at 0 = .ok (.aload_n 0, 1) := by decide +kernel
theorem dX7_at_1 : decode cX7_at 1 = .ok (.iload_n 1, 1) := by decide +kernel
theorem dX7_at_10 : decode cX7_at 10 = .ok (.getfield 26, 3) := by decide +kernel
theorem dX7_at_13 : decode cX7_at 13 = .ok (.iload_n 1, 1) := by decide +kernel
theorem dX7_at_14 : decode cX7_at 14 = .ok (.iload_n 2, 1) := by decide +kernel
theorem dX7_at_15 : decode cX7_at 15 = .ok (.invokevirtual 345, 3) := by decide +kernel
theorem dX7_at_18 : decode cX7_at 18 = .ok (.lreturn, 1) := by decide +kernel
theorem dX7_at_2 : decode cX7_at 2 = .ok (.invokevirtual 102, 3) := by decide +kernel
theorem dX7_at_5 : decode cX7_at 5 = .ok (.iload_n 2, 1) := by decide +kernel
theorem dX7_at_6 : decode cX7_at 6 = .ok (.invokestatic 133, 3) := by decide +kernel
theorem dX7_at_9 : decode cX7_at 9 = .ok (.aload_n 0, 1) := by decide +kernel
set_option maxHeartbeats 4000000 in
set_option maxRecDepth 100000 in
theorem c_T_at (l : Launch) (D : va_G) (κ : ClassId × ClassId × ClassId) (a : Nat → Nat) (sz : Nat) (u : TS) (k : Nat) (d : Nat) (q1 : OK u) (q2 : k < AC_count u) (q3 : d ≤ 364) : TM l yX7_at cX7_at 3 (some .long) 2 46 D κ a u sz [.ref (a 0), .int (nI k), .int (nI d)] (QL D κ a sz (fun r u' => r = (fAmt u k d (J_legCount u)) ∧ u' = u)) := by
  refine TM.of (by decide +kernel) (Nat.le_of_ble_eq_true rfl) ?_
  intro p e s m below meth c ls hC hr hk hsz H locs hG hl
  have hx := hC.1
  have hb := hC.2.1
  have hl : lv_has ls 3 [(0, .ref (a 0)), (1, .int (nI k)), (2, .int (nI d))] := hl
  have qok := q1
  have ⟨n1, n2, n3, n4, n5, n6, n7, n8, n9, n10⟩ := qok.n
  refine lv_aload_n hx hb dX7_at_0 rfl (lv_at hl 0 rfl) ?_
  refine lv_iload_n hx hb dX7_at_1 rfl (lv_at hl 1 rfl) ?_
  refine k_T_needAccount hC hG k (q1) (q2) w148 ⟨by decide, by decide⟩ hl.1 (Nat.le_of_ble_eq_true rfl) dX7_at_2 ⟨Nat.zero_le _, Nat.zero_le _⟩ (fun H locs hG => ?_)
  refine lv_iload_n hx hb dX7_at_5 rfl (lv_at hl 2 rfl) ?_
  refine k_S_needDay hC hG d (q3) w187 ⟨by decide, by decide⟩ hl.1 (Nat.le_of_ble_eq_true rfl) dX7_at_6 ⟨Nat.zero_le _, Nat.zero_le _⟩ (fun H locs hG => ?_)
  refine lv_aload_n hx hb dX7_at_9 rfl (lv_at hl 0 rfl) ?_
  refine gf_T_journal hC hG (hC.2.2.2.2 _ w24) dX7_at_10 ?_
  refine lv_iload_n hx hb dX7_at_13 rfl (lv_at hl 1 rfl) ?_
  refine lv_iload_n hx hb dX7_at_14 rfl (lv_at hl 2 rfl) ?_
  refine k_J_amountUpTo hC hG k d (q1) (by omega) w199 ⟨by decide, by decide⟩ hl.1 (Nat.le_of_ble_eq_true rfl) dX7_at_15 ⟨Nat.zero_le _, Nat.zero_le _⟩ (fun H locs hG => ?_)
  exact te_l hC hG hr hk ⟨rfl, rfl⟩ dX7_at_18
theorem k_T_at {p : Program} {l : Launch} {e : Env} {R : Room} {s : State} {m : MethodId} {args : Array Value} {below : List Frame} {meth : Method} {c : Code} {H : Heap} {locs : List Loc} {cs ss : Nat} {Q : State → Prop} {cc : ByteArray} {nL pc : Nat} {ls : Array Slot} {rest : List Value} {own : String} {idx : Nat} {D : va_G} {κ : ClassId × ClassId × ClassId} {a : Nat → Nat} {u : TS} {A : Nat → Prop} (hC : CallFix p m c cc nL s args WALL own) (hG : GW D κ a u A s H locs) (k : Nat) (d : Nat) (q1 : OK u) (q2 : k < AC_count u) (q3 : d ≤ 364) (wl : Cond.methodLink own idx yX7_at ∈ WALL) (hR : 2 + 1 ≤ R.frames ∧ 8 + (3 + 11) + 46 ≤ R.locals) (hls : ls.size = nL) (h8 : (rest.map fun v => v.category).sum ≤ 8) (hd : decode cc pc = .ok (.invokevirtual idx, 3)) (hcs : cs ≤ R.cells ∧ ss ≤ R.slots) (kk : ∀ (H1 : Heap) (locs1 : List Loc), GW D κ a u A s H1 locs1 → W p l e R s m args below meth c H1 locs1 cs ss Q (F0 m (pc + 3) ls (.long (fAmt u k d (J_legCount u)) :: rest))) : W p l e R s m args below meth c H locs cs ss Q (F0 m pc ls (.int (nI d) :: .int (nI k) :: .ref (a 0) :: rest)) :=
  tc_l hG (tr_V (n := 2) (k := 0) (ci := 7) (As := [.int (nI k), .int (nI d)]) hC hG (c_T_at l D κ a H.size u k d q1 q2 q3) rfl rfl wl w2 w515 w513 w514 (by decide +kernel) hR rfl hls rfl h8 hd hcs) (fun r u' H1 locs1 hq hG1 => by obtain ⟨rfl, rfl⟩ := hq; exact kk H1 locs1 hG1)

theorem dX7_left_0 : decode cX7_left 0 = .ok (.aload_n 0, 1) := by decide +kernel
theorem dX7_left_1 : decode cX7_left 1 = .ok (.iload_n 1, 1) := by decide +kernel
theorem dX7_left_2 : decode cX7_left 2 = .ok (.invokevirtual 102, 3) := by decide +kernel
theorem dX7_left_40 : decode cX7_left 40 = .ok (.aload_n 0, 1) := by decide +kernel
theorem dX7_left_41 : decode cX7_left 41 = .ok (.getfield 40, 3) := by decide +kernel
theorem dX7_left_44 : decode cX7_left 44 = .ok (.iload_n 1, 1) := by decide +kernel
theorem dX7_left_45 : decode cX7_left 45 = .ok (.invokevirtual 311, 3) := by decide +kernel
theorem dX7_left_48 : decode cX7_left 48 = .ok (.i2l, 1) := by decide +kernel
theorem dX7_left_49 : decode cX7_left 49 = .ok (.lreturn, 1) := by decide +kernel
theorem dX7_left_5 : decode cX7_left 5 = .ok (.iload_n 2, 1) := by decide +kernel
theorem dX7_left_50 : decode cX7_left 50 = .ok (.aload_n 0, 1) := by decide +kernel
theorem dX7_left_51 : decode cX7_left 51 = .ok (.getfield 49, 3) := by decide +kernel
theorem dX7_left_54 : decode cX7_left 54 = .ok (.iload_n 1, 1) := by decide +kernel
theorem dX7_left_55 : decode cX7_left 55 = .ok (.invokevirtual 315, 3) := by decide +kernel
theorem dX7_left_58 : decode cX7_left 58 = .ok (.i2l, 1) := by decide +kernel
theorem dX7_left_59 : decode cX7_left 59 = .ok (.lreturn, 1) := by decide +kernel
theorem dX7_left_6 : decode cX7_left 6 = .ok (.tableswitch 82 0 4 #[34, 44, 54, 64, 73], 34) := by decide +kernel
theorem dX7_left_60 : decode cX7_left 60 = .ok (.aload_n 0, 1) := by decide +kernel
theorem dX7_left_61 : decode cX7_left 61 = .ok (.getfield 49, 3) := by decide +kernel
theorem dX7_left_64 : decode cX7_left 64 = .ok (.iload_n 1, 1) := by decide +kernel
theorem dX7_left_65 : decode cX7_left 65 = .ok (.invokevirtual 318, 3) := by decide +kernel
theorem dX7_left_68 : decode cX7_left 68 = .ok (.i2l, 1) := by decide +kernel
theorem dX7_left_69 : decode cX7_left 69 = .ok (.lreturn, 1) := by decide +kernel
theorem dX7_left_70 : decode cX7_left 70 = .ok (.aload_n 0, 1) := by decide +kernel
theorem dX7_left_71 : decode cX7_left 71 = .ok (.getfield 49, 3) := by decide +kernel
theorem dX7_left_74 : decode cX7_left 74 = .ok (.iload_n 1, 1) := by decide +kernel
theorem dX7_left_75 : decode cX7_left 75 = .ok (.invokevirtual 321, 3) := by decide +kernel
theorem dX7_left_78 : decode cX7_left 78 = .ok (.lreturn, 1) := by decide +kernel
theorem dX7_left_79 : decode cX7_left 79 = .ok (.aload_n 0, 1) := by decide +kernel
theorem dX7_left_80 : decode cX7_left 80 = .ok (.getfield 49, 3) := by decide +kernel
theorem dX7_left_83 : decode cX7_left 83 = .ok (.iload_n 1, 1) := by decide +kernel
theorem dX7_left_84 : decode cX7_left 84 = .ok (.invokevirtual 324, 3) := by decide +kernel
theorem dX7_left_87 : decode cX7_left 87 = .ok (.lreturn, 1) := by decide +kernel
set_option maxHeartbeats 4000000 in
set_option maxRecDepth 100000 in
theorem c_T_left (l : Launch) (D : va_G) (κ : ClassId × ClassId × ClassId) (a : Nat → Nat) (sz : Nat) (u : TS) (k : Nat) (w : Nat) (q1 : OK u) (q2 : k < AC_count u) (q3 : w ≤ 4) : TM l yX7_left cX7_left 3 (some .long) 3 67 D κ a u sz [.ref (a 0), .int (nI k), .int (nI w)] (QL D κ a sz (fun r u' => r = (fLeft u k w) ∧ u' = u)) := by
  refine TM.of (by decide +kernel) (Nat.le_of_ble_eq_true rfl) ?_
  intro p e s m below meth c ls hC hr hk hsz H locs hG hl
  have hx := hC.1
  have hb := hC.2.1
  have hl : lv_has ls 3 [(0, .ref (a 0)), (1, .int (nI k)), (2, .int (nI w))] := hl
  have qok := q1
  have ⟨n1, n2, n3, n4, n5, n6, n7, n8, n9, n10⟩ := qok.n
  refine lv_aload_n hx hb dX7_left_0 rfl (lv_at hl 0 rfl) ?_
  refine lv_iload_n hx hb dX7_left_1 rfl (lv_at hl 1 rfl) ?_
  refine k_T_needAccount hC hG k (q1) (q2) w148 ⟨by decide, by decide⟩ hl.1 (Nat.le_of_ble_eq_true rfl) dX7_left_2 ⟨Nat.zero_le _, Nat.zero_le _⟩ (fun H locs hG => ?_)
  refine lv_iload_n hx hb dX7_left_5 rfl (lv_at hl 2 rfl) ?_
  rcases (show w = 0 ∨ w = 1 ∨ w = 2 ∨ w = 3 ∨ w = 4 from by omega) with h6 | h6 | h6 | h6 | h6
  · refine bt_in (v := 0) (off := 34) (tgt := 40) h6 hx hb dX7_left_6 (by decide) (by decide) (by decide) (by decide) ?_
    refine lv_aload_n hx hb dX7_left_40 rfl (lv_at hl 0 rfl) ?_
    refine gf_T_lines hC hG (hC.2.2.2.2 _ w32) dX7_left_41 ?_
    refine lv_iload_n hx hb dX7_left_44 rfl (lv_at hl 1 rfl) ?_
    refine k_LI_countOf hC hG k (q1) (by omega) w381 ⟨by decide, by decide⟩ hl.1 (Nat.le_of_ble_eq_true rfl) dX7_left_45 ⟨Nat.zero_le _, Nat.zero_le _⟩ (fun H locs hG => ?_)
    refine lv_i2l hx hb dX7_left_48 rfl ?_
    exact te_l hC hG hr hk ⟨(show ((nI (fLCnt u k (LI_count u))).toInt64) = fLeft u k w from by simp [fLeft, h6]), rfl⟩ dX7_left_49
  · refine bt_in (v := 1) (off := 44) (tgt := 50) h6 hx hb dX7_left_6 (by decide) (by decide) (by decide) (by decide) ?_
    refine lv_aload_n hx hb dX7_left_50 rfl (lv_at hl 0 rfl) ?_
    refine gf_T_kept hC hG (hC.2.2.2.2 _ w36) dX7_left_51 ?_
    refine lv_iload_n hx hb dX7_left_54 rfl (lv_at hl 1 rfl) ?_
    refine k_M0_linesLeft hC hG k (q1) (by omega) w382 ⟨by decide, by decide⟩ hl.1 (Nat.le_of_ble_eq_true rfl) dX7_left_55 ⟨Nat.zero_le _, Nat.zero_le _⟩ (fun H locs hG => ?_)
    refine lv_i2l hx hb dX7_left_58 rfl ?_
    exact te_l hC hG hr hk ⟨(show ((nI (fLLeft 0 u k (LI_count u))).toInt64) = fLeft u k w from by simp [fLeft, h6]), rfl⟩ dX7_left_59
  · refine bt_in (v := 2) (off := 54) (tgt := 60) h6 hx hb dX7_left_6 (by decide) (by decide) (by decide) (by decide) ?_
    refine lv_aload_n hx hb dX7_left_60 rfl (lv_at hl 0 rfl) ?_
    refine gf_T_kept hC hG (hC.2.2.2.2 _ w36) dX7_left_61 ?_
    refine lv_iload_n hx hb dX7_left_64 rfl (lv_at hl 1 rfl) ?_
    refine k_M0_legsLeft hC hG k (q1) (by omega) w383 ⟨by decide, by decide⟩ hl.1 (Nat.le_of_ble_eq_true rfl) dX7_left_65 ⟨Nat.zero_le _, Nat.zero_le _⟩ (fun H locs hG => ?_)
    refine lv_i2l hx hb dX7_left_68 rfl ?_
    exact te_l hC hG hr hk ⟨(show ((nI (fGLeft 0 u k (J_legCount u))).toInt64) = fLeft u k w from by simp [fLeft, h6]), rfl⟩ dX7_left_69
  · refine bt_in (v := 3) (off := 64) (tgt := 70) h6 hx hb dX7_left_6 (by decide) (by decide) (by decide) (by decide) ?_
    refine lv_aload_n hx hb dX7_left_70 rfl (lv_at hl 0 rfl) ?_
    refine gf_T_kept hC hG (hC.2.2.2.2 _ w36) dX7_left_71 ?_
    refine lv_iload_n hx hb dX7_left_74 rfl (lv_at hl 1 rfl) ?_
    refine k_M0_lineSumLeft hC hG k (q1) (by omega) w387 ⟨by decide, by decide⟩ hl.1 (Nat.le_of_ble_eq_true rfl) dX7_left_75 ⟨Nat.zero_le _, Nat.zero_le _⟩ (fun H locs hG => ?_)
    exact te_l hC hG hr hk ⟨(show (fLSum 0 u k (LI_count u)) = fLeft u k w from by simp [fLeft, h6]), rfl⟩ dX7_left_78
  · refine bt_in (v := 4) (off := 73) (tgt := 79) h6 hx hb dX7_left_6 (by decide) (by decide) (by decide) (by decide) ?_
    refine lv_aload_n hx hb dX7_left_79 rfl (lv_at hl 0 rfl) ?_
    refine gf_T_kept hC hG (hC.2.2.2.2 _ w36) dX7_left_80 ?_
    refine lv_iload_n hx hb dX7_left_83 rfl (lv_at hl 1 rfl) ?_
    refine k_M0_legSumLeft hC hG k (q1) (by omega) w391 ⟨by decide, by decide⟩ hl.1 (Nat.le_of_ble_eq_true rfl) dX7_left_84 ⟨Nat.zero_le _, Nat.zero_le _⟩ (fun H locs hG => ?_)
    exact te_l hC hG hr hk ⟨(show (fGSum 0 u k (J_legCount u)) = fLeft u k w from by simp [fLeft, h6]), rfl⟩ dX7_left_87
theorem k_T_left {p : Program} {l : Launch} {e : Env} {R : Room} {s : State} {m : MethodId} {args : Array Value} {below : List Frame} {meth : Method} {c : Code} {H : Heap} {locs : List Loc} {cs ss : Nat} {Q : State → Prop} {cc : ByteArray} {nL pc : Nat} {ls : Array Slot} {rest : List Value} {own : String} {idx : Nat} {D : va_G} {κ : ClassId × ClassId × ClassId} {a : Nat → Nat} {u : TS} {A : Nat → Prop} (hC : CallFix p m c cc nL s args WALL own) (hG : GW D κ a u A s H locs) (k : Nat) (w : Nat) (q1 : OK u) (q2 : k < AC_count u) (q3 : w ≤ 4) (wl : Cond.methodLink own idx yX7_left ∈ WALL) (hR : 3 + 1 ≤ R.frames ∧ 8 + (3 + 11) + 67 ≤ R.locals) (hls : ls.size = nL) (h8 : (rest.map fun v => v.category).sum ≤ 8) (hd : decode cc pc = .ok (.invokevirtual idx, 3)) (hcs : cs ≤ R.cells ∧ ss ≤ R.slots) (kk : ∀ (H1 : Heap) (locs1 : List Loc), GW D κ a u A s H1 locs1 → W p l e R s m args below meth c H1 locs1 cs ss Q (F0 m (pc + 3) ls (.long (fLeft u k w) :: rest))) : W p l e R s m args below meth c H locs cs ss Q (F0 m pc ls (.int (nI w) :: .int (nI k) :: .ref (a 0) :: rest)) :=
  tc_l hG (tr_V (n := 2) (k := 0) (ci := 7) (As := [.int (nI k), .int (nI w)]) hC hG (c_T_left l D κ a H.size u k w q1 q2 q3) rfl rfl wl w2 w380 w378 w379 (by decide +kernel) hR rfl hls rfl h8 hd hcs) (fun r u' H1 locs1 hq hG1 => by obtain ⟨rfl, rfl⟩ := hq; exact kk H1 locs1 hG1)

theorem dX7_matched_0 : decode cX7_matched 0 = .ok (.iload_n 1, 1) := by decide +kernel
theorem dX7_matched_1 : decode cX7_matched 1 = .ok (.ifCond .lt 14, 3) := by decide +kernel
theorem dX7_matched_12 : decode cX7_matched 12 = .ok (.if_icmp .lt 14, 3) := by decide +kernel
theorem dX7_matched_26 : decode cX7_matched 26 = .ok (.aload_n 0, 1) := by decide +kernel
theorem dX7_matched_27 : decode cX7_matched 27 = .ok (.getfield 49, 3) := by decide +kernel
theorem dX7_matched_30 : decode cX7_matched 30 = .ok (.getfield 331, 3) := by decide +kernel
theorem dX7_matched_33 : decode cX7_matched 33 = .ok (.iload_n 1, 1) := by decide +kernel
theorem dX7_matched_34 : decode cX7_matched 34 = .ok (.iaload, 1) := by decide +kernel
theorem dX7_matched_35 : decode cX7_matched 35 = .ok (.istore_n 2, 1) := by decide +kernel
theorem dX7_matched_36 : decode cX7_matched 36 = .ok (.iload_n 2, 1) := by decide +kernel
theorem dX7_matched_37 : decode cX7_matched 37 = .ok (.iconst (-1), 1) := by decide +kernel
theorem dX7_matched_38 : decode cX7_matched 38 = .ok (.if_icmp .ne 7, 3) := by decide +kernel
theorem dX7_matched_4 : decode cX7_matched 4 = .ok (.iload_n 1, 1) := by decide +kernel
theorem dX7_matched_41 : decode cX7_matched 41 = .ok (.iconst (-1), 1) := by decide +kernel
theorem dX7_matched_42 : decode cX7_matched 42 = .ok (.goto 12, 3) := by decide +kernel
theorem dX7_matched_45 : decode cX7_matched 45 = .ok (.aload_n 0, 1) := by decide +kernel
theorem dX7_matched_46 : decode cX7_matched 46 = .ok (.getfield 26, 3) := by decide +kernel
theorem dX7_matched_49 : decode cX7_matched 49 = .ok (.getfield 334, 3) := by decide +kernel
theorem dX7_matched_5 : decode cX7_matched 5 = .ok (.aload_n 0, 1) := by decide +kernel
theorem dX7_matched_52 : decode cX7_matched 52 = .ok (.iload_n 2, 1) := by decide +kernel
theorem dX7_matched_53 : decode cX7_matched 53 = .ok (.iaload, 1) := by decide +kernel
theorem dX7_matched_54 : decode cX7_matched 54 = .ok (.ireturn, 1) := by decide +kernel
theorem dX7_matched_6 : decode cX7_matched 6 = .ok (.getfield 40, 3) := by decide +kernel
theorem dX7_matched_9 : decode cX7_matched 9 = .ok (.getfield 301, 3) := by decide +kernel
set_option maxHeartbeats 4000000 in
set_option maxRecDepth 100000 in
theorem c_T_matched (l : Launch) (D : va_G) (κ : ClassId × ClassId × ClassId) (a : Nat → Nat) (sz : Nat) (u : TS) (x : Nat) (q1 : OK u) (q2 : x < LI_count u) : TM l yX7_matched cX7_matched 3 (some .int) 0 0 D κ a u sz [.ref (a 0), .int (nI x)] (QI D κ a sz (fun r u' => r = (oI (fMatched u x)) ∧ u' = u)) := by
  refine TM.of (by decide +kernel) (Nat.le_of_ble_eq_true rfl) ?_
  intro p e s m below meth c ls hC hr hk hsz H locs hG hl
  have hx := hC.1
  have hb := hC.2.1
  have hl : lv_has ls 3 [(0, .ref (a 0)), (1, .int (nI x))] := hl
  have qok := q1
  have ⟨n1, n2, n3, n4, n5, n6, n7, n8, n9, n10⟩ := qok.n
  have k1 := q1.m0.2.1 x
  refine lv_iload_n hx hb dX7_matched_0 rfl (lv_at hl 1 rfl) ?_
  refine bz_lt_f (tgt := 15) hx hb (by omega) dX7_matched_1 (by decide) ?_
  refine lv_iload_n hx hb dX7_matched_4 rfl (lv_at hl 1 rfl) ?_
  refine lv_aload_n hx hb dX7_matched_5 rfl (lv_at hl 0 rfl) ?_
  refine gf_T_lines hC hG (hC.2.2.2.2 _ w32) dX7_matched_6 ?_
  refine gf_LI_count hC hG (hC.2.2.2.2 _ w162) dX7_matched_9 ?_
  refine bn_lt_t (tgt := 26) hx hb (by omega) (by omega) dX7_matched_12 (by decide) (q2) ?_
  refine lv_aload_n hx hb dX7_matched_26 rfl (lv_at hl 0 rfl) ?_
  refine gf_T_kept hC hG (hC.2.2.2.2 _ w36) dX7_matched_27 ?_
  refine gf_M0_firstOfLine hC hG (hC.2.2.2.2 _ w508) dX7_matched_30 ?_
  refine lv_iload_n hx hb dX7_matched_33 rfl (lv_at hl 1 rfl) ?_
  refine al_M0_firstOfLine hC hG (by omega) dX7_matched_34 ?_
  refine lv_istore_n (lv' := [(2, .int (oI (M0_firstOfLine u x))), (0, .ref (a 0)), (1, .int (nI x))]) hx hb dX7_matched_35 rfl hl (by decide) rfl (fun ls hl => ?_)
  refine lv_iload_n hx hb dX7_matched_36 rfl (lv_at hl 0 rfl) ?_
  refine lv_iconst (v := -1) hx hb dX7_matched_37 (by decide) ?_
  refine bo_ne (tgt := 45) hx hb (by intro j9 e9; have := k1 j9 e9; omega) dX7_matched_38 (by decide) (fun h38 => ?_) (fun h38 => ?_)
  · obtain ⟨j, ej⟩ := Option.ne_none_iff_exists'.mp h38
    have k2 := k1 j ej
    have k3 := q1.leg k2
    have hl : lv_has ls 3 [(2, .int (nI j)), (0, .ref (a 0)), (1, .int (nI x))] := by rw [ej] at hl; exact hl
    refine lv_aload_n hx hb dX7_matched_45 rfl (lv_at hl 1 rfl) ?_
    refine gf_T_journal hC hG (hC.2.2.2.2 _ w24) dX7_matched_46 ?_
    refine gf_J_entryOf hC hG (hC.2.2.2.2 _ w509) dX7_matched_49 ?_
    refine lv_iload_n hx hb dX7_matched_52 rfl (lv_at hl 0 rfl) ?_
    refine al_J_entryOf hC hG (by omega) dX7_matched_53 ?_
    exact te_i (v := (oI (some (J_entryOf u j)))) hC hG hr hk ⟨(congrArg oI (show (some (J_entryOf u j)) = fMatched u x from by unfold fMatched; rw [show mFi 0 u x = _ from ej]; rfl)), rfl⟩ dX7_matched_54
  · refine lv_iconst (v := -1) hx hb dX7_matched_41 (by decide) ?_
    refine lv_goto (tgt := 54) hx hb dX7_matched_42 (by decide) ?_
    exact te_i (v := (oI none)) hC hG hr hk ⟨(congrArg oI (show none = fMatched u x from by unfold fMatched; rw [show mFi 0 u x = _ from h38]; rfl)), rfl⟩ dX7_matched_54
theorem k_T_matched {p : Program} {l : Launch} {e : Env} {R : Room} {s : State} {m : MethodId} {args : Array Value} {below : List Frame} {meth : Method} {c : Code} {H : Heap} {locs : List Loc} {cs ss : Nat} {Q : State → Prop} {cc : ByteArray} {nL pc : Nat} {ls : Array Slot} {rest : List Value} {own : String} {idx : Nat} {D : va_G} {κ : ClassId × ClassId × ClassId} {a : Nat → Nat} {u : TS} {A : Nat → Prop} (hC : CallFix p m c cc nL s args WALL own) (hG : GW D κ a u A s H locs) (x : Nat) (q1 : OK u) (q2 : x < LI_count u) (wl : Cond.methodLink own idx yX7_matched ∈ WALL) (hR : 0 + 1 ≤ R.frames ∧ 8 + (3 + 11) + 0 ≤ R.locals) (hls : ls.size = nL) (h8 : (rest.map fun v => v.category).sum ≤ 8) (hd : decode cc pc = .ok (.invokevirtual idx, 3)) (hcs : cs ≤ R.cells ∧ ss ≤ R.slots) (kk : ∀ (H1 : Heap) (locs1 : List Loc), GW D κ a u A s H1 locs1 → W p l e R s m args below meth c H1 locs1 cs ss Q (F0 m (pc + 3) ls (.int (oI (fMatched u x)) :: rest))) : W p l e R s m args below meth c H locs cs ss Q (F0 m pc ls (.int (nI x) :: .ref (a 0) :: rest)) :=
  tc_i hG (tr_V (n := 1) (k := 0) (ci := 7) (As := [.int (nI x)]) hC hG (c_T_matched l D κ a H.size u x q1 q2) rfl rfl wl w2 w507 w505 w506 (by decide +kernel) hR rfl hls rfl h8 hd hcs) (fun r u' H1 locs1 hq hG1 => by obtain ⟨rfl, rfl⟩ := hq; exact kk H1 locs1 hG1)

theorem dX7_ofKind_0 : decode cX7_ofKind 0 = .ok (.iload_n 1, 1) := by decide +kernel
theorem dX7_ofKind_1 : decode cX7_ofKind 1 = .ok (.ifCond .lt 8, 3) := by decide +kernel
theorem dX7_ofKind_20 : decode cX7_ofKind 20 = .ok (.lconst 0, 1) := by decide +kernel
theorem dX7_ofKind_21 : decode cX7_ofKind 21 = .ok (.lstore_n 2, 1) := by decide +kernel
theorem dX7_ofKind_22 : decode cX7_ofKind 22 = .ok (.iconst 0, 1) := by decide +kernel
theorem dX7_ofKind_23 : decode cX7_ofKind 23 = .ok (.istore 4, 2) := by decide +kernel
theorem dX7_ofKind_25 : decode cX7_ofKind 25 = .ok (.iload 4, 2) := by decide +kernel
theorem dX7_ofKind_27 : decode cX7_ofKind 27 = .ok (.aload_n 0, 1) := by decide +kernel
theorem dX7_ofKind_28 : decode cX7_ofKind 28 = .ok (.getfield 12, 3) := by decide +kernel
theorem dX7_ofKind_31 : decode cX7_ofKind 31 = .ok (.getfield 93, 3) := by decide +kernel
theorem dX7_ofKind_34 : decode cX7_ofKind 34 = .ok (.if_icmp .ge 35, 3) := by decide +kernel
theorem dX7_ofKind_37 : decode cX7_ofKind 37 = .ok (.aload_n 0, 1) := by decide +kernel
theorem dX7_ofKind_38 : decode cX7_ofKind 38 = .ok (.getfield 12, 3) := by decide +kernel
theorem dX7_ofKind_4 : decode cX7_ofKind 4 = .ok (.iload_n 1, 1) := by decide +kernel
theorem dX7_ofKind_41 : decode cX7_ofKind 41 = .ok (.getfield 239, 3) := by decide +kernel
theorem dX7_ofKind_44 : decode cX7_ofKind 44 = .ok (.iload 4, 2) := by decide +kernel
theorem dX7_ofKind_46 : decode cX7_ofKind 46 = .ok (.iaload, 1) := by decide +kernel
theorem dX7_ofKind_47 : decode cX7_ofKind 47 = .ok (.iload_n 1, 1) := by decide +kernel
theorem dX7_ofKind_48 : decode cX7_ofKind 48 = .ok (.if_icmp .ne 15, 3) := by decide +kernel
theorem dX7_ofKind_5 : decode cX7_ofKind 5 = .ok (.iconst 4, 1) := by decide +kernel
theorem dX7_ofKind_51 : decode cX7_ofKind 51 = .ok (.lload_n 2, 1) := by decide +kernel
theorem dX7_ofKind_52 : decode cX7_ofKind 52 = .ok (.aload_n 0, 1) := by decide +kernel
theorem dX7_ofKind_53 : decode cX7_ofKind 53 = .ok (.getfield 26, 3) := by decide +kernel
theorem dX7_ofKind_56 : decode cX7_ofKind 56 = .ok (.iload 4, 2) := by decide +kernel
theorem dX7_ofKind_58 : decode cX7_ofKind 58 = .ok (.invokevirtual 348, 3) := by decide +kernel
theorem dX7_ofKind_6 : decode cX7_ofKind 6 = .ok (.if_icmp .le 14, 3) := by decide +kernel
theorem dX7_ofKind_61 : decode cX7_ofKind 61 = .ok (.ladd, 1) := by decide +kernel
theorem dX7_ofKind_62 : decode cX7_ofKind 62 = .ok (.lstore_n 2, 1) := by decide +kernel
theorem dX7_ofKind_63 : decode cX7_ofKind 63 = .ok (.iinc 4 1, 3) := by decide +kernel
theorem dX7_ofKind_66 : decode cX7_ofKind 66 = .ok (.goto (-41), 3) := by decide +kernel
theorem dX7_ofKind_69 : decode cX7_ofKind 69 = .ok (.lload_n 2, 1) := by decide +kernel
theorem dX7_ofKind_70 : decode cX7_ofKind 70 = .ok (.lreturn, 1) := by decide +kernel
set_option maxHeartbeats 4000000 in
set_option maxRecDepth 100000 in
theorem c_T_ofKind (l : Launch) (D : va_G) (κ : ClassId × ClassId × ClassId) (a : Nat → Nat) (sz : Nat) (u : TS) (kd : Nat) (q1 : OK u) (q2 : kd ≤ 4) : TM l yX7_ofKind cX7_ofKind 5 (some .long) 2 45 D κ a u sz [.ref (a 0), .int (nI kd)] (QL D κ a sz (fun r u' => r = (fKind u kd (AC_count u)) ∧ u' = u)) := by
  refine TM.of (by decide +kernel) (Nat.le_of_ble_eq_true rfl) ?_
  intro p e s m below meth c ls hC hr hk hsz H locs hG hl
  have hx := hC.1
  have hb := hC.2.1
  have hl : lv_has ls 5 [(0, .ref (a 0)), (1, .int (nI kd))] := hl
  have qok := q1
  have ⟨n1, n2, n3, n4, n5, n6, n7, n8, n9, n10⟩ := qok.n
  refine lv_iload_n hx hb dX7_ofKind_0 rfl (lv_at hl 1 rfl) ?_
  refine bz_lt_f (tgt := 9) hx hb (by omega) dX7_ofKind_1 (by decide) ?_
  refine lv_iload_n hx hb dX7_ofKind_4 rfl (lv_at hl 1 rfl) ?_
  refine lv_iconst (v := nI 4) hx hb dX7_ofKind_5 (by decide) ?_
  refine bn_le_t (tgt := 20) hx hb (by omega) (by omega) dX7_ofKind_6 (by decide) (q2) ?_
  refine lv_lconst (v := 0) hx hb dX7_ofKind_20 (by decide) ?_
  refine lv_lstore_n (lv' := [(2, .long (0 : Int64)), (0, .ref (a 0)), (1, .int (nI kd))]) hx hb dX7_ofKind_21 rfl hl (by decide) rfl (fun ls hl => ?_)
  refine lv_iconst (v := nI 0) hx hb dX7_ofKind_22 (by decide) ?_
  refine lv_istore (lv' := [(4, .int (nI 0)), (2, .long (0 : Int64)), (0, .ref (a 0)), (1, .int (nI kd))]) hx hb dX7_ofKind_23 hl (by decide) rfl (fun ls hl => ?_)
  have lp25 : ∀ (n : Nat) (i : Nat), AC_count u - i < n → (i ≤ AC_count u) → ∀ (H : Heap) (locs : List Loc), GW D κ a u (AA a sz) s H locs → ∀ ls : Array Slot, lv_has ls 5 [(4, .int (nI i)), (2, .long (fKind u kd i)), (0, .ref (a 0)), (1, .int (nI kd))] → W p l e { frames := 2, cells := 0, slots := 0, locals := 45 } s m [.ref (a 0), .int (nI kd)].toArray below meth c H locs 0 0 (MQ below (QL D κ a sz (fun r u' => r = (fKind u kd (AC_count u)) ∧ u' = u)) [.ref (a 0), .int (nI kd)].toArray s 0 0 (AA a sz)) (F0 m 25 ls []) := by
    intro n
    induction n with
    | zero =>
      intro i hm
      exact absurd hm (Nat.not_lt_zero _)
    | succ n ih25 =>
      intro i hm25 c25_1 H locs hG ls hl
      refine lv_iload hx hb dX7_ofKind_25 (lv_at hl 0 rfl) ?_
      refine lv_aload_n hx hb dX7_ofKind_27 rfl (lv_at hl 2 rfl) ?_
      refine gf_T_accounts hC hG (hC.2.2.2.2 _ w16) dX7_ofKind_28 ?_
      refine gf_AC_count hC hG (hC.2.2.2.2 _ w138) dX7_ofKind_31 ?_
      refine bn_ge (tgt := 69) hx hb (by omega) (by omega) dX7_ofKind_34 (by decide) (fun h34 => ?_) (fun h34 => ?_)
      · refine lv_lload_n hx hb dX7_ofKind_69 rfl (lv_at hl 1 rfl) ?_
        have hi : i = AC_count u := by omega
        exact te_l hC hG hr hk ⟨(show fKind u kd i = fKind u kd (AC_count u) from by rw [hi]), rfl⟩ dX7_ofKind_70
      · have k1 := q1.acc (k := i) (by omega)
        refine lv_aload_n hx hb dX7_ofKind_37 rfl (lv_at hl 2 rfl) ?_
        refine gf_T_accounts hC hG (hC.2.2.2.2 _ w16) dX7_ofKind_38 ?_
        refine gf_AC_kind hC hG (hC.2.2.2.2 _ w234) dX7_ofKind_41 ?_
        refine lv_iload hx hb dX7_ofKind_44 (lv_at hl 0 rfl) ?_
        refine al_AC_kind hC hG (by omega) dX7_ofKind_46 ?_
        refine lv_iload_n hx hb dX7_ofKind_47 rfl (lv_at hl 3 rfl) ?_
        refine bn_ne (tgt := 63) hx hb (by omega) (by omega) dX7_ofKind_48 (by decide) (fun h48 => ?_) (fun h48 => ?_)
        · refine lv_iinc (v := (nI (i + 1))) (lv' := [(4, .int (nI (i + 1))), (2, .long (fKind u kd i)), (0, .ref (a 0)), (1, .int (nI kd))]) hx hb dX7_ofKind_63 hl (k := 0) rfl (nI_1 _) (by decide) rfl (fun ls hl => ?_)
          refine lv_goto (tgt := 25) hx hb dX7_ofKind_66 (by decide) ?_
          have e25_1 : fKind u kd (i + 1) = fKind u kd i := by simp [fKind, h34, h48]
          have hl : lv_has ls 5 [(4, .int (nI (i + 1))), (2, .long (fKind u kd (i + 1))), (0, .ref (a 0)), (1, .int (nI kd))] := by rw [e25_1]; exact hl
          exact ih25  (i + 1) (by omega) (by omega) H locs hG ls (lv_sub hl [0, 1, 2, 3] rfl)
        · refine lv_lload_n hx hb dX7_ofKind_51 rfl (lv_at hl 1 rfl) ?_
          refine lv_aload_n hx hb dX7_ofKind_52 rfl (lv_at hl 2 rfl) ?_
          refine gf_T_journal hC hG (hC.2.2.2.2 _ w24) dX7_ofKind_53 ?_
          refine lv_iload hx hb dX7_ofKind_56 (lv_at hl 0 rfl) ?_
          refine k_J_worthOn hC hG i (q1) (by omega) w466 ⟨by decide, by decide⟩ hl.1 (Nat.le_of_ble_eq_true rfl) dX7_ofKind_58 ⟨Nat.zero_le _, Nat.zero_le _⟩ (fun H locs hG => ?_)
          refine lv_ladd hx hb dX7_ofKind_61 ?_
          refine lv_lstore_n (lv' := [(2, .long (fKind u kd i + (fWor u i (J_legCount u)))), (4, .int (nI i)), (0, .ref (a 0)), (1, .int (nI kd))]) hx hb dX7_ofKind_62 rfl hl (by decide) rfl (fun ls hl => ?_)
          refine lv_iinc (v := (nI (i + 1))) (lv' := [(4, .int (nI (i + 1))), (2, .long (fKind u kd i + (fWor u i (J_legCount u)))), (0, .ref (a 0)), (1, .int (nI kd))]) hx hb dX7_ofKind_63 hl (k := 1) rfl (nI_1 _) (by decide) rfl (fun ls hl => ?_)
          refine lv_goto (tgt := 25) hx hb dX7_ofKind_66 (by decide) ?_
          have e25_2 : fKind u kd (i + 1) = (fKind u kd i + (fWor u i (J_legCount u))) := by simp [fKind, h34, h48]
          have hl : lv_has ls 5 [(4, .int (nI (i + 1))), (2, .long (fKind u kd (i + 1))), (0, .ref (a 0)), (1, .int (nI kd))] := by rw [e25_2]; exact hl
          exact ih25  (i + 1) (by omega) (by omega) H locs hG ls (lv_sub hl [0, 1, 2, 3] rfl)
  have e25_3 : fKind u kd 0 = (0 : Int64) := by rfl
  have hl : lv_has ls 5 [(4, .int (nI 0)), (2, .long (fKind u kd 0)), (0, .ref (a 0)), (1, .int (nI kd))] := by rw [e25_3]; exact hl
  exact lp25 _ 0 (Nat.lt_succ_self _) (by omega) H locs hG ls (lv_sub hl [0, 1, 2, 3] rfl)
theorem k_T_ofKind {p : Program} {l : Launch} {e : Env} {R : Room} {s : State} {m : MethodId} {args : Array Value} {below : List Frame} {meth : Method} {c : Code} {H : Heap} {locs : List Loc} {cs ss : Nat} {Q : State → Prop} {cc : ByteArray} {nL pc : Nat} {ls : Array Slot} {rest : List Value} {own : String} {idx : Nat} {D : va_G} {κ : ClassId × ClassId × ClassId} {a : Nat → Nat} {u : TS} {A : Nat → Prop} (hC : CallFix p m c cc nL s args WALL own) (hG : GW D κ a u A s H locs) (kd : Nat) (q1 : OK u) (q2 : kd ≤ 4) (wl : Cond.methodLink own idx yX7_ofKind ∈ WALL) (hR : 2 + 1 ≤ R.frames ∧ 8 + (5 + 11) + 45 ≤ R.locals) (hls : ls.size = nL) (h8 : (rest.map fun v => v.category).sum ≤ 8) (hd : decode cc pc = .ok (.invokevirtual idx, 3)) (hcs : cs ≤ R.cells ∧ ss ≤ R.slots) (kk : ∀ (H1 : Heap) (locs1 : List Loc), GW D κ a u A s H1 locs1 → W p l e R s m args below meth c H1 locs1 cs ss Q (F0 m (pc + 3) ls (.long (fKind u kd (AC_count u)) :: rest))) : W p l e R s m args below meth c H locs cs ss Q (F0 m pc ls (.int (nI kd) :: .ref (a 0) :: rest)) :=
  tc_l hG (tr_V (n := 1) (k := 0) (ci := 7) (As := [.int (nI kd)]) hC hG (c_T_ofKind l D κ a H.size u kd q1 q2) rfl rfl wl w2 w465 w463 w464 (by decide +kernel) hR rfl hls rfl h8 hd hcs) (fun r u' H1 locs1 hq hG1 => by obtain ⟨rfl, rfl⟩ := hq; exact kk H1 locs1 hG1)

theorem dX7_earned_0 : decode cX7_earned 0 = .ok (.iload_n 1, 1) := by decide +kernel
theorem dX7_earned_1 : decode cX7_earned 1 = .ok (.invokestatic 133, 3) := by decide +kernel
theorem dX7_earned_10 : decode cX7_earned 10 = .ok (.iconst 0, 1) := by decide +kernel
theorem dX7_earned_11 : decode cX7_earned 11 = .ok (.istore 5, 2) := by decide +kernel
theorem dX7_earned_13 : decode cX7_earned 13 = .ok (.iload 5, 2) := by decide +kernel
theorem dX7_earned_15 : decode cX7_earned 15 = .ok (.aload_n 0, 1) := by decide +kernel
theorem dX7_earned_16 : decode cX7_earned 16 = .ok (.getfield 12, 3) := by decide +kernel
theorem dX7_earned_19 : decode cX7_earned 19 = .ok (.getfield 93, 3) := by decide +kernel
theorem dX7_earned_22 : decode cX7_earned 22 = .ok (.if_icmp .ge 35, 3) := by decide +kernel
theorem dX7_earned_25 : decode cX7_earned 25 = .ok (.aload_n 0, 1) := by decide +kernel
theorem dX7_earned_26 : decode cX7_earned 26 = .ok (.getfield 12, 3) := by decide +kernel
theorem dX7_earned_29 : decode cX7_earned 29 = .ok (.iload 5, 2) := by decide +kernel
theorem dX7_earned_31 : decode cX7_earned 31 = .ok (.invokevirtual 353, 3) := by decide +kernel
theorem dX7_earned_34 : decode cX7_earned 34 = .ok (.ifCond .eq 17, 3) := by decide +kernel
theorem dX7_earned_37 : decode cX7_earned 37 = .ok (.lload_n 3, 1) := by decide +kernel
theorem dX7_earned_38 : decode cX7_earned 38 = .ok (.aload_n 0, 1) := by decide +kernel
theorem dX7_earned_39 : decode cX7_earned 39 = .ok (.getfield 26, 3) := by decide +kernel
theorem dX7_earned_4 : decode cX7_earned 4 = .ok (.iload_n 2, 1) := by decide +kernel
theorem dX7_earned_42 : decode cX7_earned 42 = .ok (.iload 5, 2) := by decide +kernel
theorem dX7_earned_44 : decode cX7_earned 44 = .ok (.iload_n 1, 1) := by decide +kernel
theorem dX7_earned_45 : decode cX7_earned 45 = .ok (.iload_n 2, 1) := by decide +kernel
theorem dX7_earned_46 : decode cX7_earned 46 = .ok (.invokevirtual 356, 3) := by decide +kernel
theorem dX7_earned_49 : decode cX7_earned 49 = .ok (.lsub, 1) := by decide +kernel
theorem dX7_earned_5 : decode cX7_earned 5 = .ok (.invokestatic 133, 3) := by decide +kernel
theorem dX7_earned_50 : decode cX7_earned 50 = .ok (.lstore_n 3, 1) := by decide +kernel
theorem dX7_earned_51 : decode cX7_earned 51 = .ok (.iinc 5 1, 3) := by decide +kernel
theorem dX7_earned_54 : decode cX7_earned 54 = .ok (.goto (-41), 3) := by decide +kernel
theorem dX7_earned_57 : decode cX7_earned 57 = .ok (.lload_n 3, 1) := by decide +kernel
theorem dX7_earned_58 : decode cX7_earned 58 = .ok (.lreturn, 1) := by decide +kernel
theorem dX7_earned_8 : decode cX7_earned 8 = .ok (.lconst 0, 1) := by decide +kernel
theorem dX7_earned_9 : decode cX7_earned 9 = .ok (.lstore_n 3, 1) := by decide +kernel
set_option maxHeartbeats 4000000 in
set_option maxRecDepth 100000 in
theorem c_T_earned (l : Launch) (D : va_G) (κ : ClassId × ClassId × ClassId) (a : Nat → Nat) (sz : Nat) (u : TS) (f : Nat) (t : Nat) (q1 : OK u) (q2 : f ≤ 364) (q3 : t ≤ 364) : TM l yX7_earned cX7_earned 6 (some .long) 2 47 D κ a u sz [.ref (a 0), .int (nI f), .int (nI t)] (QL D κ a sz (fun r u' => r = (fEarn u f t (AC_count u)) ∧ u' = u)) := by
  refine TM.of (by decide +kernel) (Nat.le_of_ble_eq_true rfl) ?_
  intro p e s m below meth c ls hC hr hk hsz H locs hG hl
  have hx := hC.1
  have hb := hC.2.1
  have hl : lv_has ls 6 [(0, .ref (a 0)), (1, .int (nI f)), (2, .int (nI t))] := hl
  have qok := q1
  have ⟨n1, n2, n3, n4, n5, n6, n7, n8, n9, n10⟩ := qok.n
  refine lv_iload_n hx hb dX7_earned_0 rfl (lv_at hl 1 rfl) ?_
  refine k_S_needDay hC hG f (q2) w187 ⟨by decide, by decide⟩ hl.1 (Nat.le_of_ble_eq_true rfl) dX7_earned_1 ⟨Nat.zero_le _, Nat.zero_le _⟩ (fun H locs hG => ?_)
  refine lv_iload_n hx hb dX7_earned_4 rfl (lv_at hl 2 rfl) ?_
  refine k_S_needDay hC hG t (q3) w187 ⟨by decide, by decide⟩ hl.1 (Nat.le_of_ble_eq_true rfl) dX7_earned_5 ⟨Nat.zero_le _, Nat.zero_le _⟩ (fun H locs hG => ?_)
  refine lv_lconst (v := 0) hx hb dX7_earned_8 (by decide) ?_
  refine lv_lstore_n (lv' := [(3, .long (0 : Int64)), (0, .ref (a 0)), (1, .int (nI f)), (2, .int (nI t))]) hx hb dX7_earned_9 rfl hl (by decide) rfl (fun ls hl => ?_)
  refine lv_iconst (v := nI 0) hx hb dX7_earned_10 (by decide) ?_
  refine lv_istore (lv' := [(5, .int (nI 0)), (3, .long (0 : Int64)), (0, .ref (a 0)), (1, .int (nI f)), (2, .int (nI t))]) hx hb dX7_earned_11 hl (by decide) rfl (fun ls hl => ?_)
  have lp13 : ∀ (n : Nat) (i : Nat), AC_count u - i < n → (i ≤ AC_count u) → ∀ (H : Heap) (locs : List Loc), GW D κ a u (AA a sz) s H locs → ∀ ls : Array Slot, lv_has ls 6 [(5, .int (nI i)), (3, .long (fEarn u f t i)), (0, .ref (a 0)), (1, .int (nI f)), (2, .int (nI t))] → W p l e { frames := 2, cells := 0, slots := 0, locals := 47 } s m [.ref (a 0), .int (nI f), .int (nI t)].toArray below meth c H locs 0 0 (MQ below (QL D κ a sz (fun r u' => r = (fEarn u f t (AC_count u)) ∧ u' = u)) [.ref (a 0), .int (nI f), .int (nI t)].toArray s 0 0 (AA a sz)) (F0 m 13 ls []) := by
    intro n
    induction n with
    | zero =>
      intro i hm
      exact absurd hm (Nat.not_lt_zero _)
    | succ n ih13 =>
      intro i hm13 c13_1 H locs hG ls hl
      refine lv_iload hx hb dX7_earned_13 (lv_at hl 0 rfl) ?_
      refine lv_aload_n hx hb dX7_earned_15 rfl (lv_at hl 2 rfl) ?_
      refine gf_T_accounts hC hG (hC.2.2.2.2 _ w16) dX7_earned_16 ?_
      refine gf_AC_count hC hG (hC.2.2.2.2 _ w138) dX7_earned_19 ?_
      refine bn_ge (tgt := 57) hx hb (by omega) (by omega) dX7_earned_22 (by decide) (fun h22 => ?_) (fun h22 => ?_)
      · refine lv_lload_n hx hb dX7_earned_57 rfl (lv_at hl 1 rfl) ?_
        have hi : i = AC_count u := by omega
        exact te_l hC hG hr hk ⟨(show fEarn u f t i = fEarn u f t (AC_count u) from by rw [hi]), rfl⟩ dX7_earned_58
      · refine lv_aload_n hx hb dX7_earned_25 rfl (lv_at hl 2 rfl) ?_
        refine gf_T_accounts hC hG (hC.2.2.2.2 _ w16) dX7_earned_26 ?_
        refine lv_iload hx hb dX7_earned_29 (lv_at hl 0 rfl) ?_
        refine k_AC_isClosed hC hG i (by omega) (q1) w195 ⟨by decide, by decide⟩ hl.1 (Nat.le_of_ble_eq_true rfl) dX7_earned_31 ⟨Nat.zero_le _, Nat.zero_le _⟩ (fun H locs hG => ?_)
        refine bb_eq (tgt := 51) hx hb dX7_earned_34 (by decide) (fun h34 => ?_) (fun h34 => ?_)
        · refine lv_iinc (v := (nI (i + 1))) (lv' := [(5, .int (nI (i + 1))), (3, .long (fEarn u f t i)), (0, .ref (a 0)), (1, .int (nI f)), (2, .int (nI t))]) hx hb dX7_earned_51 hl (k := 0) rfl (nI_1 _) (by decide) rfl (fun ls hl => ?_)
          refine lv_goto (tgt := 13) hx hb dX7_earned_54 (by decide) ?_
          have e13_1 : fEarn u f t (i + 1) = fEarn u f t i := by simp [fEarn, h22, h34]
          have hl : lv_has ls 6 [(5, .int (nI (i + 1))), (3, .long (fEarn u f t (i + 1))), (0, .ref (a 0)), (1, .int (nI f)), (2, .int (nI t))] := by rw [e13_1]; exact hl
          exact ih13  (i + 1) (by omega) (by omega) H locs hG ls (lv_sub hl [0, 1, 2, 3, 4] rfl)
        · refine lv_lload_n hx hb dX7_earned_37 rfl (lv_at hl 1 rfl) ?_
          refine lv_aload_n hx hb dX7_earned_38 rfl (lv_at hl 2 rfl) ?_
          refine gf_T_journal hC hG (hC.2.2.2.2 _ w24) dX7_earned_39 ?_
          refine lv_iload hx hb dX7_earned_42 (lv_at hl 0 rfl) ?_
          refine lv_iload_n hx hb dX7_earned_44 rfl (lv_at hl 3 rfl) ?_
          refine lv_iload_n hx hb dX7_earned_45 rfl (lv_at hl 4 rfl) ?_
          refine k_J_worthBetween hC hG i f t (q1) (by omega) w526 ⟨by decide, by decide⟩ hl.1 (Nat.le_of_ble_eq_true rfl) dX7_earned_46 ⟨Nat.zero_le _, Nat.zero_le _⟩ (fun H locs hG => ?_)
          refine lv_lsub hx hb dX7_earned_49 ?_
          refine lv_lstore_n (lv' := [(3, .long (fEarn u f t i - (fWorB u i f t (J_legCount u)))), (5, .int (nI i)), (0, .ref (a 0)), (1, .int (nI f)), (2, .int (nI t))]) hx hb dX7_earned_50 rfl hl (by decide) rfl (fun ls hl => ?_)
          refine lv_iinc (v := (nI (i + 1))) (lv' := [(5, .int (nI (i + 1))), (3, .long (fEarn u f t i - (fWorB u i f t (J_legCount u)))), (0, .ref (a 0)), (1, .int (nI f)), (2, .int (nI t))]) hx hb dX7_earned_51 hl (k := 1) rfl (nI_1 _) (by decide) rfl (fun ls hl => ?_)
          refine lv_goto (tgt := 13) hx hb dX7_earned_54 (by decide) ?_
          have e13_2 : fEarn u f t (i + 1) = (fEarn u f t i - (fWorB u i f t (J_legCount u))) := by simp [fEarn, h22, h34]
          have hl : lv_has ls 6 [(5, .int (nI (i + 1))), (3, .long (fEarn u f t (i + 1))), (0, .ref (a 0)), (1, .int (nI f)), (2, .int (nI t))] := by rw [e13_2]; exact hl
          exact ih13  (i + 1) (by omega) (by omega) H locs hG ls (lv_sub hl [0, 1, 2, 3, 4] rfl)
  have e13_3 : fEarn u f t 0 = (0 : Int64) := by rfl
  have hl : lv_has ls 6 [(5, .int (nI 0)), (3, .long (fEarn u f t 0)), (0, .ref (a 0)), (1, .int (nI f)), (2, .int (nI t))] := by rw [e13_3]; exact hl
  exact lp13 _ 0 (Nat.lt_succ_self _) (by omega) H locs hG ls (lv_sub hl [0, 1, 2, 3, 4] rfl)
theorem k_T_earned {p : Program} {l : Launch} {e : Env} {R : Room} {s : State} {m : MethodId} {args : Array Value} {below : List Frame} {meth : Method} {c : Code} {H : Heap} {locs : List Loc} {cs ss : Nat} {Q : State → Prop} {cc : ByteArray} {nL pc : Nat} {ls : Array Slot} {rest : List Value} {own : String} {idx : Nat} {D : va_G} {κ : ClassId × ClassId × ClassId} {a : Nat → Nat} {u : TS} {A : Nat → Prop} (hC : CallFix p m c cc nL s args WALL own) (hG : GW D κ a u A s H locs) (f : Nat) (t : Nat) (q1 : OK u) (q2 : f ≤ 364) (q3 : t ≤ 364) (wl : Cond.methodLink own idx yX7_earned ∈ WALL) (hR : 2 + 1 ≤ R.frames ∧ 8 + (6 + 11) + 47 ≤ R.locals) (hls : ls.size = nL) (h8 : (rest.map fun v => v.category).sum ≤ 8) (hd : decode cc pc = .ok (.invokevirtual idx, 3)) (hcs : cs ≤ R.cells ∧ ss ≤ R.slots) (kk : ∀ (H1 : Heap) (locs1 : List Loc), GW D κ a u A s H1 locs1 → W p l e R s m args below meth c H1 locs1 cs ss Q (F0 m (pc + 3) ls (.long (fEarn u f t (AC_count u)) :: rest))) : W p l e R s m args below meth c H locs cs ss Q (F0 m pc ls (.int (nI t) :: .int (nI f) :: .ref (a 0) :: rest)) :=
  tc_l hG (tr_V (n := 2) (k := 0) (ci := 7) (As := [.int (nI f), .int (nI t)]) hC hG (c_T_earned l D κ a H.size u f t q1 q2 q3) rfl rfl wl w2 w525 w523 w524 (by decide +kernel) hR rfl hls rfl h8 hd hcs) (fun r u' H1 locs1 hq hG1 => by obtain ⟨rfl, rfl⟩ := hq; exact kk H1 locs1 hG1)

theorem dX7_hadOn_0 : decode cX7_hadOn 0 = .ok (.aload_n 0, 1) := by decide +kernel
theorem dX7_hadOn_1 : decode cX7_hadOn 1 = .ok (.iload_n 1, 1) := by decide +kernel
theorem dX7_hadOn_10 : decode cX7_hadOn 10 = .ok (.if_icmp .lt 10, 3) := by decide +kernel
theorem dX7_hadOn_13 : decode cX7_hadOn 13 = .ok (.iload_n 2, 1) := by decide +kernel
theorem dX7_hadOn_14 : decode cX7_hadOn 14 = .ok (.sipush 364, 3) := by decide +kernel
theorem dX7_hadOn_17 : decode cX7_hadOn 17 = .ok (.if_icmp .le 14, 3) := by decide +kernel
theorem dX7_hadOn_2 : decode cX7_hadOn 2 = .ok (.invokevirtual 102, 3) := by decide +kernel
theorem dX7_hadOn_31 : decode cX7_hadOn 31 = .ok (.aload_n 0, 1) := by decide +kernel
theorem dX7_hadOn_32 : decode cX7_hadOn 32 = .ok (.iload_n 1, 1) := by decide +kernel
theorem dX7_hadOn_33 : decode cX7_hadOn 33 = .ok (.iload_n 2, 1) := by decide +kernel
theorem dX7_hadOn_34 : decode cX7_hadOn 34 = .ok (.invokevirtual 248, 3) := by decide +kernel
theorem dX7_hadOn_37 : decode cX7_hadOn 37 = .ok (.lreturn, 1) := by decide +kernel
theorem dX7_hadOn_5 : decode cX7_hadOn 5 = .ok (.iload_n 2, 1) := by decide +kernel
theorem dX7_hadOn_6 : decode cX7_hadOn 6 = .ok (.aload_n 0, 1) := by decide +kernel
theorem dX7_hadOn_7 : decode cX7_hadOn 7 = .ok (.getfield 67, 3) := by decide +kernel
set_option maxHeartbeats 4000000 in
set_option maxRecDepth 100000 in
theorem c_T_hadOn (l : Launch) (D : va_G) (κ : ClassId × ClassId × ClassId) (a : Nat → Nat) (sz : Nat) (u : TS) (k : Nat) (d : Nat) (q1 : OK u) (q2 : k < AC_count u) (q3 : T_today u ≤ d) (q4 : d ≤ 364) : TM l yX7_hadOn cX7_hadOn 3 (some .long) 4 91 D κ a u sz [.ref (a 0), .int (nI k), .int (nI d)] (QL D κ a sz (fun r u' => r = (fStO u k - 0) ∧ u' = u)) := by
  refine TM.of (by decide +kernel) (Nat.le_of_ble_eq_true rfl) ?_
  intro p e s m below meth c ls hC hr hk hsz H locs hG hl
  have hx := hC.1
  have hb := hC.2.1
  have hl : lv_has ls 3 [(0, .ref (a 0)), (1, .int (nI k)), (2, .int (nI d))] := hl
  have qok := q1
  have ⟨n1, n2, n3, n4, n5, n6, n7, n8, n9, n10⟩ := qok.n
  refine lv_aload_n hx hb dX7_hadOn_0 rfl (lv_at hl 0 rfl) ?_
  refine lv_iload_n hx hb dX7_hadOn_1 rfl (lv_at hl 1 rfl) ?_
  refine k_T_needAccount hC hG k (q1) (q2) w148 ⟨by decide, by decide⟩ hl.1 (Nat.le_of_ble_eq_true rfl) dX7_hadOn_2 ⟨Nat.zero_le _, Nat.zero_le _⟩ (fun H locs hG => ?_)
  refine lv_iload_n hx hb dX7_hadOn_5 rfl (lv_at hl 2 rfl) ?_
  refine lv_aload_n hx hb dX7_hadOn_6 rfl (lv_at hl 0 rfl) ?_
  refine gf_T_today hC hG (hC.2.2.2.2 _ w43) dX7_hadOn_7 ?_
  refine bn_lt_f (tgt := 20) hx hb (by omega) (by omega) dX7_hadOn_10 (by decide) (q3) ?_
  refine lv_iload_n hx hb dX7_hadOn_13 rfl (lv_at hl 2 rfl) ?_
  refine lv_sipush (v := nI 364) hx hb dX7_hadOn_14 (by decide) ?_
  refine bn_le_t (tgt := 31) hx hb (by omega) (by omega) dX7_hadOn_17 (by decide) (q4) ?_
  refine lv_aload_n hx hb dX7_hadOn_31 rfl (lv_at hl 0 rfl) ?_
  refine lv_iload_n hx hb dX7_hadOn_32 rfl (lv_at hl 1 rfl) ?_
  refine lv_iload_n hx hb dX7_hadOn_33 rfl (lv_at hl 2 rfl) ?_
  refine k_T_hadIf hC hG k d (q1) (q2) (q4) w493 ⟨by decide, by decide⟩ hl.1 (Nat.le_of_ble_eq_true rfl) dX7_hadOn_34 ⟨Nat.zero_le _, Nat.zero_le _⟩ (fun H locs hG => ?_)
  exact te_l hC hG hr hk ⟨rfl, rfl⟩ dX7_hadOn_37
theorem k_T_hadOn {p : Program} {l : Launch} {e : Env} {R : Room} {s : State} {m : MethodId} {args : Array Value} {below : List Frame} {meth : Method} {c : Code} {H : Heap} {locs : List Loc} {cs ss : Nat} {Q : State → Prop} {cc : ByteArray} {nL pc : Nat} {ls : Array Slot} {rest : List Value} {own : String} {idx : Nat} {D : va_G} {κ : ClassId × ClassId × ClassId} {a : Nat → Nat} {u : TS} {A : Nat → Prop} (hC : CallFix p m c cc nL s args WALL own) (hG : GW D κ a u A s H locs) (k : Nat) (d : Nat) (q1 : OK u) (q2 : k < AC_count u) (q3 : T_today u ≤ d) (q4 : d ≤ 364) (wl : Cond.methodLink own idx yX7_hadOn ∈ WALL) (hR : 4 + 1 ≤ R.frames ∧ 8 + (3 + 11) + 91 ≤ R.locals) (hls : ls.size = nL) (h8 : (rest.map fun v => v.category).sum ≤ 8) (hd : decode cc pc = .ok (.invokevirtual idx, 3)) (hcs : cs ≤ R.cells ∧ ss ≤ R.slots) (kk : ∀ (H1 : Heap) (locs1 : List Loc), GW D κ a u A s H1 locs1 → W p l e R s m args below meth c H1 locs1 cs ss Q (F0 m (pc + 3) ls (.long (fStO u k - 0) :: rest))) : W p l e R s m args below meth c H locs cs ss Q (F0 m pc ls (.int (nI d) :: .int (nI k) :: .ref (a 0) :: rest)) :=
  tc_l hG (tr_V (n := 2) (k := 0) (ci := 7) (As := [.int (nI k), .int (nI d)]) hC hG (c_T_hadOn l D κ a H.size u k d q1 q2 q3 q4) rfl rfl wl w2 w520 w518 w519 (by decide +kernel) hR rfl hls rfl h8 hd hcs) (fun r u' H1 locs1 hq hG1 => by obtain ⟨rfl, rfl⟩ := hq; exact kk H1 locs1 hG1)

theorem dX7_match_0 : decode cX7_match 0 = .ok (.aload_n 0, 1) := by decide +kernel
theorem dX7_match_1 : decode cX7_match 1 = .ok (.iload_n 1, 1) := by decide +kernel
theorem dX7_match_10 : decode cX7_match 10 = .ok (.getfield 49, 3) := by decide +kernel
theorem dX7_match_13 : decode cX7_match 13 = .ok (.iload_n 1, 1) := by decide +kernel
theorem dX7_match_14 : decode cX7_match 14 = .ok (.iload_n 2, 1) := by decide +kernel
theorem dX7_match_15 : decode cX7_match 15 = .ok (.invokevirtual 308, 3) := by decide +kernel
theorem dX7_match_18 : decode cX7_match 18 = .ok (.ireturn, 1) := by decide +kernel
theorem dX7_match_2 : decode cX7_match 2 = .ok (.invokevirtual 102, 3) := by decide +kernel
theorem dX7_match_5 : decode cX7_match 5 = .ok (.iload_n 2, 1) := by decide +kernel
theorem dX7_match_6 : decode cX7_match 6 = .ok (.invokestatic 305, 3) := by decide +kernel
theorem dX7_match_9 : decode cX7_match 9 = .ok (.aload_n 0, 1) := by decide +kernel
set_option maxHeartbeats 4000000 in
set_option maxRecDepth 100000 in
theorem c_T_match (l : Launch) (D : va_G) (κ : ClassId × ClassId × ClassId) (a : Nat → Nat) (sz : Nat) (u : TS) (k : Nat) (dd : Nat) (q1 : OK u) (q2 : k < AC_count u) (q3 : dd ≤ 30) : TM l yX7_match cX7_match 3 (some .int) 5 115 D κ a u sz [.ref (a 0), .int (nI k), .int (nI dd)] (QI D κ a sz (fun r u' => r = (nI (fPairN 0 u k dd)) ∧ u' = fPair 0 u k dd)) := by
  refine TM.of (by decide +kernel) (Nat.le_of_ble_eq_true rfl) ?_
  intro p e s m below meth c ls hC hr hk hsz H locs hG hl
  have hx := hC.1
  have hb := hC.2.1
  have hl : lv_has ls 3 [(0, .ref (a 0)), (1, .int (nI k)), (2, .int (nI dd))] := hl
  have qok := q1
  have ⟨n1, n2, n3, n4, n5, n6, n7, n8, n9, n10⟩ := qok.n
  refine lv_aload_n hx hb dX7_match_0 rfl (lv_at hl 0 rfl) ?_
  refine lv_iload_n hx hb dX7_match_1 rfl (lv_at hl 1 rfl) ?_
  refine k_T_needAccount hC hG k (q1) (q2) w148 ⟨by decide, by decide⟩ hl.1 (Nat.le_of_ble_eq_true rfl) dX7_match_2 ⟨Nat.zero_le _, Nat.zero_le _⟩ (fun H locs hG => ?_)
  refine lv_iload_n hx hb dX7_match_5 rfl (lv_at hl 2 rfl) ?_
  refine k_S_needDaysAway hC hG dd (q3) w313 ⟨by decide, by decide⟩ hl.1 (Nat.le_of_ble_eq_true rfl) dX7_match_6 ⟨Nat.zero_le _, Nat.zero_le _⟩ (fun H locs hG => ?_)
  refine lv_aload_n hx hb dX7_match_9 rfl (lv_at hl 0 rfl) ?_
  refine gf_T_kept hC hG (hC.2.2.2.2 _ w36) dX7_match_10 ?_
  refine lv_iload_n hx hb dX7_match_13 rfl (lv_at hl 1 rfl) ?_
  refine lv_iload_n hx hb dX7_match_14 rfl (lv_at hl 2 rfl) ?_
  refine k_M0_pairUp hC hG k dd (q1) (by omega) (by omega) w316 ⟨by decide, by decide⟩ hl.1 (Nat.le_of_ble_eq_true rfl) dX7_match_15 ⟨Nat.zero_le _, Nat.zero_le _⟩ (fun H locs hG => ?_)
  exact te_i (v := (nI (fPairN 0 u k dd))) hC hG hr hk ⟨rfl, rfl⟩ dX7_match_18
theorem k_T_match {p : Program} {l : Launch} {e : Env} {R : Room} {s : State} {m : MethodId} {args : Array Value} {below : List Frame} {meth : Method} {c : Code} {H : Heap} {locs : List Loc} {cs ss : Nat} {Q : State → Prop} {cc : ByteArray} {nL pc : Nat} {ls : Array Slot} {rest : List Value} {own : String} {idx : Nat} {D : va_G} {κ : ClassId × ClassId × ClassId} {a : Nat → Nat} {u : TS} {A : Nat → Prop} (hC : CallFix p m c cc nL s args WALL own) (hG : GW D κ a u A s H locs) (k : Nat) (dd : Nat) (q1 : OK u) (q2 : k < AC_count u) (q3 : dd ≤ 30) (wl : Cond.methodLink own idx yX7_match ∈ WALL) (hR : 5 + 1 ≤ R.frames ∧ 8 + (3 + 11) + 115 ≤ R.locals) (hls : ls.size = nL) (h8 : (rest.map fun v => v.category).sum ≤ 8) (hd : decode cc pc = .ok (.invokevirtual idx, 3)) (hcs : cs ≤ R.cells ∧ ss ≤ R.slots) (kk : ∀ (H1 : Heap) (locs1 : List Loc), GW D κ a (fPair 0 u k dd) A s H1 locs1 → W p l e R s m args below meth c H1 locs1 cs ss Q (F0 m (pc + 3) ls (.int (nI (fPairN 0 u k dd)) :: rest))) : W p l e R s m args below meth c H locs cs ss Q (F0 m pc ls (.int (nI dd) :: .int (nI k) :: .ref (a 0) :: rest)) :=
  tc_i hG (tr_V (n := 2) (k := 0) (ci := 7) (As := [.int (nI k), .int (nI dd)]) hC hG (c_T_match l D κ a H.size u k dd q1 q2 q3) rfl rfl wl w2 w376 w374 w375 (by decide +kernel) hR rfl hls rfl h8 hd hcs) (fun r u' H1 locs1 hq hG1 => by obtain ⟨rfl, rfl⟩ := hq; exact kk H1 locs1 hG1)

theorem dX7_wouldMatch_0 : decode cX7_wouldMatch 0 = .ok (.aload_n 0, 1) := by decide +kernel
theorem dX7_wouldMatch_1 : decode cX7_wouldMatch 1 = .ok (.iload_n 1, 1) := by decide +kernel
theorem dX7_wouldMatch_10 : decode cX7_wouldMatch 10 = .ok (.getfield 53, 3) := by decide +kernel
theorem dX7_wouldMatch_13 : decode cX7_wouldMatch 13 = .ok (.iload_n 1, 1) := by decide +kernel
theorem dX7_wouldMatch_14 : decode cX7_wouldMatch 14 = .ok (.iload_n 2, 1) := by decide +kernel
theorem dX7_wouldMatch_15 : decode cX7_wouldMatch 15 = .ok (.invokevirtual 308, 3) := by decide +kernel
theorem dX7_wouldMatch_18 : decode cX7_wouldMatch 18 = .ok (.ireturn, 1) := by decide +kernel
theorem dX7_wouldMatch_2 : decode cX7_wouldMatch 2 = .ok (.invokevirtual 102, 3) := by decide +kernel
theorem dX7_wouldMatch_5 : decode cX7_wouldMatch 5 = .ok (.iload_n 2, 1) := by decide +kernel
theorem dX7_wouldMatch_6 : decode cX7_wouldMatch 6 = .ok (.invokestatic 305, 3) := by decide +kernel
theorem dX7_wouldMatch_9 : decode cX7_wouldMatch 9 = .ok (.aload_n 0, 1) := by decide +kernel
set_option maxHeartbeats 4000000 in
set_option maxRecDepth 100000 in
theorem c_T_wouldMatch (l : Launch) (D : va_G) (κ : ClassId × ClassId × ClassId) (a : Nat → Nat) (sz : Nat) (u : TS) (k : Nat) (dd : Nat) (q1 : OK u) (q2 : k < AC_count u) (q3 : dd ≤ 30) : TM l yX7_wouldMatch cX7_wouldMatch 3 (some .int) 5 115 D κ a u sz [.ref (a 0), .int (nI k), .int (nI dd)] (QI D κ a sz (fun r u' => r = (nI (fPairN 1 u k dd)) ∧ u' = fPair 1 u k dd)) := by
  refine TM.of (by decide +kernel) (Nat.le_of_ble_eq_true rfl) ?_
  intro p e s m below meth c ls hC hr hk hsz H locs hG hl
  have hx := hC.1
  have hb := hC.2.1
  have hl : lv_has ls 3 [(0, .ref (a 0)), (1, .int (nI k)), (2, .int (nI dd))] := hl
  have qok := q1
  have ⟨n1, n2, n3, n4, n5, n6, n7, n8, n9, n10⟩ := qok.n
  refine lv_aload_n hx hb dX7_wouldMatch_0 rfl (lv_at hl 0 rfl) ?_
  refine lv_iload_n hx hb dX7_wouldMatch_1 rfl (lv_at hl 1 rfl) ?_
  refine k_T_needAccount hC hG k (q1) (q2) w148 ⟨by decide, by decide⟩ hl.1 (Nat.le_of_ble_eq_true rfl) dX7_wouldMatch_2 ⟨Nat.zero_le _, Nat.zero_le _⟩ (fun H locs hG => ?_)
  refine lv_iload_n hx hb dX7_wouldMatch_5 rfl (lv_at hl 2 rfl) ?_
  refine k_S_needDaysAway hC hG dd (q3) w313 ⟨by decide, by decide⟩ hl.1 (Nat.le_of_ble_eq_true rfl) dX7_wouldMatch_6 ⟨Nat.zero_le _, Nat.zero_le _⟩ (fun H locs hG => ?_)
  refine lv_aload_n hx hb dX7_wouldMatch_9 rfl (lv_at hl 0 rfl) ?_
  refine gf_T_trial hC hG (hC.2.2.2.2 _ w37) dX7_wouldMatch_10 ?_
  refine lv_iload_n hx hb dX7_wouldMatch_13 rfl (lv_at hl 1 rfl) ?_
  refine lv_iload_n hx hb dX7_wouldMatch_14 rfl (lv_at hl 2 rfl) ?_
  refine k_M1_pairUp hC hG k dd (q1) (by omega) (by omega) w316 ⟨by decide, by decide⟩ hl.1 (Nat.le_of_ble_eq_true rfl) dX7_wouldMatch_15 ⟨Nat.zero_le _, Nat.zero_le _⟩ (fun H locs hG => ?_)
  exact te_i (v := (nI (fPairN 1 u k dd))) hC hG hr hk ⟨rfl, rfl⟩ dX7_wouldMatch_18
theorem k_T_wouldMatch {p : Program} {l : Launch} {e : Env} {R : Room} {s : State} {m : MethodId} {args : Array Value} {below : List Frame} {meth : Method} {c : Code} {H : Heap} {locs : List Loc} {cs ss : Nat} {Q : State → Prop} {cc : ByteArray} {nL pc : Nat} {ls : Array Slot} {rest : List Value} {own : String} {idx : Nat} {D : va_G} {κ : ClassId × ClassId × ClassId} {a : Nat → Nat} {u : TS} {A : Nat → Prop} (hC : CallFix p m c cc nL s args WALL own) (hG : GW D κ a u A s H locs) (k : Nat) (dd : Nat) (q1 : OK u) (q2 : k < AC_count u) (q3 : dd ≤ 30) (wl : Cond.methodLink own idx yX7_wouldMatch ∈ WALL) (hR : 5 + 1 ≤ R.frames ∧ 8 + (3 + 11) + 115 ≤ R.locals) (hls : ls.size = nL) (h8 : (rest.map fun v => v.category).sum ≤ 8) (hd : decode cc pc = .ok (.invokevirtual idx, 3)) (hcs : cs ≤ R.cells ∧ ss ≤ R.slots) (kk : ∀ (H1 : Heap) (locs1 : List Loc), GW D κ a (fPair 1 u k dd) A s H1 locs1 → W p l e R s m args below meth c H1 locs1 cs ss Q (F0 m (pc + 3) ls (.int (nI (fPairN 1 u k dd)) :: rest))) : W p l e R s m args below meth c H locs cs ss Q (F0 m pc ls (.int (nI dd) :: .int (nI k) :: .ref (a 0) :: rest)) :=
  tc_i hG (tr_V (n := 2) (k := 0) (ci := 7) (As := [.int (nI k), .int (nI dd)]) hC hG (c_T_wouldMatch l D κ a H.size u k dd q1 q2 q3) rfl rfl wl w2 w312 w310 w311 (by decide +kernel) hR rfl hls rfl h8 hd hcs) (fun r u' H1 locs1 hq hG1 => by obtain ⟨rfl, rfl⟩ := hq; exact kk H1 locs1 hG1)

theorem dX7_line_0 : decode cX7_line 0 = .ok (.aload_n 0, 1) := by decide +kernel
theorem dX7_line_1 : decode cX7_line 1 = .ok (.iload_n 1, 1) := by decide +kernel
theorem dX7_line_10 : decode cX7_line 10 = .ok (.invokestatic 146, 3) := by decide +kernel
theorem dX7_line_13 : decode cX7_line 13 = .ok (.aload_n 0, 1) := by decide +kernel
theorem dX7_line_14 : decode cX7_line 14 = .ok (.getfield 40, 3) := by decide +kernel
theorem dX7_line_17 : decode cX7_line 17 = .ok (.getfield 301, 3) := by decide +kernel
theorem dX7_line_2 : decode cX7_line 2 = .ok (.invokevirtual 102, 3) := by decide +kernel
theorem dX7_line_20 : decode cX7_line 20 = .ok (.bipush 40, 2) := by decide +kernel
theorem dX7_line_22 : decode cX7_line 22 = .ok (.if_icmp .lt 14, 3) := by decide +kernel
theorem dX7_line_36 : decode cX7_line 36 = .ok (.aload_n 0, 1) := by decide +kernel
theorem dX7_line_37 : decode cX7_line 37 = .ok (.getfield 40, 3) := by decide +kernel
theorem dX7_line_40 : decode cX7_line 40 = .ok (.iload_n 1, 1) := by decide +kernel
theorem dX7_line_41 : decode cX7_line 41 = .ok (.iload_n 2, 1) := by decide +kernel
theorem dX7_line_42 : decode cX7_line 42 = .ok (.iload_n 3, 1) := by decide +kernel
theorem dX7_line_43 : decode cX7_line 43 = .ok (.invokevirtual 304, 3) := by decide +kernel
theorem dX7_line_46 : decode cX7_line 46 = .ok (.ireturn, 1) := by decide +kernel
theorem dX7_line_5 : decode cX7_line 5 = .ok (.iload_n 2, 1) := by decide +kernel
theorem dX7_line_6 : decode cX7_line 6 = .ok (.invokestatic 133, 3) := by decide +kernel
theorem dX7_line_9 : decode cX7_line 9 = .ok (.iload_n 3, 1) := by decide +kernel
set_option maxHeartbeats 4000000 in
set_option maxRecDepth 100000 in
theorem c_T_line (l : Launch) (D : va_G) (κ : ClassId × ClassId × ClassId) (a : Nat → Nat) (sz : Nat) (u : TS) (k : Nat) (d : Nat) (x : Int32) (q1 : OK u) (q2 : k < AC_count u) (q3 : d ≤ 364) (q4 : ¬ x = 0) (q5 : ¬ x < -1000000) (q6 : x ≤ nI 1000000) (q7 : LI_count u < 40) (q8 : ∀ i, LI_day u i < 600) : TM l yX7_line cX7_line 4 (some .int) 2 45 D κ a u sz [.ref (a 0), .int (nI k), .int (nI d), .int x] (QI D κ a sz (fun r u' => r = (nI (LI_count u)) ∧ u' = fLine u k d x)) := by
  refine TM.of (by decide +kernel) (Nat.le_of_ble_eq_true rfl) ?_
  intro p e s m below meth c ls hC hr hk hsz H locs hG hl
  have hx := hC.1
  have hb := hC.2.1
  have hl : lv_has ls 4 [(0, .ref (a 0)), (1, .int (nI k)), (2, .int (nI d)), (3, .int x)] := hl
  have qok := q1
  have ⟨n1, n2, n3, n4, n5, n6, n7, n8, n9, n10⟩ := qok.n
  refine lv_aload_n hx hb dX7_line_0 rfl (lv_at hl 0 rfl) ?_
  refine lv_iload_n hx hb dX7_line_1 rfl (lv_at hl 1 rfl) ?_
  refine k_T_needAccount hC hG k (q1) (q2) w148 ⟨by decide, by decide⟩ hl.1 (Nat.le_of_ble_eq_true rfl) dX7_line_2 ⟨Nat.zero_le _, Nat.zero_le _⟩ (fun H locs hG => ?_)
  refine lv_iload_n hx hb dX7_line_5 rfl (lv_at hl 2 rfl) ?_
  refine k_S_needDay hC hG d (q3) w187 ⟨by decide, by decide⟩ hl.1 (Nat.le_of_ble_eq_true rfl) dX7_line_6 ⟨Nat.zero_le _, Nat.zero_le _⟩ (fun H locs hG => ?_)
  refine lv_iload_n hx hb dX7_line_9 rfl (lv_at hl 3 rfl) ?_
  refine k_S_needAmount hC hG x (q4) (q5) (q6) w296 ⟨by decide, by decide⟩ hl.1 (Nat.le_of_ble_eq_true rfl) dX7_line_10 ⟨Nat.zero_le _, Nat.zero_le _⟩ (fun H locs hG => ?_)
  refine lv_aload_n hx hb dX7_line_13 rfl (lv_at hl 0 rfl) ?_
  refine gf_T_lines hC hG (hC.2.2.2.2 _ w32) dX7_line_14 ?_
  refine gf_LI_count hC hG (hC.2.2.2.2 _ w162) dX7_line_17 ?_
  refine lv_bipush (v := nI 40) hx hb dX7_line_20 (by decide) ?_
  refine bn_lt_t (tgt := 36) hx hb (by omega) (by omega) dX7_line_22 (by decide) (q7) ?_
  refine lv_aload_n hx hb dX7_line_36 rfl (lv_at hl 0 rfl) ?_
  refine gf_T_lines hC hG (hC.2.2.2.2 _ w32) dX7_line_37 ?_
  refine lv_iload_n hx hb dX7_line_40 rfl (lv_at hl 1 rfl) ?_
  refine lv_iload_n hx hb dX7_line_41 rfl (lv_at hl 2 rfl) ?_
  refine lv_iload_n hx hb dX7_line_42 rfl (lv_at hl 3 rfl) ?_
  refine k_LI_add hC hG k d x (q7) (fun i hi => by have := q1.line hi; omega) (q8) (by omega) w301 ⟨by decide, by decide⟩ hl.1 (Nat.le_of_ble_eq_true rfl) dX7_line_43 ⟨Nat.zero_le _, Nat.zero_le _⟩ (fun H locs hG => ?_)
  exact te_i (v := (nI (LI_count u))) hC hG hr hk ⟨rfl, rfl⟩ dX7_line_46
theorem k_T_line {p : Program} {l : Launch} {e : Env} {R : Room} {s : State} {m : MethodId} {args : Array Value} {below : List Frame} {meth : Method} {c : Code} {H : Heap} {locs : List Loc} {cs ss : Nat} {Q : State → Prop} {cc : ByteArray} {nL pc : Nat} {ls : Array Slot} {rest : List Value} {own : String} {idx : Nat} {D : va_G} {κ : ClassId × ClassId × ClassId} {a : Nat → Nat} {u : TS} {A : Nat → Prop} (hC : CallFix p m c cc nL s args WALL own) (hG : GW D κ a u A s H locs) (k : Nat) (d : Nat) (x : Int32) (q1 : OK u) (q2 : k < AC_count u) (q3 : d ≤ 364) (q4 : ¬ x = 0) (q5 : ¬ x < -1000000) (q6 : x ≤ nI 1000000) (q7 : LI_count u < 40) (q8 : ∀ i, LI_day u i < 600) (wl : Cond.methodLink own idx yX7_line ∈ WALL) (hR : 2 + 1 ≤ R.frames ∧ 8 + (4 + 11) + 45 ≤ R.locals) (hls : ls.size = nL) (h8 : (rest.map fun v => v.category).sum ≤ 8) (hd : decode cc pc = .ok (.invokevirtual idx, 3)) (hcs : cs ≤ R.cells ∧ ss ≤ R.slots) (kk : ∀ (H1 : Heap) (locs1 : List Loc), GW D κ a (fLine u k d x) A s H1 locs1 → W p l e R s m args below meth c H1 locs1 cs ss Q (F0 m (pc + 3) ls (.int (nI (LI_count u)) :: rest))) : W p l e R s m args below meth c H locs cs ss Q (F0 m pc ls (.int x :: .int (nI d) :: .int (nI k) :: .ref (a 0) :: rest)) :=
  tc_i hG (tr_V (n := 3) (k := 0) (ci := 7) (As := [.int (nI k), .int (nI d), .int x]) hC hG (c_T_line l D κ a H.size u k d x q1 q2 q3 q4 q5 q6 q7 q8) rfl rfl wl w2 w295 w293 w294 (by decide +kernel) hR rfl hls rfl h8 hd hcs) (fun r u' H1 locs1 hq hG1 => by obtain ⟨rfl, rfl⟩ := hq; exact kk H1 locs1 hG1)

theorem dX7_planLeg_0 : decode cX7_planLeg 0 = .ok (.aload_n 0, 1) := by decide +kernel
theorem dX7_planLeg_1 : decode cX7_planLeg 1 = .ok (.getfield 59, 3) := by decide +kernel
theorem dX7_planLeg_10 : decode cX7_planLeg 10 = .ok (.iload_n 1, 1) := by decide +kernel
theorem dX7_planLeg_11 : decode cX7_planLeg 11 = .ok (.lload_n 2, 1) := by decide +kernel
theorem dX7_planLeg_12 : decode cX7_planLeg 12 = .ok (.invokevirtual 155, 3) := by decide +kernel
theorem dX7_planLeg_15 : decode cX7_planLeg 15 = .ok (.invokevirtual 159, 3) := by decide +kernel
theorem dX7_planLeg_18 : decode cX7_planLeg 18 = .ok (.return_, 1) := by decide +kernel
theorem dX7_planLeg_4 : decode cX7_planLeg 4 = .ok (.iload_n 1, 1) := by decide +kernel
theorem dX7_planLeg_5 : decode cX7_planLeg 5 = .ok (.lload_n 2, 1) := by decide +kernel
theorem dX7_planLeg_6 : decode cX7_planLeg 6 = .ok (.aload_n 0, 1) := by decide +kernel
theorem dX7_planLeg_7 : decode cX7_planLeg 7 = .ok (.getfield 12, 3) := by decide +kernel
set_option maxHeartbeats 4000000 in
set_option maxRecDepth 100000 in
theorem c_T_planLeg (l : Launch) (D : va_G) (κ : ClassId × ClassId × ClassId) (a : Nat → Nat) (sz : Nat) (u : TS) (k : Nat) (x : Int64) (q1 : OK u) (q2 : k < AC_count u) (q3 : L1_count u < 10) : TM l yX7_planLeg cX7_planLeg 4 none 1 27 D κ a u sz [.ref (a 0), .int (nI k), .long x] (QV D κ a sz (fun u' => u' = fPLeg u k x)) := by
  refine TM.of (by decide +kernel) (Nat.le_of_ble_eq_true rfl) ?_
  intro p e s m below meth c ls hC hr hk hsz H locs hG hl
  have hx := hC.1
  have hb := hC.2.1
  have hl : lv_has ls 4 [(0, .ref (a 0)), (1, .int (nI k)), (2, .long x)] := hl
  have qok := q1
  have ⟨n1, n2, n3, n4, n5, n6, n7, n8, n9, n10⟩ := qok.n
  refine lv_aload_n hx hb dX7_planLeg_0 rfl (lv_at hl 0 rfl) ?_
  refine gf_T_plan hC hG (hC.2.2.2.2 _ w41) dX7_planLeg_1 ?_
  refine lv_iload_n hx hb dX7_planLeg_4 rfl (lv_at hl 1 rfl) ?_
  refine lv_lload_n hx hb dX7_planLeg_5 rfl (lv_at hl 2 rfl) ?_
  refine lv_aload_n hx hb dX7_planLeg_6 rfl (lv_at hl 0 rfl) ?_
  refine gf_T_accounts hC hG (hC.2.2.2.2 _ w16) dX7_planLeg_7 ?_
  refine lv_iload_n hx hb dX7_planLeg_10 rfl (lv_at hl 1 rfl) ?_
  refine lv_lload_n hx hb dX7_planLeg_11 rfl (lv_at hl 2 rfl) ?_
  refine k_AC_worth hC hG k x (q2) (q1) w215 ⟨by decide, by decide⟩ hl.1 (Nat.le_of_ble_eq_true rfl) dX7_planLeg_12 ⟨Nat.zero_le _, Nat.zero_le _⟩ (fun H locs hG => ?_)
  refine k_L1_add hC hG k x (fWorth u k x) (q3) w222 ⟨by decide, by decide⟩ hl.1 (Nat.le_of_ble_eq_true rfl) dX7_planLeg_15 ⟨Nat.zero_le _, Nat.zero_le _⟩ (fun H locs hG => ?_)
  exact te_v hC hG hr hk (by rfl) dX7_planLeg_18
theorem k_T_planLeg {p : Program} {l : Launch} {e : Env} {R : Room} {s : State} {m : MethodId} {args : Array Value} {below : List Frame} {meth : Method} {c : Code} {H : Heap} {locs : List Loc} {cs ss : Nat} {Q : State → Prop} {cc : ByteArray} {nL pc : Nat} {ls : Array Slot} {rest : List Value} {own : String} {idx : Nat} {D : va_G} {κ : ClassId × ClassId × ClassId} {a : Nat → Nat} {u : TS} {A : Nat → Prop} (hC : CallFix p m c cc nL s args WALL own) (hG : GW D κ a u A s H locs) (k : Nat) (x : Int64) (q1 : OK u) (q2 : k < AC_count u) (q3 : L1_count u < 10) (wl : Cond.methodLink own idx yX7_planLeg ∈ WALL) (hR : 1 + 1 ≤ R.frames ∧ 8 + (4 + 11) + 27 ≤ R.locals) (hls : ls.size = nL) (h8 : (rest.map fun v => v.category).sum ≤ 8) (hd : decode cc pc = .ok (.invokevirtual idx, 3)) (hcs : cs ≤ R.cells ∧ ss ≤ R.slots) (kk : ∀ (H1 : Heap) (locs1 : List Loc), GW D κ a (fPLeg u k x) A s H1 locs1 → W p l e R s m args below meth c H1 locs1 cs ss Q (F0 m (pc + 3) ls (rest))) : W p l e R s m args below meth c H locs cs ss Q (F0 m pc ls (.long x :: .int (nI k) :: .ref (a 0) :: rest)) :=
  tc_v hG (tr_V (n := 2) (k := 0) (ci := 7) (As := [.int (nI k), .long x]) hC hG (c_T_planLeg l D κ a H.size u k x q1 q2 q3) rfl rfl wl w2 w214 w212 w213 (by decide +kernel) hR rfl hls rfl h8 hd hcs) (fun u' H1 locs1 hq hG1 => by subst hq; exact kk H1 locs1 hG1)

theorem dX7_planClosing_0 : decode cX7_planClosing 0 = .ok (.aload_n 0, 1) := by decide +kernel
theorem dX7_planClosing_1 : decode cX7_planClosing 1 = .ok (.getfield 59, 3) := by decide +kernel
theorem dX7_planClosing_10 : decode cX7_planClosing 10 = .ok (.iload_n 2, 1) := by decide +kernel
theorem dX7_planClosing_11 : decode cX7_planClosing 11 = .ok (.aload_n 0, 1) := by decide +kernel
theorem dX7_planClosing_12 : decode cX7_planClosing 12 = .ok (.getfield 12, 3) := by decide +kernel
theorem dX7_planClosing_15 : decode cX7_planClosing 15 = .ok (.getfield 93, 3) := by decide +kernel
theorem dX7_planClosing_18 : decode cX7_planClosing 18 = .ok (.if_icmp .ge 43, 3) := by decide +kernel
theorem dX7_planClosing_21 : decode cX7_planClosing 21 = .ok (.aload_n 0, 1) := by decide +kernel
theorem dX7_planClosing_22 : decode cX7_planClosing 22 = .ok (.getfield 12, 3) := by decide +kernel
theorem dX7_planClosing_25 : decode cX7_planClosing 25 = .ok (.iload_n 2, 1) := by decide +kernel
theorem dX7_planClosing_26 : decode cX7_planClosing 26 = .ok (.invokevirtual 353, 3) := by decide +kernel
theorem dX7_planClosing_29 : decode cX7_planClosing 29 = .ok (.ifCond .eq 26, 3) := by decide +kernel
theorem dX7_planClosing_32 : decode cX7_planClosing 32 = .ok (.aload_n 0, 1) := by decide +kernel
theorem dX7_planClosing_33 : decode cX7_planClosing 33 = .ok (.getfield 26, 3) := by decide +kernel
theorem dX7_planClosing_36 : decode cX7_planClosing 36 = .ok (.iload_n 2, 1) := by decide +kernel
theorem dX7_planClosing_37 : decode cX7_planClosing 37 = .ok (.iload_n 1, 1) := by decide +kernel
theorem dX7_planClosing_38 : decode cX7_planClosing 38 = .ok (.invokevirtual 345, 3) := by decide +kernel
theorem dX7_planClosing_4 : decode cX7_planClosing 4 = .ok (.iconst 0, 1) := by decide +kernel
theorem dX7_planClosing_41 : decode cX7_planClosing 41 = .ok (.lstore_n 3, 1) := by decide +kernel
theorem dX7_planClosing_42 : decode cX7_planClosing 42 = .ok (.lload_n 3, 1) := by decide +kernel
theorem dX7_planClosing_43 : decode cX7_planClosing 43 = .ok (.lconst 0, 1) := by decide +kernel
theorem dX7_planClosing_44 : decode cX7_planClosing 44 = .ok (.lcmp, 1) := by decide +kernel
theorem dX7_planClosing_45 : decode cX7_planClosing 45 = .ok (.ifCond .eq 10, 3) := by decide +kernel
theorem dX7_planClosing_48 : decode cX7_planClosing 48 = .ok (.aload_n 0, 1) := by decide +kernel
theorem dX7_planClosing_49 : decode cX7_planClosing 49 = .ok (.iload_n 2, 1) := by decide +kernel
theorem dX7_planClosing_5 : decode cX7_planClosing 5 = .ok (.putfield 141, 3) := by decide +kernel
theorem dX7_planClosing_50 : decode cX7_planClosing 50 = .ok (.lload_n 3, 1) := by decide +kernel
theorem dX7_planClosing_51 : decode cX7_planClosing 51 = .ok (.lneg, 1) := by decide +kernel
theorem dX7_planClosing_52 : decode cX7_planClosing 52 = .ok (.invokevirtual 289, 3) := by decide +kernel
theorem dX7_planClosing_55 : decode cX7_planClosing 55 = .ok (.iinc 2 1, 3) := by decide +kernel
theorem dX7_planClosing_58 : decode cX7_planClosing 58 = .ok (.goto (-48), 3) := by decide +kernel
theorem dX7_planClosing_61 : decode cX7_planClosing 61 = .ok (.return_, 1) := by decide +kernel
theorem dX7_planClosing_8 : decode cX7_planClosing 8 = .ok (.iconst 0, 1) := by decide +kernel
theorem dX7_planClosing_9 : decode cX7_planClosing 9 = .ok (.istore_n 2, 1) := by decide +kernel
set_option maxHeartbeats 4000000 in
set_option maxRecDepth 100000 in
theorem c_T_planClosing (l : Launch) (D : va_G) (κ : ClassId × ClassId × ClassId) (a : Nat → Nat) (sz : Nat) (u : TS) (d : Nat) (q1 : OK u) (q2 : d ≤ 364) : TM l yX7_planClosing cX7_planClosing 5 none 2 50 D κ a u sz [.ref (a 0), .int (nI d)] (QV D κ a sz (fun u' => u' = fPC u d (AC_count u))) := by
  refine TM.of (by decide +kernel) (Nat.le_of_ble_eq_true rfl) ?_
  intro p e s m below meth c ls hC hr hk hsz H locs hG hl
  have hx := hC.1
  have hb := hC.2.1
  have hl : lv_has ls 5 [(0, .ref (a 0)), (1, .int (nI d))] := hl
  have qok := q1
  have ⟨n1, n2, n3, n4, n5, n6, n7, n8, n9, n10⟩ := qok.n
  refine lv_aload_n hx hb dX7_planClosing_0 rfl (lv_at hl 0 rfl) ?_
  refine gf_T_plan hC hG (hC.2.2.2.2 _ w41) dX7_planClosing_1 ?_
  refine lv_iconst (v := nI 0) hx hb dX7_planClosing_4 (by decide) ?_
  refine pf_L1_count hC hG (hC.2.2.2.2 _ w194) dX7_planClosing_5 (fun H locs hG => ?_)
  refine lv_iconst (v := nI 0) hx hb dX7_planClosing_8 (by decide) ?_
  refine lv_istore_n (lv' := [(2, .int (nI 0)), (0, .ref (a 0)), (1, .int (nI d))]) hx hb dX7_planClosing_9 rfl hl (by decide) rfl (fun ls hl => ?_)
  have lp10 : ∀ (n : Nat) (i : Nat), AC_count u - i < n → (i ≤ AC_count u) → ∀ (H : Heap) (locs : List Loc), GW D κ a (fPC u d i) (AA a sz) s H locs → ∀ ls : Array Slot, lv_has ls 5 [(2, .int (nI i)), (0, .ref (a 0)), (1, .int (nI d))] → W p l e { frames := 2, cells := 0, slots := 0, locals := 50 } s m [.ref (a 0), .int (nI d)].toArray below meth c H locs 0 0 (MQ below (QV D κ a sz (fun u' => u' = fPC u d (AC_count u))) [.ref (a 0), .int (nI d)].toArray s 0 0 (AA a sz)) (F0 m 10 ls []) := by
    intro n
    induction n with
    | zero =>
      intro i hm
      exact absurd hm (Nat.not_lt_zero _)
    | succ n ih10 =>
      intro i hm10 c10_1 H locs hG ls hl
      have ⟨f1, f2, f3⟩ := fPC_c u d i c10_1
      have f4 := f1.n
      have f5 := fPC_OK q1 d c10_1
      refine lv_iload_n hx hb dX7_planClosing_10 rfl (lv_at hl 0 rfl) ?_
      refine lv_aload_n hx hb dX7_planClosing_11 rfl (lv_at hl 1 rfl) ?_
      refine gf_T_accounts hC hG (hC.2.2.2.2 _ w16) dX7_planClosing_12 ?_
      refine gf_AC_count hC hG (hC.2.2.2.2 _ w138) dX7_planClosing_15 ?_
      refine bn_ge (tgt := 61) hx hb (by omega) (by omega) dX7_planClosing_18 (by decide) (fun h18 => ?_) (fun h18 => ?_)
      · have hi : i = AC_count u := by omega
        exact te_v hC hG hr hk (by rw [hi]) dX7_planClosing_61
      · refine lv_aload_n hx hb dX7_planClosing_21 rfl (lv_at hl 1 rfl) ?_
        refine gf_T_accounts hC hG (hC.2.2.2.2 _ w16) dX7_planClosing_22 ?_
        refine lv_iload_n hx hb dX7_planClosing_25 rfl (lv_at hl 0 rfl) ?_
        refine k_AC_isClosed hC hG i (by omega) (f5) w195 ⟨by decide, by decide⟩ hl.1 (Nat.le_of_ble_eq_true rfl) dX7_planClosing_26 ⟨Nat.zero_le _, Nat.zero_le _⟩ (fun H locs hG => ?_)
        refine bb_eq (tgt := 55) hx hb dX7_planClosing_29 (by decide) (fun h29 => ?_) (fun h29 => ?_)
        · refine lv_iinc (v := (nI (i + 1))) (lv' := [(2, .int (nI (i + 1))), (0, .ref (a 0)), (1, .int (nI d))]) hx hb dX7_planClosing_55 hl (k := 0) rfl (nI_1 _) (by decide) rfl (fun ls hl => ?_)
          refine lv_goto (tgt := 10) hx hb dX7_planClosing_58 (by decide) ?_
          have hG : GW D κ a (fPC u d (i + 1)) (AA a sz) s H locs := by
            have eu : (fPC u d (i + 1)) = (fPC u d i) := by rw [fPC]; first | exact if_pos ⟨h29, h44⟩ | exact if_neg (fun hh => Bool.false_ne_true (h29.symm.trans hh.1)) | exact if_neg (fun hh => hh.2 h44)
            rw [eu]; exact hG
          exact ih10  (i + 1) (by omega) (by omega) H locs hG ls (lv_sub hl [0, 1, 2] rfl)
        · refine lv_aload_n hx hb dX7_planClosing_32 rfl (lv_at hl 1 rfl) ?_
          refine gf_T_journal hC hG (hC.2.2.2.2 _ w24) dX7_planClosing_33 ?_
          refine lv_iload_n hx hb dX7_planClosing_36 rfl (lv_at hl 0 rfl) ?_
          refine lv_iload_n hx hb dX7_planClosing_37 rfl (lv_at hl 2 rfl) ?_
          refine k_J_amountUpTo hC hG i d (f5) (by omega) w199 ⟨by decide, by decide⟩ hl.1 (Nat.le_of_ble_eq_true rfl) dX7_planClosing_38 ⟨Nat.zero_le _, Nat.zero_le _⟩ (fun H locs hG => ?_)
          refine lv_lstore_n (lv' := [(3, .long (fAmt (fPC u d i) i d (J_legCount (fPC u d i)))), (2, .int (nI i)), (0, .ref (a 0)), (1, .int (nI d))]) hx hb dX7_planClosing_41 rfl hl (by decide) rfl (fun ls hl => ?_)
          refine lv_lload_n hx hb dX7_planClosing_42 rfl (lv_at hl 0 rfl) ?_
          refine lv_lconst (v := 0) hx hb dX7_planClosing_43 (by decide) ?_
          refine bl_eq (tgt := 55) hx hb dX7_planClosing_44 dX7_planClosing_45 (by decide) (fun h44 => ?_) (fun h44 => ?_)
          · refine lv_iinc (v := (nI (i + 1))) (lv' := [(2, .int (nI (i + 1))), (3, .long (fAmt (fPC u d i) i d (J_legCount (fPC u d i)))), (0, .ref (a 0)), (1, .int (nI d))]) hx hb dX7_planClosing_55 hl (k := 1) rfl (nI_1 _) (by decide) rfl (fun ls hl => ?_)
            refine lv_goto (tgt := 10) hx hb dX7_planClosing_58 (by decide) ?_
            have hG : GW D κ a (fPC u d (i + 1)) (AA a sz) s H locs := by
              have eu : (fPC u d (i + 1)) = (fPC u d i) := by rw [fPC]; first | exact if_pos ⟨h29, h44⟩ | exact if_neg (fun hh => Bool.false_ne_true (h29.symm.trans hh.1)) | exact if_neg (fun hh => hh.2 h44)
              rw [eu]; exact hG
            exact ih10  (i + 1) (by omega) (by omega) H locs hG ls (lv_sub hl [0, 2, 3] rfl)
          · refine lv_aload_n hx hb dX7_planClosing_48 rfl (lv_at hl 2 rfl) ?_
            refine lv_iload_n hx hb dX7_planClosing_49 rfl (lv_at hl 1 rfl) ?_
            refine lv_lload_n hx hb dX7_planClosing_50 rfl (lv_at hl 0 rfl) ?_
            refine lv_lneg hx hb dX7_planClosing_51 ?_
            refine k_T_planLeg hC hG i (-(fAmt (fPC u d i) i d (J_legCount (fPC u d i)))) (f5) (by omega) (by omega) w211 ⟨by decide, by decide⟩ hl.1 (Nat.le_of_ble_eq_true rfl) dX7_planClosing_52 ⟨Nat.zero_le _, Nat.zero_le _⟩ (fun H locs hG => ?_)
            refine lv_iinc (v := (nI (i + 1))) (lv' := [(2, .int (nI (i + 1))), (3, .long (fAmt (fPC u d i) i d (J_legCount (fPC u d i)))), (0, .ref (a 0)), (1, .int (nI d))]) hx hb dX7_planClosing_55 hl (k := 1) rfl (nI_1 _) (by decide) rfl (fun ls hl => ?_)
            refine lv_goto (tgt := 10) hx hb dX7_planClosing_58 (by decide) ?_
            have hG : GW D κ a (fPC u d (i + 1)) (AA a sz) s H locs := by
              have eu : (fPC u d (i + 1)) = (fPLeg (fPC u d i) i (-(fAmt (fPC u d i) i d (J_legCount (fPC u d i))))) := by rw [fPC]; first | exact if_pos ⟨h29, h44⟩ | exact if_neg (fun hh => Bool.false_ne_true (h29.symm.trans hh.1)) | exact if_neg (fun hh => hh.2 h44)
              rw [eu]; exact hG
            exact ih10  (i + 1) (by omega) (by omega) H locs hG ls (lv_sub hl [0, 2, 3] rfl)
  have hG : GW D κ a (fPC u d 0) (AA a sz) s H locs := by
    have eu : (fPC u d 0) = (sN u 5 0) := by rfl
    rw [eu]; exact hG
  exact lp10 _ 0 (Nat.lt_succ_self _) (by omega) H locs hG ls (lv_sub hl [0, 1, 2] rfl)
theorem k_T_planClosing {p : Program} {l : Launch} {e : Env} {R : Room} {s : State} {m : MethodId} {args : Array Value} {below : List Frame} {meth : Method} {c : Code} {H : Heap} {locs : List Loc} {cs ss : Nat} {Q : State → Prop} {cc : ByteArray} {nL pc : Nat} {ls : Array Slot} {rest : List Value} {own : String} {idx : Nat} {D : va_G} {κ : ClassId × ClassId × ClassId} {a : Nat → Nat} {u : TS} {A : Nat → Prop} (hC : CallFix p m c cc nL s args WALL own) (hG : GW D κ a u A s H locs) (d : Nat) (q1 : OK u) (q2 : d ≤ 364) (wl : Cond.methodLink own idx yX7_planClosing ∈ WALL) (hR : 2 + 1 ≤ R.frames ∧ 8 + (5 + 11) + 50 ≤ R.locals) (hls : ls.size = nL) (h8 : (rest.map fun v => v.category).sum ≤ 8) (hd : decode cc pc = .ok (.invokevirtual idx, 3)) (hcs : cs ≤ R.cells ∧ ss ≤ R.slots) (kk : ∀ (H1 : Heap) (locs1 : List Loc), GW D κ a (fPC u d (AC_count u)) A s H1 locs1 → W p l e R s m args below meth c H1 locs1 cs ss Q (F0 m (pc + 3) ls (rest))) : W p l e R s m args below meth c H locs cs ss Q (F0 m pc ls (.int (nI d) :: .ref (a 0) :: rest)) :=
  tc_v hG (tr_V (n := 1) (k := 0) (ci := 7) (As := [.int (nI d)]) hC hG (c_T_planClosing l D κ a H.size u d q1 q2) rfl rfl wl w2 w193 w191 w192 (by decide +kernel) hR rfl hls rfl h8 hd hcs) (fun u' H1 locs1 hq hG1 => by subst hq; exact kk H1 locs1 hG1)

theorem dX7_wouldClose_0 : decode cX7_wouldClose 0 = .ok (.iload_n 1, 1) := by decide +kernel
theorem dX7_wouldClose_1 : decode cX7_wouldClose 1 = .ok (.invokestatic 133, 3) := by decide +kernel
theorem dX7_wouldClose_10 : decode cX7_wouldClose 10 = .ok (.getfield 59, 3) := by decide +kernel
theorem dX7_wouldClose_13 : decode cX7_wouldClose 13 = .ok (.invokevirtual 162, 3) := by decide +kernel
theorem dX7_wouldClose_16 : decode cX7_wouldClose 16 = .ok (.lneg, 1) := by decide +kernel
theorem dX7_wouldClose_17 : decode cX7_wouldClose 17 = .ok (.lreturn, 1) := by decide +kernel
theorem dX7_wouldClose_4 : decode cX7_wouldClose 4 = .ok (.aload_n 0, 1) := by decide +kernel
theorem dX7_wouldClose_5 : decode cX7_wouldClose 5 = .ok (.iload_n 1, 1) := by decide +kernel
theorem dX7_wouldClose_6 : decode cX7_wouldClose 6 = .ok (.invokevirtual 286, 3) := by decide +kernel
theorem dX7_wouldClose_9 : decode cX7_wouldClose 9 = .ok (.aload_n 0, 1) := by decide +kernel
set_option maxHeartbeats 4000000 in
set_option maxRecDepth 100000 in
theorem c_T_wouldClose (l : Launch) (D : va_G) (κ : ClassId × ClassId × ClassId) (a : Nat → Nat) (sz : Nat) (u : TS) (d : Nat) (q1 : OK u) (q2 : d ≤ 364) : TM l yX7_wouldClose cX7_wouldClose 2 (some .long) 3 74 D κ a u sz [.ref (a 0), .int (nI d)] (QL D κ a sz (fun r u' => r = (fWould u d) ∧ u' = fPC u d (AC_count u))) := by
  refine TM.of (by decide +kernel) (Nat.le_of_ble_eq_true rfl) ?_
  intro p e s m below meth c ls hC hr hk hsz H locs hG hl
  have hx := hC.1
  have hb := hC.2.1
  have hl : lv_has ls 2 [(0, .ref (a 0)), (1, .int (nI d))] := hl
  have qok := q1
  have ⟨n1, n2, n3, n4, n5, n6, n7, n8, n9, n10⟩ := qok.n
  have ⟨f1, f2, f3⟩ := fPC_c u d (AC_count u) (Nat.le_refl _)
  have f4 := f1.n
  refine lv_iload_n hx hb dX7_wouldClose_0 rfl (lv_at hl 1 rfl) ?_
  refine k_S_needDay hC hG d (q2) w187 ⟨by decide, by decide⟩ hl.1 (Nat.le_of_ble_eq_true rfl) dX7_wouldClose_1 ⟨Nat.zero_le _, Nat.zero_le _⟩ (fun H locs hG => ?_)
  refine lv_aload_n hx hb dX7_wouldClose_4 rfl (lv_at hl 0 rfl) ?_
  refine lv_iload_n hx hb dX7_wouldClose_5 rfl (lv_at hl 1 rfl) ?_
  refine k_T_planClosing hC hG d (q1) (q2) w190 ⟨by decide, by decide⟩ hl.1 (Nat.le_of_ble_eq_true rfl) dX7_wouldClose_6 ⟨Nat.zero_le _, Nat.zero_le _⟩ (fun H locs hG => ?_)
  refine lv_aload_n hx hb dX7_wouldClose_9 rfl (lv_at hl 0 rfl) ?_
  refine gf_T_plan hC hG (hC.2.2.2.2 _ w41) dX7_wouldClose_10 ?_
  refine k_L1_worthSum hC hG  (by omega) w226 ⟨by decide, by decide⟩ hl.1 (Nat.le_of_ble_eq_true rfl) dX7_wouldClose_13 ⟨Nat.zero_le _, Nat.zero_le _⟩ (fun H locs hG => ?_)
  refine lv_lneg hx hb dX7_wouldClose_16 ?_
  exact te_l hC hG hr hk ⟨(show (-(fSum (L1_worth (fPC u d (AC_count u))) (L1_count (fPC u d (AC_count u))))) = fWould u d from by rfl), rfl⟩ dX7_wouldClose_17
theorem k_T_wouldClose {p : Program} {l : Launch} {e : Env} {R : Room} {s : State} {m : MethodId} {args : Array Value} {below : List Frame} {meth : Method} {c : Code} {H : Heap} {locs : List Loc} {cs ss : Nat} {Q : State → Prop} {cc : ByteArray} {nL pc : Nat} {ls : Array Slot} {rest : List Value} {own : String} {idx : Nat} {D : va_G} {κ : ClassId × ClassId × ClassId} {a : Nat → Nat} {u : TS} {A : Nat → Prop} (hC : CallFix p m c cc nL s args WALL own) (hG : GW D κ a u A s H locs) (d : Nat) (q1 : OK u) (q2 : d ≤ 364) (wl : Cond.methodLink own idx yX7_wouldClose ∈ WALL) (hR : 3 + 1 ≤ R.frames ∧ 8 + (2 + 11) + 74 ≤ R.locals) (hls : ls.size = nL) (h8 : (rest.map fun v => v.category).sum ≤ 8) (hd : decode cc pc = .ok (.invokevirtual idx, 3)) (hcs : cs ≤ R.cells ∧ ss ≤ R.slots) (kk : ∀ (H1 : Heap) (locs1 : List Loc), GW D κ a (fPC u d (AC_count u)) A s H1 locs1 → W p l e R s m args below meth c H1 locs1 cs ss Q (F0 m (pc + 3) ls (.long (fWould u d) :: rest))) : W p l e R s m args below meth c H locs cs ss Q (F0 m pc ls (.int (nI d) :: .ref (a 0) :: rest)) :=
  tc_l hG (tr_V (n := 1) (k := 0) (ci := 7) (As := [.int (nI d)]) hC hG (c_T_wouldClose l D κ a H.size u d q1 q2) rfl rfl wl w2 w186 w184 w185 (by decide +kernel) hR rfl hls rfl h8 hd hcs) (fun r u' H1 locs1 hq hG1 => by obtain ⟨rfl, rfl⟩ := hq; exact kk H1 locs1 hG1)

theorem dX7_planDraft_0 : decode cX7_planDraft 0 = .ok (.aload_n 0, 1) := by decide +kernel
theorem dX7_planDraft_1 : decode cX7_planDraft 1 = .ok (.getfield 59, 3) := by decide +kernel
theorem dX7_planDraft_10 : decode cX7_planDraft 10 = .ok (.iload_n 1, 1) := by decide +kernel
theorem dX7_planDraft_100 : decode cX7_planDraft 100 = .ok (.getfield 63, 3) := by decide +kernel
theorem dX7_planDraft_103 : decode cX7_planDraft 103 = .ok (.lload_n 1, 1) := by decide +kernel
theorem dX7_planDraft_104 : decode cX7_planDraft 104 = .ok (.lneg, 1) := by decide +kernel
theorem dX7_planDraft_105 : decode cX7_planDraft 105 = .ok (.invokevirtual 289, 3) := by decide +kernel
theorem dX7_planDraft_108 : decode cX7_planDraft 108 = .ok (.return_, 1) := by decide +kernel
theorem dX7_planDraft_11 : decode cX7_planDraft 11 = .ok (.aload_n 0, 1) := by decide +kernel
theorem dX7_planDraft_12 : decode cX7_planDraft 12 = .ok (.getfield 19, 3) := by decide +kernel
theorem dX7_planDraft_15 : decode cX7_planDraft 15 = .ok (.getfield 138, 3) := by decide +kernel
theorem dX7_planDraft_18 : decode cX7_planDraft 18 = .ok (.getfield 141, 3) := by decide +kernel
theorem dX7_planDraft_21 : decode cX7_planDraft 21 = .ok (.if_icmp .ge 52, 3) := by decide +kernel
theorem dX7_planDraft_24 : decode cX7_planDraft 24 = .ok (.aload_n 0, 1) := by decide +kernel
theorem dX7_planDraft_25 : decode cX7_planDraft 25 = .ok (.getfield 59, 3) := by decide +kernel
theorem dX7_planDraft_28 : decode cX7_planDraft 28 = .ok (.aload_n 0, 1) := by decide +kernel
theorem dX7_planDraft_29 : decode cX7_planDraft 29 = .ok (.getfield 19, 3) := by decide +kernel
theorem dX7_planDraft_32 : decode cX7_planDraft 32 = .ok (.getfield 138, 3) := by decide +kernel
theorem dX7_planDraft_35 : decode cX7_planDraft 35 = .ok (.getfield 439, 3) := by decide +kernel
theorem dX7_planDraft_38 : decode cX7_planDraft 38 = .ok (.iload_n 1, 1) := by decide +kernel
theorem dX7_planDraft_39 : decode cX7_planDraft 39 = .ok (.iaload, 1) := by decide +kernel
theorem dX7_planDraft_4 : decode cX7_planDraft 4 = .ok (.iconst 0, 1) := by decide +kernel
theorem dX7_planDraft_40 : decode cX7_planDraft 40 = .ok (.aload_n 0, 1) := by decide +kernel
theorem dX7_planDraft_41 : decode cX7_planDraft 41 = .ok (.getfield 19, 3) := by decide +kernel
theorem dX7_planDraft_44 : decode cX7_planDraft 44 = .ok (.getfield 138, 3) := by decide +kernel
theorem dX7_planDraft_47 : decode cX7_planDraft 47 = .ok (.getfield 440, 3) := by decide +kernel
theorem dX7_planDraft_5 : decode cX7_planDraft 5 = .ok (.putfield 141, 3) := by decide +kernel
theorem dX7_planDraft_50 : decode cX7_planDraft 50 = .ok (.iload_n 1, 1) := by decide +kernel
theorem dX7_planDraft_51 : decode cX7_planDraft 51 = .ok (.laload, 1) := by decide +kernel
theorem dX7_planDraft_52 : decode cX7_planDraft 52 = .ok (.aload_n 0, 1) := by decide +kernel
theorem dX7_planDraft_53 : decode cX7_planDraft 53 = .ok (.getfield 19, 3) := by decide +kernel
theorem dX7_planDraft_56 : decode cX7_planDraft 56 = .ok (.getfield 138, 3) := by decide +kernel
theorem dX7_planDraft_59 : decode cX7_planDraft 59 = .ok (.getfield 441, 3) := by decide +kernel
theorem dX7_planDraft_62 : decode cX7_planDraft 62 = .ok (.iload_n 1, 1) := by decide +kernel
theorem dX7_planDraft_63 : decode cX7_planDraft 63 = .ok (.laload, 1) := by decide +kernel
theorem dX7_planDraft_64 : decode cX7_planDraft 64 = .ok (.invokevirtual 159, 3) := by decide +kernel
theorem dX7_planDraft_67 : decode cX7_planDraft 67 = .ok (.iinc 1 1, 3) := by decide +kernel
theorem dX7_planDraft_70 : decode cX7_planDraft 70 = .ok (.goto (-60), 3) := by decide +kernel
theorem dX7_planDraft_73 : decode cX7_planDraft 73 = .ok (.aload_n 0, 1) := by decide +kernel
theorem dX7_planDraft_74 : decode cX7_planDraft 74 = .ok (.getfield 19, 3) := by decide +kernel
theorem dX7_planDraft_77 : decode cX7_planDraft 77 = .ok (.getfield 138, 3) := by decide +kernel
theorem dX7_planDraft_8 : decode cX7_planDraft 8 = .ok (.iconst 0, 1) := by decide +kernel
theorem dX7_planDraft_80 : decode cX7_planDraft 80 = .ok (.invokevirtual 162, 3) := by decide +kernel
theorem dX7_planDraft_83 : decode cX7_planDraft 83 = .ok (.lstore_n 1, 1) := by decide +kernel
theorem dX7_planDraft_84 : decode cX7_planDraft 84 = .ok (.lload_n 1, 1) := by decide +kernel
theorem dX7_planDraft_85 : decode cX7_planDraft 85 = .ok (.lconst 0, 1) := by decide +kernel
theorem dX7_planDraft_86 : decode cX7_planDraft 86 = .ok (.lcmp, 1) := by decide +kernel
theorem dX7_planDraft_87 : decode cX7_planDraft 87 = .ok (.ifCond .eq 21, 3) := by decide +kernel
theorem dX7_planDraft_9 : decode cX7_planDraft 9 = .ok (.istore_n 1, 1) := by decide +kernel
theorem dX7_planDraft_90 : decode cX7_planDraft 90 = .ok (.aload_n 0, 1) := by decide +kernel
theorem dX7_planDraft_91 : decode cX7_planDraft 91 = .ok (.getfield 63, 3) := by decide +kernel
theorem dX7_planDraft_94 : decode cX7_planDraft 94 = .ok (.iconst (-1), 1) := by decide +kernel
theorem dX7_planDraft_95 : decode cX7_planDraft 95 = .ok (.if_icmp .eq 13, 3) := by decide +kernel
theorem dX7_planDraft_98 : decode cX7_planDraft 98 = .ok (.aload_n 0, 1) := by decide +kernel
theorem dX7_planDraft_99 : decode cX7_planDraft 99 = .ok (.aload_n 0, 1) := by decide +kernel
set_option maxHeartbeats 4000000 in
set_option maxRecDepth 100000 in
theorem c_T_planDraft (l : Launch) (D : va_G) (κ : ClassId × ClassId × ClassId) (a : Nat → Nat) (sz : Nat) (u : TS)  (q1 : OK u) : TM l yX7_planDraft cX7_planDraft 3 none 2 50 D κ a u sz [.ref (a 0)] (QV D κ a sz (fun u' => u' = fPlanD u)) := by
  refine TM.of (by decide +kernel) (Nat.le_of_ble_eq_true rfl) ?_
  intro p e s m below meth c ls hC hr hk hsz H locs hG hl
  have hx := hC.1
  have hb := hC.2.1
  have hl : lv_has ls 3 [(0, .ref (a 0))] := hl
  have qok := q1
  have ⟨n1, n2, n3, n4, n5, n6, n7, n8, n9, n10⟩ := qok.n
  have ⟨f1, f2, f3⟩ := fPD_c q1 (L0_count u) (Nat.le_refl _)
  have f4 := f1.n
  have f5 := fPD_OK q1 (Nat.le_refl (L0_count u))
  refine lv_aload_n hx hb dX7_planDraft_0 rfl (lv_at hl 0 rfl) ?_
  refine gf_T_plan hC hG (hC.2.2.2.2 _ w41) dX7_planDraft_1 ?_
  refine lv_iconst (v := nI 0) hx hb dX7_planDraft_4 (by decide) ?_
  refine pf_L1_count hC hG (hC.2.2.2.2 _ w194) dX7_planDraft_5 (fun H locs hG => ?_)
  refine lv_iconst (v := nI 0) hx hb dX7_planDraft_8 (by decide) ?_
  refine lv_istore_n (lv' := [(1, .int (nI 0)), (0, .ref (a 0))]) hx hb dX7_planDraft_9 rfl hl (by decide) rfl (fun ls hl => ?_)
  have lp10 : ∀ (n : Nat) (i : Nat), L0_count u - i < n → (i ≤ L0_count u) → ∀ (H : Heap) (locs : List Loc), GW D κ a (fPD u i) (AA a sz) s H locs → ∀ ls : Array Slot, lv_has ls 3 [(1, .int (nI i)), (0, .ref (a 0))] → W p l e { frames := 2, cells := 0, slots := 0, locals := 50 } s m [.ref (a 0)].toArray below meth c H locs 0 0 (MQ below (QV D κ a sz (fun u' => u' = fPlanD u)) [.ref (a 0)].toArray s 0 0 (AA a sz)) (F0 m 10 ls []) := by
    intro n
    induction n with
    | zero =>
      intro i hm
      exact absurd hm (Nat.not_lt_zero _)
    | succ n ih10 =>
      intro i hm10 c10_1 H locs hG ls hl
      have ⟨g1, g2, g3⟩ := fPD_c q1 i c10_1
      have g4 := g1.n
      have g5 : L0_account (fPD u i) i = L0_account u i := congrFun (g1.2.2.2.1 2 (by decide)) i
      refine lv_iload_n hx hb dX7_planDraft_10 rfl (lv_at hl 0 rfl) ?_
      refine lv_aload_n hx hb dX7_planDraft_11 rfl (lv_at hl 1 rfl) ?_
      refine gf_T_draft hC hG (hC.2.2.2.2 _ w20) dX7_planDraft_12 ?_
      refine gf_DR_legs hC hG (hC.2.2.2.2 _ w399) dX7_planDraft_15 ?_
      refine gf_L0_count hC hG (hC.2.2.2.2 _ w194) dX7_planDraft_18 ?_
      refine bn_ge (tgt := 73) hx hb (by omega) (by omega) dX7_planDraft_21 (by decide) (fun h21 => ?_) (fun h21 => ?_)
      · have hi : i = L0_count u := by omega
        have hG : GW D κ a (fPD u (L0_count u)) (AA a sz) s H locs := by rw [← hi]; exact hG
        refine lv_aload_n hx hb dX7_planDraft_73 rfl (lv_at hl 1 rfl) ?_
        refine gf_T_draft hC hG (hC.2.2.2.2 _ w20) dX7_planDraft_74 ?_
        refine gf_DR_legs hC hG (hC.2.2.2.2 _ w399) dX7_planDraft_77 ?_
        refine k_L0_worthSum hC hG  (by omega) w226 ⟨by decide, by decide⟩ hl.1 (Nat.le_of_ble_eq_true rfl) dX7_planDraft_80 ⟨Nat.zero_le _, Nat.zero_le _⟩ (fun H locs hG => ?_)
        refine lv_lstore_n (lv' := [(1, .long (fSum (L0_worth (fPD u (L0_count u))) (L0_count (fPD u (L0_count u))))), (0, .ref (a 0))]) hx hb dX7_planDraft_83 rfl hl (by decide) rfl (fun ls hl => ?_)
        refine lv_lload_n hx hb dX7_planDraft_84 rfl (lv_at hl 0 rfl) ?_
        refine lv_lconst (v := 0) hx hb dX7_planDraft_85 (by decide) ?_
        refine bl_eq (tgt := 108) hx hb dX7_planDraft_86 dX7_planDraft_87 (by decide) (fun h86 => ?_) (fun h86 => ?_)
        · exact te_v hC hG hr hk (by unfold fPlanD; split; rfl; exact (if_pos h86).symm) dX7_planDraft_108
        · refine lv_aload_n hx hb dX7_planDraft_90 rfl (lv_at hl 1 rfl) ?_
          refine gf_T_exchangeAccount hC hG (hC.2.2.2.2 _ w42) dX7_planDraft_91 ?_
          refine lv_iconst (v := -1) hx hb dX7_planDraft_94 (by decide) ?_
          refine bo_eq (tgt := 108) hx hb (by intro j9 e9; have := f5.ex e9; omega) dX7_planDraft_95 (by decide) (fun h95 => ?_) (fun h95 => ?_)
          · exact te_v hC hG hr hk (by unfold fPlanD; rw [h95]) dX7_planDraft_108
          · obtain ⟨j, ej⟩ := Option.ne_none_iff_exists'.mp h95
            refine lv_aload_n hx hb dX7_planDraft_98 rfl (lv_at hl 1 rfl) ?_
            refine lv_aload_n hx hb dX7_planDraft_99 rfl (lv_at hl 1 rfl) ?_
            refine gf_T_exchangeAccount hC hG (hC.2.2.2.2 _ w42) dX7_planDraft_100 ?_
            rw [ej]
            refine W.eq (g2 := F0 m 103 ls [.int (nI j), .ref (a 0)]) rfl ?_
            refine lv_lload_n hx hb dX7_planDraft_103 rfl (lv_at hl 0 rfl) ?_
            refine lv_lneg hx hb dX7_planDraft_104 ?_
            refine k_T_planLeg hC hG j (-(fSum (L0_worth (fPD u (L0_count u))) (L0_count (fPD u (L0_count u))))) (f5) (f5.ex ej) (by omega) w211 ⟨by decide, by decide⟩ hl.1 (Nat.le_of_ble_eq_true rfl) dX7_planDraft_105 ⟨Nat.zero_le _, Nat.zero_le _⟩ (fun H locs hG => ?_)
            exact te_v hC hG hr hk (by unfold fPlanD; rw [ej]; exact (if_neg h86).symm) dX7_planDraft_108
      · have g6 := q1.dr (i := i) (by omega)
        refine lv_aload_n hx hb dX7_planDraft_24 rfl (lv_at hl 1 rfl) ?_
        refine gf_T_plan hC hG (hC.2.2.2.2 _ w41) dX7_planDraft_25 ?_
        refine lv_aload_n hx hb dX7_planDraft_28 rfl (lv_at hl 1 rfl) ?_
        refine gf_T_draft hC hG (hC.2.2.2.2 _ w20) dX7_planDraft_29 ?_
        refine gf_DR_legs hC hG (hC.2.2.2.2 _ w399) dX7_planDraft_32 ?_
        refine gf_L0_account hC hG (hC.2.2.2.2 _ w428) dX7_planDraft_35 ?_
        refine lv_iload_n hx hb dX7_planDraft_38 rfl (lv_at hl 0 rfl) ?_
        refine al_L0_account hC hG (by omega) dX7_planDraft_39 ?_
        refine lv_aload_n hx hb dX7_planDraft_40 rfl (lv_at hl 1 rfl) ?_
        refine gf_T_draft hC hG (hC.2.2.2.2 _ w20) dX7_planDraft_41 ?_
        refine gf_DR_legs hC hG (hC.2.2.2.2 _ w399) dX7_planDraft_44 ?_
        refine gf_L0_amount hC hG (hC.2.2.2.2 _ w433) dX7_planDraft_47 ?_
        refine lv_iload_n hx hb dX7_planDraft_50 rfl (lv_at hl 0 rfl) ?_
        refine al_L0_amount hC hG (by omega) dX7_planDraft_51 ?_
        refine lv_aload_n hx hb dX7_planDraft_52 rfl (lv_at hl 1 rfl) ?_
        refine gf_T_draft hC hG (hC.2.2.2.2 _ w20) dX7_planDraft_53 ?_
        refine gf_DR_legs hC hG (hC.2.2.2.2 _ w399) dX7_planDraft_56 ?_
        refine gf_L0_worth hC hG (hC.2.2.2.2 _ w434) dX7_planDraft_59 ?_
        refine lv_iload_n hx hb dX7_planDraft_62 rfl (lv_at hl 0 rfl) ?_
        refine al_L0_worth hC hG (by omega) dX7_planDraft_63 ?_
        refine k_L1_add hC hG (L0_account (fPD u i) i) (L0_amount (fPD u i) i) (L0_worth (fPD u i) i) (by omega) w222 ⟨by decide, by decide⟩ hl.1 (Nat.le_of_ble_eq_true rfl) dX7_planDraft_64 ⟨Nat.zero_le _, Nat.zero_le _⟩ (fun H locs hG => ?_)
        refine lv_iinc (v := (nI (i + 1))) (lv' := [(1, .int (nI (i + 1))), (0, .ref (a 0))]) hx hb dX7_planDraft_67 hl (k := 0) rfl (nI_1 _) (by decide) rfl (fun ls hl => ?_)
        refine lv_goto (tgt := 10) hx hb dX7_planDraft_70 (by decide) ?_
        have hG : GW D κ a (fPD u (i + 1)) (AA a sz) s H locs := by
          have eu : (fPD u (i + 1)) = (fRow 1 (fPD u i) (L0_account (fPD u i) i) (L0_amount (fPD u i) i) (L0_worth (fPD u i) i)) := by rfl
          rw [eu]; exact hG
        exact ih10  (i + 1) (by omega) (by omega) H locs hG ls (lv_sub hl [0, 1] rfl)
  have hG : GW D κ a (fPD u 0) (AA a sz) s H locs := by
    have eu : (fPD u 0) = (sN u 5 0) := by rfl
    rw [eu]; exact hG
  exact lp10 _ 0 (Nat.lt_succ_self _) (by omega) H locs hG ls (lv_sub hl [0, 1] rfl)
theorem k_T_planDraft {p : Program} {l : Launch} {e : Env} {R : Room} {s : State} {m : MethodId} {args : Array Value} {below : List Frame} {meth : Method} {c : Code} {H : Heap} {locs : List Loc} {cs ss : Nat} {Q : State → Prop} {cc : ByteArray} {nL pc : Nat} {ls : Array Slot} {rest : List Value} {own : String} {idx : Nat} {D : va_G} {κ : ClassId × ClassId × ClassId} {a : Nat → Nat} {u : TS} {A : Nat → Prop} (hC : CallFix p m c cc nL s args WALL own) (hG : GW D κ a u A s H locs)  (q1 : OK u) (wl : Cond.methodLink own idx yX7_planDraft ∈ WALL) (hR : 2 + 1 ≤ R.frames ∧ 8 + (3 + 11) + 50 ≤ R.locals) (hls : ls.size = nL) (h8 : (rest.map fun v => v.category).sum ≤ 8) (hd : decode cc pc = .ok (.invokevirtual idx, 3)) (hcs : cs ≤ R.cells ∧ ss ≤ R.slots) (kk : ∀ (H1 : Heap) (locs1 : List Loc), GW D κ a (fPlanD u) A s H1 locs1 → W p l e R s m args below meth c H1 locs1 cs ss Q (F0 m (pc + 3) ls (rest))) : W p l e R s m args below meth c H locs cs ss Q (F0 m pc ls (.ref (a 0) :: rest)) :=
  tc_v hG (tr_V (n := 0) (k := 0) (ci := 7) (As := []) hC hG (c_T_planDraft l D κ a H.size u  q1) rfl rfl wl w2 w432 w430 w431 (by decide +kernel) hR rfl hls rfl h8 hd hcs) (fun u' H1 locs1 hq hG1 => by subst hq; exact kk H1 locs1 hG1)

theorem dX7_planKeepsFloors_0 : decode cX7_planKeepsFloors 0 = .ok (.iconst 0, 1) := by decide +kernel
theorem dX7_planKeepsFloors_1 : decode cX7_planKeepsFloors 1 = .ok (.istore_n 2, 1) := by decide +kernel
theorem dX7_planKeepsFloors_10 : decode cX7_planKeepsFloors 10 = .ok (.if_icmp .ge 97, 3) := by decide +kernel
theorem dX7_planKeepsFloors_101 : decode cX7_planKeepsFloors 101 = .ok (.iinc 2 1, 3) := by decide +kernel
theorem dX7_planKeepsFloors_104 : decode cX7_planKeepsFloors 104 = .ok (.goto (-102), 3) := by decide +kernel
theorem dX7_planKeepsFloors_107 : decode cX7_planKeepsFloors 107 = .ok (.iconst 1, 1) := by decide +kernel
theorem dX7_planKeepsFloors_108 : decode cX7_planKeepsFloors 108 = .ok (.ireturn, 1) := by decide +kernel
theorem dX7_planKeepsFloors_13 : decode cX7_planKeepsFloors 13 = .ok (.aload_n 0, 1) := by decide +kernel
theorem dX7_planKeepsFloors_14 : decode cX7_planKeepsFloors 14 = .ok (.getfield 59, 3) := by decide +kernel
theorem dX7_planKeepsFloors_17 : decode cX7_planKeepsFloors 17 = .ok (.getfield 439, 3) := by decide +kernel
theorem dX7_planKeepsFloors_2 : decode cX7_planKeepsFloors 2 = .ok (.iload_n 2, 1) := by decide +kernel
theorem dX7_planKeepsFloors_20 : decode cX7_planKeepsFloors 20 = .ok (.iload_n 2, 1) := by decide +kernel
theorem dX7_planKeepsFloors_21 : decode cX7_planKeepsFloors 21 = .ok (.iaload, 1) := by decide +kernel
theorem dX7_planKeepsFloors_22 : decode cX7_planKeepsFloors 22 = .ok (.istore_n 3, 1) := by decide +kernel
theorem dX7_planKeepsFloors_23 : decode cX7_planKeepsFloors 23 = .ok (.aload_n 0, 1) := by decide +kernel
theorem dX7_planKeepsFloors_24 : decode cX7_planKeepsFloors 24 = .ok (.getfield 12, 3) := by decide +kernel
theorem dX7_planKeepsFloors_27 : decode cX7_planKeepsFloors 27 = .ok (.getfield 122, 3) := by decide +kernel
theorem dX7_planKeepsFloors_3 : decode cX7_planKeepsFloors 3 = .ok (.aload_n 0, 1) := by decide +kernel
theorem dX7_planKeepsFloors_30 : decode cX7_planKeepsFloors 30 = .ok (.iload_n 3, 1) := by decide +kernel
theorem dX7_planKeepsFloors_31 : decode cX7_planKeepsFloors 31 = .ok (.baload, 1) := by decide +kernel
theorem dX7_planKeepsFloors_32 : decode cX7_planKeepsFloors 32 = .ok (.ifCond .eq 69, 3) := by decide +kernel
theorem dX7_planKeepsFloors_4 : decode cX7_planKeepsFloors 4 = .ok (.getfield 59, 3) := by decide +kernel
theorem dX7_planKeepsFloors_7 : decode cX7_planKeepsFloors 7 = .ok (.getfield 141, 3) := by decide +kernel
set_option maxHeartbeats 4000000 in
set_option maxRecDepth 100000 in
theorem c_T_planKeepsFloors (l : Launch) (D : va_G) (κ : ClassId × ClassId × ClassId) (a : Nat → Nat) (sz : Nat) (u : TS) (x : Option Nat) (q1 : OK u) : TM l yX7_planKeepsFloors cX7_planKeepsFloors 8 (some .boolean) 0 0 D κ a u sz [.ref (a 0), .int (oI x)] (QI D κ a sz (fun r u' => r = (bI true) ∧ u' = u)) := by
  refine TM.of (by decide +kernel) (Nat.le_of_ble_eq_true rfl) ?_
  intro p e s m below meth c ls hC hr hk hsz H locs hG hl
  have hx := hC.1
  have hb := hC.2.1
  have hl : lv_has ls 8 [(0, .ref (a 0)), (1, .int (oI x))] := hl
  have qok := q1
  have ⟨n1, n2, n3, n4, n5, n6, n7, n8, n9, n10⟩ := qok.n
  refine lv_iconst (v := nI 0) hx hb dX7_planKeepsFloors_0 (by decide) ?_
  refine lv_istore_n (lv' := [(2, .int (nI 0)), (0, .ref (a 0)), (1, .int (oI x))]) hx hb dX7_planKeepsFloors_1 rfl hl (by decide) rfl (fun ls hl => ?_)
  have lp2 : ∀ (n : Nat) (i : Nat), L1_count u - i < n → (i ≤ L1_count u) → ∀ (H : Heap) (locs : List Loc), GW D κ a u (AA a sz) s H locs → ∀ ls : Array Slot, lv_has ls 8 [(2, .int (nI i)), (0, .ref (a 0)), (1, .int (oI x))] → W p l e { frames := 0, cells := 0, slots := 0, locals := 0 } s m [.ref (a 0), .int (oI x)].toArray below meth c H locs 0 0 (MQ below (QI D κ a sz (fun r u' => r = (bI true) ∧ u' = u)) [.ref (a 0), .int (oI x)].toArray s 0 0 (AA a sz)) (F0 m 2 ls []) := by
    intro n
    induction n with
    | zero =>
      intro i hm
      exact absurd hm (Nat.not_lt_zero _)
    | succ n ih2 =>
      intro i hm2 c2_1 H locs hG ls hl
      refine lv_iload_n hx hb dX7_planKeepsFloors_2 rfl (lv_at hl 0 rfl) ?_
      refine lv_aload_n hx hb dX7_planKeepsFloors_3 rfl (lv_at hl 1 rfl) ?_
      refine gf_T_plan hC hG (hC.2.2.2.2 _ w41) dX7_planKeepsFloors_4 ?_
      refine gf_L1_count hC hG (hC.2.2.2.2 _ w194) dX7_planKeepsFloors_7 ?_
      refine bn_ge (tgt := 107) hx hb (by omega) (by omega) dX7_planKeepsFloors_10 (by decide) (fun h10 => ?_) (fun h10 => ?_)
      · refine lv_iconst (v := nI 1) hx hb dX7_planKeepsFloors_107 (by decide) ?_
        exact te_z (v := true) hC hG hr hk ⟨rfl, rfl⟩ dX7_planKeepsFloors_108
      · have k1 := q1.pl (i := i) (by omega)
        refine lv_aload_n hx hb dX7_planKeepsFloors_13 rfl (lv_at hl 1 rfl) ?_
        refine gf_T_plan hC hG (hC.2.2.2.2 _ w41) dX7_planKeepsFloors_14 ?_
        refine gf_L1_account hC hG (hC.2.2.2.2 _ w428) dX7_planKeepsFloors_17 ?_
        refine lv_iload_n hx hb dX7_planKeepsFloors_20 rfl (lv_at hl 0 rfl) ?_
        refine al_L1_account hC hG (by omega) dX7_planKeepsFloors_21 ?_
        refine lv_istore_n (lv' := [(3, .int (nI (L1_account u i))), (2, .int (nI i)), (0, .ref (a 0)), (1, .int (oI x))]) hx hb dX7_planKeepsFloors_22 rfl hl (by decide) rfl (fun ls hl => ?_)
        refine lv_aload_n hx hb dX7_planKeepsFloors_23 rfl (lv_at hl 2 rfl) ?_
        refine gf_T_accounts hC hG (hC.2.2.2.2 _ w16) dX7_planKeepsFloors_24 ?_
        refine gf_AC_hasFloor hC hG (hC.2.2.2.2 _ w439) dX7_planKeepsFloors_27 ?_
        refine lv_iload_n hx hb dX7_planKeepsFloors_30 rfl (lv_at hl 0 rfl) ?_
        refine al_AC_hasFloor hC hG (by omega) dX7_planKeepsFloors_31 ?_
        refine bb_eq (tgt := 101) hx hb dX7_planKeepsFloors_32 (by decide) (fun h32 => ?_) (fun h32 => (show False from (Bool.false_ne_true ((q1.nf _).symm.trans h32))).elim)
        refine lv_iinc (v := (nI (i + 1))) (lv' := [(2, .int (nI (i + 1))), (3, .int (nI (L1_account u i))), (0, .ref (a 0)), (1, .int (oI x))]) hx hb dX7_planKeepsFloors_101 hl (k := 1) rfl (nI_1 _) (by decide) rfl (fun ls hl => ?_)
        refine lv_goto (tgt := 2) hx hb dX7_planKeepsFloors_104 (by decide) ?_
        exact ih2  (i + 1) (by omega) (by omega) H locs hG ls (lv_sub hl [0, 2, 3] rfl)
  exact lp2 _ 0 (Nat.lt_succ_self _) (by omega) H locs hG ls (lv_sub hl [0, 1, 2] rfl)
theorem k_T_planKeepsFloors {p : Program} {l : Launch} {e : Env} {R : Room} {s : State} {m : MethodId} {args : Array Value} {below : List Frame} {meth : Method} {c : Code} {H : Heap} {locs : List Loc} {cs ss : Nat} {Q : State → Prop} {cc : ByteArray} {nL pc : Nat} {ls : Array Slot} {rest : List Value} {own : String} {idx : Nat} {D : va_G} {κ : ClassId × ClassId × ClassId} {a : Nat → Nat} {u : TS} {A : Nat → Prop} (hC : CallFix p m c cc nL s args WALL own) (hG : GW D κ a u A s H locs) (x : Option Nat) (q1 : OK u) (wl : Cond.methodLink own idx yX7_planKeepsFloors ∈ WALL) (hR : 0 + 1 ≤ R.frames ∧ 8 + (8 + 11) + 0 ≤ R.locals) (hls : ls.size = nL) (h8 : (rest.map fun v => v.category).sum ≤ 8) (hd : decode cc pc = .ok (.invokevirtual idx, 3)) (hcs : cs ≤ R.cells ∧ ss ≤ R.slots) (kk : ∀ (H1 : Heap) (locs1 : List Loc), GW D κ a u A s H1 locs1 → W p l e R s m args below meth c H1 locs1 cs ss Q (F0 m (pc + 3) ls (.int (bI true) :: rest))) : W p l e R s m args below meth c H locs cs ss Q (F0 m pc ls (.int (oI x) :: .ref (a 0) :: rest)) :=
  tc_i hG (tr_V (n := 1) (k := 0) (ci := 7) (As := [.int (oI x)]) hC hG (c_T_planKeepsFloors l D κ a H.size u x q1) rfl rfl wl w2 w438 w436 w437 (by decide +kernel) hR rfl hls rfl h8 hd hcs) (fun r u' H1 locs1 hq hG1 => by obtain ⟨rfl, rfl⟩ := hq; exact kk H1 locs1 hG1)

theorem dX7_draftHasTwoCurrencies_0 : decode cX7_draftHasTwoCurrencies 0 = .ok (.iconst 1, 1) := by decide +kernel
theorem dX7_draftHasTwoCurrencies_1 : decode cX7_draftHasTwoCurrencies 1 = .ok (.istore_n 1, 1) := by decide +kernel
theorem dX7_draftHasTwoCurrencies_10 : decode cX7_draftHasTwoCurrencies 10 = .ok (.getfield 141, 3) := by decide +kernel
theorem dX7_draftHasTwoCurrencies_13 : decode cX7_draftHasTwoCurrencies 13 = .ok (.if_icmp .ge 54, 3) := by decide +kernel
theorem dX7_draftHasTwoCurrencies_16 : decode cX7_draftHasTwoCurrencies 16 = .ok (.aload_n 0, 1) := by decide +kernel
theorem dX7_draftHasTwoCurrencies_17 : decode cX7_draftHasTwoCurrencies 17 = .ok (.getfield 12, 3) := by decide +kernel
theorem dX7_draftHasTwoCurrencies_2 : decode cX7_draftHasTwoCurrencies 2 = .ok (.iload_n 1, 1) := by decide +kernel
theorem dX7_draftHasTwoCurrencies_20 : decode cX7_draftHasTwoCurrencies 20 = .ok (.getfield 126, 3) := by decide +kernel
theorem dX7_draftHasTwoCurrencies_23 : decode cX7_draftHasTwoCurrencies 23 = .ok (.aload_n 0, 1) := by decide +kernel
theorem dX7_draftHasTwoCurrencies_24 : decode cX7_draftHasTwoCurrencies 24 = .ok (.getfield 19, 3) := by decide +kernel
theorem dX7_draftHasTwoCurrencies_27 : decode cX7_draftHasTwoCurrencies 27 = .ok (.getfield 138, 3) := by decide +kernel
theorem dX7_draftHasTwoCurrencies_3 : decode cX7_draftHasTwoCurrencies 3 = .ok (.aload_n 0, 1) := by decide +kernel
theorem dX7_draftHasTwoCurrencies_30 : decode cX7_draftHasTwoCurrencies 30 = .ok (.getfield 439, 3) := by decide +kernel
theorem dX7_draftHasTwoCurrencies_33 : decode cX7_draftHasTwoCurrencies 33 = .ok (.iload_n 1, 1) := by decide +kernel
theorem dX7_draftHasTwoCurrencies_34 : decode cX7_draftHasTwoCurrencies 34 = .ok (.iaload, 1) := by decide +kernel
theorem dX7_draftHasTwoCurrencies_35 : decode cX7_draftHasTwoCurrencies 35 = .ok (.iaload, 1) := by decide +kernel
theorem dX7_draftHasTwoCurrencies_36 : decode cX7_draftHasTwoCurrencies 36 = .ok (.aload_n 0, 1) := by decide +kernel
theorem dX7_draftHasTwoCurrencies_37 : decode cX7_draftHasTwoCurrencies 37 = .ok (.getfield 12, 3) := by decide +kernel
theorem dX7_draftHasTwoCurrencies_4 : decode cX7_draftHasTwoCurrencies 4 = .ok (.getfield 19, 3) := by decide +kernel
theorem dX7_draftHasTwoCurrencies_40 : decode cX7_draftHasTwoCurrencies 40 = .ok (.getfield 126, 3) := by decide +kernel
theorem dX7_draftHasTwoCurrencies_43 : decode cX7_draftHasTwoCurrencies 43 = .ok (.aload_n 0, 1) := by decide +kernel
theorem dX7_draftHasTwoCurrencies_44 : decode cX7_draftHasTwoCurrencies 44 = .ok (.getfield 19, 3) := by decide +kernel
theorem dX7_draftHasTwoCurrencies_47 : decode cX7_draftHasTwoCurrencies 47 = .ok (.getfield 138, 3) := by decide +kernel
theorem dX7_draftHasTwoCurrencies_50 : decode cX7_draftHasTwoCurrencies 50 = .ok (.getfield 439, 3) := by decide +kernel
theorem dX7_draftHasTwoCurrencies_53 : decode cX7_draftHasTwoCurrencies 53 = .ok (.iconst 0, 1) := by decide +kernel
theorem dX7_draftHasTwoCurrencies_54 : decode cX7_draftHasTwoCurrencies 54 = .ok (.iaload, 1) := by decide +kernel
theorem dX7_draftHasTwoCurrencies_55 : decode cX7_draftHasTwoCurrencies 55 = .ok (.iaload, 1) := by decide +kernel
theorem dX7_draftHasTwoCurrencies_56 : decode cX7_draftHasTwoCurrencies 56 = .ok (.if_icmp .eq 5, 3) := by decide +kernel
theorem dX7_draftHasTwoCurrencies_59 : decode cX7_draftHasTwoCurrencies 59 = .ok (.iconst 1, 1) := by decide +kernel
theorem dX7_draftHasTwoCurrencies_60 : decode cX7_draftHasTwoCurrencies 60 = .ok (.ireturn, 1) := by decide +kernel
theorem dX7_draftHasTwoCurrencies_61 : decode cX7_draftHasTwoCurrencies 61 = .ok (.iinc 1 1, 3) := by decide +kernel
theorem dX7_draftHasTwoCurrencies_64 : decode cX7_draftHasTwoCurrencies 64 = .ok (.goto (-62), 3) := by decide +kernel
theorem dX7_draftHasTwoCurrencies_67 : decode cX7_draftHasTwoCurrencies 67 = .ok (.iconst 0, 1) := by decide +kernel
theorem dX7_draftHasTwoCurrencies_68 : decode cX7_draftHasTwoCurrencies 68 = .ok (.ireturn, 1) := by decide +kernel
theorem dX7_draftHasTwoCurrencies_7 : decode cX7_draftHasTwoCurrencies 7 = .ok (.getfield 138, 3) := by decide +kernel
set_option maxHeartbeats 4000000 in
set_option maxRecDepth 100000 in
theorem c_T_draftHasTwoCurrencies (l : Launch) (D : va_G) (κ : ClassId × ClassId × ClassId) (a : Nat → Nat) (sz : Nat) (u : TS)  (q1 : OK u) (q2 : 2 ≤ L0_count u) : TM l yX7_draftHasTwoCurrencies cX7_draftHasTwoCurrencies 2 (some .boolean) 0 0 D κ a u sz [.ref (a 0)] (QI D κ a sz (fun r u' => r = (bI (fTC u (L0_count u - 1))) ∧ u' = u)) := by
  refine TM.of (by decide +kernel) (Nat.le_of_ble_eq_true rfl) ?_
  intro p e s m below meth c ls hC hr hk hsz H locs hG hl
  have hx := hC.1
  have hb := hC.2.1
  have hl : lv_has ls 2 [(0, .ref (a 0))] := hl
  have qok := q1
  have ⟨n1, n2, n3, n4, n5, n6, n7, n8, n9, n10⟩ := qok.n
  refine lv_iconst (v := nI 1) hx hb dX7_draftHasTwoCurrencies_0 (by decide) ?_
  refine lv_istore_n (lv' := [(1, .int (nI 1)), (0, .ref (a 0))]) hx hb dX7_draftHasTwoCurrencies_1 rfl hl (by decide) rfl (fun ls hl => ?_)
  have lp2 : ∀ (n : Nat) (i : Nat), L0_count u - i < n → (1 ≤ i ∧ i ≤ L0_count u) → (fTC u (L0_count u - i) = fTC u (L0_count u - 1)) → ∀ (H : Heap) (locs : List Loc), GW D κ a u (AA a sz) s H locs → ∀ ls : Array Slot, lv_has ls 2 [(1, .int (nI i)), (0, .ref (a 0))] → W p l e { frames := 0, cells := 0, slots := 0, locals := 0 } s m [.ref (a 0)].toArray below meth c H locs 0 0 (MQ below (QI D κ a sz (fun r u' => r = (bI (fTC u (L0_count u - 1))) ∧ u' = u)) [.ref (a 0)].toArray s 0 0 (AA a sz)) (F0 m 2 ls []) := by
    intro n
    induction n with
    | zero =>
      intro i hm
      exact absurd hm (Nat.not_lt_zero _)
    | succ n ih2 =>
      intro i hm2 c2_1 c2_2 H locs hG ls hl
      refine lv_iload_n hx hb dX7_draftHasTwoCurrencies_2 rfl (lv_at hl 0 rfl) ?_
      refine lv_aload_n hx hb dX7_draftHasTwoCurrencies_3 rfl (lv_at hl 1 rfl) ?_
      refine gf_T_draft hC hG (hC.2.2.2.2 _ w20) dX7_draftHasTwoCurrencies_4 ?_
      refine gf_DR_legs hC hG (hC.2.2.2.2 _ w399) dX7_draftHasTwoCurrencies_7 ?_
      refine gf_L0_count hC hG (hC.2.2.2.2 _ w194) dX7_draftHasTwoCurrencies_10 ?_
      refine bn_ge (tgt := 67) hx hb (by omega) (by omega) dX7_draftHasTwoCurrencies_13 (by decide) (fun h13 => ?_) (fun h13 => ?_)
      · refine lv_iconst (v := nI 0) hx hb dX7_draftHasTwoCurrencies_67 (by decide) ?_
        exact te_z (v := false) hC hG hr hk ⟨(congrArg bI (show false = fTC u (L0_count u - 1) from by rw [← c2_2, show L0_count u - i = 0 by omega]; rfl)), rfl⟩ dX7_draftHasTwoCurrencies_68
      · have k1 := q1.dr (i := i) (by omega)
        have k2 := q1.dr (i := 0) (by omega)
        have k3 := q1.acc k1
        have k4 := q1.acc k2
        refine lv_aload_n hx hb dX7_draftHasTwoCurrencies_16 rfl (lv_at hl 1 rfl) ?_
        refine gf_T_accounts hC hG (hC.2.2.2.2 _ w16) dX7_draftHasTwoCurrencies_17 ?_
        refine gf_AC_currency hC hG (hC.2.2.2.2 _ w147) dX7_draftHasTwoCurrencies_20 ?_
        refine lv_aload_n hx hb dX7_draftHasTwoCurrencies_23 rfl (lv_at hl 1 rfl) ?_
        refine gf_T_draft hC hG (hC.2.2.2.2 _ w20) dX7_draftHasTwoCurrencies_24 ?_
        refine gf_DR_legs hC hG (hC.2.2.2.2 _ w399) dX7_draftHasTwoCurrencies_27 ?_
        refine gf_L0_account hC hG (hC.2.2.2.2 _ w428) dX7_draftHasTwoCurrencies_30 ?_
        refine lv_iload_n hx hb dX7_draftHasTwoCurrencies_33 rfl (lv_at hl 0 rfl) ?_
        refine al_L0_account hC hG (by omega) dX7_draftHasTwoCurrencies_34 ?_
        refine al_AC_currency hC hG (by omega) dX7_draftHasTwoCurrencies_35 ?_
        refine lv_aload_n hx hb dX7_draftHasTwoCurrencies_36 rfl (lv_at hl 1 rfl) ?_
        refine gf_T_accounts hC hG (hC.2.2.2.2 _ w16) dX7_draftHasTwoCurrencies_37 ?_
        refine gf_AC_currency hC hG (hC.2.2.2.2 _ w147) dX7_draftHasTwoCurrencies_40 ?_
        refine lv_aload_n hx hb dX7_draftHasTwoCurrencies_43 rfl (lv_at hl 1 rfl) ?_
        refine gf_T_draft hC hG (hC.2.2.2.2 _ w20) dX7_draftHasTwoCurrencies_44 ?_
        refine gf_DR_legs hC hG (hC.2.2.2.2 _ w399) dX7_draftHasTwoCurrencies_47 ?_
        refine gf_L0_account hC hG (hC.2.2.2.2 _ w428) dX7_draftHasTwoCurrencies_50 ?_
        refine lv_iconst (v := nI 0) hx hb dX7_draftHasTwoCurrencies_53 (by decide) ?_
        refine al_L0_account hC hG (by omega) dX7_draftHasTwoCurrencies_54 ?_
        refine al_AC_currency hC hG (by omega) dX7_draftHasTwoCurrencies_55 ?_
        refine bn_eq (tgt := 61) hx hb (by omega) (by omega) dX7_draftHasTwoCurrencies_56 (by decide) (fun h56 => ?_) (fun h56 => ?_)
        · refine lv_iinc (v := (nI (i + 1))) (lv' := [(1, .int (nI (i + 1))), (0, .ref (a 0))]) hx hb dX7_draftHasTwoCurrencies_61 hl (k := 0) rfl (nI_1 _) (by decide) rfl (fun ls hl => ?_)
          refine lv_goto (tgt := 2) hx hb dX7_draftHasTwoCurrencies_64 (by decide) ?_
          exact ih2  (i + 1) (by omega) (by omega) (by rw [← c2_2]; obtain ⟨r, er⟩ : ∃ r, L0_count u - i = r + 1 := ⟨L0_count u - i - 1, by omega⟩; rw [er, fTC, show L0_count u - (r + 1) = i by omega, if_pos (by assumption), show L0_count u - (i + 1) = r by omega]) H locs hG ls (lv_sub hl [0, 1] rfl)
        · refine lv_iconst (v := nI 1) hx hb dX7_draftHasTwoCurrencies_59 (by decide) ?_
          exact te_z (v := true) hC hG hr hk ⟨(congrArg bI (show true = fTC u (L0_count u - 1) from by rw [← c2_2]; obtain ⟨r, er⟩ : ∃ r, L0_count u - i = r + 1 := ⟨L0_count u - i - 1, by omega⟩; rw [er, fTC, show L0_count u - (r + 1) = i by omega, if_neg (by assumption)])), rfl⟩ dX7_draftHasTwoCurrencies_60
  exact lp2 _ 1 (Nat.lt_succ_self _) (by omega) (rfl) H locs hG ls (lv_sub hl [0, 1] rfl)
theorem k_T_draftHasTwoCurrencies {p : Program} {l : Launch} {e : Env} {R : Room} {s : State} {m : MethodId} {args : Array Value} {below : List Frame} {meth : Method} {c : Code} {H : Heap} {locs : List Loc} {cs ss : Nat} {Q : State → Prop} {cc : ByteArray} {nL pc : Nat} {ls : Array Slot} {rest : List Value} {own : String} {idx : Nat} {D : va_G} {κ : ClassId × ClassId × ClassId} {a : Nat → Nat} {u : TS} {A : Nat → Prop} (hC : CallFix p m c cc nL s args WALL own) (hG : GW D κ a u A s H locs)  (q1 : OK u) (q2 : 2 ≤ L0_count u) (wl : Cond.methodLink own idx yX7_draftHasTwoCurrencies ∈ WALL) (hR : 0 + 1 ≤ R.frames ∧ 8 + (2 + 11) + 0 ≤ R.locals) (hls : ls.size = nL) (h8 : (rest.map fun v => v.category).sum ≤ 8) (hd : decode cc pc = .ok (.invokevirtual idx, 3)) (hcs : cs ≤ R.cells ∧ ss ≤ R.slots) (kk : ∀ (H1 : Heap) (locs1 : List Loc), GW D κ a u A s H1 locs1 → W p l e R s m args below meth c H1 locs1 cs ss Q (F0 m (pc + 3) ls (.int (bI (fTC u (L0_count u - 1))) :: rest))) : W p l e R s m args below meth c H locs cs ss Q (F0 m pc ls (.ref (a 0) :: rest)) :=
  tc_i hG (tr_V (n := 0) (k := 0) (ci := 7) (As := []) hC hG (c_T_draftHasTwoCurrencies l D κ a H.size u  q1 q2) rfl rfl wl w2 w427 w425 w426 (by decide +kernel) hR rfl hls rfl h8 hd hcs) (fun r u' H1 locs1 hq hG1 => by obtain ⟨rfl, rfl⟩ := hq; exact kk H1 locs1 hG1)

theorem dX7_canBeExchanged_0 : decode cX7_canBeExchanged 0 = .ok (.aload_n 0, 1) := by decide +kernel
theorem dX7_canBeExchanged_1 : decode cX7_canBeExchanged 1 = .ok (.getfield 63, 3) := by decide +kernel
theorem dX7_canBeExchanged_12 : decode cX7_canBeExchanged 12 = .ok (.ifCond .eq 35, 3) := by decide +kernel
theorem dX7_canBeExchanged_15 : decode cX7_canBeExchanged 15 = .ok (.aload_n 0, 1) := by decide +kernel
theorem dX7_canBeExchanged_16 : decode cX7_canBeExchanged 16 = .ok (.getfield 19, 3) := by decide +kernel
theorem dX7_canBeExchanged_19 : decode cX7_canBeExchanged 19 = .ok (.getfield 138, 3) := by decide +kernel
theorem dX7_canBeExchanged_22 : decode cX7_canBeExchanged 22 = .ok (.invokevirtual 162, 3) := by decide +kernel
theorem dX7_canBeExchanged_25 : decode cX7_canBeExchanged 25 = .ok (.invokestatic 433, 3) := by decide +kernel
theorem dX7_canBeExchanged_28 : decode cX7_canBeExchanged 28 = .ok (.aload_n 0, 1) := by decide +kernel
theorem dX7_canBeExchanged_29 : decode cX7_canBeExchanged 29 = .ok (.getfield 19, 3) := by decide +kernel
theorem dX7_canBeExchanged_32 : decode cX7_canBeExchanged 32 = .ok (.getfield 138, 3) := by decide +kernel
theorem dX7_canBeExchanged_35 : decode cX7_canBeExchanged 35 = .ok (.getfield 141, 3) := by decide +kernel
theorem dX7_canBeExchanged_38 : decode cX7_canBeExchanged 38 = .ok (.i2l, 1) := by decide +kernel
theorem dX7_canBeExchanged_39 : decode cX7_canBeExchanged 39 = .ok (.lcmp, 1) := by decide +kernel
theorem dX7_canBeExchanged_4 : decode cX7_canBeExchanged 4 = .ok (.iconst (-1), 1) := by decide +kernel
theorem dX7_canBeExchanged_40 : decode cX7_canBeExchanged 40 = .ok (.ifCond .gt 7, 3) := by decide +kernel
theorem dX7_canBeExchanged_43 : decode cX7_canBeExchanged 43 = .ok (.iconst 1, 1) := by decide +kernel
theorem dX7_canBeExchanged_44 : decode cX7_canBeExchanged 44 = .ok (.goto 4, 3) := by decide +kernel
theorem dX7_canBeExchanged_47 : decode cX7_canBeExchanged 47 = .ok (.iconst 0, 1) := by decide +kernel
theorem dX7_canBeExchanged_48 : decode cX7_canBeExchanged 48 = .ok (.ireturn, 1) := by decide +kernel
theorem dX7_canBeExchanged_5 : decode cX7_canBeExchanged 5 = .ok (.if_icmp .eq 42, 3) := by decide +kernel
theorem dX7_canBeExchanged_8 : decode cX7_canBeExchanged 8 = .ok (.aload_n 0, 1) := by decide +kernel
theorem dX7_canBeExchanged_9 : decode cX7_canBeExchanged 9 = .ok (.invokevirtual 430, 3) := by decide +kernel
set_option maxHeartbeats 4000000 in
set_option maxRecDepth 100000 in
theorem c_T_canBeExchanged (l : Launch) (D : va_G) (κ : ClassId × ClassId × ClassId) (a : Nat → Nat) (sz : Nat) (u : TS)  (q1 : OK u) (q2 : 2 ≤ L0_count u) : TM l yX7_canBeExchanged cX7_canBeExchanged 1 (some .boolean) 1 23 D κ a u sz [.ref (a 0)] (QI D κ a sz (fun r u' => r = (bI (fCanEx u)) ∧ u' = u)) := by
  refine TM.of (by decide +kernel) (Nat.le_of_ble_eq_true rfl) ?_
  intro p e s m below meth c ls hC hr hk hsz H locs hG hl
  have hx := hC.1
  have hb := hC.2.1
  have hl : lv_has ls 1 [(0, .ref (a 0))] := hl
  have qok := q1
  have ⟨n1, n2, n3, n4, n5, n6, n7, n8, n9, n10⟩ := qok.n
  have k1 := fun k hk => q1.ex (k := k) hk
  refine lv_aload_n hx hb dX7_canBeExchanged_0 rfl (lv_at hl 0 rfl) ?_
  refine gf_T_exchangeAccount hC hG (hC.2.2.2.2 _ w42) dX7_canBeExchanged_1 ?_
  refine lv_iconst (v := -1) hx hb dX7_canBeExchanged_4 (by decide) ?_
  refine bo_eq (tgt := 47) hx hb (by intro j9 e9; have := k1 j9 e9; omega) dX7_canBeExchanged_5 (by decide) (fun h5 => ?_) (fun h5 => ?_)
  · refine lv_iconst (v := nI 0) hx hb dX7_canBeExchanged_47 (by decide) ?_
    exact te_z (v := false) hC hG hr hk ⟨(congrArg bI (show false = fCanEx u from by simp [fCanEx, h5])), rfl⟩ dX7_canBeExchanged_48
  · refine lv_aload_n hx hb dX7_canBeExchanged_8 rfl (lv_at hl 0 rfl) ?_
    refine k_T_draftHasTwoCurrencies hC hG  (q1) (q2) w424 ⟨by decide, by decide⟩ hl.1 (Nat.le_of_ble_eq_true rfl) dX7_canBeExchanged_9 ⟨Nat.zero_le _, Nat.zero_le _⟩ (fun H locs hG => ?_)
    refine bb_eq (tgt := 47) hx hb dX7_canBeExchanged_12 (by decide) (fun h12 => ?_) (fun h12 => ?_)
    · refine lv_iconst (v := nI 0) hx hb dX7_canBeExchanged_47 (by decide) ?_
      exact te_z (v := false) hC hG hr hk ⟨(congrArg bI (show false = fCanEx u from by simp [fCanEx, h5, h12])), rfl⟩ dX7_canBeExchanged_48
    · refine lv_aload_n hx hb dX7_canBeExchanged_15 rfl (lv_at hl 0 rfl) ?_
      refine gf_T_draft hC hG (hC.2.2.2.2 _ w20) dX7_canBeExchanged_16 ?_
      refine gf_DR_legs hC hG (hC.2.2.2.2 _ w399) dX7_canBeExchanged_19 ?_
      refine k_L0_worthSum hC hG  (by omega) w226 ⟨by decide, by decide⟩ hl.1 (Nat.le_of_ble_eq_true rfl) dX7_canBeExchanged_22 ⟨Nat.zero_le _, Nat.zero_le _⟩ (fun H locs hG => ?_)
      refine va_mabs_long hx hb (hC.2.2.1.trans hl.1.symm) hC.2.2.2.1 (hC.2.2.2.2 _ w423) (hC.2.2.2.2 _ w4) (hC.2.2.2.2 _ w5) (hC.2.2.2.2 _ w6) (by decide) (by decide) (Nat.zero_le _) (Nat.zero_le _) dX7_canBeExchanged_25 ?_
      refine W.eq (g2 := F0 m 28 ls [.long (absL (fSum (L0_worth u) (L0_count u)))]) rfl ?_
      refine lv_aload_n hx hb dX7_canBeExchanged_28 rfl (lv_at hl 0 rfl) ?_
      refine gf_T_draft hC hG (hC.2.2.2.2 _ w20) dX7_canBeExchanged_29 ?_
      refine gf_DR_legs hC hG (hC.2.2.2.2 _ w399) dX7_canBeExchanged_32 ?_
      refine gf_L0_count hC hG (hC.2.2.2.2 _ w194) dX7_canBeExchanged_35 ?_
      refine lv_i2l hx hb dX7_canBeExchanged_38 rfl ?_
      refine bl_gt (tgt := 47) hx hb dX7_canBeExchanged_39 dX7_canBeExchanged_40 (by decide) (fun h39 => ?_) (fun h39 => ?_)
      · refine lv_iconst (v := nI 0) hx hb dX7_canBeExchanged_47 (by decide) ?_
        exact te_z (v := false) hC hG hr hk ⟨(congrArg bI (show false = fCanEx u from by unfold fCanEx; rw [decide_eq_false (Int64.not_le.mpr h39), Bool.and_false, Bool.and_false])), rfl⟩ dX7_canBeExchanged_48
      · refine lv_iconst (v := nI 1) hx hb dX7_canBeExchanged_43 (by decide) ?_
        refine lv_goto (tgt := 48) hx hb dX7_canBeExchanged_44 (by decide) ?_
        exact te_z (v := true) hC hG hr hk ⟨(congrArg bI (show true = fCanEx u from by unfold fCanEx; rw [decide_eq_true h5, h12, decide_eq_true (Int64.not_lt.mp h39)]; rfl)), rfl⟩ dX7_canBeExchanged_48
theorem k_T_canBeExchanged {p : Program} {l : Launch} {e : Env} {R : Room} {s : State} {m : MethodId} {args : Array Value} {below : List Frame} {meth : Method} {c : Code} {H : Heap} {locs : List Loc} {cs ss : Nat} {Q : State → Prop} {cc : ByteArray} {nL pc : Nat} {ls : Array Slot} {rest : List Value} {own : String} {idx : Nat} {D : va_G} {κ : ClassId × ClassId × ClassId} {a : Nat → Nat} {u : TS} {A : Nat → Prop} (hC : CallFix p m c cc nL s args WALL own) (hG : GW D κ a u A s H locs)  (q1 : OK u) (q2 : 2 ≤ L0_count u) (wl : Cond.methodLink own idx yX7_canBeExchanged ∈ WALL) (hR : 1 + 1 ≤ R.frames ∧ 8 + (1 + 11) + 23 ≤ R.locals) (hls : ls.size = nL) (h8 : (rest.map fun v => v.category).sum ≤ 8) (hd : decode cc pc = .ok (.invokevirtual idx, 3)) (hcs : cs ≤ R.cells ∧ ss ≤ R.slots) (kk : ∀ (H1 : Heap) (locs1 : List Loc), GW D κ a u A s H1 locs1 → W p l e R s m args below meth c H1 locs1 cs ss Q (F0 m (pc + 3) ls (.int (bI (fCanEx u)) :: rest))) : W p l e R s m args below meth c H locs cs ss Q (F0 m pc ls (.ref (a 0) :: rest)) :=
  tc_i hG (tr_V (n := 0) (k := 0) (ci := 7) (As := []) hC hG (c_T_canBeExchanged l D κ a H.size u  q1 q2) rfl rfl wl w2 w422 w420 w421 (by decide +kernel) hR rfl hls rfl h8 hd hcs) (fun r u' H1 locs1 hq hG1 => by obtain ⟨rfl, rfl⟩ := hq; exact kk H1 locs1 hG1)

theorem dX7_whyNotPosted_0 : decode cX7_whyNotPosted 0 = .ok (.aload_n 0, 1) := by decide +kernel
theorem dX7_whyNotPosted_1 : decode cX7_whyNotPosted 1 = .ok (.getfield 19, 3) := by decide +kernel
theorem dX7_whyNotPosted_10 : decode cX7_whyNotPosted 10 = .ok (.iconst 1, 1) := by decide +kernel
theorem dX7_whyNotPosted_100 : decode cX7_whyNotPosted 100 = .ok (.iconst 0, 1) := by decide +kernel
theorem dX7_whyNotPosted_101 : decode cX7_whyNotPosted 101 = .ok (.ireturn, 1) := by decide +kernel
theorem dX7_whyNotPosted_11 : decode cX7_whyNotPosted 11 = .ok (.ireturn, 1) := by decide +kernel
theorem dX7_whyNotPosted_12 : decode cX7_whyNotPosted 12 = .ok (.aload_n 0, 1) := by decide +kernel
theorem dX7_whyNotPosted_13 : decode cX7_whyNotPosted 13 = .ok (.getfield 19, 3) := by decide +kernel
theorem dX7_whyNotPosted_16 : decode cX7_whyNotPosted 16 = .ok (.getfield 138, 3) := by decide +kernel
theorem dX7_whyNotPosted_19 : decode cX7_whyNotPosted 19 = .ok (.getfield 141, 3) := by decide +kernel
theorem dX7_whyNotPosted_22 : decode cX7_whyNotPosted 22 = .ok (.iconst 2, 1) := by decide +kernel
theorem dX7_whyNotPosted_23 : decode cX7_whyNotPosted 23 = .ok (.if_icmp .ge 5, 3) := by decide +kernel
theorem dX7_whyNotPosted_26 : decode cX7_whyNotPosted 26 = .ok (.iconst 2, 1) := by decide +kernel
theorem dX7_whyNotPosted_27 : decode cX7_whyNotPosted 27 = .ok (.ireturn, 1) := by decide +kernel
theorem dX7_whyNotPosted_28 : decode cX7_whyNotPosted 28 = .ok (.aload_n 0, 1) := by decide +kernel
theorem dX7_whyNotPosted_29 : decode cX7_whyNotPosted 29 = .ok (.getfield 19, 3) := by decide +kernel
theorem dX7_whyNotPosted_32 : decode cX7_whyNotPosted 32 = .ok (.getfield 175, 3) := by decide +kernel
theorem dX7_whyNotPosted_35 : decode cX7_whyNotPosted 35 = .ok (.aload_n 0, 1) := by decide +kernel
theorem dX7_whyNotPosted_36 : decode cX7_whyNotPosted 36 = .ok (.getfield 26, 3) := by decide +kernel
theorem dX7_whyNotPosted_39 : decode cX7_whyNotPosted 39 = .ok (.invokevirtual 277, 3) := by decide +kernel
theorem dX7_whyNotPosted_4 : decode cX7_whyNotPosted 4 = .ok (.getfield 149, 3) := by decide +kernel
theorem dX7_whyNotPosted_42 : decode cX7_whyNotPosted 42 = .ok (.if_icmp .gt 5, 3) := by decide +kernel
theorem dX7_whyNotPosted_45 : decode cX7_whyNotPosted 45 = .ok (.iconst 3, 1) := by decide +kernel
theorem dX7_whyNotPosted_46 : decode cX7_whyNotPosted 46 = .ok (.ireturn, 1) := by decide +kernel
theorem dX7_whyNotPosted_47 : decode cX7_whyNotPosted 47 = .ok (.aload_n 0, 1) := by decide +kernel
theorem dX7_whyNotPosted_48 : decode cX7_whyNotPosted 48 = .ok (.getfield 19, 3) := by decide +kernel
theorem dX7_whyNotPosted_51 : decode cX7_whyNotPosted 51 = .ok (.getfield 138, 3) := by decide +kernel
theorem dX7_whyNotPosted_54 : decode cX7_whyNotPosted 54 = .ok (.invokevirtual 162, 3) := by decide +kernel
theorem dX7_whyNotPosted_57 : decode cX7_whyNotPosted 57 = .ok (.lconst 0, 1) := by decide +kernel
theorem dX7_whyNotPosted_58 : decode cX7_whyNotPosted 58 = .ok (.lcmp, 1) := by decide +kernel
theorem dX7_whyNotPosted_59 : decode cX7_whyNotPosted 59 = .ok (.ifCond .eq 12, 3) := by decide +kernel
theorem dX7_whyNotPosted_62 : decode cX7_whyNotPosted 62 = .ok (.aload_n 0, 1) := by decide +kernel
theorem dX7_whyNotPosted_63 : decode cX7_whyNotPosted 63 = .ok (.invokevirtual 427, 3) := by decide +kernel
theorem dX7_whyNotPosted_66 : decode cX7_whyNotPosted 66 = .ok (.ifCond .ne 5, 3) := by decide +kernel
theorem dX7_whyNotPosted_69 : decode cX7_whyNotPosted 69 = .ok (.iconst 4, 1) := by decide +kernel
theorem dX7_whyNotPosted_7 : decode cX7_whyNotPosted 7 = .ok (.ifCond .ne 5, 3) := by decide +kernel
theorem dX7_whyNotPosted_70 : decode cX7_whyNotPosted 70 = .ok (.ireturn, 1) := by decide +kernel
theorem dX7_whyNotPosted_71 : decode cX7_whyNotPosted 71 = .ok (.aload_n 0, 1) := by decide +kernel
theorem dX7_whyNotPosted_72 : decode cX7_whyNotPosted 72 = .ok (.invokevirtual 172, 3) := by decide +kernel
theorem dX7_whyNotPosted_75 : decode cX7_whyNotPosted 75 = .ok (.aload_n 0, 1) := by decide +kernel
theorem dX7_whyNotPosted_76 : decode cX7_whyNotPosted 76 = .ok (.iconst (-1), 1) := by decide +kernel
theorem dX7_whyNotPosted_77 : decode cX7_whyNotPosted 77 = .ok (.invokevirtual 419, 3) := by decide +kernel
theorem dX7_whyNotPosted_80 : decode cX7_whyNotPosted 80 = .ok (.ifCond .ne 5, 3) := by decide +kernel
theorem dX7_whyNotPosted_85 : decode cX7_whyNotPosted 85 = .ok (.aload_n 0, 1) := by decide +kernel
theorem dX7_whyNotPosted_86 : decode cX7_whyNotPosted 86 = .ok (.getfield 26, 3) := by decide +kernel
theorem dX7_whyNotPosted_89 : decode cX7_whyNotPosted 89 = .ok (.invokevirtual 280, 3) := by decide +kernel
theorem dX7_whyNotPosted_92 : decode cX7_whyNotPosted 92 = .ok (.ifCond .eq 8, 3) := by decide +kernel
theorem dX7_whyNotPosted_95 : decode cX7_whyNotPosted 95 = .ok (.bipush 6, 2) := by decide +kernel
theorem dX7_whyNotPosted_97 : decode cX7_whyNotPosted 97 = .ok (.goto 4, 3) := by decide +kernel
set_option maxHeartbeats 4000000 in
set_option maxRecDepth 100000 in
theorem c_T_whyNotPosted (l : Launch) (D : va_G) (κ : ClassId × ClassId × ClassId) (a : Nat → Nat) (sz : Nat) (u : TS)  (q1 : OK u) : TM l yX7_whyNotPosted cX7_whyNotPosted 1 (some .int) 3 72 D κ a u sz [.ref (a 0)] (QI D κ a sz (fun r u' => r = (nI (fWhy u)) ∧ u' = fWhyU u)) := by
  refine TM.of (by decide +kernel) (Nat.le_of_ble_eq_true rfl) ?_
  intro p e s m below meth c ls hC hr hk hsz H locs hG hl
  have hx := hC.1
  have hb := hC.2.1
  have hl : lv_has ls 1 [(0, .ref (a 0))] := hl
  have qok := q1
  have ⟨n1, n2, n3, n4, n5, n6, n7, n8, n9, n10⟩ := qok.n
  have k1 : ∀ j, fLock u = some j → j < 2 ^ 31 := by intro j hj; unfold fLock at hj; cases hq : fLastC u (J_count u) with | none => rw [hq] at hj; cases hj | some en => rw [hq] at hj; have h1 := fLastC_lt u _ _ hq; have h2 := q1.ent h1; cases hj; omega
  have ⟨p1, p2, p3, p4⟩ := fPlanD_c q1
  have p5 := p1.n
  refine lv_aload_n hx hb dX7_whyNotPosted_0 rfl (lv_at hl 0 rfl) ?_
  refine gf_T_draft hC hG (hC.2.2.2.2 _ w20) dX7_whyNotPosted_1 ?_
  refine gf_DR_isThere hC hG (hC.2.2.2.2 _ w409) dX7_whyNotPosted_4 ?_
  refine bb_ne (tgt := 12) hx hb dX7_whyNotPosted_7 (by decide) (fun h7 => ?_) (fun h7 => ?_)
  · refine lv_aload_n hx hb dX7_whyNotPosted_12 rfl (lv_at hl 0 rfl) ?_
    refine gf_T_draft hC hG (hC.2.2.2.2 _ w20) dX7_whyNotPosted_13 ?_
    refine gf_DR_legs hC hG (hC.2.2.2.2 _ w399) dX7_whyNotPosted_16 ?_
    refine gf_L0_count hC hG (hC.2.2.2.2 _ w194) dX7_whyNotPosted_19 ?_
    refine lv_iconst (v := nI 2) hx hb dX7_whyNotPosted_22 (by decide) ?_
    refine bn_ge (tgt := 28) hx hb (by omega) (by omega) dX7_whyNotPosted_23 (by decide) (fun h23 => ?_) (fun h23 => ?_)
    · refine lv_aload_n hx hb dX7_whyNotPosted_28 rfl (lv_at hl 0 rfl) ?_
      refine gf_T_draft hC hG (hC.2.2.2.2 _ w20) dX7_whyNotPosted_29 ?_
      refine gf_DR_day hC hG (hC.2.2.2.2 _ w418) dX7_whyNotPosted_32 ?_
      refine lv_aload_n hx hb dX7_whyNotPosted_35 rfl (lv_at hl 0 rfl) ?_
      refine gf_T_journal hC hG (hC.2.2.2.2 _ w24) dX7_whyNotPosted_36 ?_
      refine k_J_lastLocked hC hG  (q1) w175 ⟨by decide, by decide⟩ hl.1 (Nat.le_of_ble_eq_true rfl) dX7_whyNotPosted_39 ⟨Nat.zero_le _, Nat.zero_le _⟩ (fun H locs hG => ?_)
      refine bno_gt (tgt := 47) hx hb (by omega) (k1) dX7_whyNotPosted_42 (by decide) (fun h42 => ?_) (fun h42 => ?_)
      · refine lv_aload_n hx hb dX7_whyNotPosted_47 rfl (lv_at hl 0 rfl) ?_
        refine gf_T_draft hC hG (hC.2.2.2.2 _ w20) dX7_whyNotPosted_48 ?_
        refine gf_DR_legs hC hG (hC.2.2.2.2 _ w399) dX7_whyNotPosted_51 ?_
        refine k_L0_worthSum hC hG  (by omega) w226 ⟨by decide, by decide⟩ hl.1 (Nat.le_of_ble_eq_true rfl) dX7_whyNotPosted_54 ⟨Nat.zero_le _, Nat.zero_le _⟩ (fun H locs hG => ?_)
        refine lv_lconst (v := 0) hx hb dX7_whyNotPosted_57 (by decide) ?_
        refine bl_eq (tgt := 71) hx hb dX7_whyNotPosted_58 dX7_whyNotPosted_59 (by decide) (fun h58 => ?_) (fun h58 => ?_)
        · refine lv_aload_n hx hb dX7_whyNotPosted_71 rfl (lv_at hl 0 rfl) ?_
          refine k_T_planDraft hC hG  (q1) w429 ⟨by decide, by decide⟩ hl.1 (Nat.le_of_ble_eq_true rfl) dX7_whyNotPosted_72 ⟨Nat.zero_le _, Nat.zero_le _⟩ (fun H locs hG => ?_)
          refine lv_aload_n hx hb dX7_whyNotPosted_75 rfl (lv_at hl 0 rfl) ?_
          refine lv_iconst (v := -1) hx hb dX7_whyNotPosted_76 (by decide) ?_
          refine W.eq (g2 := F0 m 77 ls [.int (oI none), .ref (a 0)]) rfl ?_
          refine k_T_planKeepsFloors hC hG none (p4) w435 ⟨by decide, by decide⟩ hl.1 (Nat.le_of_ble_eq_true rfl) dX7_whyNotPosted_77 ⟨Nat.zero_le _, Nat.zero_le _⟩ (fun H locs hG => ?_)
          refine bb_ne (tgt := 85) hx hb dX7_whyNotPosted_80 (by decide) (fun h80 => ?_) (fun h80 => (show False from (Bool.false_ne_true h80.symm)).elim)
          refine lv_aload_n hx hb dX7_whyNotPosted_85 rfl (lv_at hl 0 rfl) ?_
          refine gf_T_journal hC hG (hC.2.2.2.2 _ w24) dX7_whyNotPosted_86 ?_
          refine k_J_isFull hC hG  (p4) w235 ⟨by decide, by decide⟩ hl.1 (Nat.le_of_ble_eq_true rfl) dX7_whyNotPosted_89 ⟨Nat.zero_le _, Nat.zero_le _⟩ (fun H locs hG => ?_)
          refine bb_eq (tgt := 100) hx hb dX7_whyNotPosted_92 (by decide) (fun h92 => ?_) (fun h92 => ?_)
          · refine lv_iconst (v := nI 0) hx hb dX7_whyNotPosted_100 (by decide) ?_
            exact te_i (v := (nI 0)) hC hG hr hk ⟨(congrArg nI (show 0 = fWhy u from by unfold fWhy; rw [if_neg (by rw [h7]; decide), if_neg (by omega), if_neg (fun hh => hh h42), if_neg (fun hh => hh.1 h58), if_neg (by rw [decide_eq_false_iff_not] at h92; omega)])), (by unfold fWhyU; rw [if_neg (by rw [h7]; decide), if_neg (by omega), if_neg (fun hh => hh h42), if_neg (fun hh => hh.1 h58)])⟩ dX7_whyNotPosted_101
          · refine lv_bipush (v := nI 6) hx hb dX7_whyNotPosted_95 (by decide) ?_
            refine lv_goto (tgt := 101) hx hb dX7_whyNotPosted_97 (by decide) ?_
            exact te_i (v := (nI 6)) hC hG hr hk ⟨(congrArg nI (show 6 = fWhy u from by unfold fWhy; rw [if_neg (by rw [h7]; decide), if_neg (by omega), if_neg (fun hh => hh h42), if_neg (fun hh => hh.1 h58), if_pos (by rw [decide_eq_true_iff] at h92; omega)])), (by unfold fWhyU; rw [if_neg (by rw [h7]; decide), if_neg (by omega), if_neg (fun hh => hh h42), if_neg (fun hh => hh.1 h58)])⟩ dX7_whyNotPosted_101
        · refine lv_aload_n hx hb dX7_whyNotPosted_62 rfl (lv_at hl 0 rfl) ?_
          refine k_T_canBeExchanged hC hG  (q1) (by omega) w419 ⟨by decide, by decide⟩ hl.1 (Nat.le_of_ble_eq_true rfl) dX7_whyNotPosted_63 ⟨Nat.zero_le _, Nat.zero_le _⟩ (fun H locs hG => ?_)
          refine bb_ne (tgt := 71) hx hb dX7_whyNotPosted_66 (by decide) (fun h66 => ?_) (fun h66 => ?_)
          · refine lv_aload_n hx hb dX7_whyNotPosted_71 rfl (lv_at hl 0 rfl) ?_
            refine k_T_planDraft hC hG  (q1) w429 ⟨by decide, by decide⟩ hl.1 (Nat.le_of_ble_eq_true rfl) dX7_whyNotPosted_72 ⟨Nat.zero_le _, Nat.zero_le _⟩ (fun H locs hG => ?_)
            refine lv_aload_n hx hb dX7_whyNotPosted_75 rfl (lv_at hl 0 rfl) ?_
            refine lv_iconst (v := -1) hx hb dX7_whyNotPosted_76 (by decide) ?_
            refine W.eq (g2 := F0 m 77 ls [.int (oI none), .ref (a 0)]) rfl ?_
            refine k_T_planKeepsFloors hC hG none (p4) w435 ⟨by decide, by decide⟩ hl.1 (Nat.le_of_ble_eq_true rfl) dX7_whyNotPosted_77 ⟨Nat.zero_le _, Nat.zero_le _⟩ (fun H locs hG => ?_)
            refine bb_ne (tgt := 85) hx hb dX7_whyNotPosted_80 (by decide) (fun h80 => ?_) (fun h80 => (show False from (Bool.false_ne_true h80.symm)).elim)
            refine lv_aload_n hx hb dX7_whyNotPosted_85 rfl (lv_at hl 0 rfl) ?_
            refine gf_T_journal hC hG (hC.2.2.2.2 _ w24) dX7_whyNotPosted_86 ?_
            refine k_J_isFull hC hG  (p4) w235 ⟨by decide, by decide⟩ hl.1 (Nat.le_of_ble_eq_true rfl) dX7_whyNotPosted_89 ⟨Nat.zero_le _, Nat.zero_le _⟩ (fun H locs hG => ?_)
            refine bb_eq (tgt := 100) hx hb dX7_whyNotPosted_92 (by decide) (fun h92 => ?_) (fun h92 => ?_)
            · refine lv_iconst (v := nI 0) hx hb dX7_whyNotPosted_100 (by decide) ?_
              exact te_i (v := (nI 0)) hC hG hr hk ⟨(congrArg nI (show 0 = fWhy u from by unfold fWhy; rw [if_neg (by rw [h7]; decide), if_neg (by omega), if_neg (fun hh => hh h42), if_neg (fun hh => Bool.false_ne_true (hh.2.symm.trans h66)), if_neg (by rw [decide_eq_false_iff_not] at h92; omega)])), (by unfold fWhyU; rw [if_neg (by rw [h7]; decide), if_neg (by omega), if_neg (fun hh => hh h42), if_neg (fun hh => Bool.false_ne_true (hh.2.symm.trans h66))])⟩ dX7_whyNotPosted_101
            · refine lv_bipush (v := nI 6) hx hb dX7_whyNotPosted_95 (by decide) ?_
              refine lv_goto (tgt := 101) hx hb dX7_whyNotPosted_97 (by decide) ?_
              exact te_i (v := (nI 6)) hC hG hr hk ⟨(congrArg nI (show 6 = fWhy u from by unfold fWhy; rw [if_neg (by rw [h7]; decide), if_neg (by omega), if_neg (fun hh => hh h42), if_neg (fun hh => Bool.false_ne_true (hh.2.symm.trans h66)), if_pos (by rw [decide_eq_true_iff] at h92; omega)])), (by unfold fWhyU; rw [if_neg (by rw [h7]; decide), if_neg (by omega), if_neg (fun hh => hh h42), if_neg (fun hh => Bool.false_ne_true (hh.2.symm.trans h66))])⟩ dX7_whyNotPosted_101
          · refine lv_iconst (v := nI 4) hx hb dX7_whyNotPosted_69 (by decide) ?_
            exact te_i (v := (nI 4)) hC hG hr hk ⟨(congrArg nI (show 4 = fWhy u from by unfold fWhy; rw [if_neg (by rw [h7]; decide), if_neg (by omega), if_neg (fun hh => hh h42), if_pos ⟨h58, h66⟩])), (by unfold fWhyU; rw [if_neg (by rw [h7]; decide), if_neg (by omega), if_neg (fun hh => hh h42), if_pos ⟨h58, h66⟩])⟩ dX7_whyNotPosted_70
      · refine lv_iconst (v := nI 3) hx hb dX7_whyNotPosted_45 (by decide) ?_
        exact te_i (v := (nI 3)) hC hG hr hk ⟨(congrArg nI (show 3 = fWhy u from by unfold fWhy; rw [if_neg (by rw [h7]; decide), if_neg (by omega), if_pos (fun hh => by obtain ⟨j, e1, e2⟩ := h42; have := hh j e1; omega)])), (by unfold fWhyU; rw [if_neg (by rw [h7]; decide), if_neg (by omega), if_pos (fun hh => by obtain ⟨j, e1, e2⟩ := h42; have := hh j e1; omega)])⟩ dX7_whyNotPosted_46
    · refine lv_iconst (v := nI 2) hx hb dX7_whyNotPosted_26 (by decide) ?_
      exact te_i (v := (nI 2)) hC hG hr hk ⟨(congrArg nI (show 2 = fWhy u from by unfold fWhy; rw [if_neg (by rw [h7]; decide), if_pos h23])), (by unfold fWhyU; rw [if_neg (by rw [h7]; decide), if_pos h23])⟩ dX7_whyNotPosted_27
  · refine lv_iconst (v := nI 1) hx hb dX7_whyNotPosted_10 (by decide) ?_
    exact te_i (v := (nI 1)) hC hG hr hk ⟨(congrArg nI (show 1 = fWhy u from by unfold fWhy; rw [if_pos h7])), (by unfold fWhyU; rw [if_pos h7])⟩ dX7_whyNotPosted_11
theorem k_T_whyNotPosted {p : Program} {l : Launch} {e : Env} {R : Room} {s : State} {m : MethodId} {args : Array Value} {below : List Frame} {meth : Method} {c : Code} {H : Heap} {locs : List Loc} {cs ss : Nat} {Q : State → Prop} {cc : ByteArray} {nL pc : Nat} {ls : Array Slot} {rest : List Value} {own : String} {idx : Nat} {D : va_G} {κ : ClassId × ClassId × ClassId} {a : Nat → Nat} {u : TS} {A : Nat → Prop} (hC : CallFix p m c cc nL s args WALL own) (hG : GW D κ a u A s H locs)  (q1 : OK u) (wl : Cond.methodLink own idx yX7_whyNotPosted ∈ WALL) (hR : 3 + 1 ≤ R.frames ∧ 8 + (1 + 11) + 72 ≤ R.locals) (hls : ls.size = nL) (h8 : (rest.map fun v => v.category).sum ≤ 8) (hd : decode cc pc = .ok (.invokevirtual idx, 3)) (hcs : cs ≤ R.cells ∧ ss ≤ R.slots) (kk : ∀ (H1 : Heap) (locs1 : List Loc), GW D κ a (fWhyU u) A s H1 locs1 → W p l e R s m args below meth c H1 locs1 cs ss Q (F0 m (pc + 3) ls (.int (nI (fWhy u)) :: rest))) : W p l e R s m args below meth c H locs cs ss Q (F0 m pc ls (.ref (a 0) :: rest)) :=
  tc_i hG (tr_V (n := 0) (k := 0) (ci := 7) (As := []) hC hG (c_T_whyNotPosted l D κ a H.size u  q1) rfl rfl wl w2 w417 w415 w416 (by decide +kernel) hR rfl hls rfl h8 hd hcs) (fun r u' H1 locs1 hq hG1 => by obtain ⟨rfl, rfl⟩ := hq; exact kk H1 locs1 hG1)

theorem dX7_reason_0 : decode cX7_reason 0 = .ok (.aload_n 0, 1) := by decide +kernel
theorem dX7_reason_1 : decode cX7_reason 1 = .ok (.invokevirtual 166, 3) := by decide +kernel
theorem dX7_reason_4 : decode cX7_reason 4 = .ok (.ireturn, 1) := by decide +kernel
set_option maxHeartbeats 4000000 in
set_option maxRecDepth 100000 in
theorem c_T_reason (l : Launch) (D : va_G) (κ : ClassId × ClassId × ClassId) (a : Nat → Nat) (sz : Nat) (u : TS)  (q1 : OK u) : TM l yX7_reason cX7_reason 1 (some .int) 4 92 D κ a u sz [.ref (a 0)] (QI D κ a sz (fun r u' => r = (nI (fWhy u)) ∧ u' = fWhyU u)) := by
  refine TM.of (by decide +kernel) (Nat.le_of_ble_eq_true rfl) ?_
  intro p e s m below meth c ls hC hr hk hsz H locs hG hl
  have hx := hC.1
  have hb := hC.2.1
  have hl : lv_has ls 1 [(0, .ref (a 0))] := hl
  have qok := q1
  have ⟨n1, n2, n3, n4, n5, n6, n7, n8, n9, n10⟩ := qok.n
  refine lv_aload_n hx hb dX7_reason_0 rfl (lv_at hl 0 rfl) ?_
  refine k_T_whyNotPosted hC hG  (q1) w414 ⟨by decide, by decide⟩ hl.1 (Nat.le_of_ble_eq_true rfl) dX7_reason_1 ⟨Nat.zero_le _, Nat.zero_le _⟩ (fun H locs hG => ?_)
  exact te_i (v := (nI (fWhy u))) hC hG hr hk ⟨rfl, rfl⟩ dX7_reason_4
theorem k_T_reason {p : Program} {l : Launch} {e : Env} {R : Room} {s : State} {m : MethodId} {args : Array Value} {below : List Frame} {meth : Method} {c : Code} {H : Heap} {locs : List Loc} {cs ss : Nat} {Q : State → Prop} {cc : ByteArray} {nL pc : Nat} {ls : Array Slot} {rest : List Value} {own : String} {idx : Nat} {D : va_G} {κ : ClassId × ClassId × ClassId} {a : Nat → Nat} {u : TS} {A : Nat → Prop} (hC : CallFix p m c cc nL s args WALL own) (hG : GW D κ a u A s H locs)  (q1 : OK u) (wl : Cond.methodLink own idx yX7_reason ∈ WALL) (hR : 4 + 1 ≤ R.frames ∧ 8 + (1 + 11) + 92 ≤ R.locals) (hls : ls.size = nL) (h8 : (rest.map fun v => v.category).sum ≤ 8) (hd : decode cc pc = .ok (.invokevirtual idx, 3)) (hcs : cs ≤ R.cells ∧ ss ≤ R.slots) (kk : ∀ (H1 : Heap) (locs1 : List Loc), GW D κ a (fWhyU u) A s H1 locs1 → W p l e R s m args below meth c H1 locs1 cs ss Q (F0 m (pc + 3) ls (.int (nI (fWhy u)) :: rest))) : W p l e R s m args below meth c H locs cs ss Q (F0 m pc ls (.ref (a 0) :: rest)) :=
  tc_i hG (tr_V (n := 0) (k := 0) (ci := 7) (As := []) hC hG (c_T_reason l D κ a H.size u  q1) rfl rfl wl w2 w413 w411 w412 (by decide +kernel) hR rfl hls rfl h8 hd hcs) (fun r u' H1 locs1 hq hG1 => by obtain ⟨rfl, rfl⟩ := hq; exact kk H1 locs1 hG1)

theorem dX7_post_0 : decode cX7_post 0 = .ok (.aload_n 0, 1) := by decide +kernel
theorem dX7_post_1 : decode cX7_post 1 = .ok (.invokevirtual 166, 3) := by decide +kernel
theorem dX7_post_17 : decode cX7_post 17 = .ok (.aload_n 0, 1) := by decide +kernel
theorem dX7_post_18 : decode cX7_post 18 = .ok (.invokevirtual 172, 3) := by decide +kernel
theorem dX7_post_21 : decode cX7_post 21 = .ok (.aload_n 0, 1) := by decide +kernel
theorem dX7_post_22 : decode cX7_post 22 = .ok (.getfield 26, 3) := by decide +kernel
theorem dX7_post_25 : decode cX7_post 25 = .ok (.aload_n 0, 1) := by decide +kernel
theorem dX7_post_26 : decode cX7_post 26 = .ok (.getfield 19, 3) := by decide +kernel
theorem dX7_post_29 : decode cX7_post 29 = .ok (.getfield 175, 3) := by decide +kernel
theorem dX7_post_32 : decode cX7_post 32 = .ok (.aload_n 0, 1) := by decide +kernel
theorem dX7_post_33 : decode cX7_post 33 = .ok (.getfield 19, 3) := by decide +kernel
theorem dX7_post_36 : decode cX7_post 36 = .ok (.getfield 178, 3) := by decide +kernel
theorem dX7_post_39 : decode cX7_post 39 = .ok (.iconst 0, 1) := by decide +kernel
theorem dX7_post_4 : decode cX7_post 4 = .ok (.ifCond .eq 13, 3) := by decide +kernel
theorem dX7_post_40 : decode cX7_post 40 = .ok (.aload_n 0, 1) := by decide +kernel
theorem dX7_post_41 : decode cX7_post 41 = .ok (.getfield 59, 3) := by decide +kernel
theorem dX7_post_44 : decode cX7_post 44 = .ok (.invokevirtual 181, 3) := by decide +kernel
theorem dX7_post_47 : decode cX7_post 47 = .ok (.istore_n 1, 1) := by decide +kernel
theorem dX7_post_48 : decode cX7_post 48 = .ok (.aload_n 0, 1) := by decide +kernel
theorem dX7_post_49 : decode cX7_post 49 = .ok (.getfield 19, 3) := by decide +kernel
theorem dX7_post_52 : decode cX7_post 52 = .ok (.invokevirtual 185, 3) := by decide +kernel
theorem dX7_post_55 : decode cX7_post 55 = .ok (.iload_n 1, 1) := by decide +kernel
theorem dX7_post_56 : decode cX7_post 56 = .ok (.ireturn, 1) := by decide +kernel
set_option maxHeartbeats 4000000 in
set_option maxRecDepth 100000 in
theorem c_T_post (l : Launch) (D : va_G) (κ : ClassId × ClassId × ClassId) (a : Nat → Nat) (sz : Nat) (u : TS)  (q1 : OK u) (q2 : fWhy u = 0) (q3 : J_legCount u + 10 ≤ 600) (q4 : J_count u < 60) : TM l yX7_post cX7_post 2 (some .int) 4 92 D κ a u sz [.ref (a 0)] (QI D κ a sz (fun r u' => r = (nI (J_count u)) ∧ u' = fPost u)) := by
  refine TM.of (by decide +kernel) (Nat.le_of_ble_eq_true rfl) ?_
  intro p e s m below meth c ls hC hr hk hsz H locs hG hl
  have hx := hC.1
  have hb := hC.2.1
  have hl : lv_has ls 2 [(0, .ref (a 0))] := hl
  have qok := q1
  have ⟨n1, n2, n3, n4, n5, n6, n7, n8, n9, n10⟩ := qok.n
  have ⟨w1, w2⟩ := fWhyU_c q1
  have w3 := w1.n
  have ⟨p1, p2, p3, p4⟩ := fPlanD_c w2
  have p5 := p1.n
  refine lv_aload_n hx hb dX7_post_0 rfl (lv_at hl 0 rfl) ?_
  refine k_T_whyNotPosted hC hG  (q1) w414 ⟨by decide, by decide⟩ hl.1 (Nat.le_of_ble_eq_true rfl) dX7_post_1 ⟨Nat.zero_le _, Nat.zero_le _⟩ (fun H locs hG => ?_)
  refine bz_eq (tgt := 17) hx hb (by omega) dX7_post_4 (by decide) (fun h4 => ?_) (fun h4 => (show False from (h4 q2)).elim)
  refine lv_aload_n hx hb dX7_post_17 rfl (lv_at hl 0 rfl) ?_
  refine k_T_planDraft hC hG  (w2) w429 ⟨by decide, by decide⟩ hl.1 (Nat.le_of_ble_eq_true rfl) dX7_post_18 ⟨Nat.zero_le _, Nat.zero_le _⟩ (fun H locs hG => ?_)
  refine lv_aload_n hx hb dX7_post_21 rfl (lv_at hl 0 rfl) ?_
  refine gf_T_journal hC hG (hC.2.2.2.2 _ w24) dX7_post_22 ?_
  refine lv_aload_n hx hb dX7_post_25 rfl (lv_at hl 0 rfl) ?_
  refine gf_T_draft hC hG (hC.2.2.2.2 _ w20) dX7_post_26 ?_
  refine gf_DR_day hC hG (hC.2.2.2.2 _ w418) dX7_post_29 ?_
  refine lv_aload_n hx hb dX7_post_32 rfl (lv_at hl 0 rfl) ?_
  refine gf_T_draft hC hG (hC.2.2.2.2 _ w20) dX7_post_33 ?_
  refine gf_DR_note hC hG (hC.2.2.2.2 _ w457) dX7_post_36 ?_
  refine lv_iconst (v := nI 0) hx hb dX7_post_39 (by decide) ?_
  refine lv_aload_n hx hb dX7_post_40 rfl (lv_at hl 0 rfl) ?_
  refine gf_T_plan hC hG (hC.2.2.2.2 _ w41) dX7_post_41 ?_
  refine W.eq (g2 := F0 m 44 ls [.ref (a 4), .int (bI false), .int (nI (DR_note (fPlanD (fWhyU u)))), .int (nI (DR_day (fPlanD (fWhyU u)))), .ref (a 5)]) rfl ?_
  refine k_J_enter hC hG (DR_day (fPlanD (fWhyU u))) (DR_note (fPlanD (fWhyU u))) false (p4) (by omega) (by omega) w239 ⟨by decide, by decide⟩ hl.1 (Nat.le_of_ble_eq_true rfl) dX7_post_44 ⟨Nat.zero_le _, Nat.zero_le _⟩ (fun H locs hG => ?_)
  refine lv_istore_n (lv' := [(1, .int (nI (J_count (fPlanD (fWhyU u))))), (0, .ref (a 0))]) hx hb dX7_post_47 rfl hl (by decide) rfl (fun ls hl => ?_)
  refine lv_aload_n hx hb dX7_post_48 rfl (lv_at hl 1 rfl) ?_
  refine gf_T_draft hC hG (hC.2.2.2.2 _ w20) dX7_post_49 ?_
  refine k_DR_forget hC hG   w458 ⟨by decide, by decide⟩ hl.1 (Nat.le_of_ble_eq_true rfl) dX7_post_52 ⟨Nat.zero_le _, Nat.zero_le _⟩ (fun H locs hG => ?_)
  refine lv_iload_n hx hb dX7_post_55 rfl (lv_at hl 0 rfl) ?_
  exact te_i (v := (nI (J_count (fPlanD (fWhyU u))))) hC hG hr hk ⟨(congrArg nI (show (J_count (fPlanD (fWhyU u))) = J_count u from by omega)), (by rfl)⟩ dX7_post_56
theorem k_T_post {p : Program} {l : Launch} {e : Env} {R : Room} {s : State} {m : MethodId} {args : Array Value} {below : List Frame} {meth : Method} {c : Code} {H : Heap} {locs : List Loc} {cs ss : Nat} {Q : State → Prop} {cc : ByteArray} {nL pc : Nat} {ls : Array Slot} {rest : List Value} {own : String} {idx : Nat} {D : va_G} {κ : ClassId × ClassId × ClassId} {a : Nat → Nat} {u : TS} {A : Nat → Prop} (hC : CallFix p m c cc nL s args WALL own) (hG : GW D κ a u A s H locs)  (q1 : OK u) (q2 : fWhy u = 0) (q3 : J_legCount u + 10 ≤ 600) (q4 : J_count u < 60) (wl : Cond.methodLink own idx yX7_post ∈ WALL) (hR : 4 + 1 ≤ R.frames ∧ 8 + (2 + 11) + 92 ≤ R.locals) (hls : ls.size = nL) (h8 : (rest.map fun v => v.category).sum ≤ 8) (hd : decode cc pc = .ok (.invokevirtual idx, 3)) (hcs : cs ≤ R.cells ∧ ss ≤ R.slots) (kk : ∀ (H1 : Heap) (locs1 : List Loc), GW D κ a (fPost u) A s H1 locs1 → W p l e R s m args below meth c H1 locs1 cs ss Q (F0 m (pc + 3) ls (.int (nI (J_count u)) :: rest))) : W p l e R s m args below meth c H locs cs ss Q (F0 m pc ls (.ref (a 0) :: rest)) :=
  tc_i hG (tr_V (n := 0) (k := 0) (ci := 7) (As := []) hC hG (c_T_post l D κ a H.size u  q1 q2 q3 q4) rfl rfl wl w2 w456 w454 w455 (by decide +kernel) hR rfl hls rfl h8 hd hcs) (fun r u' H1 locs1 hq hG1 => by obtain ⟨rfl, rfl⟩ := hq; exact kk H1 locs1 hG1)

theorem dX7_close_0 : decode cX7_close 0 = .ok (.aload_n 0, 1) := by decide +kernel
theorem dX7_close_1 : decode cX7_close 1 = .ok (.iload_n 2, 1) := by decide +kernel
theorem dX7_close_10 : decode cX7_close 10 = .ok (.aload_n 0, 1) := by decide +kernel
theorem dX7_close_100 : decode cX7_close 100 = .ok (.lcmp, 1) := by decide +kernel
theorem dX7_close_101 : decode cX7_close 101 = .ok (.ifCond .eq 10, 3) := by decide +kernel
theorem dX7_close_104 : decode cX7_close 104 = .ok (.aload_n 0, 1) := by decide +kernel
theorem dX7_close_105 : decode cX7_close 105 = .ok (.iload_n 2, 1) := by decide +kernel
theorem dX7_close_106 : decode cX7_close 106 = .ok (.lload_n 3, 1) := by decide +kernel
theorem dX7_close_107 : decode cX7_close 107 = .ok (.lneg, 1) := by decide +kernel
theorem dX7_close_108 : decode cX7_close 108 = .ok (.invokevirtual 289, 3) := by decide +kernel
theorem dX7_close_11 : decode cX7_close 11 = .ok (.getfield 67, 3) := by decide +kernel
theorem dX7_close_111 : decode cX7_close 111 = .ok (.aload_n 0, 1) := by decide +kernel
theorem dX7_close_112 : decode cX7_close 112 = .ok (.getfield 26, 3) := by decide +kernel
theorem dX7_close_115 : decode cX7_close 115 = .ok (.iload_n 1, 1) := by decide +kernel
theorem dX7_close_116 : decode cX7_close 116 = .ok (.iconst 0, 1) := by decide +kernel
theorem dX7_close_117 : decode cX7_close 117 = .ok (.iconst 1, 1) := by decide +kernel
theorem dX7_close_118 : decode cX7_close 118 = .ok (.aload_n 0, 1) := by decide +kernel
theorem dX7_close_119 : decode cX7_close 119 = .ok (.getfield 59, 3) := by decide +kernel
theorem dX7_close_122 : decode cX7_close 122 = .ok (.invokevirtual 181, 3) := by decide +kernel
theorem dX7_close_125 : decode cX7_close 125 = .ok (.ireturn, 1) := by decide +kernel
theorem dX7_close_14 : decode cX7_close 14 = .ok (.if_icmp .gt 28, 3) := by decide +kernel
theorem dX7_close_17 : decode cX7_close 17 = .ok (.aload_n 0, 1) := by decide +kernel
theorem dX7_close_18 : decode cX7_close 18 = .ok (.getfield 12, 3) := by decide +kernel
theorem dX7_close_2 : decode cX7_close 2 = .ok (.invokevirtual 102, 3) := by decide +kernel
theorem dX7_close_21 : decode cX7_close 21 = .ok (.getfield 239, 3) := by decide +kernel
theorem dX7_close_24 : decode cX7_close 24 = .ok (.iload_n 2, 1) := by decide +kernel
theorem dX7_close_25 : decode cX7_close 25 = .ok (.iaload, 1) := by decide +kernel
theorem dX7_close_26 : decode cX7_close 26 = .ok (.iconst 4, 1) := by decide +kernel
theorem dX7_close_27 : decode cX7_close 27 = .ok (.if_icmp .ne 15, 3) := by decide +kernel
theorem dX7_close_30 : decode cX7_close 30 = .ok (.aload_n 0, 1) := by decide +kernel
theorem dX7_close_31 : decode cX7_close 31 = .ok (.getfield 12, 3) := by decide +kernel
theorem dX7_close_34 : decode cX7_close 34 = .ok (.getfield 126, 3) := by decide +kernel
theorem dX7_close_37 : decode cX7_close 37 = .ok (.iload_n 2, 1) := by decide +kernel
theorem dX7_close_38 : decode cX7_close 38 = .ok (.iaload, 1) := by decide +kernel
theorem dX7_close_39 : decode cX7_close 39 = .ok (.ifCond .eq 14, 3) := by decide +kernel
theorem dX7_close_5 : decode cX7_close 5 = .ok (.iload_n 1, 1) := by decide +kernel
theorem dX7_close_53 : decode cX7_close 53 = .ok (.iload_n 1, 1) := by decide +kernel
theorem dX7_close_54 : decode cX7_close 54 = .ok (.aload_n 0, 1) := by decide +kernel
theorem dX7_close_55 : decode cX7_close 55 = .ok (.getfield 26, 3) := by decide +kernel
theorem dX7_close_58 : decode cX7_close 58 = .ok (.invokevirtual 277, 3) := by decide +kernel
theorem dX7_close_6 : decode cX7_close 6 = .ok (.ifCond .lt 36, 3) := by decide +kernel
theorem dX7_close_61 : decode cX7_close 61 = .ok (.if_icmp .le 13, 3) := by decide +kernel
theorem dX7_close_64 : decode cX7_close 64 = .ok (.aload_n 0, 1) := by decide +kernel
theorem dX7_close_65 : decode cX7_close 65 = .ok (.getfield 26, 3) := by decide +kernel
theorem dX7_close_68 : decode cX7_close 68 = .ok (.invokevirtual 280, 3) := by decide +kernel
theorem dX7_close_71 : decode cX7_close 71 = .ok (.ifCond .eq 14, 3) := by decide +kernel
theorem dX7_close_85 : decode cX7_close 85 = .ok (.aload_n 0, 1) := by decide +kernel
theorem dX7_close_86 : decode cX7_close 86 = .ok (.iload_n 1, 1) := by decide +kernel
theorem dX7_close_87 : decode cX7_close 87 = .ok (.invokevirtual 286, 3) := by decide +kernel
theorem dX7_close_9 : decode cX7_close 9 = .ok (.iload_n 1, 1) := by decide +kernel
theorem dX7_close_90 : decode cX7_close 90 = .ok (.aload_n 0, 1) := by decide +kernel
theorem dX7_close_91 : decode cX7_close 91 = .ok (.getfield 59, 3) := by decide +kernel
theorem dX7_close_94 : decode cX7_close 94 = .ok (.invokevirtual 162, 3) := by decide +kernel
theorem dX7_close_97 : decode cX7_close 97 = .ok (.lstore_n 3, 1) := by decide +kernel
theorem dX7_close_98 : decode cX7_close 98 = .ok (.lload_n 3, 1) := by decide +kernel
theorem dX7_close_99 : decode cX7_close 99 = .ok (.lconst 0, 1) := by decide +kernel
set_option maxHeartbeats 4000000 in
set_option maxRecDepth 100000 in
theorem c_T_close (l : Launch) (D : va_G) (κ : ClassId × ClassId × ClassId) (a : Nat → Nat) (sz : Nat) (u : TS) (d : Nat) (k : Nat) (q1 : OK u) (q2 : d ≤ T_today u) (q3 : k < AC_count u) (q4 : AC_kind u k = 4) (q5 : AC_currency u k = 0) (q6 : ∀ j, fLock u = some j → j < d) (q7 : J_count u < 60) (q8 : AC_count u ≤ 9) (q9 : J_legCount u + 10 ≤ 600) : TM l yX7_close cX7_close 5 (some .int) 3 74 D κ a u sz [.ref (a 0), .int (nI d), .int (nI k)] (QI D κ a sz (fun r u' => r = (nI (J_count u)) ∧ u' = fClose u d k)) := by
  refine TM.of (by decide +kernel) (Nat.le_of_ble_eq_true rfl) ?_
  intro p e s m below meth c ls hC hr hk hsz H locs hG hl
  have hx := hC.1
  have hb := hC.2.1
  have hl : lv_has ls 5 [(0, .ref (a 0)), (1, .int (nI d)), (2, .int (nI k))] := hl
  have qok := q1
  have ⟨n1, n2, n3, n4, n5, n6, n7, n8, n9, n10⟩ := qok.n
  have ⟨f1, f2, f3⟩ := fPC_c u d (AC_count u) (Nat.le_refl _)
  have f4 := f1.n
  have f5 := fPC_OK q1 d (Nat.le_refl (AC_count u))
  have ⟨g1, g2, g3, g4⟩ := fCloP_c q1 d q3 q8
  have g5 := g1.n
  have k1 : ∀ j, fLock u = some j → j < 2 ^ 31 := fun j hj => by have := q6 j hj; omega
  refine lv_aload_n hx hb dX7_close_0 rfl (lv_at hl 0 rfl) ?_
  refine lv_iload_n hx hb dX7_close_1 rfl (lv_at hl 2 rfl) ?_
  refine k_T_needAccount hC hG k (q1) (q3) w148 ⟨by decide, by decide⟩ hl.1 (Nat.le_of_ble_eq_true rfl) dX7_close_2 ⟨Nat.zero_le _, Nat.zero_le _⟩ (fun H locs hG => ?_)
  refine lv_iload_n hx hb dX7_close_5 rfl (lv_at hl 1 rfl) ?_
  refine bz_lt_f (tgt := 42) hx hb (by omega) dX7_close_6 (by decide) ?_
  refine lv_iload_n hx hb dX7_close_9 rfl (lv_at hl 1 rfl) ?_
  refine lv_aload_n hx hb dX7_close_10 rfl (lv_at hl 0 rfl) ?_
  refine gf_T_today hC hG (hC.2.2.2.2 _ w43) dX7_close_11 ?_
  refine bn_gt_f (tgt := 42) hx hb (by omega) (by omega) dX7_close_14 (by decide) (by omega) ?_
  refine lv_aload_n hx hb dX7_close_17 rfl (lv_at hl 0 rfl) ?_
  refine gf_T_accounts hC hG (hC.2.2.2.2 _ w16) dX7_close_18 ?_
  refine gf_AC_kind hC hG (hC.2.2.2.2 _ w234) dX7_close_21 ?_
  refine lv_iload_n hx hb dX7_close_24 rfl (lv_at hl 2 rfl) ?_
  refine al_AC_kind hC hG (by omega) dX7_close_25 ?_
  refine lv_iconst (v := nI 4) hx hb dX7_close_26 (by decide) ?_
  refine bn_ne_f (tgt := 42) hx hb (by omega) (by omega) dX7_close_27 (by decide) (q4) ?_
  refine lv_aload_n hx hb dX7_close_30 rfl (lv_at hl 0 rfl) ?_
  refine gf_T_accounts hC hG (hC.2.2.2.2 _ w16) dX7_close_31 ?_
  refine gf_AC_currency hC hG (hC.2.2.2.2 _ w147) dX7_close_34 ?_
  refine lv_iload_n hx hb dX7_close_37 rfl (lv_at hl 2 rfl) ?_
  refine al_AC_currency hC hG (by omega) dX7_close_38 ?_
  refine bz_eq (tgt := 53) hx hb (by omega) dX7_close_39 (by decide) (fun h39 => ?_) (fun h39 => (show False from (h39 q5)).elim)
  refine lv_iload_n hx hb dX7_close_53 rfl (lv_at hl 1 rfl) ?_
  refine lv_aload_n hx hb dX7_close_54 rfl (lv_at hl 0 rfl) ?_
  refine gf_T_journal hC hG (hC.2.2.2.2 _ w24) dX7_close_55 ?_
  refine k_J_lastLocked hC hG  (q1) w175 ⟨by decide, by decide⟩ hl.1 (Nat.le_of_ble_eq_true rfl) dX7_close_58 ⟨Nat.zero_le _, Nat.zero_le _⟩ (fun H locs hG => ?_)
  refine bno_le (tgt := 74) hx hb (by omega) (k1) dX7_close_61 (by decide) (fun h61 => (show False from (by obtain ⟨j, e1, e2⟩ := h61; have := q6 j e1; omega)).elim) (fun h61 => ?_)
  refine lv_aload_n hx hb dX7_close_64 rfl (lv_at hl 0 rfl) ?_
  refine gf_T_journal hC hG (hC.2.2.2.2 _ w24) dX7_close_65 ?_
  refine k_J_isFull hC hG  (q1) w235 ⟨by decide, by decide⟩ hl.1 (Nat.le_of_ble_eq_true rfl) dX7_close_68 ⟨Nat.zero_le _, Nat.zero_le _⟩ (fun H locs hG => ?_)
  refine bb_eq (tgt := 85) hx hb dX7_close_71 (by decide) (fun h71 => ?_) (fun h71 => (show False from (by rw [decide_eq_true_iff] at h71; omega)).elim)
  refine lv_aload_n hx hb dX7_close_85 rfl (lv_at hl 0 rfl) ?_
  refine lv_iload_n hx hb dX7_close_86 rfl (lv_at hl 1 rfl) ?_
  refine k_T_planClosing hC hG d (q1) (by omega) w190 ⟨by decide, by decide⟩ hl.1 (Nat.le_of_ble_eq_true rfl) dX7_close_87 ⟨Nat.zero_le _, Nat.zero_le _⟩ (fun H locs hG => ?_)
  refine lv_aload_n hx hb dX7_close_90 rfl (lv_at hl 0 rfl) ?_
  refine gf_T_plan hC hG (hC.2.2.2.2 _ w41) dX7_close_91 ?_
  refine k_L1_worthSum hC hG  (by omega) w226 ⟨by decide, by decide⟩ hl.1 (Nat.le_of_ble_eq_true rfl) dX7_close_94 ⟨Nat.zero_le _, Nat.zero_le _⟩ (fun H locs hG => ?_)
  refine lv_lstore_n (lv' := [(3, .long (fSum (L1_worth (fPC u d (AC_count u))) (L1_count (fPC u d (AC_count u))))), (0, .ref (a 0)), (1, .int (nI d)), (2, .int (nI k))]) hx hb dX7_close_97 rfl hl (by decide) rfl (fun ls hl => ?_)
  refine lv_lload_n hx hb dX7_close_98 rfl (lv_at hl 0 rfl) ?_
  refine lv_lconst (v := 0) hx hb dX7_close_99 (by decide) ?_
  refine bl_eq (tgt := 111) hx hb dX7_close_100 dX7_close_101 (by decide) (fun h100 => ?_) (fun h100 => ?_)
  · have hG : GW D κ a (fCloP u d k) (AA a sz) s H locs := by
      have eu : fCloP u d k = (fPC u d (AC_count u)) := by unfold fCloP; first | rw [if_pos (by assumption)] | rw [if_neg (by assumption)]
      rw [eu]; exact hG
    refine lv_aload_n hx hb dX7_close_111 rfl (lv_at hl 1 rfl) ?_
    refine gf_T_journal hC hG (hC.2.2.2.2 _ w24) dX7_close_112 ?_
    refine lv_iload_n hx hb dX7_close_115 rfl (lv_at hl 2 rfl) ?_
    refine lv_iconst (v := nI 0) hx hb dX7_close_116 (by decide) ?_
    refine lv_iconst (v := nI 1) hx hb dX7_close_117 (by decide) ?_
    refine lv_aload_n hx hb dX7_close_118 rfl (lv_at hl 1 rfl) ?_
    refine gf_T_plan hC hG (hC.2.2.2.2 _ w41) dX7_close_119 ?_
    refine W.eq (g2 := F0 m 122 ls [.ref (a 4), .int (bI true), .int (nI 0), .int (nI d), .ref (a 5)]) rfl ?_
    refine k_J_enter hC hG d 0 true (g4) (by omega) (by omega) w239 ⟨by decide, by decide⟩ hl.1 (Nat.le_of_ble_eq_true rfl) dX7_close_122 ⟨Nat.zero_le _, Nat.zero_le _⟩ (fun H locs hG => ?_)
    exact te_i (v := (nI (J_count (fCloP u d k)))) hC hG hr hk ⟨(congrArg nI (show (J_count (fCloP u d k)) = J_count u from by omega)), (by rfl)⟩ dX7_close_125
  · refine lv_aload_n hx hb dX7_close_104 rfl (lv_at hl 1 rfl) ?_
    refine lv_iload_n hx hb dX7_close_105 rfl (lv_at hl 3 rfl) ?_
    refine lv_lload_n hx hb dX7_close_106 rfl (lv_at hl 0 rfl) ?_
    refine lv_lneg hx hb dX7_close_107 ?_
    refine k_T_planLeg hC hG k (-(fSum (L1_worth (fPC u d (AC_count u))) (L1_count (fPC u d (AC_count u))))) (f5) (by omega) (by omega) w211 ⟨by decide, by decide⟩ hl.1 (Nat.le_of_ble_eq_true rfl) dX7_close_108 ⟨Nat.zero_le _, Nat.zero_le _⟩ (fun H locs hG => ?_)
    have hG : GW D κ a (fCloP u d k) (AA a sz) s H locs := by
      have eu : fCloP u d k = (fPLeg (fPC u d (AC_count u)) k (-(fSum (L1_worth (fPC u d (AC_count u))) (L1_count (fPC u d (AC_count u)))))) := by unfold fCloP; first | rw [if_pos (by assumption)] | rw [if_neg (by assumption)]
      rw [eu]; exact hG
    refine lv_aload_n hx hb dX7_close_111 rfl (lv_at hl 1 rfl) ?_
    refine gf_T_journal hC hG (hC.2.2.2.2 _ w24) dX7_close_112 ?_
    refine lv_iload_n hx hb dX7_close_115 rfl (lv_at hl 2 rfl) ?_
    refine lv_iconst (v := nI 0) hx hb dX7_close_116 (by decide) ?_
    refine lv_iconst (v := nI 1) hx hb dX7_close_117 (by decide) ?_
    refine lv_aload_n hx hb dX7_close_118 rfl (lv_at hl 1 rfl) ?_
    refine gf_T_plan hC hG (hC.2.2.2.2 _ w41) dX7_close_119 ?_
    refine W.eq (g2 := F0 m 122 ls [.ref (a 4), .int (bI true), .int (nI 0), .int (nI d), .ref (a 5)]) rfl ?_
    refine k_J_enter hC hG d 0 true (g4) (by omega) (by omega) w239 ⟨by decide, by decide⟩ hl.1 (Nat.le_of_ble_eq_true rfl) dX7_close_122 ⟨Nat.zero_le _, Nat.zero_le _⟩ (fun H locs hG => ?_)
    exact te_i (v := (nI (J_count (fCloP u d k)))) hC hG hr hk ⟨(congrArg nI (show (J_count (fCloP u d k)) = J_count u from by omega)), (by rfl)⟩ dX7_close_125
theorem k_T_close {p : Program} {l : Launch} {e : Env} {R : Room} {s : State} {m : MethodId} {args : Array Value} {below : List Frame} {meth : Method} {c : Code} {H : Heap} {locs : List Loc} {cs ss : Nat} {Q : State → Prop} {cc : ByteArray} {nL pc : Nat} {ls : Array Slot} {rest : List Value} {own : String} {idx : Nat} {D : va_G} {κ : ClassId × ClassId × ClassId} {a : Nat → Nat} {u : TS} {A : Nat → Prop} (hC : CallFix p m c cc nL s args WALL own) (hG : GW D κ a u A s H locs) (d : Nat) (k : Nat) (q1 : OK u) (q2 : d ≤ T_today u) (q3 : k < AC_count u) (q4 : AC_kind u k = 4) (q5 : AC_currency u k = 0) (q6 : ∀ j, fLock u = some j → j < d) (q7 : J_count u < 60) (q8 : AC_count u ≤ 9) (q9 : J_legCount u + 10 ≤ 600) (wl : Cond.methodLink own idx yX7_close ∈ WALL) (hR : 3 + 1 ≤ R.frames ∧ 8 + (5 + 11) + 74 ≤ R.locals) (hls : ls.size = nL) (h8 : (rest.map fun v => v.category).sum ≤ 8) (hd : decode cc pc = .ok (.invokevirtual idx, 3)) (hcs : cs ≤ R.cells ∧ ss ≤ R.slots) (kk : ∀ (H1 : Heap) (locs1 : List Loc), GW D κ a (fClose u d k) A s H1 locs1 → W p l e R s m args below meth c H1 locs1 cs ss Q (F0 m (pc + 3) ls (.int (nI (J_count u)) :: rest))) : W p l e R s m args below meth c H locs cs ss Q (F0 m pc ls (.int (nI k) :: .int (nI d) :: .ref (a 0) :: rest)) :=
  tc_i hG (tr_V (n := 2) (k := 0) (ci := 7) (As := [.int (nI d), .int (nI k)]) hC hG (c_T_close l D κ a H.size u d k q1 q2 q3 q4 q5 q6 q7 q8 q9) rfl rfl wl w2 w233 w231 w232 (by decide +kernel) hR rfl hls rfl h8 hd hcs) (fun r u' H1 locs1 hq hG1 => by obtain ⟨rfl, rfl⟩ := hq; exact kk H1 locs1 hG1)

theorem dX7_open_0 : decode cX7_open 0 = .ok (.aload_n 0, 1) := by decide +kernel
theorem dX7_open_1 : decode cX7_open 1 = .ok (.getfield 26, 3) := by decide +kernel
theorem dX7_open_10 : decode cX7_open 10 = .ok (.if_icmp .ne 14, 3) := by decide +kernel
theorem dX7_open_24 : decode cX7_open 24 = .ok (.aload_n 0, 1) := by decide +kernel
theorem dX7_open_25 : decode cX7_open 25 = .ok (.getfield 49, 3) := by decide +kernel
theorem dX7_open_28 : decode cX7_open 28 = .ok (.iload_n 1, 1) := by decide +kernel
theorem dX7_open_29 : decode cX7_open 29 = .ok (.invokevirtual 298, 3) := by decide +kernel
theorem dX7_open_32 : decode cX7_open 32 = .ok (.aload_n 0, 1) := by decide +kernel
theorem dX7_open_33 : decode cX7_open 33 = .ok (.getfield 26, 3) := by decide +kernel
theorem dX7_open_36 : decode cX7_open 36 = .ok (.getfield 191, 3) := by decide +kernel
theorem dX7_open_39 : decode cX7_open 39 = .ok (.iload_n 1, 1) := by decide +kernel
theorem dX7_open_4 : decode cX7_open 4 = .ok (.invokevirtual 293, 3) := by decide +kernel
theorem dX7_open_40 : decode cX7_open 40 = .ok (.iconst 1, 1) := by decide +kernel
theorem dX7_open_41 : decode cX7_open 41 = .ok (.bastore, 1) := by decide +kernel
theorem dX7_open_42 : decode cX7_open 42 = .ok (.aload_n 0, 1) := by decide +kernel
theorem dX7_open_43 : decode cX7_open 43 = .ok (.getfield 26, 3) := by decide +kernel
theorem dX7_open_46 : decode cX7_open 46 = .ok (.invokevirtual 277, 3) := by decide +kernel
theorem dX7_open_49 : decode cX7_open 49 = .ok (.ireturn, 1) := by decide +kernel
theorem dX7_open_7 : decode cX7_open 7 = .ok (.istore_n 1, 1) := by decide +kernel
theorem dX7_open_8 : decode cX7_open 8 = .ok (.iload_n 1, 1) := by decide +kernel
theorem dX7_open_9 : decode cX7_open 9 = .ok (.iconst (-1), 1) := by decide +kernel
set_option maxHeartbeats 4000000 in
set_option maxRecDepth 100000 in
theorem c_T_open (l : Launch) (D : va_G) (κ : ClassId × ClassId × ClassId) (a : Nat → Nat) (sz : Nat) (u : TS)  (q1 : OK u) (q2 : fLastC u (J_count u) ≠ none) : TM l yX7_open cX7_open 2 (some .int) 2 44 D κ a u sz [.ref (a 0)] (QI D κ a sz (fun r u' => r = (oI (fLock (fOpen u ((fLastC u (J_count u)).getD 0)))) ∧ u' = fOpen u ((fLastC u (J_count u)).getD 0))) := by
  refine TM.of (by decide +kernel) (Nat.le_of_ble_eq_true rfl) ?_
  intro p e s m below meth c ls hC hr hk hsz H locs hG hl
  have hx := hC.1
  have hb := hC.2.1
  have hl : lv_has ls 2 [(0, .ref (a 0))] := hl
  have qok := q1
  have ⟨n1, n2, n3, n4, n5, n6, n7, n8, n9, n10⟩ := qok.n
  obtain ⟨en, een⟩ := Option.ne_none_iff_exists'.mp q2
  have k1 := fLastC_lt u _ _ een
  have k2 := fFrees_J 0 u (J_firstLeg u en) q1 (J_legsOf u en)
  have k3 := k2.1.cnt
  refine lv_aload_n hx hb dX7_open_0 rfl (lv_at hl 0 rfl) ?_
  refine gf_T_journal hC hG (hC.2.2.2.2 _ w24) dX7_open_1 ?_
  refine k_J_lastClosing hC hG  (q1) w281 ⟨by decide, by decide⟩ hl.1 (Nat.le_of_ble_eq_true rfl) dX7_open_4 ⟨Nat.zero_le _, Nat.zero_le _⟩ (fun H locs hG => ?_)
  refine lv_istore_n (lv' := [(1, .int (oI (fLastC u (J_count u)))), (0, .ref (a 0))]) hx hb dX7_open_7 rfl hl (by decide) rfl (fun ls hl => ?_)
  refine lv_iload_n hx hb dX7_open_8 rfl (lv_at hl 0 rfl) ?_
  refine lv_iconst (v := -1) hx hb dX7_open_9 (by decide) ?_
  refine bo_ne (tgt := 24) hx hb (by intro j9 e9; have := fLastC_lt u _ _ e9; omega) dX7_open_10 (by decide) (fun h10 => ?_) (fun h10 => (show False from (q2 h10)).elim)
  rw [een] at hl
  have hl : lv_has ls 2 [(1, .int (nI en)), (0, .ref (a 0))] := hl
  refine lv_aload_n hx hb dX7_open_24 rfl (lv_at hl 1 rfl) ?_
  refine gf_T_kept hC hG (hC.2.2.2.2 _ w36) dX7_open_25 ?_
  refine lv_iload_n hx hb dX7_open_28 rfl (lv_at hl 0 rfl) ?_
  refine k_M0_freeLegsOf hC hG en (q1) (k1) w282 ⟨by decide, by decide⟩ hl.1 (Nat.le_of_ble_eq_true rfl) dX7_open_29 ⟨Nat.zero_le _, Nat.zero_le _⟩ (fun H locs hG => ?_)
  refine lv_aload_n hx hb dX7_open_32 rfl (lv_at hl 1 rfl) ?_
  refine gf_T_journal hC hG (hC.2.2.2.2 _ w24) dX7_open_33 ?_
  refine gf_J_gone hC hG (hC.2.2.2.2 _ w259) dX7_open_36 ?_
  refine lv_iload_n hx hb dX7_open_39 rfl (lv_at hl 0 rfl) ?_
  refine lv_iconst (v := nI 1) hx hb dX7_open_40 (by decide) ?_
  refine W.eq (g2 := F0 m 41 ls [.int (bI true), .int (nI en), .ref (a 25)]) rfl ?_
  refine as_J_gone hC hG (by omega) dX7_open_41 (fun H locs hG => ?_)
  refine lv_aload_n hx hb dX7_open_42 rfl (lv_at hl 1 rfl) ?_
  refine gf_T_journal hC hG (hC.2.2.2.2 _ w24) dX7_open_43 ?_
  refine k_J_lastLocked hC hG  (by exact OKg k2.2 en) w175 ⟨by decide, by decide⟩ hl.1 (Nat.le_of_ble_eq_true rfl) dX7_open_46 ⟨Nat.zero_le _, Nat.zero_le _⟩ (fun H locs hG => ?_)
  exact te_i (v := (oI (fLock (sAB (fFrees 0 u (J_firstLeg u en) (J_legsOf u en)) 1 en true)))) hC hG hr hk ⟨(congrArg oI (show (fLock (sAB (fFrees 0 u (J_firstLeg u en) (J_legsOf u en)) 1 en true)) = fLock (fOpen u ((fLastC u (J_count u)).getD 0)) from by rw [een]; rfl)), (by rw [een]; rfl)⟩ dX7_open_49
theorem k_T_open {p : Program} {l : Launch} {e : Env} {R : Room} {s : State} {m : MethodId} {args : Array Value} {below : List Frame} {meth : Method} {c : Code} {H : Heap} {locs : List Loc} {cs ss : Nat} {Q : State → Prop} {cc : ByteArray} {nL pc : Nat} {ls : Array Slot} {rest : List Value} {own : String} {idx : Nat} {D : va_G} {κ : ClassId × ClassId × ClassId} {a : Nat → Nat} {u : TS} {A : Nat → Prop} (hC : CallFix p m c cc nL s args WALL own) (hG : GW D κ a u A s H locs)  (q1 : OK u) (q2 : fLastC u (J_count u) ≠ none) (wl : Cond.methodLink own idx yX7_open ∈ WALL) (hR : 2 + 1 ≤ R.frames ∧ 8 + (2 + 11) + 44 ≤ R.locals) (hls : ls.size = nL) (h8 : (rest.map fun v => v.category).sum ≤ 8) (hd : decode cc pc = .ok (.invokevirtual idx, 3)) (hcs : cs ≤ R.cells ∧ ss ≤ R.slots) (kk : ∀ (H1 : Heap) (locs1 : List Loc), GW D κ a (fOpen u ((fLastC u (J_count u)).getD 0)) A s H1 locs1 → W p l e R s m args below meth c H1 locs1 cs ss Q (F0 m (pc + 3) ls (.int (oI (fLock (fOpen u ((fLastC u (J_count u)).getD 0)))) :: rest))) : W p l e R s m args below meth c H locs cs ss Q (F0 m pc ls (.ref (a 0) :: rest)) :=
  tc_i hG (tr_V (n := 0) (k := 0) (ci := 7) (As := []) hC hG (c_T_open l D κ a H.size u  q1 q2) rfl rfl wl w2 w280 w278 w279 (by decide +kernel) hR rfl hls rfl h8 hd hcs) (fun r u' H1 locs1 hq hG1 => by obtain ⟨rfl, rfl⟩ := hq; exact kk H1 locs1 hG1)

theorem dX7_mixAccount_0 : decode cX7_mixAccount 0 = .ok (.lload_n 1, 1) := by decide +kernel
theorem dX7_mixAccount_1 : decode cX7_mixAccount 1 = .ok (.lstore 4, 2) := by decide +kernel
theorem dX7_mixAccount_12 : decode cX7_mixAccount 12 = .ok (.lload 4, 2) := by decide +kernel
theorem dX7_mixAccount_14 : decode cX7_mixAccount 14 = .ok (.aload_n 0, 1) := by decide +kernel
theorem dX7_mixAccount_15 : decode cX7_mixAccount 15 = .ok (.iload_n 3, 1) := by decide +kernel
theorem dX7_mixAccount_16 : decode cX7_mixAccount 16 = .ok (.iload 6, 2) := by decide +kernel
theorem dX7_mixAccount_18 : decode cX7_mixAccount 18 = .ok (.invokevirtual 392, 3) := by decide +kernel
theorem dX7_mixAccount_21 : decode cX7_mixAccount 21 = .ok (.invokestatic 369, 3) := by decide +kernel
theorem dX7_mixAccount_24 : decode cX7_mixAccount 24 = .ok (.lstore 4, 2) := by decide +kernel
theorem dX7_mixAccount_26 : decode cX7_mixAccount 26 = .ok (.iinc 6 1, 3) := by decide +kernel
theorem dX7_mixAccount_29 : decode cX7_mixAccount 29 = .ok (.goto (-23), 3) := by decide +kernel
theorem dX7_mixAccount_3 : decode cX7_mixAccount 3 = .ok (.iconst 0, 1) := by decide +kernel
theorem dX7_mixAccount_32 : decode cX7_mixAccount 32 = .ok (.iconst 0, 1) := by decide +kernel
theorem dX7_mixAccount_33 : decode cX7_mixAccount 33 = .ok (.istore 6, 2) := by decide +kernel
theorem dX7_mixAccount_35 : decode cX7_mixAccount 35 = .ok (.iload 6, 2) := by decide +kernel
theorem dX7_mixAccount_37 : decode cX7_mixAccount 37 = .ok (.iconst 4, 1) := by decide +kernel
theorem dX7_mixAccount_38 : decode cX7_mixAccount 38 = .ok (.if_icmp .gt 23, 3) := by decide +kernel
theorem dX7_mixAccount_4 : decode cX7_mixAccount 4 = .ok (.istore 6, 2) := by decide +kernel
theorem dX7_mixAccount_41 : decode cX7_mixAccount 41 = .ok (.lload 4, 2) := by decide +kernel
theorem dX7_mixAccount_43 : decode cX7_mixAccount 43 = .ok (.aload_n 0, 1) := by decide +kernel
theorem dX7_mixAccount_44 : decode cX7_mixAccount 44 = .ok (.iload_n 3, 1) := by decide +kernel
theorem dX7_mixAccount_45 : decode cX7_mixAccount 45 = .ok (.iload 6, 2) := by decide +kernel
theorem dX7_mixAccount_47 : decode cX7_mixAccount 47 = .ok (.invokevirtual 395, 3) := by decide +kernel
theorem dX7_mixAccount_50 : decode cX7_mixAccount 50 = .ok (.invokestatic 369, 3) := by decide +kernel
theorem dX7_mixAccount_53 : decode cX7_mixAccount 53 = .ok (.lstore 4, 2) := by decide +kernel
theorem dX7_mixAccount_55 : decode cX7_mixAccount 55 = .ok (.iinc 6 1, 3) := by decide +kernel
theorem dX7_mixAccount_58 : decode cX7_mixAccount 58 = .ok (.goto (-23), 3) := by decide +kernel
theorem dX7_mixAccount_6 : decode cX7_mixAccount 6 = .ok (.iload 6, 2) := by decide +kernel
theorem dX7_mixAccount_61 : decode cX7_mixAccount 61 = .ok (.lload 4, 2) := by decide +kernel
theorem dX7_mixAccount_63 : decode cX7_mixAccount 63 = .ok (.aload_n 0, 1) := by decide +kernel
theorem dX7_mixAccount_64 : decode cX7_mixAccount 64 = .ok (.getfield 53, 3) := by decide +kernel
theorem dX7_mixAccount_67 : decode cX7_mixAccount 67 = .ok (.iload_n 3, 1) := by decide +kernel
theorem dX7_mixAccount_68 : decode cX7_mixAccount 68 = .ok (.iconst 3, 1) := by decide +kernel
theorem dX7_mixAccount_69 : decode cX7_mixAccount 69 = .ok (.invokevirtual 308, 3) := by decide +kernel
theorem dX7_mixAccount_72 : decode cX7_mixAccount 72 = .ok (.i2l, 1) := by decide +kernel
theorem dX7_mixAccount_73 : decode cX7_mixAccount 73 = .ok (.invokestatic 369, 3) := by decide +kernel
theorem dX7_mixAccount_76 : decode cX7_mixAccount 76 = .ok (.lreturn, 1) := by decide +kernel
theorem dX7_mixAccount_8 : decode cX7_mixAccount 8 = .ok (.iconst 4, 1) := by decide +kernel
theorem dX7_mixAccount_9 : decode cX7_mixAccount 9 = .ok (.if_icmp .gt 23, 3) := by decide +kernel
set_option maxHeartbeats 4000000 in
set_option maxRecDepth 100000 in
theorem c_T_mixAccount (l : Launch) (D : va_G) (κ : ClassId × ClassId × ClassId) (a : Nat → Nat) (sz : Nat) (u : TS) (d0 : Int64) (k : Nat) (q1 : OK u) (q2 : k < AC_count u) : TM l yX7_mixAccount cX7_mixAccount 7 (some .long) 5 115 D κ a u sz [.ref (a 0), .long d0, .int (nI k)] (QL D κ a sz (fun r u' => r = (fMixA u d0 k) ∧ u' = fPair 1 u k 3)) := by
  refine TM.of (by decide +kernel) (Nat.le_of_ble_eq_true rfl) ?_
  intro p e s m below meth c ls hC hr hk hsz H locs hG hl
  have hx := hC.1
  have hb := hC.2.1
  have hl : lv_has ls 7 [(0, .ref (a 0)), (1, .long d0), (3, .int (nI k))] := hl
  have qok := q1
  have ⟨n1, n2, n3, n4, n5, n6, n7, n8, n9, n10⟩ := qok.n
  refine lv_lload_n hx hb dX7_mixAccount_0 rfl (lv_at hl 1 rfl) ?_
  refine lv_lstore (lv' := [(4, .long d0), (0, .ref (a 0)), (1, .long d0), (3, .int (nI k))]) hx hb dX7_mixAccount_1 hl (by decide) rfl (fun ls hl => ?_)
  refine lv_iconst (v := nI 0) hx hb dX7_mixAccount_3 (by decide) ?_
  refine lv_istore (lv' := [(6, .int (nI 0)), (4, .long d0), (0, .ref (a 0)), (1, .long d0), (3, .int (nI k))]) hx hb dX7_mixAccount_4 hl (by decide) rfl (fun ls hl => ?_)
  have lp6 : ∀ (n : Nat) (i : Nat), 5 - i < n → (i ≤ 5) → ∀ (H : Heap) (locs : List Loc), GW D κ a u (AA a sz) s H locs → ∀ ls : Array Slot, lv_has ls 7 [(6, .int (nI i)), (4, .long (fF (fTold u k) d0 i)), (0, .ref (a 0)), (1, .long d0), (3, .int (nI k))] → W p l e { frames := 5, cells := 0, slots := 0, locals := 115 } s m [.ref (a 0), .long d0, .int (nI k)].toArray below meth c H locs 0 0 (MQ below (QL D κ a sz (fun r u' => r = (fMixA u d0 k) ∧ u' = fPair 1 u k 3)) [.ref (a 0), .long d0, .int (nI k)].toArray s 0 0 (AA a sz)) (F0 m 6 ls []) := by
    intro n
    induction n with
    | zero =>
      intro i hm
      exact absurd hm (Nat.not_lt_zero _)
    | succ n ih6 =>
      intro i hm6 c6_1 H locs hG ls hl
      refine lv_iload hx hb dX7_mixAccount_6 (lv_at hl 0 rfl) ?_
      refine lv_iconst (v := nI 4) hx hb dX7_mixAccount_8 (by decide) ?_
      refine bn_gt (tgt := 32) hx hb (by omega) (by omega) dX7_mixAccount_9 (by decide) (fun h9 => ?_) (fun h9 => ?_)
      · refine lv_iconst (v := nI 0) hx hb dX7_mixAccount_32 (by decide) ?_
        refine lv_istore (lv' := [(6, .int (nI 0)), (4, .long (fF (fTold u k) d0 i)), (0, .ref (a 0)), (1, .long d0), (3, .int (nI k))]) hx hb dX7_mixAccount_33 hl (by decide) rfl (fun ls hl => ?_)
        have lp35 : ∀ (n : Nat) (i : Nat), 5 - i < n → (i ≤ 5) → ∀ (H : Heap) (locs : List Loc), GW D κ a u (AA a sz) s H locs → ∀ ls : Array Slot, lv_has ls 7 [(6, .int (nI i)), (4, .long (fF (fLeft u k) (fF (fTold u k) d0 5) i)), (0, .ref (a 0)), (1, .long d0), (3, .int (nI k))] → W p l e { frames := 5, cells := 0, slots := 0, locals := 115 } s m [.ref (a 0), .long d0, .int (nI k)].toArray below meth c H locs 0 0 (MQ below (QL D κ a sz (fun r u' => r = (fMixA u d0 k) ∧ u' = fPair 1 u k 3)) [.ref (a 0), .long d0, .int (nI k)].toArray s 0 0 (AA a sz)) (F0 m 35 ls []) := by
          intro n
          induction n with
          | zero =>
            intro i hm
            exact absurd hm (Nat.not_lt_zero _)
          | succ n ih35 =>
            intro i hm35 c35_1 H locs hG ls hl
            refine lv_iload hx hb dX7_mixAccount_35 (lv_at hl 0 rfl) ?_
            refine lv_iconst (v := nI 4) hx hb dX7_mixAccount_37 (by decide) ?_
            refine bn_gt (tgt := 61) hx hb (by omega) (by omega) dX7_mixAccount_38 (by decide) (fun h38 => ?_) (fun h38 => ?_)
            · refine lv_lload hx hb dX7_mixAccount_61 (lv_at hl 1 rfl) ?_
              refine lv_aload_n hx hb dX7_mixAccount_63 rfl (lv_at hl 2 rfl) ?_
              refine gf_T_trial hC hG (hC.2.2.2.2 _ w37) dX7_mixAccount_64 ?_
              refine lv_iload_n hx hb dX7_mixAccount_67 rfl (lv_at hl 4 rfl) ?_
              refine lv_iconst (v := nI 3) hx hb dX7_mixAccount_68 (by decide) ?_
              refine k_M1_pairUp hC hG k 3 (q1) (by omega) (by omega) w316 ⟨by decide, by decide⟩ hl.1 (Nat.le_of_ble_eq_true rfl) dX7_mixAccount_69 ⟨Nat.zero_le _, Nat.zero_le _⟩ (fun H locs hG => ?_)
              refine lv_i2l hx hb dX7_mixAccount_72 rfl ?_
              refine k_S_mix hC hG (fF (fLeft u k) (fF (fTold u k) d0 5) i) ((nI (fPairN 1 u k 3)).toInt64)  w477 ⟨by decide, by decide⟩ hl.1 (Nat.le_of_ble_eq_true rfl) dX7_mixAccount_73 ⟨Nat.zero_le _, Nat.zero_le _⟩ (fun H locs hG => ?_)
              exact te_l hC hG hr hk ⟨(show ((fF (fLeft u k) (fF (fTold u k) d0 5) i) * 31 + ((nI (fPairN 1 u k 3)).toInt64)) = fMixA u d0 k from by unfold fMixA; rw [show i = 5 by omega]), rfl⟩ dX7_mixAccount_76
            · refine lv_lload hx hb dX7_mixAccount_41 (lv_at hl 1 rfl) ?_
              refine lv_aload_n hx hb dX7_mixAccount_43 rfl (lv_at hl 2 rfl) ?_
              refine lv_iload_n hx hb dX7_mixAccount_44 rfl (lv_at hl 4 rfl) ?_
              refine lv_iload hx hb dX7_mixAccount_45 (lv_at hl 0 rfl) ?_
              refine k_T_left hC hG k i (q1) (q2) (by omega) w497 ⟨by decide, by decide⟩ hl.1 (Nat.le_of_ble_eq_true rfl) dX7_mixAccount_47 ⟨Nat.zero_le _, Nat.zero_le _⟩ (fun H locs hG => ?_)
              refine k_S_mix hC hG (fF (fLeft u k) (fF (fTold u k) d0 5) i) (fLeft u k i)  w477 ⟨by decide, by decide⟩ hl.1 (Nat.le_of_ble_eq_true rfl) dX7_mixAccount_50 ⟨Nat.zero_le _, Nat.zero_le _⟩ (fun H locs hG => ?_)
              refine lv_lstore (lv' := [(4, .long ((fF (fLeft u k) (fF (fTold u k) d0 5) i) * 31 + (fLeft u k i))), (6, .int (nI i)), (0, .ref (a 0)), (1, .long d0), (3, .int (nI k))]) hx hb dX7_mixAccount_53 hl (by decide) rfl (fun ls hl => ?_)
              refine lv_iinc (v := (nI (i + 1))) (lv' := [(6, .int (nI (i + 1))), (4, .long ((fF (fLeft u k) (fF (fTold u k) d0 5) i) * 31 + (fLeft u k i))), (0, .ref (a 0)), (1, .long d0), (3, .int (nI k))]) hx hb dX7_mixAccount_55 hl (k := 1) rfl (nI_1 _) (by decide) rfl (fun ls hl => ?_)
              refine lv_goto (tgt := 35) hx hb dX7_mixAccount_58 (by decide) ?_
              have e35_1 : fF (fLeft u k) (fF (fTold u k) d0 5) (i + 1) = ((fF (fLeft u k) (fF (fTold u k) d0 5) i) * 31 + (fLeft u k i)) := by rfl
              have hl : lv_has ls 7 [(6, .int (nI (i + 1))), (4, .long (fF (fLeft u k) (fF (fTold u k) d0 5) (i + 1))), (0, .ref (a 0)), (1, .long d0), (3, .int (nI k))] := by rw [e35_1]; exact hl
              exact ih35  (i + 1) (by omega) (by omega) H locs hG ls (lv_sub hl [0, 1, 2, 3, 4] rfl)
        have e35_2 : fF (fLeft u k) (fF (fTold u k) d0 5) 0 = fF (fTold u k) d0 i := by rw [show i = 5 by omega]; rfl
        have hl : lv_has ls 7 [(6, .int (nI 0)), (4, .long (fF (fLeft u k) (fF (fTold u k) d0 5) 0)), (0, .ref (a 0)), (1, .long d0), (3, .int (nI k))] := by rw [e35_2]; exact hl
        exact lp35 _ 0 (Nat.lt_succ_self _) (by omega) H locs hG ls (lv_sub hl [0, 1, 2, 3, 4] rfl)
      · refine lv_lload hx hb dX7_mixAccount_12 (lv_at hl 1 rfl) ?_
        refine lv_aload_n hx hb dX7_mixAccount_14 rfl (lv_at hl 2 rfl) ?_
        refine lv_iload_n hx hb dX7_mixAccount_15 rfl (lv_at hl 4 rfl) ?_
        refine lv_iload hx hb dX7_mixAccount_16 (lv_at hl 0 rfl) ?_
        refine k_T_told hC hG k i (q1) (q2) (by omega) w485 ⟨by decide, by decide⟩ hl.1 (Nat.le_of_ble_eq_true rfl) dX7_mixAccount_18 ⟨Nat.zero_le _, Nat.zero_le _⟩ (fun H locs hG => ?_)
        refine k_S_mix hC hG (fF (fTold u k) d0 i) (fTold u k i)  w477 ⟨by decide, by decide⟩ hl.1 (Nat.le_of_ble_eq_true rfl) dX7_mixAccount_21 ⟨Nat.zero_le _, Nat.zero_le _⟩ (fun H locs hG => ?_)
        refine lv_lstore (lv' := [(4, .long ((fF (fTold u k) d0 i) * 31 + (fTold u k i))), (6, .int (nI i)), (0, .ref (a 0)), (1, .long d0), (3, .int (nI k))]) hx hb dX7_mixAccount_24 hl (by decide) rfl (fun ls hl => ?_)
        refine lv_iinc (v := (nI (i + 1))) (lv' := [(6, .int (nI (i + 1))), (4, .long ((fF (fTold u k) d0 i) * 31 + (fTold u k i))), (0, .ref (a 0)), (1, .long d0), (3, .int (nI k))]) hx hb dX7_mixAccount_26 hl (k := 1) rfl (nI_1 _) (by decide) rfl (fun ls hl => ?_)
        refine lv_goto (tgt := 6) hx hb dX7_mixAccount_29 (by decide) ?_
        have e6_3 : fF (fTold u k) d0 (i + 1) = ((fF (fTold u k) d0 i) * 31 + (fTold u k i)) := by rfl
        have hl : lv_has ls 7 [(6, .int (nI (i + 1))), (4, .long (fF (fTold u k) d0 (i + 1))), (0, .ref (a 0)), (1, .long d0), (3, .int (nI k))] := by rw [e6_3]; exact hl
        exact ih6  (i + 1) (by omega) (by omega) H locs hG ls (lv_sub hl [0, 1, 2, 3, 4] rfl)
  have e6_4 : fF (fTold u k) d0 0 = d0 := by rfl
  have hl : lv_has ls 7 [(6, .int (nI 0)), (4, .long (fF (fTold u k) d0 0)), (0, .ref (a 0)), (1, .long d0), (3, .int (nI k))] := by rw [e6_4]; exact hl
  exact lp6 _ 0 (Nat.lt_succ_self _) (by omega) H locs hG ls (lv_sub hl [0, 1, 2, 3, 4] rfl)
theorem k_T_mixAccount {p : Program} {l : Launch} {e : Env} {R : Room} {s : State} {m : MethodId} {args : Array Value} {below : List Frame} {meth : Method} {c : Code} {H : Heap} {locs : List Loc} {cs ss : Nat} {Q : State → Prop} {cc : ByteArray} {nL pc : Nat} {ls : Array Slot} {rest : List Value} {own : String} {idx : Nat} {D : va_G} {κ : ClassId × ClassId × ClassId} {a : Nat → Nat} {u : TS} {A : Nat → Prop} (hC : CallFix p m c cc nL s args WALL own) (hG : GW D κ a u A s H locs) (d0 : Int64) (k : Nat) (q1 : OK u) (q2 : k < AC_count u) (wl : Cond.methodLink own idx yX7_mixAccount ∈ WALL) (hR : 5 + 1 ≤ R.frames ∧ 8 + (7 + 11) + 115 ≤ R.locals) (hls : ls.size = nL) (h8 : (rest.map fun v => v.category).sum ≤ 8) (hd : decode cc pc = .ok (.invokevirtual idx, 3)) (hcs : cs ≤ R.cells ∧ ss ≤ R.slots) (kk : ∀ (H1 : Heap) (locs1 : List Loc), GW D κ a (fPair 1 u k 3) A s H1 locs1 → W p l e R s m args below meth c H1 locs1 cs ss Q (F0 m (pc + 3) ls (.long (fMixA u d0 k) :: rest))) : W p l e R s m args below meth c H locs cs ss Q (F0 m pc ls (.int (nI k) :: .long d0 :: .ref (a 0) :: rest)) :=
  tc_l hG (tr_V (n := 2) (k := 0) (ci := 7) (As := [.long d0, .int (nI k)]) hC hG (c_T_mixAccount l D κ a H.size u d0 k q1 q2) rfl rfl wl w2 w484 w482 w483 (by decide +kernel) hR rfl hls rfl h8 hd hcs) (fun r u' H1 locs1 hq hG1 => by obtain ⟨rfl, rfl⟩ := hq; exact kk H1 locs1 hG1)

theorem dX7_mixEntry_0 : decode cX7_mixEntry 0 = .ok (.lload_n 1, 1) := by decide +kernel
theorem dX7_mixEntry_1 : decode cX7_mixEntry 1 = .ok (.lstore 4, 2) := by decide +kernel
theorem dX7_mixEntry_12 : decode cX7_mixEntry 12 = .ok (.lload 4, 2) := by decide +kernel
theorem dX7_mixEntry_14 : decode cX7_mixEntry 14 = .ok (.aload_n 0, 1) := by decide +kernel
theorem dX7_mixEntry_15 : decode cX7_mixEntry 15 = .ok (.iload_n 3, 1) := by decide +kernel
theorem dX7_mixEntry_16 : decode cX7_mixEntry 16 = .ok (.iload 6, 2) := by decide +kernel
theorem dX7_mixEntry_18 : decode cX7_mixEntry 18 = .ok (.invokevirtual 398, 3) := by decide +kernel
theorem dX7_mixEntry_21 : decode cX7_mixEntry 21 = .ok (.i2l, 1) := by decide +kernel
theorem dX7_mixEntry_22 : decode cX7_mixEntry 22 = .ok (.invokestatic 369, 3) := by decide +kernel
theorem dX7_mixEntry_25 : decode cX7_mixEntry 25 = .ok (.lstore 4, 2) := by decide +kernel
theorem dX7_mixEntry_27 : decode cX7_mixEntry 27 = .ok (.iinc 6 1, 3) := by decide +kernel
theorem dX7_mixEntry_3 : decode cX7_mixEntry 3 = .ok (.iconst 0, 1) := by decide +kernel
theorem dX7_mixEntry_30 : decode cX7_mixEntry 30 = .ok (.goto (-24), 3) := by decide +kernel
theorem dX7_mixEntry_33 : decode cX7_mixEntry 33 = .ok (.iconst 0, 1) := by decide +kernel
theorem dX7_mixEntry_34 : decode cX7_mixEntry 34 = .ok (.istore 6, 2) := by decide +kernel
theorem dX7_mixEntry_36 : decode cX7_mixEntry 36 = .ok (.iload 6, 2) := by decide +kernel
theorem dX7_mixEntry_38 : decode cX7_mixEntry 38 = .ok (.aload_n 0, 1) := by decide +kernel
theorem dX7_mixEntry_39 : decode cX7_mixEntry 39 = .ok (.getfield 26, 3) := by decide +kernel
theorem dX7_mixEntry_4 : decode cX7_mixEntry 4 = .ok (.istore 6, 2) := by decide +kernel
theorem dX7_mixEntry_42 : decode cX7_mixEntry 42 = .ok (.getfield 217, 3) := by decide +kernel
theorem dX7_mixEntry_45 : decode cX7_mixEntry 45 = .ok (.iload_n 3, 1) := by decide +kernel
theorem dX7_mixEntry_46 : decode cX7_mixEntry 46 = .ok (.iaload, 1) := by decide +kernel
theorem dX7_mixEntry_47 : decode cX7_mixEntry 47 = .ok (.if_icmp .ge 40, 3) := by decide +kernel
theorem dX7_mixEntry_50 : decode cX7_mixEntry 50 = .ok (.iconst 0, 1) := by decide +kernel
theorem dX7_mixEntry_51 : decode cX7_mixEntry 51 = .ok (.istore 7, 2) := by decide +kernel
theorem dX7_mixEntry_53 : decode cX7_mixEntry 53 = .ok (.iload 7, 2) := by decide +kernel
theorem dX7_mixEntry_55 : decode cX7_mixEntry 55 = .ok (.iconst 3, 1) := by decide +kernel
theorem dX7_mixEntry_56 : decode cX7_mixEntry 56 = .ok (.if_icmp .gt 25, 3) := by decide +kernel
theorem dX7_mixEntry_59 : decode cX7_mixEntry 59 = .ok (.lload 4, 2) := by decide +kernel
theorem dX7_mixEntry_6 : decode cX7_mixEntry 6 = .ok (.iload 6, 2) := by decide +kernel
theorem dX7_mixEntry_61 : decode cX7_mixEntry 61 = .ok (.aload_n 0, 1) := by decide +kernel
theorem dX7_mixEntry_62 : decode cX7_mixEntry 62 = .ok (.iload_n 3, 1) := by decide +kernel
theorem dX7_mixEntry_63 : decode cX7_mixEntry 63 = .ok (.iload 6, 2) := by decide +kernel
theorem dX7_mixEntry_65 : decode cX7_mixEntry 65 = .ok (.iload 7, 2) := by decide +kernel
theorem dX7_mixEntry_67 : decode cX7_mixEntry 67 = .ok (.invokevirtual 401, 3) := by decide +kernel
theorem dX7_mixEntry_70 : decode cX7_mixEntry 70 = .ok (.invokestatic 369, 3) := by decide +kernel
theorem dX7_mixEntry_73 : decode cX7_mixEntry 73 = .ok (.lstore 4, 2) := by decide +kernel
theorem dX7_mixEntry_75 : decode cX7_mixEntry 75 = .ok (.iinc 7 1, 3) := by decide +kernel
theorem dX7_mixEntry_78 : decode cX7_mixEntry 78 = .ok (.goto (-25), 3) := by decide +kernel
theorem dX7_mixEntry_8 : decode cX7_mixEntry 8 = .ok (.iconst 3, 1) := by decide +kernel
theorem dX7_mixEntry_81 : decode cX7_mixEntry 81 = .ok (.iinc 6 1, 3) := by decide +kernel
theorem dX7_mixEntry_84 : decode cX7_mixEntry 84 = .ok (.goto (-48), 3) := by decide +kernel
theorem dX7_mixEntry_87 : decode cX7_mixEntry 87 = .ok (.lload 4, 2) := by decide +kernel
theorem dX7_mixEntry_89 : decode cX7_mixEntry 89 = .ok (.lreturn, 1) := by decide +kernel
theorem dX7_mixEntry_9 : decode cX7_mixEntry 9 = .ok (.if_icmp .gt 24, 3) := by decide +kernel
set_option maxHeartbeats 4000000 in
set_option maxRecDepth 100000 in
theorem c_T_mixEntry (l : Launch) (D : va_G) (κ : ClassId × ClassId × ClassId) (a : Nat → Nat) (sz : Nat) (u : TS) (d0 : Int64) (en : Nat) (q1 : OK u) (q2 : en < J_count u) : TM l yX7_mixEntry cX7_mixEntry 8 (some .long) 3 66 D κ a u sz [.ref (a 0), .long d0, .int (nI en)] (QL D κ a sz (fun r u' => r = (fMixE u d0 en (J_legsOf u en)) ∧ u' = u)) := by
  refine TM.of (by decide +kernel) (Nat.le_of_ble_eq_true rfl) ?_
  intro p e s m below meth c ls hC hr hk hsz H locs hG hl
  have hx := hC.1
  have hb := hC.2.1
  have hl : lv_has ls 8 [(0, .ref (a 0)), (1, .long d0), (3, .int (nI en))] := hl
  have qok := q1
  have ⟨n1, n2, n3, n4, n5, n6, n7, n8, n9, n10⟩ := qok.n
  have k1 := q1.ent q2
  refine lv_lload_n hx hb dX7_mixEntry_0 rfl (lv_at hl 1 rfl) ?_
  refine lv_lstore (lv' := [(4, .long d0), (0, .ref (a 0)), (1, .long d0), (3, .int (nI en))]) hx hb dX7_mixEntry_1 hl (by decide) rfl (fun ls hl => ?_)
  refine lv_iconst (v := nI 0) hx hb dX7_mixEntry_3 (by decide) ?_
  refine lv_istore (lv' := [(6, .int (nI 0)), (4, .long d0), (0, .ref (a 0)), (1, .long d0), (3, .int (nI en))]) hx hb dX7_mixEntry_4 hl (by decide) rfl (fun ls hl => ?_)
  have lp6 : ∀ (n : Nat) (i : Nat), 4 - i < n → (i ≤ 4) → ∀ (H : Heap) (locs : List Loc), GW D κ a u (AA a sz) s H locs → ∀ ls : Array Slot, lv_has ls 8 [(6, .int (nI i)), (4, .long (fF (fun w => (nI (fOfE u en w)).toInt64) d0 i)), (0, .ref (a 0)), (1, .long d0), (3, .int (nI en))] → W p l e { frames := 3, cells := 0, slots := 0, locals := 66 } s m [.ref (a 0), .long d0, .int (nI en)].toArray below meth c H locs 0 0 (MQ below (QL D κ a sz (fun r u' => r = (fMixE u d0 en (J_legsOf u en)) ∧ u' = u)) [.ref (a 0), .long d0, .int (nI en)].toArray s 0 0 (AA a sz)) (F0 m 6 ls []) := by
    intro n
    induction n with
    | zero =>
      intro i hm
      exact absurd hm (Nat.not_lt_zero _)
    | succ n ih6 =>
      intro i hm6 c6_1 H locs hG ls hl
      refine lv_iload hx hb dX7_mixEntry_6 (lv_at hl 0 rfl) ?_
      refine lv_iconst (v := nI 3) hx hb dX7_mixEntry_8 (by decide) ?_
      refine bn_gt (tgt := 33) hx hb (by omega) (by omega) dX7_mixEntry_9 (by decide) (fun h9 => ?_) (fun h9 => ?_)
      · refine lv_iconst (v := nI 0) hx hb dX7_mixEntry_33 (by decide) ?_
        refine lv_istore (lv' := [(6, .int (nI 0)), (4, .long (fF (fun w => (nI (fOfE u en w)).toInt64) d0 i)), (0, .ref (a 0)), (1, .long d0), (3, .int (nI en))]) hx hb dX7_mixEntry_34 hl (by decide) rfl (fun ls hl => ?_)
        have lp36 : ∀ (n : Nat) (i : Nat), J_legsOf u en - i < n → (i ≤ J_legsOf u en) → ∀ (H : Heap) (locs : List Loc), GW D κ a u (AA a sz) s H locs → ∀ ls : Array Slot, lv_has ls 8 [(6, .int (nI i)), (4, .long (fMixE u d0 en i)), (0, .ref (a 0)), (1, .long d0), (3, .int (nI en))] → W p l e { frames := 3, cells := 0, slots := 0, locals := 66 } s m [.ref (a 0), .long d0, .int (nI en)].toArray below meth c H locs 0 0 (MQ below (QL D κ a sz (fun r u' => r = (fMixE u d0 en (J_legsOf u en)) ∧ u' = u)) [.ref (a 0), .long d0, .int (nI en)].toArray s 0 0 (AA a sz)) (F0 m 36 ls []) := by
          intro n
          induction n with
          | zero =>
            intro i hm
            exact absurd hm (Nat.not_lt_zero _)
          | succ n ih36 =>
            intro i hm36 c36_1 H locs hG ls hl
            refine lv_iload hx hb dX7_mixEntry_36 (lv_at hl 0 rfl) ?_
            refine lv_aload_n hx hb dX7_mixEntry_38 rfl (lv_at hl 2 rfl) ?_
            refine gf_T_journal hC hG (hC.2.2.2.2 _ w24) dX7_mixEntry_39 ?_
            refine gf_J_legsOf hC hG (hC.2.2.2.2 _ w258) dX7_mixEntry_42 ?_
            refine lv_iload_n hx hb dX7_mixEntry_45 rfl (lv_at hl 4 rfl) ?_
            refine al_J_legsOf hC hG (by omega) dX7_mixEntry_46 ?_
            refine bn_ge (tgt := 87) hx hb (by omega) (by omega) dX7_mixEntry_47 (by decide) (fun h47 => ?_) (fun h47 => ?_)
            · refine lv_lload hx hb dX7_mixEntry_87 (lv_at hl 1 rfl) ?_
              have hi : i = J_legsOf u en := by omega
              exact te_l hC hG hr hk ⟨(show fMixE u d0 en i = fMixE u d0 en (J_legsOf u en) from by rw [hi]), rfl⟩ dX7_mixEntry_89
            · refine lv_iconst (v := nI 0) hx hb dX7_mixEntry_50 (by decide) ?_
              refine lv_istore (lv' := [(7, .int (nI 0)), (6, .int (nI i)), (4, .long (fMixE u d0 en i)), (0, .ref (a 0)), (1, .long d0), (3, .int (nI en))]) hx hb dX7_mixEntry_51 hl (by decide) rfl (fun ls hl => ?_)
              have lp53 : ∀ (n : Nat) (z : Nat), 4 - z < n → (z ≤ 4) → ∀ (H : Heap) (locs : List Loc), GW D κ a u (AA a sz) s H locs → ∀ ls : Array Slot, lv_has ls 8 [(7, .int (nI z)), (6, .int (nI i)), (4, .long (fF (fOfL u en i) (fMixE u d0 en i) z)), (0, .ref (a 0)), (1, .long d0), (3, .int (nI en))] → W p l e { frames := 3, cells := 0, slots := 0, locals := 66 } s m [.ref (a 0), .long d0, .int (nI en)].toArray below meth c H locs 0 0 (MQ below (QL D κ a sz (fun r u' => r = (fMixE u d0 en (J_legsOf u en)) ∧ u' = u)) [.ref (a 0), .long d0, .int (nI en)].toArray s 0 0 (AA a sz)) (F0 m 53 ls []) := by
                intro n
                induction n with
                | zero =>
                  intro z hm
                  exact absurd hm (Nat.not_lt_zero _)
                | succ n ih53 =>
                  intro z hm53 c53_1 H locs hG ls hl
                  refine lv_iload hx hb dX7_mixEntry_53 (lv_at hl 0 rfl) ?_
                  refine lv_iconst (v := nI 3) hx hb dX7_mixEntry_55 (by decide) ?_
                  refine bn_gt (tgt := 81) hx hb (by omega) (by omega) dX7_mixEntry_56 (by decide) (fun h56 => ?_) (fun h56 => ?_)
                  · refine lv_iinc (v := (nI (i + 1))) (lv' := [(6, .int (nI (i + 1))), (7, .int (nI z)), (4, .long (fF (fOfL u en i) (fMixE u d0 en i) z)), (0, .ref (a 0)), (1, .long d0), (3, .int (nI en))]) hx hb dX7_mixEntry_81 hl (k := 1) rfl (nI_1 _) (by decide) rfl (fun ls hl => ?_)
                    refine lv_goto (tgt := 36) hx hb dX7_mixEntry_84 (by decide) ?_
                    have e36_1 : fMixE u d0 en (i + 1) = fF (fOfL u en i) (fMixE u d0 en i) z := by rw [fMixE]; rw [show z = 4 by omega]
                    have hl : lv_has ls 8 [(6, .int (nI (i + 1))), (7, .int (nI z)), (4, .long (fMixE u d0 en (i + 1))), (0, .ref (a 0)), (1, .long d0), (3, .int (nI en))] := by rw [e36_1]; exact hl
                    exact ih36  (i + 1) (by omega) (by omega) H locs hG ls (lv_sub hl [0, 2, 3, 4, 5] rfl)
                  · refine lv_lload hx hb dX7_mixEntry_59 (lv_at hl 2 rfl) ?_
                    refine lv_aload_n hx hb dX7_mixEntry_61 rfl (lv_at hl 3 rfl) ?_
                    refine lv_iload_n hx hb dX7_mixEntry_62 rfl (lv_at hl 5 rfl) ?_
                    refine lv_iload hx hb dX7_mixEntry_63 (lv_at hl 1 rfl) ?_
                    refine lv_iload hx hb dX7_mixEntry_65 (lv_at hl 0 rfl) ?_
                    refine k_T_ofLeg hC hG en i z (q1) (q2) (by omega) (by omega) w503 ⟨by decide, by decide⟩ hl.1 (Nat.le_of_ble_eq_true rfl) dX7_mixEntry_67 ⟨Nat.zero_le _, Nat.zero_le _⟩ (fun H locs hG => ?_)
                    refine k_S_mix hC hG (fF (fOfL u en i) (fMixE u d0 en i) z) (fOfL u en i z)  w477 ⟨by decide, by decide⟩ hl.1 (Nat.le_of_ble_eq_true rfl) dX7_mixEntry_70 ⟨Nat.zero_le _, Nat.zero_le _⟩ (fun H locs hG => ?_)
                    refine lv_lstore (lv' := [(4, .long ((fF (fOfL u en i) (fMixE u d0 en i) z) * 31 + (fOfL u en i z))), (7, .int (nI z)), (6, .int (nI i)), (0, .ref (a 0)), (1, .long d0), (3, .int (nI en))]) hx hb dX7_mixEntry_73 hl (by decide) rfl (fun ls hl => ?_)
                    refine lv_iinc (v := (nI (z + 1))) (lv' := [(7, .int (nI (z + 1))), (4, .long ((fF (fOfL u en i) (fMixE u d0 en i) z) * 31 + (fOfL u en i z))), (6, .int (nI i)), (0, .ref (a 0)), (1, .long d0), (3, .int (nI en))]) hx hb dX7_mixEntry_75 hl (k := 1) rfl (nI_1 _) (by decide) rfl (fun ls hl => ?_)
                    refine lv_goto (tgt := 53) hx hb dX7_mixEntry_78 (by decide) ?_
                    have e53_2 : fF (fOfL u en i) (fMixE u d0 en i) (z + 1) = ((fF (fOfL u en i) (fMixE u d0 en i) z) * 31 + (fOfL u en i z)) := by rfl
                    have hl : lv_has ls 8 [(7, .int (nI (z + 1))), (4, .long (fF (fOfL u en i) (fMixE u d0 en i) (z + 1))), (6, .int (nI i)), (0, .ref (a 0)), (1, .long d0), (3, .int (nI en))] := by rw [e53_2]; exact hl
                    exact ih53  (z + 1) (by omega) (by omega) H locs hG ls (lv_sub hl [0, 2, 1, 3, 4, 5] rfl)
              have e53_3 : fF (fOfL u en i) (fMixE u d0 en i) 0 = fMixE u d0 en i := by rfl
              have hl : lv_has ls 8 [(7, .int (nI 0)), (6, .int (nI i)), (4, .long (fF (fOfL u en i) (fMixE u d0 en i) 0)), (0, .ref (a 0)), (1, .long d0), (3, .int (nI en))] := by rw [e53_3]; exact hl
              exact lp53 _ 0 (Nat.lt_succ_self _) (by omega) H locs hG ls (lv_sub hl [0, 1, 2, 3, 4, 5] rfl)
        have e36_4 : fMixE u d0 en 0 = fF (fun w => (nI (fOfE u en w)).toInt64) d0 i := by unfold fMixE; rw [show i = 4 by omega]
        have hl : lv_has ls 8 [(6, .int (nI 0)), (4, .long (fMixE u d0 en 0)), (0, .ref (a 0)), (1, .long d0), (3, .int (nI en))] := by rw [e36_4]; exact hl
        exact lp36 _ 0 (Nat.lt_succ_self _) (by omega) H locs hG ls (lv_sub hl [0, 1, 2, 3, 4] rfl)
      · refine lv_lload hx hb dX7_mixEntry_12 (lv_at hl 1 rfl) ?_
        refine lv_aload_n hx hb dX7_mixEntry_14 rfl (lv_at hl 2 rfl) ?_
        refine lv_iload_n hx hb dX7_mixEntry_15 rfl (lv_at hl 4 rfl) ?_
        refine lv_iload hx hb dX7_mixEntry_16 (lv_at hl 0 rfl) ?_
        refine k_T_ofEntry hC hG en i (q1) (q2) (by omega) w502 ⟨by decide, by decide⟩ hl.1 (Nat.le_of_ble_eq_true rfl) dX7_mixEntry_18 ⟨Nat.zero_le _, Nat.zero_le _⟩ (fun H locs hG => ?_)
        refine lv_i2l hx hb dX7_mixEntry_21 rfl ?_
        refine k_S_mix hC hG (fF (fun w => (nI (fOfE u en w)).toInt64) d0 i) ((nI (fOfE u en i)).toInt64)  w477 ⟨by decide, by decide⟩ hl.1 (Nat.le_of_ble_eq_true rfl) dX7_mixEntry_22 ⟨Nat.zero_le _, Nat.zero_le _⟩ (fun H locs hG => ?_)
        refine lv_lstore (lv' := [(4, .long ((fF (fun w => (nI (fOfE u en w)).toInt64) d0 i) * 31 + ((nI (fOfE u en i)).toInt64))), (6, .int (nI i)), (0, .ref (a 0)), (1, .long d0), (3, .int (nI en))]) hx hb dX7_mixEntry_25 hl (by decide) rfl (fun ls hl => ?_)
        refine lv_iinc (v := (nI (i + 1))) (lv' := [(6, .int (nI (i + 1))), (4, .long ((fF (fun w => (nI (fOfE u en w)).toInt64) d0 i) * 31 + ((nI (fOfE u en i)).toInt64))), (0, .ref (a 0)), (1, .long d0), (3, .int (nI en))]) hx hb dX7_mixEntry_27 hl (k := 1) rfl (nI_1 _) (by decide) rfl (fun ls hl => ?_)
        refine lv_goto (tgt := 6) hx hb dX7_mixEntry_30 (by decide) ?_
        have e6_5 : fF (fun w => (nI (fOfE u en w)).toInt64) d0 (i + 1) = ((fF (fun w => (nI (fOfE u en w)).toInt64) d0 i) * 31 + ((nI (fOfE u en i)).toInt64)) := by rfl
        have hl : lv_has ls 8 [(6, .int (nI (i + 1))), (4, .long (fF (fun w => (nI (fOfE u en w)).toInt64) d0 (i + 1))), (0, .ref (a 0)), (1, .long d0), (3, .int (nI en))] := by rw [e6_5]; exact hl
        exact ih6  (i + 1) (by omega) (by omega) H locs hG ls (lv_sub hl [0, 1, 2, 3, 4] rfl)
  have e6_6 : fF (fun w => (nI (fOfE u en w)).toInt64) d0 0 = d0 := by rfl
  have hl : lv_has ls 8 [(6, .int (nI 0)), (4, .long (fF (fun w => (nI (fOfE u en w)).toInt64) d0 0)), (0, .ref (a 0)), (1, .long d0), (3, .int (nI en))] := by rw [e6_6]; exact hl
  exact lp6 _ 0 (Nat.lt_succ_self _) (by omega) H locs hG ls (lv_sub hl [0, 1, 2, 3, 4] rfl)
theorem k_T_mixEntry {p : Program} {l : Launch} {e : Env} {R : Room} {s : State} {m : MethodId} {args : Array Value} {below : List Frame} {meth : Method} {c : Code} {H : Heap} {locs : List Loc} {cs ss : Nat} {Q : State → Prop} {cc : ByteArray} {nL pc : Nat} {ls : Array Slot} {rest : List Value} {own : String} {idx : Nat} {D : va_G} {κ : ClassId × ClassId × ClassId} {a : Nat → Nat} {u : TS} {A : Nat → Prop} (hC : CallFix p m c cc nL s args WALL own) (hG : GW D κ a u A s H locs) (d0 : Int64) (en : Nat) (q1 : OK u) (q2 : en < J_count u) (wl : Cond.methodLink own idx yX7_mixEntry ∈ WALL) (hR : 3 + 1 ≤ R.frames ∧ 8 + (8 + 11) + 66 ≤ R.locals) (hls : ls.size = nL) (h8 : (rest.map fun v => v.category).sum ≤ 8) (hd : decode cc pc = .ok (.invokevirtual idx, 3)) (hcs : cs ≤ R.cells ∧ ss ≤ R.slots) (kk : ∀ (H1 : Heap) (locs1 : List Loc), GW D κ a u A s H1 locs1 → W p l e R s m args below meth c H1 locs1 cs ss Q (F0 m (pc + 3) ls (.long (fMixE u d0 en (J_legsOf u en)) :: rest))) : W p l e R s m args below meth c H locs cs ss Q (F0 m pc ls (.int (nI en) :: .long d0 :: .ref (a 0) :: rest)) :=
  tc_l hG (tr_V (n := 2) (k := 0) (ci := 7) (As := [.long d0, .int (nI en)]) hC hG (c_T_mixEntry l D κ a H.size u d0 en q1 q2) rfl rfl wl w2 w501 w499 w500 (by decide +kernel) hR rfl hls rfl h8 hd hcs) (fun r u' H1 locs1 hq hG1 => by obtain ⟨rfl, rfl⟩ := hq; exact kk H1 locs1 hG1)

theorem dX7_digest_0 : decode cX7_digest 0 = .ok (.ldc2_w 364, 3) := by decide +kernel
theorem dX7_digest_100 : decode cX7_digest 100 = .ok (.if_icmp .ge 20, 3) := by decide +kernel
theorem dX7_digest_103 : decode cX7_digest 103 = .ok (.lload_n 1, 1) := by decide +kernel
theorem dX7_digest_104 : decode cX7_digest 104 = .ok (.aload_n 0, 1) := by decide +kernel
theorem dX7_digest_105 : decode cX7_digest 105 = .ok (.iload_n 3, 1) := by decide +kernel
theorem dX7_digest_106 : decode cX7_digest 106 = .ok (.invokevirtual 381, 3) := by decide +kernel
theorem dX7_digest_109 : decode cX7_digest 109 = .ok (.i2l, 1) := by decide +kernel
theorem dX7_digest_11 : decode cX7_digest 11 = .ok (.lload_n 1, 1) := by decide +kernel
theorem dX7_digest_110 : decode cX7_digest 110 = .ok (.invokestatic 369, 3) := by decide +kernel
theorem dX7_digest_113 : decode cX7_digest 113 = .ok (.lstore_n 1, 1) := by decide +kernel
theorem dX7_digest_114 : decode cX7_digest 114 = .ok (.iinc 3 1, 3) := by decide +kernel
theorem dX7_digest_117 : decode cX7_digest 117 = .ok (.goto (-25), 3) := by decide +kernel
theorem dX7_digest_12 : decode cX7_digest 12 = .ok (.aload_n 0, 1) := by decide +kernel
theorem dX7_digest_120 : decode cX7_digest 120 = .ok (.iconst 0, 1) := by decide +kernel
theorem dX7_digest_121 : decode cX7_digest 121 = .ok (.istore_n 3, 1) := by decide +kernel
theorem dX7_digest_122 : decode cX7_digest 122 = .ok (.iload_n 3, 1) := by decide +kernel
theorem dX7_digest_123 : decode cX7_digest 123 = .ok (.iconst 4, 1) := by decide +kernel
theorem dX7_digest_124 : decode cX7_digest 124 = .ok (.if_icmp .gt 19, 3) := by decide +kernel
theorem dX7_digest_127 : decode cX7_digest 127 = .ok (.lload_n 1, 1) := by decide +kernel
theorem dX7_digest_128 : decode cX7_digest 128 = .ok (.aload_n 0, 1) := by decide +kernel
theorem dX7_digest_129 : decode cX7_digest 129 = .ok (.iload_n 3, 1) := by decide +kernel
theorem dX7_digest_13 : decode cX7_digest 13 = .ok (.iload_n 3, 1) := by decide +kernel
theorem dX7_digest_130 : decode cX7_digest 130 = .ok (.invokevirtual 384, 3) := by decide +kernel
theorem dX7_digest_133 : decode cX7_digest 133 = .ok (.invokestatic 369, 3) := by decide +kernel
theorem dX7_digest_136 : decode cX7_digest 136 = .ok (.lstore_n 1, 1) := by decide +kernel
theorem dX7_digest_137 : decode cX7_digest 137 = .ok (.iinc 3 1, 3) := by decide +kernel
theorem dX7_digest_14 : decode cX7_digest 14 = .ok (.invokevirtual 366, 3) := by decide +kernel
theorem dX7_digest_140 : decode cX7_digest 140 = .ok (.goto (-18), 3) := by decide +kernel
theorem dX7_digest_143 : decode cX7_digest 143 = .ok (.lload_n 1, 1) := by decide +kernel
theorem dX7_digest_144 : decode cX7_digest 144 = .ok (.aload_n 0, 1) := by decide +kernel
theorem dX7_digest_145 : decode cX7_digest 145 = .ok (.aload_n 0, 1) := by decide +kernel
theorem dX7_digest_146 : decode cX7_digest 146 = .ok (.getfield 67, 3) := by decide +kernel
theorem dX7_digest_149 : decode cX7_digest 149 = .ok (.invokevirtual 387, 3) := by decide +kernel
theorem dX7_digest_152 : decode cX7_digest 152 = .ok (.invokestatic 369, 3) := by decide +kernel
theorem dX7_digest_155 : decode cX7_digest 155 = .ok (.lreturn, 1) := by decide +kernel
theorem dX7_digest_17 : decode cX7_digest 17 = .ok (.i2l, 1) := by decide +kernel
theorem dX7_digest_18 : decode cX7_digest 18 = .ok (.invokestatic 369, 3) := by decide +kernel
theorem dX7_digest_21 : decode cX7_digest 21 = .ok (.lstore_n 1, 1) := by decide +kernel
theorem dX7_digest_22 : decode cX7_digest 22 = .ok (.iinc 3 1, 3) := by decide +kernel
theorem dX7_digest_25 : decode cX7_digest 25 = .ok (.goto (-19), 3) := by decide +kernel
theorem dX7_digest_28 : decode cX7_digest 28 = .ok (.lload_n 1, 1) := by decide +kernel
theorem dX7_digest_29 : decode cX7_digest 29 = .ok (.aload_n 0, 1) := by decide +kernel
theorem dX7_digest_3 : decode cX7_digest 3 = .ok (.lstore_n 1, 1) := by decide +kernel
theorem dX7_digest_30 : decode cX7_digest 30 = .ok (.invokevirtual 166, 3) := by decide +kernel
theorem dX7_digest_33 : decode cX7_digest 33 = .ok (.i2l, 1) := by decide +kernel
theorem dX7_digest_34 : decode cX7_digest 34 = .ok (.invokestatic 369, 3) := by decide +kernel
theorem dX7_digest_37 : decode cX7_digest 37 = .ok (.lstore_n 1, 1) := by decide +kernel
theorem dX7_digest_38 : decode cX7_digest 38 = .ok (.iconst 0, 1) := by decide +kernel
theorem dX7_digest_39 : decode cX7_digest 39 = .ok (.istore_n 3, 1) := by decide +kernel
theorem dX7_digest_4 : decode cX7_digest 4 = .ok (.iconst 0, 1) := by decide +kernel
theorem dX7_digest_40 : decode cX7_digest 40 = .ok (.iload_n 3, 1) := by decide +kernel
theorem dX7_digest_41 : decode cX7_digest 41 = .ok (.aload_n 0, 1) := by decide +kernel
theorem dX7_digest_42 : decode cX7_digest 42 = .ok (.getfield 12, 3) := by decide +kernel
theorem dX7_digest_45 : decode cX7_digest 45 = .ok (.getfield 93, 3) := by decide +kernel
theorem dX7_digest_48 : decode cX7_digest 48 = .ok (.if_icmp .ge 16, 3) := by decide +kernel
theorem dX7_digest_5 : decode cX7_digest 5 = .ok (.istore_n 3, 1) := by decide +kernel
theorem dX7_digest_51 : decode cX7_digest 51 = .ok (.aload_n 0, 1) := by decide +kernel
theorem dX7_digest_52 : decode cX7_digest 52 = .ok (.lload_n 1, 1) := by decide +kernel
theorem dX7_digest_53 : decode cX7_digest 53 = .ok (.iload_n 3, 1) := by decide +kernel
theorem dX7_digest_54 : decode cX7_digest 54 = .ok (.invokevirtual 373, 3) := by decide +kernel
theorem dX7_digest_57 : decode cX7_digest 57 = .ok (.lstore_n 1, 1) := by decide +kernel
theorem dX7_digest_58 : decode cX7_digest 58 = .ok (.iinc 3 1, 3) := by decide +kernel
theorem dX7_digest_6 : decode cX7_digest 6 = .ok (.iload_n 3, 1) := by decide +kernel
theorem dX7_digest_61 : decode cX7_digest 61 = .ok (.goto (-21), 3) := by decide +kernel
theorem dX7_digest_64 : decode cX7_digest 64 = .ok (.iconst 0, 1) := by decide +kernel
theorem dX7_digest_65 : decode cX7_digest 65 = .ok (.istore_n 3, 1) := by decide +kernel
theorem dX7_digest_66 : decode cX7_digest 66 = .ok (.iload_n 3, 1) := by decide +kernel
theorem dX7_digest_67 : decode cX7_digest 67 = .ok (.aload_n 0, 1) := by decide +kernel
theorem dX7_digest_68 : decode cX7_digest 68 = .ok (.getfield 26, 3) := by decide +kernel
theorem dX7_digest_7 : decode cX7_digest 7 = .ok (.iconst 5, 1) := by decide +kernel
theorem dX7_digest_71 : decode cX7_digest 71 = .ok (.getfield 377, 3) := by decide +kernel
theorem dX7_digest_74 : decode cX7_digest 74 = .ok (.if_icmp .ge 16, 3) := by decide +kernel
theorem dX7_digest_77 : decode cX7_digest 77 = .ok (.aload_n 0, 1) := by decide +kernel
theorem dX7_digest_78 : decode cX7_digest 78 = .ok (.lload_n 1, 1) := by decide +kernel
theorem dX7_digest_79 : decode cX7_digest 79 = .ok (.iload_n 3, 1) := by decide +kernel
theorem dX7_digest_8 : decode cX7_digest 8 = .ok (.if_icmp .gt 20, 3) := by decide +kernel
theorem dX7_digest_80 : decode cX7_digest 80 = .ok (.invokevirtual 378, 3) := by decide +kernel
theorem dX7_digest_83 : decode cX7_digest 83 = .ok (.lstore_n 1, 1) := by decide +kernel
theorem dX7_digest_84 : decode cX7_digest 84 = .ok (.iinc 3 1, 3) := by decide +kernel
theorem dX7_digest_87 : decode cX7_digest 87 = .ok (.goto (-21), 3) := by decide +kernel
theorem dX7_digest_90 : decode cX7_digest 90 = .ok (.iconst 0, 1) := by decide +kernel
theorem dX7_digest_91 : decode cX7_digest 91 = .ok (.istore_n 3, 1) := by decide +kernel
theorem dX7_digest_92 : decode cX7_digest 92 = .ok (.iload_n 3, 1) := by decide +kernel
theorem dX7_digest_93 : decode cX7_digest 93 = .ok (.aload_n 0, 1) := by decide +kernel
theorem dX7_digest_94 : decode cX7_digest 94 = .ok (.getfield 40, 3) := by decide +kernel
theorem dX7_digest_97 : decode cX7_digest 97 = .ok (.getfield 301, 3) := by decide +kernel
set_option maxHeartbeats 4000000 in
set_option maxRecDepth 100000 in
theorem c_T_digest (l : Launch) (D : va_G) (κ : ClassId × ClassId × ClassId) (a : Nat → Nat) (sz : Nat) (u : TS)  (q1 : OK u) : TM l yX7_digest cX7_digest 4 (some .long) 6 141 D κ a u sz [.ref (a 0)] (QL D κ a sz (fun r u' => r = (fDig u) ∧ u' = fDigU u)) := by
  refine TM.of (by decide +kernel) (Nat.le_of_ble_eq_true rfl) ?_
  intro p e s m below meth c ls hC hr hk hsz H locs hG hl
  have hx := hC.1
  have hb := hC.2.1
  have hl : lv_has ls 4 [(0, .ref (a 0))] := hl
  have qok := q1
  have ⟨n1, n2, n3, n4, n5, n6, n7, n8, n9, n10⟩ := qok.n
  have ⟨w1, w2⟩ := fWhyU_c q1
  have w3 := w1.n
  have ⟨v1, v2, v3, v4, v5, v6⟩ := fDv_c q1
  refine lv_ldc2 hx hb hC.2.2.2.1 (hC.2.2.2.2 _ w474) dX7_digest_0 ?_
  refine lv_lstore_n (lv' := [(1, .long (58089 : Int64)), (0, .ref (a 0))]) hx hb dX7_digest_3 rfl hl (by decide) rfl (fun ls hl => ?_)
  refine lv_iconst (v := nI 0) hx hb dX7_digest_4 (by decide) ?_
  refine lv_istore_n (lv' := [(3, .int (nI 0)), (1, .long (58089 : Int64)), (0, .ref (a 0))]) hx hb dX7_digest_5 rfl hl (by decide) rfl (fun ls hl => ?_)
  have lp6 : ∀ (n : Nat) (i : Nat), 6 - i < n → (i ≤ 6) → ∀ (H : Heap) (locs : List Loc), GW D κ a u (AA a sz) s H locs → ∀ ls : Array Slot, lv_has ls 4 [(3, .int (nI i)), (1, .long (fF (fun w => (fMany u w).toInt64) 58089 i)), (0, .ref (a 0))] → W p l e { frames := 6, cells := 0, slots := 0, locals := 141 } s m [.ref (a 0)].toArray below meth c H locs 0 0 (MQ below (QL D κ a sz (fun r u' => r = (fDig u) ∧ u' = fDigU u)) [.ref (a 0)].toArray s 0 0 (AA a sz)) (F0 m 6 ls []) := by
    intro n
    induction n with
    | zero =>
      intro i hm
      exact absurd hm (Nat.not_lt_zero _)
    | succ n ih6 =>
      intro i hm6 c6_1 H locs hG ls hl
      refine lv_iload_n hx hb dX7_digest_6 rfl (lv_at hl 0 rfl) ?_
      refine lv_iconst (v := nI 5) hx hb dX7_digest_7 (by decide) ?_
      refine bn_gt (tgt := 28) hx hb (by omega) (by omega) dX7_digest_8 (by decide) (fun h8 => ?_) (fun h8 => ?_)
      · refine lv_lload_n hx hb dX7_digest_28 rfl (lv_at hl 1 rfl) ?_
        refine lv_aload_n hx hb dX7_digest_29 rfl (lv_at hl 2 rfl) ?_
        refine k_T_whyNotPosted hC hG  (q1) w414 ⟨by decide, by decide⟩ hl.1 (Nat.le_of_ble_eq_true rfl) dX7_digest_30 ⟨Nat.zero_le _, Nat.zero_le _⟩ (fun H locs hG => ?_)
        refine lv_i2l hx hb dX7_digest_33 rfl ?_
        refine k_S_mix hC hG (fF (fun w => (fMany u w).toInt64) 58089 i) ((nI (fWhy u)).toInt64)  w477 ⟨by decide, by decide⟩ hl.1 (Nat.le_of_ble_eq_true rfl) dX7_digest_34 ⟨Nat.zero_le _, Nat.zero_le _⟩ (fun H locs hG => ?_)
        refine lv_lstore_n (lv' := [(1, .long ((fF (fun w => (fMany u w).toInt64) 58089 i) * 31 + ((nI (fWhy u)).toInt64))), (3, .int (nI i)), (0, .ref (a 0))]) hx hb dX7_digest_37 rfl hl (by decide) rfl (fun ls hl => ?_)
        refine lv_iconst (v := nI 0) hx hb dX7_digest_38 (by decide) ?_
        refine lv_istore_n (lv' := [(3, .int (nI 0)), (1, .long ((fF (fun w => (fMany u w).toInt64) 58089 i) * 31 + ((nI (fWhy u)).toInt64))), (0, .ref (a 0))]) hx hb dX7_digest_39 rfl hl (by decide) rfl (fun ls hl => ?_)
        have lp40 : ∀ (n : Nat) (i : Nat), AC_count u - i < n → (i ≤ AC_count u) → ∀ (H : Heap) (locs : List Loc), GW D κ a (fDAu (fWhyU u) i) (AA a sz) s H locs → ∀ ls : Array Slot, lv_has ls 4 [(3, .int (nI i)), (1, .long (fDAd (fWhyU u) (fD1 u) i)), (0, .ref (a 0))] → W p l e { frames := 6, cells := 0, slots := 0, locals := 141 } s m [.ref (a 0)].toArray below meth c H locs 0 0 (MQ below (QL D κ a sz (fun r u' => r = (fDig u) ∧ u' = fDigU u)) [.ref (a 0)].toArray s 0 0 (AA a sz)) (F0 m 40 ls []) := by
          intro n
          induction n with
          | zero =>
            intro i hm
            exact absurd hm (Nat.not_lt_zero _)
          | succ n ih40 =>
            intro i hm40 c40_1 H locs hG ls hl
            have ⟨f1, f2⟩ := fDAu_c w2 i
            have f3 := f1.cnt
            refine lv_iload_n hx hb dX7_digest_40 rfl (lv_at hl 0 rfl) ?_
            refine lv_aload_n hx hb dX7_digest_41 rfl (lv_at hl 2 rfl) ?_
            refine gf_T_accounts hC hG (hC.2.2.2.2 _ w16) dX7_digest_42 ?_
            refine gf_AC_count hC hG (hC.2.2.2.2 _ w138) dX7_digest_45 ?_
            refine bn_ge (tgt := 64) hx hb (by omega) (by omega) dX7_digest_48 (by decide) (fun h48 => ?_) (fun h48 => ?_)
            · refine lv_iconst (v := nI 0) hx hb dX7_digest_64 (by decide) ?_
              refine lv_istore_n (lv' := [(3, .int (nI 0)), (1, .long (fDAd (fWhyU u) (fD1 u) i)), (0, .ref (a 0))]) hx hb dX7_digest_65 rfl hl (by decide) rfl (fun ls hl => ?_)
              have lp66 : ∀ (n : Nat) (i : Nat), J_count u - i < n → (i ≤ J_count u) → ∀ (H : Heap) (locs : List Loc), GW D κ a (fDv u) (AA a sz) s H locs → ∀ ls : Array Slot, lv_has ls 4 [(3, .int (nI i)), (1, .long (fDE (fDv u) (fD2 u) i)), (0, .ref (a 0))] → W p l e { frames := 6, cells := 0, slots := 0, locals := 141 } s m [.ref (a 0)].toArray below meth c H locs 0 0 (MQ below (QL D κ a sz (fun r u' => r = (fDig u) ∧ u' = fDigU u)) [.ref (a 0)].toArray s 0 0 (AA a sz)) (F0 m 66 ls []) := by
                intro n
                induction n with
                | zero =>
                  intro i hm
                  exact absurd hm (Nat.not_lt_zero _)
                | succ n ih66 =>
                  intro i hm66 c66_1 H locs hG ls hl
                  refine lv_iload_n hx hb dX7_digest_66 rfl (lv_at hl 0 rfl) ?_
                  refine lv_aload_n hx hb dX7_digest_67 rfl (lv_at hl 2 rfl) ?_
                  refine gf_T_journal hC hG (hC.2.2.2.2 _ w24) dX7_digest_68 ?_
                  refine gf_J_count hC hG (hC.2.2.2.2 _ w475) dX7_digest_71 ?_
                  refine bn_ge (tgt := 90) hx hb (by omega) (by omega) dX7_digest_74 (by decide) (fun h74 => ?_) (fun h74 => ?_)
                  · refine lv_iconst (v := nI 0) hx hb dX7_digest_90 (by decide) ?_
                    refine lv_istore_n (lv' := [(3, .int (nI 0)), (1, .long (fDE (fDv u) (fD2 u) i)), (0, .ref (a 0))]) hx hb dX7_digest_91 rfl hl (by decide) rfl (fun ls hl => ?_)
                    have lp92 : ∀ (n : Nat) (i : Nat), LI_count u - i < n → (i ≤ LI_count u) → ∀ (H : Heap) (locs : List Loc), GW D κ a (fDv u) (AA a sz) s H locs → ∀ ls : Array Slot, lv_has ls 4 [(3, .int (nI i)), (1, .long (fF (fun x => (oI (fMatched (fDv u) x)).toInt64) (fD3 u) i)), (0, .ref (a 0))] → W p l e { frames := 6, cells := 0, slots := 0, locals := 141 } s m [.ref (a 0)].toArray below meth c H locs 0 0 (MQ below (QL D κ a sz (fun r u' => r = (fDig u) ∧ u' = fDigU u)) [.ref (a 0)].toArray s 0 0 (AA a sz)) (F0 m 92 ls []) := by
                      intro n
                      induction n with
                      | zero =>
                        intro i hm
                        exact absurd hm (Nat.not_lt_zero _)
                      | succ n ih92 =>
                        intro i hm92 c92_1 H locs hG ls hl
                        refine lv_iload_n hx hb dX7_digest_92 rfl (lv_at hl 0 rfl) ?_
                        refine lv_aload_n hx hb dX7_digest_93 rfl (lv_at hl 2 rfl) ?_
                        refine gf_T_lines hC hG (hC.2.2.2.2 _ w32) dX7_digest_94 ?_
                        refine gf_LI_count hC hG (hC.2.2.2.2 _ w162) dX7_digest_97 ?_
                        refine bn_ge (tgt := 120) hx hb (by omega) (by omega) dX7_digest_100 (by decide) (fun h100 => ?_) (fun h100 => ?_)
                        · refine lv_iconst (v := nI 0) hx hb dX7_digest_120 (by decide) ?_
                          refine lv_istore_n (lv' := [(3, .int (nI 0)), (1, .long (fF (fun x => (oI (fMatched (fDv u) x)).toInt64) (fD3 u) i)), (0, .ref (a 0))]) hx hb dX7_digest_121 rfl hl (by decide) rfl (fun ls hl => ?_)
                          have lp122 : ∀ (n : Nat) (i : Nat), 5 - i < n → (i ≤ 5) → ∀ (H : Heap) (locs : List Loc), GW D κ a (fDv u) (AA a sz) s H locs → ∀ ls : Array Slot, lv_has ls 4 [(3, .int (nI i)), (1, .long (fF (fun kd => fKind (fDv u) kd (AC_count (fDv u))) (fD4 u) i)), (0, .ref (a 0))] → W p l e { frames := 6, cells := 0, slots := 0, locals := 141 } s m [.ref (a 0)].toArray below meth c H locs 0 0 (MQ below (QL D κ a sz (fun r u' => r = (fDig u) ∧ u' = fDigU u)) [.ref (a 0)].toArray s 0 0 (AA a sz)) (F0 m 122 ls []) := by
                            intro n
                            induction n with
                            | zero =>
                              intro i hm
                              exact absurd hm (Nat.not_lt_zero _)
                            | succ n ih122 =>
                              intro i hm122 c122_1 H locs hG ls hl
                              refine lv_iload_n hx hb dX7_digest_122 rfl (lv_at hl 0 rfl) ?_
                              refine lv_iconst (v := nI 4) hx hb dX7_digest_123 (by decide) ?_
                              refine bn_gt (tgt := 143) hx hb (by omega) (by omega) dX7_digest_124 (by decide) (fun h124 => ?_) (fun h124 => ?_)
                              · refine lv_lload_n hx hb dX7_digest_143 rfl (lv_at hl 1 rfl) ?_
                                refine lv_aload_n hx hb dX7_digest_144 rfl (lv_at hl 2 rfl) ?_
                                refine lv_aload_n hx hb dX7_digest_145 rfl (lv_at hl 2 rfl) ?_
                                refine gf_T_today hC hG (hC.2.2.2.2 _ w43) dX7_digest_146 ?_
                                refine k_T_wouldClose hC hG (T_today (fDv u)) (v1) (by omega) w511 ⟨by decide, by decide⟩ hl.1 (Nat.le_of_ble_eq_true rfl) dX7_digest_149 ⟨Nat.zero_le _, Nat.zero_le _⟩ (fun H locs hG => ?_)
                                refine k_S_mix hC hG (fF (fun kd => fKind (fDv u) kd (AC_count (fDv u))) (fD4 u) i) (fWould (fDv u) (T_today (fDv u)))  w477 ⟨by decide, by decide⟩ hl.1 (Nat.le_of_ble_eq_true rfl) dX7_digest_152 ⟨Nat.zero_le _, Nat.zero_le _⟩ (fun H locs hG => ?_)
                                exact te_l hC hG hr hk ⟨(show ((fF (fun kd => fKind (fDv u) kd (AC_count (fDv u))) (fD4 u) i) * 31 + (fWould (fDv u) (T_today (fDv u)))) = fDig u from by unfold fDig fD5; rw [show i = 5 by omega]), (by rfl)⟩ dX7_digest_155
                              · refine lv_lload_n hx hb dX7_digest_127 rfl (lv_at hl 1 rfl) ?_
                                refine lv_aload_n hx hb dX7_digest_128 rfl (lv_at hl 2 rfl) ?_
                                refine lv_iload_n hx hb dX7_digest_129 rfl (lv_at hl 0 rfl) ?_
                                refine k_T_ofKind hC hG i (v1) (by omega) w510 ⟨by decide, by decide⟩ hl.1 (Nat.le_of_ble_eq_true rfl) dX7_digest_130 ⟨Nat.zero_le _, Nat.zero_le _⟩ (fun H locs hG => ?_)
                                refine k_S_mix hC hG (fF (fun kd => fKind (fDv u) kd (AC_count (fDv u))) (fD4 u) i) (fKind (fDv u) i (AC_count (fDv u)))  w477 ⟨by decide, by decide⟩ hl.1 (Nat.le_of_ble_eq_true rfl) dX7_digest_133 ⟨Nat.zero_le _, Nat.zero_le _⟩ (fun H locs hG => ?_)
                                refine lv_lstore_n (lv' := [(1, .long ((fF (fun kd => fKind (fDv u) kd (AC_count (fDv u))) (fD4 u) i) * 31 + (fKind (fDv u) i (AC_count (fDv u))))), (3, .int (nI i)), (0, .ref (a 0))]) hx hb dX7_digest_136 rfl hl (by decide) rfl (fun ls hl => ?_)
                                refine lv_iinc (v := (nI (i + 1))) (lv' := [(3, .int (nI (i + 1))), (1, .long ((fF (fun kd => fKind (fDv u) kd (AC_count (fDv u))) (fD4 u) i) * 31 + (fKind (fDv u) i (AC_count (fDv u))))), (0, .ref (a 0))]) hx hb dX7_digest_137 hl (k := 1) rfl (nI_1 _) (by decide) rfl (fun ls hl => ?_)
                                refine lv_goto (tgt := 122) hx hb dX7_digest_140 (by decide) ?_
                                have e122_1 : fF (fun kd => fKind (fDv u) kd (AC_count (fDv u))) (fD4 u) (i + 1) = ((fF (fun kd => fKind (fDv u) kd (AC_count (fDv u))) (fD4 u) i) * 31 + (fKind (fDv u) i (AC_count (fDv u)))) := by rfl
                                have hl : lv_has ls 4 [(3, .int (nI (i + 1))), (1, .long (fF (fun kd => fKind (fDv u) kd (AC_count (fDv u))) (fD4 u) (i + 1))), (0, .ref (a 0))] := by rw [e122_1]; exact hl
                                exact ih122  (i + 1) (by omega) (by omega) H locs hG ls (lv_sub hl [0, 1, 2] rfl)
                          have e122_2 : fF (fun kd => fKind (fDv u) kd (AC_count (fDv u))) (fD4 u) 0 = fF (fun x => (oI (fMatched (fDv u) x)).toInt64) (fD3 u) i := by unfold fD4; rw [show i = LI_count u by omega]; rfl
                          have hl : lv_has ls 4 [(3, .int (nI 0)), (1, .long (fF (fun kd => fKind (fDv u) kd (AC_count (fDv u))) (fD4 u) 0)), (0, .ref (a 0))] := by rw [e122_2]; exact hl
                          exact lp122 _ 0 (Nat.lt_succ_self _) (by omega) H locs hG ls (lv_sub hl [0, 1, 2] rfl)
                        · refine lv_lload_n hx hb dX7_digest_103 rfl (lv_at hl 1 rfl) ?_
                          refine lv_aload_n hx hb dX7_digest_104 rfl (lv_at hl 2 rfl) ?_
                          refine lv_iload_n hx hb dX7_digest_105 rfl (lv_at hl 0 rfl) ?_
                          refine k_T_matched hC hG i (v1) (by omega) w504 ⟨by decide, by decide⟩ hl.1 (Nat.le_of_ble_eq_true rfl) dX7_digest_106 ⟨Nat.zero_le _, Nat.zero_le _⟩ (fun H locs hG => ?_)
                          refine lv_i2l hx hb dX7_digest_109 rfl ?_
                          refine k_S_mix hC hG (fF (fun x => (oI (fMatched (fDv u) x)).toInt64) (fD3 u) i) ((oI (fMatched (fDv u) i)).toInt64)  w477 ⟨by decide, by decide⟩ hl.1 (Nat.le_of_ble_eq_true rfl) dX7_digest_110 ⟨Nat.zero_le _, Nat.zero_le _⟩ (fun H locs hG => ?_)
                          refine lv_lstore_n (lv' := [(1, .long ((fF (fun x => (oI (fMatched (fDv u) x)).toInt64) (fD3 u) i) * 31 + ((oI (fMatched (fDv u) i)).toInt64))), (3, .int (nI i)), (0, .ref (a 0))]) hx hb dX7_digest_113 rfl hl (by decide) rfl (fun ls hl => ?_)
                          refine lv_iinc (v := (nI (i + 1))) (lv' := [(3, .int (nI (i + 1))), (1, .long ((fF (fun x => (oI (fMatched (fDv u) x)).toInt64) (fD3 u) i) * 31 + ((oI (fMatched (fDv u) i)).toInt64))), (0, .ref (a 0))]) hx hb dX7_digest_114 hl (k := 1) rfl (nI_1 _) (by decide) rfl (fun ls hl => ?_)
                          refine lv_goto (tgt := 92) hx hb dX7_digest_117 (by decide) ?_
                          have e92_3 : fF (fun x => (oI (fMatched (fDv u) x)).toInt64) (fD3 u) (i + 1) = ((fF (fun x => (oI (fMatched (fDv u) x)).toInt64) (fD3 u) i) * 31 + ((oI (fMatched (fDv u) i)).toInt64)) := by rfl
                          have hl : lv_has ls 4 [(3, .int (nI (i + 1))), (1, .long (fF (fun x => (oI (fMatched (fDv u) x)).toInt64) (fD3 u) (i + 1))), (0, .ref (a 0))] := by rw [e92_3]; exact hl
                          exact ih92  (i + 1) (by omega) (by omega) H locs hG ls (lv_sub hl [0, 1, 2] rfl)
                    have e92_4 : fF (fun x => (oI (fMatched (fDv u) x)).toInt64) (fD3 u) 0 = fDE (fDv u) (fD2 u) i := by unfold fD3; rw [show i = J_count u by omega]; rfl
                    have hl : lv_has ls 4 [(3, .int (nI 0)), (1, .long (fF (fun x => (oI (fMatched (fDv u) x)).toInt64) (fD3 u) 0)), (0, .ref (a 0))] := by rw [e92_4]; exact hl
                    exact lp92 _ 0 (Nat.lt_succ_self _) (by omega) H locs hG ls (lv_sub hl [0, 1, 2] rfl)
                  · refine lv_aload_n hx hb dX7_digest_77 rfl (lv_at hl 2 rfl) ?_
                    refine lv_lload_n hx hb dX7_digest_78 rfl (lv_at hl 1 rfl) ?_
                    refine lv_iload_n hx hb dX7_digest_79 rfl (lv_at hl 0 rfl) ?_
                    refine k_T_mixEntry hC hG (fDE (fDv u) (fD2 u) i) i (v1) (by omega) w498 ⟨by decide, by decide⟩ hl.1 (Nat.le_of_ble_eq_true rfl) dX7_digest_80 ⟨Nat.zero_le _, Nat.zero_le _⟩ (fun H locs hG => ?_)
                    refine lv_lstore_n (lv' := [(1, .long (fMixE (fDv u) (fDE (fDv u) (fD2 u) i) i (J_legsOf (fDv u) i))), (3, .int (nI i)), (0, .ref (a 0))]) hx hb dX7_digest_83 rfl hl (by decide) rfl (fun ls hl => ?_)
                    refine lv_iinc (v := (nI (i + 1))) (lv' := [(3, .int (nI (i + 1))), (1, .long (fMixE (fDv u) (fDE (fDv u) (fD2 u) i) i (J_legsOf (fDv u) i))), (0, .ref (a 0))]) hx hb dX7_digest_84 hl (k := 1) rfl (nI_1 _) (by decide) rfl (fun ls hl => ?_)
                    refine lv_goto (tgt := 66) hx hb dX7_digest_87 (by decide) ?_
                    have e66_5 : fDE (fDv u) (fD2 u) (i + 1) = (fMixE (fDv u) (fDE (fDv u) (fD2 u) i) i (J_legsOf (fDv u) i)) := by rfl
                    have hl : lv_has ls 4 [(3, .int (nI (i + 1))), (1, .long (fDE (fDv u) (fD2 u) (i + 1))), (0, .ref (a 0))] := by rw [e66_5]; exact hl
                    exact ih66  (i + 1) (by omega) (by omega) H locs hG ls (lv_sub hl [0, 1, 2] rfl)
              have e66_6 : fDE (fDv u) (fD2 u) 0 = fDAd (fWhyU u) (fD1 u) i := by unfold fD2; rw [show i = AC_count u by omega]; rfl
              have hl : lv_has ls 4 [(3, .int (nI 0)), (1, .long (fDE (fDv u) (fD2 u) 0)), (0, .ref (a 0))] := by rw [e66_6]; exact hl
              have hG : GW D κ a (fDv u) (AA a sz) s H locs := by
                have eu : (fDv u) = (fDAu (fWhyU u) i) := by unfold fDv; rw [show i = AC_count u by omega]
                rw [eu]; exact hG
              exact lp66 _ 0 (Nat.lt_succ_self _) (by omega) H locs hG ls (lv_sub hl [0, 1, 2] rfl)
            · refine lv_aload_n hx hb dX7_digest_51 rfl (lv_at hl 2 rfl) ?_
              refine lv_lload_n hx hb dX7_digest_52 rfl (lv_at hl 1 rfl) ?_
              refine lv_iload_n hx hb dX7_digest_53 rfl (lv_at hl 0 rfl) ?_
              refine k_T_mixAccount hC hG (fDAd (fWhyU u) (fD1 u) i) i (f2) (by omega) w481 ⟨by decide, by decide⟩ hl.1 (Nat.le_of_ble_eq_true rfl) dX7_digest_54 ⟨Nat.zero_le _, Nat.zero_le _⟩ (fun H locs hG => ?_)
              refine lv_lstore_n (lv' := [(1, .long (fMixA (fDAu (fWhyU u) i) (fDAd (fWhyU u) (fD1 u) i) i)), (3, .int (nI i)), (0, .ref (a 0))]) hx hb dX7_digest_57 rfl hl (by decide) rfl (fun ls hl => ?_)
              refine lv_iinc (v := (nI (i + 1))) (lv' := [(3, .int (nI (i + 1))), (1, .long (fMixA (fDAu (fWhyU u) i) (fDAd (fWhyU u) (fD1 u) i) i)), (0, .ref (a 0))]) hx hb dX7_digest_58 hl (k := 1) rfl (nI_1 _) (by decide) rfl (fun ls hl => ?_)
              refine lv_goto (tgt := 40) hx hb dX7_digest_61 (by decide) ?_
              have e40_8 : fDAd (fWhyU u) (fD1 u) (i + 1) = (fMixA (fDAu (fWhyU u) i) (fDAd (fWhyU u) (fD1 u) i) i) := by rfl
              have hl : lv_has ls 4 [(3, .int (nI (i + 1))), (1, .long (fDAd (fWhyU u) (fD1 u) (i + 1))), (0, .ref (a 0))] := by rw [e40_8]; exact hl
              have hG : GW D κ a (fDAu (fWhyU u) (i + 1)) (AA a sz) s H locs := by
                have eu : (fDAu (fWhyU u) (i + 1)) = (fPair 1 (fDAu (fWhyU u) i) i 3) := by rfl
                rw [eu]; exact hG
              exact ih40  (i + 1) (by omega) (by omega) H locs hG ls (lv_sub hl [0, 1, 2] rfl)
        have e40_10 : fDAd (fWhyU u) (fD1 u) 0 = ((fF (fun w => (fMany u w).toInt64) 58089 i) * 31 + ((nI (fWhy u)).toInt64)) := by unfold fD1; rw [show i = 6 by omega]; rfl
        have hl : lv_has ls 4 [(3, .int (nI 0)), (1, .long (fDAd (fWhyU u) (fD1 u) 0)), (0, .ref (a 0))] := by rw [e40_10]; exact hl
        have hG : GW D κ a (fDAu (fWhyU u) 0) (AA a sz) s H locs := by
          have eu : (fDAu (fWhyU u) 0) = (fWhyU u) := by rfl
          rw [eu]; exact hG
        exact lp40 _ 0 (Nat.lt_succ_self _) (by omega) H locs hG ls (lv_sub hl [0, 1, 2] rfl)
      · refine lv_lload_n hx hb dX7_digest_11 rfl (lv_at hl 1 rfl) ?_
        refine lv_aload_n hx hb dX7_digest_12 rfl (lv_at hl 2 rfl) ?_
        refine lv_iload_n hx hb dX7_digest_13 rfl (lv_at hl 0 rfl) ?_
        refine k_T_many hC hG i (q1) (by omega) w476 ⟨by decide, by decide⟩ hl.1 (Nat.le_of_ble_eq_true rfl) dX7_digest_14 ⟨Nat.zero_le _, Nat.zero_le _⟩ (fun H locs hG => ?_)
        refine lv_i2l hx hb dX7_digest_17 rfl ?_
        refine k_S_mix hC hG (fF (fun w => (fMany u w).toInt64) 58089 i) ((fMany u i).toInt64)  w477 ⟨by decide, by decide⟩ hl.1 (Nat.le_of_ble_eq_true rfl) dX7_digest_18 ⟨Nat.zero_le _, Nat.zero_le _⟩ (fun H locs hG => ?_)
        refine lv_lstore_n (lv' := [(1, .long ((fF (fun w => (fMany u w).toInt64) 58089 i) * 31 + ((fMany u i).toInt64))), (3, .int (nI i)), (0, .ref (a 0))]) hx hb dX7_digest_21 rfl hl (by decide) rfl (fun ls hl => ?_)
        refine lv_iinc (v := (nI (i + 1))) (lv' := [(3, .int (nI (i + 1))), (1, .long ((fF (fun w => (fMany u w).toInt64) 58089 i) * 31 + ((fMany u i).toInt64))), (0, .ref (a 0))]) hx hb dX7_digest_22 hl (k := 1) rfl (nI_1 _) (by decide) rfl (fun ls hl => ?_)
        refine lv_goto (tgt := 6) hx hb dX7_digest_25 (by decide) ?_
        have e6_12 : fF (fun w => (fMany u w).toInt64) 58089 (i + 1) = ((fF (fun w => (fMany u w).toInt64) 58089 i) * 31 + ((fMany u i).toInt64)) := by rfl
        have hl : lv_has ls 4 [(3, .int (nI (i + 1))), (1, .long (fF (fun w => (fMany u w).toInt64) 58089 (i + 1))), (0, .ref (a 0))] := by rw [e6_12]; exact hl
        exact ih6  (i + 1) (by omega) (by omega) H locs hG ls (lv_sub hl [0, 1, 2] rfl)
  have e6_13 : fF (fun w => (fMany u w).toInt64) 58089 0 = (58089 : Int64) := by rfl
  have hl : lv_has ls 4 [(3, .int (nI 0)), (1, .long (fF (fun w => (fMany u w).toInt64) 58089 0)), (0, .ref (a 0))] := by rw [e6_13]; exact hl
  exact lp6 _ 0 (Nat.lt_succ_self _) (by omega) H locs hG ls (lv_sub hl [0, 1, 2] rfl)
theorem k_T_digest {p : Program} {l : Launch} {e : Env} {R : Room} {s : State} {m : MethodId} {args : Array Value} {below : List Frame} {meth : Method} {c : Code} {H : Heap} {locs : List Loc} {cs ss : Nat} {Q : State → Prop} {cc : ByteArray} {nL pc : Nat} {ls : Array Slot} {rest : List Value} {own : String} {idx : Nat} {D : va_G} {κ : ClassId × ClassId × ClassId} {a : Nat → Nat} {u : TS} {A : Nat → Prop} (hC : CallFix p m c cc nL s args WALL own) (hG : GW D κ a u A s H locs)  (q1 : OK u) (wl : Cond.methodLink own idx yX7_digest ∈ WALL) (hR : 6 + 1 ≤ R.frames ∧ 8 + (4 + 11) + 141 ≤ R.locals) (hls : ls.size = nL) (h8 : (rest.map fun v => v.category).sum ≤ 8) (hd : decode cc pc = .ok (.invokevirtual idx, 3)) (hcs : cs ≤ R.cells ∧ ss ≤ R.slots) (kk : ∀ (H1 : Heap) (locs1 : List Loc), GW D κ a (fDigU u) A s H1 locs1 → W p l e R s m args below meth c H1 locs1 cs ss Q (F0 m (pc + 3) ls (.long (fDig u) :: rest))) : W p l e R s m args below meth c H locs cs ss Q (F0 m pc ls (.ref (a 0) :: rest)) :=
  tc_l hG (tr_V (n := 0) (k := 0) (ci := 7) (As := []) hC hG (c_T_digest l D κ a H.size u  q1) rfl rfl wl w2 w473 w471 w472 (by decide +kernel) hR rfl hls rfl h8 hd hcs) (fun r u' H1 locs1 hq hG1 => by obtain ⟨rfl, rfl⟩ := hq; exact kk H1 locs1 hG1)

