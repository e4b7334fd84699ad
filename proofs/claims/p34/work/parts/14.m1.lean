
set_option maxHeartbeats 4000000 in
set_option maxRecDepth 100000 in
theorem c_M1_isLeft (l : Launch) (D : va_G) (κ : ClassId × ClassId × ClassId) (a : Nat → Nat) (sz : Nat) (u : TS) (x : Nat) (w : Nat) (q1 : OK u) (q2 : x < LI_count u) (q3 : w < 600) : TM l yX6_isLeft cX6_isLeft 3 (some .boolean) 0 0 D κ a u sz [.ref (a 9), .int (nI x), .int (nI w)] (QI D κ a sz (fun r u' => r = (bI (fIsLeft 1 u x w)) ∧ u' = u)) := by
  refine TM.of (by decide +kernel) (Nat.le_of_ble_eq_true rfl) ?_
  intro p e s m below meth c ls hC hr hk hsz H locs hG hl
  have hx := hC.1
  have hb := hC.2.1
  have hl : lv_has ls 3 [(0, .ref (a 9)), (1, .int (nI x)), (2, .int (nI w))] := hl
  have qok := q1
  have ⟨n1, n2, n3, n4, n5, n6, n7, n8, n9, n10⟩ := qok.n
  have k1 := q1.line q2
  have k2 := (q1.m1).2.1 x
  refine lv_aload_n hx hb dX6_isLeft_0 rfl (lv_at hl 0 rfl) ?_
  refine gf_M1_lines hC hG (hC.2.2.2.2 _ w110) dX6_isLeft_1 ?_
  refine gf_LI_account hC hG (hC.2.2.2.2 _ w321) dX6_isLeft_4 ?_
  refine lv_iload_n hx hb dX6_isLeft_7 rfl (lv_at hl 1 rfl) ?_
  refine al_LI_account hC hG (by omega) dX6_isLeft_8 ?_
  refine lv_iload_n hx hb dX6_isLeft_9 rfl (lv_at hl 2 rfl) ?_
  refine bn_ne (tgt := 27) hx hb (by omega) (by omega) dX6_isLeft_10 (by decide) (fun h10 => ?_) (fun h10 => ?_)
  · refine lv_iconst (v := nI 0) hx hb dX6_isLeft_27 (by decide) ?_
    exact te_z (v := false) hC hG hr hk ⟨(congrArg bI (show false = fIsLeft 1 u x w from by simp [fIsLeft, mFi, h10])), rfl⟩ dX6_isLeft_28
  · refine lv_aload_n hx hb dX6_isLeft_13 rfl (lv_at hl 0 rfl) ?_
    refine gf_M1_firstOfLine hC hG (hC.2.2.2.2 _ w107) dX6_isLeft_14 ?_
    refine lv_iload_n hx hb dX6_isLeft_17 rfl (lv_at hl 1 rfl) ?_
    refine al_M1_firstOfLine hC hG (by omega) dX6_isLeft_18 ?_
    refine lv_iconst (v := -1) hx hb dX6_isLeft_19 (by decide) ?_
    refine bo_ne (tgt := 27) hx hb (by intro j9 e9; have := k2 j9 e9; omega) dX6_isLeft_20 (by decide) (fun h20 => ?_) (fun h20 => ?_)
    · refine lv_iconst (v := nI 0) hx hb dX6_isLeft_27 (by decide) ?_
      exact te_z (v := false) hC hG hr hk ⟨(congrArg bI (show false = fIsLeft 1 u x w from by simp [fIsLeft, mFi, h10, h20])), rfl⟩ dX6_isLeft_28
    · refine lv_iconst (v := nI 1) hx hb dX6_isLeft_23 (by decide) ?_
      refine lv_goto (tgt := 28) hx hb dX6_isLeft_24 (by decide) ?_
      exact te_z (v := true) hC hG hr hk ⟨(congrArg bI (show true = fIsLeft 1 u x w from by simp [fIsLeft, mFi, h10, h20])), rfl⟩ dX6_isLeft_28
theorem k_M1_isLeft {p : Program} {l : Launch} {e : Env} {R : Room} {s : State} {m : MethodId} {args : Array Value} {below : List Frame} {meth : Method} {c : Code} {H : Heap} {locs : List Loc} {cs ss : Nat} {Q : State → Prop} {cc : ByteArray} {nL pc : Nat} {ls : Array Slot} {rest : List Value} {own : String} {idx : Nat} {D : va_G} {κ : ClassId × ClassId × ClassId} {a : Nat → Nat} {u : TS} {A : Nat → Prop} (hC : CallFix p m c cc nL s args WALL own) (hG : GW D κ a u A s H locs) (x : Nat) (w : Nat) (q1 : OK u) (q2 : x < LI_count u) (q3 : w < 600) (wl : Cond.methodLink own idx yX6_isLeft ∈ WALL) (hR : 0 + 1 ≤ R.frames ∧ 8 + (3 + 11) + 0 ≤ R.locals) (hls : ls.size = nL) (h8 : (rest.map fun v => v.category).sum ≤ 8) (hd : decode cc pc = .ok (.invokevirtual idx, 3)) (hcs : cs ≤ R.cells ∧ ss ≤ R.slots) (kk : ∀ (H1 : Heap) (locs1 : List Loc), GW D κ a u A s H1 locs1 → W p l e R s m args below meth c H1 locs1 cs ss Q (F0 m (pc + 3) ls (.int (bI (fIsLeft 1 u x w)) :: rest))) : W p l e R s m args below meth c H locs cs ss Q (F0 m pc ls (.int (nI w) :: .int (nI x) :: .ref (a 9) :: rest)) :=
  tc_i hG (tr_V (n := 2) (k := 9) (ci := 6) (As := [.int (nI x), .int (nI w)]) hC hG (c_M1_isLeft l D κ a H.size u x w q1 q2 q3) rfl rfl wl w35 w326 w324 w325 (by decide +kernel) hR rfl hls rfl h8 hd hcs) (fun r u' H1 locs1 hq hG1 => by obtain ⟨rfl, rfl⟩ := hq; exact kk H1 locs1 hG1)


set_option maxHeartbeats 4000000 in
set_option maxRecDepth 100000 in
theorem c_M1_isLegLeft (l : Launch) (D : va_G) (κ : ClassId × ClassId × ClassId) (a : Nat → Nat) (sz : Nat) (u : TS) (g : Nat) (w : Nat) (q1 : OK u) (q2 : g < J_legCount u) (q3 : w < 600) : TM l yX6_isLegLeft cX6_isLegLeft 3 (some .boolean) 1 21 D κ a u sz [.ref (a 9), .int (nI g), .int (nI w)] (QI D κ a sz (fun r u' => r = (bI (fLegLeft 1 u g w)) ∧ u' = u)) := by
  refine TM.of (by decide +kernel) (Nat.le_of_ble_eq_true rfl) ?_
  intro p e s m below meth c ls hC hr hk hsz H locs hG hl
  have hx := hC.1
  have hb := hC.2.1
  have hl : lv_has ls 3 [(0, .ref (a 9)), (1, .int (nI g)), (2, .int (nI w))] := hl
  have qok := q1
  have ⟨n1, n2, n3, n4, n5, n6, n7, n8, n9, n10⟩ := qok.n
  have k1 := q1.leg q2
  have k2 := (q1.m1).1 g
  refine lv_aload_n hx hb dX6_isLegLeft_0 rfl (lv_at hl 0 rfl) ?_
  refine gf_M1_journal hC hG (hC.2.2.2.2 _ w109) dX6_isLegLeft_1 ?_
  refine gf_J_account hC hG (hC.2.2.2.2 _ w338) dX6_isLegLeft_4 ?_
  refine lv_iload_n hx hb dX6_isLegLeft_7 rfl (lv_at hl 1 rfl) ?_
  refine al_J_account hC hG (by omega) dX6_isLegLeft_8 ?_
  refine lv_iload_n hx hb dX6_isLegLeft_9 rfl (lv_at hl 2 rfl) ?_
  refine bn_ne (tgt := 38) hx hb (by omega) (by omega) dX6_isLegLeft_10 (by decide) (fun h10 => ?_) (fun h10 => ?_)
  · refine lv_iconst (v := nI 0) hx hb dX6_isLegLeft_38 (by decide) ?_
    exact te_z (v := false) hC hG hr hk ⟨(congrArg bI (show false = fLegLeft 1 u g w from by simp [fLegLeft, mLo, h10])), rfl⟩ dX6_isLegLeft_39
  · refine lv_aload_n hx hb dX6_isLegLeft_13 rfl (lv_at hl 0 rfl) ?_
    refine gf_M1_lineOfLeg hC hG (hC.2.2.2.2 _ w106) dX6_isLegLeft_14 ?_
    refine lv_iload_n hx hb dX6_isLegLeft_17 rfl (lv_at hl 1 rfl) ?_
    refine al_M1_lineOfLeg hC hG (by omega) dX6_isLegLeft_18 ?_
    refine lv_iconst (v := -1) hx hb dX6_isLegLeft_19 (by decide) ?_
    refine bo_ne (tgt := 38) hx hb (by intro j9 e9; have := k2 j9 e9; omega) dX6_isLegLeft_20 (by decide) (fun h20 => ?_) (fun h20 => ?_)
    · refine lv_iconst (v := nI 0) hx hb dX6_isLegLeft_38 (by decide) ?_
      exact te_z (v := false) hC hG hr hk ⟨(congrArg bI (show false = fLegLeft 1 u g w from by simp [fLegLeft, mLo, h10, h20])), rfl⟩ dX6_isLegLeft_39
    · refine lv_aload_n hx hb dX6_isLegLeft_23 rfl (lv_at hl 0 rfl) ?_
      refine gf_M1_journal hC hG (hC.2.2.2.2 _ w109) dX6_isLegLeft_24 ?_
      refine lv_iload_n hx hb dX6_isLegLeft_27 rfl (lv_at hl 1 rfl) ?_
      refine k_J_counts hC hG g (by omega) (by omega) w339 ⟨by decide, by decide⟩ hl.1 (Nat.le_of_ble_eq_true rfl) dX6_isLegLeft_28 ⟨Nat.zero_le _, Nat.zero_le _⟩ (fun H locs hG => ?_)
      refine bb_eq (tgt := 38) hx hb dX6_isLegLeft_31 (by decide) (fun h31 => ?_) (fun h31 => ?_)
      · refine lv_iconst (v := nI 0) hx hb dX6_isLegLeft_38 (by decide) ?_
        exact te_z (v := false) hC hG hr hk ⟨(congrArg bI (show false = fLegLeft 1 u g w from by simp [fLegLeft, mLo, h10, h20, h31])), rfl⟩ dX6_isLegLeft_39
      · refine lv_iconst (v := nI 1) hx hb dX6_isLegLeft_34 (by decide) ?_
        refine lv_goto (tgt := 39) hx hb dX6_isLegLeft_35 (by decide) ?_
        exact te_z (v := true) hC hG hr hk ⟨(congrArg bI (show true = fLegLeft 1 u g w from by simp [fLegLeft, mLo, h10, h20, h31])), rfl⟩ dX6_isLegLeft_39
theorem k_M1_isLegLeft {p : Program} {l : Launch} {e : Env} {R : Room} {s : State} {m : MethodId} {args : Array Value} {below : List Frame} {meth : Method} {c : Code} {H : Heap} {locs : List Loc} {cs ss : Nat} {Q : State → Prop} {cc : ByteArray} {nL pc : Nat} {ls : Array Slot} {rest : List Value} {own : String} {idx : Nat} {D : va_G} {κ : ClassId × ClassId × ClassId} {a : Nat → Nat} {u : TS} {A : Nat → Prop} (hC : CallFix p m c cc nL s args WALL own) (hG : GW D κ a u A s H locs) (g : Nat) (w : Nat) (q1 : OK u) (q2 : g < J_legCount u) (q3 : w < 600) (wl : Cond.methodLink own idx yX6_isLegLeft ∈ WALL) (hR : 1 + 1 ≤ R.frames ∧ 8 + (3 + 11) + 21 ≤ R.locals) (hls : ls.size = nL) (h8 : (rest.map fun v => v.category).sum ≤ 8) (hd : decode cc pc = .ok (.invokevirtual idx, 3)) (hcs : cs ≤ R.cells ∧ ss ≤ R.slots) (kk : ∀ (H1 : Heap) (locs1 : List Loc), GW D κ a u A s H1 locs1 → W p l e R s m args below meth c H1 locs1 cs ss Q (F0 m (pc + 3) ls (.int (bI (fLegLeft 1 u g w)) :: rest))) : W p l e R s m args below meth c H locs cs ss Q (F0 m pc ls (.int (nI w) :: .int (nI g) :: .ref (a 9) :: rest)) :=
  tc_i hG (tr_V (n := 2) (k := 9) (ci := 6) (As := [.int (nI g), .int (nI w)]) hC hG (c_M1_isLegLeft l D κ a H.size u g w q1 q2 q3) rfl rfl wl w35 w337 w335 w336 (by decide +kernel) hR rfl hls rfl h8 hd hcs) (fun r u' H1 locs1 hq hG1 => by obtain ⟨rfl, rfl⟩ := hq; exact kk H1 locs1 hG1)


set_option maxHeartbeats 4000000 in
set_option maxRecDepth 100000 in
theorem c_M1_away (l : Launch) (D : va_G) (κ : ClassId × ClassId × ClassId) (a : Nat → Nat) (sz : Nat) (u : TS) (g : Nat) (x : Nat) (q1 : OK u) (q2 : g < J_legCount u) (q3 : x < LI_count u) : TM l yX6_away cX6_away 3 (some .int) 1 21 D κ a u sz [.ref (a 9), .int (nI g), .int (nI x)] (QI D κ a sz (fun r u' => r = (nI (fAway u g x)) ∧ u' = u)) := by
  refine TM.of (by decide +kernel) (Nat.le_of_ble_eq_true rfl) ?_
  intro p e s m below meth c ls hC hr hk hsz H locs hG hl
  have hx := hC.1
  have hb := hC.2.1
  have hl : lv_has ls 3 [(0, .ref (a 9)), (1, .int (nI g)), (2, .int (nI x))] := hl
  have qok := q1
  have ⟨n1, n2, n3, n4, n5, n6, n7, n8, n9, n10⟩ := qok.n
  have k1 := q1.leg q2
  have k2 := q1.line q3
  have k3 := q1.ent k1.1
  have k4 : fDayOf u g ≤ 364 := k3.2.1
  refine lv_aload_n hx hb dX6_away_0 rfl (lv_at hl 0 rfl) ?_
  refine gf_M1_journal hC hG (hC.2.2.2.2 _ w109) dX6_away_1 ?_
  refine lv_iload_n hx hb dX6_away_4 rfl (lv_at hl 1 rfl) ?_
  refine k_J_dayOf hC hG g (by omega) (by omega) w348 ⟨by decide, by decide⟩ hl.1 (Nat.le_of_ble_eq_true rfl) dX6_away_5 ⟨Nat.zero_le _, Nat.zero_le _⟩ (fun H locs hG => ?_)
  refine lv_aload_n hx hb dX6_away_8 rfl (lv_at hl 0 rfl) ?_
  refine gf_M1_lines hC hG (hC.2.2.2.2 _ w110) dX6_away_9 ?_
  refine gf_LI_day hC hG (hC.2.2.2.2 _ w344) dX6_away_12 ?_
  refine lv_iload_n hx hb dX6_away_15 rfl (lv_at hl 2 rfl) ?_
  refine al_LI_day hC hG (by omega) dX6_away_16 ?_
  refine lv_isub hx hb dX6_away_17 ?_
  refine va_mabs hx hb (hC.2.2.1.trans hl.1.symm) hC.2.2.2.1 (hC.2.2.2.2 _ w345) (hC.2.2.2.2 _ w346) (hC.2.2.2.2 _ w5) (hC.2.2.2.2 _ w347) (by decide) (by decide) (Nat.zero_le _) (Nat.zero_le _) dX6_away_18 ?_
  rw [absd_eq (by omega) (by omega)]
  refine W.eq (g2 := F0 m 21 ls [.int (nI (fAway u g x))]) rfl ?_
  exact te_i (v := (nI (fAway u g x))) hC hG hr hk ⟨rfl, rfl⟩ dX6_away_21
theorem k_M1_away {p : Program} {l : Launch} {e : Env} {R : Room} {s : State} {m : MethodId} {args : Array Value} {below : List Frame} {meth : Method} {c : Code} {H : Heap} {locs : List Loc} {cs ss : Nat} {Q : State → Prop} {cc : ByteArray} {nL pc : Nat} {ls : Array Slot} {rest : List Value} {own : String} {idx : Nat} {D : va_G} {κ : ClassId × ClassId × ClassId} {a : Nat → Nat} {u : TS} {A : Nat → Prop} (hC : CallFix p m c cc nL s args WALL own) (hG : GW D κ a u A s H locs) (g : Nat) (x : Nat) (q1 : OK u) (q2 : g < J_legCount u) (q3 : x < LI_count u) (wl : Cond.methodLink own idx yX6_away ∈ WALL) (hR : 1 + 1 ≤ R.frames ∧ 8 + (3 + 11) + 21 ≤ R.locals) (hls : ls.size = nL) (h8 : (rest.map fun v => v.category).sum ≤ 8) (hd : decode cc pc = .ok (.invokevirtual idx, 3)) (hcs : cs ≤ R.cells ∧ ss ≤ R.slots) (kk : ∀ (H1 : Heap) (locs1 : List Loc), GW D κ a u A s H1 locs1 → W p l e R s m args below meth c H1 locs1 cs ss Q (F0 m (pc + 3) ls (.int (nI (fAway u g x)) :: rest))) : W p l e R s m args below meth c H locs cs ss Q (F0 m pc ls (.int (nI x) :: .int (nI g) :: .ref (a 9) :: rest)) :=
  tc_i hG (tr_V (n := 2) (k := 9) (ci := 6) (As := [.int (nI g), .int (nI x)]) hC hG (c_M1_away l D κ a H.size u g x q1 q2 q3) rfl rfl wl w35 w343 w341 w342 (by decide +kernel) hR rfl hls rfl h8 hd hcs) (fun r u' H1 locs1 hq hG1 => by obtain ⟨rfl, rfl⟩ := hq; exact kk H1 locs1 hG1)


set_option maxHeartbeats 4000000 in
set_option maxRecDepth 100000 in
theorem c_M1_isNearer (l : Launch) (D : va_G) (κ : ClassId × ClassId × ClassId) (a : Nat → Nat) (sz : Nat) (u : TS) (g : Nat) (o : Nat) (x : Nat) (q1 : OK u) (q2 : g < J_legCount u) (q3 : o < J_legCount u) (q4 : x < LI_count u) : TM l yX6_isNearer cX6_isNearer 6 (some .boolean) 2 43 D κ a u sz [.ref (a 9), .int (nI g), .int (nI o), .int (nI x)] (QI D κ a sz (fun r u' => r = (bI (fNear u g o x)) ∧ u' = u)) := by
  refine TM.of (by decide +kernel) (Nat.le_of_ble_eq_true rfl) ?_
  intro p e s m below meth c ls hC hr hk hsz H locs hG hl
  have hx := hC.1
  have hb := hC.2.1
  have hl : lv_has ls 6 [(0, .ref (a 9)), (1, .int (nI g)), (2, .int (nI o)), (3, .int (nI x))] := hl
  have qok := q1
  have ⟨n1, n2, n3, n4, n5, n6, n7, n8, n9, n10⟩ := qok.n
  have k1 := q1.leg q2
  have k2 := q1.leg q3
  have k3 := q1.line q4
  have k4 := q1.ent k1.1
  have k5 := q1.ent k2.1
  have k6 : fDayOf u g ≤ 364 := k4.2.1
  have k7 : fDayOf u o ≤ 364 := k5.2.1
  have k8 : fAway u g x ≤ 364 := by unfold fAway; split <;> omega
  have k9 : fAway u o x ≤ 364 := by unfold fAway; split <;> omega
  refine lv_aload_n hx hb dX6_isNearer_0 rfl (lv_at hl 0 rfl) ?_
  refine lv_iload_n hx hb dX6_isNearer_1 rfl (lv_at hl 1 rfl) ?_
  refine lv_iload_n hx hb dX6_isNearer_2 rfl (lv_at hl 3 rfl) ?_
  refine k_M1_away hC hG g x (q1) (q2) (q4) w340 ⟨by decide, by decide⟩ hl.1 (Nat.le_of_ble_eq_true rfl) dX6_isNearer_3 ⟨Nat.zero_le _, Nat.zero_le _⟩ (fun H locs hG => ?_)
  refine lv_istore (lv' := [(4, .int (nI (fAway u g x))), (0, .ref (a 9)), (1, .int (nI g)), (2, .int (nI o)), (3, .int (nI x))]) hx hb dX6_isNearer_6 hl (by decide) rfl (fun ls hl => ?_)
  refine lv_aload_n hx hb dX6_isNearer_8 rfl (lv_at hl 1 rfl) ?_
  refine lv_iload_n hx hb dX6_isNearer_9 rfl (lv_at hl 3 rfl) ?_
  refine lv_iload_n hx hb dX6_isNearer_10 rfl (lv_at hl 4 rfl) ?_
  refine k_M1_away hC hG o x (q1) (q3) (q4) w340 ⟨by decide, by decide⟩ hl.1 (Nat.le_of_ble_eq_true rfl) dX6_isNearer_11 ⟨Nat.zero_le _, Nat.zero_le _⟩ (fun H locs hG => ?_)
  refine lv_istore (lv' := [(5, .int (nI (fAway u o x))), (4, .int (nI (fAway u g x))), (0, .ref (a 9)), (1, .int (nI g)), (2, .int (nI o)), (3, .int (nI x))]) hx hb dX6_isNearer_14 hl (by decide) rfl (fun ls hl => ?_)
  refine lv_iload hx hb dX6_isNearer_16 (lv_at hl 1 rfl) ?_
  refine lv_iload hx hb dX6_isNearer_18 (lv_at hl 0 rfl) ?_
  refine bn_lt (tgt := 49) hx hb (by omega) (by omega) dX6_isNearer_20 (by decide) (fun h20 => ?_) (fun h20 => ?_)
  · refine lv_iconst (v := nI 1) hx hb dX6_isNearer_49 (by decide) ?_
    refine lv_goto (tgt := 54) hx hb dX6_isNearer_50 (by decide) ?_
    exact te_z (v := true) hC hG hr hk ⟨(congrArg bI (show true = fNear u g o x from by simp [fNear, h20]; try omega)), rfl⟩ dX6_isNearer_54
  · refine lv_iload hx hb dX6_isNearer_23 (lv_at hl 1 rfl) ?_
    refine lv_iload hx hb dX6_isNearer_25 (lv_at hl 0 rfl) ?_
    refine bn_ne (tgt := 53) hx hb (by omega) (by omega) dX6_isNearer_27 (by decide) (fun h27 => ?_) (fun h27 => ?_)
    · refine lv_iconst (v := nI 0) hx hb dX6_isNearer_53 (by decide) ?_
      exact te_z (v := false) hC hG hr hk ⟨(congrArg bI (show false = fNear u g o x from by simp [fNear, h20, h27]; try omega)), rfl⟩ dX6_isNearer_54
    · refine lv_aload_n hx hb dX6_isNearer_30 rfl (lv_at hl 2 rfl) ?_
      refine gf_M1_journal hC hG (hC.2.2.2.2 _ w109) dX6_isNearer_31 ?_
      refine lv_iload_n hx hb dX6_isNearer_34 rfl (lv_at hl 3 rfl) ?_
      refine k_J_dayOf hC hG g (by omega) (by omega) w348 ⟨by decide, by decide⟩ hl.1 (Nat.le_of_ble_eq_true rfl) dX6_isNearer_35 ⟨Nat.zero_le _, Nat.zero_le _⟩ (fun H locs hG => ?_)
      refine lv_aload_n hx hb dX6_isNearer_38 rfl (lv_at hl 2 rfl) ?_
      refine gf_M1_journal hC hG (hC.2.2.2.2 _ w109) dX6_isNearer_39 ?_
      refine lv_iload_n hx hb dX6_isNearer_42 rfl (lv_at hl 4 rfl) ?_
      refine k_J_dayOf hC hG o (by omega) (by omega) w348 ⟨by decide, by decide⟩ hl.1 (Nat.le_of_ble_eq_true rfl) dX6_isNearer_43 ⟨Nat.zero_le _, Nat.zero_le _⟩ (fun H locs hG => ?_)
      refine bn_ge (tgt := 53) hx hb (by omega) (by omega) dX6_isNearer_46 (by decide) (fun h46 => ?_) (fun h46 => ?_)
      · refine lv_iconst (v := nI 0) hx hb dX6_isNearer_53 (by decide) ?_
        exact te_z (v := false) hC hG hr hk ⟨(congrArg bI (show false = fNear u g o x from by simp [fNear, h20, h27, h46]; try omega)), rfl⟩ dX6_isNearer_54
      · refine lv_iconst (v := nI 1) hx hb dX6_isNearer_49 (by decide) ?_
        refine lv_goto (tgt := 54) hx hb dX6_isNearer_50 (by decide) ?_
        exact te_z (v := true) hC hG hr hk ⟨(congrArg bI (show true = fNear u g o x from by simp [fNear, h20, h27, h46]; try omega)), rfl⟩ dX6_isNearer_54
theorem k_M1_isNearer {p : Program} {l : Launch} {e : Env} {R : Room} {s : State} {m : MethodId} {args : Array Value} {below : List Frame} {meth : Method} {c : Code} {H : Heap} {locs : List Loc} {cs ss : Nat} {Q : State → Prop} {cc : ByteArray} {nL pc : Nat} {ls : Array Slot} {rest : List Value} {own : String} {idx : Nat} {D : va_G} {κ : ClassId × ClassId × ClassId} {a : Nat → Nat} {u : TS} {A : Nat → Prop} (hC : CallFix p m c cc nL s args WALL own) (hG : GW D κ a u A s H locs) (g : Nat) (o : Nat) (x : Nat) (q1 : OK u) (q2 : g < J_legCount u) (q3 : o < J_legCount u) (q4 : x < LI_count u) (wl : Cond.methodLink own idx yX6_isNearer ∈ WALL) (hR : 2 + 1 ≤ R.frames ∧ 8 + (6 + 11) + 43 ≤ R.locals) (hls : ls.size = nL) (h8 : (rest.map fun v => v.category).sum ≤ 8) (hd : decode cc pc = .ok (.invokevirtual idx, 3)) (hcs : cs ≤ R.cells ∧ ss ≤ R.slots) (kk : ∀ (H1 : Heap) (locs1 : List Loc), GW D κ a u A s H1 locs1 → W p l e R s m args below meth c H1 locs1 cs ss Q (F0 m (pc + 3) ls (.int (bI (fNear u g o x)) :: rest))) : W p l e R s m args below meth c H locs cs ss Q (F0 m pc ls (.int (nI x) :: .int (nI o) :: .int (nI g) :: .ref (a 9) :: rest)) :=
  tc_i hG (tr_V (n := 3) (k := 9) (ci := 6) (As := [.int (nI g), .int (nI o), .int (nI x)]) hC hG (c_M1_isNearer l D κ a H.size u g o x q1 q2 q3 q4) rfl rfl wl w35 w352 w350 w351 (by decide +kernel) hR rfl hls rfl h8 hd hcs) (fun r u' H1 locs1 hq hG1 => by obtain ⟨rfl, rfl⟩ := hq; exact kk H1 locs1 hG1)


set_option maxHeartbeats 4000000 in
set_option maxRecDepth 100000 in
theorem c_M1_bind (l : Launch) (D : va_G) (κ : ClassId × ClassId × ClassId) (a : Nat → Nat) (sz : Nat) (u : TS) (x : Nat) (f : Nat) (sc : Option Nat) (q1 : OK u) (q2 : x < LI_count u) (q3 : f < J_legCount u) (q4 : ∀ g, sc = some g → g < J_legCount u) : TM l yX6_bind cX6_bind 4 none 0 0 D κ a u sz [.ref (a 9), .int (nI x), .int (nI f), .int (oI sc)] (QV D κ a sz (fun u' => u' = fBind 1 u x f sc)) := by
  refine TM.of (by decide +kernel) (Nat.le_of_ble_eq_true rfl) ?_
  intro p e s m below meth c ls hC hr hk hsz H locs hG hl
  have hx := hC.1
  have hb := hC.2.1
  have hl : lv_has ls 4 [(0, .ref (a 9)), (1, .int (nI x)), (2, .int (nI f)), (3, .int (oI sc))] := hl
  have qok := q1
  have ⟨n1, n2, n3, n4, n5, n6, n7, n8, n9, n10⟩ := qok.n
  refine lv_aload_n hx hb dX6_bind_0 rfl (lv_at hl 0 rfl) ?_
  refine gf_M1_firstOfLine hC hG (hC.2.2.2.2 _ w107) dX6_bind_1 ?_
  refine lv_iload_n hx hb dX6_bind_4 rfl (lv_at hl 1 rfl) ?_
  refine lv_iload_n hx hb dX6_bind_5 rfl (lv_at hl 2 rfl) ?_
  refine W.eq (g2 := F0 m 6 ls [.int (oI (some f)), .int (nI x), .ref (a 43)]) rfl ?_
  refine as_M1_firstOfLine hC hG (by omega) dX6_bind_6 (fun H locs hG => ?_)
  refine lv_aload_n hx hb dX6_bind_7 rfl (lv_at hl 0 rfl) ?_
  refine gf_M1_secondOfLine hC hG (hC.2.2.2.2 _ w108) dX6_bind_8 ?_
  refine lv_iload_n hx hb dX6_bind_11 rfl (lv_at hl 1 rfl) ?_
  refine lv_iload_n hx hb dX6_bind_12 rfl (lv_at hl 3 rfl) ?_
  refine as_M1_secondOfLine hC hG (by omega) dX6_bind_13 (fun H locs hG => ?_)
  refine lv_aload_n hx hb dX6_bind_14 rfl (lv_at hl 0 rfl) ?_
  refine gf_M1_lineOfLeg hC hG (hC.2.2.2.2 _ w106) dX6_bind_15 ?_
  refine lv_iload_n hx hb dX6_bind_18 rfl (lv_at hl 2 rfl) ?_
  refine lv_iload_n hx hb dX6_bind_19 rfl (lv_at hl 1 rfl) ?_
  refine W.eq (g2 := F0 m 20 ls [.int (oI (some x)), .int (nI f), .ref (a 42)]) rfl ?_
  refine as_M1_lineOfLeg hC hG (by omega) dX6_bind_20 (fun H locs hG => ?_)
  refine lv_iload_n hx hb dX6_bind_21 rfl (lv_at hl 3 rfl) ?_
  refine lv_iconst (v := -1) hx hb dX6_bind_22 (by decide) ?_
  refine bo_eq (tgt := 33) hx hb (by intro j9 e9; have := q4 j9 e9; omega) dX6_bind_23 (by decide) (fun h23 => ?_) (fun h23 => ?_)
  · exact te_v hC hG hr hk (by subst h23; rfl) dX6_bind_33
  · obtain ⟨j, rfl⟩ := Option.ne_none_iff_exists'.mp h23
    have k1 := q4 j rfl
    have hl : lv_has ls 4 [(0, .ref (a 9)), (1, .int (nI x)), (2, .int (nI f)), (3, .int (nI j))] := hl
    refine lv_aload_n hx hb dX6_bind_26 rfl (lv_at hl 0 rfl) ?_
    refine gf_M1_lineOfLeg hC hG (hC.2.2.2.2 _ w106) dX6_bind_27 ?_
    refine lv_iload_n hx hb dX6_bind_30 rfl (lv_at hl 3 rfl) ?_
    refine lv_iload_n hx hb dX6_bind_31 rfl (lv_at hl 1 rfl) ?_
    refine W.eq (g2 := F0 m 32 ls [.int (oI (some x)), .int (nI j), .ref (a 42)]) rfl ?_
    refine as_M1_lineOfLeg hC hG (by omega) dX6_bind_32 (fun H locs hG => ?_)
    exact te_v hC hG hr hk (by rfl) dX6_bind_33
theorem k_M1_bind {p : Program} {l : Launch} {e : Env} {R : Room} {s : State} {m : MethodId} {args : Array Value} {below : List Frame} {meth : Method} {c : Code} {H : Heap} {locs : List Loc} {cs ss : Nat} {Q : State → Prop} {cc : ByteArray} {nL pc : Nat} {ls : Array Slot} {rest : List Value} {own : String} {idx : Nat} {D : va_G} {κ : ClassId × ClassId × ClassId} {a : Nat → Nat} {u : TS} {A : Nat → Prop} (hC : CallFix p m c cc nL s args WALL own) (hG : GW D κ a u A s H locs) (x : Nat) (f : Nat) (sc : Option Nat) (q1 : OK u) (q2 : x < LI_count u) (q3 : f < J_legCount u) (q4 : ∀ g, sc = some g → g < J_legCount u) (wl : Cond.methodLink own idx yX6_bind ∈ WALL) (hR : 0 + 1 ≤ R.frames ∧ 8 + (4 + 11) + 0 ≤ R.locals) (hls : ls.size = nL) (h8 : (rest.map fun v => v.category).sum ≤ 8) (hd : decode cc pc = .ok (.invokevirtual idx, 3)) (hcs : cs ≤ R.cells ∧ ss ≤ R.slots) (kk : ∀ (H1 : Heap) (locs1 : List Loc), GW D κ a (fBind 1 u x f sc) A s H1 locs1 → W p l e R s m args below meth c H1 locs1 cs ss Q (F0 m (pc + 3) ls (rest))) : W p l e R s m args below meth c H locs cs ss Q (F0 m pc ls (.int (oI sc) :: .int (nI f) :: .int (nI x) :: .ref (a 9) :: rest)) :=
  tc_v hG (tr_V (n := 3) (k := 9) (ci := 6) (As := [.int (nI x), .int (nI f), .int (oI sc)]) hC hG (c_M1_bind l D κ a H.size u x f sc q1 q2 q3 q4) rfl rfl wl w35 w356 w354 w355 (by decide +kernel) hR rfl hls rfl h8 hd hcs) (fun u' H1 locs1 hq hG1 => by subst hq; exact kk H1 locs1 hG1)


set_option maxHeartbeats 4000000 in
set_option maxRecDepth 100000 in
theorem c_M1_freeLine (l : Launch) (D : va_G) (κ : ClassId × ClassId × ClassId) (a : Nat → Nat) (sz : Nat) (u : TS) (x : Nat) (q1 : OK u) (q2 : x < LI_count u) : TM l yX6_freeLine cX6_freeLine 2 none 0 0 D κ a u sz [.ref (a 9), .int (nI x)] (QV D κ a sz (fun u' => u' = fFree 1 u x)) := by
  refine TM.of (by decide +kernel) (Nat.le_of_ble_eq_true rfl) ?_
  intro p e s m below meth c ls hC hr hk hsz H locs hG hl
  have hx := hC.1
  have hb := hC.2.1
  have hl : lv_has ls 2 [(0, .ref (a 9)), (1, .int (nI x))] := hl
  have qok := q1
  have ⟨n1, n2, n3, n4, n5, n6, n7, n8, n9, n10⟩ := qok.n
  have k1 := (q1.m1).2.1 x
  have k2 := (q1.m1).2.2 x
  refine lv_aload_n hx hb dX6_freeLine_0 rfl (lv_at hl 0 rfl) ?_
  refine gf_M1_firstOfLine hC hG (hC.2.2.2.2 _ w107) dX6_freeLine_1 ?_
  refine lv_iload_n hx hb dX6_freeLine_4 rfl (lv_at hl 1 rfl) ?_
  refine al_M1_firstOfLine hC hG (by omega) dX6_freeLine_5 ?_
  refine lv_iconst (v := -1) hx hb dX6_freeLine_6 (by decide) ?_
  refine bo_eq (tgt := 22) hx hb (by intro j9 e9; have := k1 j9 e9; omega) dX6_freeLine_7 (by decide) (fun h7 => ?_) (fun h7 => ?_)
  · refine lv_aload_n hx hb dX6_freeLine_22 rfl (lv_at hl 0 rfl) ?_
    refine gf_M1_secondOfLine hC hG (hC.2.2.2.2 _ w108) dX6_freeLine_23 ?_
    refine lv_iload_n hx hb dX6_freeLine_26 rfl (lv_at hl 1 rfl) ?_
    refine al_M1_secondOfLine hC hG (by omega) dX6_freeLine_27 ?_
    refine lv_iconst (v := -1) hx hb dX6_freeLine_28 (by decide) ?_
    refine bo_eq (tgt := 44) hx hb (by intro j9 e9; have := k2 j9 e9; omega) dX6_freeLine_29 (by decide) (fun h29 => ?_) (fun h29 => ?_)
    · refine lv_aload_n hx hb dX6_freeLine_44 rfl (lv_at hl 0 rfl) ?_
      refine gf_M1_firstOfLine hC hG (hC.2.2.2.2 _ w107) dX6_freeLine_45 ?_
      refine lv_iload_n hx hb dX6_freeLine_48 rfl (lv_at hl 1 rfl) ?_
      refine lv_iconst (v := -1) hx hb dX6_freeLine_49 (by decide) ?_
      refine W.eq (g2 := F0 m 50 ls [.int (oI none), .int (nI x), .ref (a 43)]) rfl ?_
      refine as_M1_firstOfLine hC hG (by omega) dX6_freeLine_50 (fun H locs hG => ?_)
      refine lv_aload_n hx hb dX6_freeLine_51 rfl (lv_at hl 0 rfl) ?_
      refine gf_M1_secondOfLine hC hG (hC.2.2.2.2 _ w108) dX6_freeLine_52 ?_
      refine lv_iload_n hx hb dX6_freeLine_55 rfl (lv_at hl 1 rfl) ?_
      refine lv_iconst (v := -1) hx hb dX6_freeLine_56 (by decide) ?_
      refine W.eq (g2 := F0 m 57 ls [.int (oI none), .int (nI x), .ref (a 44)]) rfl ?_
      refine as_M1_secondOfLine hC hG (by omega) dX6_freeLine_57 (fun H locs hG => ?_)
      exact te_v hC hG hr hk (by unfold fFree; rw [show mFi 1 u x = _ from h7, show mSe 1 u x = _ from h29]; rfl) dX6_freeLine_58
    · obtain ⟨i, ei⟩ := Option.ne_none_iff_exists'.mp h29
      have bi := k2 i ei
      refine lv_aload_n hx hb dX6_freeLine_32 rfl (lv_at hl 0 rfl) ?_
      refine gf_M1_lineOfLeg hC hG (hC.2.2.2.2 _ w106) dX6_freeLine_33 ?_
      refine lv_aload_n hx hb dX6_freeLine_36 rfl (lv_at hl 0 rfl) ?_
      refine gf_M1_secondOfLine hC hG (hC.2.2.2.2 _ w108) dX6_freeLine_37 ?_
      refine lv_iload_n hx hb dX6_freeLine_40 rfl (lv_at hl 1 rfl) ?_
      refine al_M1_secondOfLine hC hG (by omega) dX6_freeLine_41 ?_
      rw [ei]
      refine W.eq (g2 := F0 m 42 ls [.int (nI i), .ref (a 42)]) rfl ?_
      refine lv_iconst (v := -1) hx hb dX6_freeLine_42 (by decide) ?_
      refine W.eq (g2 := F0 m 43 ls [.int (oI none), .int (nI i), .ref (a 42)]) rfl ?_
      refine as_M1_lineOfLeg hC hG (by omega) dX6_freeLine_43 (fun H locs hG => ?_)
      refine lv_aload_n hx hb dX6_freeLine_44 rfl (lv_at hl 0 rfl) ?_
      refine gf_M1_firstOfLine hC hG (hC.2.2.2.2 _ w107) dX6_freeLine_45 ?_
      refine lv_iload_n hx hb dX6_freeLine_48 rfl (lv_at hl 1 rfl) ?_
      refine lv_iconst (v := -1) hx hb dX6_freeLine_49 (by decide) ?_
      refine W.eq (g2 := F0 m 50 ls [.int (oI none), .int (nI x), .ref (a 43)]) rfl ?_
      refine as_M1_firstOfLine hC hG (by omega) dX6_freeLine_50 (fun H locs hG => ?_)
      refine lv_aload_n hx hb dX6_freeLine_51 rfl (lv_at hl 0 rfl) ?_
      refine gf_M1_secondOfLine hC hG (hC.2.2.2.2 _ w108) dX6_freeLine_52 ?_
      refine lv_iload_n hx hb dX6_freeLine_55 rfl (lv_at hl 1 rfl) ?_
      refine lv_iconst (v := -1) hx hb dX6_freeLine_56 (by decide) ?_
      refine W.eq (g2 := F0 m 57 ls [.int (oI none), .int (nI x), .ref (a 44)]) rfl ?_
      refine as_M1_secondOfLine hC hG (by omega) dX6_freeLine_57 (fun H locs hG => ?_)
      exact te_v hC hG hr hk (by unfold fFree; rw [show mFi 1 u x = _ from h7, show mSe 1 u x = _ from ei]; rfl) dX6_freeLine_58
  · obtain ⟨j, ej⟩ := Option.ne_none_iff_exists'.mp h7
    have bj := k1 j ej
    refine lv_aload_n hx hb dX6_freeLine_10 rfl (lv_at hl 0 rfl) ?_
    refine gf_M1_lineOfLeg hC hG (hC.2.2.2.2 _ w106) dX6_freeLine_11 ?_
    refine lv_aload_n hx hb dX6_freeLine_14 rfl (lv_at hl 0 rfl) ?_
    refine gf_M1_firstOfLine hC hG (hC.2.2.2.2 _ w107) dX6_freeLine_15 ?_
    refine lv_iload_n hx hb dX6_freeLine_18 rfl (lv_at hl 1 rfl) ?_
    refine al_M1_firstOfLine hC hG (by omega) dX6_freeLine_19 ?_
    rw [ej]
    refine W.eq (g2 := F0 m 20 ls [.int (nI j), .ref (a 42)]) rfl ?_
    refine lv_iconst (v := -1) hx hb dX6_freeLine_20 (by decide) ?_
    refine W.eq (g2 := F0 m 21 ls [.int (oI none), .int (nI j), .ref (a 42)]) rfl ?_
    refine as_M1_lineOfLeg hC hG (by omega) dX6_freeLine_21 (fun H locs hG => ?_)
    refine lv_aload_n hx hb dX6_freeLine_22 rfl (lv_at hl 0 rfl) ?_
    refine gf_M1_secondOfLine hC hG (hC.2.2.2.2 _ w108) dX6_freeLine_23 ?_
    refine lv_iload_n hx hb dX6_freeLine_26 rfl (lv_at hl 1 rfl) ?_
    refine al_M1_secondOfLine hC hG (by omega) dX6_freeLine_27 ?_
    refine W.eq (g2 := F0 m 28 ls [.int (oI (M1_secondOfLine u x))]) rfl ?_
    refine lv_iconst (v := -1) hx hb dX6_freeLine_28 (by decide) ?_
    refine bo_eq (tgt := 44) hx hb (by intro j9 e9; have := k2 j9 e9; omega) dX6_freeLine_29 (by decide) (fun h29 => ?_) (fun h29 => ?_)
    · refine lv_aload_n hx hb dX6_freeLine_44 rfl (lv_at hl 0 rfl) ?_
      refine gf_M1_firstOfLine hC hG (hC.2.2.2.2 _ w107) dX6_freeLine_45 ?_
      refine lv_iload_n hx hb dX6_freeLine_48 rfl (lv_at hl 1 rfl) ?_
      refine lv_iconst (v := -1) hx hb dX6_freeLine_49 (by decide) ?_
      refine W.eq (g2 := F0 m 50 ls [.int (oI none), .int (nI x), .ref (a 43)]) rfl ?_
      refine as_M1_firstOfLine hC hG (by omega) dX6_freeLine_50 (fun H locs hG => ?_)
      refine lv_aload_n hx hb dX6_freeLine_51 rfl (lv_at hl 0 rfl) ?_
      refine gf_M1_secondOfLine hC hG (hC.2.2.2.2 _ w108) dX6_freeLine_52 ?_
      refine lv_iload_n hx hb dX6_freeLine_55 rfl (lv_at hl 1 rfl) ?_
      refine lv_iconst (v := -1) hx hb dX6_freeLine_56 (by decide) ?_
      refine W.eq (g2 := F0 m 57 ls [.int (oI none), .int (nI x), .ref (a 44)]) rfl ?_
      refine as_M1_secondOfLine hC hG (by omega) dX6_freeLine_57 (fun H locs hG => ?_)
      exact te_v hC hG hr hk (by unfold fFree; rw [show mFi 1 u x = _ from ej, show mSe 1 u x = _ from h29]; rfl) dX6_freeLine_58
    · obtain ⟨i, ei⟩ := Option.ne_none_iff_exists'.mp h29
      have bi := k2 i ei
      refine lv_aload_n hx hb dX6_freeLine_32 rfl (lv_at hl 0 rfl) ?_
      refine gf_M1_lineOfLeg hC hG (hC.2.2.2.2 _ w106) dX6_freeLine_33 ?_
      refine lv_aload_n hx hb dX6_freeLine_36 rfl (lv_at hl 0 rfl) ?_
      refine gf_M1_secondOfLine hC hG (hC.2.2.2.2 _ w108) dX6_freeLine_37 ?_
      refine lv_iload_n hx hb dX6_freeLine_40 rfl (lv_at hl 1 rfl) ?_
      refine al_M1_secondOfLine hC hG (by omega) dX6_freeLine_41 ?_
      refine W.eq (g2 := F0 m 42 ls [.int (oI (M1_secondOfLine u x)), .ref (a 42)]) rfl ?_
      rw [ei]
      refine W.eq (g2 := F0 m 42 ls [.int (nI i), .ref (a 42)]) rfl ?_
      refine lv_iconst (v := -1) hx hb dX6_freeLine_42 (by decide) ?_
      refine W.eq (g2 := F0 m 43 ls [.int (oI none), .int (nI i), .ref (a 42)]) rfl ?_
      refine as_M1_lineOfLeg hC hG (by omega) dX6_freeLine_43 (fun H locs hG => ?_)
      refine lv_aload_n hx hb dX6_freeLine_44 rfl (lv_at hl 0 rfl) ?_
      refine gf_M1_firstOfLine hC hG (hC.2.2.2.2 _ w107) dX6_freeLine_45 ?_
      refine lv_iload_n hx hb dX6_freeLine_48 rfl (lv_at hl 1 rfl) ?_
      refine lv_iconst (v := -1) hx hb dX6_freeLine_49 (by decide) ?_
      refine W.eq (g2 := F0 m 50 ls [.int (oI none), .int (nI x), .ref (a 43)]) rfl ?_
      refine as_M1_firstOfLine hC hG (by omega) dX6_freeLine_50 (fun H locs hG => ?_)
      refine lv_aload_n hx hb dX6_freeLine_51 rfl (lv_at hl 0 rfl) ?_
      refine gf_M1_secondOfLine hC hG (hC.2.2.2.2 _ w108) dX6_freeLine_52 ?_
      refine lv_iload_n hx hb dX6_freeLine_55 rfl (lv_at hl 1 rfl) ?_
      refine lv_iconst (v := -1) hx hb dX6_freeLine_56 (by decide) ?_
      refine W.eq (g2 := F0 m 57 ls [.int (oI none), .int (nI x), .ref (a 44)]) rfl ?_
      refine as_M1_secondOfLine hC hG (by omega) dX6_freeLine_57 (fun H locs hG => ?_)
      exact te_v hC hG hr hk (by unfold fFree; rw [show mFi 1 u x = _ from ej, show mSe 1 u x = _ from ei]; rfl) dX6_freeLine_58
theorem k_M1_freeLine {p : Program} {l : Launch} {e : Env} {R : Room} {s : State} {m : MethodId} {args : Array Value} {below : List Frame} {meth : Method} {c : Code} {H : Heap} {locs : List Loc} {cs ss : Nat} {Q : State → Prop} {cc : ByteArray} {nL pc : Nat} {ls : Array Slot} {rest : List Value} {own : String} {idx : Nat} {D : va_G} {κ : ClassId × ClassId × ClassId} {a : Nat → Nat} {u : TS} {A : Nat → Prop} (hC : CallFix p m c cc nL s args WALL own) (hG : GW D κ a u A s H locs) (x : Nat) (q1 : OK u) (q2 : x < LI_count u) (wl : Cond.methodLink own idx yX6_freeLine ∈ WALL) (hR : 0 + 1 ≤ R.frames ∧ 8 + (2 + 11) + 0 ≤ R.locals) (hls : ls.size = nL) (h8 : (rest.map fun v => v.category).sum ≤ 8) (hd : decode cc pc = .ok (.invokevirtual idx, 3)) (hcs : cs ≤ R.cells ∧ ss ≤ R.slots) (kk : ∀ (H1 : Heap) (locs1 : List Loc), GW D κ a (fFree 1 u x) A s H1 locs1 → W p l e R s m args below meth c H1 locs1 cs ss Q (F0 m (pc + 3) ls (rest))) : W p l e R s m args below meth c H locs cs ss Q (F0 m pc ls (.int (nI x) :: .ref (a 9) :: rest)) :=
  tc_v hG (tr_V (n := 1) (k := 9) (ci := 6) (As := [.int (nI x)]) hC hG (c_M1_freeLine l D κ a H.size u x q1 q2) rfl rfl wl w35 w291 w289 w290 (by decide +kernel) hR rfl hls rfl h8 hd hcs) (fun u' H1 locs1 hq hG1 => by subst hq; exact kk H1 locs1 hG1)


set_option maxHeartbeats 4000000 in
set_option maxRecDepth 100000 in
theorem c_M1_linesLeft (l : Launch) (D : va_G) (κ : ClassId × ClassId × ClassId) (a : Nat → Nat) (sz : Nat) (u : TS) (w : Nat) (q1 : OK u) (q2 : w < 600) : TM l yX6_linesLeft cX6_linesLeft 4 (some .int) 1 22 D κ a u sz [.ref (a 9), .int (nI w)] (QI D κ a sz (fun r u' => r = (nI (fLLeft 1 u w (LI_count u))) ∧ u' = u)) := by
  refine TM.of (by decide +kernel) (Nat.le_of_ble_eq_true rfl) ?_
  intro p e s m below meth c ls hC hr hk hsz H locs hG hl
  have hx := hC.1
  have hb := hC.2.1
  have hl : lv_has ls 4 [(0, .ref (a 9)), (1, .int (nI w))] := hl
  have qok := q1
  have ⟨n1, n2, n3, n4, n5, n6, n7, n8, n9, n10⟩ := qok.n
  refine lv_iconst (v := nI 0) hx hb dX6_linesLeft_0 (by decide) ?_
  refine lv_istore_n (lv' := [(2, .int (nI 0)), (0, .ref (a 9)), (1, .int (nI w))]) hx hb dX6_linesLeft_1 rfl hl (by decide) rfl (fun ls hl => ?_)
  refine lv_iconst (v := nI 0) hx hb dX6_linesLeft_2 (by decide) ?_
  refine lv_istore_n (lv' := [(3, .int (nI 0)), (2, .int (nI 0)), (0, .ref (a 9)), (1, .int (nI w))]) hx hb dX6_linesLeft_3 rfl hl (by decide) rfl (fun ls hl => ?_)
  have lp4 : ∀ (n : Nat) (i : Nat), LI_count u - i < n → (i ≤ LI_count u) → ∀ (H : Heap) (locs : List Loc), GW D κ a u (AA a sz) s H locs → ∀ ls : Array Slot, lv_has ls 4 [(3, .int (nI i)), (2, .int (nI (fLLeft 1 u w i))), (0, .ref (a 9)), (1, .int (nI w))] → W p l e { frames := 1, cells := 0, slots := 0, locals := 22 } s m [.ref (a 9), .int (nI w)].toArray below meth c H locs 0 0 (MQ below (QI D κ a sz (fun r u' => r = (nI (fLLeft 1 u w (LI_count u))) ∧ u' = u)) [.ref (a 9), .int (nI w)].toArray s 0 0 (AA a sz)) (F0 m 4 ls []) := by
    intro n
    induction n with
    | zero =>
      intro i hm
      exact absurd hm (Nat.not_lt_zero _)
    | succ n ih4 =>
      intro i hm4 c4_1 H locs hG ls hl
      have f1 := fLLeft_le 1 u w i
      refine lv_iload_n hx hb dX6_linesLeft_4 rfl (lv_at hl 0 rfl) ?_
      refine lv_aload_n hx hb dX6_linesLeft_5 rfl (lv_at hl 2 rfl) ?_
      refine gf_M1_lines hC hG (hC.2.2.2.2 _ w110) dX6_linesLeft_6 ?_
      refine gf_LI_count hC hG (hC.2.2.2.2 _ w320) dX6_linesLeft_9 ?_
      refine bn_ge (tgt := 33) hx hb (by omega) (by omega) dX6_linesLeft_12 (by decide) (fun h12 => ?_) (fun h12 => ?_)
      · refine lv_iload_n hx hb dX6_linesLeft_33 rfl (lv_at hl 1 rfl) ?_
        have hi : i = LI_count u := by omega
        exact te_i (v := (nI (fLLeft 1 u w i))) hC hG hr hk ⟨(congrArg nI (show fLLeft 1 u w i = fLLeft 1 u w (LI_count u) from by rw [hi])), rfl⟩ dX6_linesLeft_34
      · refine lv_aload_n hx hb dX6_linesLeft_15 rfl (lv_at hl 2 rfl) ?_
        refine lv_iload_n hx hb dX6_linesLeft_16 rfl (lv_at hl 0 rfl) ?_
        refine lv_iload_n hx hb dX6_linesLeft_17 rfl (lv_at hl 3 rfl) ?_
        refine k_M1_isLeft hC hG i w (q1) (by omega) (by omega) w323 ⟨by decide, by decide⟩ hl.1 (Nat.le_of_ble_eq_true rfl) dX6_linesLeft_18 ⟨Nat.zero_le _, Nat.zero_le _⟩ (fun H locs hG => ?_)
        refine bb_eq (tgt := 27) hx hb dX6_linesLeft_21 (by decide) (fun h21 => ?_) (fun h21 => ?_)
        · refine lv_iinc (v := (nI (i + 1))) (lv' := [(3, .int (nI (i + 1))), (2, .int (nI (fLLeft 1 u w i))), (0, .ref (a 9)), (1, .int (nI w))]) hx hb dX6_linesLeft_27 hl (k := 0) rfl (nI_1 _) (by decide) rfl (fun ls hl => ?_)
          refine lv_goto (tgt := 4) hx hb dX6_linesLeft_30 (by decide) ?_
          have e4_1 : fLLeft 1 u w (i + 1) = fLLeft 1 u w i := by simp [fLLeft, h12, h21]
          have hl : lv_has ls 4 [(3, .int (nI (i + 1))), (2, .int (nI (fLLeft 1 u w (i + 1)))), (0, .ref (a 9)), (1, .int (nI w))] := by rw [e4_1]; exact hl
          exact ih4  (i + 1) (by omega) (by omega) H locs hG ls (lv_sub hl [0, 1, 2, 3] rfl)
        · refine lv_iinc (v := (nI (fLLeft 1 u w i + 1))) (lv' := [(2, .int (nI (fLLeft 1 u w i + 1))), (3, .int (nI i)), (0, .ref (a 9)), (1, .int (nI w))]) hx hb dX6_linesLeft_24 hl (k := 1) rfl (nI_1 _) (by decide) rfl (fun ls hl => ?_)
          refine lv_iinc (v := (nI (i + 1))) (lv' := [(3, .int (nI (i + 1))), (2, .int (nI (fLLeft 1 u w i + 1))), (0, .ref (a 9)), (1, .int (nI w))]) hx hb dX6_linesLeft_27 hl (k := 1) rfl (nI_1 _) (by decide) rfl (fun ls hl => ?_)
          refine lv_goto (tgt := 4) hx hb dX6_linesLeft_30 (by decide) ?_
          have e4_2 : fLLeft 1 u w (i + 1) = (fLLeft 1 u w i + 1) := by simp [fLLeft, h12, h21]
          have hl : lv_has ls 4 [(3, .int (nI (i + 1))), (2, .int (nI (fLLeft 1 u w (i + 1)))), (0, .ref (a 9)), (1, .int (nI w))] := by rw [e4_2]; exact hl
          exact ih4  (i + 1) (by omega) (by omega) H locs hG ls (lv_sub hl [0, 1, 2, 3] rfl)
  have e4_3 : fLLeft 1 u w 0 = 0 := by rfl
  have hl : lv_has ls 4 [(3, .int (nI 0)), (2, .int (nI (fLLeft 1 u w 0))), (0, .ref (a 9)), (1, .int (nI w))] := by rw [e4_3]; exact hl
  exact lp4 _ 0 (Nat.lt_succ_self _) (by omega) H locs hG ls (lv_sub hl [0, 1, 2, 3] rfl)
theorem k_M1_linesLeft {p : Program} {l : Launch} {e : Env} {R : Room} {s : State} {m : MethodId} {args : Array Value} {below : List Frame} {meth : Method} {c : Code} {H : Heap} {locs : List Loc} {cs ss : Nat} {Q : State → Prop} {cc : ByteArray} {nL pc : Nat} {ls : Array Slot} {rest : List Value} {own : String} {idx : Nat} {D : va_G} {κ : ClassId × ClassId × ClassId} {a : Nat → Nat} {u : TS} {A : Nat → Prop} (hC : CallFix p m c cc nL s args WALL own) (hG : GW D κ a u A s H locs) (w : Nat) (q1 : OK u) (q2 : w < 600) (wl : Cond.methodLink own idx yX6_linesLeft ∈ WALL) (hR : 1 + 1 ≤ R.frames ∧ 8 + (4 + 11) + 22 ≤ R.locals) (hls : ls.size = nL) (h8 : (rest.map fun v => v.category).sum ≤ 8) (hd : decode cc pc = .ok (.invokevirtual idx, 3)) (hcs : cs ≤ R.cells ∧ ss ≤ R.slots) (kk : ∀ (H1 : Heap) (locs1 : List Loc), GW D κ a u A s H1 locs1 → W p l e R s m args below meth c H1 locs1 cs ss Q (F0 m (pc + 3) ls (.int (nI (fLLeft 1 u w (LI_count u))) :: rest))) : W p l e R s m args below meth c H locs cs ss Q (F0 m pc ls (.int (nI w) :: .ref (a 9) :: rest)) :=
  tc_i hG (tr_V (n := 1) (k := 9) (ci := 6) (As := [.int (nI w)]) hC hG (c_M1_linesLeft l D κ a H.size u w q1 q2) rfl rfl wl w35 w372 w370 w371 (by decide +kernel) hR rfl hls rfl h8 hd hcs) (fun r u' H1 locs1 hq hG1 => by obtain ⟨rfl, rfl⟩ := hq; exact kk H1 locs1 hG1)


set_option maxHeartbeats 4000000 in
set_option maxRecDepth 100000 in
theorem c_M1_bindNearest (l : Launch) (D : va_G) (κ : ClassId × ClassId × ClassId) (a : Nat → Nat) (sz : Nat) (u : TS) (x : Nat) (dd : Nat) (q1 : OK u) (q2 : x < LI_count u) (q3 : dd < 600) : TM l yX6_bindNearest cX6_bindNearest 5 none 3 68 D κ a u sz [.ref (a 9), .int (nI x), .int (nI dd)] (QV D κ a sz (fun u' => u' = fNst 1 u x dd)) := by
  refine TM.of (by decide +kernel) (Nat.le_of_ble_eq_true rfl) ?_
  intro p e s m below meth c ls hC hr hk hsz H locs hG hl
  have hx := hC.1
  have hb := hC.2.1
  have hl : lv_has ls 5 [(0, .ref (a 9)), (1, .int (nI x)), (2, .int (nI dd))] := hl
  have qok := q1
  have ⟨n1, n2, n3, n4, n5, n6, n7, n8, n9, n10⟩ := qok.n
  have k0 := q1.line q2
  refine lv_iconst (v := -1) hx hb dX6_bindNearest_0 (by decide) ?_
  refine lv_istore_n (lv' := [(3, .int (-1)), (0, .ref (a 9)), (1, .int (nI x)), (2, .int (nI dd))]) hx hb dX6_bindNearest_1 rfl hl (by decide) rfl (fun ls hl => ?_)
  refine lv_iconst (v := nI 0) hx hb dX6_bindNearest_2 (by decide) ?_
  refine lv_istore (lv' := [(4, .int (nI 0)), (3, .int (-1)), (0, .ref (a 9)), (1, .int (nI x)), (2, .int (nI dd))]) hx hb dX6_bindNearest_3 hl (by decide) rfl (fun ls hl => ?_)
  have lp5 : ∀ (n : Nat) (i : Nat), J_legCount u - i < n → (i ≤ J_legCount u) → ∀ (H : Heap) (locs : List Loc), GW D κ a u (AA a sz) s H locs → ∀ ls : Array Slot, lv_has ls 5 [(4, .int (nI i)), (3, .int (oI (fBest 1 u x dd i))), (0, .ref (a 9)), (1, .int (nI x)), (2, .int (nI dd))] → W p l e { frames := 3, cells := 0, slots := 0, locals := 68 } s m [.ref (a 9), .int (nI x), .int (nI dd)].toArray below meth c H locs 0 0 (MQ below (QV D κ a sz (fun u' => u' = fNst 1 u x dd)) [.ref (a 9), .int (nI x), .int (nI dd)].toArray s 0 0 (AA a sz)) (F0 m 5 ls []) := by
    intro n
    induction n with
    | zero =>
      intro i hm
      exact absurd hm (Nat.not_lt_zero _)
    | succ n ih5 =>
      intro i hm5 c5_1 H locs hG ls hl
      have f1 := fBest_lt 1 u x dd i
      refine lv_iload hx hb dX6_bindNearest_5 (lv_at hl 0 rfl) ?_
      refine lv_aload_n hx hb dX6_bindNearest_7 rfl (lv_at hl 2 rfl) ?_
      refine gf_M1_journal hC hG (hC.2.2.2.2 _ w109) dX6_bindNearest_8 ?_
      refine gf_J_legCount hC hG (hC.2.2.2.2 _ w331) dX6_bindNearest_11 ?_
      refine bn_ge (tgt := 95) hx hb (by omega) (by omega) dX6_bindNearest_14 (by decide) (fun h14 => ?_) (fun h14 => ?_)
      · refine lv_iload_n hx hb dX6_bindNearest_95 rfl (lv_at hl 1 rfl) ?_
        refine lv_iconst (v := -1) hx hb dX6_bindNearest_96 (by decide) ?_
        refine bo_eq (tgt := 107) hx hb (by intro j9 e9; have := f1 j9 e9; omega) dX6_bindNearest_97 (by decide) (fun h97 => ?_) (fun h97 => ?_)
        · have hi : i = J_legCount u := by omega
          exact te_v hC hG hr hk (by unfold fNst; rw [← hi, h97]) dX6_bindNearest_107
        · obtain ⟨j, ej⟩ := Option.ne_none_iff_exists'.mp h97
          have hl0 := hl
          have hl : lv_has ls 5 [(4, .int (nI i)), (3, .int (nI j)), (0, .ref (a 9)), (1, .int (nI x)), (2, .int (nI dd))] := by rw [ej] at hl; exact hl
          refine lv_aload_n hx hb dX6_bindNearest_100 rfl (lv_at hl 2 rfl) ?_
          refine lv_iload_n hx hb dX6_bindNearest_101 rfl (lv_at hl 3 rfl) ?_
          refine lv_iload_n hx hb dX6_bindNearest_102 rfl (lv_at hl 1 rfl) ?_
          refine lv_iconst (v := -1) hx hb dX6_bindNearest_103 (by decide) ?_
          refine W.eq (g2 := F0 m 104 ls [.int (oI none), .int (nI j), .int (nI x), .ref (a 9)]) rfl ?_
          refine k_M1_bind hC hG x j none (q1) (q2) (by have := f1 j ej; omega) (by intro g e9; cases e9) w353 ⟨by decide, by decide⟩ hl.1 (Nat.le_of_ble_eq_true rfl) dX6_bindNearest_104 ⟨Nat.zero_le _, Nat.zero_le _⟩ (fun H locs hG => ?_)
          have hi : i = J_legCount u := by omega
          exact te_v hC hG hr hk (by unfold fNst; rw [← hi, ej]) dX6_bindNearest_107
      · have k1 := q1.leg (g := i) (by omega)
        have k2 := q1.ent k1.1
        have k4 : fDayOf u i ≤ 364 := k2.2.1
        have k3 : fAway u i x ≤ 364 := by unfold fAway; split <;> omega
        refine lv_aload_n hx hb dX6_bindNearest_17 rfl (lv_at hl 2 rfl) ?_
        refine lv_iload hx hb dX6_bindNearest_18 (lv_at hl 0 rfl) ?_
        refine lv_aload_n hx hb dX6_bindNearest_20 rfl (lv_at hl 2 rfl) ?_
        refine gf_M1_lines hC hG (hC.2.2.2.2 _ w110) dX6_bindNearest_21 ?_
        refine gf_LI_account hC hG (hC.2.2.2.2 _ w321) dX6_bindNearest_24 ?_
        refine lv_iload_n hx hb dX6_bindNearest_27 rfl (lv_at hl 3 rfl) ?_
        refine al_LI_account hC hG (by omega) dX6_bindNearest_28 ?_
        refine k_M1_isLegLeft hC hG i (LI_account u x) (q1) (by omega) (by omega) w334 ⟨by decide, by decide⟩ hl.1 (Nat.le_of_ble_eq_true rfl) dX6_bindNearest_29 ⟨Nat.zero_le _, Nat.zero_le _⟩ (fun H locs hG => ?_)
        refine bb_eq (tgt := 89) hx hb dX6_bindNearest_32 (by decide) (fun h32 => ?_) (fun h32 => ?_)
        · refine lv_iinc (v := (nI (i + 1))) (lv' := [(4, .int (nI (i + 1))), (3, .int (oI (fBest 1 u x dd i))), (0, .ref (a 9)), (1, .int (nI x)), (2, .int (nI dd))]) hx hb dX6_bindNearest_89 hl (k := 0) rfl (nI_1 _) (by decide) rfl (fun ls hl => ?_)
          refine lv_goto (tgt := 5) hx hb dX6_bindNearest_92 (by decide) ?_
          have e5_1 : fBest 1 u x dd (i + 1) = fBest 1 u x dd i := by rw [fBest, if_neg]; rintro ⟨p1, p2, p3, p4⟩; first | exact Bool.false_ne_true (h32.symm.trans p1) | exact h55 p2 | omega | (rw [ej] at p4; exact Bool.false_ne_true (h83.symm.trans p4))
          have hl : lv_has ls 5 [(4, .int (nI (i + 1))), (3, .int (oI (fBest 1 u x dd (i + 1)))), (0, .ref (a 9)), (1, .int (nI x)), (2, .int (nI dd))] := by rw [e5_1]; exact hl
          exact ih5  (i + 1) (by omega) (by omega) H locs hG ls (lv_sub hl [0, 1, 2, 3, 4] rfl)
        · refine lv_aload_n hx hb dX6_bindNearest_35 rfl (lv_at hl 2 rfl) ?_
          refine gf_M1_journal hC hG (hC.2.2.2.2 _ w109) dX6_bindNearest_36 ?_
          refine gf_J_amount hC hG (hC.2.2.2.2 _ w332) dX6_bindNearest_39 ?_
          refine lv_iload hx hb dX6_bindNearest_42 (lv_at hl 0 rfl) ?_
          refine al_J_amount hC hG (by omega) dX6_bindNearest_44 ?_
          refine lv_aload_n hx hb dX6_bindNearest_45 rfl (lv_at hl 2 rfl) ?_
          refine gf_M1_lines hC hG (hC.2.2.2.2 _ w110) dX6_bindNearest_46 ?_
          refine gf_LI_amount hC hG (hC.2.2.2.2 _ w333) dX6_bindNearest_49 ?_
          refine lv_iload_n hx hb dX6_bindNearest_52 rfl (lv_at hl 3 rfl) ?_
          refine al_LI_amount hC hG (by omega) dX6_bindNearest_53 ?_
          refine lv_i2l hx hb dX6_bindNearest_54 rfl ?_
          refine bl_ne (tgt := 89) hx hb dX6_bindNearest_55 dX6_bindNearest_56 (by decide) (fun h55 => ?_) (fun h55 => ?_)
          · refine lv_iinc (v := (nI (i + 1))) (lv' := [(4, .int (nI (i + 1))), (3, .int (oI (fBest 1 u x dd i))), (0, .ref (a 9)), (1, .int (nI x)), (2, .int (nI dd))]) hx hb dX6_bindNearest_89 hl (k := 0) rfl (nI_1 _) (by decide) rfl (fun ls hl => ?_)
            refine lv_goto (tgt := 5) hx hb dX6_bindNearest_92 (by decide) ?_
            have e5_2 : fBest 1 u x dd (i + 1) = fBest 1 u x dd i := by rw [fBest, if_neg]; rintro ⟨p1, p2, p3, p4⟩; first | exact Bool.false_ne_true (h32.symm.trans p1) | exact h55 p2 | omega | (rw [ej] at p4; exact Bool.false_ne_true (h83.symm.trans p4))
            have hl : lv_has ls 5 [(4, .int (nI (i + 1))), (3, .int (oI (fBest 1 u x dd (i + 1)))), (0, .ref (a 9)), (1, .int (nI x)), (2, .int (nI dd))] := by rw [e5_2]; exact hl
            exact ih5  (i + 1) (by omega) (by omega) H locs hG ls (lv_sub hl [0, 1, 2, 3, 4] rfl)
          · refine lv_aload_n hx hb dX6_bindNearest_59 rfl (lv_at hl 2 rfl) ?_
            refine lv_iload hx hb dX6_bindNearest_60 (lv_at hl 0 rfl) ?_
            refine lv_iload_n hx hb dX6_bindNearest_62 rfl (lv_at hl 3 rfl) ?_
            refine k_M1_away hC hG i x (q1) (by omega) (q2) w340 ⟨by decide, by decide⟩ hl.1 (Nat.le_of_ble_eq_true rfl) dX6_bindNearest_63 ⟨Nat.zero_le _, Nat.zero_le _⟩ (fun H locs hG => ?_)
            refine lv_iload_n hx hb dX6_bindNearest_66 rfl (lv_at hl 4 rfl) ?_
            refine bn_gt (tgt := 89) hx hb (by omega) (by omega) dX6_bindNearest_67 (by decide) (fun h67 => ?_) (fun h67 => ?_)
            · refine lv_iinc (v := (nI (i + 1))) (lv' := [(4, .int (nI (i + 1))), (3, .int (oI (fBest 1 u x dd i))), (0, .ref (a 9)), (1, .int (nI x)), (2, .int (nI dd))]) hx hb dX6_bindNearest_89 hl (k := 0) rfl (nI_1 _) (by decide) rfl (fun ls hl => ?_)
              refine lv_goto (tgt := 5) hx hb dX6_bindNearest_92 (by decide) ?_
              have e5_3 : fBest 1 u x dd (i + 1) = fBest 1 u x dd i := by rw [fBest, if_neg]; rintro ⟨p1, p2, p3, p4⟩; first | exact Bool.false_ne_true (h32.symm.trans p1) | exact h55 p2 | omega | (rw [ej] at p4; exact Bool.false_ne_true (h83.symm.trans p4))
              have hl : lv_has ls 5 [(4, .int (nI (i + 1))), (3, .int (oI (fBest 1 u x dd (i + 1)))), (0, .ref (a 9)), (1, .int (nI x)), (2, .int (nI dd))] := by rw [e5_3]; exact hl
              exact ih5  (i + 1) (by omega) (by omega) H locs hG ls (lv_sub hl [0, 1, 2, 3, 4] rfl)
            · refine lv_iload_n hx hb dX6_bindNearest_70 rfl (lv_at hl 1 rfl) ?_
              refine lv_iconst (v := -1) hx hb dX6_bindNearest_71 (by decide) ?_
              refine bo_eq (tgt := 86) hx hb (by intro j9 e9; have := f1 j9 e9; omega) dX6_bindNearest_72 (by decide) (fun h72 => ?_) (fun h72 => ?_)
              · refine lv_iload hx hb dX6_bindNearest_86 (lv_at hl 0 rfl) ?_
                refine lv_istore_n (lv' := [(3, .int (nI i)), (4, .int (nI i)), (0, .ref (a 9)), (1, .int (nI x)), (2, .int (nI dd))]) hx hb dX6_bindNearest_88 rfl hl (by decide) rfl (fun ls hl => ?_)
                refine lv_iinc (v := (nI (i + 1))) (lv' := [(4, .int (nI (i + 1))), (3, .int (nI i)), (0, .ref (a 9)), (1, .int (nI x)), (2, .int (nI dd))]) hx hb dX6_bindNearest_89 hl (k := 1) rfl (nI_1 _) (by decide) rfl (fun ls hl => ?_)
                refine lv_goto (tgt := 5) hx hb dX6_bindNearest_92 (by decide) ?_
                have e5_4 : fBest 1 u x dd (i + 1) = (some i) := by rw [fBest, if_pos ⟨h32, h55, h67, by first | (rw [h72]; rfl) | (rw [ej]; exact h83)⟩]
                have hl : lv_has ls 5 [(4, .int (nI (i + 1))), (3, .int (oI (fBest 1 u x dd (i + 1)))), (0, .ref (a 9)), (1, .int (nI x)), (2, .int (nI dd))] := by rw [e5_4]; exact hl
                exact ih5  (i + 1) (by omega) (by omega) H locs hG ls (lv_sub hl [0, 1, 2, 3, 4] rfl)
              · obtain ⟨j, ej⟩ := Option.ne_none_iff_exists'.mp h72
                have hl0 := hl
                have hl : lv_has ls 5 [(4, .int (nI i)), (3, .int (nI j)), (0, .ref (a 9)), (1, .int (nI x)), (2, .int (nI dd))] := by rw [ej] at hl; exact hl
                refine lv_aload_n hx hb dX6_bindNearest_75 rfl (lv_at hl 2 rfl) ?_
                refine lv_iload hx hb dX6_bindNearest_76 (lv_at hl 0 rfl) ?_
                refine lv_iload_n hx hb dX6_bindNearest_78 rfl (lv_at hl 1 rfl) ?_
                refine lv_iload_n hx hb dX6_bindNearest_79 rfl (lv_at hl 3 rfl) ?_
                refine k_M1_isNearer hC hG i j x (q1) (by omega) (by have := f1 j ej; omega) (q2) w349 ⟨by decide, by decide⟩ hl.1 (Nat.le_of_ble_eq_true rfl) dX6_bindNearest_80 ⟨Nat.zero_le _, Nat.zero_le _⟩ (fun H locs hG => ?_)
                refine bb_eq (tgt := 89) hx hb dX6_bindNearest_83 (by decide) (fun h83 => ?_) (fun h83 => ?_)
                · refine lv_iinc (v := (nI (i + 1))) (lv' := [(4, .int (nI (i + 1))), (3, .int (nI j)), (0, .ref (a 9)), (1, .int (nI x)), (2, .int (nI dd))]) hx hb dX6_bindNearest_89 hl (k := 0) rfl (nI_1 _) (by decide) rfl (fun ls hl => ?_)
                  refine lv_goto (tgt := 5) hx hb dX6_bindNearest_92 (by decide) ?_
                  have e5_5 : fBest 1 u x dd (i + 1) = (some j) := by rw [← ej]; rw [fBest, if_neg]; rintro ⟨p1, p2, p3, p4⟩; first | exact Bool.false_ne_true (h32.symm.trans p1) | exact h55 p2 | omega | (rw [ej] at p4; exact Bool.false_ne_true (h83.symm.trans p4))
                  have hl : lv_has ls 5 [(4, .int (nI (i + 1))), (3, .int (oI (fBest 1 u x dd (i + 1)))), (0, .ref (a 9)), (1, .int (nI x)), (2, .int (nI dd))] := by rw [e5_5]; exact hl
                  exact ih5  (i + 1) (by omega) (by omega) H locs hG ls (lv_sub hl [0, 1, 2, 3, 4] rfl)
                · refine lv_iload hx hb dX6_bindNearest_86 (lv_at hl 0 rfl) ?_
                  refine lv_istore_n (lv' := [(3, .int (nI i)), (4, .int (nI i)), (0, .ref (a 9)), (1, .int (nI x)), (2, .int (nI dd))]) hx hb dX6_bindNearest_88 rfl hl (by decide) rfl (fun ls hl => ?_)
                  refine lv_iinc (v := (nI (i + 1))) (lv' := [(4, .int (nI (i + 1))), (3, .int (nI i)), (0, .ref (a 9)), (1, .int (nI x)), (2, .int (nI dd))]) hx hb dX6_bindNearest_89 hl (k := 1) rfl (nI_1 _) (by decide) rfl (fun ls hl => ?_)
                  refine lv_goto (tgt := 5) hx hb dX6_bindNearest_92 (by decide) ?_
                  have e5_6 : fBest 1 u x dd (i + 1) = (some i) := by rw [fBest, if_pos ⟨h32, h55, h67, by first | (rw [h72]; rfl) | (rw [ej]; exact h83)⟩]
                  have hl : lv_has ls 5 [(4, .int (nI (i + 1))), (3, .int (oI (fBest 1 u x dd (i + 1)))), (0, .ref (a 9)), (1, .int (nI x)), (2, .int (nI dd))] := by rw [e5_6]; exact hl
                  exact ih5  (i + 1) (by omega) (by omega) H locs hG ls (lv_sub hl [0, 1, 2, 3, 4] rfl)
  have e5_7 : fBest 1 u x dd 0 = none := by rfl
  have hl : lv_has ls 5 [(4, .int (nI 0)), (3, .int (oI (fBest 1 u x dd 0))), (0, .ref (a 9)), (1, .int (nI x)), (2, .int (nI dd))] := by rw [e5_7]; exact hl
  exact lp5 _ 0 (Nat.lt_succ_self _) (by omega) H locs hG ls (lv_sub hl [0, 1, 2, 3, 4] rfl)
theorem k_M1_bindNearest {p : Program} {l : Launch} {e : Env} {R : Room} {s : State} {m : MethodId} {args : Array Value} {below : List Frame} {meth : Method} {c : Code} {H : Heap} {locs : List Loc} {cs ss : Nat} {Q : State → Prop} {cc : ByteArray} {nL pc : Nat} {ls : Array Slot} {rest : List Value} {own : String} {idx : Nat} {D : va_G} {κ : ClassId × ClassId × ClassId} {a : Nat → Nat} {u : TS} {A : Nat → Prop} (hC : CallFix p m c cc nL s args WALL own) (hG : GW D κ a u A s H locs) (x : Nat) (dd : Nat) (q1 : OK u) (q2 : x < LI_count u) (q3 : dd < 600) (wl : Cond.methodLink own idx yX6_bindNearest ∈ WALL) (hR : 3 + 1 ≤ R.frames ∧ 8 + (5 + 11) + 68 ≤ R.locals) (hls : ls.size = nL) (h8 : (rest.map fun v => v.category).sum ≤ 8) (hd : decode cc pc = .ok (.invokevirtual idx, 3)) (hcs : cs ≤ R.cells ∧ ss ≤ R.slots) (kk : ∀ (H1 : Heap) (locs1 : List Loc), GW D κ a (fNst 1 u x dd) A s H1 locs1 → W p l e R s m args below meth c H1 locs1 cs ss Q (F0 m (pc + 3) ls (rest))) : W p l e R s m args below meth c H locs cs ss Q (F0 m pc ls (.int (nI dd) :: .int (nI x) :: .ref (a 9) :: rest)) :=
  tc_v hG (tr_V (n := 2) (k := 9) (ci := 6) (As := [.int (nI x), .int (nI dd)]) hC hG (c_M1_bindNearest l D κ a H.size u x dd q1 q2 q3) rfl rfl wl w35 w330 w328 w329 (by decide +kernel) hR rfl hls rfl h8 hd hcs) (fun u' H1 locs1 hq hG1 => by subst hq; exact kk H1 locs1 hG1)


set_option maxHeartbeats 4000000 in
set_option maxRecDepth 100000 in
theorem c_M1_secondBehind (l : Launch) (D : va_G) (κ : ClassId × ClassId × ClassId) (a : Nat → Nat) (sz : Nat) (u : TS) (f : Nat) (x : Nat) (q1 : OK u) (q2 : f < J_legCount u) (q3 : x < LI_count u) : TM l yX6_secondBehind cX6_secondBehind 4 (some .int) 2 43 D κ a u sz [.ref (a 9), .int (nI f), .int (nI x)] (QI D κ a sz (fun r u' => r = (oI (fSec 1 u f x (J_legCount u - (f + 1)))) ∧ u' = u)) := by
  refine TM.of (by decide +kernel) (Nat.le_of_ble_eq_true rfl) ?_
  intro p e s m below meth c ls hC hr hk hsz H locs hG hl
  have hx := hC.1
  have hb := hC.2.1
  have hl : lv_has ls 4 [(0, .ref (a 9)), (1, .int (nI f)), (2, .int (nI x))] := hl
  have qok := q1
  have ⟨n1, n2, n3, n4, n5, n6, n7, n8, n9, n10⟩ := qok.n
  have k0 := q1.line q3
  have k9 := q1.leg q2
  have k8 := q1.ent k9.1
  have k7 : fDayOf u f ≤ 364 := k8.2.1
  refine lv_iload_n hx hb dX6_secondBehind_0 rfl (lv_at hl 1 rfl) ?_
  refine lv_iconst (v := nI 1) hx hb dX6_secondBehind_1 (by decide) ?_
  refine ar_iadd hx hb dX6_secondBehind_2 ?_
  refine lv_istore_n (lv' := [(3, .int (nI (f + 1))), (0, .ref (a 9)), (1, .int (nI f)), (2, .int (nI x))]) hx hb dX6_secondBehind_3 rfl hl (by decide) rfl (fun ls hl => ?_)
  have lp4 : ∀ (n : Nat) (i : Nat), J_legCount u - i < n → (i ≤ J_legCount u) → (fSec 1 u f x (J_legCount u - i) = fSec 1 u f x (J_legCount u - (f + 1))) → ∀ (H : Heap) (locs : List Loc), GW D κ a u (AA a sz) s H locs → ∀ ls : Array Slot, lv_has ls 4 [(3, .int (nI i)), (0, .ref (a 9)), (1, .int (nI f)), (2, .int (nI x))] → W p l e { frames := 2, cells := 0, slots := 0, locals := 43 } s m [.ref (a 9), .int (nI f), .int (nI x)].toArray below meth c H locs 0 0 (MQ below (QI D κ a sz (fun r u' => r = (oI (fSec 1 u f x (J_legCount u - (f + 1)))) ∧ u' = u)) [.ref (a 9), .int (nI f), .int (nI x)].toArray s 0 0 (AA a sz)) (F0 m 4 ls []) := by
    intro n
    induction n with
    | zero =>
      intro i hm
      exact absurd hm (Nat.not_lt_zero _)
    | succ n ih4 =>
      intro i hm4 c4_1 c4_2 H locs hG ls hl
      refine lv_iload_n hx hb dX6_secondBehind_4 rfl (lv_at hl 0 rfl) ?_
      refine lv_aload_n hx hb dX6_secondBehind_5 rfl (lv_at hl 1 rfl) ?_
      refine gf_M1_journal hC hG (hC.2.2.2.2 _ w109) dX6_secondBehind_6 ?_
      refine gf_J_legCount hC hG (hC.2.2.2.2 _ w331) dX6_secondBehind_9 ?_
      refine bn_ge (tgt := 92) hx hb (by omega) (by omega) dX6_secondBehind_12 (by decide) (fun h12 => ?_) (fun h12 => ?_)
      · refine lv_iconst (v := -1) hx hb dX6_secondBehind_92 (by decide) ?_
        exact te_i (v := (oI none)) hC hG hr hk ⟨(congrArg oI (show none = fSec 1 u f x (J_legCount u - (f + 1)) from by rw [← c4_2, show J_legCount u - i = 0 by omega]; rfl)), rfl⟩ dX6_secondBehind_93
      · have k1 := q1.leg (g := i) (by omega)
        have k2 := q1.ent k1.1
        have k4 : fDayOf u i ≤ 364 := k2.2.1
        refine lv_aload_n hx hb dX6_secondBehind_15 rfl (lv_at hl 1 rfl) ?_
        refine lv_iload_n hx hb dX6_secondBehind_16 rfl (lv_at hl 0 rfl) ?_
        refine lv_aload_n hx hb dX6_secondBehind_17 rfl (lv_at hl 1 rfl) ?_
        refine gf_M1_lines hC hG (hC.2.2.2.2 _ w110) dX6_secondBehind_18 ?_
        refine gf_LI_account hC hG (hC.2.2.2.2 _ w321) dX6_secondBehind_21 ?_
        refine lv_iload_n hx hb dX6_secondBehind_24 rfl (lv_at hl 3 rfl) ?_
        refine al_LI_account hC hG (by omega) dX6_secondBehind_25 ?_
        refine k_M1_isLegLeft hC hG i (LI_account u x) (q1) (by omega) (by omega) w334 ⟨by decide, by decide⟩ hl.1 (Nat.le_of_ble_eq_true rfl) dX6_secondBehind_26 ⟨Nat.zero_le _, Nat.zero_le _⟩ (fun H locs hG => ?_)
        refine bb_eq (tgt := 86) hx hb dX6_secondBehind_29 (by decide) (fun h29 => ?_) (fun h29 => ?_)
        · refine lv_iinc (v := (nI (i + 1))) (lv' := [(3, .int (nI (i + 1))), (0, .ref (a 9)), (1, .int (nI f)), (2, .int (nI x))]) hx hb dX6_secondBehind_86 hl (k := 0) rfl (nI_1 _) (by decide) rfl (fun ls hl => ?_)
          refine lv_goto (tgt := 4) hx hb dX6_secondBehind_89 (by decide) ?_
          exact ih4  (i + 1) (by omega) (by omega) (by rw [← c4_2]; obtain ⟨r, er⟩ : ∃ r, J_legCount u - i = r + 1 := ⟨J_legCount u - i - 1, by omega⟩; rw [er, fSec, show J_legCount u - (r + 1) = i by omega, if_neg (by rintro ⟨p1, p2, p3⟩; first | exact Bool.false_ne_true (h29.symm.trans p1) | exact h48 p2 | exact h80 p3), show J_legCount u - (i + 1) = r by omega]) H locs hG ls (lv_sub hl [0, 1, 2, 3] rfl)
        · refine lv_aload_n hx hb dX6_secondBehind_32 rfl (lv_at hl 1 rfl) ?_
          refine gf_M1_journal hC hG (hC.2.2.2.2 _ w109) dX6_secondBehind_33 ?_
          refine lv_iload_n hx hb dX6_secondBehind_36 rfl (lv_at hl 0 rfl) ?_
          refine k_J_dayOf hC hG i (by omega) (by omega) w348 ⟨by decide, by decide⟩ hl.1 (Nat.le_of_ble_eq_true rfl) dX6_secondBehind_37 ⟨Nat.zero_le _, Nat.zero_le _⟩ (fun H locs hG => ?_)
          refine lv_aload_n hx hb dX6_secondBehind_40 rfl (lv_at hl 1 rfl) ?_
          refine gf_M1_journal hC hG (hC.2.2.2.2 _ w109) dX6_secondBehind_41 ?_
          refine lv_iload_n hx hb dX6_secondBehind_44 rfl (lv_at hl 2 rfl) ?_
          refine k_J_dayOf hC hG f (by omega) (by omega) w348 ⟨by decide, by decide⟩ hl.1 (Nat.le_of_ble_eq_true rfl) dX6_secondBehind_45 ⟨Nat.zero_le _, Nat.zero_le _⟩ (fun H locs hG => ?_)
          refine bn_ne (tgt := 86) hx hb (by omega) (by omega) dX6_secondBehind_48 (by decide) (fun h48 => ?_) (fun h48 => ?_)
          · refine lv_iinc (v := (nI (i + 1))) (lv' := [(3, .int (nI (i + 1))), (0, .ref (a 9)), (1, .int (nI f)), (2, .int (nI x))]) hx hb dX6_secondBehind_86 hl (k := 0) rfl (nI_1 _) (by decide) rfl (fun ls hl => ?_)
            refine lv_goto (tgt := 4) hx hb dX6_secondBehind_89 (by decide) ?_
            exact ih4  (i + 1) (by omega) (by omega) (by rw [← c4_2]; obtain ⟨r, er⟩ : ∃ r, J_legCount u - i = r + 1 := ⟨J_legCount u - i - 1, by omega⟩; rw [er, fSec, show J_legCount u - (r + 1) = i by omega, if_neg (by rintro ⟨p1, p2, p3⟩; first | exact Bool.false_ne_true (h29.symm.trans p1) | exact h48 p2 | exact h80 p3), show J_legCount u - (i + 1) = r by omega]) H locs hG ls (lv_sub hl [0, 1, 2, 3] rfl)
          · refine lv_aload_n hx hb dX6_secondBehind_51 rfl (lv_at hl 1 rfl) ?_
            refine gf_M1_journal hC hG (hC.2.2.2.2 _ w109) dX6_secondBehind_52 ?_
            refine gf_J_amount hC hG (hC.2.2.2.2 _ w332) dX6_secondBehind_55 ?_
            refine lv_iload_n hx hb dX6_secondBehind_58 rfl (lv_at hl 2 rfl) ?_
            refine al_J_amount hC hG (by omega) dX6_secondBehind_59 ?_
            refine lv_aload_n hx hb dX6_secondBehind_60 rfl (lv_at hl 1 rfl) ?_
            refine gf_M1_journal hC hG (hC.2.2.2.2 _ w109) dX6_secondBehind_61 ?_
            refine gf_J_amount hC hG (hC.2.2.2.2 _ w332) dX6_secondBehind_64 ?_
            refine lv_iload_n hx hb dX6_secondBehind_67 rfl (lv_at hl 0 rfl) ?_
            refine al_J_amount hC hG (by omega) dX6_secondBehind_68 ?_
            refine lv_ladd hx hb dX6_secondBehind_69 ?_
            refine lv_aload_n hx hb dX6_secondBehind_70 rfl (lv_at hl 1 rfl) ?_
            refine gf_M1_lines hC hG (hC.2.2.2.2 _ w110) dX6_secondBehind_71 ?_
            refine gf_LI_amount hC hG (hC.2.2.2.2 _ w333) dX6_secondBehind_74 ?_
            refine lv_iload_n hx hb dX6_secondBehind_77 rfl (lv_at hl 3 rfl) ?_
            refine al_LI_amount hC hG (by omega) dX6_secondBehind_78 ?_
            refine lv_i2l hx hb dX6_secondBehind_79 rfl ?_
            refine bl_ne (tgt := 86) hx hb dX6_secondBehind_80 dX6_secondBehind_81 (by decide) (fun h80 => ?_) (fun h80 => ?_)
            · refine lv_iinc (v := (nI (i + 1))) (lv' := [(3, .int (nI (i + 1))), (0, .ref (a 9)), (1, .int (nI f)), (2, .int (nI x))]) hx hb dX6_secondBehind_86 hl (k := 0) rfl (nI_1 _) (by decide) rfl (fun ls hl => ?_)
              refine lv_goto (tgt := 4) hx hb dX6_secondBehind_89 (by decide) ?_
              exact ih4  (i + 1) (by omega) (by omega) (by rw [← c4_2]; obtain ⟨r, er⟩ : ∃ r, J_legCount u - i = r + 1 := ⟨J_legCount u - i - 1, by omega⟩; rw [er, fSec, show J_legCount u - (r + 1) = i by omega, if_neg (by rintro ⟨p1, p2, p3⟩; first | exact Bool.false_ne_true (h29.symm.trans p1) | exact h48 p2 | exact h80 p3), show J_legCount u - (i + 1) = r by omega]) H locs hG ls (lv_sub hl [0, 1, 2, 3] rfl)
            · refine lv_iload_n hx hb dX6_secondBehind_84 rfl (lv_at hl 0 rfl) ?_
              exact te_i (v := (oI (some i))) hC hG hr hk ⟨(congrArg oI (show (some i) = fSec 1 u f x (J_legCount u - (f + 1)) from by rw [← c4_2]; obtain ⟨r, er⟩ : ∃ r, J_legCount u - i = r + 1 := ⟨J_legCount u - i - 1, by omega⟩; rw [er, fSec, show J_legCount u - (r + 1) = i by omega, if_pos ⟨by assumption, by assumption, by assumption⟩])), rfl⟩ dX6_secondBehind_85
  exact lp4 _ (f + 1) (Nat.lt_succ_self _) (by omega) (rfl) H locs hG ls (lv_sub hl [0, 1, 2, 3] rfl)
theorem k_M1_secondBehind {p : Program} {l : Launch} {e : Env} {R : Room} {s : State} {m : MethodId} {args : Array Value} {below : List Frame} {meth : Method} {c : Code} {H : Heap} {locs : List Loc} {cs ss : Nat} {Q : State → Prop} {cc : ByteArray} {nL pc : Nat} {ls : Array Slot} {rest : List Value} {own : String} {idx : Nat} {D : va_G} {κ : ClassId × ClassId × ClassId} {a : Nat → Nat} {u : TS} {A : Nat → Prop} (hC : CallFix p m c cc nL s args WALL own) (hG : GW D κ a u A s H locs) (f : Nat) (x : Nat) (q1 : OK u) (q2 : f < J_legCount u) (q3 : x < LI_count u) (wl : Cond.methodLink own idx yX6_secondBehind ∈ WALL) (hR : 2 + 1 ≤ R.frames ∧ 8 + (4 + 11) + 43 ≤ R.locals) (hls : ls.size = nL) (h8 : (rest.map fun v => v.category).sum ≤ 8) (hd : decode cc pc = .ok (.invokevirtual idx, 3)) (hcs : cs ≤ R.cells ∧ ss ≤ R.slots) (kk : ∀ (H1 : Heap) (locs1 : List Loc), GW D κ a u A s H1 locs1 → W p l e R s m args below meth c H1 locs1 cs ss Q (F0 m (pc + 3) ls (.int (oI (fSec 1 u f x (J_legCount u - (f + 1)))) :: rest))) : W p l e R s m args below meth c H locs cs ss Q (F0 m pc ls (.int (nI x) :: .int (nI f) :: .ref (a 9) :: rest)) :=
  tc_i hG (tr_V (n := 2) (k := 9) (ci := 6) (As := [.int (nI f), .int (nI x)]) hC hG (c_M1_secondBehind l D κ a H.size u f x q1 q2 q3) rfl rfl wl w35 w364 w362 w363 (by decide +kernel) hR rfl hls rfl h8 hd hcs) (fun r u' H1 locs1 hq hG1 => by obtain ⟨rfl, rfl⟩ := hq; exact kk H1 locs1 hG1)


set_option maxHeartbeats 4000000 in
set_option maxRecDepth 100000 in
theorem c_M1_bindFirstTwo (l : Launch) (D : va_G) (κ : ClassId × ClassId × ClassId) (a : Nat → Nat) (sz : Nat) (u : TS) (x : Nat) (dd : Nat) (q1 : OK u) (q2 : x < LI_count u) (q3 : dd < 600) : TM l yX6_bindFirstTwo cX6_bindFirstTwo 5 none 3 66 D κ a u sz [.ref (a 9), .int (nI x), .int (nI dd)] (QV D κ a sz (fun u' => u' = fTwo 1 u x dd (J_legCount u))) := by
  refine TM.of (by decide +kernel) (Nat.le_of_ble_eq_true rfl) ?_
  intro p e s m below meth c ls hC hr hk hsz H locs hG hl
  have hx := hC.1
  have hb := hC.2.1
  have hl : lv_has ls 5 [(0, .ref (a 9)), (1, .int (nI x)), (2, .int (nI dd))] := hl
  have qok := q1
  have ⟨n1, n2, n3, n4, n5, n6, n7, n8, n9, n10⟩ := qok.n
  have k0 := q1.line q2
  refine lv_iconst (v := nI 0) hx hb dX6_bindFirstTwo_0 (by decide) ?_
  refine lv_istore_n (lv' := [(3, .int (nI 0)), (0, .ref (a 9)), (1, .int (nI x)), (2, .int (nI dd))]) hx hb dX6_bindFirstTwo_1 rfl hl (by decide) rfl (fun ls hl => ?_)
  have lp2 : ∀ (n : Nat) (i : Nat), J_legCount u - i < n → (i ≤ J_legCount u) → (fTwo 1 u x dd (J_legCount u - i) = fTwo 1 u x dd (J_legCount u)) → ∀ (H : Heap) (locs : List Loc), GW D κ a u (AA a sz) s H locs → ∀ ls : Array Slot, lv_has ls 5 [(3, .int (nI i)), (0, .ref (a 9)), (1, .int (nI x)), (2, .int (nI dd))] → W p l e { frames := 3, cells := 0, slots := 0, locals := 66 } s m [.ref (a 9), .int (nI x), .int (nI dd)].toArray below meth c H locs 0 0 (MQ below (QV D κ a sz (fun u' => u' = fTwo 1 u x dd (J_legCount u))) [.ref (a 9), .int (nI x), .int (nI dd)].toArray s 0 0 (AA a sz)) (F0 m 2 ls []) := by
    intro n
    induction n with
    | zero =>
      intro i hm
      exact absurd hm (Nat.not_lt_zero _)
    | succ n ih2 =>
      intro i hm2 c2_1 c2_2 H locs hG ls hl
      refine lv_iload_n hx hb dX6_bindFirstTwo_2 rfl (lv_at hl 0 rfl) ?_
      refine lv_aload_n hx hb dX6_bindFirstTwo_3 rfl (lv_at hl 1 rfl) ?_
      refine gf_M1_journal hC hG (hC.2.2.2.2 _ w109) dX6_bindFirstTwo_4 ?_
      refine gf_J_legCount hC hG (hC.2.2.2.2 _ w331) dX6_bindFirstTwo_7 ?_
      refine bn_ge (tgt := 69) hx hb (by omega) (by omega) dX6_bindFirstTwo_10 (by decide) (fun h10 => ?_) (fun h10 => ?_)
      · exact te_v hC hG hr hk (by rw [← c2_2, show J_legCount u - i = 0 by omega]; rfl) dX6_bindFirstTwo_69
      · have k1 := q1.leg (g := i) (by omega)
        have k2 := q1.ent k1.1
        have k4 : fDayOf u i ≤ 364 := k2.2.1
        have k3 : fAway u i x ≤ 364 := by unfold fAway; split <;> omega
        have k5 := fSec_lt 1 u i x (J_legCount u - (i + 1))
        refine lv_aload_n hx hb dX6_bindFirstTwo_13 rfl (lv_at hl 1 rfl) ?_
        refine lv_iload_n hx hb dX6_bindFirstTwo_14 rfl (lv_at hl 0 rfl) ?_
        refine lv_aload_n hx hb dX6_bindFirstTwo_15 rfl (lv_at hl 1 rfl) ?_
        refine gf_M1_lines hC hG (hC.2.2.2.2 _ w110) dX6_bindFirstTwo_16 ?_
        refine gf_LI_account hC hG (hC.2.2.2.2 _ w321) dX6_bindFirstTwo_19 ?_
        refine lv_iload_n hx hb dX6_bindFirstTwo_22 rfl (lv_at hl 2 rfl) ?_
        refine al_LI_account hC hG (by omega) dX6_bindFirstTwo_23 ?_
        refine k_M1_isLegLeft hC hG i (LI_account u x) (q1) (by omega) (by omega) w334 ⟨by decide, by decide⟩ hl.1 (Nat.le_of_ble_eq_true rfl) dX6_bindFirstTwo_24 ⟨Nat.zero_le _, Nat.zero_le _⟩ (fun H locs hG => ?_)
        refine bb_eq (tgt := 63) hx hb dX6_bindFirstTwo_27 (by decide) (fun h27 => ?_) (fun h27 => ?_)
        · refine lv_iinc (v := (nI (i + 1))) (lv' := [(3, .int (nI (i + 1))), (0, .ref (a 9)), (1, .int (nI x)), (2, .int (nI dd))]) hx hb dX6_bindFirstTwo_63 hl (k := 0) rfl (nI_1 _) (by decide) rfl (fun ls hl => ?_)
          refine lv_goto (tgt := 2) hx hb dX6_bindFirstTwo_66 (by decide) ?_
          exact ih2  (i + 1) (by omega) (by omega) (by rw [← c2_2]; obtain ⟨r, er⟩ : ∃ r, J_legCount u - i = r + 1 := ⟨J_legCount u - i - 1, by omega⟩; rw [er, fTwo, show J_legCount u - (r + 1) = i by omega, if_neg (by rintro ⟨p1, p2, p3⟩; first | exact Bool.false_ne_true (h27.symm.trans p1) | omega | (rw [show r = J_legCount u - (i + 1) by omega] at p3; exact p3 h51)), show J_legCount u - (i + 1) = r by omega]) H locs hG ls (lv_sub hl [0, 1, 2, 3] rfl)
        · refine lv_aload_n hx hb dX6_bindFirstTwo_30 rfl (lv_at hl 1 rfl) ?_
          refine lv_iload_n hx hb dX6_bindFirstTwo_31 rfl (lv_at hl 0 rfl) ?_
          refine lv_iload_n hx hb dX6_bindFirstTwo_32 rfl (lv_at hl 2 rfl) ?_
          refine k_M1_away hC hG i x (q1) (by omega) (q2) w340 ⟨by decide, by decide⟩ hl.1 (Nat.le_of_ble_eq_true rfl) dX6_bindFirstTwo_33 ⟨Nat.zero_le _, Nat.zero_le _⟩ (fun H locs hG => ?_)
          refine lv_iload_n hx hb dX6_bindFirstTwo_36 rfl (lv_at hl 3 rfl) ?_
          refine bn_gt (tgt := 63) hx hb (by omega) (by omega) dX6_bindFirstTwo_37 (by decide) (fun h37 => ?_) (fun h37 => ?_)
          · refine lv_iinc (v := (nI (i + 1))) (lv' := [(3, .int (nI (i + 1))), (0, .ref (a 9)), (1, .int (nI x)), (2, .int (nI dd))]) hx hb dX6_bindFirstTwo_63 hl (k := 0) rfl (nI_1 _) (by decide) rfl (fun ls hl => ?_)
            refine lv_goto (tgt := 2) hx hb dX6_bindFirstTwo_66 (by decide) ?_
            exact ih2  (i + 1) (by omega) (by omega) (by rw [← c2_2]; obtain ⟨r, er⟩ : ∃ r, J_legCount u - i = r + 1 := ⟨J_legCount u - i - 1, by omega⟩; rw [er, fTwo, show J_legCount u - (r + 1) = i by omega, if_neg (by rintro ⟨p1, p2, p3⟩; first | exact Bool.false_ne_true (h27.symm.trans p1) | omega | (rw [show r = J_legCount u - (i + 1) by omega] at p3; exact p3 h51)), show J_legCount u - (i + 1) = r by omega]) H locs hG ls (lv_sub hl [0, 1, 2, 3] rfl)
          · refine lv_aload_n hx hb dX6_bindFirstTwo_40 rfl (lv_at hl 1 rfl) ?_
            refine lv_iload_n hx hb dX6_bindFirstTwo_41 rfl (lv_at hl 0 rfl) ?_
            refine lv_iload_n hx hb dX6_bindFirstTwo_42 rfl (lv_at hl 2 rfl) ?_
            refine k_M1_secondBehind hC hG i x (q1) (by omega) (q2) w361 ⟨by decide, by decide⟩ hl.1 (Nat.le_of_ble_eq_true rfl) dX6_bindFirstTwo_43 ⟨Nat.zero_le _, Nat.zero_le _⟩ (fun H locs hG => ?_)
            refine lv_istore (lv' := [(4, .int (oI (fSec 1 u i x (J_legCount u - (i + 1))))), (3, .int (nI i)), (0, .ref (a 9)), (1, .int (nI x)), (2, .int (nI dd))]) hx hb dX6_bindFirstTwo_46 hl (by decide) rfl (fun ls hl => ?_)
            refine lv_iload hx hb dX6_bindFirstTwo_48 (lv_at hl 0 rfl) ?_
            refine lv_iconst (v := -1) hx hb dX6_bindFirstTwo_50 (by decide) ?_
            refine bo_eq (tgt := 63) hx hb (by intro j9 e9; have := k5 j9 (by omega) e9; omega) dX6_bindFirstTwo_51 (by decide) (fun h51 => ?_) (fun h51 => ?_)
            · refine lv_iinc (v := (nI (i + 1))) (lv' := [(3, .int (nI (i + 1))), (4, .int (oI (fSec 1 u i x (J_legCount u - (i + 1))))), (0, .ref (a 9)), (1, .int (nI x)), (2, .int (nI dd))]) hx hb dX6_bindFirstTwo_63 hl (k := 1) rfl (nI_1 _) (by decide) rfl (fun ls hl => ?_)
              refine lv_goto (tgt := 2) hx hb dX6_bindFirstTwo_66 (by decide) ?_
              exact ih2  (i + 1) (by omega) (by omega) (by rw [← c2_2]; obtain ⟨r, er⟩ : ∃ r, J_legCount u - i = r + 1 := ⟨J_legCount u - i - 1, by omega⟩; rw [er, fTwo, show J_legCount u - (r + 1) = i by omega, if_neg (by rintro ⟨p1, p2, p3⟩; first | exact Bool.false_ne_true (h27.symm.trans p1) | omega | (rw [show r = J_legCount u - (i + 1) by omega] at p3; exact p3 h51)), show J_legCount u - (i + 1) = r by omega]) H locs hG ls (lv_sub hl [0, 2, 3, 4] rfl)
            · refine lv_aload_n hx hb dX6_bindFirstTwo_54 rfl (lv_at hl 2 rfl) ?_
              refine lv_iload_n hx hb dX6_bindFirstTwo_55 rfl (lv_at hl 3 rfl) ?_
              refine lv_iload_n hx hb dX6_bindFirstTwo_56 rfl (lv_at hl 1 rfl) ?_
              refine lv_iload hx hb dX6_bindFirstTwo_57 (lv_at hl 0 rfl) ?_
              refine k_M1_bind hC hG x i (fSec 1 u i x (J_legCount u - (i + 1))) (q1) (q2) (by omega) (fun g e9 => k5 g (by omega) e9) w353 ⟨by decide, by decide⟩ hl.1 (Nat.le_of_ble_eq_true rfl) dX6_bindFirstTwo_59 ⟨Nat.zero_le _, Nat.zero_le _⟩ (fun H locs hG => ?_)
              exact te_v hC hG hr hk (by rw [← c2_2]; obtain ⟨r, er⟩ : ∃ r, J_legCount u - i = r + 1 := ⟨J_legCount u - i - 1, by omega⟩; rw [er, fTwo, show J_legCount u - (r + 1) = i by omega, show J_legCount u - (i + 1) = r by omega, if_pos ⟨by assumption, by assumption, by rw [show r = J_legCount u - (i + 1) by omega]; assumption⟩]) dX6_bindFirstTwo_62
  exact lp2 _ 0 (Nat.lt_succ_self _) (by omega) (by rw [Nat.sub_zero]) H locs hG ls (lv_sub hl [0, 1, 2, 3] rfl)
theorem k_M1_bindFirstTwo {p : Program} {l : Launch} {e : Env} {R : Room} {s : State} {m : MethodId} {args : Array Value} {below : List Frame} {meth : Method} {c : Code} {H : Heap} {locs : List Loc} {cs ss : Nat} {Q : State → Prop} {cc : ByteArray} {nL pc : Nat} {ls : Array Slot} {rest : List Value} {own : String} {idx : Nat} {D : va_G} {κ : ClassId × ClassId × ClassId} {a : Nat → Nat} {u : TS} {A : Nat → Prop} (hC : CallFix p m c cc nL s args WALL own) (hG : GW D κ a u A s H locs) (x : Nat) (dd : Nat) (q1 : OK u) (q2 : x < LI_count u) (q3 : dd < 600) (wl : Cond.methodLink own idx yX6_bindFirstTwo ∈ WALL) (hR : 3 + 1 ≤ R.frames ∧ 8 + (5 + 11) + 66 ≤ R.locals) (hls : ls.size = nL) (h8 : (rest.map fun v => v.category).sum ≤ 8) (hd : decode cc pc = .ok (.invokevirtual idx, 3)) (hcs : cs ≤ R.cells ∧ ss ≤ R.slots) (kk : ∀ (H1 : Heap) (locs1 : List Loc), GW D κ a (fTwo 1 u x dd (J_legCount u)) A s H1 locs1 → W p l e R s m args below meth c H1 locs1 cs ss Q (F0 m (pc + 3) ls (rest))) : W p l e R s m args below meth c H locs cs ss Q (F0 m pc ls (.int (nI dd) :: .int (nI x) :: .ref (a 9) :: rest)) :=
  tc_v hG (tr_V (n := 2) (k := 9) (ci := 6) (As := [.int (nI x), .int (nI dd)]) hC hG (c_M1_bindFirstTwo l D κ a H.size u x dd q1 q2 q3) rfl rfl wl w35 w360 w358 w359 (by decide +kernel) hR rfl hls rfl h8 hd hcs) (fun u' H1 locs1 hq hG1 => by subst hq; exact kk H1 locs1 hG1)


set_option maxHeartbeats 4000000 in
set_option maxRecDepth 100000 in
theorem c_M1_pairUp (l : Launch) (D : va_G) (κ : ClassId × ClassId × ClassId) (a : Nat → Nat) (sz : Nat) (u : TS) (w : Nat) (dd : Nat) (q1 : OK u) (q2 : w < 600) (q3 : dd < 600) : TM l yX6_pairUp cX6_pairUp 4 (some .int) 4 92 D κ a u sz [.ref (a 9), .int (nI w), .int (nI dd)] (QI D κ a sz (fun r u' => r = (nI (fPairN 1 u w dd)) ∧ u' = fPair 1 u w dd)) := by
  refine TM.of (by decide +kernel) (Nat.le_of_ble_eq_true rfl) ?_
  intro p e s m below meth c ls hC hr hk hsz H locs hG hl
  have hx := hC.1
  have hb := hC.2.1
  have hl : lv_has ls 4 [(0, .ref (a 9)), (1, .int (nI w)), (2, .int (nI dd))] := hl
  have qok := q1
  have ⟨n1, n2, n3, n4, n5, n6, n7, n8, n9, n10⟩ := qok.n
  have ⟨g1, g2⟩ := fP1_J 1 u w q1 (LI_count u)
  have g3 := g1.cnt
  have ⟨g4, g5⟩ := fP2_J 1 (fP1 1 u w (LI_count u)) w dd g2 (LI_count u) (by omega)
  have g6 := g4.cnt
  have ⟨g7, g8⟩ := fPair_J 1 u w dd q1
  have g9 := g7.cnt
  have ⟨m1, m2⟩ := fLLeft_le 1 (fPair 1 u w dd) w (LI_count u)
  refine lv_iconst (v := nI 0) hx hb dX6_pairUp_0 (by decide) ?_
  refine lv_istore_n (lv' := [(3, .int (nI 0)), (0, .ref (a 9)), (1, .int (nI w)), (2, .int (nI dd))]) hx hb dX6_pairUp_1 rfl hl (by decide) rfl (fun ls hl => ?_)
  have lp2 : ∀ (n : Nat) (i : Nat), LI_count u - i < n → (i ≤ LI_count u) → ∀ (H : Heap) (locs : List Loc), GW D κ a (fP1 1 u w i) (AA a sz) s H locs → ∀ ls : Array Slot, lv_has ls 4 [(3, .int (nI i)), (0, .ref (a 9)), (1, .int (nI w)), (2, .int (nI dd))] → W p l e { frames := 4, cells := 0, slots := 0, locals := 92 } s m [.ref (a 9), .int (nI w), .int (nI dd)].toArray below meth c H locs 0 0 (MQ below (QI D κ a sz (fun r u' => r = (nI (fPairN 1 u w dd)) ∧ u' = fPair 1 u w dd)) [.ref (a 9), .int (nI w), .int (nI dd)].toArray s 0 0 (AA a sz)) (F0 m 2 ls []) := by
    intro n
    induction n with
    | zero =>
      intro i hm
      exact absurd hm (Nat.not_lt_zero _)
    | succ n ih2 =>
      intro i hm2 c2_1 H locs hG ls hl
      have ⟨f1, f2⟩ := fP1_J 1 u w q1 i
      have f3 := f1.cnt
      refine lv_iload_n hx hb dX6_pairUp_2 rfl (lv_at hl 0 rfl) ?_
      refine lv_aload_n hx hb dX6_pairUp_3 rfl (lv_at hl 1 rfl) ?_
      refine gf_M1_lines hC hG (hC.2.2.2.2 _ w110) dX6_pairUp_4 ?_
      refine gf_LI_count hC hG (hC.2.2.2.2 _ w320) dX6_pairUp_7 ?_
      refine bn_ge (tgt := 37) hx hb (by omega) (by omega) dX6_pairUp_10 (by decide) (fun h10 => ?_) (fun h10 => ?_)
      · refine lv_iconst (v := nI 0) hx hb dX6_pairUp_37 (by decide) ?_
        refine lv_istore_n (lv' := [(3, .int (nI 0)), (0, .ref (a 9)), (1, .int (nI w)), (2, .int (nI dd))]) hx hb dX6_pairUp_38 rfl hl (by decide) rfl (fun ls hl => ?_)
        have lp39 : ∀ (n : Nat) (i : Nat), LI_count u - i < n → (i ≤ LI_count u) → ∀ (H : Heap) (locs : List Loc), GW D κ a (fP2 1 (fP1 1 u w (LI_count u)) w dd i) (AA a sz) s H locs → ∀ ls : Array Slot, lv_has ls 4 [(3, .int (nI i)), (0, .ref (a 9)), (1, .int (nI w)), (2, .int (nI dd))] → W p l e { frames := 4, cells := 0, slots := 0, locals := 92 } s m [.ref (a 9), .int (nI w), .int (nI dd)].toArray below meth c H locs 0 0 (MQ below (QI D κ a sz (fun r u' => r = (nI (fPairN 1 u w dd)) ∧ u' = fPair 1 u w dd)) [.ref (a 9), .int (nI w), .int (nI dd)].toArray s 0 0 (AA a sz)) (F0 m 39 ls []) := by
          intro n
          induction n with
          | zero =>
            intro i hm
            exact absurd hm (Nat.not_lt_zero _)
          | succ n ih39 =>
            intro i hm39 c39_1 H locs hG ls hl
            have ⟨f1, f2⟩ := fP2_J 1 (fP1 1 u w (LI_count u)) w dd g2 i (by omega)
            have f3 := f1.cnt
            refine lv_iload_n hx hb dX6_pairUp_39 rfl (lv_at hl 0 rfl) ?_
            refine lv_aload_n hx hb dX6_pairUp_40 rfl (lv_at hl 1 rfl) ?_
            refine gf_M1_lines hC hG (hC.2.2.2.2 _ w110) dX6_pairUp_41 ?_
            refine gf_LI_count hC hG (hC.2.2.2.2 _ w320) dX6_pairUp_44 ?_
            refine bn_ge (tgt := 87) hx hb (by omega) (by omega) dX6_pairUp_47 (by decide) (fun h47 => ?_) (fun h47 => ?_)
            · refine lv_iconst (v := nI 0) hx hb dX6_pairUp_87 (by decide) ?_
              refine lv_istore_n (lv' := [(3, .int (nI 0)), (0, .ref (a 9)), (1, .int (nI w)), (2, .int (nI dd))]) hx hb dX6_pairUp_88 rfl hl (by decide) rfl (fun ls hl => ?_)
              have lp89 : ∀ (n : Nat) (i : Nat), LI_count u - i < n → (i ≤ LI_count u) → ∀ (H : Heap) (locs : List Loc), GW D κ a (fP3 1 (fP2 1 (fP1 1 u w (LI_count u)) w dd (LI_count u)) w dd i) (AA a sz) s H locs → ∀ ls : Array Slot, lv_has ls 4 [(3, .int (nI i)), (0, .ref (a 9)), (1, .int (nI w)), (2, .int (nI dd))] → W p l e { frames := 4, cells := 0, slots := 0, locals := 92 } s m [.ref (a 9), .int (nI w), .int (nI dd)].toArray below meth c H locs 0 0 (MQ below (QI D κ a sz (fun r u' => r = (nI (fPairN 1 u w dd)) ∧ u' = fPair 1 u w dd)) [.ref (a 9), .int (nI w), .int (nI dd)].toArray s 0 0 (AA a sz)) (F0 m 89 ls []) := by
                intro n
                induction n with
                | zero =>
                  intro i hm
                  exact absurd hm (Nat.not_lt_zero _)
                | succ n ih89 =>
                  intro i hm89 c89_1 H locs hG ls hl
                  have ⟨f1, f2⟩ := fP3_J 1 (fP2 1 (fP1 1 u w (LI_count u)) w dd (LI_count u)) w dd g5 i (by omega)
                  have f3 := f1.cnt
                  refine lv_iload_n hx hb dX6_pairUp_89 rfl (lv_at hl 0 rfl) ?_
                  refine lv_aload_n hx hb dX6_pairUp_90 rfl (lv_at hl 1 rfl) ?_
                  refine gf_M1_lines hC hG (hC.2.2.2.2 _ w110) dX6_pairUp_91 ?_
                  refine gf_LI_count hC hG (hC.2.2.2.2 _ w320) dX6_pairUp_94 ?_
                  refine bn_ge (tgt := 137) hx hb (by omega) (by omega) dX6_pairUp_97 (by decide) (fun h97 => ?_) (fun h97 => ?_)
                  · have hi : i = LI_count u := by omega
                    have hG : GW D κ a (fPair 1 u w dd) (AA a sz) s H locs := by unfold fPair; rw [← hi]; rw [← hi] at hG; exact hG
                    refine lv_aload_n hx hb dX6_pairUp_137 rfl (lv_at hl 1 rfl) ?_
                    refine gf_M1_lines hC hG (hC.2.2.2.2 _ w110) dX6_pairUp_138 ?_
                    refine lv_iload_n hx hb dX6_pairUp_141 rfl (lv_at hl 2 rfl) ?_
                    refine k_LI_countOf hC hG w (g8) (q2) w365 ⟨by decide, by decide⟩ hl.1 (Nat.le_of_ble_eq_true rfl) dX6_pairUp_142 ⟨Nat.zero_le _, Nat.zero_le _⟩ (fun H locs hG => ?_)
                    refine lv_aload_n hx hb dX6_pairUp_145 rfl (lv_at hl 1 rfl) ?_
                    refine lv_iload_n hx hb dX6_pairUp_146 rfl (lv_at hl 2 rfl) ?_
                    refine k_M1_linesLeft hC hG w (g8) (q2) w369 ⟨by decide, by decide⟩ hl.1 (Nat.le_of_ble_eq_true rfl) dX6_pairUp_147 ⟨Nat.zero_le _, Nat.zero_le _⟩ (fun H locs hG => ?_)
                    refine ar_isub hx hb (by rw [g9.2.1]; exact m2) dX6_pairUp_150 ?_
                    exact te_i (v := (nI ((fLCnt (fPair 1 u w dd) w (LI_count (fPair 1 u w dd))) - (fLLeft 1 (fPair 1 u w dd) w (LI_count (fPair 1 u w dd)))))) hC hG hr hk ⟨(congrArg nI (show ((fLCnt (fPair 1 u w dd) w (LI_count (fPair 1 u w dd))) - (fLLeft 1 (fPair 1 u w dd) w (LI_count (fPair 1 u w dd)))) = fPairN 1 u w dd from by unfold fPairN; rw [g9.2.1])), rfl⟩ dX6_pairUp_151
                  · have k1 := f2.line (x := i) (by omega)
                    refine lv_aload_n hx hb dX6_pairUp_100 rfl (lv_at hl 1 rfl) ?_
                    refine lv_aload_n hx hb dX6_pairUp_101 rfl (lv_at hl 1 rfl) ?_
                    refine gf_M1_lines hC hG (hC.2.2.2.2 _ w110) dX6_pairUp_102 ?_
                    refine gf_LI_byDay hC hG (hC.2.2.2.2 _ w322) dX6_pairUp_105 ?_
                    refine lv_iload_n hx hb dX6_pairUp_108 rfl (lv_at hl 0 rfl) ?_
                    refine al_LI_byDay hC hG (by omega) dX6_pairUp_109 ?_
                    refine lv_iload_n hx hb dX6_pairUp_110 rfl (lv_at hl 2 rfl) ?_
                    refine k_M1_isLeft hC hG (LI_byDay (fP3 1 (fP2 1 (fP1 1 u w (LI_count u)) w dd (LI_count u)) w dd i) i) w (f2) (by omega) (q2) w323 ⟨by decide, by decide⟩ hl.1 (Nat.le_of_ble_eq_true rfl) dX6_pairUp_111 ⟨Nat.zero_le _, Nat.zero_le _⟩ (fun H locs hG => ?_)
                    refine bb_eq (tgt := 131) hx hb dX6_pairUp_114 (by decide) (fun h114 => ?_) (fun h114 => ?_)
                    · refine lv_iinc (v := (nI (i + 1))) (lv' := [(3, .int (nI (i + 1))), (0, .ref (a 9)), (1, .int (nI w)), (2, .int (nI dd))]) hx hb dX6_pairUp_131 hl (k := 0) rfl (nI_1 _) (by decide) rfl (fun ls hl => ?_)
                      refine lv_goto (tgt := 89) hx hb dX6_pairUp_134 (by decide) ?_
                      have hG : GW D κ a (fP3 1 (fP2 1 (fP1 1 u w (LI_count u)) w dd (LI_count u)) w dd (i + 1)) (AA a sz) s H locs := by
                        have eu : (fP3 1 (fP2 1 (fP1 1 u w (LI_count u)) w dd (LI_count u)) w dd (i + 1)) = (fP3 1 (fP2 1 (fP1 1 u w (LI_count u)) w dd (LI_count u)) w dd i) := by simp [fP3, h10, h47, h97, h114]
                        rw [eu]; exact hG
                      exact ih89  (i + 1) (by omega) (by omega) H locs hG ls (lv_sub hl [0, 1, 2, 3] rfl)
                    · refine lv_aload_n hx hb dX6_pairUp_117 rfl (lv_at hl 1 rfl) ?_
                      refine lv_aload_n hx hb dX6_pairUp_118 rfl (lv_at hl 1 rfl) ?_
                      refine gf_M1_lines hC hG (hC.2.2.2.2 _ w110) dX6_pairUp_119 ?_
                      refine gf_LI_byDay hC hG (hC.2.2.2.2 _ w322) dX6_pairUp_122 ?_
                      refine lv_iload_n hx hb dX6_pairUp_125 rfl (lv_at hl 0 rfl) ?_
                      refine al_LI_byDay hC hG (by omega) dX6_pairUp_126 ?_
                      refine lv_iload_n hx hb dX6_pairUp_127 rfl (lv_at hl 3 rfl) ?_
                      refine k_M1_bindFirstTwo hC hG (LI_byDay (fP3 1 (fP2 1 (fP1 1 u w (LI_count u)) w dd (LI_count u)) w dd i) i) dd (f2) (by omega) (q3) w357 ⟨by decide, by decide⟩ hl.1 (Nat.le_of_ble_eq_true rfl) dX6_pairUp_128 ⟨Nat.zero_le _, Nat.zero_le _⟩ (fun H locs hG => ?_)
                      refine lv_iinc (v := (nI (i + 1))) (lv' := [(3, .int (nI (i + 1))), (0, .ref (a 9)), (1, .int (nI w)), (2, .int (nI dd))]) hx hb dX6_pairUp_131 hl (k := 0) rfl (nI_1 _) (by decide) rfl (fun ls hl => ?_)
                      refine lv_goto (tgt := 89) hx hb dX6_pairUp_134 (by decide) ?_
                      have hG : GW D κ a (fP3 1 (fP2 1 (fP1 1 u w (LI_count u)) w dd (LI_count u)) w dd (i + 1)) (AA a sz) s H locs := by
                        have eu : (fP3 1 (fP2 1 (fP1 1 u w (LI_count u)) w dd (LI_count u)) w dd (i + 1)) = (fTwo 1 (fP3 1 (fP2 1 (fP1 1 u w (LI_count u)) w dd (LI_count u)) w dd i) (LI_byDay (fP3 1 (fP2 1 (fP1 1 u w (LI_count u)) w dd (LI_count u)) w dd i) i) dd (J_legCount (fP3 1 (fP2 1 (fP1 1 u w (LI_count u)) w dd (LI_count u)) w dd i))) := by simp [fP3, h10, h47, h97, h114]
                        rw [eu]; exact hG
                      exact ih89  (i + 1) (by omega) (by omega) H locs hG ls (lv_sub hl [0, 1, 2, 3] rfl)
              have hG : GW D κ a (fP3 1 (fP2 1 (fP1 1 u w (LI_count u)) w dd (LI_count u)) w dd 0) (AA a sz) s H locs := by
                have eu : (fP3 1 (fP2 1 (fP1 1 u w (LI_count u)) w dd (LI_count u)) w dd 0) = (fP2 1 (fP1 1 u w (LI_count u)) w dd i) := by rw [fP3]; rw [show i = LI_count u by omega]
                rw [eu]; exact hG
              exact lp89 _ 0 (Nat.lt_succ_self _) (by omega) H locs hG ls (lv_sub hl [0, 1, 2, 3] rfl)
            · have k1 := f2.line (x := i) (by omega)
              refine lv_aload_n hx hb dX6_pairUp_50 rfl (lv_at hl 1 rfl) ?_
              refine lv_aload_n hx hb dX6_pairUp_51 rfl (lv_at hl 1 rfl) ?_
              refine gf_M1_lines hC hG (hC.2.2.2.2 _ w110) dX6_pairUp_52 ?_
              refine gf_LI_byDay hC hG (hC.2.2.2.2 _ w322) dX6_pairUp_55 ?_
              refine lv_iload_n hx hb dX6_pairUp_58 rfl (lv_at hl 0 rfl) ?_
              refine al_LI_byDay hC hG (by omega) dX6_pairUp_59 ?_
              refine lv_iload_n hx hb dX6_pairUp_60 rfl (lv_at hl 2 rfl) ?_
              refine k_M1_isLeft hC hG (LI_byDay (fP2 1 (fP1 1 u w (LI_count u)) w dd i) i) w (f2) (by omega) (q2) w323 ⟨by decide, by decide⟩ hl.1 (Nat.le_of_ble_eq_true rfl) dX6_pairUp_61 ⟨Nat.zero_le _, Nat.zero_le _⟩ (fun H locs hG => ?_)
              refine bb_eq (tgt := 81) hx hb dX6_pairUp_64 (by decide) (fun h64 => ?_) (fun h64 => ?_)
              · refine lv_iinc (v := (nI (i + 1))) (lv' := [(3, .int (nI (i + 1))), (0, .ref (a 9)), (1, .int (nI w)), (2, .int (nI dd))]) hx hb dX6_pairUp_81 hl (k := 0) rfl (nI_1 _) (by decide) rfl (fun ls hl => ?_)
                refine lv_goto (tgt := 39) hx hb dX6_pairUp_84 (by decide) ?_
                have hG : GW D κ a (fP2 1 (fP1 1 u w (LI_count u)) w dd (i + 1)) (AA a sz) s H locs := by
                  have eu : (fP2 1 (fP1 1 u w (LI_count u)) w dd (i + 1)) = (fP2 1 (fP1 1 u w (LI_count u)) w dd i) := by simp [fP2, h10, h47, h64]
                  rw [eu]; exact hG
                exact ih39  (i + 1) (by omega) (by omega) H locs hG ls (lv_sub hl [0, 1, 2, 3] rfl)
              · refine lv_aload_n hx hb dX6_pairUp_67 rfl (lv_at hl 1 rfl) ?_
                refine lv_aload_n hx hb dX6_pairUp_68 rfl (lv_at hl 1 rfl) ?_
                refine gf_M1_lines hC hG (hC.2.2.2.2 _ w110) dX6_pairUp_69 ?_
                refine gf_LI_byDay hC hG (hC.2.2.2.2 _ w322) dX6_pairUp_72 ?_
                refine lv_iload_n hx hb dX6_pairUp_75 rfl (lv_at hl 0 rfl) ?_
                refine al_LI_byDay hC hG (by omega) dX6_pairUp_76 ?_
                refine lv_iload_n hx hb dX6_pairUp_77 rfl (lv_at hl 3 rfl) ?_
                refine k_M1_bindNearest hC hG (LI_byDay (fP2 1 (fP1 1 u w (LI_count u)) w dd i) i) dd (f2) (by omega) (q3) w327 ⟨by decide, by decide⟩ hl.1 (Nat.le_of_ble_eq_true rfl) dX6_pairUp_78 ⟨Nat.zero_le _, Nat.zero_le _⟩ (fun H locs hG => ?_)
                refine lv_iinc (v := (nI (i + 1))) (lv' := [(3, .int (nI (i + 1))), (0, .ref (a 9)), (1, .int (nI w)), (2, .int (nI dd))]) hx hb dX6_pairUp_81 hl (k := 0) rfl (nI_1 _) (by decide) rfl (fun ls hl => ?_)
                refine lv_goto (tgt := 39) hx hb dX6_pairUp_84 (by decide) ?_
                have hG : GW D κ a (fP2 1 (fP1 1 u w (LI_count u)) w dd (i + 1)) (AA a sz) s H locs := by
                  have eu : (fP2 1 (fP1 1 u w (LI_count u)) w dd (i + 1)) = (fNst 1 (fP2 1 (fP1 1 u w (LI_count u)) w dd i) (LI_byDay (fP2 1 (fP1 1 u w (LI_count u)) w dd i) i) dd) := by simp [fP2, h10, h47, h64]
                  rw [eu]; exact hG
                exact ih39  (i + 1) (by omega) (by omega) H locs hG ls (lv_sub hl [0, 1, 2, 3] rfl)
        have hG : GW D κ a (fP2 1 (fP1 1 u w (LI_count u)) w dd 0) (AA a sz) s H locs := by
          have eu : (fP2 1 (fP1 1 u w (LI_count u)) w dd 0) = (fP1 1 u w i) := by rw [fP2]; rw [show i = LI_count u by omega]
          rw [eu]; exact hG
        exact lp39 _ 0 (Nat.lt_succ_self _) (by omega) H locs hG ls (lv_sub hl [0, 1, 2, 3] rfl)
      · have k1 := f2.line (x := i) (by omega)
        refine lv_aload_n hx hb dX6_pairUp_13 rfl (lv_at hl 1 rfl) ?_
        refine gf_M1_lines hC hG (hC.2.2.2.2 _ w110) dX6_pairUp_14 ?_
        refine gf_LI_account hC hG (hC.2.2.2.2 _ w321) dX6_pairUp_17 ?_
        refine lv_iload_n hx hb dX6_pairUp_20 rfl (lv_at hl 0 rfl) ?_
        refine al_LI_account hC hG (by omega) dX6_pairUp_21 ?_
        refine lv_iload_n hx hb dX6_pairUp_22 rfl (lv_at hl 2 rfl) ?_
        refine bn_ne (tgt := 31) hx hb (by omega) (by omega) dX6_pairUp_23 (by decide) (fun h23 => ?_) (fun h23 => ?_)
        · refine lv_iinc (v := (nI (i + 1))) (lv' := [(3, .int (nI (i + 1))), (0, .ref (a 9)), (1, .int (nI w)), (2, .int (nI dd))]) hx hb dX6_pairUp_31 hl (k := 0) rfl (nI_1 _) (by decide) rfl (fun ls hl => ?_)
          refine lv_goto (tgt := 2) hx hb dX6_pairUp_34 (by decide) ?_
          have hG : GW D κ a (fP1 1 u w (i + 1)) (AA a sz) s H locs := by
            have eu : (fP1 1 u w (i + 1)) = (fP1 1 u w i) := by simp [fP1, h10, h23]
            rw [eu]; exact hG
          exact ih2  (i + 1) (by omega) (by omega) H locs hG ls (lv_sub hl [0, 1, 2, 3] rfl)
        · refine lv_aload_n hx hb dX6_pairUp_26 rfl (lv_at hl 1 rfl) ?_
          refine lv_iload_n hx hb dX6_pairUp_27 rfl (lv_at hl 0 rfl) ?_
          refine k_M1_freeLine hC hG i (f2) (by omega) w288 ⟨by decide, by decide⟩ hl.1 (Nat.le_of_ble_eq_true rfl) dX6_pairUp_28 ⟨Nat.zero_le _, Nat.zero_le _⟩ (fun H locs hG => ?_)
          refine lv_iinc (v := (nI (i + 1))) (lv' := [(3, .int (nI (i + 1))), (0, .ref (a 9)), (1, .int (nI w)), (2, .int (nI dd))]) hx hb dX6_pairUp_31 hl (k := 0) rfl (nI_1 _) (by decide) rfl (fun ls hl => ?_)
          refine lv_goto (tgt := 2) hx hb dX6_pairUp_34 (by decide) ?_
          have hG : GW D κ a (fP1 1 u w (i + 1)) (AA a sz) s H locs := by
            have eu : (fP1 1 u w (i + 1)) = (fFree 1 (fP1 1 u w i) i) := by simp [fP1, h10, h23]
            rw [eu]; exact hG
          exact ih2  (i + 1) (by omega) (by omega) H locs hG ls (lv_sub hl [0, 1, 2, 3] rfl)
  have hG : GW D κ a (fP1 1 u w 0) (AA a sz) s H locs := by
    have eu : (fP1 1 u w 0) = u := by rfl
    rw [eu]; exact hG
  exact lp2 _ 0 (Nat.lt_succ_self _) (by omega) H locs hG ls (lv_sub hl [0, 1, 2, 3] rfl)
theorem k_M1_pairUp {p : Program} {l : Launch} {e : Env} {R : Room} {s : State} {m : MethodId} {args : Array Value} {below : List Frame} {meth : Method} {c : Code} {H : Heap} {locs : List Loc} {cs ss : Nat} {Q : State → Prop} {cc : ByteArray} {nL pc : Nat} {ls : Array Slot} {rest : List Value} {own : String} {idx : Nat} {D : va_G} {κ : ClassId × ClassId × ClassId} {a : Nat → Nat} {u : TS} {A : Nat → Prop} (hC : CallFix p m c cc nL s args WALL own) (hG : GW D κ a u A s H locs) (w : Nat) (dd : Nat) (q1 : OK u) (q2 : w < 600) (q3 : dd < 600) (wl : Cond.methodLink own idx yX6_pairUp ∈ WALL) (hR : 4 + 1 ≤ R.frames ∧ 8 + (4 + 11) + 92 ≤ R.locals) (hls : ls.size = nL) (h8 : (rest.map fun v => v.category).sum ≤ 8) (hd : decode cc pc = .ok (.invokevirtual idx, 3)) (hcs : cs ≤ R.cells ∧ ss ≤ R.slots) (kk : ∀ (H1 : Heap) (locs1 : List Loc), GW D κ a (fPair 1 u w dd) A s H1 locs1 → W p l e R s m args below meth c H1 locs1 cs ss Q (F0 m (pc + 3) ls (.int (nI (fPairN 1 u w dd)) :: rest))) : W p l e R s m args below meth c H locs cs ss Q (F0 m pc ls (.int (nI dd) :: .int (nI w) :: .ref (a 9) :: rest)) :=
  tc_i hG (tr_V (n := 2) (k := 9) (ci := 6) (As := [.int (nI w), .int (nI dd)]) hC hG (c_M1_pairUp l D κ a H.size u w dd q1 q2 q3) rfl rfl wl w35 w319 w317 w318 (by decide +kernel) hR rfl hls rfl h8 hd hcs) (fun r u' H1 locs1 hq hG1 => by obtain ⟨rfl, rfl⟩ := hq; exact kk H1 locs1 hG1)

