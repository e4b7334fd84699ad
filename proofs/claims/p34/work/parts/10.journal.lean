/-! WHAT HOLDS OF EVERY STATE between calls: numbers in their ranges -/
def OK (u : TS) : Prop :=
  (J_legCount u ≤ 600 ∧ J_count u ≤ 60 ∧ LI_count u ≤ 40 ∧ AC_count u ≤ 10 ∧ L0_count u ≤ 6 ∧ L1_count u ≤ 10 ∧ HO_count u = 0 ∧ T_today u ≤ 364 ∧ DR_day u ≤ 364 ∧ DR_note u ≤ 999) ∧
  (∀ g, g < J_legCount u → J_entryOf u g < J_count u ∧ J_account u g < AC_count u) ∧
  (∀ e, e < J_count u → J_firstLeg u e + J_legsOf u e ≤ J_legCount u ∧ J_day u e ≤ 364 ∧ J_note u e ≤ 999) ∧
  (∀ x, x < LI_count u → LI_account u x < AC_count u ∧ LI_day u x ≤ 364 ∧ LI_byDay u x < LI_count u) ∧
  (∀ i, i < L0_count u → L0_account u i < AC_count u) ∧ (∀ i, i < L1_count u → L1_account u i < AC_count u) ∧
  (∀ k, k < AC_count u → AC_kind u k < 5 ∧ AC_currency u k < 4) ∧ (∀ k, T_exchangeAccount u = some k → k < AC_count u) ∧
  (∀ k, AC_hasFloor u k = false) ∧
  ((∀ g x, M0_lineOfLeg u g = some x → x < LI_count u) ∧ (∀ x g, M0_firstOfLine u x = some g → g < J_legCount u) ∧ (∀ x g, M0_secondOfLine u x = some g → g < J_legCount u)) ∧
  ((∀ g x, M1_lineOfLeg u g = some x → x < LI_count u) ∧ (∀ x g, M1_firstOfLine u x = some g → g < J_legCount u) ∧ (∀ x g, M1_secondOfLine u x = some g → g < J_legCount u))
theorem OK.n {u : TS} (h : OK u) : J_legCount u ≤ 600 ∧ J_count u ≤ 60 ∧ LI_count u ≤ 40 ∧ AC_count u ≤ 10 ∧ L0_count u ≤ 6 ∧ L1_count u ≤ 10 ∧ HO_count u = 0 ∧ T_today u ≤ 364 ∧ DR_day u ≤ 364 ∧ DR_note u ≤ 999 := h.1
theorem OK.leg {u : TS} (h : OK u) {g : Nat} (hg : g < J_legCount u) : J_entryOf u g < J_count u ∧ J_account u g < AC_count u := h.2.1 g hg
theorem OK.ent {u : TS} (h : OK u) {e : Nat} (he : e < J_count u) : J_firstLeg u e + J_legsOf u e ≤ J_legCount u ∧ J_day u e ≤ 364 ∧ J_note u e ≤ 999 := h.2.2.1 e he
theorem OK.line {u : TS} (h : OK u) {x : Nat} (hx : x < LI_count u) : LI_account u x < AC_count u ∧ LI_day u x ≤ 364 ∧ LI_byDay u x < LI_count u := h.2.2.2.1 x hx
theorem OK.dr {u : TS} (h : OK u) {i : Nat} (hi : i < L0_count u) : L0_account u i < AC_count u := h.2.2.2.2.1 i hi
theorem OK.pl {u : TS} (h : OK u) {i : Nat} (hi : i < L1_count u) : L1_account u i < AC_count u := h.2.2.2.2.2.1 i hi
theorem OK.acc {u : TS} (h : OK u) {k : Nat} (hk : k < AC_count u) : AC_kind u k < 5 ∧ AC_currency u k < 4 := h.2.2.2.2.2.2.1 k hk
theorem OK.ex {u : TS} (h : OK u) {k : Nat} (hk : T_exchangeAccount u = some k) : k < AC_count u := h.2.2.2.2.2.2.2.1 k hk
theorem OK.nf {u : TS} (h : OK u) (k : Nat) : AC_hasFloor u k = false := h.2.2.2.2.2.2.2.2.1 k
theorem OK.m0 {u : TS} (h : OK u) : (∀ g x, M0_lineOfLeg u g = some x → x < LI_count u) ∧ (∀ x g, M0_firstOfLine u x = some g → g < J_legCount u) ∧ (∀ x g, M0_secondOfLine u x = some g → g < J_legCount u) := h.2.2.2.2.2.2.2.2.2.1
theorem OK.m1 {u : TS} (h : OK u) : (∀ g x, M1_lineOfLeg u g = some x → x < LI_count u) ∧ (∀ x g, M1_firstOfLine u x = some g → g < J_legCount u) ∧ (∀ x g, M1_secondOfLine u x = some g → g < J_legCount u) := h.2.2.2.2.2.2.2.2.2.2

/-! THE JOURNAL, read -/
def fCounts (u : TS) (g : Nat) : Bool := !(J_gone u (J_entryOf u g))
def fDayOf (u : TS) (g : Nat) : Nat := J_day u (J_entryOf u g)
def fLastC (u : TS) : Nat → Option Nat
  | 0 => none
  | k + 1 => if J_isClosing u k = true ∧ J_gone u k = false then some k else fLastC u k
theorem fLastC_lt (u : TS) : ∀ n k, fLastC u n = some k → k < n
  | 0, _, h => by cases h
  | n + 1, k, h => by
    unfold fLastC at h
    split at h
    · cases h; omega
    · have := fLastC_lt u n k h
      omega
def fLock (u : TS) : Option Nat := (fLastC u (J_count u)).map (J_day u)
def fStand (u : TS) : Nat → Nat
  | 0 => 0
  | k + 1 => if J_gone u k = true then fStand u k else fStand u k + 1
theorem fStand_le (u : TS) : ∀ n, fStand u n ≤ n
  | 0 => Nat.le_refl _
  | n + 1 => by
    have := fStand_le u n
    unfold fStand
    split <;> omega
def fAmt (u : TS) (w d : Nat) : Nat → Int64
  | 0 => 0
  | g + 1 => if J_account u g = w ∧ fCounts u g = true ∧ fDayOf u g ≤ d then fAmt u w d g + J_amount u g else fAmt u w d g
def fWor (u : TS) (w : Nat) : Nat → Int64
  | 0 => 0
  | g + 1 => if J_account u g = w ∧ fCounts u g = true then fWor u w g + J_worth u g else fWor u w g
def fWorB (u : TS) (w f t : Nat) : Nat → Int64
  | 0 => 0
  | g + 1 => if J_account u g = w ∧ fCounts u g = true ∧ J_isClosing u (J_entryOf u g) = false ∧ f ≤ fDayOf u g ∧ fDayOf u g ≤ t then fWorB u w f t g + J_worth u g else fWorB u w f t g
theorem dX3_has_0 : decode cX3_has 0 = .ok (.iload_n 1, 1) := by decide +kernel
theorem dX3_has_1 : decode cX3_has 1 = .ok (.ifCond .lt 15, 3) := by decide +kernel
theorem dX3_has_12 : decode cX3_has 12 = .ok (.iconst 1, 1) := by decide +kernel
theorem dX3_has_13 : decode cX3_has 13 = .ok (.goto 4, 3) := by decide +kernel
theorem dX3_has_16 : decode cX3_has 16 = .ok (.iconst 0, 1) := by decide +kernel
theorem dX3_has_17 : decode cX3_has 17 = .ok (.ireturn, 1) := by decide +kernel
theorem dX3_has_4 : decode cX3_has 4 = .ok (.iload_n 1, 1) := by decide +kernel
theorem dX3_has_5 : decode cX3_has 5 = .ok (.aload_n 0, 1) := by decide +kernel
theorem dX3_has_6 : decode cX3_has 6 = .ok (.getfield 31, 3) := by decide +kernel
theorem dX3_has_9 : decode cX3_has 9 = .ok (.if_icmp .ge 7, 3) := by decide +kernel
set_option maxHeartbeats 4000000 in
set_option maxRecDepth 100000 in
theorem c_J_has (l : Launch) (D : va_G) (κ : ClassId × ClassId × ClassId) (a : Nat → Nat) (sz : Nat) (u : TS) (en : Nat) (q1 : en < 2 ^ 31) (q2 : OK u) : TM l yX3_has cX3_has 2 (some .boolean) 0 0 D κ a u sz [.ref (a 5), .int (nI en)] (QI D κ a sz (fun r u' => r = (bI (decide (en < J_count u))) ∧ u' = u)) := by
  refine TM.of (by decide +kernel) (Nat.le_of_ble_eq_true rfl) ?_
  intro p e s m below meth c ls hC hr hk hsz H locs hG hl
  have hx := hC.1
  have hb := hC.2.1
  have hl : lv_has ls 2 [(0, .ref (a 5)), (1, .int (nI en))] := hl
  have qok := q2
  have ⟨n1, n2, n3, n4, n5, n6, n7, n8, n9, n10⟩ := qok.n
  refine lv_iload_n hx hb dX3_has_0 rfl (lv_at hl 1 rfl) ?_
  refine bz_lt_f (tgt := 16) hx hb (by omega) dX3_has_1 (by decide) ?_
  refine lv_iload_n hx hb dX3_has_4 rfl (lv_at hl 1 rfl) ?_
  refine lv_aload_n hx hb dX3_has_5 rfl (lv_at hl 0 rfl) ?_
  refine gf_J_count hC hG (hC.2.2.2.2 _ w80) dX3_has_6 ?_
  refine bn_ge (tgt := 16) hx hb (by omega) (by omega) dX3_has_9 (by decide) (fun h9 => ?_) (fun h9 => ?_)
  · refine lv_iconst (v := nI 0) hx hb dX3_has_16 (by decide) ?_
    exact te_z (v := false) hC hG hr hk ⟨(congrArg bI (show false = decide (en < J_count u) from by simp; omega)), rfl⟩ dX3_has_17
  · refine lv_iconst (v := nI 1) hx hb dX3_has_12 (by decide) ?_
    refine lv_goto (tgt := 17) hx hb dX3_has_13 (by decide) ?_
    exact te_z (v := true) hC hG hr hk ⟨(congrArg bI (show true = decide (en < J_count u) from by simp; omega)), rfl⟩ dX3_has_17
theorem k_J_has {p : Program} {l : Launch} {e : Env} {R : Room} {s : State} {m : MethodId} {args : Array Value} {below : List Frame} {meth : Method} {c : Code} {H : Heap} {locs : List Loc} {cs ss : Nat} {Q : State → Prop} {cc : ByteArray} {nL pc : Nat} {ls : Array Slot} {rest : List Value} {own : String} {idx : Nat} {D : va_G} {κ : ClassId × ClassId × ClassId} {a : Nat → Nat} {u : TS} {A : Nat → Prop} (hC : CallFix p m c cc nL s args WALL own) (hG : GW D κ a u A s H locs) (en : Nat) (q1 : en < 2 ^ 31) (q2 : OK u) (wl : Cond.methodLink own idx yX3_has ∈ WALL) (hR : 0 + 1 ≤ R.frames ∧ 8 + (2 + 11) + 0 ≤ R.locals) (hls : ls.size = nL) (h8 : (rest.map fun v => v.category).sum ≤ 8) (hd : decode cc pc = .ok (.invokevirtual idx, 3)) (hcs : cs ≤ R.cells ∧ ss ≤ R.slots) (kk : ∀ (H1 : Heap) (locs1 : List Loc), GW D κ a u A s H1 locs1 → W p l e R s m args below meth c H1 locs1 cs ss Q (F0 m (pc + 3) ls (.int (bI (decide (en < J_count u))) :: rest))) : W p l e R s m args below meth c H locs cs ss Q (F0 m pc ls (.int (nI en) :: .ref (a 5) :: rest)) :=
  tc_i hG (tr_V (n := 1) (k := 5) (ci := 3) (As := [.int (nI en)]) hC hG (c_J_has l D κ a H.size u en q1 q2) rfl rfl wl w23 w267 w265 w266 (by decide +kernel) hR rfl hls rfl h8 hd hcs) (fun r u' H1 locs1 hq hG1 => by obtain ⟨rfl, rfl⟩ := hq; exact kk H1 locs1 hG1)

theorem dX3_isFull_0 : decode cX3_isFull 0 = .ok (.aload_n 0, 1) := by decide +kernel
theorem dX3_isFull_1 : decode cX3_isFull 1 = .ok (.getfield 31, 3) := by decide +kernel
theorem dX3_isFull_10 : decode cX3_isFull 10 = .ok (.goto 4, 3) := by decide +kernel
theorem dX3_isFull_13 : decode cX3_isFull 13 = .ok (.iconst 0, 1) := by decide +kernel
theorem dX3_isFull_14 : decode cX3_isFull 14 = .ok (.ireturn, 1) := by decide +kernel
theorem dX3_isFull_4 : decode cX3_isFull 4 = .ok (.bipush 60, 2) := by decide +kernel
theorem dX3_isFull_6 : decode cX3_isFull 6 = .ok (.if_icmp .lt 7, 3) := by decide +kernel
theorem dX3_isFull_9 : decode cX3_isFull 9 = .ok (.iconst 1, 1) := by decide +kernel
set_option maxHeartbeats 4000000 in
set_option maxRecDepth 100000 in
theorem c_J_isFull (l : Launch) (D : va_G) (κ : ClassId × ClassId × ClassId) (a : Nat → Nat) (sz : Nat) (u : TS)  (q1 : OK u) : TM l yX3_isFull cX3_isFull 1 (some .boolean) 0 0 D κ a u sz [.ref (a 5)] (QI D κ a sz (fun r u' => r = (bI (decide (60 ≤ J_count u))) ∧ u' = u)) := by
  refine TM.of (by decide +kernel) (Nat.le_of_ble_eq_true rfl) ?_
  intro p e s m below meth c ls hC hr hk hsz H locs hG hl
  have hx := hC.1
  have hb := hC.2.1
  have hl : lv_has ls 1 [(0, .ref (a 5))] := hl
  have qok := q1
  have ⟨n1, n2, n3, n4, n5, n6, n7, n8, n9, n10⟩ := qok.n
  refine lv_aload_n hx hb dX3_isFull_0 rfl (lv_at hl 0 rfl) ?_
  refine gf_J_count hC hG (hC.2.2.2.2 _ w80) dX3_isFull_1 ?_
  refine lv_bipush (v := nI 60) hx hb dX3_isFull_4 (by decide) ?_
  refine bn_lt (tgt := 13) hx hb (by omega) (by omega) dX3_isFull_6 (by decide) (fun h6 => ?_) (fun h6 => ?_)
  · refine lv_iconst (v := nI 0) hx hb dX3_isFull_13 (by decide) ?_
    exact te_z (v := false) hC hG hr hk ⟨(congrArg bI (show false = decide (60 ≤ J_count u) from by simp; omega)), rfl⟩ dX3_isFull_14
  · refine lv_iconst (v := nI 1) hx hb dX3_isFull_9 (by decide) ?_
    refine lv_goto (tgt := 14) hx hb dX3_isFull_10 (by decide) ?_
    exact te_z (v := true) hC hG hr hk ⟨(congrArg bI (show true = decide (60 ≤ J_count u) from by simp; omega)), rfl⟩ dX3_isFull_14
theorem k_J_isFull {p : Program} {l : Launch} {e : Env} {R : Room} {s : State} {m : MethodId} {args : Array Value} {below : List Frame} {meth : Method} {c : Code} {H : Heap} {locs : List Loc} {cs ss : Nat} {Q : State → Prop} {cc : ByteArray} {nL pc : Nat} {ls : Array Slot} {rest : List Value} {own : String} {idx : Nat} {D : va_G} {κ : ClassId × ClassId × ClassId} {a : Nat → Nat} {u : TS} {A : Nat → Prop} (hC : CallFix p m c cc nL s args WALL own) (hG : GW D κ a u A s H locs)  (q1 : OK u) (wl : Cond.methodLink own idx yX3_isFull ∈ WALL) (hR : 0 + 1 ≤ R.frames ∧ 8 + (1 + 11) + 0 ≤ R.locals) (hls : ls.size = nL) (h8 : (rest.map fun v => v.category).sum ≤ 8) (hd : decode cc pc = .ok (.invokevirtual idx, 3)) (hcs : cs ≤ R.cells ∧ ss ≤ R.slots) (kk : ∀ (H1 : Heap) (locs1 : List Loc), GW D κ a u A s H1 locs1 → W p l e R s m args below meth c H1 locs1 cs ss Q (F0 m (pc + 3) ls (.int (bI (decide (60 ≤ J_count u))) :: rest))) : W p l e R s m args below meth c H locs cs ss Q (F0 m pc ls (.ref (a 5) :: rest)) :=
  tc_i hG (tr_V (n := 0) (k := 5) (ci := 3) (As := []) hC hG (c_J_isFull l D κ a H.size u  q1) rfl rfl wl w23 w238 w236 w237 (by decide +kernel) hR rfl hls rfl h8 hd hcs) (fun r u' H1 locs1 hq hG1 => by obtain ⟨rfl, rfl⟩ := hq; exact kk H1 locs1 hG1)

theorem dX3_counts_0 : decode cX3_counts 0 = .ok (.aload_n 0, 1) := by decide +kernel
theorem dX3_counts_1 : decode cX3_counts 1 = .ok (.getfield 24, 3) := by decide +kernel
theorem dX3_counts_10 : decode cX3_counts 10 = .ok (.baload, 1) := by decide +kernel
theorem dX3_counts_11 : decode cX3_counts 11 = .ok (.ifCond .ne 7, 3) := by decide +kernel
theorem dX3_counts_14 : decode cX3_counts 14 = .ok (.iconst 1, 1) := by decide +kernel
theorem dX3_counts_15 : decode cX3_counts 15 = .ok (.goto 4, 3) := by decide +kernel
theorem dX3_counts_18 : decode cX3_counts 18 = .ok (.iconst 0, 1) := by decide +kernel
theorem dX3_counts_19 : decode cX3_counts 19 = .ok (.ireturn, 1) := by decide +kernel
theorem dX3_counts_4 : decode cX3_counts 4 = .ok (.aload_n 0, 1) := by decide +kernel
theorem dX3_counts_5 : decode cX3_counts 5 = .ok (.getfield 35, 3) := by decide +kernel
theorem dX3_counts_8 : decode cX3_counts 8 = .ok (.iload_n 1, 1) := by decide +kernel
theorem dX3_counts_9 : decode cX3_counts 9 = .ok (.iaload, 1) := by decide +kernel
set_option maxHeartbeats 4000000 in
set_option maxRecDepth 100000 in
theorem c_J_counts (l : Launch) (D : va_G) (κ : ClassId × ClassId × ClassId) (a : Nat → Nat) (sz : Nat) (u : TS) (g : Nat) (q1 : g < 600) (q2 : J_entryOf u g < 60) : TM l yX3_counts cX3_counts 2 (some .boolean) 0 0 D κ a u sz [.ref (a 5), .int (nI g)] (QI D κ a sz (fun r u' => r = (bI (fCounts u g)) ∧ u' = u)) := by
  refine TM.of (by decide +kernel) (Nat.le_of_ble_eq_true rfl) ?_
  intro p e s m below meth c ls hC hr hk hsz H locs hG hl
  have hx := hC.1
  have hb := hC.2.1
  have hl : lv_has ls 2 [(0, .ref (a 5)), (1, .int (nI g))] := hl
  refine lv_aload_n hx hb dX3_counts_0 rfl (lv_at hl 0 rfl) ?_
  refine gf_J_gone hC hG (hC.2.2.2.2 _ w78) dX3_counts_1 ?_
  refine lv_aload_n hx hb dX3_counts_4 rfl (lv_at hl 0 rfl) ?_
  refine gf_J_entryOf hC hG (hC.2.2.2.2 _ w81) dX3_counts_5 ?_
  refine lv_iload_n hx hb dX3_counts_8 rfl (lv_at hl 1 rfl) ?_
  refine al_J_entryOf hC hG (by omega) dX3_counts_9 ?_
  refine al_J_gone hC hG (by omega) dX3_counts_10 ?_
  refine bb_ne (tgt := 18) hx hb dX3_counts_11 (by decide) (fun h11 => ?_) (fun h11 => ?_)
  · refine lv_iconst (v := nI 0) hx hb dX3_counts_18 (by decide) ?_
    exact te_z (v := false) hC hG hr hk ⟨(congrArg bI (show false = fCounts u g from by simp [fCounts, h11])), rfl⟩ dX3_counts_19
  · refine lv_iconst (v := nI 1) hx hb dX3_counts_14 (by decide) ?_
    refine lv_goto (tgt := 19) hx hb dX3_counts_15 (by decide) ?_
    exact te_z (v := true) hC hG hr hk ⟨(congrArg bI (show true = fCounts u g from by simp [fCounts, h11])), rfl⟩ dX3_counts_19
theorem k_J_counts {p : Program} {l : Launch} {e : Env} {R : Room} {s : State} {m : MethodId} {args : Array Value} {below : List Frame} {meth : Method} {c : Code} {H : Heap} {locs : List Loc} {cs ss : Nat} {Q : State → Prop} {cc : ByteArray} {nL pc : Nat} {ls : Array Slot} {rest : List Value} {own : String} {idx : Nat} {D : va_G} {κ : ClassId × ClassId × ClassId} {a : Nat → Nat} {u : TS} {A : Nat → Prop} (hC : CallFix p m c cc nL s args WALL own) (hG : GW D κ a u A s H locs) (g : Nat) (q1 : g < 600) (q2 : J_entryOf u g < 60) (wl : Cond.methodLink own idx yX3_counts ∈ WALL) (hR : 0 + 1 ≤ R.frames ∧ 8 + (2 + 11) + 0 ≤ R.locals) (hls : ls.size = nL) (h8 : (rest.map fun v => v.category).sum ≤ 8) (hd : decode cc pc = .ok (.invokevirtual idx, 3)) (hcs : cs ≤ R.cells ∧ ss ≤ R.slots) (kk : ∀ (H1 : Heap) (locs1 : List Loc), GW D κ a u A s H1 locs1 → W p l e R s m args below meth c H1 locs1 cs ss Q (F0 m (pc + 3) ls (.int (bI (fCounts u g)) :: rest))) : W p l e R s m args below meth c H locs cs ss Q (F0 m pc ls (.int (nI g) :: .ref (a 5) :: rest)) :=
  tc_i hG (tr_V (n := 1) (k := 5) (ci := 3) (As := [.int (nI g)]) hC hG (c_J_counts l D κ a H.size u g q1 q2) rfl rfl wl w23 w206 w204 w205 (by decide +kernel) hR rfl hls rfl h8 hd hcs) (fun r u' H1 locs1 hq hG1 => by obtain ⟨rfl, rfl⟩ := hq; exact kk H1 locs1 hG1)

theorem dX3_dayOf_0 : decode cX3_dayOf 0 = .ok (.aload_n 0, 1) := by decide +kernel
theorem dX3_dayOf_1 : decode cX3_dayOf 1 = .ok (.getfield 9, 3) := by decide +kernel
theorem dX3_dayOf_10 : decode cX3_dayOf 10 = .ok (.iaload, 1) := by decide +kernel
theorem dX3_dayOf_11 : decode cX3_dayOf 11 = .ok (.ireturn, 1) := by decide +kernel
theorem dX3_dayOf_4 : decode cX3_dayOf 4 = .ok (.aload_n 0, 1) := by decide +kernel
theorem dX3_dayOf_5 : decode cX3_dayOf 5 = .ok (.getfield 35, 3) := by decide +kernel
theorem dX3_dayOf_8 : decode cX3_dayOf 8 = .ok (.iload_n 1, 1) := by decide +kernel
theorem dX3_dayOf_9 : decode cX3_dayOf 9 = .ok (.iaload, 1) := by decide +kernel
set_option maxHeartbeats 4000000 in
set_option maxRecDepth 100000 in
theorem c_J_dayOf (l : Launch) (D : va_G) (κ : ClassId × ClassId × ClassId) (a : Nat → Nat) (sz : Nat) (u : TS) (g : Nat) (q1 : g < 600) (q2 : J_entryOf u g < 60) : TM l yX3_dayOf cX3_dayOf 2 (some .int) 0 0 D κ a u sz [.ref (a 5), .int (nI g)] (QI D κ a sz (fun r u' => r = (nI (fDayOf u g)) ∧ u' = u)) := by
  refine TM.of (by decide +kernel) (Nat.le_of_ble_eq_true rfl) ?_
  intro p e s m below meth c ls hC hr hk hsz H locs hG hl
  have hx := hC.1
  have hb := hC.2.1
  have hl : lv_has ls 2 [(0, .ref (a 5)), (1, .int (nI g))] := hl
  refine lv_aload_n hx hb dX3_dayOf_0 rfl (lv_at hl 0 rfl) ?_
  refine gf_J_day hC hG (hC.2.2.2.2 _ w74) dX3_dayOf_1 ?_
  refine lv_aload_n hx hb dX3_dayOf_4 rfl (lv_at hl 0 rfl) ?_
  refine gf_J_entryOf hC hG (hC.2.2.2.2 _ w81) dX3_dayOf_5 ?_
  refine lv_iload_n hx hb dX3_dayOf_8 rfl (lv_at hl 1 rfl) ?_
  refine al_J_entryOf hC hG (by omega) dX3_dayOf_9 ?_
  refine al_J_day hC hG (by omega) dX3_dayOf_10 ?_
  exact te_i (v := (nI (J_day u (J_entryOf u g)))) hC hG hr hk ⟨(congrArg nI (show (J_day u (J_entryOf u g)) = fDayOf u g from by rfl)), rfl⟩ dX3_dayOf_11
theorem k_J_dayOf {p : Program} {l : Launch} {e : Env} {R : Room} {s : State} {m : MethodId} {args : Array Value} {below : List Frame} {meth : Method} {c : Code} {H : Heap} {locs : List Loc} {cs ss : Nat} {Q : State → Prop} {cc : ByteArray} {nL pc : Nat} {ls : Array Slot} {rest : List Value} {own : String} {idx : Nat} {D : va_G} {κ : ClassId × ClassId × ClassId} {a : Nat → Nat} {u : TS} {A : Nat → Prop} (hC : CallFix p m c cc nL s args WALL own) (hG : GW D κ a u A s H locs) (g : Nat) (q1 : g < 600) (q2 : J_entryOf u g < 60) (wl : Cond.methodLink own idx yX3_dayOf ∈ WALL) (hR : 0 + 1 ≤ R.frames ∧ 8 + (2 + 11) + 0 ≤ R.locals) (hls : ls.size = nL) (h8 : (rest.map fun v => v.category).sum ≤ 8) (hd : decode cc pc = .ok (.invokevirtual idx, 3)) (hcs : cs ≤ R.cells ∧ ss ≤ R.slots) (kk : ∀ (H1 : Heap) (locs1 : List Loc), GW D κ a u A s H1 locs1 → W p l e R s m args below meth c H1 locs1 cs ss Q (F0 m (pc + 3) ls (.int (nI (fDayOf u g)) :: rest))) : W p l e R s m args below meth c H locs cs ss Q (F0 m pc ls (.int (nI g) :: .ref (a 5) :: rest)) :=
  tc_i hG (tr_V (n := 1) (k := 5) (ci := 3) (As := [.int (nI g)]) hC hG (c_J_dayOf l D κ a H.size u g q1 q2) rfl rfl wl w23 w210 w208 w209 (by decide +kernel) hR rfl hls rfl h8 hd hcs) (fun r u' H1 locs1 hq hG1 => by obtain ⟨rfl, rfl⟩ := hq; exact kk H1 locs1 hG1)

theorem dX3_lastClosing_0 : decode cX3_lastClosing 0 = .ok (.aload_n 0, 1) := by decide +kernel
theorem dX3_lastClosing_1 : decode cX3_lastClosing 1 = .ok (.getfield 31, 3) := by decide +kernel
theorem dX3_lastClosing_11 : decode cX3_lastClosing 11 = .ok (.aload_n 0, 1) := by decide +kernel
theorem dX3_lastClosing_12 : decode cX3_lastClosing 12 = .ok (.getfield 28, 3) := by decide +kernel
theorem dX3_lastClosing_15 : decode cX3_lastClosing 15 = .ok (.iload_n 1, 1) := by decide +kernel
theorem dX3_lastClosing_16 : decode cX3_lastClosing 16 = .ok (.baload, 1) := by decide +kernel
theorem dX3_lastClosing_17 : decode cX3_lastClosing 17 = .ok (.ifCond .eq 14, 3) := by decide +kernel
theorem dX3_lastClosing_20 : decode cX3_lastClosing 20 = .ok (.aload_n 0, 1) := by decide +kernel
theorem dX3_lastClosing_21 : decode cX3_lastClosing 21 = .ok (.getfield 24, 3) := by decide +kernel
theorem dX3_lastClosing_24 : decode cX3_lastClosing 24 = .ok (.iload_n 1, 1) := by decide +kernel
theorem dX3_lastClosing_25 : decode cX3_lastClosing 25 = .ok (.baload, 1) := by decide +kernel
theorem dX3_lastClosing_26 : decode cX3_lastClosing 26 = .ok (.ifCond .ne 5, 3) := by decide +kernel
theorem dX3_lastClosing_29 : decode cX3_lastClosing 29 = .ok (.iload_n 1, 1) := by decide +kernel
theorem dX3_lastClosing_30 : decode cX3_lastClosing 30 = .ok (.ireturn, 1) := by decide +kernel
theorem dX3_lastClosing_31 : decode cX3_lastClosing 31 = .ok (.iinc 1 (-1), 3) := by decide +kernel
theorem dX3_lastClosing_34 : decode cX3_lastClosing 34 = .ok (.goto (-27), 3) := by decide +kernel
theorem dX3_lastClosing_37 : decode cX3_lastClosing 37 = .ok (.iconst (-1), 1) := by decide +kernel
theorem dX3_lastClosing_38 : decode cX3_lastClosing 38 = .ok (.ireturn, 1) := by decide +kernel
theorem dX3_lastClosing_4 : decode cX3_lastClosing 4 = .ok (.iconst 1, 1) := by decide +kernel
theorem dX3_lastClosing_5 : decode cX3_lastClosing 5 = .ok (.isub, 1) := by decide +kernel
theorem dX3_lastClosing_6 : decode cX3_lastClosing 6 = .ok (.istore_n 1, 1) := by decide +kernel
theorem dX3_lastClosing_7 : decode cX3_lastClosing 7 = .ok (.iload_n 1, 1) := by decide +kernel
theorem dX3_lastClosing_8 : decode cX3_lastClosing 8 = .ok (.ifCond .lt 29, 3) := by decide +kernel
set_option maxHeartbeats 4000000 in
set_option maxRecDepth 100000 in
theorem c_J_lastClosing (l : Launch) (D : va_G) (κ : ClassId × ClassId × ClassId) (a : Nat → Nat) (sz : Nat) (u : TS)  (q1 : OK u) : TM l yX3_lastClosing cX3_lastClosing 2 (some .int) 0 0 D κ a u sz [.ref (a 5)] (QI D κ a sz (fun r u' => r = (oI (fLastC u (J_count u))) ∧ u' = u)) := by
  refine TM.of (by decide +kernel) (Nat.le_of_ble_eq_true rfl) ?_
  intro p e s m below meth c ls hC hr hk hsz H locs hG hl
  have hx := hC.1
  have hb := hC.2.1
  have hl : lv_has ls 2 [(0, .ref (a 5))] := hl
  have qok := q1
  have ⟨n1, n2, n3, n4, n5, n6, n7, n8, n9, n10⟩ := qok.n
  refine lv_aload_n hx hb dX3_lastClosing_0 rfl (lv_at hl 0 rfl) ?_
  refine gf_J_count hC hG (hC.2.2.2.2 _ w80) dX3_lastClosing_1 ?_
  refine lv_iconst (v := nI 1) hx hb dX3_lastClosing_4 (by decide) ?_
  refine lv_isub hx hb dX3_lastClosing_5 ?_
  refine W.eq (g2 := F0 m 6 ls [.int (nI (J_count u) - 1)]) rfl ?_
  refine lv_istore_n (lv' := [(1, .int (nI (J_count u) - 1)), (0, .ref (a 5))]) hx hb dX3_lastClosing_6 rfl hl (by decide) rfl (fun ls hl => ?_)
  have lp7 : ∀ (n : Nat) (k : Nat), k < n → (k ≤ J_count u) → (fLastC u (J_count u) = fLastC u k) → ∀ (H : Heap) (locs : List Loc), GW D κ a u (AA a sz) s H locs → ∀ ls : Array Slot, lv_has ls 2 [(1, .int (nI k - 1)), (0, .ref (a 5))] → W p l e { frames := 0, cells := 0, slots := 0, locals := 0 } s m [.ref (a 5)].toArray below meth c H locs 0 0 (MQ below (QI D κ a sz (fun r u' => r = (oI (fLastC u (J_count u))) ∧ u' = u)) [.ref (a 5)].toArray s 0 0 (AA a sz)) (F0 m 7 ls []) := by
    intro n
    induction n with
    | zero =>
      intro k hm
      exact absurd hm (Nat.not_lt_zero _)
    | succ n ih7 =>
      intro k hm7 c7_1 c7_2 H locs hG ls hl
      refine lv_iload_n hx hb dX3_lastClosing_7 rfl (lv_at hl 0 rfl) ?_
      refine bm_lt (tgt := 37) hx hb (by omega) dX3_lastClosing_8 (by decide) (fun h8 => ?_) (fun j8 h8 => ?_)
      · refine lv_iconst (v := -1) hx hb dX3_lastClosing_37 (by decide) ?_
        exact te_i (v := (oI none)) hC hG hr hk ⟨(congrArg oI (show none = fLastC u (J_count u) from by rw [c7_2]; simp [fLastC, h8])), rfl⟩ dX3_lastClosing_38
      subst h8
      have hl : lv_has ls 2 [(1, .int (nI j8)), (0, .ref (a 5))] := by rw [nI_pred] at hl; exact hl
      refine lv_aload_n hx hb dX3_lastClosing_11 rfl (lv_at hl 1 rfl) ?_
      refine gf_J_isClosing hC hG (hC.2.2.2.2 _ w79) dX3_lastClosing_12 ?_
      refine lv_iload_n hx hb dX3_lastClosing_15 rfl (lv_at hl 0 rfl) ?_
      refine al_J_isClosing hC hG (by omega) dX3_lastClosing_16 ?_
      refine bb_eq (tgt := 31) hx hb dX3_lastClosing_17 (by decide) (fun h17 => ?_) (fun h17 => ?_)
      · refine lv_iinc (v := nI j8 - 1) (lv' := [(1, .int (nI j8 - 1)), (0, .ref (a 5))]) hx hb dX3_lastClosing_31 hl (k := 0) rfl (nI_mm _) (by decide) rfl (fun ls hl => ?_)
        refine lv_goto (tgt := 7) hx hb dX3_lastClosing_34 (by decide) ?_
        exact ih7  j8 (by omega) (by omega) (by rw [c7_2, fLastC, if_neg]; simp [h17]) H locs hG ls (lv_sub hl [0, 1] rfl)
      · refine lv_aload_n hx hb dX3_lastClosing_20 rfl (lv_at hl 1 rfl) ?_
        refine gf_J_gone hC hG (hC.2.2.2.2 _ w78) dX3_lastClosing_21 ?_
        refine lv_iload_n hx hb dX3_lastClosing_24 rfl (lv_at hl 0 rfl) ?_
        refine al_J_gone hC hG (by omega) dX3_lastClosing_25 ?_
        refine bb_ne (tgt := 31) hx hb dX3_lastClosing_26 (by decide) (fun h26 => ?_) (fun h26 => ?_)
        · refine lv_iinc (v := nI j8 - 1) (lv' := [(1, .int (nI j8 - 1)), (0, .ref (a 5))]) hx hb dX3_lastClosing_31 hl (k := 0) rfl (nI_mm _) (by decide) rfl (fun ls hl => ?_)
          refine lv_goto (tgt := 7) hx hb dX3_lastClosing_34 (by decide) ?_
          exact ih7  j8 (by omega) (by omega) (by rw [c7_2, fLastC, if_neg]; simp [h17, h26]) H locs hG ls (lv_sub hl [0, 1] rfl)
        · refine lv_iload_n hx hb dX3_lastClosing_29 rfl (lv_at hl 0 rfl) ?_
          exact te_i (v := (oI (some j8))) hC hG hr hk ⟨(congrArg oI (show (some j8) = fLastC u (J_count u) from by rw [c7_2, fLastC, if_pos ⟨by assumption, by assumption⟩])), rfl⟩ dX3_lastClosing_30
  exact lp7 _ (J_count u) (Nat.lt_succ_self _) (Nat.le_refl _) (rfl) H locs hG ls (lv_sub hl [0, 1] rfl)
theorem k_J_lastClosing {p : Program} {l : Launch} {e : Env} {R : Room} {s : State} {m : MethodId} {args : Array Value} {below : List Frame} {meth : Method} {c : Code} {H : Heap} {locs : List Loc} {cs ss : Nat} {Q : State → Prop} {cc : ByteArray} {nL pc : Nat} {ls : Array Slot} {rest : List Value} {own : String} {idx : Nat} {D : va_G} {κ : ClassId × ClassId × ClassId} {a : Nat → Nat} {u : TS} {A : Nat → Prop} (hC : CallFix p m c cc nL s args WALL own) (hG : GW D κ a u A s H locs)  (q1 : OK u) (wl : Cond.methodLink own idx yX3_lastClosing ∈ WALL) (hR : 0 + 1 ≤ R.frames ∧ 8 + (2 + 11) + 0 ≤ R.locals) (hls : ls.size = nL) (h8 : (rest.map fun v => v.category).sum ≤ 8) (hd : decode cc pc = .ok (.invokevirtual idx, 3)) (hcs : cs ≤ R.cells ∧ ss ≤ R.slots) (kk : ∀ (H1 : Heap) (locs1 : List Loc), GW D κ a u A s H1 locs1 → W p l e R s m args below meth c H1 locs1 cs ss Q (F0 m (pc + 3) ls (.int (oI (fLastC u (J_count u))) :: rest))) : W p l e R s m args below meth c H locs cs ss Q (F0 m pc ls (.ref (a 5) :: rest)) :=
  tc_i hG (tr_V (n := 0) (k := 5) (ci := 3) (As := []) hC hG (c_J_lastClosing l D κ a H.size u  q1) rfl rfl wl w23 w182 w180 w181 (by decide +kernel) hR rfl hls rfl h8 hd hcs) (fun r u' H1 locs1 hq hG1 => by obtain ⟨rfl, rfl⟩ := hq; exact kk H1 locs1 hG1)

theorem dX3_lastLocked_0 : decode cX3_lastLocked 0 = .ok (.aload_n 0, 1) := by decide +kernel
theorem dX3_lastLocked_1 : decode cX3_lastLocked 1 = .ok (.invokevirtual 65, 3) := by decide +kernel
theorem dX3_lastLocked_10 : decode cX3_lastLocked 10 = .ok (.iconst (-1), 1) := by decide +kernel
theorem dX3_lastLocked_11 : decode cX3_lastLocked 11 = .ok (.goto 9, 3) := by decide +kernel
theorem dX3_lastLocked_14 : decode cX3_lastLocked 14 = .ok (.aload_n 0, 1) := by decide +kernel
theorem dX3_lastLocked_15 : decode cX3_lastLocked 15 = .ok (.getfield 9, 3) := by decide +kernel
theorem dX3_lastLocked_18 : decode cX3_lastLocked 18 = .ok (.iload_n 1, 1) := by decide +kernel
theorem dX3_lastLocked_19 : decode cX3_lastLocked 19 = .ok (.iaload, 1) := by decide +kernel
theorem dX3_lastLocked_20 : decode cX3_lastLocked 20 = .ok (.ireturn, 1) := by decide +kernel
theorem dX3_lastLocked_4 : decode cX3_lastLocked 4 = .ok (.istore_n 1, 1) := by decide +kernel
theorem dX3_lastLocked_5 : decode cX3_lastLocked 5 = .ok (.iload_n 1, 1) := by decide +kernel
theorem dX3_lastLocked_6 : decode cX3_lastLocked 6 = .ok (.iconst (-1), 1) := by decide +kernel
theorem dX3_lastLocked_7 : decode cX3_lastLocked 7 = .ok (.if_icmp .ne 7, 3) := by decide +kernel
set_option maxHeartbeats 4000000 in
set_option maxRecDepth 100000 in
theorem c_J_lastLocked (l : Launch) (D : va_G) (κ : ClassId × ClassId × ClassId) (a : Nat → Nat) (sz : Nat) (u : TS)  (q1 : OK u) : TM l yX3_lastLocked cX3_lastLocked 2 (some .int) 1 21 D κ a u sz [.ref (a 5)] (QI D κ a sz (fun r u' => r = (oI (fLock u)) ∧ u' = u)) := by
  refine TM.of (by decide +kernel) (Nat.le_of_ble_eq_true rfl) ?_
  intro p e s m below meth c ls hC hr hk hsz H locs hG hl
  have hx := hC.1
  have hb := hC.2.1
  have hl : lv_has ls 2 [(0, .ref (a 5))] := hl
  have qok := q1
  have ⟨n1, n2, n3, n4, n5, n6, n7, n8, n9, n10⟩ := qok.n
  have hlt := fLastC_lt u (J_count u)
  refine lv_aload_n hx hb dX3_lastLocked_0 rfl (lv_at hl 0 rfl) ?_
  refine k_J_lastClosing hC hG  (q1) w179 ⟨by decide, by decide⟩ hl.1 (by decide) dX3_lastLocked_1 ⟨Nat.zero_le _, Nat.zero_le _⟩ (fun H locs hG => ?_)
  refine lv_istore_n (lv' := [(1, .int (oI (fLastC u (J_count u)))), (0, .ref (a 5))]) hx hb dX3_lastLocked_4 rfl hl (by decide) rfl (fun ls hl => ?_)
  refine lv_iload_n hx hb dX3_lastLocked_5 rfl (lv_at hl 0 rfl) ?_
  refine lv_iconst (v := -1) hx hb dX3_lastLocked_6 (by decide) ?_
  refine bo_ne (tgt := 14) hx hb (by intro j9 e9; have := hlt j9 e9; omega) dX3_lastLocked_7 (by decide) (fun h7 => ?_) (fun h7 => ?_)
  · obtain ⟨j, ej⟩ := Option.ne_none_iff_exists'.mp h7
    have hj := hlt j ej
    have hl : lv_has ls 2 [(1, .int (nI j)), (0, .ref (a 5))] := by rw [ej] at hl; exact hl
    refine lv_aload_n hx hb dX3_lastLocked_14 rfl (lv_at hl 1 rfl) ?_
    refine gf_J_day hC hG (hC.2.2.2.2 _ w74) dX3_lastLocked_15 ?_
    refine lv_iload_n hx hb dX3_lastLocked_18 rfl (lv_at hl 0 rfl) ?_
    refine al_J_day hC hG (by omega) dX3_lastLocked_19 ?_
    exact te_i (v := (oI (some (J_day u j)))) hC hG hr hk ⟨(congrArg oI (show (some (J_day u j)) = fLock u from by unfold fLock; rw [ej]; rfl)), rfl⟩ dX3_lastLocked_20
  · refine lv_iconst (v := -1) hx hb dX3_lastLocked_10 (by decide) ?_
    refine lv_goto (tgt := 20) hx hb dX3_lastLocked_11 (by decide) ?_
    exact te_i (v := (oI none)) hC hG hr hk ⟨(congrArg oI (show none = fLock u from by unfold fLock; rw [h7]; rfl)), rfl⟩ dX3_lastLocked_20
theorem k_J_lastLocked {p : Program} {l : Launch} {e : Env} {R : Room} {s : State} {m : MethodId} {args : Array Value} {below : List Frame} {meth : Method} {c : Code} {H : Heap} {locs : List Loc} {cs ss : Nat} {Q : State → Prop} {cc : ByteArray} {nL pc : Nat} {ls : Array Slot} {rest : List Value} {own : String} {idx : Nat} {D : va_G} {κ : ClassId × ClassId × ClassId} {a : Nat → Nat} {u : TS} {A : Nat → Prop} (hC : CallFix p m c cc nL s args WALL own) (hG : GW D κ a u A s H locs)  (q1 : OK u) (wl : Cond.methodLink own idx yX3_lastLocked ∈ WALL) (hR : 1 + 1 ≤ R.frames ∧ 8 + (2 + 11) + 21 ≤ R.locals) (hls : ls.size = nL) (h8 : (rest.map fun v => v.category).sum ≤ 8) (hd : decode cc pc = .ok (.invokevirtual idx, 3)) (hcs : cs ≤ R.cells ∧ ss ≤ R.slots) (kk : ∀ (H1 : Heap) (locs1 : List Loc), GW D κ a u A s H1 locs1 → W p l e R s m args below meth c H1 locs1 cs ss Q (F0 m (pc + 3) ls (.int (oI (fLock u)) :: rest))) : W p l e R s m args below meth c H locs cs ss Q (F0 m pc ls (.ref (a 5) :: rest)) :=
  tc_i hG (tr_V (n := 0) (k := 5) (ci := 3) (As := []) hC hG (c_J_lastLocked l D κ a H.size u  q1) rfl rfl wl w23 w178 w176 w177 (by decide +kernel) hR rfl hls rfl h8 hd hcs) (fun r u' H1 locs1 hq hG1 => by obtain ⟨rfl, rfl⟩ := hq; exact kk H1 locs1 hG1)

theorem dX3_countStanding_0 : decode cX3_countStanding 0 = .ok (.iconst 0, 1) := by decide +kernel
theorem dX3_countStanding_1 : decode cX3_countStanding 1 = .ok (.istore_n 1, 1) := by decide +kernel
theorem dX3_countStanding_12 : decode cX3_countStanding 12 = .ok (.aload_n 0, 1) := by decide +kernel
theorem dX3_countStanding_13 : decode cX3_countStanding 13 = .ok (.getfield 24, 3) := by decide +kernel
theorem dX3_countStanding_16 : decode cX3_countStanding 16 = .ok (.iload_n 2, 1) := by decide +kernel
theorem dX3_countStanding_17 : decode cX3_countStanding 17 = .ok (.baload, 1) := by decide +kernel
theorem dX3_countStanding_18 : decode cX3_countStanding 18 = .ok (.ifCond .ne 6, 3) := by decide +kernel
theorem dX3_countStanding_2 : decode cX3_countStanding 2 = .ok (.iconst 0, 1) := by decide +kernel
theorem dX3_countStanding_21 : decode cX3_countStanding 21 = .ok (.iinc 1 1, 3) := by decide +kernel
theorem dX3_countStanding_24 : decode cX3_countStanding 24 = .ok (.iinc 2 1, 3) := by decide +kernel
theorem dX3_countStanding_27 : decode cX3_countStanding 27 = .ok (.goto (-23), 3) := by decide +kernel
theorem dX3_countStanding_3 : decode cX3_countStanding 3 = .ok (.istore_n 2, 1) := by decide +kernel
theorem dX3_countStanding_30 : decode cX3_countStanding 30 = .ok (.iload_n 1, 1) := by decide +kernel
theorem dX3_countStanding_31 : decode cX3_countStanding 31 = .ok (.ireturn, 1) := by decide +kernel
theorem dX3_countStanding_4 : decode cX3_countStanding 4 = .ok (.iload_n 2, 1) := by decide +kernel
theorem dX3_countStanding_5 : decode cX3_countStanding 5 = .ok (.aload_n 0, 1) := by decide +kernel
theorem dX3_countStanding_6 : decode cX3_countStanding 6 = .ok (.getfield 31, 3) := by decide +kernel
theorem dX3_countStanding_9 : decode cX3_countStanding 9 = .ok (.if_icmp .ge 21, 3) := by decide +kernel
set_option maxHeartbeats 4000000 in
set_option maxRecDepth 100000 in
theorem c_J_countStanding (l : Launch) (D : va_G) (κ : ClassId × ClassId × ClassId) (a : Nat → Nat) (sz : Nat) (u : TS)  (q1 : OK u) : TM l yX3_countStanding cX3_countStanding 3 (some .int) 0 0 D κ a u sz [.ref (a 5)] (QI D κ a sz (fun r u' => r = (nI (fStand u (J_count u))) ∧ u' = u)) := by
  refine TM.of (by decide +kernel) (Nat.le_of_ble_eq_true rfl) ?_
  intro p e s m below meth c ls hC hr hk hsz H locs hG hl
  have hx := hC.1
  have hb := hC.2.1
  have hl : lv_has ls 3 [(0, .ref (a 5))] := hl
  have qok := q1
  have ⟨n1, n2, n3, n4, n5, n6, n7, n8, n9, n10⟩ := qok.n
  refine lv_iconst (v := nI 0) hx hb dX3_countStanding_0 (by decide) ?_
  refine lv_istore_n (lv' := [(1, .int (nI 0)), (0, .ref (a 5))]) hx hb dX3_countStanding_1 rfl hl (by decide) rfl (fun ls hl => ?_)
  refine lv_iconst (v := nI 0) hx hb dX3_countStanding_2 (by decide) ?_
  refine lv_istore_n (lv' := [(2, .int (nI 0)), (1, .int (nI 0)), (0, .ref (a 5))]) hx hb dX3_countStanding_3 rfl hl (by decide) rfl (fun ls hl => ?_)
  have lp4 : ∀ (n : Nat) (i : Nat), J_count u - i < n → (i ≤ J_count u) → ∀ (H : Heap) (locs : List Loc), GW D κ a u (AA a sz) s H locs → ∀ ls : Array Slot, lv_has ls 3 [(2, .int (nI i)), (1, .int (nI (fStand u i))), (0, .ref (a 5))] → W p l e { frames := 0, cells := 0, slots := 0, locals := 0 } s m [.ref (a 5)].toArray below meth c H locs 0 0 (MQ below (QI D κ a sz (fun r u' => r = (nI (fStand u (J_count u))) ∧ u' = u)) [.ref (a 5)].toArray s 0 0 (AA a sz)) (F0 m 4 ls []) := by
    intro n
    induction n with
    | zero =>
      intro i hm
      exact absurd hm (Nat.not_lt_zero _)
    | succ n ih4 =>
      intro i hm4 c4_1 H locs hG ls hl
      have f1 := fStand_le u i
      refine lv_iload_n hx hb dX3_countStanding_4 rfl (lv_at hl 0 rfl) ?_
      refine lv_aload_n hx hb dX3_countStanding_5 rfl (lv_at hl 2 rfl) ?_
      refine gf_J_count hC hG (hC.2.2.2.2 _ w80) dX3_countStanding_6 ?_
      refine bn_ge (tgt := 30) hx hb (by omega) (by omega) dX3_countStanding_9 (by decide) (fun h9 => ?_) (fun h9 => ?_)
      · refine lv_iload_n hx hb dX3_countStanding_30 rfl (lv_at hl 1 rfl) ?_
        have hi : i = J_count u := by omega
        exact te_i (v := (nI (fStand u i))) hC hG hr hk ⟨(congrArg nI (show fStand u i = fStand u (J_count u) from by rw [hi])), rfl⟩ dX3_countStanding_31
      · refine lv_aload_n hx hb dX3_countStanding_12 rfl (lv_at hl 2 rfl) ?_
        refine gf_J_gone hC hG (hC.2.2.2.2 _ w78) dX3_countStanding_13 ?_
        refine lv_iload_n hx hb dX3_countStanding_16 rfl (lv_at hl 0 rfl) ?_
        refine al_J_gone hC hG (by omega) dX3_countStanding_17 ?_
        refine bb_ne (tgt := 24) hx hb dX3_countStanding_18 (by decide) (fun h18 => ?_) (fun h18 => ?_)
        · refine lv_iinc (v := (nI (i + 1))) (lv' := [(2, .int (nI (i + 1))), (1, .int (nI (fStand u i))), (0, .ref (a 5))]) hx hb dX3_countStanding_24 hl (k := 0) rfl (nI_1 _) (by decide) rfl (fun ls hl => ?_)
          refine lv_goto (tgt := 4) hx hb dX3_countStanding_27 (by decide) ?_
          have e4_1 : fStand u (i + 1) = fStand u i := by simp [fStand, h9, h18]
          have hl : lv_has ls 3 [(2, .int (nI (i + 1))), (1, .int (nI (fStand u (i + 1)))), (0, .ref (a 5))] := by rw [e4_1]; exact hl
          exact ih4  (i + 1) (by omega) (by omega) H locs hG ls (lv_sub hl [0, 1, 2] rfl)
        · refine lv_iinc (v := (nI (fStand u i + 1))) (lv' := [(1, .int (nI (fStand u i + 1))), (2, .int (nI i)), (0, .ref (a 5))]) hx hb dX3_countStanding_21 hl (k := 1) rfl (nI_1 _) (by decide) rfl (fun ls hl => ?_)
          refine lv_iinc (v := (nI (i + 1))) (lv' := [(2, .int (nI (i + 1))), (1, .int (nI (fStand u i + 1))), (0, .ref (a 5))]) hx hb dX3_countStanding_24 hl (k := 1) rfl (nI_1 _) (by decide) rfl (fun ls hl => ?_)
          refine lv_goto (tgt := 4) hx hb dX3_countStanding_27 (by decide) ?_
          have e4_2 : fStand u (i + 1) = (fStand u i + 1) := by simp [fStand, h9, h18]
          have hl : lv_has ls 3 [(2, .int (nI (i + 1))), (1, .int (nI (fStand u (i + 1)))), (0, .ref (a 5))] := by rw [e4_2]; exact hl
          exact ih4  (i + 1) (by omega) (by omega) H locs hG ls (lv_sub hl [0, 1, 2] rfl)
  have e4_3 : fStand u 0 = 0 := by rfl
  have hl : lv_has ls 3 [(2, .int (nI 0)), (1, .int (nI (fStand u 0))), (0, .ref (a 5))] := by rw [e4_3]; exact hl
  exact lp4 _ 0 (Nat.lt_succ_self _) (by omega) H locs hG ls (lv_sub hl [0, 1, 2] rfl)
theorem k_J_countStanding {p : Program} {l : Launch} {e : Env} {R : Room} {s : State} {m : MethodId} {args : Array Value} {below : List Frame} {meth : Method} {c : Code} {H : Heap} {locs : List Loc} {cs ss : Nat} {Q : State → Prop} {cc : ByteArray} {nL pc : Nat} {ls : Array Slot} {rest : List Value} {own : String} {idx : Nat} {D : va_G} {κ : ClassId × ClassId × ClassId} {a : Nat → Nat} {u : TS} {A : Nat → Prop} (hC : CallFix p m c cc nL s args WALL own) (hG : GW D κ a u A s H locs)  (q1 : OK u) (wl : Cond.methodLink own idx yX3_countStanding ∈ WALL) (hR : 0 + 1 ≤ R.frames ∧ 8 + (3 + 11) + 0 ≤ R.locals) (hls : ls.size = nL) (h8 : (rest.map fun v => v.category).sum ≤ 8) (hd : decode cc pc = .ok (.invokevirtual idx, 3)) (hcs : cs ≤ R.cells ∧ ss ≤ R.slots) (kk : ∀ (H1 : Heap) (locs1 : List Loc), GW D κ a u A s H1 locs1 → W p l e R s m args below meth c H1 locs1 cs ss Q (F0 m (pc + 3) ls (.int (nI (fStand u (J_count u))) :: rest))) : W p l e R s m args below meth c H locs cs ss Q (F0 m pc ls (.ref (a 5) :: rest)) :=
  tc_i hG (tr_V (n := 0) (k := 5) (ci := 3) (As := []) hC hG (c_J_countStanding l D κ a H.size u  q1) rfl rfl wl w23 w166 w164 w165 (by decide +kernel) hR rfl hls rfl h8 hd hcs) (fun r u' H1 locs1 hq hG1 => by obtain ⟨rfl, rfl⟩ := hq; exact kk H1 locs1 hG1)

theorem dX3_amountUpTo_0 : decode cX3_amountUpTo 0 = .ok (.lconst 0, 1) := by decide +kernel
theorem dX3_amountUpTo_1 : decode cX3_amountUpTo 1 = .ok (.lstore_n 3, 1) := by decide +kernel
theorem dX3_amountUpTo_11 : decode cX3_amountUpTo 11 = .ok (.if_icmp .ge 49, 3) := by decide +kernel
theorem dX3_amountUpTo_14 : decode cX3_amountUpTo 14 = .ok (.aload_n 0, 1) := by decide +kernel
theorem dX3_amountUpTo_15 : decode cX3_amountUpTo 15 = .ok (.getfield 38, 3) := by decide +kernel
theorem dX3_amountUpTo_18 : decode cX3_amountUpTo 18 = .ok (.iload 5, 2) := by decide +kernel
theorem dX3_amountUpTo_2 : decode cX3_amountUpTo 2 = .ok (.iconst 0, 1) := by decide +kernel
theorem dX3_amountUpTo_20 : decode cX3_amountUpTo 20 = .ok (.iaload, 1) := by decide +kernel
theorem dX3_amountUpTo_21 : decode cX3_amountUpTo 21 = .ok (.iload_n 1, 1) := by decide +kernel
theorem dX3_amountUpTo_22 : decode cX3_amountUpTo 22 = .ok (.if_icmp .ne 32, 3) := by decide +kernel
theorem dX3_amountUpTo_25 : decode cX3_amountUpTo 25 = .ok (.aload_n 0, 1) := by decide +kernel
theorem dX3_amountUpTo_26 : decode cX3_amountUpTo 26 = .ok (.iload 5, 2) := by decide +kernel
theorem dX3_amountUpTo_28 : decode cX3_amountUpTo 28 = .ok (.invokevirtual 69, 3) := by decide +kernel
theorem dX3_amountUpTo_3 : decode cX3_amountUpTo 3 = .ok (.istore 5, 2) := by decide +kernel
theorem dX3_amountUpTo_31 : decode cX3_amountUpTo 31 = .ok (.ifCond .eq 23, 3) := by decide +kernel
theorem dX3_amountUpTo_34 : decode cX3_amountUpTo 34 = .ok (.aload_n 0, 1) := by decide +kernel
theorem dX3_amountUpTo_35 : decode cX3_amountUpTo 35 = .ok (.iload 5, 2) := by decide +kernel
theorem dX3_amountUpTo_37 : decode cX3_amountUpTo 37 = .ok (.invokevirtual 73, 3) := by decide +kernel
theorem dX3_amountUpTo_40 : decode cX3_amountUpTo 40 = .ok (.iload_n 2, 1) := by decide +kernel
theorem dX3_amountUpTo_41 : decode cX3_amountUpTo 41 = .ok (.if_icmp .gt 13, 3) := by decide +kernel
theorem dX3_amountUpTo_44 : decode cX3_amountUpTo 44 = .ok (.lload_n 3, 1) := by decide +kernel
theorem dX3_amountUpTo_45 : decode cX3_amountUpTo 45 = .ok (.aload_n 0, 1) := by decide +kernel
theorem dX3_amountUpTo_46 : decode cX3_amountUpTo 46 = .ok (.getfield 41, 3) := by decide +kernel
theorem dX3_amountUpTo_49 : decode cX3_amountUpTo 49 = .ok (.iload 5, 2) := by decide +kernel
theorem dX3_amountUpTo_5 : decode cX3_amountUpTo 5 = .ok (.iload 5, 2) := by decide +kernel
theorem dX3_amountUpTo_51 : decode cX3_amountUpTo 51 = .ok (.laload, 1) := by decide +kernel
theorem dX3_amountUpTo_52 : decode cX3_amountUpTo 52 = .ok (.ladd, 1) := by decide +kernel
theorem dX3_amountUpTo_53 : decode cX3_amountUpTo 53 = .ok (.lstore_n 3, 1) := by decide +kernel
theorem dX3_amountUpTo_54 : decode cX3_amountUpTo 54 = .ok (.iinc 5 1, 3) := by decide +kernel
theorem dX3_amountUpTo_57 : decode cX3_amountUpTo 57 = .ok (.goto (-52), 3) := by decide +kernel
theorem dX3_amountUpTo_60 : decode cX3_amountUpTo 60 = .ok (.lload_n 3, 1) := by decide +kernel
theorem dX3_amountUpTo_61 : decode cX3_amountUpTo 61 = .ok (.lreturn, 1) := by decide +kernel
theorem dX3_amountUpTo_7 : decode cX3_amountUpTo 7 = .ok (.aload_n 0, 1) := by decide +kernel
theorem dX3_amountUpTo_8 : decode cX3_amountUpTo 8 = .ok (.getfield 48, 3) := by decide +kernel
set_option maxHeartbeats 4000000 in
set_option maxRecDepth 100000 in
theorem c_J_amountUpTo (l : Launch) (D : va_G) (κ : ClassId × ClassId × ClassId) (a : Nat → Nat) (sz : Nat) (u : TS) (w : Nat) (d : Nat) (q1 : OK u) (q2 : w < 600 ∧ d < 600) : TM l yX3_amountUpTo cX3_amountUpTo 6 (some .long) 1 21 D κ a u sz [.ref (a 5), .int (nI w), .int (nI d)] (QL D κ a sz (fun r u' => r = (fAmt u w d (J_legCount u)) ∧ u' = u)) := by
  refine TM.of (by decide +kernel) (Nat.le_of_ble_eq_true rfl) ?_
  intro p e s m below meth c ls hC hr hk hsz H locs hG hl
  have hx := hC.1
  have hb := hC.2.1
  have hl : lv_has ls 6 [(0, .ref (a 5)), (1, .int (nI w)), (2, .int (nI d))] := hl
  have qok := q1
  have ⟨n1, n2, n3, n4, n5, n6, n7, n8, n9, n10⟩ := qok.n
  refine lv_lconst (v := 0) hx hb dX3_amountUpTo_0 (by decide) ?_
  refine lv_lstore_n (lv' := [(3, .long (0 : Int64)), (0, .ref (a 5)), (1, .int (nI w)), (2, .int (nI d))]) hx hb dX3_amountUpTo_1 rfl hl (by decide) rfl (fun ls hl => ?_)
  refine lv_iconst (v := nI 0) hx hb dX3_amountUpTo_2 (by decide) ?_
  refine lv_istore (lv' := [(5, .int (nI 0)), (3, .long (0 : Int64)), (0, .ref (a 5)), (1, .int (nI w)), (2, .int (nI d))]) hx hb dX3_amountUpTo_3 hl (by decide) rfl (fun ls hl => ?_)
  have lp5 : ∀ (n : Nat) (i : Nat), J_legCount u - i < n → (i ≤ J_legCount u) → ∀ (H : Heap) (locs : List Loc), GW D κ a u (AA a sz) s H locs → ∀ ls : Array Slot, lv_has ls 6 [(5, .int (nI i)), (3, .long (fAmt u w d i)), (0, .ref (a 5)), (1, .int (nI w)), (2, .int (nI d))] → W p l e { frames := 1, cells := 0, slots := 0, locals := 21 } s m [.ref (a 5), .int (nI w), .int (nI d)].toArray below meth c H locs 0 0 (MQ below (QL D κ a sz (fun r u' => r = (fAmt u w d (J_legCount u)) ∧ u' = u)) [.ref (a 5), .int (nI w), .int (nI d)].toArray s 0 0 (AA a sz)) (F0 m 5 ls []) := by
    intro n
    induction n with
    | zero =>
      intro i hm
      exact absurd hm (Nat.not_lt_zero _)
    | succ n ih5 =>
      intro i hm5 c5_1 H locs hG ls hl
      refine lv_iload hx hb dX3_amountUpTo_5 (lv_at hl 0 rfl) ?_
      refine lv_aload_n hx hb dX3_amountUpTo_7 rfl (lv_at hl 2 rfl) ?_
      refine gf_J_legCount hC hG (hC.2.2.2.2 _ w85) dX3_amountUpTo_8 ?_
      refine bn_ge (tgt := 60) hx hb (by omega) (by omega) dX3_amountUpTo_11 (by decide) (fun h11 => ?_) (fun h11 => ?_)
      · refine lv_lload_n hx hb dX3_amountUpTo_60 rfl (lv_at hl 1 rfl) ?_
        have hi : i = J_legCount u := by omega
        exact te_l hC hG hr hk ⟨(show fAmt u w d i = fAmt u w d (J_legCount u) from by rw [hi]), rfl⟩ dX3_amountUpTo_61
      · have k1 := q1.leg (g := i) (by omega)
        have k2 := q1.ent k1.1
        refine lv_aload_n hx hb dX3_amountUpTo_14 rfl (lv_at hl 2 rfl) ?_
        refine gf_J_account hC hG (hC.2.2.2.2 _ w82) dX3_amountUpTo_15 ?_
        refine lv_iload hx hb dX3_amountUpTo_18 (lv_at hl 0 rfl) ?_
        refine al_J_account hC hG (by omega) dX3_amountUpTo_20 ?_
        refine lv_iload_n hx hb dX3_amountUpTo_21 rfl (lv_at hl 3 rfl) ?_
        refine bn_ne (tgt := 54) hx hb (by omega) (by omega) dX3_amountUpTo_22 (by decide) (fun h22 => ?_) (fun h22 => ?_)
        · refine lv_iinc (v := (nI (i + 1))) (lv' := [(5, .int (nI (i + 1))), (3, .long (fAmt u w d i)), (0, .ref (a 5)), (1, .int (nI w)), (2, .int (nI d))]) hx hb dX3_amountUpTo_54 hl (k := 0) rfl (nI_1 _) (by decide) rfl (fun ls hl => ?_)
          refine lv_goto (tgt := 5) hx hb dX3_amountUpTo_57 (by decide) ?_
          have e5_1 : fAmt u w d (i + 1) = fAmt u w d i := by simp [fAmt, h11, h22]; try omega
          have hl : lv_has ls 6 [(5, .int (nI (i + 1))), (3, .long (fAmt u w d (i + 1))), (0, .ref (a 5)), (1, .int (nI w)), (2, .int (nI d))] := by rw [e5_1]; exact hl
          exact ih5  (i + 1) (by omega) (by omega) H locs hG ls (lv_sub hl [0, 1, 2, 3, 4] rfl)
        · refine lv_aload_n hx hb dX3_amountUpTo_25 rfl (lv_at hl 2 rfl) ?_
          refine lv_iload hx hb dX3_amountUpTo_26 (lv_at hl 0 rfl) ?_
          refine k_J_counts hC hG i (by omega) (by omega) w203 ⟨by decide, by decide⟩ hl.1 (by decide) dX3_amountUpTo_28 ⟨Nat.zero_le _, Nat.zero_le _⟩ (fun H locs hG => ?_)
          refine bb_eq (tgt := 54) hx hb dX3_amountUpTo_31 (by decide) (fun h31 => ?_) (fun h31 => ?_)
          · refine lv_iinc (v := (nI (i + 1))) (lv' := [(5, .int (nI (i + 1))), (3, .long (fAmt u w d i)), (0, .ref (a 5)), (1, .int (nI w)), (2, .int (nI d))]) hx hb dX3_amountUpTo_54 hl (k := 0) rfl (nI_1 _) (by decide) rfl (fun ls hl => ?_)
            refine lv_goto (tgt := 5) hx hb dX3_amountUpTo_57 (by decide) ?_
            have e5_2 : fAmt u w d (i + 1) = fAmt u w d i := by simp [fAmt, h11, h22, h31]; try omega
            have hl : lv_has ls 6 [(5, .int (nI (i + 1))), (3, .long (fAmt u w d (i + 1))), (0, .ref (a 5)), (1, .int (nI w)), (2, .int (nI d))] := by rw [e5_2]; exact hl
            exact ih5  (i + 1) (by omega) (by omega) H locs hG ls (lv_sub hl [0, 1, 2, 3, 4] rfl)
          · refine lv_aload_n hx hb dX3_amountUpTo_34 rfl (lv_at hl 2 rfl) ?_
            refine lv_iload hx hb dX3_amountUpTo_35 (lv_at hl 0 rfl) ?_
            refine k_J_dayOf hC hG i (by omega) (by omega) w207 ⟨by decide, by decide⟩ hl.1 (by decide) dX3_amountUpTo_37 ⟨Nat.zero_le _, Nat.zero_le _⟩ (fun H locs hG => ?_)
            refine lv_iload_n hx hb dX3_amountUpTo_40 rfl (lv_at hl 4 rfl) ?_
            have k3 : fDayOf u i ≤ 364 := k2.2.1
            refine bn_gt (tgt := 54) hx hb (by omega) (by omega) dX3_amountUpTo_41 (by decide) (fun h41 => ?_) (fun h41 => ?_)
            · refine lv_iinc (v := (nI (i + 1))) (lv' := [(5, .int (nI (i + 1))), (3, .long (fAmt u w d i)), (0, .ref (a 5)), (1, .int (nI w)), (2, .int (nI d))]) hx hb dX3_amountUpTo_54 hl (k := 0) rfl (nI_1 _) (by decide) rfl (fun ls hl => ?_)
              refine lv_goto (tgt := 5) hx hb dX3_amountUpTo_57 (by decide) ?_
              have e5_3 : fAmt u w d (i + 1) = fAmt u w d i := by simp [fAmt, h11, h22, h31, h41]; try omega
              have hl : lv_has ls 6 [(5, .int (nI (i + 1))), (3, .long (fAmt u w d (i + 1))), (0, .ref (a 5)), (1, .int (nI w)), (2, .int (nI d))] := by rw [e5_3]; exact hl
              exact ih5  (i + 1) (by omega) (by omega) H locs hG ls (lv_sub hl [0, 1, 2, 3, 4] rfl)
            · refine lv_lload_n hx hb dX3_amountUpTo_44 rfl (lv_at hl 1 rfl) ?_
              refine lv_aload_n hx hb dX3_amountUpTo_45 rfl (lv_at hl 2 rfl) ?_
              refine gf_J_amount hC hG (hC.2.2.2.2 _ w83) dX3_amountUpTo_46 ?_
              refine lv_iload hx hb dX3_amountUpTo_49 (lv_at hl 0 rfl) ?_
              refine al_J_amount hC hG (by omega) dX3_amountUpTo_51 ?_
              refine lv_ladd hx hb dX3_amountUpTo_52 ?_
              refine lv_lstore_n (lv' := [(3, .long (fAmt u w d i + (J_amount u i))), (5, .int (nI i)), (0, .ref (a 5)), (1, .int (nI w)), (2, .int (nI d))]) hx hb dX3_amountUpTo_53 rfl hl (by decide) rfl (fun ls hl => ?_)
              refine lv_iinc (v := (nI (i + 1))) (lv' := [(5, .int (nI (i + 1))), (3, .long (fAmt u w d i + (J_amount u i))), (0, .ref (a 5)), (1, .int (nI w)), (2, .int (nI d))]) hx hb dX3_amountUpTo_54 hl (k := 1) rfl (nI_1 _) (by decide) rfl (fun ls hl => ?_)
              refine lv_goto (tgt := 5) hx hb dX3_amountUpTo_57 (by decide) ?_
              have e5_4 : fAmt u w d (i + 1) = (fAmt u w d i + (J_amount u i)) := by simp [fAmt, h11, h22, h31, h41]; try omega
              have hl : lv_has ls 6 [(5, .int (nI (i + 1))), (3, .long (fAmt u w d (i + 1))), (0, .ref (a 5)), (1, .int (nI w)), (2, .int (nI d))] := by rw [e5_4]; exact hl
              exact ih5  (i + 1) (by omega) (by omega) H locs hG ls (lv_sub hl [0, 1, 2, 3, 4] rfl)
  have e5_5 : fAmt u w d 0 = (0 : Int64) := by rfl
  have hl : lv_has ls 6 [(5, .int (nI 0)), (3, .long (fAmt u w d 0)), (0, .ref (a 5)), (1, .int (nI w)), (2, .int (nI d))] := by rw [e5_5]; exact hl
  exact lp5 _ 0 (Nat.lt_succ_self _) (by omega) H locs hG ls (lv_sub hl [0, 1, 2, 3, 4] rfl)
theorem k_J_amountUpTo {p : Program} {l : Launch} {e : Env} {R : Room} {s : State} {m : MethodId} {args : Array Value} {below : List Frame} {meth : Method} {c : Code} {H : Heap} {locs : List Loc} {cs ss : Nat} {Q : State → Prop} {cc : ByteArray} {nL pc : Nat} {ls : Array Slot} {rest : List Value} {own : String} {idx : Nat} {D : va_G} {κ : ClassId × ClassId × ClassId} {a : Nat → Nat} {u : TS} {A : Nat → Prop} (hC : CallFix p m c cc nL s args WALL own) (hG : GW D κ a u A s H locs) (w : Nat) (d : Nat) (q1 : OK u) (q2 : w < 600 ∧ d < 600) (wl : Cond.methodLink own idx yX3_amountUpTo ∈ WALL) (hR : 1 + 1 ≤ R.frames ∧ 8 + (6 + 11) + 21 ≤ R.locals) (hls : ls.size = nL) (h8 : (rest.map fun v => v.category).sum ≤ 8) (hd : decode cc pc = .ok (.invokevirtual idx, 3)) (hcs : cs ≤ R.cells ∧ ss ≤ R.slots) (kk : ∀ (H1 : Heap) (locs1 : List Loc), GW D κ a u A s H1 locs1 → W p l e R s m args below meth c H1 locs1 cs ss Q (F0 m (pc + 3) ls (.long (fAmt u w d (J_legCount u)) :: rest))) : W p l e R s m args below meth c H locs cs ss Q (F0 m pc ls (.int (nI d) :: .int (nI w) :: .ref (a 5) :: rest)) :=
  tc_l hG (tr_V (n := 2) (k := 5) (ci := 3) (As := [.int (nI w), .int (nI d)]) hC hG (c_J_amountUpTo l D κ a H.size u w d q1 q2) rfl rfl wl w23 w202 w200 w201 (by decide +kernel) hR rfl hls rfl h8 hd hcs) (fun r u' H1 locs1 hq hG1 => by obtain ⟨rfl, rfl⟩ := hq; exact kk H1 locs1 hG1)

theorem dX3_worthOn_0 : decode cX3_worthOn 0 = .ok (.lconst 0, 1) := by decide +kernel
theorem dX3_worthOn_1 : decode cX3_worthOn 1 = .ok (.lstore_n 2, 1) := by decide +kernel
theorem dX3_worthOn_11 : decode cX3_worthOn 11 = .ok (.if_icmp .ge 39, 3) := by decide +kernel
theorem dX3_worthOn_14 : decode cX3_worthOn 14 = .ok (.aload_n 0, 1) := by decide +kernel
theorem dX3_worthOn_15 : decode cX3_worthOn 15 = .ok (.getfield 38, 3) := by decide +kernel
theorem dX3_worthOn_18 : decode cX3_worthOn 18 = .ok (.iload 4, 2) := by decide +kernel
theorem dX3_worthOn_2 : decode cX3_worthOn 2 = .ok (.iconst 0, 1) := by decide +kernel
theorem dX3_worthOn_20 : decode cX3_worthOn 20 = .ok (.iaload, 1) := by decide +kernel
theorem dX3_worthOn_21 : decode cX3_worthOn 21 = .ok (.iload_n 1, 1) := by decide +kernel
theorem dX3_worthOn_22 : decode cX3_worthOn 22 = .ok (.if_icmp .ne 22, 3) := by decide +kernel
theorem dX3_worthOn_25 : decode cX3_worthOn 25 = .ok (.aload_n 0, 1) := by decide +kernel
theorem dX3_worthOn_26 : decode cX3_worthOn 26 = .ok (.iload 4, 2) := by decide +kernel
theorem dX3_worthOn_28 : decode cX3_worthOn 28 = .ok (.invokevirtual 69, 3) := by decide +kernel
theorem dX3_worthOn_3 : decode cX3_worthOn 3 = .ok (.istore 4, 2) := by decide +kernel
theorem dX3_worthOn_31 : decode cX3_worthOn 31 = .ok (.ifCond .eq 13, 3) := by decide +kernel
theorem dX3_worthOn_34 : decode cX3_worthOn 34 = .ok (.lload_n 2, 1) := by decide +kernel
theorem dX3_worthOn_35 : decode cX3_worthOn 35 = .ok (.aload_n 0, 1) := by decide +kernel
theorem dX3_worthOn_36 : decode cX3_worthOn 36 = .ok (.getfield 45, 3) := by decide +kernel
theorem dX3_worthOn_39 : decode cX3_worthOn 39 = .ok (.iload 4, 2) := by decide +kernel
theorem dX3_worthOn_41 : decode cX3_worthOn 41 = .ok (.laload, 1) := by decide +kernel
theorem dX3_worthOn_42 : decode cX3_worthOn 42 = .ok (.ladd, 1) := by decide +kernel
theorem dX3_worthOn_43 : decode cX3_worthOn 43 = .ok (.lstore_n 2, 1) := by decide +kernel
theorem dX3_worthOn_44 : decode cX3_worthOn 44 = .ok (.iinc 4 1, 3) := by decide +kernel
theorem dX3_worthOn_47 : decode cX3_worthOn 47 = .ok (.goto (-42), 3) := by decide +kernel
theorem dX3_worthOn_5 : decode cX3_worthOn 5 = .ok (.iload 4, 2) := by decide +kernel
theorem dX3_worthOn_50 : decode cX3_worthOn 50 = .ok (.lload_n 2, 1) := by decide +kernel
theorem dX3_worthOn_51 : decode cX3_worthOn 51 = .ok (.lreturn, 1) := by decide +kernel
theorem dX3_worthOn_7 : decode cX3_worthOn 7 = .ok (.aload_n 0, 1) := by decide +kernel
theorem dX3_worthOn_8 : decode cX3_worthOn 8 = .ok (.getfield 48, 3) := by decide +kernel
set_option maxHeartbeats 4000000 in
set_option maxRecDepth 100000 in
theorem c_J_worthOn (l : Launch) (D : va_G) (κ : ClassId × ClassId × ClassId) (a : Nat → Nat) (sz : Nat) (u : TS) (w : Nat) (q1 : OK u) (q2 : w < 600) : TM l yX3_worthOn cX3_worthOn 5 (some .long) 1 21 D κ a u sz [.ref (a 5), .int (nI w)] (QL D κ a sz (fun r u' => r = (fWor u w (J_legCount u)) ∧ u' = u)) := by
  refine TM.of (by decide +kernel) (Nat.le_of_ble_eq_true rfl) ?_
  intro p e s m below meth c ls hC hr hk hsz H locs hG hl
  have hx := hC.1
  have hb := hC.2.1
  have hl : lv_has ls 5 [(0, .ref (a 5)), (1, .int (nI w))] := hl
  have qok := q1
  have ⟨n1, n2, n3, n4, n5, n6, n7, n8, n9, n10⟩ := qok.n
  refine lv_lconst (v := 0) hx hb dX3_worthOn_0 (by decide) ?_
  refine lv_lstore_n (lv' := [(2, .long (0 : Int64)), (0, .ref (a 5)), (1, .int (nI w))]) hx hb dX3_worthOn_1 rfl hl (by decide) rfl (fun ls hl => ?_)
  refine lv_iconst (v := nI 0) hx hb dX3_worthOn_2 (by decide) ?_
  refine lv_istore (lv' := [(4, .int (nI 0)), (2, .long (0 : Int64)), (0, .ref (a 5)), (1, .int (nI w))]) hx hb dX3_worthOn_3 hl (by decide) rfl (fun ls hl => ?_)
  have lp5 : ∀ (n : Nat) (i : Nat), J_legCount u - i < n → (i ≤ J_legCount u) → ∀ (H : Heap) (locs : List Loc), GW D κ a u (AA a sz) s H locs → ∀ ls : Array Slot, lv_has ls 5 [(4, .int (nI i)), (2, .long (fWor u w i)), (0, .ref (a 5)), (1, .int (nI w))] → W p l e { frames := 1, cells := 0, slots := 0, locals := 21 } s m [.ref (a 5), .int (nI w)].toArray below meth c H locs 0 0 (MQ below (QL D κ a sz (fun r u' => r = (fWor u w (J_legCount u)) ∧ u' = u)) [.ref (a 5), .int (nI w)].toArray s 0 0 (AA a sz)) (F0 m 5 ls []) := by
    intro n
    induction n with
    | zero =>
      intro i hm
      exact absurd hm (Nat.not_lt_zero _)
    | succ n ih5 =>
      intro i hm5 c5_1 H locs hG ls hl
      refine lv_iload hx hb dX3_worthOn_5 (lv_at hl 0 rfl) ?_
      refine lv_aload_n hx hb dX3_worthOn_7 rfl (lv_at hl 2 rfl) ?_
      refine gf_J_legCount hC hG (hC.2.2.2.2 _ w85) dX3_worthOn_8 ?_
      refine bn_ge (tgt := 50) hx hb (by omega) (by omega) dX3_worthOn_11 (by decide) (fun h11 => ?_) (fun h11 => ?_)
      · refine lv_lload_n hx hb dX3_worthOn_50 rfl (lv_at hl 1 rfl) ?_
        have hi : i = J_legCount u := by omega
        exact te_l hC hG hr hk ⟨(show fWor u w i = fWor u w (J_legCount u) from by rw [hi]), rfl⟩ dX3_worthOn_51
      · have k1 := q1.leg (g := i) (by omega)
        refine lv_aload_n hx hb dX3_worthOn_14 rfl (lv_at hl 2 rfl) ?_
        refine gf_J_account hC hG (hC.2.2.2.2 _ w82) dX3_worthOn_15 ?_
        refine lv_iload hx hb dX3_worthOn_18 (lv_at hl 0 rfl) ?_
        refine al_J_account hC hG (by omega) dX3_worthOn_20 ?_
        refine lv_iload_n hx hb dX3_worthOn_21 rfl (lv_at hl 3 rfl) ?_
        refine bn_ne (tgt := 44) hx hb (by omega) (by omega) dX3_worthOn_22 (by decide) (fun h22 => ?_) (fun h22 => ?_)
        · refine lv_iinc (v := (nI (i + 1))) (lv' := [(4, .int (nI (i + 1))), (2, .long (fWor u w i)), (0, .ref (a 5)), (1, .int (nI w))]) hx hb dX3_worthOn_44 hl (k := 0) rfl (nI_1 _) (by decide) rfl (fun ls hl => ?_)
          refine lv_goto (tgt := 5) hx hb dX3_worthOn_47 (by decide) ?_
          have e5_1 : fWor u w (i + 1) = fWor u w i := by simp [fWor, h11, h22]; try omega
          have hl : lv_has ls 5 [(4, .int (nI (i + 1))), (2, .long (fWor u w (i + 1))), (0, .ref (a 5)), (1, .int (nI w))] := by rw [e5_1]; exact hl
          exact ih5  (i + 1) (by omega) (by omega) H locs hG ls (lv_sub hl [0, 1, 2, 3] rfl)
        · refine lv_aload_n hx hb dX3_worthOn_25 rfl (lv_at hl 2 rfl) ?_
          refine lv_iload hx hb dX3_worthOn_26 (lv_at hl 0 rfl) ?_
          refine k_J_counts hC hG i (by omega) (by omega) w203 ⟨by decide, by decide⟩ hl.1 (by decide) dX3_worthOn_28 ⟨Nat.zero_le _, Nat.zero_le _⟩ (fun H locs hG => ?_)
          refine bb_eq (tgt := 44) hx hb dX3_worthOn_31 (by decide) (fun h31 => ?_) (fun h31 => ?_)
          · refine lv_iinc (v := (nI (i + 1))) (lv' := [(4, .int (nI (i + 1))), (2, .long (fWor u w i)), (0, .ref (a 5)), (1, .int (nI w))]) hx hb dX3_worthOn_44 hl (k := 0) rfl (nI_1 _) (by decide) rfl (fun ls hl => ?_)
            refine lv_goto (tgt := 5) hx hb dX3_worthOn_47 (by decide) ?_
            have e5_2 : fWor u w (i + 1) = fWor u w i := by simp [fWor, h11, h22, h31]; try omega
            have hl : lv_has ls 5 [(4, .int (nI (i + 1))), (2, .long (fWor u w (i + 1))), (0, .ref (a 5)), (1, .int (nI w))] := by rw [e5_2]; exact hl
            exact ih5  (i + 1) (by omega) (by omega) H locs hG ls (lv_sub hl [0, 1, 2, 3] rfl)
          · refine lv_lload_n hx hb dX3_worthOn_34 rfl (lv_at hl 1 rfl) ?_
            refine lv_aload_n hx hb dX3_worthOn_35 rfl (lv_at hl 2 rfl) ?_
            refine gf_J_worth hC hG (hC.2.2.2.2 _ w84) dX3_worthOn_36 ?_
            refine lv_iload hx hb dX3_worthOn_39 (lv_at hl 0 rfl) ?_
            refine al_J_worth hC hG (by omega) dX3_worthOn_41 ?_
            refine lv_ladd hx hb dX3_worthOn_42 ?_
            refine lv_lstore_n (lv' := [(2, .long (fWor u w i + (J_worth u i))), (4, .int (nI i)), (0, .ref (a 5)), (1, .int (nI w))]) hx hb dX3_worthOn_43 rfl hl (by decide) rfl (fun ls hl => ?_)
            refine lv_iinc (v := (nI (i + 1))) (lv' := [(4, .int (nI (i + 1))), (2, .long (fWor u w i + (J_worth u i))), (0, .ref (a 5)), (1, .int (nI w))]) hx hb dX3_worthOn_44 hl (k := 1) rfl (nI_1 _) (by decide) rfl (fun ls hl => ?_)
            refine lv_goto (tgt := 5) hx hb dX3_worthOn_47 (by decide) ?_
            have e5_3 : fWor u w (i + 1) = (fWor u w i + (J_worth u i)) := by simp [fWor, h11, h22, h31]; try omega
            have hl : lv_has ls 5 [(4, .int (nI (i + 1))), (2, .long (fWor u w (i + 1))), (0, .ref (a 5)), (1, .int (nI w))] := by rw [e5_3]; exact hl
            exact ih5  (i + 1) (by omega) (by omega) H locs hG ls (lv_sub hl [0, 1, 2, 3] rfl)
  have e5_4 : fWor u w 0 = (0 : Int64) := by rfl
  have hl : lv_has ls 5 [(4, .int (nI 0)), (2, .long (fWor u w 0)), (0, .ref (a 5)), (1, .int (nI w))] := by rw [e5_4]; exact hl
  exact lp5 _ 0 (Nat.lt_succ_self _) (by omega) H locs hG ls (lv_sub hl [0, 1, 2, 3] rfl)
theorem k_J_worthOn {p : Program} {l : Launch} {e : Env} {R : Room} {s : State} {m : MethodId} {args : Array Value} {below : List Frame} {meth : Method} {c : Code} {H : Heap} {locs : List Loc} {cs ss : Nat} {Q : State → Prop} {cc : ByteArray} {nL pc : Nat} {ls : Array Slot} {rest : List Value} {own : String} {idx : Nat} {D : va_G} {κ : ClassId × ClassId × ClassId} {a : Nat → Nat} {u : TS} {A : Nat → Prop} (hC : CallFix p m c cc nL s args WALL own) (hG : GW D κ a u A s H locs) (w : Nat) (q1 : OK u) (q2 : w < 600) (wl : Cond.methodLink own idx yX3_worthOn ∈ WALL) (hR : 1 + 1 ≤ R.frames ∧ 8 + (5 + 11) + 21 ≤ R.locals) (hls : ls.size = nL) (h8 : (rest.map fun v => v.category).sum ≤ 8) (hd : decode cc pc = .ok (.invokevirtual idx, 3)) (hcs : cs ≤ R.cells ∧ ss ≤ R.slots) (kk : ∀ (H1 : Heap) (locs1 : List Loc), GW D κ a u A s H1 locs1 → W p l e R s m args below meth c H1 locs1 cs ss Q (F0 m (pc + 3) ls (.long (fWor u w (J_legCount u)) :: rest))) : W p l e R s m args below meth c H locs cs ss Q (F0 m pc ls (.int (nI w) :: .ref (a 5) :: rest)) :=
  tc_l hG (tr_V (n := 1) (k := 5) (ci := 3) (As := [.int (nI w)]) hC hG (c_J_worthOn l D κ a H.size u w q1 q2) rfl rfl wl w23 w469 w467 w468 (by decide +kernel) hR rfl hls rfl h8 hd hcs) (fun r u' H1 locs1 hq hG1 => by obtain ⟨rfl, rfl⟩ := hq; exact kk H1 locs1 hG1)

theorem dX3_worthBetween_0 : decode cX3_worthBetween 0 = .ok (.lconst 0, 1) := by decide +kernel
theorem dX3_worthBetween_1 : decode cX3_worthBetween 1 = .ok (.lstore 4, 2) := by decide +kernel
theorem dX3_worthBetween_12 : decode cX3_worthBetween 12 = .ok (.if_icmp .ge 76, 3) := by decide +kernel
theorem dX3_worthBetween_15 : decode cX3_worthBetween 15 = .ok (.aload_n 0, 1) := by decide +kernel
theorem dX3_worthBetween_16 : decode cX3_worthBetween 16 = .ok (.getfield 38, 3) := by decide +kernel
theorem dX3_worthBetween_19 : decode cX3_worthBetween 19 = .ok (.iload 6, 2) := by decide +kernel
theorem dX3_worthBetween_21 : decode cX3_worthBetween 21 = .ok (.iaload, 1) := by decide +kernel
theorem dX3_worthBetween_22 : decode cX3_worthBetween 22 = .ok (.iload_n 1, 1) := by decide +kernel
theorem dX3_worthBetween_23 : decode cX3_worthBetween 23 = .ok (.if_icmp .ne 59, 3) := by decide +kernel
theorem dX3_worthBetween_26 : decode cX3_worthBetween 26 = .ok (.aload_n 0, 1) := by decide +kernel
theorem dX3_worthBetween_27 : decode cX3_worthBetween 27 = .ok (.iload 6, 2) := by decide +kernel
theorem dX3_worthBetween_29 : decode cX3_worthBetween 29 = .ok (.invokevirtual 69, 3) := by decide +kernel
theorem dX3_worthBetween_3 : decode cX3_worthBetween 3 = .ok (.iconst 0, 1) := by decide +kernel
theorem dX3_worthBetween_32 : decode cX3_worthBetween 32 = .ok (.ifCond .eq 50, 3) := by decide +kernel
theorem dX3_worthBetween_35 : decode cX3_worthBetween 35 = .ok (.aload_n 0, 1) := by decide +kernel
theorem dX3_worthBetween_36 : decode cX3_worthBetween 36 = .ok (.getfield 28, 3) := by decide +kernel
theorem dX3_worthBetween_39 : decode cX3_worthBetween 39 = .ok (.aload_n 0, 1) := by decide +kernel
theorem dX3_worthBetween_4 : decode cX3_worthBetween 4 = .ok (.istore 6, 2) := by decide +kernel
theorem dX3_worthBetween_40 : decode cX3_worthBetween 40 = .ok (.getfield 35, 3) := by decide +kernel
theorem dX3_worthBetween_43 : decode cX3_worthBetween 43 = .ok (.iload 6, 2) := by decide +kernel
theorem dX3_worthBetween_45 : decode cX3_worthBetween 45 = .ok (.iaload, 1) := by decide +kernel
theorem dX3_worthBetween_46 : decode cX3_worthBetween 46 = .ok (.baload, 1) := by decide +kernel
theorem dX3_worthBetween_47 : decode cX3_worthBetween 47 = .ok (.ifCond .ne 35, 3) := by decide +kernel
theorem dX3_worthBetween_50 : decode cX3_worthBetween 50 = .ok (.aload_n 0, 1) := by decide +kernel
theorem dX3_worthBetween_51 : decode cX3_worthBetween 51 = .ok (.iload 6, 2) := by decide +kernel
theorem dX3_worthBetween_53 : decode cX3_worthBetween 53 = .ok (.invokevirtual 73, 3) := by decide +kernel
theorem dX3_worthBetween_56 : decode cX3_worthBetween 56 = .ok (.iload_n 2, 1) := by decide +kernel
theorem dX3_worthBetween_57 : decode cX3_worthBetween 57 = .ok (.if_icmp .lt 25, 3) := by decide +kernel
theorem dX3_worthBetween_6 : decode cX3_worthBetween 6 = .ok (.iload 6, 2) := by decide +kernel
theorem dX3_worthBetween_60 : decode cX3_worthBetween 60 = .ok (.aload_n 0, 1) := by decide +kernel
theorem dX3_worthBetween_61 : decode cX3_worthBetween 61 = .ok (.iload 6, 2) := by decide +kernel
theorem dX3_worthBetween_63 : decode cX3_worthBetween 63 = .ok (.invokevirtual 73, 3) := by decide +kernel
theorem dX3_worthBetween_66 : decode cX3_worthBetween 66 = .ok (.iload_n 3, 1) := by decide +kernel
theorem dX3_worthBetween_67 : decode cX3_worthBetween 67 = .ok (.if_icmp .gt 15, 3) := by decide +kernel
theorem dX3_worthBetween_70 : decode cX3_worthBetween 70 = .ok (.lload 4, 2) := by decide +kernel
theorem dX3_worthBetween_72 : decode cX3_worthBetween 72 = .ok (.aload_n 0, 1) := by decide +kernel
theorem dX3_worthBetween_73 : decode cX3_worthBetween 73 = .ok (.getfield 45, 3) := by decide +kernel
theorem dX3_worthBetween_76 : decode cX3_worthBetween 76 = .ok (.iload 6, 2) := by decide +kernel
theorem dX3_worthBetween_78 : decode cX3_worthBetween 78 = .ok (.laload, 1) := by decide +kernel
theorem dX3_worthBetween_79 : decode cX3_worthBetween 79 = .ok (.ladd, 1) := by decide +kernel
theorem dX3_worthBetween_8 : decode cX3_worthBetween 8 = .ok (.aload_n 0, 1) := by decide +kernel
theorem dX3_worthBetween_80 : decode cX3_worthBetween 80 = .ok (.lstore 4, 2) := by decide +kernel
theorem dX3_worthBetween_82 : decode cX3_worthBetween 82 = .ok (.iinc 6 1, 3) := by decide +kernel
theorem dX3_worthBetween_85 : decode cX3_worthBetween 85 = .ok (.goto (-79), 3) := by decide +kernel
theorem dX3_worthBetween_88 : decode cX3_worthBetween 88 = .ok (.lload 4, 2) := by decide +kernel
theorem dX3_worthBetween_9 : decode cX3_worthBetween 9 = .ok (.getfield 48, 3) := by decide +kernel
theorem dX3_worthBetween_90 : decode cX3_worthBetween 90 = .ok (.lreturn, 1) := by decide +kernel
set_option maxHeartbeats 4000000 in
set_option maxRecDepth 100000 in
theorem c_J_worthBetween (l : Launch) (D : va_G) (κ : ClassId × ClassId × ClassId) (a : Nat → Nat) (sz : Nat) (u : TS) (w : Nat) (f : Nat) (t : Nat) (q1 : OK u) (q2 : w < 600 ∧ f < 600 ∧ t < 600) : TM l yX3_worthBetween cX3_worthBetween 7 (some .long) 1 21 D κ a u sz [.ref (a 5), .int (nI w), .int (nI f), .int (nI t)] (QL D κ a sz (fun r u' => r = (fWorB u w f t (J_legCount u)) ∧ u' = u)) := by
  refine TM.of (by decide +kernel) (Nat.le_of_ble_eq_true rfl) ?_
  intro p e s m below meth c ls hC hr hk hsz H locs hG hl
  have hx := hC.1
  have hb := hC.2.1
  have hl : lv_has ls 7 [(0, .ref (a 5)), (1, .int (nI w)), (2, .int (nI f)), (3, .int (nI t))] := hl
  have qok := q1
  have ⟨n1, n2, n3, n4, n5, n6, n7, n8, n9, n10⟩ := qok.n
  refine lv_lconst (v := 0) hx hb dX3_worthBetween_0 (by decide) ?_
  refine lv_lstore (lv' := [(4, .long (0 : Int64)), (0, .ref (a 5)), (1, .int (nI w)), (2, .int (nI f)), (3, .int (nI t))]) hx hb dX3_worthBetween_1 hl (by decide) rfl (fun ls hl => ?_)
  refine lv_iconst (v := nI 0) hx hb dX3_worthBetween_3 (by decide) ?_
  refine lv_istore (lv' := [(6, .int (nI 0)), (4, .long (0 : Int64)), (0, .ref (a 5)), (1, .int (nI w)), (2, .int (nI f)), (3, .int (nI t))]) hx hb dX3_worthBetween_4 hl (by decide) rfl (fun ls hl => ?_)
  have lp6 : ∀ (n : Nat) (i : Nat), J_legCount u - i < n → (i ≤ J_legCount u) → ∀ (H : Heap) (locs : List Loc), GW D κ a u (AA a sz) s H locs → ∀ ls : Array Slot, lv_has ls 7 [(6, .int (nI i)), (4, .long (fWorB u w f t i)), (0, .ref (a 5)), (1, .int (nI w)), (2, .int (nI f)), (3, .int (nI t))] → W p l e { frames := 1, cells := 0, slots := 0, locals := 21 } s m [.ref (a 5), .int (nI w), .int (nI f), .int (nI t)].toArray below meth c H locs 0 0 (MQ below (QL D κ a sz (fun r u' => r = (fWorB u w f t (J_legCount u)) ∧ u' = u)) [.ref (a 5), .int (nI w), .int (nI f), .int (nI t)].toArray s 0 0 (AA a sz)) (F0 m 6 ls []) := by
    intro n
    induction n with
    | zero =>
      intro i hm
      exact absurd hm (Nat.not_lt_zero _)
    | succ n ih6 =>
      intro i hm6 c6_1 H locs hG ls hl
      refine lv_iload hx hb dX3_worthBetween_6 (lv_at hl 0 rfl) ?_
      refine lv_aload_n hx hb dX3_worthBetween_8 rfl (lv_at hl 2 rfl) ?_
      refine gf_J_legCount hC hG (hC.2.2.2.2 _ w85) dX3_worthBetween_9 ?_
      refine bn_ge (tgt := 88) hx hb (by omega) (by omega) dX3_worthBetween_12 (by decide) (fun h12 => ?_) (fun h12 => ?_)
      · refine lv_lload hx hb dX3_worthBetween_88 (lv_at hl 1 rfl) ?_
        have hi : i = J_legCount u := by omega
        exact te_l hC hG hr hk ⟨(show fWorB u w f t i = fWorB u w f t (J_legCount u) from by rw [hi]), rfl⟩ dX3_worthBetween_90
      · have k1 := q1.leg (g := i) (by omega)
        have k2 := q1.ent k1.1
        refine lv_aload_n hx hb dX3_worthBetween_15 rfl (lv_at hl 2 rfl) ?_
        refine gf_J_account hC hG (hC.2.2.2.2 _ w82) dX3_worthBetween_16 ?_
        refine lv_iload hx hb dX3_worthBetween_19 (lv_at hl 0 rfl) ?_
        refine al_J_account hC hG (by omega) dX3_worthBetween_21 ?_
        refine lv_iload_n hx hb dX3_worthBetween_22 rfl (lv_at hl 3 rfl) ?_
        refine bn_ne (tgt := 82) hx hb (by omega) (by omega) dX3_worthBetween_23 (by decide) (fun h23 => ?_) (fun h23 => ?_)
        · refine lv_iinc (v := (nI (i + 1))) (lv' := [(6, .int (nI (i + 1))), (4, .long (fWorB u w f t i)), (0, .ref (a 5)), (1, .int (nI w)), (2, .int (nI f)), (3, .int (nI t))]) hx hb dX3_worthBetween_82 hl (k := 0) rfl (nI_1 _) (by decide) rfl (fun ls hl => ?_)
          refine lv_goto (tgt := 6) hx hb dX3_worthBetween_85 (by decide) ?_
          have e6_1 : fWorB u w f t (i + 1) = fWorB u w f t i := by simp [fWorB, h12, h23]; try omega
          have hl : lv_has ls 7 [(6, .int (nI (i + 1))), (4, .long (fWorB u w f t (i + 1))), (0, .ref (a 5)), (1, .int (nI w)), (2, .int (nI f)), (3, .int (nI t))] := by rw [e6_1]; exact hl
          exact ih6  (i + 1) (by omega) (by omega) H locs hG ls (lv_sub hl [0, 1, 2, 3, 4, 5] rfl)
        · refine lv_aload_n hx hb dX3_worthBetween_26 rfl (lv_at hl 2 rfl) ?_
          refine lv_iload hx hb dX3_worthBetween_27 (lv_at hl 0 rfl) ?_
          refine k_J_counts hC hG i (by omega) (by omega) w203 ⟨by decide, by decide⟩ hl.1 (by decide) dX3_worthBetween_29 ⟨Nat.zero_le _, Nat.zero_le _⟩ (fun H locs hG => ?_)
          refine bb_eq (tgt := 82) hx hb dX3_worthBetween_32 (by decide) (fun h32 => ?_) (fun h32 => ?_)
          · refine lv_iinc (v := (nI (i + 1))) (lv' := [(6, .int (nI (i + 1))), (4, .long (fWorB u w f t i)), (0, .ref (a 5)), (1, .int (nI w)), (2, .int (nI f)), (3, .int (nI t))]) hx hb dX3_worthBetween_82 hl (k := 0) rfl (nI_1 _) (by decide) rfl (fun ls hl => ?_)
            refine lv_goto (tgt := 6) hx hb dX3_worthBetween_85 (by decide) ?_
            have e6_2 : fWorB u w f t (i + 1) = fWorB u w f t i := by simp [fWorB, h12, h23, h32]; try omega
            have hl : lv_has ls 7 [(6, .int (nI (i + 1))), (4, .long (fWorB u w f t (i + 1))), (0, .ref (a 5)), (1, .int (nI w)), (2, .int (nI f)), (3, .int (nI t))] := by rw [e6_2]; exact hl
            exact ih6  (i + 1) (by omega) (by omega) H locs hG ls (lv_sub hl [0, 1, 2, 3, 4, 5] rfl)
          · refine lv_aload_n hx hb dX3_worthBetween_35 rfl (lv_at hl 2 rfl) ?_
            refine gf_J_isClosing hC hG (hC.2.2.2.2 _ w79) dX3_worthBetween_36 ?_
            refine lv_aload_n hx hb dX3_worthBetween_39 rfl (lv_at hl 2 rfl) ?_
            refine gf_J_entryOf hC hG (hC.2.2.2.2 _ w81) dX3_worthBetween_40 ?_
            refine lv_iload hx hb dX3_worthBetween_43 (lv_at hl 0 rfl) ?_
            refine al_J_entryOf hC hG (by omega) dX3_worthBetween_45 ?_
            refine al_J_isClosing hC hG (by omega) dX3_worthBetween_46 ?_
            refine bb_ne (tgt := 82) hx hb dX3_worthBetween_47 (by decide) (fun h47 => ?_) (fun h47 => ?_)
            · refine lv_iinc (v := (nI (i + 1))) (lv' := [(6, .int (nI (i + 1))), (4, .long (fWorB u w f t i)), (0, .ref (a 5)), (1, .int (nI w)), (2, .int (nI f)), (3, .int (nI t))]) hx hb dX3_worthBetween_82 hl (k := 0) rfl (nI_1 _) (by decide) rfl (fun ls hl => ?_)
              refine lv_goto (tgt := 6) hx hb dX3_worthBetween_85 (by decide) ?_
              have e6_3 : fWorB u w f t (i + 1) = fWorB u w f t i := by simp [fWorB, h12, h23, h32, h47]; try omega
              have hl : lv_has ls 7 [(6, .int (nI (i + 1))), (4, .long (fWorB u w f t (i + 1))), (0, .ref (a 5)), (1, .int (nI w)), (2, .int (nI f)), (3, .int (nI t))] := by rw [e6_3]; exact hl
              exact ih6  (i + 1) (by omega) (by omega) H locs hG ls (lv_sub hl [0, 1, 2, 3, 4, 5] rfl)
            · refine lv_aload_n hx hb dX3_worthBetween_50 rfl (lv_at hl 2 rfl) ?_
              refine lv_iload hx hb dX3_worthBetween_51 (lv_at hl 0 rfl) ?_
              refine k_J_dayOf hC hG i (by omega) (by omega) w207 ⟨by decide, by decide⟩ hl.1 (by decide) dX3_worthBetween_53 ⟨Nat.zero_le _, Nat.zero_le _⟩ (fun H locs hG => ?_)
              refine lv_iload_n hx hb dX3_worthBetween_56 rfl (lv_at hl 4 rfl) ?_
              have k3 : fDayOf u i ≤ 364 := k2.2.1
              refine bn_lt (tgt := 82) hx hb (by omega) (by omega) dX3_worthBetween_57 (by decide) (fun h57 => ?_) (fun h57 => ?_)
              · refine lv_iinc (v := (nI (i + 1))) (lv' := [(6, .int (nI (i + 1))), (4, .long (fWorB u w f t i)), (0, .ref (a 5)), (1, .int (nI w)), (2, .int (nI f)), (3, .int (nI t))]) hx hb dX3_worthBetween_82 hl (k := 0) rfl (nI_1 _) (by decide) rfl (fun ls hl => ?_)
                refine lv_goto (tgt := 6) hx hb dX3_worthBetween_85 (by decide) ?_
                have e6_4 : fWorB u w f t (i + 1) = fWorB u w f t i := by simp [fWorB, h12, h23, h32, h47, h57]; try omega
                have hl : lv_has ls 7 [(6, .int (nI (i + 1))), (4, .long (fWorB u w f t (i + 1))), (0, .ref (a 5)), (1, .int (nI w)), (2, .int (nI f)), (3, .int (nI t))] := by rw [e6_4]; exact hl
                exact ih6  (i + 1) (by omega) (by omega) H locs hG ls (lv_sub hl [0, 1, 2, 3, 4, 5] rfl)
              · refine lv_aload_n hx hb dX3_worthBetween_60 rfl (lv_at hl 2 rfl) ?_
                refine lv_iload hx hb dX3_worthBetween_61 (lv_at hl 0 rfl) ?_
                refine k_J_dayOf hC hG i (by omega) (by omega) w207 ⟨by decide, by decide⟩ hl.1 (by decide) dX3_worthBetween_63 ⟨Nat.zero_le _, Nat.zero_le _⟩ (fun H locs hG => ?_)
                refine lv_iload_n hx hb dX3_worthBetween_66 rfl (lv_at hl 5 rfl) ?_
                have k3 : fDayOf u i ≤ 364 := k2.2.1
                refine bn_gt (tgt := 82) hx hb (by omega) (by omega) dX3_worthBetween_67 (by decide) (fun h67 => ?_) (fun h67 => ?_)
                · refine lv_iinc (v := (nI (i + 1))) (lv' := [(6, .int (nI (i + 1))), (4, .long (fWorB u w f t i)), (0, .ref (a 5)), (1, .int (nI w)), (2, .int (nI f)), (3, .int (nI t))]) hx hb dX3_worthBetween_82 hl (k := 0) rfl (nI_1 _) (by decide) rfl (fun ls hl => ?_)
                  refine lv_goto (tgt := 6) hx hb dX3_worthBetween_85 (by decide) ?_
                  have e6_5 : fWorB u w f t (i + 1) = fWorB u w f t i := by simp [fWorB, h12, h23, h32, h47, h57, h67]; try omega
                  have hl : lv_has ls 7 [(6, .int (nI (i + 1))), (4, .long (fWorB u w f t (i + 1))), (0, .ref (a 5)), (1, .int (nI w)), (2, .int (nI f)), (3, .int (nI t))] := by rw [e6_5]; exact hl
                  exact ih6  (i + 1) (by omega) (by omega) H locs hG ls (lv_sub hl [0, 1, 2, 3, 4, 5] rfl)
                · refine lv_lload hx hb dX3_worthBetween_70 (lv_at hl 1 rfl) ?_
                  refine lv_aload_n hx hb dX3_worthBetween_72 rfl (lv_at hl 2 rfl) ?_
                  refine gf_J_worth hC hG (hC.2.2.2.2 _ w84) dX3_worthBetween_73 ?_
                  refine lv_iload hx hb dX3_worthBetween_76 (lv_at hl 0 rfl) ?_
                  refine al_J_worth hC hG (by omega) dX3_worthBetween_78 ?_
                  refine lv_ladd hx hb dX3_worthBetween_79 ?_
                  refine lv_lstore (lv' := [(4, .long (fWorB u w f t i + (J_worth u i))), (6, .int (nI i)), (0, .ref (a 5)), (1, .int (nI w)), (2, .int (nI f)), (3, .int (nI t))]) hx hb dX3_worthBetween_80 hl (by decide) rfl (fun ls hl => ?_)
                  refine lv_iinc (v := (nI (i + 1))) (lv' := [(6, .int (nI (i + 1))), (4, .long (fWorB u w f t i + (J_worth u i))), (0, .ref (a 5)), (1, .int (nI w)), (2, .int (nI f)), (3, .int (nI t))]) hx hb dX3_worthBetween_82 hl (k := 1) rfl (nI_1 _) (by decide) rfl (fun ls hl => ?_)
                  refine lv_goto (tgt := 6) hx hb dX3_worthBetween_85 (by decide) ?_
                  have e6_6 : fWorB u w f t (i + 1) = (fWorB u w f t i + (J_worth u i)) := by simp [fWorB, h12, h23, h32, h47, h57, h67]; try omega
                  have hl : lv_has ls 7 [(6, .int (nI (i + 1))), (4, .long (fWorB u w f t (i + 1))), (0, .ref (a 5)), (1, .int (nI w)), (2, .int (nI f)), (3, .int (nI t))] := by rw [e6_6]; exact hl
                  exact ih6  (i + 1) (by omega) (by omega) H locs hG ls (lv_sub hl [0, 1, 2, 3, 4, 5] rfl)
  have e6_7 : fWorB u w f t 0 = (0 : Int64) := by rfl
  have hl : lv_has ls 7 [(6, .int (nI 0)), (4, .long (fWorB u w f t 0)), (0, .ref (a 5)), (1, .int (nI w)), (2, .int (nI f)), (3, .int (nI t))] := by rw [e6_7]; exact hl
  exact lp6 _ 0 (Nat.lt_succ_self _) (by omega) H locs hG ls (lv_sub hl [0, 1, 2, 3, 4, 5] rfl)
theorem k_J_worthBetween {p : Program} {l : Launch} {e : Env} {R : Room} {s : State} {m : MethodId} {args : Array Value} {below : List Frame} {meth : Method} {c : Code} {H : Heap} {locs : List Loc} {cs ss : Nat} {Q : State → Prop} {cc : ByteArray} {nL pc : Nat} {ls : Array Slot} {rest : List Value} {own : String} {idx : Nat} {D : va_G} {κ : ClassId × ClassId × ClassId} {a : Nat → Nat} {u : TS} {A : Nat → Prop} (hC : CallFix p m c cc nL s args WALL own) (hG : GW D κ a u A s H locs) (w : Nat) (f : Nat) (t : Nat) (q1 : OK u) (q2 : w < 600 ∧ f < 600 ∧ t < 600) (wl : Cond.methodLink own idx yX3_worthBetween ∈ WALL) (hR : 1 + 1 ≤ R.frames ∧ 8 + (7 + 11) + 21 ≤ R.locals) (hls : ls.size = nL) (h8 : (rest.map fun v => v.category).sum ≤ 8) (hd : decode cc pc = .ok (.invokevirtual idx, 3)) (hcs : cs ≤ R.cells ∧ ss ≤ R.slots) (kk : ∀ (H1 : Heap) (locs1 : List Loc), GW D κ a u A s H1 locs1 → W p l e R s m args below meth c H1 locs1 cs ss Q (F0 m (pc + 3) ls (.long (fWorB u w f t (J_legCount u)) :: rest))) : W p l e R s m args below meth c H locs cs ss Q (F0 m pc ls (.int (nI t) :: .int (nI f) :: .int (nI w) :: .ref (a 5) :: rest)) :=
  tc_l hG (tr_V (n := 3) (k := 5) (ci := 3) (As := [.int (nI w), .int (nI f), .int (nI t)]) hC hG (c_J_worthBetween l D κ a H.size u w f t q1 q2) rfl rfl wl w23 w529 w527 w528 (by decide +kernel) hR rfl hls rfl h8 hd hcs) (fun r u' H1 locs1 hq hG1 => by obtain ⟨rfl, rfl⟩ := hq; exact kk H1 locs1 hG1)

