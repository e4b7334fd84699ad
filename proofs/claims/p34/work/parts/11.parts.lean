/-! ACCOUNTS, ROWS OF LEGS, LINES, THE DRAFT; the journal, written -/
def fAccAdd (u : TS) (kd cu : Nat) : TS := sN (sAN (sAN u 0 (AC_count u) kd) 1 (AC_count u) cu) 1 (AC_count u + 1)
def fClosed (u : TS) (k : Nat) : Bool := decide (AC_kind u k = 2) || decide (AC_kind u k = 3)
def fStd (u : TS) (k : Nat) (b : Int64) : Int64 := if AC_kind u k = 0 ∨ AC_kind u k = 3 then b else -b
def fWorth (u : TS) (k : Nat) (x : Int64) : Int64 := (x * (AC_rates u (AC_currency u k)).toInt64 + (if x * (AC_rates u (AC_currency u k)).toInt64 < 0 then (-500) else 500)) / 1000
def fRow (o : Nat) (u : TS) (ac : Nat) (am wo : Int64) : TS := if o = 0 then sN (sAJ (sAJ (sAN u 2 (L0_count u) ac) 0 (L0_count u) am) 1 (L0_count u) wo) 4 (L0_count u + 1) else sN (sAJ (sAJ (sAN u 3 (L1_count u) ac) 2 (L1_count u) am) 3 (L1_count u) wo) 5 (L1_count u + 1)
def fSum (f : Nat → Int64) : Nat → Int64
  | 0 => 0
  | i + 1 => fSum f i + f i
def fSort (x : Nat) : Nat → TS → TS
  | 0, v => sAN v 14 0 x
  | pl + 1, v => if LI_day v x < LI_day v (LI_byDay v pl) then fSort x pl (sAN v 14 (pl + 1) (LI_byDay v pl)) else sAN v 14 (pl + 1) x
def fLine0 (u : TS) (ac d : Nat) (am : Int32) : TS := sAI (sAN (sAN u 12 (LI_count u) ac) 13 (LI_count u) d) 3 (LI_count u) am
theorem fSort_cnt (x : Nat) : ∀ (pl : Nat) (v : TS), LI_count (fSort x pl v) = LI_count v
  | 0, _ => rfl
  | pl + 1, v => by
    unfold fSort
    split
    · exact fSort_cnt x pl _
    · rfl
def fLine (u : TS) (ac d : Nat) (am : Int32) : TS := sN (fSort (LI_count u) (LI_count u) (fLine0 u ac d am)) 9 (LI_count u + 1)
def fLCnt (u : TS) (w : Nat) : Nat → Nat
  | 0 => 0
  | i + 1 => if LI_account u i = w then fLCnt u w i + 1 else fLCnt u w i
theorem fLCnt_le (u : TS) (w : Nat) : ∀ n, fLCnt u w n ≤ n
  | 0 => Nat.le_refl _
  | n + 1 => by
    have := fLCnt_le u w n
    unfold fLCnt
    split <;> omega
def fBegin (u : TS) (d nt : Nat) : TS := sN (sN (sB (sN u 4 0) 0 true) 2 d) 3 nt
def fForget (u : TS) : TS := sB (sN u 4 0) 0 false
def fLeg (u : TS) (en ac : Nat) (am wo : Int64) : TS := sN (sAJ (sAJ (sAN (sAN u 8 (J_legCount u) en) 9 (J_legCount u) ac) 4 (J_legCount u) am) 5 (J_legCount u) wo) 7 (J_legCount u + 1)
def fEnt0 (u : TS) (d nt : Nat) (cl : Bool) : TS := sAN (sAB (sAN (sAN u 4 (J_count u) d) 5 (J_count u) nt) 2 (J_count u) cl) 6 (J_count u) (J_legCount u)
def fEntL (u : TS) (d nt : Nat) (cl : Bool) : Nat → TS
  | 0 => fEnt0 u d nt cl
  | i + 1 => fLeg (fEntL u d nt cl i) (J_count u) (L1_account (fEntL u d nt cl i) i) (L1_amount (fEntL u d nt cl i) i) (L1_worth (fEntL u d nt cl i) i)
theorem fEntL_c (u : TS) (d nt : Nat) (cl : Bool) : ∀ i, J_legCount (fEntL u d nt cl i) = J_legCount u + i ∧ L1_count (fEntL u d nt cl i) = L1_count u ∧ J_count (fEntL u d nt cl i) = J_count u ∧ J_firstLeg (fEntL u d nt cl i) (J_count u) = J_legCount u
  | 0 => by
    refine ⟨rfl, rfl, rfl, ?_⟩
    show va_up (J_firstLeg u) (J_count u) (J_legCount u) (J_count u) = _
    unfold va_up
    rw [if_pos rfl]
  | i + 1 => by
    obtain ⟨h1, h2, h3, h4⟩ := fEntL_c u d nt cl i
    refine ⟨?_, h2, h3, h4⟩
    show J_legCount (fEntL u d nt cl i) + 1 = _
    omega
def fEnter (u : TS) (d nt : Nat) (cl : Bool) : TS := sN (sAN (fEntL u d nt cl (L1_count u)) 7 (J_count u) (L1_count u)) 6 (J_count u + 1)

theorem dX0_add_0 : decode cX0_add 0 = .ok (.aload_n 0, 1) := by decide +kernel
theorem dX0_add_1 : decode cX0_add 1 = .ok (.getfield 28, 3) := by decide +kernel
theorem dX0_add_11 : decode cX0_add 11 = .ok (.aload_n 0, 1) := by decide +kernel
theorem dX0_add_12 : decode cX0_add 12 = .ok (.getfield 15, 3) := by decide +kernel
theorem dX0_add_15 : decode cX0_add 15 = .ok (.aload_n 0, 1) := by decide +kernel
theorem dX0_add_16 : decode cX0_add 16 = .ok (.getfield 28, 3) := by decide +kernel
theorem dX0_add_19 : decode cX0_add 19 = .ok (.iload_n 1, 1) := by decide +kernel
theorem dX0_add_20 : decode cX0_add 20 = .ok (.iastore, 1) := by decide +kernel
theorem dX0_add_21 : decode cX0_add 21 = .ok (.aload_n 0, 1) := by decide +kernel
theorem dX0_add_22 : decode cX0_add 22 = .ok (.getfield 18, 3) := by decide +kernel
theorem dX0_add_25 : decode cX0_add 25 = .ok (.aload_n 0, 1) := by decide +kernel
theorem dX0_add_26 : decode cX0_add 26 = .ok (.getfield 28, 3) := by decide +kernel
theorem dX0_add_29 : decode cX0_add 29 = .ok (.iload_n 2, 1) := by decide +kernel
theorem dX0_add_30 : decode cX0_add 30 = .ok (.iastore, 1) := by decide +kernel
theorem dX0_add_31 : decode cX0_add 31 = .ok (.aload_n 0, 1) := by decide +kernel
theorem dX0_add_32 : decode cX0_add 32 = .ok (.dup, 1) := by decide +kernel
theorem dX0_add_33 : decode cX0_add 33 = .ok (.getfield 28, 3) := by decide +kernel
theorem dX0_add_36 : decode cX0_add 36 = .ok (.dup_x1, 1) := by decide +kernel
theorem dX0_add_37 : decode cX0_add 37 = .ok (.iconst 1, 1) := by decide +kernel
theorem dX0_add_38 : decode cX0_add 38 = .ok (.iadd, 1) := by decide +kernel
theorem dX0_add_39 : decode cX0_add 39 = .ok (.putfield 28, 3) := by decide +kernel
theorem dX0_add_4 : decode cX0_add 4 = .ok (.bipush 10, 2) := by decide +kernel
theorem dX0_add_42 : decode cX0_add 42 = .ok (.ireturn, 1) := by decide +kernel
theorem dX0_add_6 : decode cX0_add 6 = .ok (.if_icmp .lt 5, 3) := by decide +kernel
set_option maxHeartbeats 4000000 in
set_option maxRecDepth 100000 in
theorem c_AC_add (l : Launch) (D : va_G) (κ : ClassId × ClassId × ClassId) (a : Nat → Nat) (sz : Nat) (u : TS) (kd : Nat) (cu : Nat) (q1 : AC_count u < 10) : TM l yX0_add cX0_add 3 (some .int) 0 0 D κ a u sz [.ref (a 1), .int (nI kd), .int (nI cu)] (QI D κ a sz (fun r u' => r = (nI (AC_count u)) ∧ u' = fAccAdd u kd cu)) := by
  refine TM.of (by decide +kernel) (Nat.le_of_ble_eq_true rfl) ?_
  intro p e s m below meth c ls hC hr hk hsz H locs hG hl
  have hx := hC.1
  have hb := hC.2.1
  have hl : lv_has ls 3 [(0, .ref (a 1)), (1, .int (nI kd)), (2, .int (nI cu))] := hl
  refine lv_aload_n hx hb dX0_add_0 rfl (lv_at hl 0 rfl) ?_
  refine gf_AC_count hC hG (hC.2.2.2.2 _ w54) dX0_add_1 ?_
  refine lv_bipush (v := nI 10) hx hb dX0_add_4 (by decide) ?_
  refine bn_lt_t (tgt := 11) hx hb (by omega) (by omega) dX0_add_6 (by decide) (by omega) ?_
  refine lv_aload_n hx hb dX0_add_11 rfl (lv_at hl 0 rfl) ?_
  refine gf_AC_kind hC hG (hC.2.2.2.2 _ w49) dX0_add_12 ?_
  refine lv_aload_n hx hb dX0_add_15 rfl (lv_at hl 0 rfl) ?_
  refine gf_AC_count hC hG (hC.2.2.2.2 _ w54) dX0_add_16 ?_
  refine lv_iload_n hx hb dX0_add_19 rfl (lv_at hl 1 rfl) ?_
  refine as_AC_kind hC hG (by omega) dX0_add_20 (fun H locs hG => ?_)
  refine lv_aload_n hx hb dX0_add_21 rfl (lv_at hl 0 rfl) ?_
  refine gf_AC_currency hC hG (hC.2.2.2.2 _ w50) dX0_add_22 ?_
  refine lv_aload_n hx hb dX0_add_25 rfl (lv_at hl 0 rfl) ?_
  refine gf_AC_count hC hG (hC.2.2.2.2 _ w54) dX0_add_26 ?_
  refine W.eq (g2 := F0 m 29 ls [.int (nI (AC_count u)), .ref (a 12)]) rfl ?_
  refine lv_iload_n hx hb dX0_add_29 rfl (lv_at hl 2 rfl) ?_
  refine as_AC_currency hC hG (by omega) dX0_add_30 (fun H locs hG => ?_)
  refine lv_aload_n hx hb dX0_add_31 rfl (lv_at hl 0 rfl) ?_
  refine lv_dup hx hb dX0_add_32 rfl ?_
  refine gf_AC_count hC hG (hC.2.2.2.2 _ w54) dX0_add_33 ?_
  refine W.eq (g2 := F0 m 36 ls [.int (nI (AC_count u)), .ref (a 1)]) rfl ?_
  refine lv_dup_x1 hx hb dX0_add_36 rfl rfl ?_
  refine lv_iconst (v := nI 1) hx hb dX0_add_37 (by decide) ?_
  refine ar_iadd hx hb dX0_add_38 ?_
  refine pf_AC_count hC hG (hC.2.2.2.2 _ w54) dX0_add_39 (fun H locs hG => ?_)
  exact te_i (v := (nI (AC_count u))) hC hG hr hk ⟨rfl, (by rfl)⟩ dX0_add_42
theorem k_AC_add {p : Program} {l : Launch} {e : Env} {R : Room} {s : State} {m : MethodId} {args : Array Value} {below : List Frame} {meth : Method} {c : Code} {H : Heap} {locs : List Loc} {cs ss : Nat} {Q : State → Prop} {cc : ByteArray} {nL pc : Nat} {ls : Array Slot} {rest : List Value} {own : String} {idx : Nat} {D : va_G} {κ : ClassId × ClassId × ClassId} {a : Nat → Nat} {u : TS} {A : Nat → Prop} (hC : CallFix p m c cc nL s args WALL own) (hG : GW D κ a u A s H locs) (kd : Nat) (cu : Nat) (q1 : AC_count u < 10) (wl : Cond.methodLink own idx yX0_add ∈ WALL) (hR : 0 + 1 ≤ R.frames ∧ 8 + (3 + 11) + 0 ≤ R.locals) (hls : ls.size = nL) (h8 : (rest.map fun v => v.category).sum ≤ 8) (hd : decode cc pc = .ok (.invokevirtual idx, 3)) (hcs : cs ≤ R.cells ∧ ss ≤ R.slots) (kk : ∀ (H1 : Heap) (locs1 : List Loc), GW D κ a (fAccAdd u kd cu) A s H1 locs1 → W p l e R s m args below meth c H1 locs1 cs ss Q (F0 m (pc + 3) ls (.int (nI (AC_count u)) :: rest))) : W p l e R s m args below meth c H locs cs ss Q (F0 m pc ls (.int (nI cu) :: .int (nI kd) :: .ref (a 1) :: rest)) :=
  tc_i hG (tr_V (n := 2) (k := 1) (ci := 0) (As := [.int (nI kd), .int (nI cu)]) hC hG (c_AC_add l D κ a H.size u kd cu q1) rfl rfl wl w15 w142 w140 w141 (by decide +kernel) hR rfl hls rfl h8 hd hcs) (fun r u' H1 locs1 hq hG1 => by obtain ⟨rfl, rfl⟩ := hq; exact kk H1 locs1 hG1)

theorem dX0_anyIn_0 : decode cX0_anyIn 0 = .ok (.iconst 0, 1) := by decide +kernel
theorem dX0_anyIn_1 : decode cX0_anyIn 1 = .ok (.istore_n 2, 1) := by decide +kernel
theorem dX0_anyIn_2 : decode cX0_anyIn 2 = .ok (.iload_n 2, 1) := by decide +kernel
theorem dX0_anyIn_28 : decode cX0_anyIn 28 = .ok (.iconst 0, 1) := by decide +kernel
theorem dX0_anyIn_29 : decode cX0_anyIn 29 = .ok (.ireturn, 1) := by decide +kernel
theorem dX0_anyIn_3 : decode cX0_anyIn 3 = .ok (.aload_n 0, 1) := by decide +kernel
theorem dX0_anyIn_4 : decode cX0_anyIn 4 = .ok (.getfield 28, 3) := by decide +kernel
theorem dX0_anyIn_7 : decode cX0_anyIn 7 = .ok (.if_icmp .ge 21, 3) := by decide +kernel
set_option maxHeartbeats 4000000 in
set_option maxRecDepth 100000 in
theorem c_AC_anyIn (l : Launch) (D : va_G) (κ : ClassId × ClassId × ClassId) (a : Nat → Nat) (sz : Nat) (u : TS) (w : Nat) (q1 : AC_count u = 0) : TM l yX0_anyIn cX0_anyIn 3 (some .boolean) 0 0 D κ a u sz [.ref (a 1), .int (nI w)] (QI D κ a sz (fun r u' => r = (bI false) ∧ u' = u)) := by
  refine TM.of (by decide +kernel) (Nat.le_of_ble_eq_true rfl) ?_
  intro p e s m below meth c ls hC hr hk hsz H locs hG hl
  have hx := hC.1
  have hb := hC.2.1
  have hl : lv_has ls 3 [(0, .ref (a 1)), (1, .int (nI w))] := hl
  refine lv_iconst (v := nI 0) hx hb dX0_anyIn_0 (by decide) ?_
  refine lv_istore_n (lv' := [(2, .int (nI 0)), (0, .ref (a 1)), (1, .int (nI w))]) hx hb dX0_anyIn_1 rfl hl (by decide) rfl (fun ls hl => ?_)
  refine lv_iload_n hx hb dX0_anyIn_2 rfl (lv_at hl 0 rfl) ?_
  refine lv_aload_n hx hb dX0_anyIn_3 rfl (lv_at hl 1 rfl) ?_
  refine gf_AC_count hC hG (hC.2.2.2.2 _ w54) dX0_anyIn_4 ?_
  refine bn_ge_t (tgt := 28) hx hb (by omega) (by omega) dX0_anyIn_7 (by decide) (by omega) ?_
  refine lv_iconst (v := nI 0) hx hb dX0_anyIn_28 (by decide) ?_
  exact te_z (v := false) hC hG hr hk ⟨rfl, rfl⟩ dX0_anyIn_29
theorem k_AC_anyIn {p : Program} {l : Launch} {e : Env} {R : Room} {s : State} {m : MethodId} {args : Array Value} {below : List Frame} {meth : Method} {c : Code} {H : Heap} {locs : List Loc} {cs ss : Nat} {Q : State → Prop} {cc : ByteArray} {nL pc : Nat} {ls : Array Slot} {rest : List Value} {own : String} {idx : Nat} {D : va_G} {κ : ClassId × ClassId × ClassId} {a : Nat → Nat} {u : TS} {A : Nat → Prop} (hC : CallFix p m c cc nL s args WALL own) (hG : GW D κ a u A s H locs) (w : Nat) (q1 : AC_count u = 0) (wl : Cond.methodLink own idx yX0_anyIn ∈ WALL) (hR : 0 + 1 ≤ R.frames ∧ 8 + (3 + 11) + 0 ≤ R.locals) (hls : ls.size = nL) (h8 : (rest.map fun v => v.category).sum ≤ 8) (hd : decode cc pc = .ok (.invokevirtual idx, 3)) (hcs : cs ≤ R.cells ∧ ss ≤ R.slots) (kk : ∀ (H1 : Heap) (locs1 : List Loc), GW D κ a u A s H1 locs1 → W p l e R s m args below meth c H1 locs1 cs ss Q (F0 m (pc + 3) ls (.int (bI false) :: rest))) : W p l e R s m args below meth c H locs cs ss Q (F0 m pc ls (.int (nI w) :: .ref (a 1) :: rest)) :=
  tc_i hG (tr_V (n := 1) (k := 1) (ci := 0) (As := [.int (nI w)]) hC hG (c_AC_anyIn l D κ a H.size u w q1) rfl rfl wl w15 w133 w131 w132 (by decide +kernel) hR rfl hls rfl h8 hd hcs) (fun r u' H1 locs1 hq hG1 => by obtain ⟨rfl, rfl⟩ := hq; exact kk H1 locs1 hG1)

theorem dX0_isClosed_0 : decode cX0_isClosed 0 = .ok (.aload_n 0, 1) := by decide +kernel
theorem dX0_isClosed_1 : decode cX0_isClosed 1 = .ok (.getfield 15, 3) := by decide +kernel
theorem dX0_isClosed_10 : decode cX0_isClosed 10 = .ok (.aload_n 0, 1) := by decide +kernel
theorem dX0_isClosed_11 : decode cX0_isClosed 11 = .ok (.getfield 15, 3) := by decide +kernel
theorem dX0_isClosed_14 : decode cX0_isClosed 14 = .ok (.iload_n 1, 1) := by decide +kernel
theorem dX0_isClosed_15 : decode cX0_isClosed 15 = .ok (.iaload, 1) := by decide +kernel
theorem dX0_isClosed_16 : decode cX0_isClosed 16 = .ok (.iconst 3, 1) := by decide +kernel
theorem dX0_isClosed_17 : decode cX0_isClosed 17 = .ok (.if_icmp .ne 7, 3) := by decide +kernel
theorem dX0_isClosed_20 : decode cX0_isClosed 20 = .ok (.iconst 1, 1) := by decide +kernel
theorem dX0_isClosed_21 : decode cX0_isClosed 21 = .ok (.goto 4, 3) := by decide +kernel
theorem dX0_isClosed_24 : decode cX0_isClosed 24 = .ok (.iconst 0, 1) := by decide +kernel
theorem dX0_isClosed_25 : decode cX0_isClosed 25 = .ok (.ireturn, 1) := by decide +kernel
theorem dX0_isClosed_4 : decode cX0_isClosed 4 = .ok (.iload_n 1, 1) := by decide +kernel
theorem dX0_isClosed_5 : decode cX0_isClosed 5 = .ok (.iaload, 1) := by decide +kernel
theorem dX0_isClosed_6 : decode cX0_isClosed 6 = .ok (.iconst 2, 1) := by decide +kernel
theorem dX0_isClosed_7 : decode cX0_isClosed 7 = .ok (.if_icmp .eq 13, 3) := by decide +kernel
set_option maxHeartbeats 4000000 in
set_option maxRecDepth 100000 in
theorem c_AC_isClosed (l : Launch) (D : va_G) (κ : ClassId × ClassId × ClassId) (a : Nat → Nat) (sz : Nat) (u : TS) (k : Nat) (q1 : k < AC_count u) (q2 : OK u) : TM l yX0_isClosed cX0_isClosed 2 (some .boolean) 0 0 D κ a u sz [.ref (a 1), .int (nI k)] (QI D κ a sz (fun r u' => r = (bI (fClosed u k)) ∧ u' = u)) := by
  refine TM.of (by decide +kernel) (Nat.le_of_ble_eq_true rfl) ?_
  intro p e s m below meth c ls hC hr hk hsz H locs hG hl
  have hx := hC.1
  have hb := hC.2.1
  have hl : lv_has ls 2 [(0, .ref (a 1)), (1, .int (nI k))] := hl
  have qok := q2
  have ⟨n1, n2, n3, n4, n5, n6, n7, n8, n9, n10⟩ := qok.n
  have k1 := qok.acc q1
  refine lv_aload_n hx hb dX0_isClosed_0 rfl (lv_at hl 0 rfl) ?_
  refine gf_AC_kind hC hG (hC.2.2.2.2 _ w49) dX0_isClosed_1 ?_
  refine lv_iload_n hx hb dX0_isClosed_4 rfl (lv_at hl 1 rfl) ?_
  refine al_AC_kind hC hG (by omega) dX0_isClosed_5 ?_
  refine lv_iconst (v := nI 2) hx hb dX0_isClosed_6 (by decide) ?_
  refine bn_eq (tgt := 20) hx hb (by omega) (by omega) dX0_isClosed_7 (by decide) (fun h7 => ?_) (fun h7 => ?_)
  · refine lv_iconst (v := nI 1) hx hb dX0_isClosed_20 (by decide) ?_
    refine lv_goto (tgt := 25) hx hb dX0_isClosed_21 (by decide) ?_
    exact te_z (v := true) hC hG hr hk ⟨(congrArg bI (show true = fClosed u k from by simp [fClosed, h7])), rfl⟩ dX0_isClosed_25
  · refine lv_aload_n hx hb dX0_isClosed_10 rfl (lv_at hl 0 rfl) ?_
    refine gf_AC_kind hC hG (hC.2.2.2.2 _ w49) dX0_isClosed_11 ?_
    refine lv_iload_n hx hb dX0_isClosed_14 rfl (lv_at hl 1 rfl) ?_
    refine al_AC_kind hC hG (by omega) dX0_isClosed_15 ?_
    refine lv_iconst (v := nI 3) hx hb dX0_isClosed_16 (by decide) ?_
    refine bn_ne (tgt := 24) hx hb (by omega) (by omega) dX0_isClosed_17 (by decide) (fun h17 => ?_) (fun h17 => ?_)
    · refine lv_iconst (v := nI 0) hx hb dX0_isClosed_24 (by decide) ?_
      exact te_z (v := false) hC hG hr hk ⟨(congrArg bI (show false = fClosed u k from by simp [fClosed, h7, h17])), rfl⟩ dX0_isClosed_25
    · refine lv_iconst (v := nI 1) hx hb dX0_isClosed_20 (by decide) ?_
      refine lv_goto (tgt := 25) hx hb dX0_isClosed_21 (by decide) ?_
      exact te_z (v := true) hC hG hr hk ⟨(congrArg bI (show true = fClosed u k from by simp [fClosed, h7, h17])), rfl⟩ dX0_isClosed_25
theorem k_AC_isClosed {p : Program} {l : Launch} {e : Env} {R : Room} {s : State} {m : MethodId} {args : Array Value} {below : List Frame} {meth : Method} {c : Code} {H : Heap} {locs : List Loc} {cs ss : Nat} {Q : State → Prop} {cc : ByteArray} {nL pc : Nat} {ls : Array Slot} {rest : List Value} {own : String} {idx : Nat} {D : va_G} {κ : ClassId × ClassId × ClassId} {a : Nat → Nat} {u : TS} {A : Nat → Prop} (hC : CallFix p m c cc nL s args WALL own) (hG : GW D κ a u A s H locs) (k : Nat) (q1 : k < AC_count u) (q2 : OK u) (wl : Cond.methodLink own idx yX0_isClosed ∈ WALL) (hR : 0 + 1 ≤ R.frames ∧ 8 + (2 + 11) + 0 ≤ R.locals) (hls : ls.size = nL) (h8 : (rest.map fun v => v.category).sum ≤ 8) (hd : decode cc pc = .ok (.invokevirtual idx, 3)) (hcs : cs ≤ R.cells ∧ ss ≤ R.slots) (kk : ∀ (H1 : Heap) (locs1 : List Loc), GW D κ a u A s H1 locs1 → W p l e R s m args below meth c H1 locs1 cs ss Q (F0 m (pc + 3) ls (.int (bI (fClosed u k)) :: rest))) : W p l e R s m args below meth c H locs cs ss Q (F0 m pc ls (.int (nI k) :: .ref (a 1) :: rest)) :=
  tc_i hG (tr_V (n := 1) (k := 1) (ci := 0) (As := [.int (nI k)]) hC hG (c_AC_isClosed l D κ a H.size u k q1 q2) rfl rfl wl w15 w198 w196 w197 (by decide +kernel) hR rfl hls rfl h8 hd hcs) (fun r u' H1 locs1 hq hG1 => by obtain ⟨rfl, rfl⟩ := hq; exact kk H1 locs1 hG1)

theorem dX0_stand_0 : decode cX0_stand 0 = .ok (.aload_n 0, 1) := by decide +kernel
theorem dX0_stand_1 : decode cX0_stand 1 = .ok (.getfield 15, 3) := by decide +kernel
theorem dX0_stand_10 : decode cX0_stand 10 = .ok (.getfield 15, 3) := by decide +kernel
theorem dX0_stand_13 : decode cX0_stand 13 = .ok (.iload_n 1, 1) := by decide +kernel
theorem dX0_stand_14 : decode cX0_stand 14 = .ok (.iaload, 1) := by decide +kernel
theorem dX0_stand_15 : decode cX0_stand 15 = .ok (.iconst 3, 1) := by decide +kernel
theorem dX0_stand_16 : decode cX0_stand 16 = .ok (.if_icmp .ne 7, 3) := by decide +kernel
theorem dX0_stand_19 : decode cX0_stand 19 = .ok (.lload_n 2, 1) := by decide +kernel
theorem dX0_stand_20 : decode cX0_stand 20 = .ok (.goto 5, 3) := by decide +kernel
theorem dX0_stand_23 : decode cX0_stand 23 = .ok (.lload_n 2, 1) := by decide +kernel
theorem dX0_stand_24 : decode cX0_stand 24 = .ok (.lneg, 1) := by decide +kernel
theorem dX0_stand_25 : decode cX0_stand 25 = .ok (.lreturn, 1) := by decide +kernel
theorem dX0_stand_4 : decode cX0_stand 4 = .ok (.iload_n 1, 1) := by decide +kernel
theorem dX0_stand_5 : decode cX0_stand 5 = .ok (.iaload, 1) := by decide +kernel
theorem dX0_stand_6 : decode cX0_stand 6 = .ok (.ifCond .eq 13, 3) := by decide +kernel
theorem dX0_stand_9 : decode cX0_stand 9 = .ok (.aload_n 0, 1) := by decide +kernel
set_option maxHeartbeats 4000000 in
set_option maxRecDepth 100000 in
theorem c_AC_stand (l : Launch) (D : va_G) (κ : ClassId × ClassId × ClassId) (a : Nat → Nat) (sz : Nat) (u : TS) (k : Nat) (b : Int64) (q1 : k < AC_count u) (q2 : OK u) : TM l yX0_stand cX0_stand 4 (some .long) 0 0 D κ a u sz [.ref (a 1), .int (nI k), .long b] (QL D κ a sz (fun r u' => r = (fStd u k b) ∧ u' = u)) := by
  refine TM.of (by decide +kernel) (Nat.le_of_ble_eq_true rfl) ?_
  intro p e s m below meth c ls hC hr hk hsz H locs hG hl
  have hx := hC.1
  have hb := hC.2.1
  have hl : lv_has ls 4 [(0, .ref (a 1)), (1, .int (nI k)), (2, .long b)] := hl
  have qok := q2
  have ⟨n1, n2, n3, n4, n5, n6, n7, n8, n9, n10⟩ := qok.n
  have k1 := qok.acc q1
  refine lv_aload_n hx hb dX0_stand_0 rfl (lv_at hl 0 rfl) ?_
  refine gf_AC_kind hC hG (hC.2.2.2.2 _ w49) dX0_stand_1 ?_
  refine lv_iload_n hx hb dX0_stand_4 rfl (lv_at hl 1 rfl) ?_
  refine al_AC_kind hC hG (by omega) dX0_stand_5 ?_
  refine bz_eq (tgt := 19) hx hb (by omega) dX0_stand_6 (by decide) (fun h6 => ?_) (fun h6 => ?_)
  · refine lv_lload_n hx hb dX0_stand_19 rfl (lv_at hl 2 rfl) ?_
    refine lv_goto (tgt := 25) hx hb dX0_stand_20 (by decide) ?_
    exact te_l hC hG hr hk ⟨(show b = fStd u k b from by simp [fStd, h6]), rfl⟩ dX0_stand_25
  · refine lv_aload_n hx hb dX0_stand_9 rfl (lv_at hl 0 rfl) ?_
    refine gf_AC_kind hC hG (hC.2.2.2.2 _ w49) dX0_stand_10 ?_
    refine lv_iload_n hx hb dX0_stand_13 rfl (lv_at hl 1 rfl) ?_
    refine al_AC_kind hC hG (by omega) dX0_stand_14 ?_
    refine lv_iconst (v := nI 3) hx hb dX0_stand_15 (by decide) ?_
    refine bn_ne (tgt := 23) hx hb (by omega) (by omega) dX0_stand_16 (by decide) (fun h16 => ?_) (fun h16 => ?_)
    · refine lv_lload_n hx hb dX0_stand_23 rfl (lv_at hl 2 rfl) ?_
      refine lv_lneg hx hb dX0_stand_24 ?_
      exact te_l hC hG hr hk ⟨(show (-b) = fStd u k b from by simp [fStd, h6, h16]), rfl⟩ dX0_stand_25
    · refine lv_lload_n hx hb dX0_stand_19 rfl (lv_at hl 2 rfl) ?_
      refine lv_goto (tgt := 25) hx hb dX0_stand_20 (by decide) ?_
      exact te_l hC hG hr hk ⟨(show b = fStd u k b from by simp [fStd, h6, h16]), rfl⟩ dX0_stand_25
theorem k_AC_stand {p : Program} {l : Launch} {e : Env} {R : Room} {s : State} {m : MethodId} {args : Array Value} {below : List Frame} {meth : Method} {c : Code} {H : Heap} {locs : List Loc} {cs ss : Nat} {Q : State → Prop} {cc : ByteArray} {nL pc : Nat} {ls : Array Slot} {rest : List Value} {own : String} {idx : Nat} {D : va_G} {κ : ClassId × ClassId × ClassId} {a : Nat → Nat} {u : TS} {A : Nat → Prop} (hC : CallFix p m c cc nL s args WALL own) (hG : GW D κ a u A s H locs) (k : Nat) (b : Int64) (q1 : k < AC_count u) (q2 : OK u) (wl : Cond.methodLink own idx yX0_stand ∈ WALL) (hR : 0 + 1 ≤ R.frames ∧ 8 + (4 + 11) + 0 ≤ R.locals) (hls : ls.size = nL) (h8 : (rest.map fun v => v.category).sum ≤ 8) (hd : decode cc pc = .ok (.invokevirtual idx, 3)) (hcs : cs ≤ R.cells ∧ ss ≤ R.slots) (kk : ∀ (H1 : Heap) (locs1 : List Loc), GW D κ a u A s H1 locs1 → W p l e R s m args below meth c H1 locs1 cs ss Q (F0 m (pc + 3) ls (.long (fStd u k b) :: rest))) : W p l e R s m args below meth c H locs cs ss Q (F0 m pc ls (.long b :: .int (nI k) :: .ref (a 1) :: rest)) :=
  tc_l hG (tr_V (n := 2) (k := 1) (ci := 0) (As := [.int (nI k), .long b]) hC hG (c_AC_stand l D κ a H.size u k b q1 q2) rfl rfl wl w15 w448 w446 w447 (by decide +kernel) hR rfl hls rfl h8 hd hcs) (fun r u' H1 locs1 hq hG1 => by obtain ⟨rfl, rfl⟩ := hq; exact kk H1 locs1 hG1)

theorem dX0_worth_0 : decode cX0_worth 0 = .ok (.lload_n 2, 1) := by decide +kernel
theorem dX0_worth_1 : decode cX0_worth 1 = .ok (.aload_n 0, 1) := by decide +kernel
theorem dX0_worth_10 : decode cX0_worth 10 = .ok (.iaload, 1) := by decide +kernel
theorem dX0_worth_11 : decode cX0_worth 11 = .ok (.iaload, 1) := by decide +kernel
theorem dX0_worth_12 : decode cX0_worth 12 = .ok (.i2l, 1) := by decide +kernel
theorem dX0_worth_13 : decode cX0_worth 13 = .ok (.lmul, 1) := by decide +kernel
theorem dX0_worth_14 : decode cX0_worth 14 = .ok (.lstore 4, 2) := by decide +kernel
theorem dX0_worth_16 : decode cX0_worth 16 = .ok (.lload 4, 2) := by decide +kernel
theorem dX0_worth_18 : decode cX0_worth 18 = .ok (.lconst 0, 1) := by decide +kernel
theorem dX0_worth_19 : decode cX0_worth 19 = .ok (.lcmp, 1) := by decide +kernel
theorem dX0_worth_2 : decode cX0_worth 2 = .ok (.getfield 9, 3) := by decide +kernel
theorem dX0_worth_20 : decode cX0_worth 20 = .ok (.ifCond .ge 9, 3) := by decide +kernel
theorem dX0_worth_23 : decode cX0_worth 23 = .ok (.ldc2_w 32, 3) := by decide +kernel
theorem dX0_worth_26 : decode cX0_worth 26 = .ok (.goto 6, 3) := by decide +kernel
theorem dX0_worth_29 : decode cX0_worth 29 = .ok (.ldc2_w 34, 3) := by decide +kernel
theorem dX0_worth_32 : decode cX0_worth 32 = .ok (.lstore 6, 2) := by decide +kernel
theorem dX0_worth_34 : decode cX0_worth 34 = .ok (.lload 4, 2) := by decide +kernel
theorem dX0_worth_36 : decode cX0_worth 36 = .ok (.lload 6, 2) := by decide +kernel
theorem dX0_worth_38 : decode cX0_worth 38 = .ok (.ladd, 1) := by decide +kernel
theorem dX0_worth_39 : decode cX0_worth 39 = .ok (.ldc2_w 36, 3) := by decide +kernel
theorem dX0_worth_42 : decode cX0_worth 42 = .ok (.ldiv, 1) := by decide +kernel
theorem dX0_worth_43 : decode cX0_worth 43 = .ok (.lreturn, 1) := by decide +kernel
theorem dX0_worth_5 : decode cX0_worth 5 = .ok (.aload_n 0, 1) := by decide +kernel
theorem dX0_worth_6 : decode cX0_worth 6 = .ok (.getfield 18, 3) := by decide +kernel
theorem dX0_worth_9 : decode cX0_worth 9 = .ok (.iload_n 1, 1) := by decide +kernel
set_option maxHeartbeats 4000000 in
set_option maxRecDepth 100000 in
theorem c_AC_worth (l : Launch) (D : va_G) (κ : ClassId × ClassId × ClassId) (a : Nat → Nat) (sz : Nat) (u : TS) (k : Nat) (x : Int64) (q1 : k < AC_count u) (q2 : OK u) : TM l yX0_worth cX0_worth 8 (some .long) 0 0 D κ a u sz [.ref (a 1), .int (nI k), .long x] (QL D κ a sz (fun r u' => r = (fWorth u k x) ∧ u' = u)) := by
  refine TM.of (by decide +kernel) (Nat.le_of_ble_eq_true rfl) ?_
  intro p e s m below meth c ls hC hr hk hsz H locs hG hl
  have hx := hC.1
  have hb := hC.2.1
  have hl : lv_has ls 8 [(0, .ref (a 1)), (1, .int (nI k)), (2, .long x)] := hl
  have qok := q2
  have ⟨n1, n2, n3, n4, n5, n6, n7, n8, n9, n10⟩ := qok.n
  have k1 := qok.acc q1
  refine lv_lload_n hx hb dX0_worth_0 rfl (lv_at hl 2 rfl) ?_
  refine lv_aload_n hx hb dX0_worth_1 rfl (lv_at hl 0 rfl) ?_
  refine gf_AC_rates hC hG (hC.2.2.2.2 _ w48) dX0_worth_2 ?_
  refine lv_aload_n hx hb dX0_worth_5 rfl (lv_at hl 0 rfl) ?_
  refine gf_AC_currency hC hG (hC.2.2.2.2 _ w50) dX0_worth_6 ?_
  refine lv_iload_n hx hb dX0_worth_9 rfl (lv_at hl 1 rfl) ?_
  refine al_AC_currency hC hG (by omega) dX0_worth_10 ?_
  refine al_AC_rates hC hG (by omega) dX0_worth_11 ?_
  refine lv_i2l hx hb dX0_worth_12 rfl ?_
  refine lv_lmul hx hb dX0_worth_13 ?_
  refine lv_lstore (lv' := [(4, .long (x * ((AC_rates u (AC_currency u k)).toInt64))), (0, .ref (a 1)), (1, .int (nI k)), (2, .long x)]) hx hb dX0_worth_14 hl (by decide) rfl (fun ls hl => ?_)
  refine lv_lload hx hb dX0_worth_16 (lv_at hl 0 rfl) ?_
  refine lv_lconst (v := 0) hx hb dX0_worth_18 (by decide) ?_
  refine bl_ge (tgt := 29) hx hb dX0_worth_19 dX0_worth_20 (by decide) (fun h19 => ?_) (fun h19 => ?_)
  · refine lv_ldc2 hx hb hC.2.2.2.1 (hC.2.2.2.2 _ w220) dX0_worth_29 ?_
    refine lv_lstore (lv' := [(6, .long (500 : Int64)), (4, .long (x * ((AC_rates u (AC_currency u k)).toInt64))), (0, .ref (a 1)), (1, .int (nI k)), (2, .long x)]) hx hb dX0_worth_32 hl (by decide) rfl (fun ls hl => ?_)
    refine lv_lload hx hb dX0_worth_34 (lv_at hl 1 rfl) ?_
    refine lv_lload hx hb dX0_worth_36 (lv_at hl 0 rfl) ?_
    refine lv_ladd hx hb dX0_worth_38 ?_
    refine lv_ldc2 hx hb hC.2.2.2.1 (hC.2.2.2.2 _ w221) dX0_worth_39 ?_
    refine lv_ldiv hx hb dX0_worth_42 (by decide) ?_
    exact te_l hC hG hr hk ⟨(show (((x * ((AC_rates u (AC_currency u k)).toInt64)) + (500 : Int64)) / (1000 : Int64)) = fWorth u k x from by rw [fWorth, if_neg (Int64.not_lt.mpr h19)]), rfl⟩ dX0_worth_43
  · refine lv_ldc2 hx hb hC.2.2.2.1 (hC.2.2.2.2 _ w219) dX0_worth_23 ?_
    refine lv_goto (tgt := 32) hx hb dX0_worth_26 (by decide) ?_
    refine lv_lstore (lv' := [(6, .long (-500 : Int64)), (4, .long (x * ((AC_rates u (AC_currency u k)).toInt64))), (0, .ref (a 1)), (1, .int (nI k)), (2, .long x)]) hx hb dX0_worth_32 hl (by decide) rfl (fun ls hl => ?_)
    refine lv_lload hx hb dX0_worth_34 (lv_at hl 1 rfl) ?_
    refine lv_lload hx hb dX0_worth_36 (lv_at hl 0 rfl) ?_
    refine lv_ladd hx hb dX0_worth_38 ?_
    refine lv_ldc2 hx hb hC.2.2.2.1 (hC.2.2.2.2 _ w221) dX0_worth_39 ?_
    refine lv_ldiv hx hb dX0_worth_42 (by decide) ?_
    exact te_l hC hG hr hk ⟨(show (((x * ((AC_rates u (AC_currency u k)).toInt64)) + (-500 : Int64)) / (1000 : Int64)) = fWorth u k x from by rw [fWorth, if_pos (Int64.not_le.mp h19)]), rfl⟩ dX0_worth_43
theorem k_AC_worth {p : Program} {l : Launch} {e : Env} {R : Room} {s : State} {m : MethodId} {args : Array Value} {below : List Frame} {meth : Method} {c : Code} {H : Heap} {locs : List Loc} {cs ss : Nat} {Q : State → Prop} {cc : ByteArray} {nL pc : Nat} {ls : Array Slot} {rest : List Value} {own : String} {idx : Nat} {D : va_G} {κ : ClassId × ClassId × ClassId} {a : Nat → Nat} {u : TS} {A : Nat → Prop} (hC : CallFix p m c cc nL s args WALL own) (hG : GW D κ a u A s H locs) (k : Nat) (x : Int64) (q1 : k < AC_count u) (q2 : OK u) (wl : Cond.methodLink own idx yX0_worth ∈ WALL) (hR : 0 + 1 ≤ R.frames ∧ 8 + (8 + 11) + 0 ≤ R.locals) (hls : ls.size = nL) (h8 : (rest.map fun v => v.category).sum ≤ 8) (hd : decode cc pc = .ok (.invokevirtual idx, 3)) (hcs : cs ≤ R.cells ∧ ss ≤ R.slots) (kk : ∀ (H1 : Heap) (locs1 : List Loc), GW D κ a u A s H1 locs1 → W p l e R s m args below meth c H1 locs1 cs ss Q (F0 m (pc + 3) ls (.long (fWorth u k x) :: rest))) : W p l e R s m args below meth c H locs cs ss Q (F0 m pc ls (.long x :: .int (nI k) :: .ref (a 1) :: rest)) :=
  tc_l hG (tr_V (n := 2) (k := 1) (ci := 0) (As := [.int (nI k), .long x]) hC hG (c_AC_worth l D κ a H.size u k x q1 q2) rfl rfl wl w15 w218 w216 w217 (by decide +kernel) hR rfl hls rfl h8 hd hcs) (fun r u' H1 locs1 hq hG1 => by obtain ⟨rfl, rfl⟩ := hq; exact kk H1 locs1 hG1)

theorem dX4_add_0 : decode cX4_add 0 = .ok (.aload_n 0, 1) := by decide +kernel
theorem dX4_add_1 : decode cX4_add 1 = .ok (.getfield 22, 3) := by decide +kernel
theorem dX4_add_10 : decode cX4_add 10 = .ok (.aload_n 0, 1) := by decide +kernel
theorem dX4_add_11 : decode cX4_add 11 = .ok (.getfield 9, 3) := by decide +kernel
theorem dX4_add_14 : decode cX4_add 14 = .ok (.aload_n 0, 1) := by decide +kernel
theorem dX4_add_15 : decode cX4_add 15 = .ok (.getfield 22, 3) := by decide +kernel
theorem dX4_add_18 : decode cX4_add 18 = .ok (.iload_n 1, 1) := by decide +kernel
theorem dX4_add_19 : decode cX4_add 19 = .ok (.iastore, 1) := by decide +kernel
theorem dX4_add_20 : decode cX4_add 20 = .ok (.aload_n 0, 1) := by decide +kernel
theorem dX4_add_21 : decode cX4_add 21 = .ok (.getfield 15, 3) := by decide +kernel
theorem dX4_add_24 : decode cX4_add 24 = .ok (.aload_n 0, 1) := by decide +kernel
theorem dX4_add_25 : decode cX4_add 25 = .ok (.getfield 22, 3) := by decide +kernel
theorem dX4_add_28 : decode cX4_add 28 = .ok (.lload_n 2, 1) := by decide +kernel
theorem dX4_add_29 : decode cX4_add 29 = .ok (.lastore, 1) := by decide +kernel
theorem dX4_add_30 : decode cX4_add 30 = .ok (.aload_n 0, 1) := by decide +kernel
theorem dX4_add_31 : decode cX4_add 31 = .ok (.getfield 19, 3) := by decide +kernel
theorem dX4_add_34 : decode cX4_add 34 = .ok (.aload_n 0, 1) := by decide +kernel
theorem dX4_add_35 : decode cX4_add 35 = .ok (.getfield 22, 3) := by decide +kernel
theorem dX4_add_38 : decode cX4_add 38 = .ok (.lload 4, 2) := by decide +kernel
theorem dX4_add_4 : decode cX4_add 4 = .ok (.bipush 10, 2) := by decide +kernel
theorem dX4_add_40 : decode cX4_add 40 = .ok (.lastore, 1) := by decide +kernel
theorem dX4_add_41 : decode cX4_add 41 = .ok (.aload_n 0, 1) := by decide +kernel
theorem dX4_add_42 : decode cX4_add 42 = .ok (.dup, 1) := by decide +kernel
theorem dX4_add_43 : decode cX4_add 43 = .ok (.getfield 22, 3) := by decide +kernel
theorem dX4_add_46 : decode cX4_add 46 = .ok (.iconst 1, 1) := by decide +kernel
theorem dX4_add_47 : decode cX4_add 47 = .ok (.iadd, 1) := by decide +kernel
theorem dX4_add_48 : decode cX4_add 48 = .ok (.putfield 22, 3) := by decide +kernel
theorem dX4_add_51 : decode cX4_add 51 = .ok (.return_, 1) := by decide +kernel
theorem dX4_add_6 : decode cX4_add 6 = .ok (.if_icmp .lt 4, 3) := by decide +kernel
set_option maxHeartbeats 4000000 in
set_option maxRecDepth 100000 in
theorem c_L0_add (l : Launch) (D : va_G) (κ : ClassId × ClassId × ClassId) (a : Nat → Nat) (sz : Nat) (u : TS) (ac : Nat) (am : Int64) (wo : Int64) (q1 : L0_count u < 10) : TM l yX4_add cX4_add 6 none 0 0 D κ a u sz [.ref (a 3), .int (nI ac), .long am, .long wo] (QV D κ a sz (fun u' => u' = fRow 0 u ac am wo)) := by
  refine TM.of (by decide +kernel) (Nat.le_of_ble_eq_true rfl) ?_
  intro p e s m below meth c ls hC hr hk hsz H locs hG hl
  have hx := hC.1
  have hb := hC.2.1
  have hl : lv_has ls 6 [(0, .ref (a 3)), (1, .int (nI ac)), (2, .long am), (4, .long wo)] := hl
  refine lv_aload_n hx hb dX4_add_0 rfl (lv_at hl 0 rfl) ?_
  refine gf_L0_count hC hG (hC.2.2.2.2 _ w70) dX4_add_1 ?_
  refine lv_bipush (v := nI 10) hx hb dX4_add_4 (by decide) ?_
  refine bn_lt_t (tgt := 10) hx hb (by omega) (by omega) dX4_add_6 (by decide) (by omega) ?_
  refine lv_aload_n hx hb dX4_add_10 rfl (lv_at hl 0 rfl) ?_
  refine gf_L0_account hC hG (hC.2.2.2.2 _ w66) dX4_add_11 ?_
  refine lv_aload_n hx hb dX4_add_14 rfl (lv_at hl 0 rfl) ?_
  refine gf_L0_count hC hG (hC.2.2.2.2 _ w70) dX4_add_15 ?_
  refine lv_iload_n hx hb dX4_add_18 rfl (lv_at hl 1 rfl) ?_
  refine as_L0_account hC hG (by omega) dX4_add_19 (fun H locs hG => ?_)
  refine lv_aload_n hx hb dX4_add_20 rfl (lv_at hl 0 rfl) ?_
  refine gf_L0_amount hC hG (hC.2.2.2.2 _ w68) dX4_add_21 ?_
  refine lv_aload_n hx hb dX4_add_24 rfl (lv_at hl 0 rfl) ?_
  refine gf_L0_count hC hG (hC.2.2.2.2 _ w70) dX4_add_25 ?_
  refine W.eq (g2 := F0 m 28 ls [.int (nI (L0_count u)), .ref (a 16)]) rfl ?_
  refine lv_lload_n hx hb dX4_add_28 rfl (lv_at hl 2 rfl) ?_
  refine as_L0_amount hC hG (by omega) dX4_add_29 (fun H locs hG => ?_)
  refine lv_aload_n hx hb dX4_add_30 rfl (lv_at hl 0 rfl) ?_
  refine gf_L0_worth hC hG (hC.2.2.2.2 _ w69) dX4_add_31 ?_
  refine lv_aload_n hx hb dX4_add_34 rfl (lv_at hl 0 rfl) ?_
  refine gf_L0_count hC hG (hC.2.2.2.2 _ w70) dX4_add_35 ?_
  refine W.eq (g2 := F0 m 38 ls [.int (nI (L0_count u)), .ref (a 17)]) rfl ?_
  refine lv_lload hx hb dX4_add_38 (lv_at hl 3 rfl) ?_
  refine as_L0_worth hC hG (by omega) dX4_add_40 (fun H locs hG => ?_)
  refine lv_aload_n hx hb dX4_add_41 rfl (lv_at hl 0 rfl) ?_
  refine lv_dup hx hb dX4_add_42 rfl ?_
  refine gf_L0_count hC hG (hC.2.2.2.2 _ w70) dX4_add_43 ?_
  refine W.eq (g2 := F0 m 46 ls [.int (nI (L0_count u)), .ref (a 3)]) rfl ?_
  refine lv_iconst (v := nI 1) hx hb dX4_add_46 (by decide) ?_
  refine ar_iadd hx hb dX4_add_47 ?_
  refine pf_L0_count hC hG (hC.2.2.2.2 _ w70) dX4_add_48 (fun H locs hG => ?_)
  exact te_v hC hG hr hk (by rfl) dX4_add_51
theorem k_L0_add {p : Program} {l : Launch} {e : Env} {R : Room} {s : State} {m : MethodId} {args : Array Value} {below : List Frame} {meth : Method} {c : Code} {H : Heap} {locs : List Loc} {cs ss : Nat} {Q : State → Prop} {cc : ByteArray} {nL pc : Nat} {ls : Array Slot} {rest : List Value} {own : String} {idx : Nat} {D : va_G} {κ : ClassId × ClassId × ClassId} {a : Nat → Nat} {u : TS} {A : Nat → Prop} (hC : CallFix p m c cc nL s args WALL own) (hG : GW D κ a u A s H locs) (ac : Nat) (am : Int64) (wo : Int64) (q1 : L0_count u < 10) (wl : Cond.methodLink own idx yX4_add ∈ WALL) (hR : 0 + 1 ≤ R.frames ∧ 8 + (6 + 11) + 0 ≤ R.locals) (hls : ls.size = nL) (h8 : (rest.map fun v => v.category).sum ≤ 8) (hd : decode cc pc = .ok (.invokevirtual idx, 3)) (hcs : cs ≤ R.cells ∧ ss ≤ R.slots) (kk : ∀ (H1 : Heap) (locs1 : List Loc), GW D κ a (fRow 0 u ac am wo) A s H1 locs1 → W p l e R s m args below meth c H1 locs1 cs ss Q (F0 m (pc + 3) ls (rest))) : W p l e R s m args below meth c H locs cs ss Q (F0 m pc ls (.long wo :: .long am :: .int (nI ac) :: .ref (a 3) :: rest)) :=
  tc_v hG (tr_V (n := 3) (k := 3) (ci := 4) (As := [.int (nI ac), .long am, .long wo]) hC hG (c_L0_add l D κ a H.size u ac am wo q1) rfl rfl wl w40 w225 w223 w224 (by decide +kernel) hR rfl hls rfl h8 hd hcs) (fun u' H1 locs1 hq hG1 => by subst hq; exact kk H1 locs1 hG1)

theorem dX4_worthSum_0 : decode cX4_worthSum 0 = .ok (.lconst 0, 1) := by decide +kernel
theorem dX4_worthSum_1 : decode cX4_worthSum 1 = .ok (.lstore_n 1, 1) := by decide +kernel
theorem dX4_worthSum_12 : decode cX4_worthSum 12 = .ok (.lload_n 1, 1) := by decide +kernel
theorem dX4_worthSum_13 : decode cX4_worthSum 13 = .ok (.aload_n 0, 1) := by decide +kernel
theorem dX4_worthSum_14 : decode cX4_worthSum 14 = .ok (.getfield 19, 3) := by decide +kernel
theorem dX4_worthSum_17 : decode cX4_worthSum 17 = .ok (.iload_n 3, 1) := by decide +kernel
theorem dX4_worthSum_18 : decode cX4_worthSum 18 = .ok (.laload, 1) := by decide +kernel
theorem dX4_worthSum_19 : decode cX4_worthSum 19 = .ok (.ladd, 1) := by decide +kernel
theorem dX4_worthSum_2 : decode cX4_worthSum 2 = .ok (.iconst 0, 1) := by decide +kernel
theorem dX4_worthSum_20 : decode cX4_worthSum 20 = .ok (.lstore_n 1, 1) := by decide +kernel
theorem dX4_worthSum_21 : decode cX4_worthSum 21 = .ok (.iinc 3 1, 3) := by decide +kernel
theorem dX4_worthSum_24 : decode cX4_worthSum 24 = .ok (.goto (-20), 3) := by decide +kernel
theorem dX4_worthSum_27 : decode cX4_worthSum 27 = .ok (.lload_n 1, 1) := by decide +kernel
theorem dX4_worthSum_28 : decode cX4_worthSum 28 = .ok (.lreturn, 1) := by decide +kernel
theorem dX4_worthSum_3 : decode cX4_worthSum 3 = .ok (.istore_n 3, 1) := by decide +kernel
theorem dX4_worthSum_4 : decode cX4_worthSum 4 = .ok (.iload_n 3, 1) := by decide +kernel
theorem dX4_worthSum_5 : decode cX4_worthSum 5 = .ok (.aload_n 0, 1) := by decide +kernel
theorem dX4_worthSum_6 : decode cX4_worthSum 6 = .ok (.getfield 22, 3) := by decide +kernel
theorem dX4_worthSum_9 : decode cX4_worthSum 9 = .ok (.if_icmp .ge 18, 3) := by decide +kernel
set_option maxHeartbeats 4000000 in
set_option maxRecDepth 100000 in
theorem c_L0_worthSum (l : Launch) (D : va_G) (κ : ClassId × ClassId × ClassId) (a : Nat → Nat) (sz : Nat) (u : TS)  (q1 : L0_count u ≤ 10) : TM l yX4_worthSum cX4_worthSum 4 (some .long) 0 0 D κ a u sz [.ref (a 3)] (QL D κ a sz (fun r u' => r = (fSum (L0_worth u) (L0_count u)) ∧ u' = u)) := by
  refine TM.of (by decide +kernel) (Nat.le_of_ble_eq_true rfl) ?_
  intro p e s m below meth c ls hC hr hk hsz H locs hG hl
  have hx := hC.1
  have hb := hC.2.1
  have hl : lv_has ls 4 [(0, .ref (a 3))] := hl
  refine lv_lconst (v := 0) hx hb dX4_worthSum_0 (by decide) ?_
  refine lv_lstore_n (lv' := [(1, .long (0 : Int64)), (0, .ref (a 3))]) hx hb dX4_worthSum_1 rfl hl (by decide) rfl (fun ls hl => ?_)
  refine lv_iconst (v := nI 0) hx hb dX4_worthSum_2 (by decide) ?_
  refine lv_istore_n (lv' := [(3, .int (nI 0)), (1, .long (0 : Int64)), (0, .ref (a 3))]) hx hb dX4_worthSum_3 rfl hl (by decide) rfl (fun ls hl => ?_)
  have lp4 : ∀ (n : Nat) (i : Nat), L0_count u - i < n → (i ≤ L0_count u) → ∀ (H : Heap) (locs : List Loc), GW D κ a u (AA a sz) s H locs → ∀ ls : Array Slot, lv_has ls 4 [(3, .int (nI i)), (1, .long (fSum (L0_worth u) i)), (0, .ref (a 3))] → W p l e { frames := 0, cells := 0, slots := 0, locals := 0 } s m [.ref (a 3)].toArray below meth c H locs 0 0 (MQ below (QL D κ a sz (fun r u' => r = (fSum (L0_worth u) (L0_count u)) ∧ u' = u)) [.ref (a 3)].toArray s 0 0 (AA a sz)) (F0 m 4 ls []) := by
    intro n
    induction n with
    | zero =>
      intro i hm
      exact absurd hm (Nat.not_lt_zero _)
    | succ n ih4 =>
      intro i hm4 c4_1 H locs hG ls hl
      refine lv_iload_n hx hb dX4_worthSum_4 rfl (lv_at hl 0 rfl) ?_
      refine lv_aload_n hx hb dX4_worthSum_5 rfl (lv_at hl 2 rfl) ?_
      refine gf_L0_count hC hG (hC.2.2.2.2 _ w70) dX4_worthSum_6 ?_
      refine bn_ge (tgt := 27) hx hb (by omega) (by omega) dX4_worthSum_9 (by decide) (fun h9 => ?_) (fun h9 => ?_)
      · refine lv_lload_n hx hb dX4_worthSum_27 rfl (lv_at hl 1 rfl) ?_
        have hi : i = L0_count u := by omega
        exact te_l hC hG hr hk ⟨(show fSum (L0_worth u) i = fSum (L0_worth u) (L0_count u) from by rw [hi]), rfl⟩ dX4_worthSum_28
      · refine lv_lload_n hx hb dX4_worthSum_12 rfl (lv_at hl 1 rfl) ?_
        refine lv_aload_n hx hb dX4_worthSum_13 rfl (lv_at hl 2 rfl) ?_
        refine gf_L0_worth hC hG (hC.2.2.2.2 _ w69) dX4_worthSum_14 ?_
        refine lv_iload_n hx hb dX4_worthSum_17 rfl (lv_at hl 0 rfl) ?_
        refine al_L0_worth hC hG (by omega) dX4_worthSum_18 ?_
        refine lv_ladd hx hb dX4_worthSum_19 ?_
        refine lv_lstore_n (lv' := [(1, .long (fSum (L0_worth u) i + (L0_worth u i))), (3, .int (nI i)), (0, .ref (a 3))]) hx hb dX4_worthSum_20 rfl hl (by decide) rfl (fun ls hl => ?_)
        refine lv_iinc (v := (nI (i + 1))) (lv' := [(3, .int (nI (i + 1))), (1, .long (fSum (L0_worth u) i + (L0_worth u i))), (0, .ref (a 3))]) hx hb dX4_worthSum_21 hl (k := 1) rfl (nI_1 _) (by decide) rfl (fun ls hl => ?_)
        refine lv_goto (tgt := 4) hx hb dX4_worthSum_24 (by decide) ?_
        have e4_1 : fSum (L0_worth u) (i + 1) = (fSum (L0_worth u) i + (L0_worth u i)) := by rfl
        have hl : lv_has ls 4 [(3, .int (nI (i + 1))), (1, .long (fSum (L0_worth u) (i + 1))), (0, .ref (a 3))] := by rw [e4_1]; exact hl
        exact ih4  (i + 1) (by omega) (by omega) H locs hG ls (lv_sub hl [0, 1, 2] rfl)
  have e4_2 : fSum (L0_worth u) 0 = (0 : Int64) := by rfl
  have hl : lv_has ls 4 [(3, .int (nI 0)), (1, .long (fSum (L0_worth u) 0)), (0, .ref (a 3))] := by rw [e4_2]; exact hl
  exact lp4 _ 0 (Nat.lt_succ_self _) (by omega) H locs hG ls (lv_sub hl [0, 1, 2] rfl)
theorem k_L0_worthSum {p : Program} {l : Launch} {e : Env} {R : Room} {s : State} {m : MethodId} {args : Array Value} {below : List Frame} {meth : Method} {c : Code} {H : Heap} {locs : List Loc} {cs ss : Nat} {Q : State → Prop} {cc : ByteArray} {nL pc : Nat} {ls : Array Slot} {rest : List Value} {own : String} {idx : Nat} {D : va_G} {κ : ClassId × ClassId × ClassId} {a : Nat → Nat} {u : TS} {A : Nat → Prop} (hC : CallFix p m c cc nL s args WALL own) (hG : GW D κ a u A s H locs)  (q1 : L0_count u ≤ 10) (wl : Cond.methodLink own idx yX4_worthSum ∈ WALL) (hR : 0 + 1 ≤ R.frames ∧ 8 + (4 + 11) + 0 ≤ R.locals) (hls : ls.size = nL) (h8 : (rest.map fun v => v.category).sum ≤ 8) (hd : decode cc pc = .ok (.invokevirtual idx, 3)) (hcs : cs ≤ R.cells ∧ ss ≤ R.slots) (kk : ∀ (H1 : Heap) (locs1 : List Loc), GW D κ a u A s H1 locs1 → W p l e R s m args below meth c H1 locs1 cs ss Q (F0 m (pc + 3) ls (.long (fSum (L0_worth u) (L0_count u)) :: rest))) : W p l e R s m args below meth c H locs cs ss Q (F0 m pc ls (.ref (a 3) :: rest)) :=
  tc_l hG (tr_V (n := 0) (k := 3) (ci := 4) (As := []) hC hG (c_L0_worthSum l D κ a H.size u  q1) rfl rfl wl w40 w229 w227 w228 (by decide +kernel) hR rfl hls rfl h8 hd hcs) (fun r u' H1 locs1 hq hG1 => by obtain ⟨rfl, rfl⟩ := hq; exact kk H1 locs1 hG1)


set_option maxHeartbeats 4000000 in
set_option maxRecDepth 100000 in
theorem c_L1_add (l : Launch) (D : va_G) (κ : ClassId × ClassId × ClassId) (a : Nat → Nat) (sz : Nat) (u : TS) (ac : Nat) (am : Int64) (wo : Int64) (q1 : L1_count u < 10) : TM l yX4_add cX4_add 6 none 0 0 D κ a u sz [.ref (a 4), .int (nI ac), .long am, .long wo] (QV D κ a sz (fun u' => u' = fRow 1 u ac am wo)) := by
  refine TM.of (by decide +kernel) (Nat.le_of_ble_eq_true rfl) ?_
  intro p e s m below meth c ls hC hr hk hsz H locs hG hl
  have hx := hC.1
  have hb := hC.2.1
  have hl : lv_has ls 6 [(0, .ref (a 4)), (1, .int (nI ac)), (2, .long am), (4, .long wo)] := hl
  refine lv_aload_n hx hb dX4_add_0 rfl (lv_at hl 0 rfl) ?_
  refine gf_L1_count hC hG (hC.2.2.2.2 _ w70) dX4_add_1 ?_
  refine lv_bipush (v := nI 10) hx hb dX4_add_4 (by decide) ?_
  refine bn_lt_t (tgt := 10) hx hb (by omega) (by omega) dX4_add_6 (by decide) (by omega) ?_
  refine lv_aload_n hx hb dX4_add_10 rfl (lv_at hl 0 rfl) ?_
  refine gf_L1_account hC hG (hC.2.2.2.2 _ w66) dX4_add_11 ?_
  refine lv_aload_n hx hb dX4_add_14 rfl (lv_at hl 0 rfl) ?_
  refine gf_L1_count hC hG (hC.2.2.2.2 _ w70) dX4_add_15 ?_
  refine lv_iload_n hx hb dX4_add_18 rfl (lv_at hl 1 rfl) ?_
  refine as_L1_account hC hG (by omega) dX4_add_19 (fun H locs hG => ?_)
  refine lv_aload_n hx hb dX4_add_20 rfl (lv_at hl 0 rfl) ?_
  refine gf_L1_amount hC hG (hC.2.2.2.2 _ w68) dX4_add_21 ?_
  refine lv_aload_n hx hb dX4_add_24 rfl (lv_at hl 0 rfl) ?_
  refine gf_L1_count hC hG (hC.2.2.2.2 _ w70) dX4_add_25 ?_
  refine W.eq (g2 := F0 m 28 ls [.int (nI (L1_count u)), .ref (a 19)]) rfl ?_
  refine lv_lload_n hx hb dX4_add_28 rfl (lv_at hl 2 rfl) ?_
  refine as_L1_amount hC hG (by omega) dX4_add_29 (fun H locs hG => ?_)
  refine lv_aload_n hx hb dX4_add_30 rfl (lv_at hl 0 rfl) ?_
  refine gf_L1_worth hC hG (hC.2.2.2.2 _ w69) dX4_add_31 ?_
  refine lv_aload_n hx hb dX4_add_34 rfl (lv_at hl 0 rfl) ?_
  refine gf_L1_count hC hG (hC.2.2.2.2 _ w70) dX4_add_35 ?_
  refine W.eq (g2 := F0 m 38 ls [.int (nI (L1_count u)), .ref (a 20)]) rfl ?_
  refine lv_lload hx hb dX4_add_38 (lv_at hl 3 rfl) ?_
  refine as_L1_worth hC hG (by omega) dX4_add_40 (fun H locs hG => ?_)
  refine lv_aload_n hx hb dX4_add_41 rfl (lv_at hl 0 rfl) ?_
  refine lv_dup hx hb dX4_add_42 rfl ?_
  refine gf_L1_count hC hG (hC.2.2.2.2 _ w70) dX4_add_43 ?_
  refine W.eq (g2 := F0 m 46 ls [.int (nI (L1_count u)), .ref (a 4)]) rfl ?_
  refine lv_iconst (v := nI 1) hx hb dX4_add_46 (by decide) ?_
  refine ar_iadd hx hb dX4_add_47 ?_
  refine pf_L1_count hC hG (hC.2.2.2.2 _ w70) dX4_add_48 (fun H locs hG => ?_)
  exact te_v hC hG hr hk (by rfl) dX4_add_51
theorem k_L1_add {p : Program} {l : Launch} {e : Env} {R : Room} {s : State} {m : MethodId} {args : Array Value} {below : List Frame} {meth : Method} {c : Code} {H : Heap} {locs : List Loc} {cs ss : Nat} {Q : State → Prop} {cc : ByteArray} {nL pc : Nat} {ls : Array Slot} {rest : List Value} {own : String} {idx : Nat} {D : va_G} {κ : ClassId × ClassId × ClassId} {a : Nat → Nat} {u : TS} {A : Nat → Prop} (hC : CallFix p m c cc nL s args WALL own) (hG : GW D κ a u A s H locs) (ac : Nat) (am : Int64) (wo : Int64) (q1 : L1_count u < 10) (wl : Cond.methodLink own idx yX4_add ∈ WALL) (hR : 0 + 1 ≤ R.frames ∧ 8 + (6 + 11) + 0 ≤ R.locals) (hls : ls.size = nL) (h8 : (rest.map fun v => v.category).sum ≤ 8) (hd : decode cc pc = .ok (.invokevirtual idx, 3)) (hcs : cs ≤ R.cells ∧ ss ≤ R.slots) (kk : ∀ (H1 : Heap) (locs1 : List Loc), GW D κ a (fRow 1 u ac am wo) A s H1 locs1 → W p l e R s m args below meth c H1 locs1 cs ss Q (F0 m (pc + 3) ls (rest))) : W p l e R s m args below meth c H locs cs ss Q (F0 m pc ls (.long wo :: .long am :: .int (nI ac) :: .ref (a 4) :: rest)) :=
  tc_v hG (tr_V (n := 3) (k := 4) (ci := 4) (As := [.int (nI ac), .long am, .long wo]) hC hG (c_L1_add l D κ a H.size u ac am wo q1) rfl rfl wl w40 w225 w223 w224 (by decide +kernel) hR rfl hls rfl h8 hd hcs) (fun u' H1 locs1 hq hG1 => by subst hq; exact kk H1 locs1 hG1)


set_option maxHeartbeats 4000000 in
set_option maxRecDepth 100000 in
theorem c_L1_worthSum (l : Launch) (D : va_G) (κ : ClassId × ClassId × ClassId) (a : Nat → Nat) (sz : Nat) (u : TS)  (q1 : L1_count u ≤ 10) : TM l yX4_worthSum cX4_worthSum 4 (some .long) 0 0 D κ a u sz [.ref (a 4)] (QL D κ a sz (fun r u' => r = (fSum (L1_worth u) (L1_count u)) ∧ u' = u)) := by
  refine TM.of (by decide +kernel) (Nat.le_of_ble_eq_true rfl) ?_
  intro p e s m below meth c ls hC hr hk hsz H locs hG hl
  have hx := hC.1
  have hb := hC.2.1
  have hl : lv_has ls 4 [(0, .ref (a 4))] := hl
  refine lv_lconst (v := 0) hx hb dX4_worthSum_0 (by decide) ?_
  refine lv_lstore_n (lv' := [(1, .long (0 : Int64)), (0, .ref (a 4))]) hx hb dX4_worthSum_1 rfl hl (by decide) rfl (fun ls hl => ?_)
  refine lv_iconst (v := nI 0) hx hb dX4_worthSum_2 (by decide) ?_
  refine lv_istore_n (lv' := [(3, .int (nI 0)), (1, .long (0 : Int64)), (0, .ref (a 4))]) hx hb dX4_worthSum_3 rfl hl (by decide) rfl (fun ls hl => ?_)
  have lp4 : ∀ (n : Nat) (i : Nat), L1_count u - i < n → (i ≤ L1_count u) → ∀ (H : Heap) (locs : List Loc), GW D κ a u (AA a sz) s H locs → ∀ ls : Array Slot, lv_has ls 4 [(3, .int (nI i)), (1, .long (fSum (L1_worth u) i)), (0, .ref (a 4))] → W p l e { frames := 0, cells := 0, slots := 0, locals := 0 } s m [.ref (a 4)].toArray below meth c H locs 0 0 (MQ below (QL D κ a sz (fun r u' => r = (fSum (L1_worth u) (L1_count u)) ∧ u' = u)) [.ref (a 4)].toArray s 0 0 (AA a sz)) (F0 m 4 ls []) := by
    intro n
    induction n with
    | zero =>
      intro i hm
      exact absurd hm (Nat.not_lt_zero _)
    | succ n ih4 =>
      intro i hm4 c4_1 H locs hG ls hl
      refine lv_iload_n hx hb dX4_worthSum_4 rfl (lv_at hl 0 rfl) ?_
      refine lv_aload_n hx hb dX4_worthSum_5 rfl (lv_at hl 2 rfl) ?_
      refine gf_L1_count hC hG (hC.2.2.2.2 _ w70) dX4_worthSum_6 ?_
      refine bn_ge (tgt := 27) hx hb (by omega) (by omega) dX4_worthSum_9 (by decide) (fun h9 => ?_) (fun h9 => ?_)
      · refine lv_lload_n hx hb dX4_worthSum_27 rfl (lv_at hl 1 rfl) ?_
        have hi : i = L1_count u := by omega
        exact te_l hC hG hr hk ⟨(show fSum (L1_worth u) i = fSum (L1_worth u) (L1_count u) from by rw [hi]), rfl⟩ dX4_worthSum_28
      · refine lv_lload_n hx hb dX4_worthSum_12 rfl (lv_at hl 1 rfl) ?_
        refine lv_aload_n hx hb dX4_worthSum_13 rfl (lv_at hl 2 rfl) ?_
        refine gf_L1_worth hC hG (hC.2.2.2.2 _ w69) dX4_worthSum_14 ?_
        refine lv_iload_n hx hb dX4_worthSum_17 rfl (lv_at hl 0 rfl) ?_
        refine al_L1_worth hC hG (by omega) dX4_worthSum_18 ?_
        refine lv_ladd hx hb dX4_worthSum_19 ?_
        refine lv_lstore_n (lv' := [(1, .long (fSum (L1_worth u) i + (L1_worth u i))), (3, .int (nI i)), (0, .ref (a 4))]) hx hb dX4_worthSum_20 rfl hl (by decide) rfl (fun ls hl => ?_)
        refine lv_iinc (v := (nI (i + 1))) (lv' := [(3, .int (nI (i + 1))), (1, .long (fSum (L1_worth u) i + (L1_worth u i))), (0, .ref (a 4))]) hx hb dX4_worthSum_21 hl (k := 1) rfl (nI_1 _) (by decide) rfl (fun ls hl => ?_)
        refine lv_goto (tgt := 4) hx hb dX4_worthSum_24 (by decide) ?_
        have e4_1 : fSum (L1_worth u) (i + 1) = (fSum (L1_worth u) i + (L1_worth u i)) := by rfl
        have hl : lv_has ls 4 [(3, .int (nI (i + 1))), (1, .long (fSum (L1_worth u) (i + 1))), (0, .ref (a 4))] := by rw [e4_1]; exact hl
        exact ih4  (i + 1) (by omega) (by omega) H locs hG ls (lv_sub hl [0, 1, 2] rfl)
  have e4_2 : fSum (L1_worth u) 0 = (0 : Int64) := by rfl
  have hl : lv_has ls 4 [(3, .int (nI 0)), (1, .long (fSum (L1_worth u) 0)), (0, .ref (a 4))] := by rw [e4_2]; exact hl
  exact lp4 _ 0 (Nat.lt_succ_self _) (by omega) H locs hG ls (lv_sub hl [0, 1, 2] rfl)
theorem k_L1_worthSum {p : Program} {l : Launch} {e : Env} {R : Room} {s : State} {m : MethodId} {args : Array Value} {below : List Frame} {meth : Method} {c : Code} {H : Heap} {locs : List Loc} {cs ss : Nat} {Q : State → Prop} {cc : ByteArray} {nL pc : Nat} {ls : Array Slot} {rest : List Value} {own : String} {idx : Nat} {D : va_G} {κ : ClassId × ClassId × ClassId} {a : Nat → Nat} {u : TS} {A : Nat → Prop} (hC : CallFix p m c cc nL s args WALL own) (hG : GW D κ a u A s H locs)  (q1 : L1_count u ≤ 10) (wl : Cond.methodLink own idx yX4_worthSum ∈ WALL) (hR : 0 + 1 ≤ R.frames ∧ 8 + (4 + 11) + 0 ≤ R.locals) (hls : ls.size = nL) (h8 : (rest.map fun v => v.category).sum ≤ 8) (hd : decode cc pc = .ok (.invokevirtual idx, 3)) (hcs : cs ≤ R.cells ∧ ss ≤ R.slots) (kk : ∀ (H1 : Heap) (locs1 : List Loc), GW D κ a u A s H1 locs1 → W p l e R s m args below meth c H1 locs1 cs ss Q (F0 m (pc + 3) ls (.long (fSum (L1_worth u) (L1_count u)) :: rest))) : W p l e R s m args below meth c H locs cs ss Q (F0 m pc ls (.ref (a 4) :: rest)) :=
  tc_l hG (tr_V (n := 0) (k := 4) (ci := 4) (As := []) hC hG (c_L1_worthSum l D κ a H.size u  q1) rfl rfl wl w40 w229 w227 w228 (by decide +kernel) hR rfl hls rfl h8 hd hcs) (fun r u' H1 locs1 hq hG1 => by obtain ⟨rfl, rfl⟩ := hq; exact kk H1 locs1 hG1)

theorem dX2_heldOn_0 : decode cX2_heldOn 0 = .ok (.lconst 0, 1) := by decide +kernel
theorem dX2_heldOn_1 : decode cX2_heldOn 1 = .ok (.lstore 4, 2) := by decide +kernel
theorem dX2_heldOn_12 : decode cX2_heldOn 12 = .ok (.if_icmp .ge 49, 3) := by decide +kernel
theorem dX2_heldOn_3 : decode cX2_heldOn 3 = .ok (.iconst 0, 1) := by decide +kernel
theorem dX2_heldOn_4 : decode cX2_heldOn 4 = .ok (.istore 6, 2) := by decide +kernel
theorem dX2_heldOn_6 : decode cX2_heldOn 6 = .ok (.iload 6, 2) := by decide +kernel
theorem dX2_heldOn_61 : decode cX2_heldOn 61 = .ok (.lload 4, 2) := by decide +kernel
theorem dX2_heldOn_63 : decode cX2_heldOn 63 = .ok (.lreturn, 1) := by decide +kernel
theorem dX2_heldOn_8 : decode cX2_heldOn 8 = .ok (.aload_n 0, 1) := by decide +kernel
theorem dX2_heldOn_9 : decode cX2_heldOn 9 = .ok (.getfield 25, 3) := by decide +kernel
set_option maxHeartbeats 4000000 in
set_option maxRecDepth 100000 in
theorem c_HO_heldOn (l : Launch) (D : va_G) (κ : ClassId × ClassId × ClassId) (a : Nat → Nat) (sz : Nat) (u : TS) (w : Nat) (d : Nat) (x : Option Nat) (q1 : HO_count u = 0) : TM l yX2_heldOn cX2_heldOn 7 (some .long) 0 0 D κ a u sz [.ref (a 6), .int (nI w), .int (nI d), .int (oI x)] (QL D κ a sz (fun r u' => r = (0 : Int64) ∧ u' = u)) := by
  refine TM.of (by decide +kernel) (Nat.le_of_ble_eq_true rfl) ?_
  intro p e s m below meth c ls hC hr hk hsz H locs hG hl
  have hx := hC.1
  have hb := hC.2.1
  have hl : lv_has ls 7 [(0, .ref (a 6)), (1, .int (nI w)), (2, .int (nI d)), (3, .int (oI x))] := hl
  refine lv_lconst (v := 0) hx hb dX2_heldOn_0 (by decide) ?_
  refine lv_lstore (lv' := [(4, .long (0 : Int64)), (0, .ref (a 6)), (1, .int (nI w)), (2, .int (nI d)), (3, .int (oI x))]) hx hb dX2_heldOn_1 hl (by decide) rfl (fun ls hl => ?_)
  refine lv_iconst (v := nI 0) hx hb dX2_heldOn_3 (by decide) ?_
  refine lv_istore (lv' := [(6, .int (nI 0)), (4, .long (0 : Int64)), (0, .ref (a 6)), (1, .int (nI w)), (2, .int (nI d)), (3, .int (oI x))]) hx hb dX2_heldOn_4 hl (by decide) rfl (fun ls hl => ?_)
  refine lv_iload hx hb dX2_heldOn_6 (lv_at hl 0 rfl) ?_
  refine lv_aload_n hx hb dX2_heldOn_8 rfl (lv_at hl 2 rfl) ?_
  refine gf_HO_count hC hG (hC.2.2.2.2 _ w93) dX2_heldOn_9 ?_
  refine bn_ge_t (tgt := 61) hx hb (by omega) (by omega) dX2_heldOn_12 (by decide) (by omega) ?_
  refine lv_lload hx hb dX2_heldOn_61 (lv_at hl 1 rfl) ?_
  exact te_l hC hG hr hk ⟨rfl, rfl⟩ dX2_heldOn_63
theorem k_HO_heldOn {p : Program} {l : Launch} {e : Env} {R : Room} {s : State} {m : MethodId} {args : Array Value} {below : List Frame} {meth : Method} {c : Code} {H : Heap} {locs : List Loc} {cs ss : Nat} {Q : State → Prop} {cc : ByteArray} {nL pc : Nat} {ls : Array Slot} {rest : List Value} {own : String} {idx : Nat} {D : va_G} {κ : ClassId × ClassId × ClassId} {a : Nat → Nat} {u : TS} {A : Nat → Prop} (hC : CallFix p m c cc nL s args WALL own) (hG : GW D κ a u A s H locs) (w : Nat) (d : Nat) (x : Option Nat) (q1 : HO_count u = 0) (wl : Cond.methodLink own idx yX2_heldOn ∈ WALL) (hR : 0 + 1 ≤ R.frames ∧ 8 + (7 + 11) + 0 ≤ R.locals) (hls : ls.size = nL) (h8 : (rest.map fun v => v.category).sum ≤ 8) (hd : decode cc pc = .ok (.invokevirtual idx, 3)) (hcs : cs ≤ R.cells ∧ ss ≤ R.slots) (kk : ∀ (H1 : Heap) (locs1 : List Loc), GW D κ a u A s H1 locs1 → W p l e R s m args below meth c H1 locs1 cs ss Q (F0 m (pc + 3) ls (.long (0 : Int64) :: rest))) : W p l e R s m args below meth c H locs cs ss Q (F0 m pc ls (.int (oI x) :: .int (nI d) :: .int (nI w) :: .ref (a 6) :: rest)) :=
  tc_l hG (tr_V (n := 3) (k := 6) (ci := 2) (As := [.int (nI w), .int (nI d), .int (oI x)]) hC hG (c_HO_heldOn l D κ a H.size u w d x q1) rfl rfl wl w27 w452 w450 w451 (by decide +kernel) hR rfl hls rfl h8 hd hcs) (fun r u' H1 locs1 hq hG1 => by obtain ⟨rfl, rfl⟩ := hq; exact kk H1 locs1 hG1)

theorem dX2_countOpen_0 : decode cX2_countOpen 0 = .ok (.iconst 0, 1) := by decide +kernel
theorem dX2_countOpen_1 : decode cX2_countOpen 1 = .ok (.istore_n 2, 1) := by decide +kernel
theorem dX2_countOpen_2 : decode cX2_countOpen 2 = .ok (.iconst 0, 1) := by decide +kernel
theorem dX2_countOpen_3 : decode cX2_countOpen 3 = .ok (.istore_n 3, 1) := by decide +kernel
theorem dX2_countOpen_30 : decode cX2_countOpen 30 = .ok (.iload_n 2, 1) := by decide +kernel
theorem dX2_countOpen_31 : decode cX2_countOpen 31 = .ok (.ireturn, 1) := by decide +kernel
theorem dX2_countOpen_4 : decode cX2_countOpen 4 = .ok (.iload_n 3, 1) := by decide +kernel
theorem dX2_countOpen_5 : decode cX2_countOpen 5 = .ok (.aload_n 0, 1) := by decide +kernel
theorem dX2_countOpen_6 : decode cX2_countOpen 6 = .ok (.getfield 25, 3) := by decide +kernel
theorem dX2_countOpen_9 : decode cX2_countOpen 9 = .ok (.if_icmp .ge 21, 3) := by decide +kernel
set_option maxHeartbeats 4000000 in
set_option maxRecDepth 100000 in
theorem c_HO_countOpen (l : Launch) (D : va_G) (κ : ClassId × ClassId × ClassId) (a : Nat → Nat) (sz : Nat) (u : TS) (d : Nat) (q1 : HO_count u = 0) : TM l yX2_countOpen cX2_countOpen 4 (some .int) 0 0 D κ a u sz [.ref (a 6), .int (nI d)] (QI D κ a sz (fun r u' => r = (nI 0) ∧ u' = u)) := by
  refine TM.of (by decide +kernel) (Nat.le_of_ble_eq_true rfl) ?_
  intro p e s m below meth c ls hC hr hk hsz H locs hG hl
  have hx := hC.1
  have hb := hC.2.1
  have hl : lv_has ls 4 [(0, .ref (a 6)), (1, .int (nI d))] := hl
  refine lv_iconst (v := nI 0) hx hb dX2_countOpen_0 (by decide) ?_
  refine lv_istore_n (lv' := [(2, .int (nI 0)), (0, .ref (a 6)), (1, .int (nI d))]) hx hb dX2_countOpen_1 rfl hl (by decide) rfl (fun ls hl => ?_)
  refine lv_iconst (v := nI 0) hx hb dX2_countOpen_2 (by decide) ?_
  refine lv_istore_n (lv' := [(3, .int (nI 0)), (2, .int (nI 0)), (0, .ref (a 6)), (1, .int (nI d))]) hx hb dX2_countOpen_3 rfl hl (by decide) rfl (fun ls hl => ?_)
  refine lv_iload_n hx hb dX2_countOpen_4 rfl (lv_at hl 0 rfl) ?_
  refine lv_aload_n hx hb dX2_countOpen_5 rfl (lv_at hl 2 rfl) ?_
  refine gf_HO_count hC hG (hC.2.2.2.2 _ w93) dX2_countOpen_6 ?_
  refine bn_ge_t (tgt := 30) hx hb (by omega) (by omega) dX2_countOpen_9 (by decide) (by omega) ?_
  refine lv_iload_n hx hb dX2_countOpen_30 rfl (lv_at hl 1 rfl) ?_
  exact te_i (v := (nI 0)) hC hG hr hk ⟨rfl, rfl⟩ dX2_countOpen_31
theorem k_HO_countOpen {p : Program} {l : Launch} {e : Env} {R : Room} {s : State} {m : MethodId} {args : Array Value} {below : List Frame} {meth : Method} {c : Code} {H : Heap} {locs : List Loc} {cs ss : Nat} {Q : State → Prop} {cc : ByteArray} {nL pc : Nat} {ls : Array Slot} {rest : List Value} {own : String} {idx : Nat} {D : va_G} {κ : ClassId × ClassId × ClassId} {a : Nat → Nat} {u : TS} {A : Nat → Prop} (hC : CallFix p m c cc nL s args WALL own) (hG : GW D κ a u A s H locs) (d : Nat) (q1 : HO_count u = 0) (wl : Cond.methodLink own idx yX2_countOpen ∈ WALL) (hR : 0 + 1 ≤ R.frames ∧ 8 + (4 + 11) + 0 ≤ R.locals) (hls : ls.size = nL) (h8 : (rest.map fun v => v.category).sum ≤ 8) (hd : decode cc pc = .ok (.invokevirtual idx, 3)) (hcs : cs ≤ R.cells ∧ ss ≤ R.slots) (kk : ∀ (H1 : Heap) (locs1 : List Loc), GW D κ a u A s H1 locs1 → W p l e R s m args below meth c H1 locs1 cs ss Q (F0 m (pc + 3) ls (.int (nI 0) :: rest))) : W p l e R s m args below meth c H locs cs ss Q (F0 m pc ls (.int (nI d) :: .ref (a 6) :: rest)) :=
  tc_i hG (tr_V (n := 1) (k := 6) (ci := 2) (As := [.int (nI d)]) hC hG (c_HO_countOpen l D κ a H.size u d q1) rfl rfl wl w27 w170 w168 w169 (by decide +kernel) hR rfl hls rfl h8 hd hcs) (fun r u' H1 locs1 hq hG1 => by obtain ⟨rfl, rfl⟩ := hq; exact kk H1 locs1 hG1)

theorem dX5_sortIn_0 : decode cX5_sortIn 0 = .ok (.iload_n 1, 1) := by decide +kernel
theorem dX5_sortIn_1 : decode cX5_sortIn 1 = .ok (.istore_n 2, 1) := by decide +kernel
theorem dX5_sortIn_10 : decode cX5_sortIn 10 = .ok (.aload_n 0, 1) := by decide +kernel
theorem dX5_sortIn_11 : decode cX5_sortIn 11 = .ok (.getfield 21, 3) := by decide +kernel
theorem dX5_sortIn_14 : decode cX5_sortIn 14 = .ok (.iload_n 2, 1) := by decide +kernel
theorem dX5_sortIn_15 : decode cX5_sortIn 15 = .ok (.iconst 1, 1) := by decide +kernel
theorem dX5_sortIn_16 : decode cX5_sortIn 16 = .ok (.isub, 1) := by decide +kernel
theorem dX5_sortIn_17 : decode cX5_sortIn 17 = .ok (.iaload, 1) := by decide +kernel
theorem dX5_sortIn_18 : decode cX5_sortIn 18 = .ok (.iaload, 1) := by decide +kernel
theorem dX5_sortIn_19 : decode cX5_sortIn 19 = .ok (.aload_n 0, 1) := by decide +kernel
theorem dX5_sortIn_2 : decode cX5_sortIn 2 = .ok (.iload_n 2, 1) := by decide +kernel
theorem dX5_sortIn_20 : decode cX5_sortIn 20 = .ok (.getfield 15, 3) := by decide +kernel
theorem dX5_sortIn_23 : decode cX5_sortIn 23 = .ok (.iload_n 1, 1) := by decide +kernel
theorem dX5_sortIn_24 : decode cX5_sortIn 24 = .ok (.iaload, 1) := by decide +kernel
theorem dX5_sortIn_25 : decode cX5_sortIn 25 = .ok (.if_icmp .le 23, 3) := by decide +kernel
theorem dX5_sortIn_28 : decode cX5_sortIn 28 = .ok (.aload_n 0, 1) := by decide +kernel
theorem dX5_sortIn_29 : decode cX5_sortIn 29 = .ok (.getfield 21, 3) := by decide +kernel
theorem dX5_sortIn_3 : decode cX5_sortIn 3 = .ok (.ifCond .le 45, 3) := by decide +kernel
theorem dX5_sortIn_32 : decode cX5_sortIn 32 = .ok (.iload_n 2, 1) := by decide +kernel
theorem dX5_sortIn_33 : decode cX5_sortIn 33 = .ok (.aload_n 0, 1) := by decide +kernel
theorem dX5_sortIn_34 : decode cX5_sortIn 34 = .ok (.getfield 21, 3) := by decide +kernel
theorem dX5_sortIn_37 : decode cX5_sortIn 37 = .ok (.iload_n 2, 1) := by decide +kernel
theorem dX5_sortIn_38 : decode cX5_sortIn 38 = .ok (.iconst 1, 1) := by decide +kernel
theorem dX5_sortIn_39 : decode cX5_sortIn 39 = .ok (.isub, 1) := by decide +kernel
theorem dX5_sortIn_40 : decode cX5_sortIn 40 = .ok (.iaload, 1) := by decide +kernel
theorem dX5_sortIn_41 : decode cX5_sortIn 41 = .ok (.iastore, 1) := by decide +kernel
theorem dX5_sortIn_42 : decode cX5_sortIn 42 = .ok (.iinc 2 (-1), 3) := by decide +kernel
theorem dX5_sortIn_45 : decode cX5_sortIn 45 = .ok (.goto (-43), 3) := by decide +kernel
theorem dX5_sortIn_48 : decode cX5_sortIn 48 = .ok (.aload_n 0, 1) := by decide +kernel
theorem dX5_sortIn_49 : decode cX5_sortIn 49 = .ok (.getfield 21, 3) := by decide +kernel
theorem dX5_sortIn_52 : decode cX5_sortIn 52 = .ok (.iload_n 2, 1) := by decide +kernel
theorem dX5_sortIn_53 : decode cX5_sortIn 53 = .ok (.iload_n 1, 1) := by decide +kernel
theorem dX5_sortIn_54 : decode cX5_sortIn 54 = .ok (.iastore, 1) := by decide +kernel
theorem dX5_sortIn_55 : decode cX5_sortIn 55 = .ok (.return_, 1) := by decide +kernel
theorem dX5_sortIn_6 : decode cX5_sortIn 6 = .ok (.aload_n 0, 1) := by decide +kernel
theorem dX5_sortIn_7 : decode cX5_sortIn 7 = .ok (.getfield 15, 3) := by decide +kernel
set_option maxHeartbeats 4000000 in
set_option maxRecDepth 100000 in
theorem c_LI_sortIn (l : Launch) (D : va_G) (κ : ClassId × ClassId × ClassId) (a : Nat → Nat) (sz : Nat) (u : TS) (x : Nat) (q1 : x < 40) (q2 : ∀ i, i < x → LI_byDay u i < 40) (q3 : ∀ i, LI_day u i < 600) : TM l yX5_sortIn cX5_sortIn 3 none 0 0 D κ a u sz [.ref (a 7), .int (nI x)] (QV D κ a sz (fun u' => u' = fSort x x u)) := by
  refine TM.of (by decide +kernel) (Nat.le_of_ble_eq_true rfl) ?_
  intro p e s m below meth c ls hC hr hk hsz H locs hG hl
  have hx := hC.1
  have hb := hC.2.1
  have hl : lv_has ls 3 [(0, .ref (a 7)), (1, .int (nI x))] := hl
  refine lv_iload_n hx hb dX5_sortIn_0 rfl (lv_at hl 1 rfl) ?_
  refine lv_istore_n (lv' := [(2, .int (nI x)), (0, .ref (a 7)), (1, .int (nI x))]) hx hb dX5_sortIn_1 rfl hl (by decide) rfl (fun ls hl => ?_)
  have lp2 : ∀ (n : Nat) (pl : Nat) (v : TS), pl < n → (pl ≤ x) → (fSort x pl v = fSort x x u) → (∀ i, i < x → LI_byDay v i < 40) → (∀ i, LI_day v i < 600) → ∀ (H : Heap) (locs : List Loc), GW D κ a v (AA a sz) s H locs → ∀ ls : Array Slot, lv_has ls 3 [(2, .int (nI pl)), (0, .ref (a 7)), (1, .int (nI x))] → W p l e { frames := 0, cells := 0, slots := 0, locals := 0 } s m [.ref (a 7), .int (nI x)].toArray below meth c H locs 0 0 (MQ below (QV D κ a sz (fun u' => u' = fSort x x u)) [.ref (a 7), .int (nI x)].toArray s 0 0 (AA a sz)) (F0 m 2 ls []) := by
    intro n
    induction n with
    | zero =>
      intro pl v hm
      exact absurd hm (Nat.not_lt_zero _)
    | succ n ih2 =>
      intro pl v hm2 c2_1 c2_2 c2_3 c2_4 H locs hG ls hl
      refine lv_iload_n hx hb dX5_sortIn_2 rfl (lv_at hl 0 rfl) ?_
      refine bz_le (tgt := 48) hx hb (by omega) dX5_sortIn_3 (by decide) (fun h3 => ?_) (fun h3 => ?_)
      · refine lv_aload_n hx hb dX5_sortIn_48 rfl (lv_at hl 1 rfl) ?_
        refine gf_LI_byDay hC hG (hC.2.2.2.2 _ w100) dX5_sortIn_49 ?_
        refine lv_iload_n hx hb dX5_sortIn_52 rfl (lv_at hl 0 rfl) ?_
        refine lv_iload_n hx hb dX5_sortIn_53 rfl (lv_at hl 2 rfl) ?_
        refine as_LI_byDay hC hG (by omega) dX5_sortIn_54 (fun H locs hG => ?_)
        exact te_v hC hG hr hk (by rw [← c2_2]; subst h3; rfl) dX5_sortIn_55
      · refine lv_aload_n hx hb dX5_sortIn_6 rfl (lv_at hl 1 rfl) ?_
        have k1 := c2_3 (pl - 1) (by omega)
        refine gf_LI_day hC hG (hC.2.2.2.2 _ w98) dX5_sortIn_7 ?_
        refine lv_aload_n hx hb dX5_sortIn_10 rfl (lv_at hl 1 rfl) ?_
        refine gf_LI_byDay hC hG (hC.2.2.2.2 _ w100) dX5_sortIn_11 ?_
        refine lv_iload_n hx hb dX5_sortIn_14 rfl (lv_at hl 0 rfl) ?_
        refine lv_iconst (v := nI 1) hx hb dX5_sortIn_15 (by decide) ?_
        refine ar_isub hx hb (by omega) dX5_sortIn_16 ?_
        refine al_LI_byDay hC hG (by omega) dX5_sortIn_17 ?_
        refine al_LI_day hC hG (by omega) dX5_sortIn_18 ?_
        refine lv_aload_n hx hb dX5_sortIn_19 rfl (lv_at hl 1 rfl) ?_
        refine gf_LI_day hC hG (hC.2.2.2.2 _ w98) dX5_sortIn_20 ?_
        refine lv_iload_n hx hb dX5_sortIn_23 rfl (lv_at hl 2 rfl) ?_
        refine al_LI_day hC hG (by omega) dX5_sortIn_24 ?_
        have k2 := c2_4 x
        have k3 := c2_4 (LI_byDay v (pl - 1))
        refine bn_le (tgt := 48) hx hb (by omega) (by omega) dX5_sortIn_25 (by decide) (fun h25 => ?_) (fun h25 => ?_)
        · refine lv_aload_n hx hb dX5_sortIn_48 rfl (lv_at hl 1 rfl) ?_
          refine gf_LI_byDay hC hG (hC.2.2.2.2 _ w100) dX5_sortIn_49 ?_
          refine lv_iload_n hx hb dX5_sortIn_52 rfl (lv_at hl 0 rfl) ?_
          refine lv_iload_n hx hb dX5_sortIn_53 rfl (lv_at hl 2 rfl) ?_
          refine as_LI_byDay hC hG (by omega) dX5_sortIn_54 (fun H locs hG => ?_)
          exact te_v hC hG hr hk (by rw [← c2_2]; obtain ⟨p1, rfl⟩ : ∃ p1, pl = p1 + 1 := ⟨pl - 1, by omega⟩; rw [fSort, if_neg (by simpa using h25)]) dX5_sortIn_55
        · refine lv_aload_n hx hb dX5_sortIn_28 rfl (lv_at hl 1 rfl) ?_
          refine gf_LI_byDay hC hG (hC.2.2.2.2 _ w100) dX5_sortIn_29 ?_
          refine lv_iload_n hx hb dX5_sortIn_32 rfl (lv_at hl 0 rfl) ?_
          refine lv_aload_n hx hb dX5_sortIn_33 rfl (lv_at hl 1 rfl) ?_
          refine gf_LI_byDay hC hG (hC.2.2.2.2 _ w100) dX5_sortIn_34 ?_
          refine lv_iload_n hx hb dX5_sortIn_37 rfl (lv_at hl 0 rfl) ?_
          refine lv_iconst (v := nI 1) hx hb dX5_sortIn_38 (by decide) ?_
          refine ar_isub hx hb (by omega) dX5_sortIn_39 ?_
          refine al_LI_byDay hC hG (by omega) dX5_sortIn_40 ?_
          refine as_LI_byDay hC hG (by omega) dX5_sortIn_41 (fun H locs hG => ?_)
          refine lv_iinc (v := (nI (pl - 1))) (lv' := [(2, .int (nI (pl - 1))), (0, .ref (a 7)), (1, .int (nI x))]) hx hb dX5_sortIn_42 hl (k := 0) rfl (nI_m1 (by omega)) (by decide) rfl (fun ls hl => ?_)
          refine lv_goto (tgt := 2) hx hb dX5_sortIn_45 (by decide) ?_
          exact ih2  (pl - 1) (sAN v 14 pl (LI_byDay v (pl - 1))) (by omega) (by omega) (by rw [← c2_2]; obtain ⟨p1, rfl⟩ : ∃ p1, pl = p1 + 1 := ⟨pl - 1, by omega⟩; rw [fSort, if_pos (by simpa using h25)]; rfl) (by intro i hi; show va_up (LI_byDay v) pl (LI_byDay v (pl - 1)) i < 40; unfold va_up; split; exact c2_3 _ (by omega); exact c2_3 i hi) (c2_4) H locs hG ls (lv_sub hl [0, 1, 2] rfl)
  exact lp2 _ x u (Nat.lt_succ_self _) (Nat.le_refl _) (rfl) (q2) (q3) H locs hG ls (lv_sub hl [0, 1, 2] rfl)
theorem k_LI_sortIn {p : Program} {l : Launch} {e : Env} {R : Room} {s : State} {m : MethodId} {args : Array Value} {below : List Frame} {meth : Method} {c : Code} {H : Heap} {locs : List Loc} {cs ss : Nat} {Q : State → Prop} {cc : ByteArray} {nL pc : Nat} {ls : Array Slot} {rest : List Value} {own : String} {idx : Nat} {D : va_G} {κ : ClassId × ClassId × ClassId} {a : Nat → Nat} {u : TS} {A : Nat → Prop} (hC : CallFix p m c cc nL s args WALL own) (hG : GW D κ a u A s H locs) (x : Nat) (q1 : x < 40) (q2 : ∀ i, i < x → LI_byDay u i < 40) (q3 : ∀ i, LI_day u i < 600) (wl : Cond.methodLink own idx yX5_sortIn ∈ WALL) (hR : 0 + 1 ≤ R.frames ∧ 8 + (3 + 11) + 0 ≤ R.locals) (hls : ls.size = nL) (h8 : (rest.map fun v => v.category).sum ≤ 8) (hd : decode cc pc = .ok (.invokevirtual idx, 3)) (hcs : cs ≤ R.cells ∧ ss ≤ R.slots) (kk : ∀ (H1 : Heap) (locs1 : List Loc), GW D κ a (fSort x x u) A s H1 locs1 → W p l e R s m args below meth c H1 locs1 cs ss Q (F0 m (pc + 3) ls (rest))) : W p l e R s m args below meth c H locs cs ss Q (F0 m pc ls (.int (nI x) :: .ref (a 7) :: rest)) :=
  tc_v hG (tr_V (n := 1) (k := 7) (ci := 5) (As := [.int (nI x)]) hC hG (c_LI_sortIn l D κ a H.size u x q1 q2 q3) rfl rfl wl w31 w308 w306 w307 (by decide +kernel) hR rfl hls rfl h8 hd hcs) (fun u' H1 locs1 hq hG1 => by subst hq; exact kk H1 locs1 hG1)

theorem dX5_add_0 : decode cX5_add 0 = .ok (.aload_n 0, 1) := by decide +kernel
theorem dX5_add_1 : decode cX5_add 1 = .ok (.getfield 24, 3) := by decide +kernel
theorem dX5_add_11 : decode cX5_add 11 = .ok (.aload_n 0, 1) := by decide +kernel
theorem dX5_add_12 : decode cX5_add 12 = .ok (.getfield 9, 3) := by decide +kernel
theorem dX5_add_15 : decode cX5_add 15 = .ok (.aload_n 0, 1) := by decide +kernel
theorem dX5_add_16 : decode cX5_add 16 = .ok (.getfield 24, 3) := by decide +kernel
theorem dX5_add_19 : decode cX5_add 19 = .ok (.iload_n 1, 1) := by decide +kernel
theorem dX5_add_20 : decode cX5_add 20 = .ok (.iastore, 1) := by decide +kernel
theorem dX5_add_21 : decode cX5_add 21 = .ok (.aload_n 0, 1) := by decide +kernel
theorem dX5_add_22 : decode cX5_add 22 = .ok (.getfield 15, 3) := by decide +kernel
theorem dX5_add_25 : decode cX5_add 25 = .ok (.aload_n 0, 1) := by decide +kernel
theorem dX5_add_26 : decode cX5_add 26 = .ok (.getfield 24, 3) := by decide +kernel
theorem dX5_add_29 : decode cX5_add 29 = .ok (.iload_n 2, 1) := by decide +kernel
theorem dX5_add_30 : decode cX5_add 30 = .ok (.iastore, 1) := by decide +kernel
theorem dX5_add_31 : decode cX5_add 31 = .ok (.aload_n 0, 1) := by decide +kernel
theorem dX5_add_32 : decode cX5_add 32 = .ok (.getfield 18, 3) := by decide +kernel
theorem dX5_add_35 : decode cX5_add 35 = .ok (.aload_n 0, 1) := by decide +kernel
theorem dX5_add_36 : decode cX5_add 36 = .ok (.getfield 24, 3) := by decide +kernel
theorem dX5_add_39 : decode cX5_add 39 = .ok (.iload_n 3, 1) := by decide +kernel
theorem dX5_add_4 : decode cX5_add 4 = .ok (.bipush 40, 2) := by decide +kernel
theorem dX5_add_40 : decode cX5_add 40 = .ok (.iastore, 1) := by decide +kernel
theorem dX5_add_41 : decode cX5_add 41 = .ok (.aload_n 0, 1) := by decide +kernel
theorem dX5_add_42 : decode cX5_add 42 = .ok (.aload_n 0, 1) := by decide +kernel
theorem dX5_add_43 : decode cX5_add 43 = .ok (.getfield 24, 3) := by decide +kernel
theorem dX5_add_46 : decode cX5_add 46 = .ok (.invokevirtual 28, 3) := by decide +kernel
theorem dX5_add_49 : decode cX5_add 49 = .ok (.aload_n 0, 1) := by decide +kernel
theorem dX5_add_50 : decode cX5_add 50 = .ok (.dup, 1) := by decide +kernel
theorem dX5_add_51 : decode cX5_add 51 = .ok (.getfield 24, 3) := by decide +kernel
theorem dX5_add_54 : decode cX5_add 54 = .ok (.dup_x1, 1) := by decide +kernel
theorem dX5_add_55 : decode cX5_add 55 = .ok (.iconst 1, 1) := by decide +kernel
theorem dX5_add_56 : decode cX5_add 56 = .ok (.iadd, 1) := by decide +kernel
theorem dX5_add_57 : decode cX5_add 57 = .ok (.putfield 24, 3) := by decide +kernel
theorem dX5_add_6 : decode cX5_add 6 = .ok (.if_icmp .lt 5, 3) := by decide +kernel
theorem dX5_add_60 : decode cX5_add 60 = .ok (.ireturn, 1) := by decide +kernel
set_option maxHeartbeats 4000000 in
set_option maxRecDepth 100000 in
theorem c_LI_add (l : Launch) (D : va_G) (κ : ClassId × ClassId × ClassId) (a : Nat → Nat) (sz : Nat) (u : TS) (ac : Nat) (d : Nat) (am : Int32) (q1 : LI_count u < 40) (q2 : ∀ i, i < LI_count u → LI_byDay u i < 40) (q3 : ∀ i, LI_day u i < 600) (q4 : d < 600) : TM l yX5_add cX5_add 4 (some .int) 1 22 D κ a u sz [.ref (a 7), .int (nI ac), .int (nI d), .int am] (QI D κ a sz (fun r u' => r = (nI (LI_count u)) ∧ u' = fLine u ac d am)) := by
  refine TM.of (by decide +kernel) (Nat.le_of_ble_eq_true rfl) ?_
  intro p e s m below meth c ls hC hr hk hsz H locs hG hl
  have hx := hC.1
  have hb := hC.2.1
  have hl : lv_has ls 4 [(0, .ref (a 7)), (1, .int (nI ac)), (2, .int (nI d)), (3, .int am)] := hl
  refine lv_aload_n hx hb dX5_add_0 rfl (lv_at hl 0 rfl) ?_
  refine gf_LI_count hC hG (hC.2.2.2.2 _ w101) dX5_add_1 ?_
  refine lv_bipush (v := nI 40) hx hb dX5_add_4 (by decide) ?_
  refine bn_lt_t (tgt := 11) hx hb (by omega) (by omega) dX5_add_6 (by decide) (by omega) ?_
  refine lv_aload_n hx hb dX5_add_11 rfl (lv_at hl 0 rfl) ?_
  refine gf_LI_account hC hG (hC.2.2.2.2 _ w97) dX5_add_12 ?_
  refine lv_aload_n hx hb dX5_add_15 rfl (lv_at hl 0 rfl) ?_
  refine gf_LI_count hC hG (hC.2.2.2.2 _ w101) dX5_add_16 ?_
  refine lv_iload_n hx hb dX5_add_19 rfl (lv_at hl 1 rfl) ?_
  refine as_LI_account hC hG (by omega) dX5_add_20 (fun H locs hG => ?_)
  refine lv_aload_n hx hb dX5_add_21 rfl (lv_at hl 0 rfl) ?_
  refine gf_LI_day hC hG (hC.2.2.2.2 _ w98) dX5_add_22 ?_
  refine lv_aload_n hx hb dX5_add_25 rfl (lv_at hl 0 rfl) ?_
  refine gf_LI_count hC hG (hC.2.2.2.2 _ w101) dX5_add_26 ?_
  refine W.eq (g2 := F0 m 29 ls [.int (nI (LI_count u)), .ref (a 36)]) rfl ?_
  refine lv_iload_n hx hb dX5_add_29 rfl (lv_at hl 2 rfl) ?_
  refine as_LI_day hC hG (by omega) dX5_add_30 (fun H locs hG => ?_)
  refine lv_aload_n hx hb dX5_add_31 rfl (lv_at hl 0 rfl) ?_
  refine gf_LI_amount hC hG (hC.2.2.2.2 _ w99) dX5_add_32 ?_
  refine lv_aload_n hx hb dX5_add_35 rfl (lv_at hl 0 rfl) ?_
  refine gf_LI_count hC hG (hC.2.2.2.2 _ w101) dX5_add_36 ?_
  refine W.eq (g2 := F0 m 39 ls [.int (nI (LI_count u)), .ref (a 37)]) rfl ?_
  refine lv_iload_n hx hb dX5_add_39 rfl (lv_at hl 3 rfl) ?_
  refine as_LI_amount hC hG (by omega) dX5_add_40 (fun H locs hG => ?_)
  refine lv_aload_n hx hb dX5_add_41 rfl (lv_at hl 0 rfl) ?_
  refine lv_aload_n hx hb dX5_add_42 rfl (lv_at hl 0 rfl) ?_
  refine gf_LI_count hC hG (hC.2.2.2.2 _ w101) dX5_add_43 ?_
  refine W.eq (g2 := F0 m 46 ls [.int (nI (LI_count u)), .ref (a 7)]) rfl ?_
  refine k_LI_sortIn hC hG (LI_count u) (q1) (q2) (by intro i; show va_up (LI_day u) (LI_count u) d i < 600; unfold va_up; split; exact q4; exact q3 i) w305 ⟨by decide, by decide⟩ hl.1 (by decide) dX5_add_46 ⟨Nat.zero_le _, Nat.zero_le _⟩ (fun H locs hG => ?_)
  have f1 : LI_count (fSort (LI_count u) (LI_count u) (sAI (sAN (sAN u 12 (LI_count u) ac) 13 (LI_count u) d) 3 (LI_count u) am)) = LI_count u := fSort_cnt _ _ _
  refine lv_aload_n hx hb dX5_add_49 rfl (lv_at hl 0 rfl) ?_
  refine lv_dup hx hb dX5_add_50 rfl ?_
  refine gf_LI_count hC hG (hC.2.2.2.2 _ w101) dX5_add_51 ?_
  refine lv_dup_x1 hx hb dX5_add_54 rfl rfl ?_
  refine lv_iconst (v := nI 1) hx hb dX5_add_55 (by decide) ?_
  refine ar_iadd hx hb dX5_add_56 ?_
  refine pf_LI_count hC hG (hC.2.2.2.2 _ w101) dX5_add_57 (fun H locs hG => ?_)
  exact te_i (v := (nI (LI_count (fSort (LI_count u) (LI_count u) (sAI (sAN (sAN u 12 (LI_count u) ac) 13 (LI_count u) d) 3 (LI_count u) am))))) hC hG hr hk ⟨(congrArg nI (show (LI_count (fSort (LI_count u) (LI_count u) (sAI (sAN (sAN u 12 (LI_count u) ac) 13 (LI_count u) d) 3 (LI_count u) am))) = LI_count u from by exact f1)), (by rw [f1]; rfl)⟩ dX5_add_60
theorem k_LI_add {p : Program} {l : Launch} {e : Env} {R : Room} {s : State} {m : MethodId} {args : Array Value} {below : List Frame} {meth : Method} {c : Code} {H : Heap} {locs : List Loc} {cs ss : Nat} {Q : State → Prop} {cc : ByteArray} {nL pc : Nat} {ls : Array Slot} {rest : List Value} {own : String} {idx : Nat} {D : va_G} {κ : ClassId × ClassId × ClassId} {a : Nat → Nat} {u : TS} {A : Nat → Prop} (hC : CallFix p m c cc nL s args WALL own) (hG : GW D κ a u A s H locs) (ac : Nat) (d : Nat) (am : Int32) (q1 : LI_count u < 40) (q2 : ∀ i, i < LI_count u → LI_byDay u i < 40) (q3 : ∀ i, LI_day u i < 600) (q4 : d < 600) (wl : Cond.methodLink own idx yX5_add ∈ WALL) (hR : 1 + 1 ≤ R.frames ∧ 8 + (4 + 11) + 22 ≤ R.locals) (hls : ls.size = nL) (h8 : (rest.map fun v => v.category).sum ≤ 8) (hd : decode cc pc = .ok (.invokevirtual idx, 3)) (hcs : cs ≤ R.cells ∧ ss ≤ R.slots) (kk : ∀ (H1 : Heap) (locs1 : List Loc), GW D κ a (fLine u ac d am) A s H1 locs1 → W p l e R s m args below meth c H1 locs1 cs ss Q (F0 m (pc + 3) ls (.int (nI (LI_count u)) :: rest))) : W p l e R s m args below meth c H locs cs ss Q (F0 m pc ls (.int am :: .int (nI d) :: .int (nI ac) :: .ref (a 7) :: rest)) :=
  tc_i hG (tr_V (n := 3) (k := 7) (ci := 5) (As := [.int (nI ac), .int (nI d), .int am]) hC hG (c_LI_add l D κ a H.size u ac d am q1 q2 q3 q4) rfl rfl wl w31 w304 w302 w303 (by decide +kernel) hR rfl hls rfl h8 hd hcs) (fun r u' H1 locs1 hq hG1 => by obtain ⟨rfl, rfl⟩ := hq; exact kk H1 locs1 hG1)

theorem dX5_countOf_0 : decode cX5_countOf 0 = .ok (.iconst 0, 1) := by decide +kernel
theorem dX5_countOf_1 : decode cX5_countOf 1 = .ok (.istore_n 2, 1) := by decide +kernel
theorem dX5_countOf_12 : decode cX5_countOf 12 = .ok (.aload_n 0, 1) := by decide +kernel
theorem dX5_countOf_13 : decode cX5_countOf 13 = .ok (.getfield 9, 3) := by decide +kernel
theorem dX5_countOf_16 : decode cX5_countOf 16 = .ok (.iload_n 3, 1) := by decide +kernel
theorem dX5_countOf_17 : decode cX5_countOf 17 = .ok (.iaload, 1) := by decide +kernel
theorem dX5_countOf_18 : decode cX5_countOf 18 = .ok (.iload_n 1, 1) := by decide +kernel
theorem dX5_countOf_19 : decode cX5_countOf 19 = .ok (.if_icmp .ne 6, 3) := by decide +kernel
theorem dX5_countOf_2 : decode cX5_countOf 2 = .ok (.iconst 0, 1) := by decide +kernel
theorem dX5_countOf_22 : decode cX5_countOf 22 = .ok (.iinc 2 1, 3) := by decide +kernel
theorem dX5_countOf_25 : decode cX5_countOf 25 = .ok (.iinc 3 1, 3) := by decide +kernel
theorem dX5_countOf_28 : decode cX5_countOf 28 = .ok (.goto (-24), 3) := by decide +kernel
theorem dX5_countOf_3 : decode cX5_countOf 3 = .ok (.istore_n 3, 1) := by decide +kernel
theorem dX5_countOf_31 : decode cX5_countOf 31 = .ok (.iload_n 2, 1) := by decide +kernel
theorem dX5_countOf_32 : decode cX5_countOf 32 = .ok (.ireturn, 1) := by decide +kernel
theorem dX5_countOf_4 : decode cX5_countOf 4 = .ok (.iload_n 3, 1) := by decide +kernel
theorem dX5_countOf_5 : decode cX5_countOf 5 = .ok (.aload_n 0, 1) := by decide +kernel
theorem dX5_countOf_6 : decode cX5_countOf 6 = .ok (.getfield 24, 3) := by decide +kernel
theorem dX5_countOf_9 : decode cX5_countOf 9 = .ok (.if_icmp .ge 22, 3) := by decide +kernel
set_option maxHeartbeats 4000000 in
set_option maxRecDepth 100000 in
theorem c_LI_countOf (l : Launch) (D : va_G) (κ : ClassId × ClassId × ClassId) (a : Nat → Nat) (sz : Nat) (u : TS) (w : Nat) (q1 : OK u) (q2 : w < 600) : TM l yX5_countOf cX5_countOf 4 (some .int) 0 0 D κ a u sz [.ref (a 7), .int (nI w)] (QI D κ a sz (fun r u' => r = (nI (fLCnt u w (LI_count u))) ∧ u' = u)) := by
  refine TM.of (by decide +kernel) (Nat.le_of_ble_eq_true rfl) ?_
  intro p e s m below meth c ls hC hr hk hsz H locs hG hl
  have hx := hC.1
  have hb := hC.2.1
  have hl : lv_has ls 4 [(0, .ref (a 7)), (1, .int (nI w))] := hl
  have qok := q1
  have ⟨n1, n2, n3, n4, n5, n6, n7, n8, n9, n10⟩ := qok.n
  refine lv_iconst (v := nI 0) hx hb dX5_countOf_0 (by decide) ?_
  refine lv_istore_n (lv' := [(2, .int (nI 0)), (0, .ref (a 7)), (1, .int (nI w))]) hx hb dX5_countOf_1 rfl hl (by decide) rfl (fun ls hl => ?_)
  refine lv_iconst (v := nI 0) hx hb dX5_countOf_2 (by decide) ?_
  refine lv_istore_n (lv' := [(3, .int (nI 0)), (2, .int (nI 0)), (0, .ref (a 7)), (1, .int (nI w))]) hx hb dX5_countOf_3 rfl hl (by decide) rfl (fun ls hl => ?_)
  have lp4 : ∀ (n : Nat) (i : Nat), LI_count u - i < n → (i ≤ LI_count u) → ∀ (H : Heap) (locs : List Loc), GW D κ a u (AA a sz) s H locs → ∀ ls : Array Slot, lv_has ls 4 [(3, .int (nI i)), (2, .int (nI (fLCnt u w i))), (0, .ref (a 7)), (1, .int (nI w))] → W p l e { frames := 0, cells := 0, slots := 0, locals := 0 } s m [.ref (a 7), .int (nI w)].toArray below meth c H locs 0 0 (MQ below (QI D κ a sz (fun r u' => r = (nI (fLCnt u w (LI_count u))) ∧ u' = u)) [.ref (a 7), .int (nI w)].toArray s 0 0 (AA a sz)) (F0 m 4 ls []) := by
    intro n
    induction n with
    | zero =>
      intro i hm
      exact absurd hm (Nat.not_lt_zero _)
    | succ n ih4 =>
      intro i hm4 c4_1 H locs hG ls hl
      have f1 := fLCnt_le u w i
      refine lv_iload_n hx hb dX5_countOf_4 rfl (lv_at hl 0 rfl) ?_
      refine lv_aload_n hx hb dX5_countOf_5 rfl (lv_at hl 2 rfl) ?_
      refine gf_LI_count hC hG (hC.2.2.2.2 _ w101) dX5_countOf_6 ?_
      refine bn_ge (tgt := 31) hx hb (by omega) (by omega) dX5_countOf_9 (by decide) (fun h9 => ?_) (fun h9 => ?_)
      · refine lv_iload_n hx hb dX5_countOf_31 rfl (lv_at hl 1 rfl) ?_
        have hi : i = LI_count u := by omega
        exact te_i (v := (nI (fLCnt u w i))) hC hG hr hk ⟨(congrArg nI (show fLCnt u w i = fLCnt u w (LI_count u) from by rw [hi])), rfl⟩ dX5_countOf_32
      · have k1 := qok.line (x := i) (by omega)
        refine lv_aload_n hx hb dX5_countOf_12 rfl (lv_at hl 2 rfl) ?_
        refine gf_LI_account hC hG (hC.2.2.2.2 _ w97) dX5_countOf_13 ?_
        refine lv_iload_n hx hb dX5_countOf_16 rfl (lv_at hl 0 rfl) ?_
        refine al_LI_account hC hG (by omega) dX5_countOf_17 ?_
        refine lv_iload_n hx hb dX5_countOf_18 rfl (lv_at hl 3 rfl) ?_
        refine bn_ne (tgt := 25) hx hb (by omega) (by omega) dX5_countOf_19 (by decide) (fun h19 => ?_) (fun h19 => ?_)
        · refine lv_iinc (v := (nI (i + 1))) (lv' := [(3, .int (nI (i + 1))), (2, .int (nI (fLCnt u w i))), (0, .ref (a 7)), (1, .int (nI w))]) hx hb dX5_countOf_25 hl (k := 0) rfl (nI_1 _) (by decide) rfl (fun ls hl => ?_)
          refine lv_goto (tgt := 4) hx hb dX5_countOf_28 (by decide) ?_
          have e4_1 : fLCnt u w (i + 1) = fLCnt u w i := by simp [fLCnt, h9, h19]
          have hl : lv_has ls 4 [(3, .int (nI (i + 1))), (2, .int (nI (fLCnt u w (i + 1)))), (0, .ref (a 7)), (1, .int (nI w))] := by rw [e4_1]; exact hl
          exact ih4  (i + 1) (by omega) (by omega) H locs hG ls (lv_sub hl [0, 1, 2, 3] rfl)
        · refine lv_iinc (v := (nI (fLCnt u w i + 1))) (lv' := [(2, .int (nI (fLCnt u w i + 1))), (3, .int (nI i)), (0, .ref (a 7)), (1, .int (nI w))]) hx hb dX5_countOf_22 hl (k := 1) rfl (nI_1 _) (by decide) rfl (fun ls hl => ?_)
          refine lv_iinc (v := (nI (i + 1))) (lv' := [(3, .int (nI (i + 1))), (2, .int (nI (fLCnt u w i + 1))), (0, .ref (a 7)), (1, .int (nI w))]) hx hb dX5_countOf_25 hl (k := 1) rfl (nI_1 _) (by decide) rfl (fun ls hl => ?_)
          refine lv_goto (tgt := 4) hx hb dX5_countOf_28 (by decide) ?_
          have e4_2 : fLCnt u w (i + 1) = (fLCnt u w i + 1) := by simp [fLCnt, h9, h19]
          have hl : lv_has ls 4 [(3, .int (nI (i + 1))), (2, .int (nI (fLCnt u w (i + 1)))), (0, .ref (a 7)), (1, .int (nI w))] := by rw [e4_2]; exact hl
          exact ih4  (i + 1) (by omega) (by omega) H locs hG ls (lv_sub hl [0, 1, 2, 3] rfl)
  have e4_3 : fLCnt u w 0 = 0 := by rfl
  have hl : lv_has ls 4 [(3, .int (nI 0)), (2, .int (nI (fLCnt u w 0))), (0, .ref (a 7)), (1, .int (nI w))] := by rw [e4_3]; exact hl
  exact lp4 _ 0 (Nat.lt_succ_self _) (by omega) H locs hG ls (lv_sub hl [0, 1, 2, 3] rfl)
theorem k_LI_countOf {p : Program} {l : Launch} {e : Env} {R : Room} {s : State} {m : MethodId} {args : Array Value} {below : List Frame} {meth : Method} {c : Code} {H : Heap} {locs : List Loc} {cs ss : Nat} {Q : State → Prop} {cc : ByteArray} {nL pc : Nat} {ls : Array Slot} {rest : List Value} {own : String} {idx : Nat} {D : va_G} {κ : ClassId × ClassId × ClassId} {a : Nat → Nat} {u : TS} {A : Nat → Prop} (hC : CallFix p m c cc nL s args WALL own) (hG : GW D κ a u A s H locs) (w : Nat) (q1 : OK u) (q2 : w < 600) (wl : Cond.methodLink own idx yX5_countOf ∈ WALL) (hR : 0 + 1 ≤ R.frames ∧ 8 + (4 + 11) + 0 ≤ R.locals) (hls : ls.size = nL) (h8 : (rest.map fun v => v.category).sum ≤ 8) (hd : decode cc pc = .ok (.invokevirtual idx, 3)) (hcs : cs ≤ R.cells ∧ ss ≤ R.slots) (kk : ∀ (H1 : Heap) (locs1 : List Loc), GW D κ a u A s H1 locs1 → W p l e R s m args below meth c H1 locs1 cs ss Q (F0 m (pc + 3) ls (.int (nI (fLCnt u w (LI_count u))) :: rest))) : W p l e R s m args below meth c H locs cs ss Q (F0 m pc ls (.int (nI w) :: .ref (a 7) :: rest)) :=
  tc_i hG (tr_V (n := 1) (k := 7) (ci := 5) (As := [.int (nI w)]) hC hG (c_LI_countOf l D κ a H.size u w q1 q2) rfl rfl wl w31 w368 w366 w367 (by decide +kernel) hR rfl hls rfl h8 hd hcs) (fun r u' H1 locs1 hq hG1 => by obtain ⟨rfl, rfl⟩ := hq; exact kk H1 locs1 hG1)

theorem dX1_begin_0 : decode cX1_begin 0 = .ok (.aload_n 0, 1) := by decide +kernel
theorem dX1_begin_1 : decode cX1_begin 1 = .ok (.getfield 10, 3) := by decide +kernel
theorem dX1_begin_10 : decode cX1_begin 10 = .ok (.putfield 16, 3) := by decide +kernel
theorem dX1_begin_13 : decode cX1_begin 13 = .ok (.aload_n 0, 1) := by decide +kernel
theorem dX1_begin_14 : decode cX1_begin 14 = .ok (.iload_n 1, 1) := by decide +kernel
theorem dX1_begin_15 : decode cX1_begin 15 = .ok (.putfield 20, 3) := by decide +kernel
theorem dX1_begin_18 : decode cX1_begin 18 = .ok (.aload_n 0, 1) := by decide +kernel
theorem dX1_begin_19 : decode cX1_begin 19 = .ok (.iload_n 2, 1) := by decide +kernel
theorem dX1_begin_20 : decode cX1_begin 20 = .ok (.putfield 24, 3) := by decide +kernel
theorem dX1_begin_23 : decode cX1_begin 23 = .ok (.return_, 1) := by decide +kernel
theorem dX1_begin_4 : decode cX1_begin 4 = .ok (.iconst 0, 1) := by decide +kernel
theorem dX1_begin_5 : decode cX1_begin 5 = .ok (.putfield 27, 3) := by decide +kernel
theorem dX1_begin_8 : decode cX1_begin 8 = .ok (.aload_n 0, 1) := by decide +kernel
theorem dX1_begin_9 : decode cX1_begin 9 = .ok (.iconst 1, 1) := by decide +kernel
set_option maxHeartbeats 4000000 in
set_option maxRecDepth 100000 in
theorem c_DR_begin (l : Launch) (D : va_G) (κ : ClassId × ClassId × ClassId) (a : Nat → Nat) (sz : Nat) (u : TS) (d : Nat) (nt : Nat)  : TM l yX1_begin cX1_begin 3 none 0 0 D κ a u sz [.ref (a 2), .int (nI d), .int (nI nt)] (QV D κ a sz (fun u' => u' = fBegin u d nt)) := by
  refine TM.of (by decide +kernel) (Nat.le_of_ble_eq_true rfl) ?_
  intro p e s m below meth c ls hC hr hk hsz H locs hG hl
  have hx := hC.1
  have hb := hC.2.1
  have hl : lv_has ls 3 [(0, .ref (a 2)), (1, .int (nI d)), (2, .int (nI nt))] := hl
  refine lv_aload_n hx hb dX1_begin_0 rfl (lv_at hl 0 rfl) ?_
  refine gf_DR_legs hC hG (hC.2.2.2.2 _ w59) dX1_begin_1 ?_
  refine lv_iconst (v := nI 0) hx hb dX1_begin_4 (by decide) ?_
  refine pf_L0_count hC hG (hC.2.2.2.2 _ w404) dX1_begin_5 (fun H locs hG => ?_)
  refine lv_aload_n hx hb dX1_begin_8 rfl (lv_at hl 0 rfl) ?_
  refine lv_iconst (v := nI 1) hx hb dX1_begin_9 (by decide) ?_
  refine W.eq (g2 := F0 m 10 ls [.int (bI true), .ref (a 2)]) rfl ?_
  refine pf_DR_isThere hC hG (hC.2.2.2.2 _ w60) dX1_begin_10 (fun H locs hG => ?_)
  refine lv_aload_n hx hb dX1_begin_13 rfl (lv_at hl 0 rfl) ?_
  refine lv_iload_n hx hb dX1_begin_14 rfl (lv_at hl 1 rfl) ?_
  refine pf_DR_day hC hG (hC.2.2.2.2 _ w61) dX1_begin_15 (fun H locs hG => ?_)
  refine lv_aload_n hx hb dX1_begin_18 rfl (lv_at hl 0 rfl) ?_
  refine lv_iload_n hx hb dX1_begin_19 rfl (lv_at hl 2 rfl) ?_
  refine pf_DR_note hC hG (hC.2.2.2.2 _ w62) dX1_begin_20 (fun H locs hG => ?_)
  exact te_v hC hG hr hk (by rfl) dX1_begin_23
theorem k_DR_begin {p : Program} {l : Launch} {e : Env} {R : Room} {s : State} {m : MethodId} {args : Array Value} {below : List Frame} {meth : Method} {c : Code} {H : Heap} {locs : List Loc} {cs ss : Nat} {Q : State → Prop} {cc : ByteArray} {nL pc : Nat} {ls : Array Slot} {rest : List Value} {own : String} {idx : Nat} {D : va_G} {κ : ClassId × ClassId × ClassId} {a : Nat → Nat} {u : TS} {A : Nat → Prop} (hC : CallFix p m c cc nL s args WALL own) (hG : GW D κ a u A s H locs) (d : Nat) (nt : Nat)  (wl : Cond.methodLink own idx yX1_begin ∈ WALL) (hR : 0 + 1 ≤ R.frames ∧ 8 + (3 + 11) + 0 ≤ R.locals) (hls : ls.size = nL) (h8 : (rest.map fun v => v.category).sum ≤ 8) (hd : decode cc pc = .ok (.invokevirtual idx, 3)) (hcs : cs ≤ R.cells ∧ ss ≤ R.slots) (kk : ∀ (H1 : Heap) (locs1 : List Loc), GW D κ a (fBegin u d nt) A s H1 locs1 → W p l e R s m args below meth c H1 locs1 cs ss Q (F0 m (pc + 3) ls (rest))) : W p l e R s m args below meth c H locs cs ss Q (F0 m pc ls (.int (nI nt) :: .int (nI d) :: .ref (a 2) :: rest)) :=
  tc_v hG (tr_V (n := 2) (k := 2) (ci := 1) (As := [.int (nI d), .int (nI nt)]) hC hG (c_DR_begin l D κ a H.size u d nt ) rfl rfl wl w19 w403 w401 w402 (by decide +kernel) hR rfl hls rfl h8 hd hcs) (fun u' H1 locs1 hq hG1 => by subst hq; exact kk H1 locs1 hG1)

theorem dX1_forget_0 : decode cX1_forget 0 = .ok (.aload_n 0, 1) := by decide +kernel
theorem dX1_forget_1 : decode cX1_forget 1 = .ok (.getfield 10, 3) := by decide +kernel
theorem dX1_forget_10 : decode cX1_forget 10 = .ok (.putfield 16, 3) := by decide +kernel
theorem dX1_forget_13 : decode cX1_forget 13 = .ok (.return_, 1) := by decide +kernel
theorem dX1_forget_4 : decode cX1_forget 4 = .ok (.iconst 0, 1) := by decide +kernel
theorem dX1_forget_5 : decode cX1_forget 5 = .ok (.putfield 27, 3) := by decide +kernel
theorem dX1_forget_8 : decode cX1_forget 8 = .ok (.aload_n 0, 1) := by decide +kernel
theorem dX1_forget_9 : decode cX1_forget 9 = .ok (.iconst 0, 1) := by decide +kernel
set_option maxHeartbeats 4000000 in
set_option maxRecDepth 100000 in
theorem c_DR_forget (l : Launch) (D : va_G) (κ : ClassId × ClassId × ClassId) (a : Nat → Nat) (sz : Nat) (u : TS)   : TM l yX1_forget cX1_forget 1 none 0 0 D κ a u sz [.ref (a 2)] (QV D κ a sz (fun u' => u' = fForget u)) := by
  refine TM.of (by decide +kernel) (Nat.le_of_ble_eq_true rfl) ?_
  intro p e s m below meth c ls hC hr hk hsz H locs hG hl
  have hx := hC.1
  have hb := hC.2.1
  have hl : lv_has ls 1 [(0, .ref (a 2))] := hl
  refine lv_aload_n hx hb dX1_forget_0 rfl (lv_at hl 0 rfl) ?_
  refine gf_DR_legs hC hG (hC.2.2.2.2 _ w59) dX1_forget_1 ?_
  refine lv_iconst (v := nI 0) hx hb dX1_forget_4 (by decide) ?_
  refine pf_L0_count hC hG (hC.2.2.2.2 _ w404) dX1_forget_5 (fun H locs hG => ?_)
  refine lv_aload_n hx hb dX1_forget_8 rfl (lv_at hl 0 rfl) ?_
  refine lv_iconst (v := nI 0) hx hb dX1_forget_9 (by decide) ?_
  refine W.eq (g2 := F0 m 10 ls [.int (bI false), .ref (a 2)]) rfl ?_
  refine pf_DR_isThere hC hG (hC.2.2.2.2 _ w60) dX1_forget_10 (fun H locs hG => ?_)
  exact te_v hC hG hr hk (by rfl) dX1_forget_13
theorem k_DR_forget {p : Program} {l : Launch} {e : Env} {R : Room} {s : State} {m : MethodId} {args : Array Value} {below : List Frame} {meth : Method} {c : Code} {H : Heap} {locs : List Loc} {cs ss : Nat} {Q : State → Prop} {cc : ByteArray} {nL pc : Nat} {ls : Array Slot} {rest : List Value} {own : String} {idx : Nat} {D : va_G} {κ : ClassId × ClassId × ClassId} {a : Nat → Nat} {u : TS} {A : Nat → Prop} (hC : CallFix p m c cc nL s args WALL own) (hG : GW D κ a u A s H locs)   (wl : Cond.methodLink own idx yX1_forget ∈ WALL) (hR : 0 + 1 ≤ R.frames ∧ 8 + (1 + 11) + 0 ≤ R.locals) (hls : ls.size = nL) (h8 : (rest.map fun v => v.category).sum ≤ 8) (hd : decode cc pc = .ok (.invokevirtual idx, 3)) (hcs : cs ≤ R.cells ∧ ss ≤ R.slots) (kk : ∀ (H1 : Heap) (locs1 : List Loc), GW D κ a (fForget u) A s H1 locs1 → W p l e R s m args below meth c H1 locs1 cs ss Q (F0 m (pc + 3) ls (rest))) : W p l e R s m args below meth c H locs cs ss Q (F0 m pc ls (.ref (a 2) :: rest)) :=
  tc_v hG (tr_V (n := 0) (k := 2) (ci := 1) (As := []) hC hG (c_DR_forget l D κ a H.size u  ) rfl rfl wl w19 w461 w459 w460 (by decide +kernel) hR rfl hls rfl h8 hd hcs) (fun u' H1 locs1 hq hG1 => by subst hq; exact kk H1 locs1 hG1)

theorem dX3_addLeg_0 : decode cX3_addLeg 0 = .ok (.aload_n 0, 1) := by decide +kernel
theorem dX3_addLeg_1 : decode cX3_addLeg 1 = .ok (.getfield 48, 3) := by decide +kernel
theorem dX3_addLeg_11 : decode cX3_addLeg 11 = .ok (.aload_n 0, 1) := by decide +kernel
theorem dX3_addLeg_12 : decode cX3_addLeg 12 = .ok (.getfield 35, 3) := by decide +kernel
theorem dX3_addLeg_15 : decode cX3_addLeg 15 = .ok (.aload_n 0, 1) := by decide +kernel
theorem dX3_addLeg_16 : decode cX3_addLeg 16 = .ok (.getfield 48, 3) := by decide +kernel
theorem dX3_addLeg_19 : decode cX3_addLeg 19 = .ok (.iload_n 1, 1) := by decide +kernel
theorem dX3_addLeg_20 : decode cX3_addLeg 20 = .ok (.iastore, 1) := by decide +kernel
theorem dX3_addLeg_21 : decode cX3_addLeg 21 = .ok (.aload_n 0, 1) := by decide +kernel
theorem dX3_addLeg_22 : decode cX3_addLeg 22 = .ok (.getfield 38, 3) := by decide +kernel
theorem dX3_addLeg_25 : decode cX3_addLeg 25 = .ok (.aload_n 0, 1) := by decide +kernel
theorem dX3_addLeg_26 : decode cX3_addLeg 26 = .ok (.getfield 48, 3) := by decide +kernel
theorem dX3_addLeg_29 : decode cX3_addLeg 29 = .ok (.iload_n 2, 1) := by decide +kernel
theorem dX3_addLeg_30 : decode cX3_addLeg 30 = .ok (.iastore, 1) := by decide +kernel
theorem dX3_addLeg_31 : decode cX3_addLeg 31 = .ok (.aload_n 0, 1) := by decide +kernel
theorem dX3_addLeg_32 : decode cX3_addLeg 32 = .ok (.getfield 41, 3) := by decide +kernel
theorem dX3_addLeg_35 : decode cX3_addLeg 35 = .ok (.aload_n 0, 1) := by decide +kernel
theorem dX3_addLeg_36 : decode cX3_addLeg 36 = .ok (.getfield 48, 3) := by decide +kernel
theorem dX3_addLeg_39 : decode cX3_addLeg 39 = .ok (.lload_n 3, 1) := by decide +kernel
theorem dX3_addLeg_4 : decode cX3_addLeg 4 = .ok (.sipush 600, 3) := by decide +kernel
theorem dX3_addLeg_40 : decode cX3_addLeg 40 = .ok (.lastore, 1) := by decide +kernel
theorem dX3_addLeg_41 : decode cX3_addLeg 41 = .ok (.aload_n 0, 1) := by decide +kernel
theorem dX3_addLeg_42 : decode cX3_addLeg 42 = .ok (.getfield 45, 3) := by decide +kernel
theorem dX3_addLeg_45 : decode cX3_addLeg 45 = .ok (.aload_n 0, 1) := by decide +kernel
theorem dX3_addLeg_46 : decode cX3_addLeg 46 = .ok (.getfield 48, 3) := by decide +kernel
theorem dX3_addLeg_49 : decode cX3_addLeg 49 = .ok (.lload 5, 2) := by decide +kernel
theorem dX3_addLeg_51 : decode cX3_addLeg 51 = .ok (.lastore, 1) := by decide +kernel
theorem dX3_addLeg_52 : decode cX3_addLeg 52 = .ok (.aload_n 0, 1) := by decide +kernel
theorem dX3_addLeg_53 : decode cX3_addLeg 53 = .ok (.dup, 1) := by decide +kernel
theorem dX3_addLeg_54 : decode cX3_addLeg 54 = .ok (.getfield 48, 3) := by decide +kernel
theorem dX3_addLeg_57 : decode cX3_addLeg 57 = .ok (.iconst 1, 1) := by decide +kernel
theorem dX3_addLeg_58 : decode cX3_addLeg 58 = .ok (.iadd, 1) := by decide +kernel
theorem dX3_addLeg_59 : decode cX3_addLeg 59 = .ok (.putfield 48, 3) := by decide +kernel
theorem dX3_addLeg_62 : decode cX3_addLeg 62 = .ok (.return_, 1) := by decide +kernel
theorem dX3_addLeg_7 : decode cX3_addLeg 7 = .ok (.if_icmp .lt 4, 3) := by decide +kernel
set_option maxHeartbeats 4000000 in
set_option maxRecDepth 100000 in
theorem c_J_addLeg (l : Launch) (D : va_G) (κ : ClassId × ClassId × ClassId) (a : Nat → Nat) (sz : Nat) (u : TS) (en : Nat) (ac : Nat) (am : Int64) (wo : Int64) (q1 : J_legCount u < 600) : TM l yX3_addLeg cX3_addLeg 7 none 0 0 D κ a u sz [.ref (a 5), .int (nI en), .int (nI ac), .long am, .long wo] (QV D κ a sz (fun u' => u' = fLeg u en ac am wo)) := by
  refine TM.of (by decide +kernel) (Nat.le_of_ble_eq_true rfl) ?_
  intro p e s m below meth c ls hC hr hk hsz H locs hG hl
  have hx := hC.1
  have hb := hC.2.1
  have hl : lv_has ls 7 [(0, .ref (a 5)), (1, .int (nI en)), (2, .int (nI ac)), (3, .long am), (5, .long wo)] := hl
  refine lv_aload_n hx hb dX3_addLeg_0 rfl (lv_at hl 0 rfl) ?_
  refine gf_J_legCount hC hG (hC.2.2.2.2 _ w85) dX3_addLeg_1 ?_
  refine lv_sipush (v := nI 600) hx hb dX3_addLeg_4 (by decide) ?_
  refine bn_lt_t (tgt := 11) hx hb (by omega) (by omega) dX3_addLeg_7 (by decide) (by omega) ?_
  refine lv_aload_n hx hb dX3_addLeg_11 rfl (lv_at hl 0 rfl) ?_
  refine gf_J_entryOf hC hG (hC.2.2.2.2 _ w81) dX3_addLeg_12 ?_
  refine lv_aload_n hx hb dX3_addLeg_15 rfl (lv_at hl 0 rfl) ?_
  refine gf_J_legCount hC hG (hC.2.2.2.2 _ w85) dX3_addLeg_16 ?_
  refine lv_iload_n hx hb dX3_addLeg_19 rfl (lv_at hl 1 rfl) ?_
  refine as_J_entryOf hC hG (by omega) dX3_addLeg_20 (fun H locs hG => ?_)
  refine lv_aload_n hx hb dX3_addLeg_21 rfl (lv_at hl 0 rfl) ?_
  refine gf_J_account hC hG (hC.2.2.2.2 _ w82) dX3_addLeg_22 ?_
  refine lv_aload_n hx hb dX3_addLeg_25 rfl (lv_at hl 0 rfl) ?_
  refine gf_J_legCount hC hG (hC.2.2.2.2 _ w85) dX3_addLeg_26 ?_
  refine W.eq (g2 := F0 m 29 ls [.int (nI (J_legCount u)), .ref (a 28)]) rfl ?_
  refine lv_iload_n hx hb dX3_addLeg_29 rfl (lv_at hl 2 rfl) ?_
  refine as_J_account hC hG (by omega) dX3_addLeg_30 (fun H locs hG => ?_)
  refine lv_aload_n hx hb dX3_addLeg_31 rfl (lv_at hl 0 rfl) ?_
  refine gf_J_amount hC hG (hC.2.2.2.2 _ w83) dX3_addLeg_32 ?_
  refine lv_aload_n hx hb dX3_addLeg_35 rfl (lv_at hl 0 rfl) ?_
  refine gf_J_legCount hC hG (hC.2.2.2.2 _ w85) dX3_addLeg_36 ?_
  refine W.eq (g2 := F0 m 39 ls [.int (nI (J_legCount u)), .ref (a 29)]) rfl ?_
  refine lv_lload_n hx hb dX3_addLeg_39 rfl (lv_at hl 3 rfl) ?_
  refine as_J_amount hC hG (by omega) dX3_addLeg_40 (fun H locs hG => ?_)
  refine lv_aload_n hx hb dX3_addLeg_41 rfl (lv_at hl 0 rfl) ?_
  refine gf_J_worth hC hG (hC.2.2.2.2 _ w84) dX3_addLeg_42 ?_
  refine lv_aload_n hx hb dX3_addLeg_45 rfl (lv_at hl 0 rfl) ?_
  refine gf_J_legCount hC hG (hC.2.2.2.2 _ w85) dX3_addLeg_46 ?_
  refine W.eq (g2 := F0 m 49 ls [.int (nI (J_legCount u)), .ref (a 30)]) rfl ?_
  refine lv_lload hx hb dX3_addLeg_49 (lv_at hl 4 rfl) ?_
  refine as_J_worth hC hG (by omega) dX3_addLeg_51 (fun H locs hG => ?_)
  refine lv_aload_n hx hb dX3_addLeg_52 rfl (lv_at hl 0 rfl) ?_
  refine lv_dup hx hb dX3_addLeg_53 rfl ?_
  refine gf_J_legCount hC hG (hC.2.2.2.2 _ w85) dX3_addLeg_54 ?_
  refine W.eq (g2 := F0 m 57 ls [.int (nI (J_legCount u)), .ref (a 5)]) rfl ?_
  refine lv_iconst (v := nI 1) hx hb dX3_addLeg_57 (by decide) ?_
  refine ar_iadd hx hb dX3_addLeg_58 ?_
  refine pf_J_legCount hC hG (hC.2.2.2.2 _ w85) dX3_addLeg_59 (fun H locs hG => ?_)
  exact te_v hC hG hr hk (by rfl) dX3_addLeg_62
theorem k_J_addLeg {p : Program} {l : Launch} {e : Env} {R : Room} {s : State} {m : MethodId} {args : Array Value} {below : List Frame} {meth : Method} {c : Code} {H : Heap} {locs : List Loc} {cs ss : Nat} {Q : State → Prop} {cc : ByteArray} {nL pc : Nat} {ls : Array Slot} {rest : List Value} {own : String} {idx : Nat} {D : va_G} {κ : ClassId × ClassId × ClassId} {a : Nat → Nat} {u : TS} {A : Nat → Prop} (hC : CallFix p m c cc nL s args WALL own) (hG : GW D κ a u A s H locs) (en : Nat) (ac : Nat) (am : Int64) (wo : Int64) (q1 : J_legCount u < 600) (wl : Cond.methodLink own idx yX3_addLeg ∈ WALL) (hR : 0 + 1 ≤ R.frames ∧ 8 + (7 + 11) + 0 ≤ R.locals) (hls : ls.size = nL) (h8 : (rest.map fun v => v.category).sum ≤ 8) (hd : decode cc pc = .ok (.invokevirtual idx, 3)) (hcs : cs ≤ R.cells ∧ ss ≤ R.slots) (kk : ∀ (H1 : Heap) (locs1 : List Loc), GW D κ a (fLeg u en ac am wo) A s H1 locs1 → W p l e R s m args below meth c H1 locs1 cs ss Q (F0 m (pc + 3) ls (rest))) : W p l e R s m args below meth c H locs cs ss Q (F0 m pc ls (.long wo :: .long am :: .int (nI ac) :: .int (nI en) :: .ref (a 5) :: rest)) :=
  tc_v hG (tr_V (n := 4) (k := 5) (ci := 3) (As := [.int (nI en), .int (nI ac), .long am, .long wo]) hC hG (c_J_addLeg l D κ a H.size u en ac am wo q1) rfl rfl wl w23 w251 w249 w250 (by decide +kernel) hR rfl hls rfl h8 hd hcs) (fun u' H1 locs1 hq hG1 => by subst hq; exact kk H1 locs1 hG1)

theorem dX3_enter_0 : decode cX3_enter 0 = .ok (.aload_n 0, 1) := by decide +kernel
theorem dX3_enter_1 : decode cX3_enter 1 = .ok (.invokevirtual 51, 3) := by decide +kernel
theorem dX3_enter_10 : decode cX3_enter 10 = .ok (.getfield 31, 3) := by decide +kernel
theorem dX3_enter_100 : decode cX3_enter 100 = .ok (.getfield 21, 3) := by decide +kernel
theorem dX3_enter_103 : decode cX3_enter 103 = .ok (.iload 5, 2) := by decide +kernel
theorem dX3_enter_105 : decode cX3_enter 105 = .ok (.aload_n 0, 1) := by decide +kernel
theorem dX3_enter_106 : decode cX3_enter 106 = .ok (.getfield 48, 3) := by decide +kernel
theorem dX3_enter_109 : decode cX3_enter 109 = .ok (.aload_n 0, 1) := by decide +kernel
theorem dX3_enter_110 : decode cX3_enter 110 = .ok (.getfield 18, 3) := by decide +kernel
theorem dX3_enter_113 : decode cX3_enter 113 = .ok (.iload 5, 2) := by decide +kernel
theorem dX3_enter_115 : decode cX3_enter 115 = .ok (.iaload, 1) := by decide +kernel
theorem dX3_enter_116 : decode cX3_enter 116 = .ok (.isub, 1) := by decide +kernel
theorem dX3_enter_117 : decode cX3_enter 117 = .ok (.iastore, 1) := by decide +kernel
theorem dX3_enter_118 : decode cX3_enter 118 = .ok (.aload_n 0, 1) := by decide +kernel
theorem dX3_enter_119 : decode cX3_enter 119 = .ok (.dup, 1) := by decide +kernel
theorem dX3_enter_120 : decode cX3_enter 120 = .ok (.getfield 31, 3) := by decide +kernel
theorem dX3_enter_123 : decode cX3_enter 123 = .ok (.iconst 1, 1) := by decide +kernel
theorem dX3_enter_124 : decode cX3_enter 124 = .ok (.iadd, 1) := by decide +kernel
theorem dX3_enter_125 : decode cX3_enter 125 = .ok (.putfield 31, 3) := by decide +kernel
theorem dX3_enter_128 : decode cX3_enter 128 = .ok (.iload 5, 2) := by decide +kernel
theorem dX3_enter_13 : decode cX3_enter 13 = .ok (.istore 5, 2) := by decide +kernel
theorem dX3_enter_130 : decode cX3_enter 130 = .ok (.ireturn, 1) := by decide +kernel
theorem dX3_enter_15 : decode cX3_enter 15 = .ok (.aload_n 0, 1) := by decide +kernel
theorem dX3_enter_16 : decode cX3_enter 16 = .ok (.getfield 9, 3) := by decide +kernel
theorem dX3_enter_19 : decode cX3_enter 19 = .ok (.iload 5, 2) := by decide +kernel
theorem dX3_enter_21 : decode cX3_enter 21 = .ok (.iload_n 1, 1) := by decide +kernel
theorem dX3_enter_22 : decode cX3_enter 22 = .ok (.iastore, 1) := by decide +kernel
theorem dX3_enter_23 : decode cX3_enter 23 = .ok (.aload_n 0, 1) := by decide +kernel
theorem dX3_enter_24 : decode cX3_enter 24 = .ok (.getfield 15, 3) := by decide +kernel
theorem dX3_enter_27 : decode cX3_enter 27 = .ok (.iload 5, 2) := by decide +kernel
theorem dX3_enter_29 : decode cX3_enter 29 = .ok (.iload_n 2, 1) := by decide +kernel
theorem dX3_enter_30 : decode cX3_enter 30 = .ok (.iastore, 1) := by decide +kernel
theorem dX3_enter_31 : decode cX3_enter 31 = .ok (.aload_n 0, 1) := by decide +kernel
theorem dX3_enter_32 : decode cX3_enter 32 = .ok (.getfield 28, 3) := by decide +kernel
theorem dX3_enter_35 : decode cX3_enter 35 = .ok (.iload 5, 2) := by decide +kernel
theorem dX3_enter_37 : decode cX3_enter 37 = .ok (.iload_n 3, 1) := by decide +kernel
theorem dX3_enter_38 : decode cX3_enter 38 = .ok (.bastore, 1) := by decide +kernel
theorem dX3_enter_39 : decode cX3_enter 39 = .ok (.aload_n 0, 1) := by decide +kernel
theorem dX3_enter_4 : decode cX3_enter 4 = .ok (.ifCond .eq 5, 3) := by decide +kernel
theorem dX3_enter_40 : decode cX3_enter 40 = .ok (.getfield 18, 3) := by decide +kernel
theorem dX3_enter_43 : decode cX3_enter 43 = .ok (.iload 5, 2) := by decide +kernel
theorem dX3_enter_45 : decode cX3_enter 45 = .ok (.aload_n 0, 1) := by decide +kernel
theorem dX3_enter_46 : decode cX3_enter 46 = .ok (.getfield 48, 3) := by decide +kernel
theorem dX3_enter_49 : decode cX3_enter 49 = .ok (.iastore, 1) := by decide +kernel
theorem dX3_enter_50 : decode cX3_enter 50 = .ok (.iconst 0, 1) := by decide +kernel
theorem dX3_enter_51 : decode cX3_enter 51 = .ok (.istore 6, 2) := by decide +kernel
theorem dX3_enter_53 : decode cX3_enter 53 = .ok (.iload 6, 2) := by decide +kernel
theorem dX3_enter_55 : decode cX3_enter 55 = .ok (.aload 4, 2) := by decide +kernel
theorem dX3_enter_57 : decode cX3_enter 57 = .ok (.getfield 55, 3) := by decide +kernel
theorem dX3_enter_60 : decode cX3_enter 60 = .ok (.if_icmp .ge 39, 3) := by decide +kernel
theorem dX3_enter_63 : decode cX3_enter 63 = .ok (.aload_n 0, 1) := by decide +kernel
theorem dX3_enter_64 : decode cX3_enter 64 = .ok (.iload 5, 2) := by decide +kernel
theorem dX3_enter_66 : decode cX3_enter 66 = .ok (.aload 4, 2) := by decide +kernel
theorem dX3_enter_68 : decode cX3_enter 68 = .ok (.getfield 58, 3) := by decide +kernel
theorem dX3_enter_71 : decode cX3_enter 71 = .ok (.iload 6, 2) := by decide +kernel
theorem dX3_enter_73 : decode cX3_enter 73 = .ok (.iaload, 1) := by decide +kernel
theorem dX3_enter_74 : decode cX3_enter 74 = .ok (.aload 4, 2) := by decide +kernel
theorem dX3_enter_76 : decode cX3_enter 76 = .ok (.getfield 59, 3) := by decide +kernel
theorem dX3_enter_79 : decode cX3_enter 79 = .ok (.iload 6, 2) := by decide +kernel
theorem dX3_enter_81 : decode cX3_enter 81 = .ok (.laload, 1) := by decide +kernel
theorem dX3_enter_82 : decode cX3_enter 82 = .ok (.aload 4, 2) := by decide +kernel
theorem dX3_enter_84 : decode cX3_enter 84 = .ok (.getfield 60, 3) := by decide +kernel
theorem dX3_enter_87 : decode cX3_enter 87 = .ok (.iload 6, 2) := by decide +kernel
theorem dX3_enter_89 : decode cX3_enter 89 = .ok (.laload, 1) := by decide +kernel
theorem dX3_enter_9 : decode cX3_enter 9 = .ok (.aload_n 0, 1) := by decide +kernel
theorem dX3_enter_90 : decode cX3_enter 90 = .ok (.invokevirtual 61, 3) := by decide +kernel
theorem dX3_enter_93 : decode cX3_enter 93 = .ok (.iinc 6 1, 3) := by decide +kernel
theorem dX3_enter_96 : decode cX3_enter 96 = .ok (.goto (-43), 3) := by decide +kernel
theorem dX3_enter_99 : decode cX3_enter 99 = .ok (.aload_n 0, 1) := by decide +kernel
set_option maxHeartbeats 4000000 in
set_option maxRecDepth 100000 in
theorem c_J_enter (l : Launch) (D : va_G) (κ : ClassId × ClassId × ClassId) (a : Nat → Nat) (sz : Nat) (u : TS) (d : Nat) (nt : Nat) (cl : Bool) (q1 : OK u) (q2 : J_count u < 60) (q3 : J_legCount u + L1_count u ≤ 600) : TM l yX3_enter cX3_enter 7 (some .int) 1 26 D κ a u sz [.ref (a 5), .int (nI d), .int (nI nt), .int (bI cl), .ref (a 4)] (QI D κ a sz (fun r u' => r = (nI (J_count u)) ∧ u' = fEnter u d nt cl)) := by
  refine TM.of (by decide +kernel) (Nat.le_of_ble_eq_true rfl) ?_
  intro p e s m below meth c ls hC hr hk hsz H locs hG hl
  have hx := hC.1
  have hb := hC.2.1
  have hl : lv_has ls 7 [(0, .ref (a 5)), (1, .int (nI d)), (2, .int (nI nt)), (3, .int (bI cl)), (4, .ref (a 4))] := hl
  have qok := q1
  have ⟨n1, n2, n3, n4, n5, n6, n7, n8, n9, n10⟩ := qok.n
  refine lv_aload_n hx hb dX3_enter_0 rfl (lv_at hl 0 rfl) ?_
  refine k_J_isFull hC hG  (q1) w247 ⟨by decide, by decide⟩ hl.1 (by decide) dX3_enter_1 ⟨Nat.zero_le _, Nat.zero_le _⟩ (fun H locs hG => ?_)
  refine bb_eq (tgt := 9) hx hb dX3_enter_4 (by decide) (fun h4 => ?_) (fun h4 => (show False from (by have h9 := h4; simp at h9; omega)).elim)
  refine lv_aload_n hx hb dX3_enter_9 rfl (lv_at hl 0 rfl) ?_
  refine gf_J_count hC hG (hC.2.2.2.2 _ w80) dX3_enter_10 ?_
  refine lv_istore (lv' := [(5, .int (nI (J_count u))), (0, .ref (a 5)), (1, .int (nI d)), (2, .int (nI nt)), (3, .int (bI cl)), (4, .ref (a 4))]) hx hb dX3_enter_13 hl (by decide) rfl (fun ls hl => ?_)
  refine lv_aload_n hx hb dX3_enter_15 rfl (lv_at hl 1 rfl) ?_
  refine gf_J_day hC hG (hC.2.2.2.2 _ w74) dX3_enter_16 ?_
  refine lv_iload hx hb dX3_enter_19 (lv_at hl 0 rfl) ?_
  refine lv_iload_n hx hb dX3_enter_21 rfl (lv_at hl 2 rfl) ?_
  refine as_J_day hC hG (by omega) dX3_enter_22 (fun H locs hG => ?_)
  refine lv_aload_n hx hb dX3_enter_23 rfl (lv_at hl 1 rfl) ?_
  refine gf_J_note hC hG (hC.2.2.2.2 _ w75) dX3_enter_24 ?_
  refine lv_iload hx hb dX3_enter_27 (lv_at hl 0 rfl) ?_
  refine lv_iload_n hx hb dX3_enter_29 rfl (lv_at hl 3 rfl) ?_
  refine as_J_note hC hG (by omega) dX3_enter_30 (fun H locs hG => ?_)
  refine lv_aload_n hx hb dX3_enter_31 rfl (lv_at hl 1 rfl) ?_
  refine gf_J_isClosing hC hG (hC.2.2.2.2 _ w79) dX3_enter_32 ?_
  refine lv_iload hx hb dX3_enter_35 (lv_at hl 0 rfl) ?_
  refine lv_iload_n hx hb dX3_enter_37 rfl (lv_at hl 4 rfl) ?_
  refine as_J_isClosing hC hG (by omega) dX3_enter_38 (fun H locs hG => ?_)
  refine lv_aload_n hx hb dX3_enter_39 rfl (lv_at hl 1 rfl) ?_
  refine gf_J_firstLeg hC hG (hC.2.2.2.2 _ w76) dX3_enter_40 ?_
  refine lv_iload hx hb dX3_enter_43 (lv_at hl 0 rfl) ?_
  refine lv_aload_n hx hb dX3_enter_45 rfl (lv_at hl 1 rfl) ?_
  refine gf_J_legCount hC hG (hC.2.2.2.2 _ w85) dX3_enter_46 ?_
  refine W.eq (g2 := F0 m 49 ls [.int (nI (J_legCount u)), .int (nI (J_count u)), .ref (a 23)]) rfl ?_
  refine as_J_firstLeg hC hG (by omega) dX3_enter_49 (fun H locs hG => ?_)
  refine lv_iconst (v := nI 0) hx hb dX3_enter_50 (by decide) ?_
  refine lv_istore (lv' := [(6, .int (nI 0)), (5, .int (nI (J_count u))), (0, .ref (a 5)), (1, .int (nI d)), (2, .int (nI nt)), (3, .int (bI cl)), (4, .ref (a 4))]) hx hb dX3_enter_51 hl (by decide) rfl (fun ls hl => ?_)
  have lp53 : ∀ (n : Nat) (i : Nat), L1_count u - i < n → (i ≤ L1_count u) → ∀ (H : Heap) (locs : List Loc), GW D κ a (fEntL u d nt cl i) (AA a sz) s H locs → ∀ ls : Array Slot, lv_has ls 7 [(6, .int (nI i)), (5, .int (nI (J_count u))), (0, .ref (a 5)), (1, .int (nI d)), (2, .int (nI nt)), (3, .int (bI cl)), (4, .ref (a 4))] → W p l e { frames := 1, cells := 0, slots := 0, locals := 26 } s m [.ref (a 5), .int (nI d), .int (nI nt), .int (bI cl), .ref (a 4)].toArray below meth c H locs 0 0 (MQ below (QI D κ a sz (fun r u' => r = (nI (J_count u)) ∧ u' = fEnter u d nt cl)) [.ref (a 5), .int (nI d), .int (nI nt), .int (bI cl), .ref (a 4)].toArray s 0 0 (AA a sz)) (F0 m 53 ls []) := by
    intro n
    induction n with
    | zero =>
      intro i hm
      exact absurd hm (Nat.not_lt_zero _)
    | succ n ih53 =>
      intro i hm53 c53_1 H locs hG ls hl
      have ⟨f1, f2, f3, f4⟩ := fEntL_c u d nt cl i
      refine lv_iload hx hb dX3_enter_53 (lv_at hl 0 rfl) ?_
      refine lv_aload hx hb dX3_enter_55 (lv_at hl 6 rfl) ?_
      refine gf_L1_count hC hG (hC.2.2.2.2 _ w243) dX3_enter_57 ?_
      refine bn_ge (tgt := 99) hx hb (by omega) (by omega) dX3_enter_60 (by decide) (fun h60 => ?_) (fun h60 => ?_)
      · refine lv_aload_n hx hb dX3_enter_99 rfl (lv_at hl 2 rfl) ?_
        refine gf_J_legsOf hC hG (hC.2.2.2.2 _ w77) dX3_enter_100 ?_
        refine lv_iload hx hb dX3_enter_103 (lv_at hl 1 rfl) ?_
        refine lv_aload_n hx hb dX3_enter_105 rfl (lv_at hl 2 rfl) ?_
        refine gf_J_legCount hC hG (hC.2.2.2.2 _ w85) dX3_enter_106 ?_
        refine lv_aload_n hx hb dX3_enter_109 rfl (lv_at hl 2 rfl) ?_
        refine gf_J_firstLeg hC hG (hC.2.2.2.2 _ w76) dX3_enter_110 ?_
        refine lv_iload hx hb dX3_enter_113 (lv_at hl 1 rfl) ?_
        refine al_J_firstLeg hC hG (by omega) dX3_enter_115 ?_
        have f5 : J_firstLeg (fEntL u d nt cl i) (J_count u) = J_legCount u := f4
        refine ar_isub hx hb (by omega) dX3_enter_116 ?_
        refine as_J_legsOf hC hG (by omega) dX3_enter_117 (fun H locs hG => ?_)
        refine lv_aload_n hx hb dX3_enter_118 rfl (lv_at hl 2 rfl) ?_
        refine lv_dup hx hb dX3_enter_119 rfl ?_
        refine gf_J_count hC hG (hC.2.2.2.2 _ w80) dX3_enter_120 ?_
        refine W.eq (g2 := F0 m 123 ls [.int (nI (J_count (fEntL u d nt cl i))), .ref (a 5)]) rfl ?_
        refine lv_iconst (v := nI 1) hx hb dX3_enter_123 (by decide) ?_
        refine ar_iadd hx hb dX3_enter_124 ?_
        refine pf_J_count hC hG (hC.2.2.2.2 _ w80) dX3_enter_125 (fun H locs hG => ?_)
        refine lv_iload hx hb dX3_enter_128 (lv_at hl 1 rfl) ?_
        have hi : i = L1_count u := by omega
        exact te_i (v := (nI (J_count u))) hC hG hr hk ⟨rfl, (by subst hi; unfold fEnter; rw [show J_legCount (fEntL u d nt cl (L1_count u)) - J_firstLeg (fEntL u d nt cl (L1_count u)) (J_count u) = L1_count u by omega]; exact congrArg (sN _ _) (by rw [f3]))⟩ dX3_enter_130
      · refine lv_aload_n hx hb dX3_enter_63 rfl (lv_at hl 2 rfl) ?_
        refine lv_iload hx hb dX3_enter_64 (lv_at hl 1 rfl) ?_
        refine lv_aload hx hb dX3_enter_66 (lv_at hl 6 rfl) ?_
        refine gf_L1_account hC hG (hC.2.2.2.2 _ w244) dX3_enter_68 ?_
        refine lv_iload hx hb dX3_enter_71 (lv_at hl 0 rfl) ?_
        refine al_L1_account hC hG (by omega) dX3_enter_73 ?_
        refine lv_aload hx hb dX3_enter_74 (lv_at hl 6 rfl) ?_
        refine gf_L1_amount hC hG (hC.2.2.2.2 _ w245) dX3_enter_76 ?_
        refine lv_iload hx hb dX3_enter_79 (lv_at hl 0 rfl) ?_
        refine al_L1_amount hC hG (by omega) dX3_enter_81 ?_
        refine lv_aload hx hb dX3_enter_82 (lv_at hl 6 rfl) ?_
        refine gf_L1_worth hC hG (hC.2.2.2.2 _ w246) dX3_enter_84 ?_
        refine lv_iload hx hb dX3_enter_87 (lv_at hl 0 rfl) ?_
        refine al_L1_worth hC hG (by omega) dX3_enter_89 ?_
        refine k_J_addLeg hC hG (J_count u) (L1_account (fEntL u d nt cl i) i) (L1_amount (fEntL u d nt cl i) i) (L1_worth (fEntL u d nt cl i) i) (by omega) w248 ⟨by decide, by decide⟩ hl.1 (by decide) dX3_enter_90 ⟨Nat.zero_le _, Nat.zero_le _⟩ (fun H locs hG => ?_)
        refine lv_iinc (v := (nI (i + 1))) (lv' := [(6, .int (nI (i + 1))), (5, .int (nI (J_count u))), (0, .ref (a 5)), (1, .int (nI d)), (2, .int (nI nt)), (3, .int (bI cl)), (4, .ref (a 4))]) hx hb dX3_enter_93 hl (k := 0) rfl (nI_1 _) (by decide) rfl (fun ls hl => ?_)
        refine lv_goto (tgt := 53) hx hb dX3_enter_96 (by decide) ?_
        have hG : GW D κ a (fEntL u d nt cl (i + 1)) (AA a sz) s H locs := by
          have eu : (fEntL u d nt cl (i + 1)) = (fLeg (fEntL u d nt cl i) (J_count u) (L1_account (fEntL u d nt cl i) i) (L1_amount (fEntL u d nt cl i) i) (L1_worth (fEntL u d nt cl i) i)) := by rfl
          rw [eu]; exact hG
        exact ih53  (i + 1) (by omega) (by omega) H locs hG ls (lv_sub hl [0, 1, 2, 3, 4, 5, 6] rfl)
  have hG : GW D κ a (fEntL u d nt cl 0) (AA a sz) s H locs := by
    have eu : (fEntL u d nt cl 0) = (sAN (sAB (sAN (sAN u 4 (J_count u) d) 5 (J_count u) nt) 2 (J_count u) cl) 6 (J_count u) (J_legCount u)) := by rfl
    rw [eu]; exact hG
  exact lp53 _ 0 (Nat.lt_succ_self _) (by omega) H locs hG ls (lv_sub hl [0, 1, 2, 3, 4, 5, 6] rfl)
theorem k_J_enter {p : Program} {l : Launch} {e : Env} {R : Room} {s : State} {m : MethodId} {args : Array Value} {below : List Frame} {meth : Method} {c : Code} {H : Heap} {locs : List Loc} {cs ss : Nat} {Q : State → Prop} {cc : ByteArray} {nL pc : Nat} {ls : Array Slot} {rest : List Value} {own : String} {idx : Nat} {D : va_G} {κ : ClassId × ClassId × ClassId} {a : Nat → Nat} {u : TS} {A : Nat → Prop} (hC : CallFix p m c cc nL s args WALL own) (hG : GW D κ a u A s H locs) (d : Nat) (nt : Nat) (cl : Bool) (q1 : OK u) (q2 : J_count u < 60) (q3 : J_legCount u + L1_count u ≤ 600) (wl : Cond.methodLink own idx yX3_enter ∈ WALL) (hR : 1 + 1 ≤ R.frames ∧ 8 + (7 + 11) + 26 ≤ R.locals) (hls : ls.size = nL) (h8 : (rest.map fun v => v.category).sum ≤ 8) (hd : decode cc pc = .ok (.invokevirtual idx, 3)) (hcs : cs ≤ R.cells ∧ ss ≤ R.slots) (kk : ∀ (H1 : Heap) (locs1 : List Loc), GW D κ a (fEnter u d nt cl) A s H1 locs1 → W p l e R s m args below meth c H1 locs1 cs ss Q (F0 m (pc + 3) ls (.int (nI (J_count u)) :: rest))) : W p l e R s m args below meth c H locs cs ss Q (F0 m pc ls (.ref (a 4) :: .int (bI cl) :: .int (nI nt) :: .int (nI d) :: .ref (a 5) :: rest)) :=
  tc_i hG (tr_V (n := 4) (k := 5) (ci := 3) (As := [.int (nI d), .int (nI nt), .int (bI cl), .ref (a 4)]) hC hG (c_J_enter l D κ a H.size u d nt cl q1 q2 q3) rfl rfl wl w23 w242 w240 w241 (by decide +kernel) hR rfl hls rfl h8 hd hcs) (fun r u' H1 locs1 hq hG1 => by obtain ⟨rfl, rfl⟩ := hq; exact kk H1 locs1 hG1)

