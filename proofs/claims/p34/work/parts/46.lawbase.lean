theorem dL_below_0 : decode cL_below 0 = .ok (.iload_n 0, 1) := by decide +kernel
theorem dL_below_1 : decode cL_below 1 = .ok (.ldc 7, 2) := by decide +kernel
theorem dL_below_3 : decode cL_below 3 = .ok (.iand, 1) := by decide +kernel
theorem dL_below_4 : decode cL_below 4 = .ok (.iload_n 1, 1) := by decide +kernel
theorem dL_below_5 : decode cL_below 5 = .ok (.irem, 1) := by decide +kernel
theorem dL_below_6 : decode cL_below 6 = .ok (.ireturn, 1) := by decide +kernel
theorem dL_cell_0 : decode cL_cell 0 = .ok (.iload_n 1, 1) := by decide +kernel
theorem dL_cell_1 : decode cL_cell 1 = .ok (.aload_n 0, 1) := by decide +kernel
theorem dL_cell_2 : decode cL_cell 2 = .ok (.arraylength, 1) := by decide +kernel
theorem dL_cell_3 : decode cL_cell 3 = .ok (.if_icmp .ge 9, 3) := by decide +kernel
theorem dL_cell_6 : decode cL_cell 6 = .ok (.aload_n 0, 1) := by decide +kernel
theorem dL_cell_7 : decode cL_cell 7 = .ok (.iload_n 1, 1) := by decide +kernel
theorem dL_cell_8 : decode cL_cell 8 = .ok (.iaload, 1) := by decide +kernel
theorem dL_cell_9 : decode cL_cell 9 = .ok (.goto 9, 3) := by decide +kernel
theorem dL_cell_12 : decode cL_cell 12 = .ok (.ldc 8, 2) := by decide +kernel
theorem dL_cell_14 : decode cL_cell 14 = .ok (.iload_n 1, 1) := by decide +kernel
theorem dL_cell_15 : decode cL_cell 15 = .ok (.iconst 3, 1) := by decide +kernel
theorem dL_cell_16 : decode cL_cell 16 = .ok (.iadd, 1) := by decide +kernel
theorem dL_cell_17 : decode cL_cell 17 = .ok (.imul, 1) := by decide +kernel
theorem dL_cell_18 : decode cL_cell 18 = .ok (.ireturn, 1) := by decide +kernel
/-! THE LAW'S OWN SMALL METHODS -/
theorem fLock_le {u : TS} (h : OK u) : ∀ j, fLock u = some j → j ≤ 364 := by
  intro j hj
  unfold fLock at hj
  cases hq : fLastC u (J_count u) with
  | none => rw [hq] at hj; cases hj
  | some en =>
    rw [hq] at hj
    have h1 := fLastC_lt u _ _ hq
    have h2 := h.ent h1
    cases hj
    exact h2.2.1
theorem fLock_ne {u : TS} (h : fLock u ≠ none) : fLastC u (J_count u) ≠ none := fun q => h (by unfold fLock; rw [q]; rfl)
/-- the leg that a line is matched with is found -/
def fHas (u : TS) (e x : Nat) : Nat → Bool
  | 0 => false
  | g + 1 => fHas u e x g || decide (fOfL u e g 3 = (nI x).toInt64)
theorem fHas_up (u : TS) (e x g : Nat) (h : fOfL u e g 3 = (nI x).toInt64) : ∀ n, g < n → fHas u e x n = true
  | 0, hg => absurd hg (Nat.not_lt_zero _)
  | n + 1, hg => by
    unfold fHas
    by_cases q : g = n
    · subst q
      rw [decide_eq_true h, Bool.or_true]
    · rw [fHas_up u e x g h n (by omega), Bool.true_or]
set_option maxRecDepth 100000 in
theorem c_S_below (l : Launch) (D : va_G) (κ : ClassId × ClassId × ClassId) (a : Nat → Nat) (sz : Nat) (u : TS) (v : Int32) (n : Nat) (h0 : 0 < n) (h1 : n < 2 ^ 31) : TM l yL_below cL_below 2 (some .int) 0 0 D κ a u sz [.int v, .int (nI n)] (QI D κ a sz (fun r u' => (∃ k, k < n ∧ r = nI k) ∧ u' = u)) := by
  refine TM.of (by decide +kernel) (Nat.le_of_ble_eq_true rfl) ?_
  intro p e s m below meth c ls hC hr hk hsz H locs hG hl
  have hx := hC.1
  have hb := hC.2.1
  have hl : lv_has ls 2 [(0, .int v), (1, .int (nI n))] := hl
  refine lv_iload_n hx hb dL_below_0 rfl (lv_at hl 0 rfl) ?_
  refine lv_ldc (v := 2147483647) hx hb hC.2.2.2.1 (hC.2.2.2.2 _ w119) dL_below_1 ?_
  refine lv_iand hx hb dL_below_3 ?_
  obtain ⟨j, hj, ej⟩ := pk_andE v (m := 2147483647) 31 (by decide)
  rw [ej]
  refine lv_iload_n hx hb dL_below_4 rfl (lv_at hl 1 rfl) ?_
  refine ar_irem hx hb (by omega) h0 h1 dL_below_5 ?_
  exact te_i (v := nI (j % n)) hC hG hr hk ⟨⟨j % n, Nat.mod_lt _ h0, rfl⟩, rfl⟩ dL_below_6
theorem k_S_below {p : Program} {l : Launch} {e : Env} {R : Room} {s : State} {m : MethodId} {args : Array Value} {below : List Frame} {meth : Method} {c : Code} {H : Heap} {locs : List Loc} {cs ss : Nat} {Q : State → Prop} {cc : ByteArray} {nL pc : Nat} {ls : Array Slot} {rest : List Value} {own : String} {idx : Nat} {D : va_G} {κ : ClassId × ClassId × ClassId} {a : Nat → Nat} {u : TS} {A : Nat → Prop} (hC : CallFix p m c cc nL s args WALL own) (hG : GW D κ a u A s H locs) {v : Int32} {n : Nat} (h0 : 0 < n) (h1 : n < 2 ^ 31) (wl : Cond.methodLink own idx yL_below ∈ WALL) (wn : Cond.initialized RL ∈ WALL) (hR : 0 + 1 ≤ R.frames ∧ 8 + (2 + 11) + 0 ≤ R.locals) (hls : ls.size = nL) (h8 : (rest.map fun v => v.category).sum ≤ 8) (hd : decode cc pc = .ok (.invokestatic idx, 3)) (hcs : cs ≤ R.cells ∧ ss ≤ R.slots) (kk : ∀ k, k < n → ∀ (H1 : Heap) (locs1 : List Loc), GW D κ a u A s H1 locs1 → W p l e R s m args below meth c H1 locs1 cs ss Q (F0 m (pc + 3) ls (.int (nI k) :: rest))) : W p l e R s m args below meth c H locs cs ss Q (F0 m pc ls (.int (nI n) :: .int v :: rest)) :=
  tc_i hG (tr_S (n := 2) (As := [.int v, .int (nI n)]) hC hG (c_S_below l D κ a H.size u v n h0 h1) wl wn w118 w117 (by decide +kernel) hR rfl hls rfl h8 hd hcs) (fun r u' H1 locs1 hq hG1 => by
    obtain ⟨⟨k, hk, rfl⟩, rfl⟩ := hq
    exact kk k hk H1 locs1 hG1)
set_option maxRecDepth 100000 in
theorem c_cell (l : Launch) (sz b L : Nat) (xs : Nat → Int32) (k : Nat) (hk : k < 2 ^ 31) (hL : L < 2 ^ 31) : Met l yL_cell (.code yL_cell cL_cell 2 (some .int) :: WALL) { frames := 0, cells := 0, slots := 0, locals := 0 } (va_Pc [.ref b, .int (nI k)] (fun U => U.heap.size = sz ∧ b < sz ∧ va_X b L xs U U.heap)) (va_Qi (S := Unit) (fun _ _ => True) (fun _ _ => True) (fun q => sz ≤ q)) 0 0 (fun q => sz ≤ q) := by
  refine Met.ofW (cc := cL_cell) (maxL := 2) (ret := some .int) (by decide +kernel) rfl ?_
  intro p e s m args below meth c s₁ B hml hv
  obtain ⟨rfl, hsz, hbl, hX⟩ := hv
  have hx := B.exec
  have hb := B.bytes
  have hr := B.returns
  have hlocks := B.notSynchronized
  have hown : s.vm.findClass RL = some m.cls := findClass_of_methodNamed B.named
  have hts : ∀ w ∈ WALL, w.before _ s = true := fun w h => atoms_spec (ws := .code yL_cell cL_cell 2 (some .int) :: WALL) B.pre w (List.mem_cons_of_mem _ h)
  subst hsz
  have hS : va_S (fun q => s.heap.size ≤ q) s.heap s.heap [] := va_S.rf
  have hbA : ¬ (fun q => s.heap.size ≤ q) b := Nat.not_le.mpr hbl
  have hl := lv_entry ([.ref b, .int (nI k)]) (n := 2) (Nat.le_of_ble_eq_true rfl)
  rw [lg_entry_eq]
  generalize (lg_sl ([.ref b, .int (nI k)]) ++ List.replicate (2 - (lg_sl ([.ref b, .int (nI k)])).length) Slot.unset).toArray = ls at hl ⊢
  have hl : lv_has ls 2 [(0, .ref b), (1, .int (nI k))] := hl
  refine lv_iload_n hx hb dL_cell_0 rfl (lv_at hl 1 rfl) ?_
  refine lv_aload_n hx hb dL_cell_1 rfl (lv_at hl 0 rfl) ?_
  refine va_slen hx hb hX hbl hbA hS dL_cell_2 ?_
  refine bn_ge (x := k) (y := L) (tgt := 12) hx hb hk hL dL_cell_3 (by decide) (fun h => ?_) (fun h => ?_)
  · refine lv_ldc (v := 790386105) hx hb hown (hts _ w115) dL_cell_12 ?_
    refine lv_iload_n hx hb dL_cell_14 rfl (lv_at hl 1 rfl) ?_
    refine lv_iconst (v := nI 3) hx hb dL_cell_15 (by decide) ?_
    refine ar_iadd hx hb dL_cell_16 ?_
    refine lv_imul hx hb dL_cell_17 ?_
    exact W.iret hx hb hr (fun t ht hW => ⟨⟨_, (), rfl, trivial, trivial⟩, hS.F ht⟩) (fun q h => absurd h List.not_mem_nil) dL_cell_18 hlocks
  · refine lv_aload_n hx hb dL_cell_6 rfl (lv_at hl 0 rfl) ?_
    refine lv_iload_n hx hb dL_cell_7 rfl (lv_at hl 1 rfl) ?_
    refine va_sld hx hb hX hbl hbA hS (vp_in_nI h hL) dL_cell_8 ?_
    refine lv_goto (tgt := 18) hx hb dL_cell_9 (by decide) ?_
    exact W.iret hx hb hr (fun t ht hW => ⟨⟨_, (), rfl, trivial, trivial⟩, hS.F ht⟩) (fun q h => absurd h List.not_mem_nil) dL_cell_18 hlocks
theorem GW.keep {D : va_G} {κ : ClassId × ClassId × ClassId} {a : Nat → Nat} {u : TS} {A : Nat → Prop} {s : State} {H H1 : Heap} {locs locs1 : List Loc} (h : GW D κ a u A s H locs) (hk : ∀ q : Nat, q < H.size → H1[q]? = H[q]?) (hS : va_S A s.heap H1 locs1) : GW D κ a u A s H1 locs1 :=
  ⟨h.1, h.2.1.kept (fun k x hx => hk x.1 ((h.2.1 k x hx).lt)), h.2.2.1, hS, h.2.2.2.2⟩
theorem k_cell {p : Program} {l : Launch} {e : Env} {R : Room} {s : State} {m : MethodId} {args : Array Value} {below : List Frame} {meth : Method} {c : Code} {H : Heap} {locs : List Loc} {cs ss : Nat} {Q : State → Prop} {cc : ByteArray} {nL pc : Nat} {ls : Array Slot} {rest : List Value} {own : String} {idx : Nat} {D : va_G} {κ : ClassId × ClassId × ClassId} {a : Nat → Nat} {u : TS} {A : Nat → Prop} {b L : Nat} {xs : Nat → Int32} (hC : CallFix p m c cc nL s args WALL own) (hG : GW D κ a u A s H locs) (hX : va_X b L xs s s.heap) (hbl : b < s.heap.size) (hbA : ¬ A b) {k : Nat} (hk : k < 2 ^ 31) (hL : L < 2 ^ 31) (wl : Cond.methodLink own idx yL_cell ∈ WALL) (wn : Cond.initialized RL ∈ WALL) (hR : 0 + 1 ≤ R.frames ∧ 8 + (2 + 11) + 0 ≤ R.locals) (hls : ls.size = nL) (h8 : (rest.map fun v => v.category).sum ≤ 8) (hd : decode cc pc = .ok (.invokestatic idx, 3)) (hcs : cs ≤ R.cells ∧ ss ≤ R.slots) (kk : ∀ (r : Int32) (H1 : Heap) (locs1 : List Loc), GW D κ a u A s H1 locs1 → W p l e R s m args below meth c H1 locs1 cs ss Q (F0 m (pc + 3) ls (.int r :: rest))) : W p l e R s m args below meth c H locs cs ss Q (F0 m pc ls (.int (nI k) :: .ref b :: rest)) := by
  have hHb : H[b]? = s.heap[b]? := hG.2.2.2.1.2.1 b hbl hbA
  refine va_calli (va_runS (As := [.ref b, .int (nI k)]) (rest := rest) hC (c_cell l H.size b L xs k hk hL) ⟨callB_of (Ts := WALL) 2 hC.2.2.2.2 (fun w h => by
    rcases List.mem_cons.mp h with rfl | h
    · exact wl_in _ w114
    · exact wl_in _ h) rfl rfl rfl (hC.2.2.2.2 _ wn) (hC.2.2.2.2 _ wl) (by decide +kernel) hR, hC.2.2.2.2 _ w112⟩
    ⟨fun x U g mk q => ⟨q.1, q.2.1, q.2.2.1, va_X.moved (u := U) (U := U.calling g mk x) (Vm.Alike.refl U.vm) q.2.2.2⟩, fun U hU hW => ⟨rfl, by rw [hU], Nat.lt_of_lt_of_le hbl hG.2.2.2.1.1, va_X.moved hW.alike (by rw [hU]; exact hX.kept hHb)⟩⟩ rfl rfl hls rfl (lv_room h8) hd hcs) hG.2.2.2.1 (fun q h1 h2 => absurd h1 (Nat.not_lt.mpr h2)) (fun q h => hG.2.2.2.2 q (Nat.le_trans hG.2.2.2.1.1 h)) (fun r _ t H1 locs1 ht hvm _ _ hz hk1 hS => ?_)
  exact kk r H1 locs1 (hG.keep (fun q hq => hk1 q hq (Nat.not_le.mpr hq)) hS)

