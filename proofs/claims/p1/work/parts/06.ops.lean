/-! ROWS over an explicit world; ends -/
theorem vp_box {i : Int32} {n : Nat} (h0 : 0 ≤ i.toInt) (h1 : i.toInt < n) : vp_in i n := by
  intro h
  rcases h with h | h
  · have h2 := Int32.lt_iff_toInt_lt.mp h
    have e : (0 : Int32).toInt = 0 := by decide
    omega
  · have h2 : i.toNatClampNeg = i.toInt.toNat := rfl
    omega
theorem i_cases {x : Int32} {n : Int} (h : x.toInt = n) (y : Int32) (hy : y.toInt = n) : x = y := Int32.toInt_inj.mp (h.trans hy.symm)
section Ops
variable {p : Program} {l : Launch} {e : Env} {R : Room} {s : State} {m : MethodId} {args : Array Value} {below : List Frame} {meth : Method} {c : Code} {H : Heap} {locs : List Loc} {cs ss : Nat} {Q : State → Prop} {cc : ByteArray} {nL pc : Nat} {ls : Array Slot} {rest : List Value} {own : String} {idx : Nat} {E0 : Nat} {D : va_G} {κ : K4} {ws : va_W} {A : Nat → Prop} {sz mc ms : Nat}
theorem bn_ge (hx : p.tables.exec = Jvm.exec) (hb : c.code = cc) {x y : Nat} (hX : x < 2 ^ 31) (hY : y < 2 ^ 31) {off : Int} {tgt : Nat} (hd : decode cc pc = .ok (.if_icmp .ge off, 3)) (ht : (pc : Int) + off = (tgt : Int)) (kt : y ≤ x → W p l e R s m args below meth c H locs cs ss Q (F0 m tgt ls rest)) (kf : x < y → W p l e R s m args below meth c H locs cs ss Q (F0 m (pc + 3) ls rest)) : W p l e R s m args below meth c H locs cs ss Q (F0 m pc ls (.int (nI y) :: .int (nI x) :: rest)) :=
  lv_icmp_ge hx hb hd ht (fun h => kt ((nI_leI hY hX).mp h)) (fun h => kf (by have q := mt (nI_leI hY hX).mpr h; omega))
theorem bl_eq (hx : p.tables.exec = Jvm.exec) (hb : c.code = cc) {x y : Int64} {off : Int} {tgt : Nat} (hd : decode cc pc = .ok (.lcmp, 1)) (hd2 : decode cc (pc + 1) = .ok (.ifCond .eq off, 3)) (ht : ((pc + 1 : Nat) : Int) + off = (tgt : Int)) (kt : x = y → W p l e R s m args below meth c H locs cs ss Q (F0 m tgt ls rest)) (kf : ¬ x = y → W p l e R s m args below meth c H locs cs ss Q (F0 m (pc + 1 + 3) ls rest)) : W p l e R s m args below meth c H locs cs ss Q (F0 m pc ls (.long y :: .long x :: rest)) :=
  W.lcmp hx hb hd (lv_if_eq hx hb hd2 ht (fun h => kt ((lg_cmp_eq x y).mp h)) (fun h => kf (fun q => h ((lg_cmp_eq x y).mpr q))))
theorem bl_ne (hx : p.tables.exec = Jvm.exec) (hb : c.code = cc) {x y : Int64} {off : Int} {tgt : Nat} (hd : decode cc pc = .ok (.lcmp, 1)) (hd2 : decode cc (pc + 1) = .ok (.ifCond .ne off, 3)) (ht : ((pc + 1 : Nat) : Int) + off = (tgt : Int)) (kt : ¬ x = y → W p l e R s m args below meth c H locs cs ss Q (F0 m tgt ls rest)) (kf : x = y → W p l e R s m args below meth c H locs cs ss Q (F0 m (pc + 1 + 3) ls rest)) : W p l e R s m args below meth c H locs cs ss Q (F0 m pc ls (.long y :: .long x :: rest)) :=
  W.lcmp hx hb hd (lv_if_ne hx hb hd2 ht (fun h => kt (fun q => h ((lg_cmp_eq x y).mpr q))) (fun h => kf ((lg_cmp_eq x y).mp h)))
theorem zs_ald (q0 : Nat) {a n : Nat} {f : Nat → Int32} {i v : Int32} (hC : CallFix p m c cc nL s args WALL own) (hG : BW D κ ws A s H locs) (ha : ws[q0]? = some (a, .inl (κ.1, n, .inl f))) (hin : vp_in i n) (hv : f i.toNatClampNeg = v) (hd : decode cc pc = .ok (.iaload, 1))
    (kk : W p l e R s m args below meth c H locs cs ss Q (F0 m (pc + 1) ls (.int v :: rest))) : W p l e R s m args below meth c H locs cs ss Q (F0 m pc ls (.int i :: .ref a :: rest)) := by
  subst hv
  exact va_iald hC.1 hC.2.1 hG.1 hG.2.1 q0 0 ha rfl hin hd kk
theorem zs_ast (q0 : Nat) {a n : Nat} {f : Nat → Int32} {i x : Int32} (hC : CallFix p m c cc nL s args WALL own) (hG : BW D κ ws A s H locs) (ha : ws[q0]? = some (a, .inl (κ.1, n, .inl f))) (hin : vp_in i n) (hd : decode cc pc = .ok (.iastore, 1))
    (kk : ∀ (H1 : Heap) (locs1 : List Loc), BW D κ (ws.set q0 (a, .inl (κ.1, n, .inl (va_up f i.toNatClampNeg x)))) A s H1 locs1 → W p l e R s m args below meth c H1 locs1 cs ss Q (F0 m (pc + 1) ls rest)) : W p l e R s m args below meth c H locs cs ss Q (F0 m pc ls (.int x :: .int i :: .ref a :: rest)) :=
  va_iast hC.1 hC.2.1 hG.1 hG.2.1 hG.2.2.1 hG.2.2.2.1 q0 0 ha rfl hin hd (fun H1 locs1 h1 h2 h3 => by
    rw [fnI] at h1 h2
    exact kk H1 locs1 ⟨hG.1, h1, h2, h3, hG.2.2.2.2⟩)
theorem zs_lld (q0 : Nat) {a n : Nat} {f : Nat → Int64} {i : Int32} {v : Int64} (hC : CallFix p m c cc nL s args WALL own) (hG : BW D κ ws A s H locs) (ha : ws[q0]? = some (a, .inl (κ.2.1, n, .inr (.inl f)))) (hin : vp_in i n) (hv : f i.toNatClampNeg = v) (hd : decode cc pc = .ok (.laload, 1))
    (kk : W p l e R s m args below meth c H locs cs ss Q (F0 m (pc + 1) ls (.long v :: rest))) : W p l e R s m args below meth c H locs cs ss Q (F0 m pc ls (.int i :: .ref a :: rest)) := by
  subst hv
  exact va_lald hC.1 hC.2.1 hG.1 hG.2.1 q0 1 ha rfl hin hd kk
theorem zs_lst (q0 : Nat) {a n : Nat} {f : Nat → Int64} {i : Int32} {x : Int64} (hC : CallFix p m c cc nL s args WALL own) (hG : BW D κ ws A s H locs) (ha : ws[q0]? = some (a, .inl (κ.2.1, n, .inr (.inl f)))) (hin : vp_in i n) (hd : decode cc pc = .ok (.lastore, 1))
    (kk : ∀ (H1 : Heap) (locs1 : List Loc), BW D κ (ws.set q0 (a, .inl (κ.2.1, n, .inr (.inl (va_up f i.toNatClampNeg x))))) A s H1 locs1 → W p l e R s m args below meth c H1 locs1 cs ss Q (F0 m (pc + 1) ls rest)) : W p l e R s m args below meth c H locs cs ss Q (F0 m pc ls (.long x :: .int i :: .ref a :: rest)) :=
  va_last hC.1 hC.2.1 hG.1 hG.2.1 hG.2.2.1 hG.2.2.2.1 q0 1 ha rfl hin hd (fun H1 locs1 h1 h2 h3 => by
    rw [fnJ] at h1 h2
    exact kk H1 locs1 ⟨hG.1, h1, h2, h3, hG.2.2.2.2⟩)
theorem bw_nO (hC : CallFix p m c cc nL s args WALL own) (hG : BW D κ ws A s H locs) (hT : ET s) (hcl : Cond.classLink own idx "java/lang/Object" ∈ WALL) {n : Int32} {N : Nat} (hn : ¬ n < 0) (hN : n.toNatClampNeg = N) (hN2 : N * 4 ≤ 536870912) (hcells : cs + 1 ≤ R.cells) (hslots : ss + N ≤ R.slots) (hd : decode cc pc = .ok (.anewarray idx, 3))
    (kk : ∀ (q : Nat) (H1 : Heap), BW D κ (ws ++ [(q, .inl (κ.2.2.2, N, .inr (.inr (.inr (.inr (fun _ => none))))))]) A s H1 locs → W p l e R s m args below meth c H1 locs (cs + 1) (ss + N) Q (F0 m (pc + 3) ls (.ref q :: rest))) : W p l e R s m args below meth c H locs cs ss Q (F0 m pc ls (.int n :: rest)) :=
  va_newq hC.1 hC.2.1 hC.2.2.2.1 (hC.2.2.2.2 _ hcl) hT.2.2.2.2 hG.1 hG.2.1 hG.2.2.1 hG.2.2.2.1 hG.2.2.2.2 hn hN hN2 hcells hslots hd (fun q cA H1 h0 h1 h2 h3 => by
    have e1 : va_RA s κ.2.2.2 (.object "java/lang/Object") := (h0.2 3 (κ.2.2.2, .object "java/lang/Object") rfl).2
    have e2 : va_RA s cA (.object "java/lang/Object") := (h0.2 4 (cA, .object "java/lang/Object") rfl).2
    obtain ⟨_, _, _, _, _, f1⟩ := e1
    obtain ⟨_, _, _, _, _, f2⟩ := e2
    have e3 : κ.2.2.2 = cA := Option.some.inj (f1.symm.trans f2)
    rw [← e3] at h1 h2
    exact kk q H1 ⟨hG.1, h1, h2, h3, hG.2.2.2.2⟩)
theorem zs_rst (q0 qk ci : Nat) {a n v : Nat} {r : vw_C} {vs : List Value} {f : Nat → Option Nat} {i : Int32} (hC : CallFix p m c cc nL s args WALL own) (hG : BW D κ ws A s H locs) (hT : ET s) (ha : ws[q0]? = some (a, .inl (κ.2.2.2, n, .inr (.inr (.inr (.inr f)))))) (hca : (r.1, "java/lang/Object") ∈ EVC) (hv : ws[qk]? = some (v, .inr (ci, vs))) (hc : vwM[ci]? = some r) (hin : vp_in i n) (hd : decode cc pc = .ok (.aastore, 1))
    (kk : ∀ (H1 : Heap) (locs1 : List Loc), BW D κ (ws.set q0 (a, .inl (κ.2.2.2, n, .inr (.inr (.inr (.inr (va_up f i.toNatClampNeg (some v)))))))) A s H1 locs1 → W p l e R s m args below meth c H1 locs1 cs ss Q (F0 m (pc + 1) ls rest)) : W p l e R s m args below meth c H locs cs ss Q (F0 m pc ls (.ref v :: .int i :: .ref a :: rest)) :=
  va_astqO hC.1 hC.2.1 hG.1 hG.2.1 hG.2.2.1 hG.2.2.2.1 q0 3 qk ci ha rfl (hT.1 _ hca) hv hc hin hd (fun H1 locs1 h1 h2 h3 => kk H1 locs1 ⟨hG.1, h1, h2, h3, hG.2.2.2.2⟩)
/-- the length of the lists' first array -/
theorem zs_elen (hC : CallFix p m c cc nL s args WALL own) (hG : BW D κ ws A s H locs) (hE : EA E0 D κ A s s.heap) (hd : decode cc pc = .ok (.arraylength, 1))
    (kk : W p l e R s m args below meth c H locs cs ss Q (F0 m (pc + 1) ls (.int 0 :: rest))) : W p l e R s m args below meth c H locs cs ss Q (F0 m pc ls (.ref E0 :: rest)) := by
  obtain ⟨cell, h1, h2, h3⟩ := hE.2.2.2.1.kept hE.2.2.2.2 hG.2.2.2.1.2.1
  exact W.alen (n := 0) hC.1 hC.2.1 h1 h2 h3 rfl rfl hd kk
theorem zs_est (hC : CallFix p m c cc nL s args WALL own) (hG : BW D κ ws A s H locs) (hE : EA E0 D κ A s s.heap) (wl : Cond.fieldLink own idx "java/util/ArrayList" "DEFAULTCAPACITY_EMPTY_ELEMENTDATA" "[Ljava/lang/Object;" ∈ WALL) (hd : decode cc pc = .ok (.getstatic idx, 3))
    (kk : W p l e R s m args below meth c H locs cs ss Q (F0 m (pc + 3) ls (.ref E0 :: rest))) : W p l e R s m args below meth c H locs cs ss Q (F0 m pc ls rest) :=
  va_gets hC.1 hC.2.1 hE.2.2.1 hG.2.2.2.1 hC.2.2.2.1 (hC.2.2.2.2 _ wl) (fun _ h => h) hd kk
theorem bw_getI {C ref : String} {T : u_T} {N ci : Nat} (k : Nat) (hk : k < N) (q0 : Nat) {a : Nat} {fs : List Value} {v : Value} (hC : CallFix p m c cc nL s args WALL own) (hG : BW D κ ws A s H locs) (hin : ∀ w ∈ u_ws C T N, w ∈ WALL)
    (he : ws[q0]? = some (a, .inr (ci, fs))) (hc : vwM[ci]? = some (C, T, N)) (wl : Cond.fieldLink own idx ref (T k).2.1 (T k).2.2.1 ∈ WALL) (hsame : Cond.sameField ref (T k).1 (T k).2.1 (T k).2.2.1 ∈ WALL) (hv : fs[k]? = some v) (hdg : decode cc pc = .ok (.getfield idx, 3))
    (kk : W p l e R s m args below meth c H locs cs ss Q (F0 m (pc + 3) ls (v :: rest))) : W p l e R s m args below meth c H locs cs ss Q (F0 m pc ls (.ref a :: rest)) :=
  va_get (D := D) (ci := ci) (v := v) (C := C) (T := T) (N := N) hC.1 hC.2.1 hC.2.2.2.2 hin hC.2.2.2.1 hG.1 hG.2.1 q0 he hc k hk (hC.2.2.2.2 _ wl) (fun x h => u_same (hC.2.2.2.2 _ hsame) x h) hv hdg kk
theorem bw_putI {C ref : String} {T : u_T} {N ci : Nat} {ty0 : Nat → FieldType} (k : Nat) (hk : k < N) (q0 : Nat) {a : Nat} {fs : List Value} (hC : CallFix p m c cc nL s args WALL own) (hG : BW D κ ws A s H locs) (hin : ∀ w ∈ u_ws C T N, w ∈ WALL) (hty : ∀ k, k < N → parseFieldDescriptor (T k).2.2.1 = some (ty0 k)) (hnm : ∀ a, a < N → ∀ b, b < N → a ≠ b → (T a).2.1 ≠ (T b).2.1)
    (he : ws[q0]? = some (a, .inr (ci, fs))) (hc : vwM[ci]? = some (C, T, N)) (wl : Cond.fieldLink own idx ref (T k).2.1 (T k).2.2.1 ∈ WALL) (hsame : Cond.sameField ref (T k).1 (T k).2.1 (T k).2.2.1 ∈ WALL) (hf : (T k).2.2.2 = false) {ty : FieldType} {v : Value} (hd : parseFieldDescriptor (T k).2.2.1 = some ty) (hn : narrow ty v = v) (hfit : fits ty v = true) (hl : k < fs.length)
    (hdg : decode cc pc = .ok (.putfield idx, 3)) (kk : ∀ (H1 : Heap) (locs1 : List Loc), BW D κ (ws.set q0 (a, .inr (ci, fs.set k v))) A s H1 locs1 → W p l e R s m args below meth c H1 locs1 cs ss Q (F0 m (pc + 3) ls rest)) : W p l e R s m args below meth c H locs cs ss Q (F0 m pc ls (v :: .ref a :: rest)) :=
  va_put (D := D) (ci := ci) (v := v) (ty := ty) (C := C) (T := T) (N := N) hC.1 hC.2.1 hC.2.2.2.2 hin ty0 hty hnm hC.2.2.2.1 hG.1 hG.2.1 hG.2.2.1 hG.2.2.2.1 q0 he hc k hk (hC.2.2.2.2 _ wl) (fun x h => u_same (hC.2.2.2.2 _ hsame) x h) hf hd hn hfit hl hdg (fun H1 locs1 h1 h2 h3 => kk H1 locs1 ⟨hG.1, h1, h2, h3, hG.2.2.2.2⟩)
variable {ws0 ws2 : va_W} {ws1 : W1 → va_W} {qs : W1}
theorem ze_i {v R0 : Int32} {ty : FieldType} (hC : CallFix p m c cc nL s args WALL own) (hG : BW D κ ws2 (va_A ws0 sz) s H locs) (hq : ws2 = ws1 qs) (hv : v = R0) (hr : meth.sig.returnType = some ty) (hn : narrow ty (.int v) = .int v) (hk : meth.locks = false) (hcs : cs ≤ mc) (hss : ss ≤ ms) (hd : decode cc pc = .ok (.ireturn, 1)) :
    W p l e R s m args below meth c H locs cs ss (MQ below (QI D κ ws0 sz R0 ws1) args s mc ms (va_A ws0 sz)) (F0 m pc ls [.int v]) := by
  subst hq
  refine W.widen (k := mc) (n := ms) hcs hss ?_
  exact W.zret (v := v) hC.1 hC.2.1 hr hn (fun t ht hW => ⟨⟨v, qs, rfl, hv, BC.of hG ht hW.alike, hG.2.2.1⟩, hG.2.2.2.1.F ht⟩) hG.2.2.2.1.2.2 hd hk
theorem ze_l {v R0 : Int64} (hC : CallFix p m c cc nL s args WALL own) (hG : BW D κ ws2 (va_A ws0 sz) s H locs) (hq : ws2 = ws1 qs) (hv : v = R0) (hr : meth.sig.returnType = some .long) (hk : meth.locks = false) (hcs : cs ≤ mc) (hss : ss ≤ ms) (hd : decode cc pc = .ok (.lreturn, 1)) :
    W p l e R s m args below meth c H locs cs ss (MQ below (QL D κ ws0 sz R0 ws1) args s mc ms (va_A ws0 sz)) (F0 m pc ls [.long v]) := by
  subst hq
  refine W.widen (k := mc) (n := ms) hcs hss ?_
  exact W.lret (v := v) hC.1 hC.2.1 hr (fun t ht hW => ⟨⟨v, qs, rfl, hv, BC.of hG ht hW.alike, hG.2.2.1⟩, hG.2.2.2.1.F ht⟩) hG.2.2.2.1.2.2 hd hk
theorem ze_d {v R0 : UInt64} (hC : CallFix p m c cc nL s args WALL own) (hG : BW D κ ws2 (va_A ws0 sz) s H locs) (hq : ws2 = ws1 qs) (hv : v = R0) (hr : meth.sig.returnType = some .double) (hk : meth.locks = false) (hcs : cs ≤ mc) (hss : ss ≤ ms) (hd : decode cc pc = .ok (.dreturn, 1)) :
    W p l e R s m args below meth c H locs cs ss (MQ below (QD D κ ws0 sz R0 ws1) args s mc ms (va_A ws0 sz)) (F0 m pc ls [.double v]) := by
  subst hq
  refine W.widen (k := mc) (n := ms) hcs hss ?_
  exact W.dret (v := v) hC.1 hC.2.1 hr (fun t ht hW => ⟨⟨v, qs, rfl, hv, BC.of hG ht hW.alike, hG.2.2.1⟩, hG.2.2.2.1.F ht⟩) hG.2.2.2.1.2.2 hd hk
theorem ze_v (hC : CallFix p m c cc nL s args WALL own) (hG : BW D κ ws2 (va_A ws0 sz) s H locs) (hq : ws2 = ws1 qs) (hr : meth.sig.returnType = none) (hk : meth.locks = false) (hcs : cs ≤ mc) (hss : ss ≤ ms) (hd : decode cc pc = .ok (.return_, 1)) :
    W p l e R s m args below meth c H locs cs ss (MQ below (QV D κ ws0 sz ws1) args s mc ms (va_A ws0 sz)) (F0 m pc ls []) := by
  subst hq
  refine W.widen (k := mc) (n := ms) hcs hss ?_
  exact W.vret hC.1 hC.2.1 hr (fun t ht hW => ⟨⟨qs, rfl, trivial, BC.of hG ht hW.alike, hG.2.2.1⟩, hG.2.2.2.1.F ht⟩) hG.2.2.2.1.2.2 hd hk
theorem ze_r {v : Nat} {R0 : W1 → Nat} {rt : FieldType} (hC : CallFix p m c cc nL s args WALL own) (hG : BW D κ ws2 (va_A ws0 sz) s H locs) (hq : ws2 = ws1 qs) (hv : v = R0 qs) (hr : meth.sig.returnType = some rt) (hrt : (∃ n, rt = .object n) ∨ ∃ t, rt = .array t) (hk : meth.locks = false) (hcs : cs ≤ mc) (hss : ss ≤ ms) (hd : decode cc pc = .ok (.areturn, 1)) :
    W p l e R s m args below meth c H locs cs ss (MQ below (QR D κ ws0 sz R0 ws1) args s mc ms (va_A ws0 sz)) (F0 m pc ls [.ref v]) := by
  subst hq
  refine W.widen (k := mc) (n := ms) hcs hss ?_
  exact W.aret (v := .ref v) hC.1 hC.2.1 hr hrt (Or.inr ⟨v, rfl⟩) (fun t ht hW => ⟨⟨qs, v, rfl, trivial, hv, BC.of hG ht hW.alike, hG.2.2.1⟩, hG.2.2.2.1.F ht⟩) hG.2.2.2.1.2.2 hd hk
end Ops
