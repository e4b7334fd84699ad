/-! METHODS: contracts over the world; their starts, ends and calls -/
/-- a contract: words: its own code, and the list of all -/
def TM (l : Launch) (y : MethodName) (bytes : ByteArray) (maxL : Nat) (ret : Option FieldType) (fr lo : Nat) (D : va_G) (κ : ClassId × ClassId × ClassId) (a : Nat → Nat) (u : TS) (sz : Nat) (av : List Value) (Qc : Array Value → State → Outcome → State → Prop) : Prop :=
  Met l y (.code y bytes maxL ret :: WALL) { frames := fr, cells := 0, slots := 0, locals := lo } (va_Pc av (fun U => U.heap.size = sz ∧ CW D κ a u U)) Qc 0 0 (AA a sz)
abbrev QI (D : va_G) (κ : ClassId × ClassId × ClassId) (a : Nat → Nat) (sz : Nat) (post : Int32 → TS → Prop) : Array Value → State → Outcome → State → Prop := va_Qi post (fun u' t => CW D κ a u' t) (AA a sz)
abbrev QL (D : va_G) (κ : ClassId × ClassId × ClassId) (a : Nat → Nat) (sz : Nat) (post : Int64 → TS → Prop) : Array Value → State → Outcome → State → Prop := va_Ql post (fun u' t => CW D κ a u' t) (AA a sz)
abbrev QV (D : va_G) (κ : ClassId × ClassId × ClassId) (a : Nat → Nat) (sz : Nat) (post : TS → Prop) : Array Value → State → Outcome → State → Prop := va_Qv post (fun u' t => CW D κ a u' t) (AA a sz)
theorem GW.sub {D : va_G} {κ : ClassId × ClassId × ClassId} {a : Nat → Nat} {u : TS} {A : Nat → Prop} {s : State} {H : Heap} {locs : List Loc} (h : GW D κ a u A s H locs) : (∀ q, q < H.size → AA a H.size q → A q) ∧ ∀ q, AA a H.size q → A q := ⟨fun q _ hq => AA.of h q hq, fun q hq => AA.of h q hq⟩
section Start
variable {p : Program} {l : Launch} {e : Env} {s : State} {m : MethodId} {below : List Frame} {meth : Method} {c : Code} {D : va_G} {κ : ClassId × ClassId × ClassId} {a : Nat → Nat} {u : TS} {sz : Nat}
theorem TM.of {y : MethodName} {bytes : ByteArray} {maxL : Nat} {ret : Option FieldType} {fr lo : Nat} {av : List Value} {Qc : Array Value → State → Outcome → State → Prop} (hy : plainName y.cls = true) (hL : (lg_sl av).length ≤ maxL)
    (body : ∀ (p : Program) (e : Env) (s : State) (m : MethodId) (below : List Frame) (meth : Method) (c : Code) (ls : Array Slot), CallFix p m c bytes maxL s av.toArray WALL y.cls → meth.sig.returnType = ret → meth.locks = false → s.heap.size = sz → ∀ (H : Heap) (locs : List Loc), GW D κ a u (AA a sz) s H locs → lv_has ls maxL (lv_args 0 av) →
      W p l e { frames := fr, cells := 0, slots := 0, locals := lo } s m av.toArray below meth c H locs 0 0 (MQ below Qc av.toArray s 0 0 (AA a sz)) (F0 m 0 ls [])) : TM l y bytes maxL ret fr lo D κ a u sz av Qc := by
  refine Met.ofW (cc := bytes) (maxL := maxL) (ret := ret) hy rfl ?_
  intro p e s m args below meth c s₁ B hml hv
  obtain ⟨rfl, hsz, hW⟩ := hv
  have hC : CallFix p m c bytes maxL s av.toArray WALL y.cls := ⟨B.exec, B.bytes, hml, findClass_of_methodNamed B.named, fun w h => atoms_spec (ws := .code y bytes maxL ret :: WALL) B.pre w (List.mem_cons_of_mem _ h)⟩
  rw [lg_entry_eq]
  exact body p e s m below meth c _ hC B.returns B.notSynchronized hsz _ _ (by rw [← hsz]; exact GW.start hW) (lv_entry av hL)
variable {A : Nat → Prop} {args : Array Value} {H : Heap} {locs : List Loc} {cc : ByteArray} {nL : Nat} {own : String} {pc : Nat} {ls : Array Slot} {R : Room} {u' : TS}
theorem te_i {v : Int32} {post : Int32 → TS → Prop} (hC : CallFix p m c cc nL s args WALL own) (hG : GW D κ a u' (AA a sz) s H locs) (hr : meth.sig.returnType = some .int) (hk : meth.locks = false) (hq : post v u') (hd : decode cc pc = .ok (.ireturn, 1)) :
    W p l e R s m args below meth c H locs 0 0 (MQ below (QI D κ a sz post) args s 0 0 (AA a sz)) (F0 m pc ls [.int v]) :=
  W.iret (v := v) hC.1 hC.2.1 hr (fun t ht hW => ⟨⟨v, u', rfl, hq, CW.of hG ht hW.alike⟩, hG.2.2.2.1.F ht⟩) hG.2.2.2.1.2.2 hd hk
theorem te_z {v : Bool} {post : Int32 → TS → Prop} (hC : CallFix p m c cc nL s args WALL own) (hG : GW D κ a u' (AA a sz) s H locs) (hr : meth.sig.returnType = some .boolean) (hk : meth.locks = false) (hq : post (bI v) u') (hd : decode cc pc = .ok (.ireturn, 1)) :
    W p l e R s m args below meth c H locs 0 0 (MQ below (QI D κ a sz post) args s 0 0 (AA a sz)) (F0 m pc ls [.int (bI v)]) :=
  W.zret (v := bI v) hC.1 hC.2.1 hr (bI_n v) (fun t ht hW => ⟨⟨bI v, u', rfl, hq, CW.of hG ht hW.alike⟩, hG.2.2.2.1.F ht⟩) hG.2.2.2.1.2.2 hd hk
theorem te_l {v : Int64} {post : Int64 → TS → Prop} (hC : CallFix p m c cc nL s args WALL own) (hG : GW D κ a u' (AA a sz) s H locs) (hr : meth.sig.returnType = some .long) (hk : meth.locks = false) (hq : post v u') (hd : decode cc pc = .ok (.lreturn, 1)) :
    W p l e R s m args below meth c H locs 0 0 (MQ below (QL D κ a sz post) args s 0 0 (AA a sz)) (F0 m pc ls [.long v]) :=
  W.lret (v := v) hC.1 hC.2.1 hr (fun t ht hW => ⟨⟨v, u', rfl, hq, CW.of hG ht hW.alike⟩, hG.2.2.2.1.F ht⟩) hG.2.2.2.1.2.2 hd hk
theorem te_v {post : TS → Prop} (hC : CallFix p m c cc nL s args WALL own) (hG : GW D κ a u' (AA a sz) s H locs) (hr : meth.sig.returnType = none) (hk : meth.locks = false) (hq : post u') (hd : decode cc pc = .ok (.return_, 1)) :
    W p l e R s m args below meth c H locs 0 0 (MQ below (QV D κ a sz post) args s 0 0 (AA a sz)) (F0 m pc ls []) :=
  W.vret hC.1 hC.2.1 hr (fun t ht hW => ⟨⟨u', rfl, hq, CW.of hG ht hW.alike⟩, hG.2.2.2.1.F ht⟩) hG.2.2.2.1.2.2 hd hk
end Start
section Call
variable {p : Program} {l : Launch} {e : Env} {R : Room} {s : State} {m : MethodId} {args : Array Value} {below : List Frame} {meth : Method} {c : Code} {H : Heap} {locs : List Loc} {cs ss : Nat} {Q : State → Prop} {cc : ByteArray} {nL pc : Nat} {ls : Array Slot} {rest st0 : List Value} {own : String} {idx : Nat} {D : va_G} {κ : ClassId × ClassId × ClassId} {a : Nat → Nat} {u : TS} {A : Nat → Prop}
  {y : MethodName} {bytes : ByteArray} {maxL : Nat} {ret : Option FieldType} {fr lo : Nat} {As : List Value} {b : Nat}
/-- what a call's callee needs of the words -/
theorem tw_B (hC : CallFix p m c cc nL s args WALL own) (n : Nat) (wl : Cond.methodLink own idx y ∈ WALL) (wn : Cond.initialized y.cls ∈ WALL) (wc : Cond.code y bytes maxL ret ∈ WALL)
    (hd : y.cls ≠ "java/lang/invoke/MethodHandle" ∧ y.cls ≠ "java/lang/invoke/VarHandle" ∧ (parseMethodDescriptor y.desc).map (fun d => d.parameters.length) = some n) (hR : fr + 1 ≤ R.frames ∧ 8 + (maxL + 11) + lo ≤ R.locals) :
    CallB R s args own idx y bytes maxL ret (.code y bytes maxL ret :: WALL) { frames := fr, cells := 0, slots := 0, locals := lo } 0 0 n :=
  callB_of (Ts := WALL) n hC.2.2.2.2 (fun w h => by
    rcases List.mem_cons.mp h with rfl | h
    · exact wl_in _ wc
    · exact wl_in _ h) rfl rfl rfl (hC.2.2.2.2 _ wn) (hC.2.2.2.2 _ wl) hd hR
theorem tp_V {k ci : Nat} {fs : List Value} {q : vw_C} (hG : GW D κ a u A s H locs) (hb : (cells κ a u)[k]? = some (b, .inr (ci, fs))) (hcl : vwCl[ci]? = some q) :
    PreV s H q.1 b (va_Pc (.ref b :: As) (fun U => U.heap.size = H.size ∧ CW D κ a u U)) As :=
  ⟨CW.blind, va_recv hG.1 hG.2.1 hcl hb, fun U hU hW => ⟨rfl, by rw [hU], va_K.moved hW.alike hG.1, by rw [hU]; exact hG.2.1, hG.2.2.1.weaken (fun _ _ _ _ => trivial)⟩⟩
theorem tp_S (hG : GW D κ a u A s H locs) : PreS s H (va_Pc As (fun U => U.heap.size = H.size ∧ CW D κ a u U)) As :=
  ⟨CW.blind, fun U hU hW => ⟨rfl, by rw [hU], va_K.moved hW.alike hG.1, by rw [hU]; exact hG.2.1, hG.2.2.1.weaken (fun _ _ _ _ => trivial)⟩⟩
/-- a virtual call's run -/
theorem tr_V {k ci n : Nat} {fs : List Value} {q : vw_C} {Qc : Array Value → State → Outcome → State → Prop} (hC : CallFix p m c cc nL s args WALL own) (hG : GW D κ a u A s H locs) (hM : TM l y bytes maxL ret fr lo D κ a u H.size (.ref b :: As) Qc)
    (hb : (cells κ a u)[k]? = some (b, .inr (ci, fs))) (hcl : vwCl[ci]? = some q)
    (wl : Cond.methodLink own idx y ∈ WALL) (wn : Cond.initialized y.cls ∈ WALL) (wc : Cond.code y bytes maxL ret ∈ WALL) (wi : Cond.instanceMethod y ∈ WALL) (ws : Cond.selects q.1 y y ∈ WALL)
    (hd : y.cls ≠ "java/lang/invoke/MethodHandle" ∧ y.cls ≠ "java/lang/invoke/VarHandle" ∧ (parseMethodDescriptor y.desc).map (fun d => d.parameters.length) = some n) (hR : fr + 1 ≤ R.frames ∧ 8 + (maxL + 11) + lo ≤ R.locals)
    (hn : As.length = n) (hls : ls.size = nL) (hst : st0 = As.reverse ++ .ref b :: rest) (h8 : (rest.map fun v => v.category).sum ≤ 8) (hdg : decode cc pc = .ok (.invokevirtual idx, 3)) (hcs : cs ≤ R.cells ∧ ss ≤ R.slots) :
    va_Run p l e R s m args below meth c H locs cs ss 0 0 (F0 m pc ls st0) rest (Qc (Value.ref b :: As).toArray) (AA a H.size) :=
  va_runV (As := As) (rest := rest) hC hM ⟨tw_B hC n wl wn wc hd hR, hC.2.2.2.2 _ wi, hC.2.2.2.2 _ ws⟩ (tp_V hG hb hcl) rfl hn hls hst (lv_room h8) hdg hcs
theorem tr_S {n : Nat} {Qc : Array Value → State → Outcome → State → Prop} (hC : CallFix p m c cc nL s args WALL own) (hG : GW D κ a u A s H locs) (hM : TM l y bytes maxL ret fr lo D κ a u H.size As Qc)
    (wl : Cond.methodLink own idx y ∈ WALL) (wn : Cond.initialized y.cls ∈ WALL) (wc : Cond.code y bytes maxL ret ∈ WALL) (wi : Cond.static y ∈ WALL)
    (hd : y.cls ≠ "java/lang/invoke/MethodHandle" ∧ y.cls ≠ "java/lang/invoke/VarHandle" ∧ (parseMethodDescriptor y.desc).map (fun d => d.parameters.length) = some n) (hR : fr + 1 ≤ R.frames ∧ 8 + (maxL + 11) + lo ≤ R.locals)
    (hn : As.length = n) (hls : ls.size = nL) (hst : st0 = As.reverse ++ rest) (h8 : (rest.map fun v => v.category).sum ≤ 8) (hdg : decode cc pc = .ok (.invokestatic idx, 3)) (hcs : cs ≤ R.cells ∧ ss ≤ R.slots) :
    va_Run p l e R s m args below meth c H locs cs ss 0 0 (F0 m pc ls st0) rest (Qc As.toArray) (AA a H.size) :=
  va_runS (As := As) (rest := rest) hC hM ⟨tw_B hC n wl wn wc hd hR, hC.2.2.2.2 _ wi⟩ (tp_S hG) rfl hn hls hst (lv_room h8) hdg hcs
theorem tc_i {av : Array Value} {post : Int32 → TS → Prop} (hG : GW D κ a u A s H locs) (hr : va_Run p l e R s m args below meth c H locs cs ss 0 0 (F0 m pc ls st0) rest (QI D κ a H.size post av) (AA a H.size))
    (kk : ∀ (r : Int32) (u' : TS) (H1 : Heap) (locs1 : List Loc), post r u' → GW D κ a u' A s H1 locs1 → W p l e R s m args below meth c H1 locs1 cs ss Q (F0 m (pc + 3) ls (.int r :: rest))) : W p l e R s m args below meth c H locs cs ss Q (F0 m pc ls st0) :=
  va_calli hr hG.2.2.2.1 hG.sub.1 hG.sub.2 (fun r u' t H1 locs1 ht hvm hw hB _ _ hS => kk r u' H1 locs1 hw (hG.back hB ht hvm hS))
theorem tc_l {av : Array Value} {post : Int64 → TS → Prop} (hG : GW D κ a u A s H locs) (hr : va_Run p l e R s m args below meth c H locs cs ss 0 0 (F0 m pc ls st0) rest (QL D κ a H.size post av) (AA a H.size))
    (kk : ∀ (r : Int64) (u' : TS) (H1 : Heap) (locs1 : List Loc), post r u' → GW D κ a u' A s H1 locs1 → W p l e R s m args below meth c H1 locs1 cs ss Q (F0 m (pc + 3) ls (.long r :: rest))) : W p l e R s m args below meth c H locs cs ss Q (F0 m pc ls st0) :=
  va_calll hr hG.2.2.2.1 hG.sub.1 hG.sub.2 (fun r u' t H1 locs1 ht hvm hw hB _ _ hS => kk r u' H1 locs1 hw (hG.back hB ht hvm hS))
theorem tc_v {av : Array Value} {post : TS → Prop} (hG : GW D κ a u A s H locs) (hr : va_Run p l e R s m args below meth c H locs cs ss 0 0 (F0 m pc ls st0) rest (QV D κ a H.size post av) (AA a H.size))
    (kk : ∀ (u' : TS) (H1 : Heap) (locs1 : List Loc), post u' → GW D κ a u' A s H1 locs1 → W p l e R s m args below meth c H1 locs1 cs ss Q (F0 m (pc + 3) ls rest)) : W p l e R s m args below meth c H locs cs ss Q (F0 m pc ls st0) :=
  va_callv hr hG.2.2.2.1 hG.sub.1 hG.sub.2 (fun u' t H1 locs1 ht hvm hw hB _ _ hS => kk u' H1 locs1 hw (hG.back hB ht hvm hS))
end Call
