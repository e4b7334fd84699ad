/-! WHAT STAYS THROUGHOUT: words that are no list's, statics, texts -/
def X_IA : String := "java/lang/IllegalArgumentException"
def X_IS : String := "java/lang/IllegalStateException"
def X_IO : String := "java/lang/IndexOutOfBoundsException"
def X_nm : List String := ["java/lang/RuntimeException", "java/lang/Exception"]
def EVC : List (String × String) := [("java/lang/IllegalArgumentException", "java/lang/IllegalArgumentException"), ("java/lang/IllegalStateException", "java/lang/IllegalStateException"), ("java/lang/IndexOutOfBoundsException", "java/lang/IndexOutOfBoundsException"), ("TollgateModel$Account", "java/lang/Object")]
def EVD : List MethodName := [⟨"java/lang/RuntimeException", "<init>", "(Ljava/lang/String;)V"⟩, ⟨"java/lang/Exception", "<init>", "(Ljava/lang/String;)V"⟩, ⟨"java/lang/Throwable", "<init>", "(Ljava/lang/String;)V"⟩]
def EVN : List (String × String) := [("java/lang/IllegalArgumentException", "java/lang/IllegalStateException"), ("java/lang/IllegalArgumentException", "java/lang/IndexOutOfBoundsException"), ("java/lang/IllegalStateException", "java/lang/IllegalArgumentException"), ("java/lang/IllegalStateException", "java/lang/IndexOutOfBoundsException"), ("java/lang/IndexOutOfBoundsException", "java/lang/IllegalArgumentException"), ("java/lang/IndexOutOfBoundsException", "java/lang/IllegalStateException")]
def EVS : List (Nat × String) := [(343, "what is 0 to 5"), (404, "no such account"), (327, "what is 0 to 4"), (196, "no such entry"), (220, "what is 0 to 3"), (222, "no such leg"), (329, "no such line"), (351, "no such kind"), (131, "no such day"), (73, "no such currency or rate"), (84, "an account has that currency"), (91, "no such kind or currency"), (96, "there are as many accounts as there can be"), (107, "no such floor"), (117, "the account is below that floor"), (129, "the account is of another currency than 0"), (136, "no such note"), (415, "no such amount"), (153, "no draft that takes a leg"), (170, "the draft cannot be posted"), (202, "a closing is not turned back"), (422, "no such entry can be made today"), (243, "no such hold can be"), (246, "there were as many holds as there can be"), (252, "less is to be had"), (406, "no such hold"), (263, "that cannot be taken from the hold"), (412, "the hold is not open"), (275, "no closing up to that day, or not into that account"), (284, "that day is locked, or no entry can be made"), (296, "nothing is closed"), (302, "there are as many lines as there can be"), (417, "days are 0 to 30"), (359, "no such day from today on")]
def ET (U : State) : Prop := (∀ q ∈ EVC, va_Nw (.castable q.1 q.2) U) ∧ (∀ x ∈ EVD, va_Nw (.declares x) U) ∧ (∀ q ∈ EVN, va_Nc q.1 q.2 U) ∧ (∀ q ∈ EVS, ∃ sa, vk_R RX7 q.1 q.2 sa U) ∧ va_AO "java/lang/Object" U
theorem ET.warm {s U : State} (hW : s.WarmedH U.vm) (h : ET s) : ET U :=
  ⟨fun q hq => va_Nw.warmC hW (h.1 q hq), fun x hx => va_Nw.warmD hW (h.2.1 x hx), fun q hq => (h.2.2.1 q hq).moved hW.alike, fun q hq => by
    obtain ⟨sa, hs⟩ := h.2.2.2.1 q hq
    exact ⟨sa, vk_R.warm hW hs⟩, h.2.2.2.2.moved hW.alike⟩
theorem ET.same {u U : State} (hv : u.vm = U.vm) (h : ET u) : ET U :=
  ⟨fun q hq => va_Nw.same rfl hv (h.1 q hq), fun x hx => va_Nw.same rfl hv (h.2.1 x hx), fun q hq => (h.2.2.1 q hq).moved (by rw [hv]; exact Vm.Alike.refl _), fun q hq => by
    obtain ⟨sa, hs⟩ := h.2.2.2.1 q hq
    exact ⟨sa, vk_R.same hv.symm hs⟩, h.2.2.2.2.moved (by rw [hv]; exact Vm.Alike.refl _)⟩
/-- the empty array that the lists begin with -/
def ea_X (E0 : Nat) (U : State) (H : Heap) : Prop := ∃ cell : Cell, H[E0]? = some cell ∧ U.isArrayOf cell (.object "java/lang/Object") ∧ cell.slots.size.toInt32 = 0
theorem ea_X.moved {E0 : Nat} {u U : State} {H : Heap} (hvm : u.vm.Alike U.vm) (h : ea_X E0 u H) : ea_X E0 U H := by
  obtain ⟨cell, h1, h2, h3⟩ := h
  exact ⟨cell, h1, State.isArrayOf_alike hvm h2, h3⟩
def EA (E0 : Nat) (D : va_G) (κ : K4) (A : Nat → Prop) (U : State) (H : Heap) : Prop :=
  vx_Zq Bundle.tN "UNASSIGNED_STACK" Bundle.steD A U H ∧ vx_Zq Bundle.tN "SUPPRESSED_SENTINEL" Bundle.listD A U H ∧
  va_Z "java/util/ArrayList" "DEFAULTCAPACITY_EMPTY_ELEMENTDATA" "[Ljava/lang/Object;" (.ref E0) A U H ∧ ea_X E0 U H ∧ ¬ A E0
theorem ea_X.kept {E0 : Nat} {A : Nat → Prop} {U : State} {H H1 : Heap} (h : ea_X E0 U H) (hn : ¬ A E0) (hq : ∀ a : Nat, a < H.size → ¬ A a → H1[a]? = H[a]?) : ea_X E0 U H1 := by
  obtain ⟨cell, h1, h2, h3⟩ := h
  exact ⟨cell, by rw [hq E0 (Array.getElem?_eq_some_iff.mp h1).1 hn]; exact h1, h2, h3⟩
theorem EA.call {E0 : Nat} {D : va_G} {κ : K4} {A B : Nat → Prop} {s : State} {H : Heap} {locs : List Loc} (h : EA E0 D κ A s s.heap) (hS : va_S A s.heap H locs) (hAB : ∀ q, B q → A q) {U : State} (hU : U.heap = H) (hv : s.vm.Alike U.vm) : EA E0 D κ B U U.heap := by
  obtain ⟨h1, h2, h3, h4, h5⟩ := h
  have hq : ∀ a : Nat, a < s.heap.size → ¬ A a → U.heap[a]? = s.heap[a]? := fun a ha hn => by rw [hU]; exact hS.2.1 a ha hn
  exact ⟨((h1.kept hq).moved hv).narrow hAB, ((h2.kept hq).moved hv).narrow hAB, ((h3.kept hq).moved hv).narrow hAB, (h4.kept h5 hq).moved hv, fun z => h5 (hAB _ z)⟩
/-- what holds where a method starts -/
def PB (E0 : Nat) (D : va_G) (κ : K4) (ws : va_W) (sz : Nat) (av : List Value) : Array Value → State → Prop := va_Pc av (fun U => U.heap.size = sz ∧ BC D κ ws U ∧ EA E0 D κ (va_A ws sz) U U.heap ∧ ET U)
theorem PB.blind {E0 : Nat} {D : va_G} {κ : K4} {ws : va_W} {sz : Nat} {av : List Value} : FrameBlind (PB E0 D κ ws sz av) :=
  fun x U g mk q => ⟨q.1, q.2.1, ⟨va_K.moved (u := U) (U := U.calling g mk x) (Vm.Alike.refl U.vm) q.2.2.1.1, q.2.2.1.2⟩,
    ⟨(vx_Zq.moved (u := U) (U := U.calling g mk x) (Vm.Alike.refl U.vm) q.2.2.2.1.1), (vx_Zq.moved (u := U) (U := U.calling g mk x) (Vm.Alike.refl U.vm) q.2.2.2.1.2.1), (va_Z.moved (u := U) (U := U.calling g mk x) (Vm.Alike.refl U.vm) q.2.2.2.1.2.2.1), (ea_X.moved (u := U) (U := U.calling g mk x) (Vm.Alike.refl U.vm) q.2.2.2.1.2.2.2.1), q.2.2.2.1.2.2.2.2⟩, ET.same (u := U) (U := U.calling g mk x) rfl q.2.2.2.2⟩
/-- a part of a world, and the rest of it -/
def Cut (ws wc wr : va_W) : Prop := ∃ isC isR : List Nat, isC.map (fun i => ws[i]?) = wc.map some ∧ isR.map (fun i => ws[i]?) = wr.map some ∧ va_nd isR = true ∧ (∀ i ∈ isR, i ∉ isC) ∧ va_nd isC = true
theorem Cut.idx {ws wc wr : va_W} (isC isR : List Nat) (h1 : isC.map (fun i => ws[i]?) = wc.map some) (h2 : isR.map (fun i => ws[i]?) = wr.map some) (h3 : va_nd isR = true) (h4 : ∀ i ∈ isR, i ∉ isC) (h5 : va_nd isC = true) : Cut ws wc wr := ⟨isC, isR, h1, h2, h3, h4, h5⟩
theorem cut_range (ws wr : va_W) : (List.range ws.length).map (fun i => (ws ++ wr)[i]?) = ws.map some := by
  apply List.ext_getElem?
  intro i
  rw [List.getElem?_map, List.getElem?_map]
  rcases Nat.lt_or_ge i ws.length with h | h
  · rw [List.getElem?_range h]
    show some ((ws ++ wr)[i]?) = _
    rw [List.getElem?_append_left h, List.getElem?_eq_getElem h]
    rfl
  · rw [List.getElem?_eq_none (by simpa using h), List.getElem?_eq_none (by simpa using h)]
    rfl
theorem Cut.all (n : Nat) {ws : va_W} (hn : ws.length = n) (hd : va_nd (List.range n) = true) : Cut ws ws [] := ⟨List.range n, [], by subst hn; have := cut_range ws []; rw [List.append_nil] at this; exact this, rfl, rfl, fun i h => by simp at h, hd⟩
theorem Cut.one (n : Nat) {wc : va_W} {x : Nat × va_E} (hn : wc.length = n) (hd : va_nd (List.range n) = true) : Cut (wc ++ [x]) wc [x] := ⟨List.range n, [n], by subst hn; exact cut_range wc [x], by subst hn; simp, rfl, fun i h => by simp at h; subst h; simp, hd⟩
section Bodies
variable {l : Launch} {E0 : Nat} {D : va_G} {κ : K4} {ws : va_W} {sz : Nat} {av : List Value}
abbrev RM (fr lo mc ms : Nat) : Room := { frames := fr, cells := mc, slots := ms, locals := lo }
/-- a contract: it returns -/
def NM (l : Launch) (y : MethodName) (bytes : ByteArray) (maxL : Nat) (ret : Option FieldType) (fr lo mc ms : Nat) (E0 : Nat) (D : va_G) (κ : K4) (ws : va_W) (sz : Nat) (av : List Value) (Qc : Array Value → State → Outcome → State → Prop) : Prop :=
  Met l y (.code y bytes maxL ret :: WALL) (RM fr lo mc ms) (PB E0 D κ ws sz av) Qc mc ms (va_A ws sz)
/-- .. of a method with handlers -/
def NH (l : Launch) (y : MethodName) (bytes : ByteArray) (maxL : Nat) (ret : Option FieldType) (hh : List (Nat × Nat × Nat × Nat)) (fr lo mc ms : Nat) (E0 : Nat) (D : va_G) (κ : K4) (ws : va_W) (sz : Nat) (av : List Value) (Qc : Array Value → State → Outcome → State → Prop) : Prop :=
  Met l y (.codeWith y bytes maxL ret hh :: WALL) (RM fr lo mc ms) (PB E0 D κ ws sz av) Qc mc ms (va_A ws sz)
def XC1 (E : String) (A : Nat → Prop) : String → State → State → Prop := vx_X (fun _ : Unit => True) (fun E' _ _ => E' = E) A
/-- a contract: it throws E -/
def XM (l : Launch) (y : MethodName) (bytes : ByteArray) (maxL : Nat) (ret : Option FieldType) (fr lo mc ms : Nat) (E0 : Nat) (D : va_G) (κ : K4) (ws : va_W) (sz : Nat) (av : List Value) (E : String) (Qc : Array Value → State → Outcome → State → Prop) : Prop :=
  vx_Met l y (.code y bytes maxL ret :: WALL) (RM fr lo mc ms) (PB E0 D κ ws sz av) Qc (XC1 E (va_A ws sz)) mc ms (va_A ws sz)
abbrev W1 : Type := Nat → Nat
abbrev QI (D : va_G) (κ : K4) (ws : va_W) (sz : Nat) (R : Int32) (ws1 : W1 → va_W) : Array Value → State → Outcome → State → Prop := va_Qi (fun r (_ : W1) => r = R) (fun qs t => BC D κ (ws1 qs) t ∧ va_D (va_A ws sz) (ws1 qs)) (va_A ws sz)
abbrev QL (D : va_G) (κ : K4) (ws : va_W) (sz : Nat) (R : Int64) (ws1 : W1 → va_W) : Array Value → State → Outcome → State → Prop := va_Ql (fun r (_ : W1) => r = R) (fun qs t => BC D κ (ws1 qs) t ∧ va_D (va_A ws sz) (ws1 qs)) (va_A ws sz)
abbrev QD (D : va_G) (κ : K4) (ws : va_W) (sz : Nat) (R : UInt64) (ws1 : W1 → va_W) : Array Value → State → Outcome → State → Prop := va_Qd (fun r (_ : W1) => r = R) (fun qs t => BC D κ (ws1 qs) t ∧ va_D (va_A ws sz) (ws1 qs)) (va_A ws sz)
abbrev QV (D : va_G) (κ : K4) (ws : va_W) (sz : Nat) (ws1 : W1 → va_W) : Array Value → State → Outcome → State → Prop := va_Qv (fun _ : W1 => True) (fun qs t => BC D κ (ws1 qs) t ∧ va_D (va_A ws sz) (ws1 qs)) (va_A ws sz)
abbrev QR (D : va_G) (κ : K4) (ws : va_W) (sz : Nat) (R : W1 → Nat) (ws1 : W1 → va_W) : Array Value → State → Outcome → State → Prop := va_Qr (fun _ : W1 => True) (fun qs a t => a = R qs ∧ BC D κ (ws1 qs) t ∧ va_D (va_A ws sz) (ws1 qs)) (va_A ws sz)
abbrev NI (ws : va_W) (sz : Nat) : Array Value → State → Outcome → State → Prop := va_Qi (fun _ (_ : Unit) => False) (fun _ _ => True) (va_A ws sz)
abbrev NL (ws : va_W) (sz : Nat) : Array Value → State → Outcome → State → Prop := va_Ql (fun _ (_ : Unit) => False) (fun _ _ => True) (va_A ws sz)
abbrev NV (ws : va_W) (sz : Nat) : Array Value → State → Outcome → State → Prop := va_Qv (fun _ : Unit => False) (fun _ _ => True) (va_A ws sz)
theorem NM.of {y : MethodName} {bytes : ByteArray} {maxL : Nat} {ret : Option FieldType} {fr lo mc ms : Nat} {Qc : Array Value → State → Outcome → State → Prop} (hy : plainName y.cls = true) (hL : (lg_sl av).length ≤ maxL)
    (body : ∀ (p : Program) (e : Env) (s : State) (m : MethodId) (below : List Frame) (meth : Method) (c : Code) (ls : Array Slot), CallFix p m c bytes maxL s av.toArray WALL y.cls → meth.sig.returnType = ret → meth.locks = false → (y.name = "<init>" → meth.name = "<init>") → s.heap.size = sz → EA E0 D κ (va_A ws sz) s s.heap → ET s → ∀ (H : Heap) (locs : List Loc), BW D κ ws (va_A ws sz) s H locs → lv_has ls maxL (lv_args 0 av) →
      W p l e (RM fr lo mc ms) s m av.toArray below meth c H locs 0 0 (MQ below Qc av.toArray s mc ms (va_A ws sz)) (F0 m 0 ls [])) : NM l y bytes maxL ret fr lo mc ms E0 D κ ws sz av Qc := by
  refine Met.ofW (cc := bytes) (maxL := maxL) (ret := ret) hy rfl ?_
  intro p e s m args below meth c s₁ B hml hv
  obtain ⟨rfl, hsz, hW, hE, hT⟩ := hv
  have hC : CallFix p m c bytes maxL s av.toArray WALL y.cls := ⟨B.exec, B.bytes, hml, findClass_of_methodNamed B.named, fun w h => atoms_spec (ws := .code y bytes maxL ret :: WALL) B.pre w (List.mem_cons_of_mem _ h)⟩
  rw [lg_entry_eq]
  exact body p e s m below meth c _ hC B.returns B.notSynchronized (fun hi => by rw [← hi]; exact (name_of_methodNamed B.named B.method).1) hsz hE hT _ _ (by rw [← hsz]; exact BW.start hW) (lv_entry av hL)
theorem NH.of {y : MethodName} {bytes : ByteArray} {maxL : Nat} {ret : Option FieldType} {hh : List (Nat × Nat × Nat × Nat)} {fr lo mc ms : Nat} {Qc : Array Value → State → Outcome → State → Prop} (hy : plainName y.cls = true) (hL : (lg_sl av).length ≤ maxL)
    (body : ∀ (p : Program) (e : Env) (s : State) (m : MethodId) (below : List Frame) (meth : Method) (c : Code) (ls : Array Slot), CallFix p m c bytes maxL s av.toArray WALL y.cls → meth.sig.returnType = ret → meth.locks = false → c.exceptionTable.toList = tableOf hh → s.heap.size = sz → EA E0 D κ (va_A ws sz) s s.heap → ET s → ∀ (H : Heap) (locs : List Loc), BW D κ ws (va_A ws sz) s H locs → lv_has ls maxL (lv_args 0 av) →
      W p l e (RM fr lo mc ms) s m av.toArray below meth c H locs 0 0 (MQ below Qc av.toArray s mc ms (va_A ws sz)) (F0 m 0 ls [])) : NH l y bytes maxL ret hh fr lo mc ms E0 D κ ws sz av Qc := by
  unfold NH Met
  refine MetFree.of_bodyS (code := bytes) (maxLocals := maxL) (ret := ret) hy ?_ ?_
  · intro args s m h hn
    obtain ⟨m9, meth, c, hn9, h1, h2, h3, h4, -, h5, h6, -⟩ := Cond.codeWith_spec (atoms_spec (ws := .codeWith y bytes maxL ret hh :: WALL) h _ List.mem_cons_self)
    cases hn.symm.trans hn9
    exact ⟨meth, c, h1, h2, h3, h4, h5, h6⟩
  · intro p e s m args below meth c s₁ B hml hv _
    obtain ⟨rfl, hsz, hW, hE, hT⟩ := hv
    have hh0 : s₁.heap = s.heap := by rw [B.state]; rfl
    have hC : CallFix p m c bytes maxL s av.toArray WALL y.cls := ⟨B.exec, B.bytes, hml, findClass_of_methodNamed B.named, fun w h => atoms_spec (ws := .codeWith y bytes maxL ret hh :: WALL) B.pre w (List.mem_cons_of_mem _ h)⟩
    have ht := vx_table (x := y) B (atoms_spec (ws := .codeWith y bytes maxL ret hh :: WALL) B.pre _ List.mem_cons_self)
    have K := body p e s m below meth c _ hC B.returns B.notSynchronized ht hsz hE hT _ _ (by rw [← hsz]; exact BW.start hW) (lv_entry av hL)
    rw [← lg_entry_eq] at K
    obtain ⟨t, a1, o, b1, b2, b3⟩ := K s₁ hh0 (Stand.of_body B)
    exact ⟨t, o, a1, b1, b2, ⟨b3.1, b3.2⟩⟩
theorem XM.of {y : MethodName} {bytes : ByteArray} {maxL : Nat} {ret : Option FieldType} {fr lo mc ms : Nat} {E : String} {Qc : Array Value → State → Outcome → State → Prop} (hy : plainName y.cls = true) (hL : (lg_sl av).length ≤ maxL)
    (body : ∀ (p : Program) (e : Env) (s : State) (m : MethodId) (below : List Frame) (meth : Method) (c : Code) (ls : Array Slot), CallFix p m c bytes maxL s av.toArray WALL y.cls → meth.locks = false → (∀ x ∈ c.exceptionTable.toList, False) → s.heap.size = sz → EA E0 D κ (va_A ws sz) s s.heap → ET s → ∀ (H : Heap) (locs : List Loc), BW D κ ws (va_A ws sz) s H locs → lv_has ls maxL (lv_args 0 av) →
      W p l e (RM fr lo mc ms) s m av.toArray below meth c H locs 0 0 (vx_MQ below Qc (XC1 E (va_A ws sz)) av.toArray s mc ms (va_A ws sz)) (F0 m 0 ls [])) : XM l y bytes maxL ret fr lo mc ms E0 D κ ws sz av E Qc := by
  refine vx_ofW (cc := bytes) (maxL := maxL) (ret := ret) hy rfl ?_
  intro p e s m args below meth c s₁ B hml ht hv
  obtain ⟨rfl, hsz, hW, hE, hT⟩ := hv
  have hC : CallFix p m c bytes maxL s av.toArray WALL y.cls := ⟨B.exec, B.bytes, hml, findClass_of_methodNamed B.named, fun w h => atoms_spec (ws := .code y bytes maxL ret :: WALL) B.pre w (List.mem_cons_of_mem _ h)⟩
  rw [lg_entry_eq]
  exact body p e s m below meth c _ hC B.notSynchronized ht hsz hE hT _ _ (by rw [← hsz]; exact BW.start hW) (lv_entry av hL)
end Bodies
section Calls
variable {p : Program} {l : Launch} {e : Env} {R : Room} {s : State} {m : MethodId} {args : Array Value} {below : List Frame} {meth : Method} {c : Code} {H : Heap} {locs : List Loc} {cs ss : Nat} {Q : State → Prop} {cc : ByteArray} {nL pc : Nat} {ls : Array Slot} {rest st0 : List Value} {own : String} {idx : Nat} {E0 : Nat} {D : va_G} {κ : K4} {ws wc wr : va_W} {A : Nat → Prop}
  {y : MethodName} {bytes : ByteArray} {maxL : Nat} {ret : Option FieldType} {fr lo mc ms : Nat} {As : List Value} {b : Nat} {Qc : Array Value → State → Outcome → State → Prop} {E : String}
theorem cut_free (hG : BW D κ ws A s H locs) (hcut : Cut ws wc wr) : ∀ q, va_A wc H.size q → A q := by
  obtain ⟨isC, isR, h1, -⟩ := hcut
  exact va_free hG.2.2.1 hG.2.2.2.1 hG.2.2.2.2 isC h1
theorem cut_BW (hG : BW D κ ws A s H locs) (hcut : Cut ws wc wr) : BW D κ wc A s H locs := by
  obtain ⟨isC, isR, h1, -, -, -, h5⟩ := hcut
  exact hG.at isC h5 h1
theorem cut_rest (hG : BW D κ ws A s H locs) (hcut : Cut ws wc wr) : BW D κ wr A s H locs := by
  obtain ⟨isC, isR, h1, h2, h3, -, -⟩ := hcut
  exact hG.at isR h3 h2
/-- the rest of a world, and what came back -/
theorem cut_join (hG : BW D κ ws A s H locs) (hcut : Cut ws wc wr) {w1 : va_W} {t : State} {H1 : Heap} {locs1 : List Loc} (ht : t.heap = H1) (hB : BC D κ w1 t ∧ va_D (va_A wc H.size) w1) (hk : ∀ q : Nat, q < H.size → ¬ va_A wc H.size q → H1[q]? = H[q]?) (hS : va_S A s.heap H1 locs1) : BW D κ (wr ++ w1) A s H1 locs1 := by
  have hF := cut_free hG hcut
  obtain ⟨isC, isR, h1, h2, h3, h4, -⟩ := hcut
  obtain ⟨⟨hK1, hP1, hD1⟩, hD2⟩ := hB
  rw [ht] at hP1
  obtain ⟨hP, hD⟩ := va_join hG.2.1 hG.2.2.1 isC isR h1 h2 h3 h4 hk hF hP1 hD2
  exact ⟨hG.1, hP, hD, hS, hG.2.2.2.2⟩
theorem cut_kept (hG : BW D κ ws A s H locs) (hcut : Cut ws wc wr) {H1 : Heap} {locs1 : List Loc} (hk : ∀ q : Nat, q < H.size → ¬ va_A wc H.size q → H1[q]? = H[q]?) (hS : va_S A s.heap H1 locs1) : BW D κ wr A s H1 locs1 := by
  have hF := cut_free hG hcut
  obtain ⟨isC, isR, h1, h2, h3, h4, -⟩ := hcut
  have hP0 : va_P D vwM [] H1 := fun k q h => by simp at h
  have hD0 : va_D (va_A wc H.size) [] := ⟨fun i j p q h => by simp at h, fun k q h => by simp at h⟩
  obtain ⟨hP, hD⟩ := va_join hG.2.1 hG.2.2.1 isC isR h1 h2 h3 h4 hk hF hP0 hD0
  rw [List.append_nil] at hP hD
  exact ⟨hG.1, hP, hD, hS, hG.2.2.2.2⟩
theorem PB.to (hG : BW D κ ws A s H locs) (hE : EA E0 D κ A s s.heap) (hT : ET s) (hcut : Cut ws wc wr) (av : List Value) : ∀ U : State, U.heap = H → s.WarmedH U.vm → PB E0 D κ wc H.size av av.toArray U := by
  intro U hU hW
  have hc := cut_BW hG hcut
  exact ⟨rfl, by rw [hU], ⟨va_K.moved hW.alike hG.1, by rw [hU]; exact hc.2.1, hc.2.2.1.weaken (fun _ _ _ _ => trivial)⟩, hE.call hG.2.2.2.1 (cut_free hG hcut) hU hW.alike, hT.warm hW⟩
/-- what a call's callee needs of the words -/
theorem zw_B (hC : CallFix p m c cc nL s args WALL own) (n : Nat) (wl : Cond.methodLink own idx y ∈ WALL) (wn : Cond.initialized y.cls ∈ WALL) (wc' : Cond.code y bytes maxL ret ∈ WALL)
    (hd : y.cls ≠ "java/lang/invoke/MethodHandle" ∧ y.cls ≠ "java/lang/invoke/VarHandle" ∧ (parseMethodDescriptor y.desc).map (fun d => d.parameters.length) = some n) (hR : fr + 1 ≤ R.frames ∧ 8 + (maxL + 11) + lo ≤ R.locals) :
    CallB R s args own idx y bytes maxL ret (.code y bytes maxL ret :: WALL) (RM fr lo mc ms) mc ms n :=
  callB_of (Ts := WALL) n hC.2.2.2.2 (fun w h => by
    rcases List.mem_cons.mp h with rfl | h
    · exact wl_in _ wc'
    · exact wl_in _ h) rfl rfl rfl (hC.2.2.2.2 _ wn) (hC.2.2.2.2 _ wl) hd hR
theorem zp_V (hG : BW D κ ws A s H locs) (hE : EA E0 D κ A s s.heap) (hT : ET s) (hcut : Cut ws wc wr) {k ci : Nat} {fs : List Value} {q : vw_C} (hb : ws[k]? = some (b, .inr (ci, fs))) (hcl : vwM[ci]? = some q) : PreV s H q.1 b (PB E0 D κ wc H.size (.ref b :: As)) As :=
  ⟨PB.blind, va_recv hG.1 hG.2.1 hcl hb, PB.to hG hE hT hcut _⟩
theorem zp_S (hG : BW D κ ws A s H locs) (hE : EA E0 D κ A s s.heap) (hT : ET s) (hcut : Cut ws wc wr) : PreS s H (PB E0 D κ wc H.size As) As := ⟨PB.blind, PB.to hG hE hT hcut _⟩
theorem zr_V {k ci n : Nat} {fs : List Value} {q : vw_C} (hC : CallFix p m c cc nL s args WALL own) (hG : BW D κ ws A s H locs) (hE : EA E0 D κ A s s.heap) (hT : ET s) (hcut : Cut ws wc wr) (hM : NM l y bytes maxL ret fr lo mc ms E0 D κ wc H.size (.ref b :: As) Qc)
    (hb : ws[k]? = some (b, .inr (ci, fs))) (hcl : vwM[ci]? = some q)
    (wl : Cond.methodLink own idx y ∈ WALL) (wn : Cond.initialized y.cls ∈ WALL) (wc' : Cond.code y bytes maxL ret ∈ WALL) (wi : Cond.instanceMethod y ∈ WALL) (ws' : Cond.selects q.1 y y ∈ WALL)
    (hd : y.cls ≠ "java/lang/invoke/MethodHandle" ∧ y.cls ≠ "java/lang/invoke/VarHandle" ∧ (parseMethodDescriptor y.desc).map (fun d => d.parameters.length) = some n) (hR : fr + 1 ≤ R.frames ∧ 8 + (maxL + 11) + lo ≤ R.locals)
    (hn : As.length = n) (hls : ls.size = nL) (hst : st0 = As.reverse ++ .ref b :: rest) (h8 : (rest.map fun v => v.category).sum ≤ 8) (hdg : decode cc pc = .ok (.invokevirtual idx, 3)) (hcs : cs + mc ≤ R.cells ∧ ss + ms ≤ R.slots) :
    va_Run p l e R s m args below meth c H locs cs ss mc ms (F0 m pc ls st0) rest (Qc (Value.ref b :: As).toArray) (va_A wc H.size) :=
  va_runV (As := As) (rest := rest) hC hM ⟨zw_B hC n wl wn wc' hd hR, hC.2.2.2.2 _ wi, hC.2.2.2.2 _ ws'⟩ (zp_V hG hE hT hcut hb hcl) rfl hn hls hst (lv_room h8) hdg hcs
theorem zr_S {n : Nat} (hC : CallFix p m c cc nL s args WALL own) (hG : BW D κ ws A s H locs) (hE : EA E0 D κ A s s.heap) (hT : ET s) (hcut : Cut ws wc wr) (hM : NM l y bytes maxL ret fr lo mc ms E0 D κ wc H.size As Qc)
    (wl : Cond.methodLink own idx y ∈ WALL) (wn : Cond.initialized y.cls ∈ WALL) (wc' : Cond.code y bytes maxL ret ∈ WALL) (wi : Cond.static y ∈ WALL)
    (hd : y.cls ≠ "java/lang/invoke/MethodHandle" ∧ y.cls ≠ "java/lang/invoke/VarHandle" ∧ (parseMethodDescriptor y.desc).map (fun d => d.parameters.length) = some n) (hR : fr + 1 ≤ R.frames ∧ 8 + (maxL + 11) + lo ≤ R.locals)
    (hn : As.length = n) (hls : ls.size = nL) (hst : st0 = As.reverse ++ rest) (h8 : (rest.map fun v => v.category).sum ≤ 8) (hdg : decode cc pc = .ok (.invokestatic idx, 3)) (hcs : cs + mc ≤ R.cells ∧ ss + ms ≤ R.slots) :
    va_Run p l e R s m args below meth c H locs cs ss mc ms (F0 m pc ls st0) rest (Qc As.toArray) (va_A wc H.size) :=
  va_runS (As := As) (rest := rest) hC hM ⟨zw_B hC n wl wn wc' hd hR, hC.2.2.2.2 _ wi⟩ (zp_S hG hE hT hcut) rfl hn hls hst (lv_room h8) hdg hcs
theorem zr_H {n : Nat} {hh : List (Nat × Nat × Nat × Nat)} (hC : CallFix p m c cc nL s args WALL own) (hG : BW D κ ws A s H locs) (hE : EA E0 D κ A s s.heap) (hT : ET s) (hcut : Cut ws wc wr) (hM : NH l y bytes maxL ret hh fr lo mc ms E0 D κ wc H.size As Qc)
    (wl : Cond.methodLink own idx y ∈ WALL) (wn : Cond.initialized y.cls ∈ WALL) (wc' : Cond.codeWith y bytes maxL ret hh ∈ WALL) (wi : Cond.static y ∈ WALL)
    (hd : y.cls ≠ "java/lang/invoke/MethodHandle" ∧ y.cls ≠ "java/lang/invoke/VarHandle" ∧ (parseMethodDescriptor y.desc).map (fun d => d.parameters.length) = some n) (hR : fr + 1 ≤ R.frames ∧ 8 + (maxL + 11) + lo ≤ R.locals)
    (hn : As.length = n) (hls : ls.size = nL) (hst : st0 = As.reverse ++ rest) (h8 : (rest.map fun v => v.category).sum ≤ 8) (hdg : decode cc pc = .ok (.invokestatic idx, 3)) (hcs : cs + mc ≤ R.cells ∧ ss + ms ≤ R.slots) :
    va_Run p l e R s m args below meth c H locs cs ss mc ms (F0 m pc ls st0) rest (Qc As.toArray) (va_A wc H.size) :=
  vx_runSW (As := As) (rest := rest) hC hM ⟨⟨rfl, rfl, hR.1, hR.2, pay_in hC.2.2.2.2 (fun w h => by
    rcases List.mem_cons.mp h with rfl | h
    · exact wl_in _ wc'
    · exact wl_in _ h), List.mem_cons_self⟩, hC.2.2.2.2 _ wc', hC.2.2.2.2 _ wn, ⟨hd.1, hd.2.1⟩, fun sig h => by
      have h2 := hd.2.2
      rw [h] at h2
      exact (Option.some.inj h2).symm, hC.2.2.2.2 _ wl, hC.2.2.2.2 _ wi⟩ (zp_S hG hE hT hcut) rfl hn hls hst (lv_room h8) hdg hcs
theorem zr_I {n : Nat} (hC : CallFix p m c cc nL s args WALL own) (hG : BW D κ ws A s H locs) (hE : EA E0 D κ A s s.heap) (hT : ET s) (hcut : Cut ws wc wr) (hM : NM l y bytes maxL none fr lo mc ms E0 D κ wc H.size (.ref b :: As) Qc)
    (wl : Cond.methodLink own idx y ∈ WALL) (wn : Cond.initialized y.cls ∈ WALL) (wc' : Cond.code y bytes maxL none ∈ WALL) (wi : Cond.instanceMethod y ∈ WALL) (hy1 : y.name = "<init>")
    (hd : y.cls ≠ "java/lang/invoke/MethodHandle" ∧ y.cls ≠ "java/lang/invoke/VarHandle" ∧ (parseMethodDescriptor y.desc).map (fun d => d.parameters.length) = some n) (hR : fr + 1 ≤ R.frames ∧ 8 + (maxL + 11) + lo ≤ R.locals)
    (hn : As.length = n) (hls : ls.size = nL) (hst : st0 = As.reverse ++ .ref b :: rest) (h8 : (rest.map fun v => v.category).sum ≤ 8) (hdg : decode cc pc = .ok (.invokespecial idx, 3)) (hcs : cs + mc ≤ R.cells ∧ ss + ms ≤ R.slots) :
    va_Run p l e R s m args below meth c H locs cs ss mc ms (F0 m pc ls st0) rest (Qc (Value.ref b :: As).toArray) (va_A wc H.size) :=
  va_runI (As := As) (rest := rest) hC hM ⟨zw_B hC n wl wn wc' hd hR, hy1, hC.2.2.2.2 _ wi⟩ (zp_S hG hE hT hcut) rfl hn hls hst (lv_room h8) hdg hcs
/-- .. of one that throws -/
theorem zx_V {k ci n : Nat} {fs : List Value} {q : vw_C} (hC : CallFix p m c cc nL s args WALL own) (hG : BW D κ ws A s H locs) (hE : EA E0 D κ A s s.heap) (hT : ET s) (hcut : Cut ws wc wr) (hM : XM l y bytes maxL ret fr lo mc ms E0 D κ wc H.size (.ref b :: As) E Qc)
    (hb : ws[k]? = some (b, .inr (ci, fs))) (hcl : vwM[ci]? = some q)
    (wl : Cond.methodLink own idx y ∈ WALL) (wn : Cond.initialized y.cls ∈ WALL) (wc' : Cond.code y bytes maxL ret ∈ WALL) (wi : Cond.instanceMethod y ∈ WALL) (ws' : Cond.selects q.1 y y ∈ WALL)
    (hd : y.cls ≠ "java/lang/invoke/MethodHandle" ∧ y.cls ≠ "java/lang/invoke/VarHandle" ∧ (parseMethodDescriptor y.desc).map (fun d => d.parameters.length) = some n) (hR : fr + 1 ≤ R.frames ∧ 8 + (maxL + 11) + lo ≤ R.locals)
    (hn : As.length = n) (hls : ls.size = nL) (hst : st0 = As.reverse ++ .ref b :: rest) (h8 : (rest.map fun v => v.category).sum ≤ 8) (hdg : decode cc pc = .ok (.invokevirtual idx, 3)) (hcs : cs + mc ≤ R.cells ∧ ss + ms ≤ R.slots) :
    vx_Run p l e R s m args below meth c H locs cs ss mc ms (F0 m pc ls st0) rest (Qc (Value.ref b :: As).toArray) (XC1 E (va_A wc H.size)) (va_A wc H.size) :=
  vx_runV (As := As) (rest := rest) hC hM ⟨zw_B hC n wl wn wc' hd hR, hC.2.2.2.2 _ wi, hC.2.2.2.2 _ ws'⟩ (zp_V hG hE hT hcut hb hcl) rfl hn hls hst (lv_room h8) hdg hcs
theorem zx_S {n : Nat} (hC : CallFix p m c cc nL s args WALL own) (hG : BW D κ ws A s H locs) (hE : EA E0 D κ A s s.heap) (hT : ET s) (hcut : Cut ws wc wr) (hM : XM l y bytes maxL ret fr lo mc ms E0 D κ wc H.size As E Qc)
    (wl : Cond.methodLink own idx y ∈ WALL) (wn : Cond.initialized y.cls ∈ WALL) (wc' : Cond.code y bytes maxL ret ∈ WALL) (wi : Cond.static y ∈ WALL)
    (hd : y.cls ≠ "java/lang/invoke/MethodHandle" ∧ y.cls ≠ "java/lang/invoke/VarHandle" ∧ (parseMethodDescriptor y.desc).map (fun d => d.parameters.length) = some n) (hR : fr + 1 ≤ R.frames ∧ 8 + (maxL + 11) + lo ≤ R.locals)
    (hn : As.length = n) (hls : ls.size = nL) (hst : st0 = As.reverse ++ rest) (h8 : (rest.map fun v => v.category).sum ≤ 8) (hdg : decode cc pc = .ok (.invokestatic idx, 3)) (hcs : cs + mc ≤ R.cells ∧ ss + ms ≤ R.slots) :
    vx_Run p l e R s m args below meth c H locs cs ss mc ms (F0 m pc ls st0) rest (Qc As.toArray) (XC1 E (va_A wc H.size)) (va_A wc H.size) :=
  vx_runS (As := As) (rest := rest) hC hM ⟨zw_B hC n wl wn wc' hd hR, hC.2.2.2.2 _ wi⟩ (zp_S hG hE hT hcut) rfl hn hls hst (lv_room h8) hdg hcs
theorem zc_i {av : Array Value} {R0 : Int32} {ws1 : W1 → va_W} (hG : BW D κ ws A s H locs) (hcut : Cut ws wc wr) (hr : va_Run p l e R s m args below meth c H locs cs ss mc ms (F0 m pc ls st0) rest (QI D κ wc H.size R0 ws1 av) (va_A wc H.size))
    (kk : ∀ (qs : W1) (H1 : Heap) (locs1 : List Loc), BW D κ (wr ++ ws1 qs) A s H1 locs1 → W p l e R s m args below meth c H1 locs1 (cs + mc) (ss + ms) Q (F0 m (pc + 3) ls (.int R0 :: rest))) : W p l e R s m args below meth c H locs cs ss Q (F0 m pc ls st0) :=
  va_calli hr hG.2.2.2.1 (fun q _ h => cut_free hG hcut q h) (cut_free hG hcut) (fun r qs t H1 locs1 ht hvm hp hB hz hk hS => by
    subst hp
    exact kk qs H1 locs1 (cut_join hG hcut ht hB hk hS))
theorem zc_l {av : Array Value} {R0 : Int64} {ws1 : W1 → va_W} (hG : BW D κ ws A s H locs) (hcut : Cut ws wc wr) (hr : va_Run p l e R s m args below meth c H locs cs ss mc ms (F0 m pc ls st0) rest (QL D κ wc H.size R0 ws1 av) (va_A wc H.size))
    (kk : ∀ (qs : W1) (H1 : Heap) (locs1 : List Loc), BW D κ (wr ++ ws1 qs) A s H1 locs1 → W p l e R s m args below meth c H1 locs1 (cs + mc) (ss + ms) Q (F0 m (pc + 3) ls (.long R0 :: rest))) : W p l e R s m args below meth c H locs cs ss Q (F0 m pc ls st0) :=
  va_calll hr hG.2.2.2.1 (fun q _ h => cut_free hG hcut q h) (cut_free hG hcut) (fun r qs t H1 locs1 ht hvm hp hB hz hk hS => by
    subst hp
    exact kk qs H1 locs1 (cut_join hG hcut ht hB hk hS))
theorem zc_d {av : Array Value} {R0 : UInt64} {ws1 : W1 → va_W} (hG : BW D κ ws A s H locs) (hcut : Cut ws wc wr) (hr : va_Run p l e R s m args below meth c H locs cs ss mc ms (F0 m pc ls st0) rest (QD D κ wc H.size R0 ws1 av) (va_A wc H.size))
    (kk : ∀ (qs : W1) (H1 : Heap) (locs1 : List Loc), BW D κ (wr ++ ws1 qs) A s H1 locs1 → W p l e R s m args below meth c H1 locs1 (cs + mc) (ss + ms) Q (F0 m (pc + 3) ls (.double R0 :: rest))) : W p l e R s m args below meth c H locs cs ss Q (F0 m pc ls st0) :=
  va_calld hr hG.2.2.2.1 (fun q _ h => cut_free hG hcut q h) (cut_free hG hcut) (fun r qs t H1 locs1 ht hvm hp hB hz hk hS => by
    subst hp
    exact kk qs H1 locs1 (cut_join hG hcut ht hB hk hS))
theorem zc_v {av : Array Value} {ws1 : W1 → va_W} (hG : BW D κ ws A s H locs) (hcut : Cut ws wc wr) (hr : va_Run p l e R s m args below meth c H locs cs ss mc ms (F0 m pc ls st0) rest (QV D κ wc H.size ws1 av) (va_A wc H.size))
    (kk : ∀ (qs : W1) (H1 : Heap) (locs1 : List Loc), BW D κ (wr ++ ws1 qs) A s H1 locs1 → W p l e R s m args below meth c H1 locs1 (cs + mc) (ss + ms) Q (F0 m (pc + 3) ls rest)) : W p l e R s m args below meth c H locs cs ss Q (F0 m pc ls st0) :=
  va_callv hr hG.2.2.2.1 (fun q _ h => cut_free hG hcut q h) (cut_free hG hcut) (fun qs t H1 locs1 ht hvm _ hB hz hk hS => kk qs H1 locs1 (cut_join hG hcut ht hB hk hS))
theorem zc_r {av : Array Value} {R0 : W1 → Nat} {ws1 : W1 → va_W} (hG : BW D κ ws A s H locs) (hcut : Cut ws wc wr) (hr : va_Run p l e R s m args below meth c H locs cs ss mc ms (F0 m pc ls st0) rest (QR D κ wc H.size R0 ws1 av) (va_A wc H.size))
    (kk : ∀ (qs : W1) (H1 : Heap) (locs1 : List Loc), BW D κ (wr ++ ws1 qs) A s H1 locs1 → W p l e R s m args below meth c H1 locs1 (cs + mc) (ss + ms) Q (F0 m (pc + 3) ls (.ref (R0 qs) :: rest))) : W p l e R s m args below meth c H locs cs ss Q (F0 m pc ls st0) :=
  va_callr hr hG.2.2.2.1 (fun q _ h => cut_free hG hcut q h) (cut_free hG hcut) (fun qs a t H1 locs1 ht hvm _ hB hz hk hS => by
    obtain ⟨rfl, hB⟩ := hB
    exact kk qs H1 locs1 (cut_join hG hcut ht hB hk hS))
theorem zt_i {av : Array Value} (hG : BW D κ ws A s H locs) (hcut : Cut ws wc wr) (hr : vx_Run p l e R s m args below meth c H locs cs ss mc ms (F0 m pc ls st0) rest (NI wc H.size av) (XC1 E (va_A wc H.size)) (va_A wc H.size))
    (kx : ∀ (ce : Cell) (q9 : Addr) (H1 : Heap) (locs1 : List Loc), BW D κ wr A s H1 locs1 → H1[q9]? = some ce → ce.vm = .none → s.vm.findClass E = some ce.cls → vx_W p l e R s m args below meth c H1 locs1 (cs + mc) (ss + ms) Q (F0 m pc ls rest) q9) : W p l e R s m args below meth c H locs cs ss Q (F0 m pc ls st0) :=
  vx_calli (AX := va_A wc H.size) hr hG.2.2.2.1 (fun q _ h => cut_free hG hcut q h) (cut_free hG hcut) (fun q _ h => cut_free hG hcut q h)
    (fun E' ce q9 u t H1 locs1 ht hvm _ hB hz hk hS h1 h2 h3 => by
      subst hB
      exact kx ce q9 H1 locs1 (cut_kept hG hcut hk hS) h1 h2 h3)
    (fun r u t H1 locs1 ht hvm hp => absurd hp (fun z => z))
theorem zt_l {av : Array Value} (hG : BW D κ ws A s H locs) (hcut : Cut ws wc wr) (hr : vx_Run p l e R s m args below meth c H locs cs ss mc ms (F0 m pc ls st0) rest (NL wc H.size av) (XC1 E (va_A wc H.size)) (va_A wc H.size))
    (kx : ∀ (ce : Cell) (q9 : Addr) (H1 : Heap) (locs1 : List Loc), BW D κ wr A s H1 locs1 → H1[q9]? = some ce → ce.vm = .none → s.vm.findClass E = some ce.cls → vx_W p l e R s m args below meth c H1 locs1 (cs + mc) (ss + ms) Q (F0 m pc ls rest) q9) : W p l e R s m args below meth c H locs cs ss Q (F0 m pc ls st0) :=
  vx_calll (AX := va_A wc H.size) hr hG.2.2.2.1 (fun q _ h => cut_free hG hcut q h) (cut_free hG hcut) (fun q _ h => cut_free hG hcut q h)
    (fun E' ce q9 u t H1 locs1 ht hvm _ hB hz hk hS h1 h2 h3 => by
      subst hB
      exact kx ce q9 H1 locs1 (cut_kept hG hcut hk hS) h1 h2 h3)
    (fun r u t H1 locs1 ht hvm hp => absurd hp (fun z => z))
theorem zt_v {av : Array Value} (hG : BW D κ ws A s H locs) (hcut : Cut ws wc wr) (hr : vx_Run p l e R s m args below meth c H locs cs ss mc ms (F0 m pc ls st0) rest (NV wc H.size av) (XC1 E (va_A wc H.size)) (va_A wc H.size))
    (kx : ∀ (ce : Cell) (q9 : Addr) (H1 : Heap) (locs1 : List Loc), BW D κ wr A s H1 locs1 → H1[q9]? = some ce → ce.vm = .none → s.vm.findClass E = some ce.cls → vx_W p l e R s m args below meth c H1 locs1 (cs + mc) (ss + ms) Q (F0 m pc ls rest) q9) : W p l e R s m args below meth c H locs cs ss Q (F0 m pc ls st0) :=
  vx_callv (AX := va_A wc H.size) hr hG.2.2.2.1 (fun q _ h => cut_free hG hcut q h) (cut_free hG hcut) (fun q _ h => cut_free hG hcut q h)
    (fun E' ce q9 u t H1 locs1 ht hvm _ hB hz hk hS h1 h2 h3 => by
      subst hB
      exact kx ce q9 H1 locs1 (cut_kept hG hcut hk hS) h1 h2 h3)
    (fun u t H1 locs1 ht hvm hp => absurd hp (fun z => z))
/-- it goes on to the caller -/
theorem zt_out {ws0 : va_W} {sz : Nat} {ce : Cell} {q9 : Addr} (hno : ∀ x ∈ c.exceptionTable.toList, False) (hk : meth.locks = false) (hG : BW D κ ws (va_A ws0 sz) s H locs) (h1 : H[q9]? = some ce) (h2 : ce.vm = .none) (h3 : s.vm.findClass E = some ce.cls) (hc : cs ≤ mc) (hs : ss ≤ ms) :
    vx_W p l e R s m args below meth c H locs cs ss (vx_MQ below Qc (XC1 E (va_A ws0 sz)) args s mc ms (va_A ws0 sz)) (F0 m pc ls rest) q9 :=
  vx_out (fun x hx => (hno x hx).elim) hk h1 h2 h3 (fun t ht _ => ⟨(), trivial, rfl, hG.2.2.2.1.F ht⟩) hG.2.2.2.1.2.2 hc hs
end Calls
section Throws
variable {p : Program} {l : Launch} {e : Env} {R : Room} {s : State} {m : MethodId} {args : Array Value} {below : List Frame} {meth : Method} {c : Code} {H : Heap} {locs : List Loc} {cs ss : Nat} {cc : ByteArray} {nL pc : Nat} {ls : Array Slot} {rest : List Value} {E0 : Nat} {D : va_G} {κ : K4} {ws : va_W} {A : Nat → Prop} {mc ms : Nat} {Qc : Array Value → State → Outcome → State → Prop}
theorem th_atIA (hC : CallFix p m c cc nL s args WALL RX7) (hT : ET s) : ∀ w ∈ (vx_atS RX7 75 "java/lang/IllegalArgumentException" ["java/lang/RuntimeException", "java/lang/Exception"]), w.before args s = true :=
  vx_hat (L := (vx_atS RX7 75 "java/lang/IllegalArgumentException" ["java/lang/RuntimeException", "java/lang/Exception"])) (B := [.castable "java/lang/IllegalArgumentException" "java/lang/IllegalArgumentException", .declares ⟨"java/lang/RuntimeException", "<init>", "(Ljava/lang/String;)V"⟩, .declares ⟨"java/lang/Exception", "<init>", "(Ljava/lang/String;)V"⟩, .declares ⟨"java/lang/Throwable", "<init>", "(Ljava/lang/String;)V"⟩]) (fun w h => hC.2.2.2.2 w (List.mem_append_left _ (List.mem_append_left _ (List.mem_append_right _ h)))) (by decide +kernel) (vx_c (va_Nw.use rfl (hT.1 ("java/lang/IllegalArgumentException", "java/lang/IllegalArgumentException") (by simp [EVC]))) (vx_c (va_Nw.use rfl (hT.2.1 _ (by simp [EVD]))) (vx_c (va_Nw.use rfl (hT.2.1 _ (by simp [EVD]))) (vx_c (va_Nw.use rfl (hT.2.1 _ (by simp [EVD]))) vx_n))))
theorem th_goodIA : ∀ w ∈ Cond.classLink RX7 71 "java/lang/IllegalArgumentException" :: Cond.initialized "java/lang/IllegalArgumentException" :: (vx_atS RX7 75 "java/lang/IllegalArgumentException" ["java/lang/RuntimeException", "java/lang/Exception"]), vx_ot w = true := by decide +kernel
theorem th_IA {is : Nat} {text : String} (hC : CallFix p m c cc nL s args WALL RX7) (hl0 : l.stackTraces = false) (hE : EA E0 D κ A s s.heap) (hT : ET s) (hno : ∀ x ∈ c.exceptionTable.toList, False) (hk : meth.locks = false) (hG : BW D κ ws A s H locs) (hls : ls.size = nL) (hstr : (is, text) ∈ EVS)
    (wk : Cond.classLink RX7 71 "java/lang/IllegalArgumentException" ∈ WALL) (wi : Cond.initialized "java/lang/IllegalArgumentException" ∈ WALL)
    (d0 : decode cc pc = .ok (.new 71, 3)) (d3 : decode cc (pc + 3) = .ok (.dup, 1)) (d4 : decode cc (pc + 4) = .ok (.ldc is, 2)) (d6 : decode cc (pc + 6) = .ok (.invokespecial 75, 3)) (d9 : decode cc (pc + 9) = .ok (.athrow, 1))
    (hRf : 5 < R.frames) (hRl : (rest.map fun v => v.category).sum + 82 ≤ R.locals) (hRc : cs + 1 ≤ R.cells) (hRs : ss + 6 ≤ R.slots) (hc : cs + 1 ≤ mc) (hs : ss + 6 ≤ ms) :
    W p l e R s m args below meth c H locs cs ss (vx_MQ below Qc (XC1 "java/lang/IllegalArgumentException" A) args s mc ms A) (F0 m pc ls rest) := by
  obtain ⟨sa, hsa⟩ := hT.2.2.2.1 _ hstr
  exact vx_throwS (names := ["java/lang/RuntimeException", "java/lang/Exception"]) (A := A) hC.1 hC.2.1 hl0 hC.2.2.2.1 (by decide +kernel) (by decide +kernel) (hC.2.2.2.2 _ wk) (hC.2.2.2.2 _ wi) hsa (th_atIA hC hT) th_goodIA hE.1 hE.2.1 hG.2.2.2.1 (hls.trans hC.2.2.1.symm) d0 d3 d4 d6 d9 (fun x hx => (hno x hx).elim) hRf hRl hRc hRs hk
    (fun t hA h1 h2 => ⟨(), trivial, rfl, ⟨Nat.le_trans hG.2.2.2.1.1 h1, fun q hq hn => (h2 q (Nat.lt_of_lt_of_le hq hG.2.2.2.1.1)).trans (hG.2.2.2.1.2.1 q hq hn)⟩⟩) hG.2.2.2.1.2.2 hc hs
theorem th_IAW {is : Nat} {text : String} (hC : CallFix p m c cc nL s args WALL RX7) (hl0 : l.stackTraces = false) (hE : EA E0 D κ A s s.heap) (hT : ET s) (hno : ∀ x ∈ c.exceptionTable.toList, False) (hk : meth.locks = false) (hG : BW D κ ws A s H locs) (hls : ls.size = nL) (hstr : (is, text) ∈ EVS)
    (wk : Cond.classLink RX7 71 "java/lang/IllegalArgumentException" ∈ WALL) (wi : Cond.initialized "java/lang/IllegalArgumentException" ∈ WALL)
    (d0 : decode cc pc = .ok (.new 71, 3)) (d3 : decode cc (pc + 3) = .ok (.dup, 1)) (d4 : decode cc (pc + 4) = .ok (.ldc_w is, 3)) (d6 : decode cc (pc + 7) = .ok (.invokespecial 75, 3)) (d9 : decode cc (pc + 10) = .ok (.athrow, 1))
    (hRf : 5 < R.frames) (hRl : (rest.map fun v => v.category).sum + 82 ≤ R.locals) (hRc : cs + 1 ≤ R.cells) (hRs : ss + 6 ≤ R.slots) (hc : cs + 1 ≤ mc) (hs : ss + 6 ≤ ms) :
    W p l e R s m args below meth c H locs cs ss (vx_MQ below Qc (XC1 "java/lang/IllegalArgumentException" A) args s mc ms A) (F0 m pc ls rest) := by
  obtain ⟨sa, hsa⟩ := hT.2.2.2.1 _ hstr
  exact vx_throwSW (names := ["java/lang/RuntimeException", "java/lang/Exception"]) (A := A) hC.1 hC.2.1 hl0 hC.2.2.2.1 (by decide +kernel) (by decide +kernel) (hC.2.2.2.2 _ wk) (hC.2.2.2.2 _ wi) hsa (th_atIA hC hT) th_goodIA hE.1 hE.2.1 hG.2.2.2.1 (hls.trans hC.2.2.1.symm) d0 d3 d4 d6 d9 (fun x hx => (hno x hx).elim) hRf hRl hRc hRs hk
    (fun t hA h1 h2 => ⟨(), trivial, rfl, ⟨Nat.le_trans hG.2.2.2.1.1 h1, fun q hq hn => (h2 q (Nat.lt_of_lt_of_le hq hG.2.2.2.1.1)).trans (hG.2.2.2.1.2.1 q hq hn)⟩⟩) hG.2.2.2.1.2.2 hc hs
theorem th_atIS (hC : CallFix p m c cc nL s args WALL RX7) (hT : ET s) : ∀ w ∈ (vx_atS RX7 86 "java/lang/IllegalStateException" ["java/lang/RuntimeException", "java/lang/Exception"]), w.before args s = true :=
  vx_hat (L := (vx_atS RX7 86 "java/lang/IllegalStateException" ["java/lang/RuntimeException", "java/lang/Exception"])) (B := [.castable "java/lang/IllegalStateException" "java/lang/IllegalStateException", .declares ⟨"java/lang/RuntimeException", "<init>", "(Ljava/lang/String;)V"⟩, .declares ⟨"java/lang/Exception", "<init>", "(Ljava/lang/String;)V"⟩, .declares ⟨"java/lang/Throwable", "<init>", "(Ljava/lang/String;)V"⟩]) (fun w h => hC.2.2.2.2 w (List.mem_append_left _ (List.mem_append_right _ h))) (by decide +kernel) (vx_c (va_Nw.use rfl (hT.1 ("java/lang/IllegalStateException", "java/lang/IllegalStateException") (by simp [EVC]))) (vx_c (va_Nw.use rfl (hT.2.1 _ (by simp [EVD]))) (vx_c (va_Nw.use rfl (hT.2.1 _ (by simp [EVD]))) (vx_c (va_Nw.use rfl (hT.2.1 _ (by simp [EVD]))) vx_n))))
theorem th_goodIS : ∀ w ∈ Cond.classLink RX7 82 "java/lang/IllegalStateException" :: Cond.initialized "java/lang/IllegalStateException" :: (vx_atS RX7 86 "java/lang/IllegalStateException" ["java/lang/RuntimeException", "java/lang/Exception"]), vx_ot w = true := by decide +kernel
theorem th_IS {is : Nat} {text : String} (hC : CallFix p m c cc nL s args WALL RX7) (hl0 : l.stackTraces = false) (hE : EA E0 D κ A s s.heap) (hT : ET s) (hno : ∀ x ∈ c.exceptionTable.toList, False) (hk : meth.locks = false) (hG : BW D κ ws A s H locs) (hls : ls.size = nL) (hstr : (is, text) ∈ EVS)
    (wk : Cond.classLink RX7 82 "java/lang/IllegalStateException" ∈ WALL) (wi : Cond.initialized "java/lang/IllegalStateException" ∈ WALL)
    (d0 : decode cc pc = .ok (.new 82, 3)) (d3 : decode cc (pc + 3) = .ok (.dup, 1)) (d4 : decode cc (pc + 4) = .ok (.ldc is, 2)) (d6 : decode cc (pc + 6) = .ok (.invokespecial 86, 3)) (d9 : decode cc (pc + 9) = .ok (.athrow, 1))
    (hRf : 5 < R.frames) (hRl : (rest.map fun v => v.category).sum + 82 ≤ R.locals) (hRc : cs + 1 ≤ R.cells) (hRs : ss + 6 ≤ R.slots) (hc : cs + 1 ≤ mc) (hs : ss + 6 ≤ ms) :
    W p l e R s m args below meth c H locs cs ss (vx_MQ below Qc (XC1 "java/lang/IllegalStateException" A) args s mc ms A) (F0 m pc ls rest) := by
  obtain ⟨sa, hsa⟩ := hT.2.2.2.1 _ hstr
  exact vx_throwS (names := ["java/lang/RuntimeException", "java/lang/Exception"]) (A := A) hC.1 hC.2.1 hl0 hC.2.2.2.1 (by decide +kernel) (by decide +kernel) (hC.2.2.2.2 _ wk) (hC.2.2.2.2 _ wi) hsa (th_atIS hC hT) th_goodIS hE.1 hE.2.1 hG.2.2.2.1 (hls.trans hC.2.2.1.symm) d0 d3 d4 d6 d9 (fun x hx => (hno x hx).elim) hRf hRl hRc hRs hk
    (fun t hA h1 h2 => ⟨(), trivial, rfl, ⟨Nat.le_trans hG.2.2.2.1.1 h1, fun q hq hn => (h2 q (Nat.lt_of_lt_of_le hq hG.2.2.2.1.1)).trans (hG.2.2.2.1.2.1 q hq hn)⟩⟩) hG.2.2.2.1.2.2 hc hs
theorem th_ISW {is : Nat} {text : String} (hC : CallFix p m c cc nL s args WALL RX7) (hl0 : l.stackTraces = false) (hE : EA E0 D κ A s s.heap) (hT : ET s) (hno : ∀ x ∈ c.exceptionTable.toList, False) (hk : meth.locks = false) (hG : BW D κ ws A s H locs) (hls : ls.size = nL) (hstr : (is, text) ∈ EVS)
    (wk : Cond.classLink RX7 82 "java/lang/IllegalStateException" ∈ WALL) (wi : Cond.initialized "java/lang/IllegalStateException" ∈ WALL)
    (d0 : decode cc pc = .ok (.new 82, 3)) (d3 : decode cc (pc + 3) = .ok (.dup, 1)) (d4 : decode cc (pc + 4) = .ok (.ldc_w is, 3)) (d6 : decode cc (pc + 7) = .ok (.invokespecial 86, 3)) (d9 : decode cc (pc + 10) = .ok (.athrow, 1))
    (hRf : 5 < R.frames) (hRl : (rest.map fun v => v.category).sum + 82 ≤ R.locals) (hRc : cs + 1 ≤ R.cells) (hRs : ss + 6 ≤ R.slots) (hc : cs + 1 ≤ mc) (hs : ss + 6 ≤ ms) :
    W p l e R s m args below meth c H locs cs ss (vx_MQ below Qc (XC1 "java/lang/IllegalStateException" A) args s mc ms A) (F0 m pc ls rest) := by
  obtain ⟨sa, hsa⟩ := hT.2.2.2.1 _ hstr
  exact vx_throwSW (names := ["java/lang/RuntimeException", "java/lang/Exception"]) (A := A) hC.1 hC.2.1 hl0 hC.2.2.2.1 (by decide +kernel) (by decide +kernel) (hC.2.2.2.2 _ wk) (hC.2.2.2.2 _ wi) hsa (th_atIS hC hT) th_goodIS hE.1 hE.2.1 hG.2.2.2.1 (hls.trans hC.2.2.1.symm) d0 d3 d4 d6 d9 (fun x hx => (hno x hx).elim) hRf hRl hRc hRs hk
    (fun t hA h1 h2 => ⟨(), trivial, rfl, ⟨Nat.le_trans hG.2.2.2.1.1 h1, fun q hq hn => (h2 q (Nat.lt_of_lt_of_le hq hG.2.2.2.1.1)).trans (hG.2.2.2.1.2.1 q hq hn)⟩⟩) hG.2.2.2.1.2.2 hc hs
theorem th_atIO (hC : CallFix p m c cc nL s args WALL RX7) (hT : ET s) : ∀ w ∈ (vx_atS RX7 198 "java/lang/IndexOutOfBoundsException" ["java/lang/RuntimeException", "java/lang/Exception"]), w.before args s = true :=
  vx_hat (L := (vx_atS RX7 198 "java/lang/IndexOutOfBoundsException" ["java/lang/RuntimeException", "java/lang/Exception"])) (B := [.castable "java/lang/IndexOutOfBoundsException" "java/lang/IndexOutOfBoundsException", .declares ⟨"java/lang/RuntimeException", "<init>", "(Ljava/lang/String;)V"⟩, .declares ⟨"java/lang/Exception", "<init>", "(Ljava/lang/String;)V"⟩, .declares ⟨"java/lang/Throwable", "<init>", "(Ljava/lang/String;)V"⟩]) (fun w h => hC.2.2.2.2 w (List.mem_append_right _ h)) (by decide +kernel) (vx_c (va_Nw.use rfl (hT.1 ("java/lang/IndexOutOfBoundsException", "java/lang/IndexOutOfBoundsException") (by simp [EVC]))) (vx_c (va_Nw.use rfl (hT.2.1 _ (by simp [EVD]))) (vx_c (va_Nw.use rfl (hT.2.1 _ (by simp [EVD]))) (vx_c (va_Nw.use rfl (hT.2.1 _ (by simp [EVD]))) vx_n))))
theorem th_goodIO : ∀ w ∈ Cond.classLink RX7 194 "java/lang/IndexOutOfBoundsException" :: Cond.initialized "java/lang/IndexOutOfBoundsException" :: (vx_atS RX7 198 "java/lang/IndexOutOfBoundsException" ["java/lang/RuntimeException", "java/lang/Exception"]), vx_ot w = true := by decide +kernel
theorem th_IO {is : Nat} {text : String} (hC : CallFix p m c cc nL s args WALL RX7) (hl0 : l.stackTraces = false) (hE : EA E0 D κ A s s.heap) (hT : ET s) (hno : ∀ x ∈ c.exceptionTable.toList, False) (hk : meth.locks = false) (hG : BW D κ ws A s H locs) (hls : ls.size = nL) (hstr : (is, text) ∈ EVS)
    (wk : Cond.classLink RX7 194 "java/lang/IndexOutOfBoundsException" ∈ WALL) (wi : Cond.initialized "java/lang/IndexOutOfBoundsException" ∈ WALL)
    (d0 : decode cc pc = .ok (.new 194, 3)) (d3 : decode cc (pc + 3) = .ok (.dup, 1)) (d4 : decode cc (pc + 4) = .ok (.ldc is, 2)) (d6 : decode cc (pc + 6) = .ok (.invokespecial 198, 3)) (d9 : decode cc (pc + 9) = .ok (.athrow, 1))
    (hRf : 5 < R.frames) (hRl : (rest.map fun v => v.category).sum + 82 ≤ R.locals) (hRc : cs + 1 ≤ R.cells) (hRs : ss + 6 ≤ R.slots) (hc : cs + 1 ≤ mc) (hs : ss + 6 ≤ ms) :
    W p l e R s m args below meth c H locs cs ss (vx_MQ below Qc (XC1 "java/lang/IndexOutOfBoundsException" A) args s mc ms A) (F0 m pc ls rest) := by
  obtain ⟨sa, hsa⟩ := hT.2.2.2.1 _ hstr
  exact vx_throwS (names := ["java/lang/RuntimeException", "java/lang/Exception"]) (A := A) hC.1 hC.2.1 hl0 hC.2.2.2.1 (by decide +kernel) (by decide +kernel) (hC.2.2.2.2 _ wk) (hC.2.2.2.2 _ wi) hsa (th_atIO hC hT) th_goodIO hE.1 hE.2.1 hG.2.2.2.1 (hls.trans hC.2.2.1.symm) d0 d3 d4 d6 d9 (fun x hx => (hno x hx).elim) hRf hRl hRc hRs hk
    (fun t hA h1 h2 => ⟨(), trivial, rfl, ⟨Nat.le_trans hG.2.2.2.1.1 h1, fun q hq hn => (h2 q (Nat.lt_of_lt_of_le hq hG.2.2.2.1.1)).trans (hG.2.2.2.1.2.1 q hq hn)⟩⟩) hG.2.2.2.1.2.2 hc hs
theorem th_IOW {is : Nat} {text : String} (hC : CallFix p m c cc nL s args WALL RX7) (hl0 : l.stackTraces = false) (hE : EA E0 D κ A s s.heap) (hT : ET s) (hno : ∀ x ∈ c.exceptionTable.toList, False) (hk : meth.locks = false) (hG : BW D κ ws A s H locs) (hls : ls.size = nL) (hstr : (is, text) ∈ EVS)
    (wk : Cond.classLink RX7 194 "java/lang/IndexOutOfBoundsException" ∈ WALL) (wi : Cond.initialized "java/lang/IndexOutOfBoundsException" ∈ WALL)
    (d0 : decode cc pc = .ok (.new 194, 3)) (d3 : decode cc (pc + 3) = .ok (.dup, 1)) (d4 : decode cc (pc + 4) = .ok (.ldc_w is, 3)) (d6 : decode cc (pc + 7) = .ok (.invokespecial 198, 3)) (d9 : decode cc (pc + 10) = .ok (.athrow, 1))
    (hRf : 5 < R.frames) (hRl : (rest.map fun v => v.category).sum + 82 ≤ R.locals) (hRc : cs + 1 ≤ R.cells) (hRs : ss + 6 ≤ R.slots) (hc : cs + 1 ≤ mc) (hs : ss + 6 ≤ ms) :
    W p l e R s m args below meth c H locs cs ss (vx_MQ below Qc (XC1 "java/lang/IndexOutOfBoundsException" A) args s mc ms A) (F0 m pc ls rest) := by
  obtain ⟨sa, hsa⟩ := hT.2.2.2.1 _ hstr
  exact vx_throwSW (names := ["java/lang/RuntimeException", "java/lang/Exception"]) (A := A) hC.1 hC.2.1 hl0 hC.2.2.2.1 (by decide +kernel) (by decide +kernel) (hC.2.2.2.2 _ wk) (hC.2.2.2.2 _ wi) hsa (th_atIO hC hT) th_goodIO hE.1 hE.2.1 hG.2.2.2.1 (hls.trans hC.2.2.1.symm) d0 d3 d4 d6 d9 (fun x hx => (hno x hx).elim) hRf hRl hRc hRs hk
    (fun t hA h1 h2 => ⟨(), trivial, rfl, ⟨Nat.le_trans hG.2.2.2.1.1 h1, fun q hq hn => (h2 q (Nat.lt_of_lt_of_le hq hG.2.2.2.1.1)).trans (hG.2.2.2.1.2.1 q hq hn)⟩⟩) hG.2.2.2.1.2.2 hc hs
end Throws
