/-! CLASSES, ARRAYS, WORDS -/
abbrev K4 : Type := ClassId × ClassId × ClassId × ClassId
abbrev vwM : List vw_C := [(RX0, TX0, 6), (RX1, TX1, 4), (RX2, TX2, 5), (RX3, TX3, 12), (RX4, TX4, 4), (RX5, TX5, 5), (RX6, TX6, 5), (RX7, TX7, 10), (RX8, TX8, 5), (RX14, TX14, 15), (RJx4a65c, TJx4a65c, 3)]
def tysA (κ : K4) : List (ClassId × FieldType) := [(κ.1, .int), (κ.2.1, .long), (κ.2.2.1, .boolean), (κ.2.2.2, .object "java/lang/Object")]
set_option maxRecDepth 100000 in
theorem wl_good : WALL.all goodWord = true := by decide +kernel
theorem wl_in : GoodIn WALL WALL := fun w h => ⟨h, good_of_word (List.all_eq_true.mp wl_good w h)⟩
def bI (b : Bool) : Int32 := if b then 1 else 0
theorem bI_n (b : Bool) : narrow .boolean (.int (bI b)) = .int (bI b) := by cases b <;> rfl
theorem bI_f (b : Bool) : fits .boolean (.int (bI b)) = true := by cases b <;> rfl
theorem fnI (g : Nat → Int32) (i : Nat) (v : Int32) : upd g i v = va_up g i v := by funext j; rfl
theorem fnJ (g : Nat → Int64) (i : Nat) (v : Int64) : vp_updL g i v = va_up g i v := by funext j; rfl
/-! CONSTRUCTORS: a world that grows, cell by cell -/
def BW (D : va_G) (κ : K4) (ws : va_W) (A : Nat → Prop) (s : State) (H : Heap) (locs : List Loc) : Prop :=
  va_K D vwM (tysA κ) s ∧ va_P D vwM ws H ∧ va_D A ws ∧ va_S A s.heap H locs ∧ ∀ q, s.heap.size ≤ q → A q
def BC (D : va_G) (κ : K4) (ws : va_W) (U : State) : Prop :=
  va_K D vwM (tysA κ) U ∧ va_P D vwM ws U.heap ∧ va_D (fun _ => True) ws
/-- links to private members of nest mates -/
def XN (L : List (String × Nat × MethodName)) (U : State) : Prop := ∀ w ∈ L, va_Nw (.methodLinkNest w.1 w.2.1 w.2.2 "Tollgate") U
theorem XN.warm {L L' : List (String × Nat × MethodName)} {s U : State} (hW : s.WarmedH U.vm) (h : XN L s) (hL : ∀ w ∈ L', w ∈ L) : XN L' U := fun w hw => va_Nw.warmM hW (h w (hL w hw))
theorem XN.same {L : List (String × Nat × MethodName)} {u U : State} (hv : u.vm = U.vm) (h : XN L u) : XN L U := fun w hw => va_Nw.same rfl hv (h w hw)
theorem BW.start {D : va_G} {κ : K4} {ws : va_W} {s : State} (h : BC D κ ws s) : BW D κ ws (va_A ws s.heap.size) s s.heap [] :=
  ⟨h.1, h.2.1, h.2.2.self, va_S.rf, fun _ hq => Or.inr hq⟩
theorem BC.of {D : va_G} {κ : K4} {ws : va_W} {A : Nat → Prop} {s t : State} {H : Heap} {locs : List Loc} (h : BW D κ ws A s H locs) (ht : t.heap = H) (hA : s.vm.Alike t.vm) : BC D κ ws t :=
  ⟨va_K.moved hA h.1, by rw [ht]; exact h.2.1, h.2.2.1.weaken (fun _ _ _ _ => trivial)⟩
theorem BW.at {D : va_G} {κ : K4} {ws ws' : va_W} {A : Nat → Prop} {s : State} {H : Heap} {locs : List Loc} (h : BW D κ ws A s H locs) (is : List Nat) (hn : va_nd is = true) (hs : is.map (fun i => ws[i]?) = ws'.map some) : BW D κ ws' A s H locs := by
  refine ⟨h.1, h.2.1.sub is ?_, h.2.2.1.sub is hn hs, h.2.2.2.1, h.2.2.2.2⟩
  have e : is.filterMap (fun i => ws[i]?) = (is.map (fun i => ws[i]?)).filterMap id := by rw [List.filterMap_map]; rfl
  rw [e, hs, List.filterMap_map]
  exact List.filterMap_some
/-- an array's contents count up to its length alone -/
theorem arrV_cong {cA : ClassId} {n : Nat} {f g : Nat → Value} (h : ∀ j, j < n → f j = g j) : arrV cA n f = arrV cA n g := by
  unfold arrV
  congr 1
  exact congrArg Array.ofFn (funext fun j => h j.val j.isLt)
theorem BW.arrI {D : va_G} {κ : K4} {ws : va_W} {A : Nat → Prop} {s : State} {H : Heap} {locs : List Loc} (h : BW D κ ws A s H locs) (k : Nat) {q n : Nat} {cA : ClassId} {f g : Nat → Int32} (hk : ws[k]? = some (q, .inl (cA, n, .inl f))) (hfg : ∀ j, j < n → f j = g j) : BW D κ (ws.set k (q, .inl (cA, n, .inl g))) A s H locs := by
  have hlt : k < ws.length := (List.getElem?_eq_some_iff.mp hk).1
  have hget : ∀ i (x : Nat × va_E), (ws.set k (q, .inl (cA, n, .inl g)))[i]? = some x → ∃ y, ws[i]? = some y ∧ y.1 = x.1 ∧ (i = k → x = (q, .inl (cA, n, .inl g))) ∧ (i ≠ k → y = x) := by
    intro i x hx
    by_cases hi : i = k
    · subst hi
      rw [List.getElem?_set_self hlt] at hx
      exact ⟨_, hk, by cases hx; rfl, fun _ => (Option.some.inj hx).symm, fun z => absurd rfl z⟩
    · rw [List.getElem?_set_ne (fun z => hi z.symm)] at hx
      exact ⟨x, hx, rfl, fun z => absurd z hi, fun _ => rfl⟩
  refine ⟨h.1, ?_, ⟨?_, ?_⟩, h.2.2.2.1, h.2.2.2.2⟩
  · intro i x hx
    obtain ⟨y, h1, h2, h3, h4⟩ := hget i x hx
    by_cases hi : i = k
    · rw [h3 hi]
      have h5 := h.2.1 k _ hk
      show H[q]? = some (vp_cell cA (n, .inl g))
      have h6 : H[q]? = some (vp_cell cA (n, .inl f)) := h5
      rw [h6]
      show some (arrV cA n (fun j => .int (f j))) = some (arrV cA n (fun j => .int (g j)))
      exact congrArg some (arrV_cong (fun j hj => by rw [hfg j hj]))
    · rw [← h4 hi]
      exact h.2.1 i y h1
  · intro i j x y hx hy e
    obtain ⟨x', a1, a2, -, -⟩ := hget i x hx
    obtain ⟨y', b1, b2, -, -⟩ := hget j y hy
    exact h.2.2.1.1 i j x' y' a1 b1 (by rw [a2, b2]; exact e)
  · intro i x hx
    obtain ⟨y, h1, h2, -, -⟩ := hget i x hx
    rw [← h2]
    exact h.2.2.1.2 i y h1
/-- a constructor's contract -/
def CM (l : Launch) (y : MethodName) (bytes : ByteArray) (maxL fr lo mc ms : Nat) (D : va_G) (κ : K4) (L : List (String × Nat × MethodName)) (ws : va_W) (sz : Nat) (av : List Value) (ws1 : (Nat → Nat) → va_W) : Prop :=
  Met l y (.code y bytes maxL none :: WALL) { frames := fr, cells := mc, slots := ms, locals := lo } (va_Pc av (fun U => U.heap.size = sz ∧ BC D κ ws U ∧ XN L U)) (va_Qv (fun _ : Nat → Nat => True) (fun qs t => BC D κ (ws1 qs) t ∧ va_D (va_A ws sz) (ws1 qs)) (va_A ws sz)) mc ms (va_A ws sz)
section Ctor
variable {p : Program} {l : Launch} {e : Env} {R : Room} {s : State} {m : MethodId} {args : Array Value} {below : List Frame} {meth : Method} {c : Code} {H : Heap} {locs : List Loc} {cs ss : Nat} {Q : State → Prop} {cc : ByteArray} {nL pc : Nat} {ls : Array Slot} {rest : List Value} {own : String} {idx : Nat} {D : va_G} {κ : K4} {ws : va_W} {A : Nat → Prop} {sz : Nat}
theorem CM.of {y : MethodName} {bytes : ByteArray} {maxL fr lo mc ms : Nat} {L : List (String × Nat × MethodName)} {av : List Value} {ws1 : (Nat → Nat) → va_W} (hy : plainName y.cls = true) (hL : (lg_sl av).length ≤ maxL) (hi : y.name = "<init>")
    (body : ∀ (p : Program) (e : Env) (s : State) (m : MethodId) (below : List Frame) (meth : Method) (c : Code) (ls : Array Slot), CallFix p m c bytes maxL s av.toArray WALL y.cls → meth.sig.returnType = none → meth.locks = false → meth.name = "<init>" → s.heap.size = sz → XN L s → ∀ (H : Heap) (locs : List Loc), BW D κ ws (va_A ws sz) s H locs → lv_has ls maxL (lv_args 0 av) →
      W p l e { frames := fr, cells := mc, slots := ms, locals := lo } s m av.toArray below meth c H locs 0 0 (MQ below (va_Qv (fun _ : Nat → Nat => True) (fun qs t => BC D κ (ws1 qs) t ∧ va_D (va_A ws sz) (ws1 qs)) (va_A ws sz)) av.toArray s mc ms (va_A ws sz)) (F0 m 0 ls [])) : CM l y bytes maxL fr lo mc ms D κ L ws sz av ws1 := by
  refine Met.ofW (cc := bytes) (maxL := maxL) (ret := none) hy rfl ?_
  intro p e s m args below meth c s₁ B hml hv
  obtain ⟨rfl, hsz, hW, hX⟩ := hv
  have hC : CallFix p m c bytes maxL s av.toArray WALL y.cls := ⟨B.exec, B.bytes, hml, findClass_of_methodNamed B.named, fun w h => atoms_spec (ws := .code y bytes maxL none :: WALL) B.pre w (List.mem_cons_of_mem _ h)⟩
  rw [lg_entry_eq]
  exact body p e s m below meth c _ hC B.returns B.notSynchronized (by rw [← hi]; exact (name_of_methodNamed B.named B.method).1) hsz hX _ _ (by rw [← hsz]; exact BW.start hW) (lv_entry av hL)
theorem bw_obj (hC : CallFix p m c cc nL s args WALL own) (wl : Cond.methodLink own idx Lib.objectInit ∈ WALL) (hls : ls.size = nL) {a : Addr} (hd : decode cc pc = .ok (.invokespecial idx, 3)) (hf : 1 ≤ R.frames) (hlo : (rest.map fun v => v.category).sum + 12 ≤ R.locals)
    (wi : Cond.instanceMethod Lib.objectInit ∈ WALL) (wc : Cond.code Lib.objectInit ⟨#[0xb1]⟩ 1 none ∈ WALL)
    (kk : W p l e R s m args below meth c H locs cs ss Q (F0 m (pc + 3) ls rest)) : W p l e R s m args below meth c H locs cs ss Q (F0 m pc ls (.ref a :: rest)) :=
  W.objInit hC.1 hC.2.1 hC.2.2.2.1 (hC.2.2.2.2 _ wl) (hC.2.2.2.2 _ wi) (hC.2.2.2.2 _ wc) rfl (hls.trans hC.2.2.1.symm) rfl hd hf (by show 2 * 0 + _ + 12 ≤ _; omega) kk
theorem bw_new {C : String} {T : u_T} {N ci : Nat} {ty : Nat → FieldType} (hC : CallFix p m c cc nL s args WALL own) (hG : BW D κ ws A s H locs) (hin : ∀ w ∈ u_ws C T N, w ∈ WALL) (hty : ∀ k, k < N → parseFieldDescriptor (T k).2.2.1 = some (ty k)) (w1 : Cond.classLink own idx C ∈ WALL) (w2 : Cond.instantiable C N ∈ WALL) (w3 : Cond.initialized C ∈ WALL)
    (hc : vwM[ci]? = some (C, T, N)) {fs : List Value} (hfs : ∀ j, j < N → defaultValue (ty j) = vp_V fs j) (hcells : cs + 1 ≤ R.cells) (hslots : ss + N ≤ R.slots) (hd : decode cc pc = .ok (.new idx, 3))
    (kk : ∀ (q : Nat) (H1 : Heap), BW D κ (ws ++ [(q, .inr (ci, fs))]) A s H1 locs → W p l e R s m args below meth c H1 locs (cs + 1) (ss + N) Q (F0 m (pc + 3) ls (.ref q :: rest))) : W p l e R s m args below meth c H locs cs ss Q (F0 m pc ls rest) :=
  va_new (D := D) (cl := vwM) (ci := ci) (fs := fs) (C := C) (T := T) (N := N) hC.1 hC.2.1 hC.2.2.2.2 hin ty hty hC.2.2.2.1 (hC.2.2.2.2 _ w1) (hC.2.2.2.2 _ w2) (hC.2.2.2.2 _ w3) hG.1 hG.2.1 hG.2.2.1 hG.2.2.2.1 hG.2.2.2.2 hc hfs hcells hslots hd (fun q H1 h1 h2 h3 => kk q H1 ⟨hG.1, h1, h2, h3, hG.2.2.2.2⟩)
theorem bw_nI (hC : CallFix p m c cc nL s args WALL own) (hG : BW D κ ws A s H locs) {N : Nat} (hN : N < 2 ^ 26) (w : Cond.arrayClass .int ∈ WALL) (hcells : cs + 1 ≤ R.cells) (hslots : ss + N ≤ R.slots) (hd : decode cc pc = .ok (.newarray .int, 2))
    (kk : ∀ (q : Nat) (H1 : Heap), BW D κ (ws ++ [(q, .inl (κ.1, N, .inl (fun _ => 0)))]) A s H1 locs → W p l e R s m args below meth c H1 locs (cs + 1) (ss + N) Q (F0 m (pc + 2) ls (.ref q :: rest))) : W p l e R s m args below meth c H locs cs ss Q (F0 m pc ls (.int (nI N) :: rest)) :=
  va_newa (D := D) (cl := vwM) (atype := .int) (N' := N) (a0 := (N, .inl (fun _ => 0))) hC.1 hC.2.1 (hC.2.2.2.2 _ w) rfl hG.1 hG.2.1 hG.2.2.1 hG.2.2.2.1 hG.2.2.2.2 (fun _ => rfl) (nI_pos (by omega)) (nI_clamp (by omega)) (by show N * 4 ≤ _; omega) hcells hslots hd (fun q cA H1 h0 h1 h2 h3 => by
    have e1 := (h0.2 0 (κ.1, .int) rfl).2
    have e2 := (h0.2 4 (cA, .int) rfl).2
    have e3 : κ.1 = cA := Option.some.inj (e1.symm.trans e2)
    subst e3
    exact kk q H1 ⟨hG.1, h1, h2, h3, hG.2.2.2.2⟩)
theorem bw_nJ (hC : CallFix p m c cc nL s args WALL own) (hG : BW D κ ws A s H locs) {N : Nat} (hN : N < 2 ^ 26) (w : Cond.arrayClass .long ∈ WALL) (hcells : cs + 1 ≤ R.cells) (hslots : ss + N ≤ R.slots) (hd : decode cc pc = .ok (.newarray .long, 2))
    (kk : ∀ (q : Nat) (H1 : Heap), BW D κ (ws ++ [(q, .inl (κ.2.1, N, .inr (.inl (fun _ => 0))))]) A s H1 locs → W p l e R s m args below meth c H1 locs (cs + 1) (ss + N) Q (F0 m (pc + 2) ls (.ref q :: rest))) : W p l e R s m args below meth c H locs cs ss Q (F0 m pc ls (.int (nI N) :: rest)) :=
  va_newa (D := D) (cl := vwM) (atype := .long) (N' := N) (a0 := (N, .inr (.inl (fun _ => 0)))) hC.1 hC.2.1 (hC.2.2.2.2 _ w) rfl hG.1 hG.2.1 hG.2.2.1 hG.2.2.2.1 hG.2.2.2.2 (fun _ => rfl) (nI_pos (by omega)) (nI_clamp (by omega)) (by show N * 8 ≤ _; omega) hcells hslots hd (fun q cA H1 h0 h1 h2 h3 => by
    have e1 := (h0.2 1 (κ.2.1, .long) rfl).2
    have e2 := (h0.2 4 (cA, .long) rfl).2
    have e3 : κ.2.1 = cA := Option.some.inj (e1.symm.trans e2)
    rw [← e3] at h1 h2
    exact kk q H1 ⟨hG.1, h1, h2, h3, hG.2.2.2.2⟩)
theorem bw_nZ (hC : CallFix p m c cc nL s args WALL own) (hG : BW D κ ws A s H locs) {N : Nat} (hN : N < 2 ^ 28) (w : Cond.arrayClass .boolean ∈ WALL) (hcells : cs + 1 ≤ R.cells) (hslots : ss + N ≤ R.slots) (hd : decode cc pc = .ok (.newarray .boolean, 2))
    (kk : ∀ (q : Nat) (H1 : Heap), BW D κ (ws ++ [(q, .inl (κ.2.2.1, N, .inl (fun _ => 0)))]) A s H1 locs → W p l e R s m args below meth c H1 locs (cs + 1) (ss + N) Q (F0 m (pc + 2) ls (.ref q :: rest))) : W p l e R s m args below meth c H locs cs ss Q (F0 m pc ls (.int (nI N) :: rest)) :=
  va_newa (D := D) (cl := vwM) (atype := .boolean) (N' := N) (a0 := (N, .inl (fun _ => 0))) hC.1 hC.2.1 (hC.2.2.2.2 _ w) rfl hG.1 hG.2.1 hG.2.2.1 hG.2.2.2.1 hG.2.2.2.2 (fun _ => rfl) (nI_pos (by omega)) (nI_clamp (by omega)) (by show N * 1 ≤ _; omega) hcells hslots hd (fun q cA H1 h0 h1 h2 h3 => by
    have e1 := (h0.2 2 (κ.2.2.1, .boolean) rfl).2
    have e2 := (h0.2 4 (cA, .boolean) rfl).2
    have e3 : κ.2.2.1 = cA := Option.some.inj (e1.symm.trans e2)
    rw [← e3] at h1 h2
    exact kk q H1 ⟨hG.1, h1, h2, h3, hG.2.2.2.2⟩)
theorem bw_put {C ref : String} {T : u_T} {N ci : Nat} {ty0 : Nat → FieldType} (k : Nat) (hk : k < N) (q0 : Nat) {a : Nat} {fs : List Value} (hC : CallFix p m c cc nL s args WALL own) (hG : BW D κ ws A s H locs) (hin : ∀ w ∈ u_ws C T N, w ∈ WALL) (hty : ∀ k, k < N → parseFieldDescriptor (T k).2.2.1 = some (ty0 k)) (hnm : ∀ a, a < N → ∀ b, b < N → a ≠ b → (T a).2.1 ≠ (T b).2.1)
    (he : ws[q0]? = some (a, .inr (ci, fs))) (hc : vwM[ci]? = some (C, T, N)) (wl : Cond.fieldLink own idx ref (T k).2.1 (T k).2.2.1 ∈ WALL) (hsame : (T k).1 = ref) (hfin : (T k).2.2.2 = false ∨ (meth.name = "<init>" ∧ (T k).1 = own)) {ty : FieldType} {v : Value} (hd : parseFieldDescriptor (T k).2.2.1 = some ty) (hn : narrow ty v = v) (hfit : fits ty v = true) (hl : k < fs.length)
    (hdg : decode cc pc = .ok (.putfield idx, 3)) (kk : ∀ (H1 : Heap) (locs1 : List Loc), BW D κ (ws.set q0 (a, .inr (ci, fs.set k v))) A s H1 locs1 → W p l e R s m args below meth c H1 locs1 cs ss Q (F0 m (pc + 3) ls rest)) : W p l e R s m args below meth c H locs cs ss Q (F0 m pc ls (v :: .ref a :: rest)) := by
  subst hsame
  by_cases hf : (T k).2.2.2 = false
  · exact va_put (D := D) (ci := ci) (v := v) (ty := ty) (C := C) (T := T) (N := N) hC.1 hC.2.1 hC.2.2.2.2 hin ty0 hty hnm hC.2.2.2.1 hG.1 hG.2.1 hG.2.2.1 hG.2.2.2.1 q0 he hc k hk (hC.2.2.2.2 _ wl) (fun _ h => h) hf hd hn hfit hl hdg (fun H1 locs1 h1 h2 h3 => kk H1 locs1 ⟨hG.1, h1, h2, h3, hG.2.2.2.2⟩)
  · have hf2 : (T k).2.2.2 = true := by cases hq : (T k).2.2.2; exact absurd hq hf; rfl
    have hr := hfin.resolve_left hf
    exact va_putF (D := D) (ci := ci) (v := v) (ty := ty) (C := C) (T := T) (N := N) hC.1 hC.2.1 hC.2.2.2.2 hin ty0 hty hnm hC.2.2.2.1 hG.1 hG.2.1 hG.2.2.1 hG.2.2.2.1 q0 he hc k hk (hC.2.2.2.2 _ wl) (fun _ h => h) hf2 hr.1 hr.2 hd hn hfit hl hdg (fun H1 locs1 h1 h2 h3 => kk H1 locs1 ⟨hG.1, h1, h2, h3, hG.2.2.2.2⟩)
theorem bw_ast (q0 : Nat) {a n : Nat} {f : Nat → Int32} {i : Nat} {x : Int32} (hC : CallFix p m c cc nL s args WALL own) (hG : BW D κ ws A s H locs) (ha : ws[q0]? = some (a, .inl (κ.1, n, .inl f))) (hi : i < n) (hn : n < 2 ^ 31) (hd : decode cc pc = .ok (.iastore, 1))
    (kk : ∀ (H1 : Heap) (locs1 : List Loc), BW D κ (ws.set q0 (a, .inl (κ.1, n, .inl (va_up f i x)))) A s H1 locs1 → W p l e R s m args below meth c H1 locs1 cs ss Q (F0 m (pc + 1) ls rest)) : W p l e R s m args below meth c H locs cs ss Q (F0 m pc ls (.int x :: .int (nI i) :: .ref a :: rest)) :=
  va_iast hC.1 hC.2.1 hG.1 hG.2.1 hG.2.2.1 hG.2.2.2.1 q0 0 ha rfl (vp_in_nI hi hn) hd (fun H1 locs1 h1 h2 h3 => by
    have e9 : (nI i).toNatClampNeg = i := nI_clamp (by omega)
    rw [e9, fnI] at h1 h2
    exact kk H1 locs1 ⟨hG.1, h1, h2, h3, hG.2.2.2.2⟩)
theorem bw_get {C ref : String} {T : u_T} {N ci : Nat} (k : Nat) (hk : k < N) (q0 : Nat) {a : Nat} {fs : List Value} {v : Value} (hC : CallFix p m c cc nL s args WALL own) (hG : BW D κ ws A s H locs) (hin : ∀ w ∈ u_ws C T N, w ∈ WALL)
    (he : ws[q0]? = some (a, .inr (ci, fs))) (hc : vwM[ci]? = some (C, T, N)) (wl : Cond.fieldLink own idx ref (T k).2.1 (T k).2.2.1 ∈ WALL) (hsame : (T k).1 = ref) (hv : fs[k]? = some v) (hdg : decode cc pc = .ok (.getfield idx, 3))
    (kk : W p l e R s m args below meth c H locs cs ss Q (F0 m (pc + 3) ls (v :: rest))) : W p l e R s m args below meth c H locs cs ss Q (F0 m pc ls (.ref a :: rest)) := by
  subst hsame
  exact va_get (D := D) (ci := ci) (v := v) (C := C) (T := T) (N := N) hC.1 hC.2.1 hC.2.2.2.2 hin hC.2.2.2.1 hG.1 hG.2.1 q0 he hc k hk (hC.2.2.2.2 _ wl) (fun _ h => h) hv hdg kk
theorem bw_end {ws0 ws2 : va_W} {mc ms : Nat} {ws1 : (Nat → Nat) → va_W} {qs : Nat → Nat} (hC : CallFix p m c cc nL s args WALL own) (hG : BW D κ ws2 (va_A ws0 sz) s H locs) (hq : ws2 = ws1 qs) (hr : meth.sig.returnType = none) (hk : meth.locks = false) (hcs : cs ≤ mc) (hss : ss ≤ ms) (hd : decode cc pc = .ok (.return_, 1)) :
    W p l e R s m args below meth c H locs cs ss (MQ below (va_Qv (fun _ : Nat → Nat => True) (fun qs t => BC D κ (ws1 qs) t ∧ va_D (va_A ws0 sz) (ws1 qs)) (va_A ws0 sz)) args s mc ms (va_A ws0 sz)) (F0 m pc ls []) := by
  subst hq
  refine W.widen (k := mc) (n := ms) hcs hss ?_
  exact W.vret hC.1 hC.2.1 hr (fun t ht hW => ⟨⟨qs, rfl, trivial, BC.of hG ht hW.alike, hG.2.2.1⟩, hG.2.2.2.1.F ht⟩) hG.2.2.2.1.2.2 hd hk
/-- behind a constructor's call: what came back stands behind the rest -/
theorem bw_run {av : Array Value} {st0 : List Value} {wc wr : va_W} {ws1 : (Nat → Nat) → va_W} {mc ms : Nat} (hG : BW D κ ws A s H locs) (isC isR : List Nat) (hCs : isC.map (fun i => ws[i]?) = wc.map some) (hRs : isR.map (fun i => ws[i]?) = wr.map some) (hn : va_nd isR = true) (hdis : ∀ i ∈ isR, i ∉ isC)
    (hr : va_Run p l e R s m args below meth c H locs cs ss mc ms (F0 m pc ls st0) rest (va_Qv (fun _ : Nat → Nat => True) (fun qs t => BC D κ (ws1 qs) t ∧ va_D (va_A wc H.size) (ws1 qs)) (va_A wc H.size) av) (va_A wc H.size))
    (kk : ∀ (qs : Nat → Nat) (H1 : Heap) (locs1 : List Loc), BW D κ (wr ++ ws1 qs) A s H1 locs1 → W p l e R s m args below meth c H1 locs1 (cs + mc) (ss + ms) Q (F0 m (pc + 3) ls rest)) : W p l e R s m args below meth c H locs cs ss Q (F0 m pc ls st0) := by
  have hF := va_free hG.2.2.1 hG.2.2.2.1 hG.2.2.2.2 isC hCs
  refine va_callv hr hG.2.2.2.1 (fun q _ h => hF q h) hF (fun qs t H1 locs1 ht hvm _ hB hz hk hS => ?_)
  obtain ⟨⟨hK1, hP1, hD1⟩, hD2⟩ := hB
  rw [ht] at hP1
  obtain ⟨hP, hD⟩ := va_join hG.2.1 hG.2.2.1 isC isR hCs hRs hn hdis hk hF hP1 hD2
  exact kk qs H1 locs1 ⟨hG.1, hP, hD, hS, hG.2.2.2.2⟩
end Ctor
