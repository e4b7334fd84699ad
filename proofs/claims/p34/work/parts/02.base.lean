/-! THE STATE: numbers, ints, booleans; arrays of numbers, ints, booleans, longs -/
abbrev TS : Type := (Nat → Nat) × (Nat → Bool) × (Nat → Option Nat) × (Nat → Nat → Nat) × (Nat → Nat → Int32) × (Nat → Nat → Bool) × (Nat → Nat → Option Nat) × (Nat → Nat → Int64)
def bI (b : Bool) : Int32 := if b then 1 else 0
theorem bI_n (b : Bool) : narrow .boolean (.int (bI b)) = .int (bI b) := by cases b <;> rfl
theorem bI_f (b : Bool) : fits .boolean (.int (bI b)) = true := by cases b <;> rfl
theorem bI_v (b : Bool) : vp_nar .boolean (bI b) = bI b := by cases b <;> rfl
theorem bI_0 (b : Bool) : bI b = 0 ↔ b = false := by cases b <;> simp [bI]
/-- a place, or -1 -/
def oI (o : Option Nat) : Int32 := match o with
  | none => -1
  | some j => nI j
def sN (u : TS) (k : Nat) (v : Nat) : TS := (va_up u.1 k v, u.2)
def sB (u : TS) (k : Nat) (v : Bool) : TS := (u.1, va_up u.2.1 k v, u.2.2)
def sO (u : TS) (k : Nat) (v : Option Nat) : TS := (u.1, u.2.1, va_up u.2.2.1 k v, u.2.2.2)
def sAN (u : TS) (k i : Nat) (v : Nat) : TS := (u.1, u.2.1, u.2.2.1, va_up u.2.2.2.1 k (va_up (u.2.2.2.1 k) i v), u.2.2.2.2)
def sAI (u : TS) (k i : Nat) (v : Int32) : TS := (u.1, u.2.1, u.2.2.1, u.2.2.2.1, va_up u.2.2.2.2.1 k (va_up (u.2.2.2.2.1 k) i v), u.2.2.2.2.2)
def sAB (u : TS) (k i : Nat) (v : Bool) : TS := (u.1, u.2.1, u.2.2.1, u.2.2.2.1, u.2.2.2.2.1, va_up u.2.2.2.2.2.1 k (va_up (u.2.2.2.2.2.1 k) i v), u.2.2.2.2.2.2)
def sAO (u : TS) (k i : Nat) (v : Option Nat) : TS := (u.1, u.2.1, u.2.2.1, u.2.2.2.1, u.2.2.2.2.1, u.2.2.2.2.2.1, va_up u.2.2.2.2.2.2.1 k (va_up (u.2.2.2.2.2.2.1 k) i v), u.2.2.2.2.2.2.2)
def sAJ (u : TS) (k i : Nat) (v : Int64) : TS := (u.1, u.2.1, u.2.2.1, u.2.2.2.1, u.2.2.2.2.1, u.2.2.2.2.2.1, u.2.2.2.2.2.2.1, va_up u.2.2.2.2.2.2.2 k (va_up (u.2.2.2.2.2.2.2 k) i v))
theorem fnN (g : Nat → Nat) (i v : Nat) : upd (fun j => nI (g j)) i (nI v) = fun j => nI (va_up g i v j) := by funext j; unfold upd va_up; split <;> rfl
theorem fnI (g : Nat → Int32) (i : Nat) (v : Int32) : upd g i v = va_up g i v := by funext j; rfl
theorem fnB (g : Nat → Bool) (i : Nat) (v : Bool) : upd (fun j => bI (g j)) i (bI v) = fun j => bI (va_up g i v j) := by funext j; unfold upd va_up; split <;> rfl
theorem fnO (g : Nat → Option Nat) (i : Nat) (v : Option Nat) : upd (fun j => oI (g j)) i (oI v) = fun j => oI (va_up g i v j) := by funext j; unfold upd va_up; split <;> rfl
theorem fnJ (g : Nat → Int64) (i : Nat) (v : Int64) : vp_updL g i v = va_up g i v := by funext j; rfl
abbrev T_exchangeAccount (u : TS) : Option Nat := u.2.2.1 0
abbrev T_today (u : TS) : Nat := u.1 0
abbrev AC_rates (u : TS) (i : Nat) : Int32 := u.2.2.2.2.1 0 i
abbrev AC_kind (u : TS) (i : Nat) : Nat := u.2.2.2.1 0 i
abbrev AC_currency (u : TS) (i : Nat) : Nat := u.2.2.2.1 1 i
abbrev AC_floors (u : TS) (i : Nat) : Int32 := u.2.2.2.2.1 1 i
abbrev AC_hasFloor (u : TS) (i : Nat) : Bool := u.2.2.2.2.2.1 0 i
abbrev AC_count (u : TS) : Nat := u.1 1
abbrev DR_isThere (u : TS) : Bool := u.2.1 0
abbrev DR_day (u : TS) : Nat := u.1 2
abbrev DR_note (u : TS) : Nat := u.1 3
abbrev L0_account (u : TS) (i : Nat) : Nat := u.2.2.2.1 2 i
abbrev L0_amount (u : TS) (i : Nat) : Int64 := u.2.2.2.2.2.2.2 0 i
abbrev L0_worth (u : TS) (i : Nat) : Int64 := u.2.2.2.2.2.2.2 1 i
abbrev L0_count (u : TS) : Nat := u.1 4
abbrev L1_account (u : TS) (i : Nat) : Nat := u.2.2.2.1 3 i
abbrev L1_amount (u : TS) (i : Nat) : Int64 := u.2.2.2.2.2.2.2 2 i
abbrev L1_worth (u : TS) (i : Nat) : Int64 := u.2.2.2.2.2.2.2 3 i
abbrev L1_count (u : TS) : Nat := u.1 5
abbrev J_day (u : TS) (i : Nat) : Nat := u.2.2.2.1 4 i
abbrev J_note (u : TS) (i : Nat) : Nat := u.2.2.2.1 5 i
abbrev J_firstLeg (u : TS) (i : Nat) : Nat := u.2.2.2.1 6 i
abbrev J_legsOf (u : TS) (i : Nat) : Nat := u.2.2.2.1 7 i
abbrev J_gone (u : TS) (i : Nat) : Bool := u.2.2.2.2.2.1 1 i
abbrev J_isClosing (u : TS) (i : Nat) : Bool := u.2.2.2.2.2.1 2 i
abbrev J_count (u : TS) : Nat := u.1 6
abbrev J_entryOf (u : TS) (i : Nat) : Nat := u.2.2.2.1 8 i
abbrev J_account (u : TS) (i : Nat) : Nat := u.2.2.2.1 9 i
abbrev J_amount (u : TS) (i : Nat) : Int64 := u.2.2.2.2.2.2.2 4 i
abbrev J_worth (u : TS) (i : Nat) : Int64 := u.2.2.2.2.2.2.2 5 i
abbrev J_legCount (u : TS) : Nat := u.1 7
abbrev HO_account (u : TS) (i : Nat) : Nat := u.2.2.2.1 10 i
abbrev HO_amount (u : TS) (i : Nat) : Int32 := u.2.2.2.2.1 2 i
abbrev HO_lastDay (u : TS) (i : Nat) : Nat := u.2.2.2.1 11 i
abbrev HO_isEnded (u : TS) (i : Nat) : Bool := u.2.2.2.2.2.1 3 i
abbrev HO_count (u : TS) : Nat := u.1 8
abbrev LI_account (u : TS) (i : Nat) : Nat := u.2.2.2.1 12 i
abbrev LI_day (u : TS) (i : Nat) : Nat := u.2.2.2.1 13 i
abbrev LI_amount (u : TS) (i : Nat) : Int32 := u.2.2.2.2.1 3 i
abbrev LI_byDay (u : TS) (i : Nat) : Nat := u.2.2.2.1 14 i
abbrev LI_count (u : TS) : Nat := u.1 9
abbrev M0_lineOfLeg (u : TS) (i : Nat) : Option Nat := u.2.2.2.2.2.2.1 0 i
abbrev M0_firstOfLine (u : TS) (i : Nat) : Option Nat := u.2.2.2.2.2.2.1 1 i
abbrev M0_secondOfLine (u : TS) (i : Nat) : Option Nat := u.2.2.2.2.2.2.1 2 i
abbrev M1_lineOfLeg (u : TS) (i : Nat) : Option Nat := u.2.2.2.2.2.2.1 3 i
abbrev M1_firstOfLine (u : TS) (i : Nat) : Option Nat := u.2.2.2.2.2.2.1 4 i
abbrev M1_secondOfLine (u : TS) (i : Nat) : Option Nat := u.2.2.2.2.2.2.1 5 i
/-- the cells of a ledger, their addresses by a -/
def cells (κ : ClassId × ClassId × ClassId) (a : Nat → Nat) (u : TS) : va_W :=
  [(a 0, .inr (7, [(.ref (a 1)), (.ref (a 2)), (.ref (a 5)), (.ref (a 6)), (.ref (a 7)), (.ref (a 8)), (.ref (a 9)), (.ref (a 4)), (.int (oI (T_exchangeAccount u))), (.int (nI (T_today u)))])),
   (a 1, .inr (0, [(.ref (a 10)), (.ref (a 11)), (.ref (a 12)), (.ref (a 13)), (.ref (a 14)), (.int (nI (AC_count u)))])),
   (a 2, .inr (1, [(.ref (a 3)), (.int (bI (DR_isThere u))), (.int (nI (DR_day u))), (.int (nI (DR_note u)))])),
   (a 3, .inr (4, [(.ref (a 15)), (.ref (a 16)), (.ref (a 17)), (.int (nI (L0_count u)))])),
   (a 4, .inr (4, [(.ref (a 18)), (.ref (a 19)), (.ref (a 20)), (.int (nI (L1_count u)))])),
   (a 5, .inr (3, [(.ref (a 21)), (.ref (a 22)), (.ref (a 23)), (.ref (a 24)), (.ref (a 25)), (.ref (a 26)), (.int (nI (J_count u))), (.ref (a 27)), (.ref (a 28)), (.ref (a 29)), (.ref (a 30)), (.int (nI (J_legCount u)))])),
   (a 6, .inr (2, [(.ref (a 31)), (.ref (a 32)), (.ref (a 33)), (.ref (a 34)), (.int (nI (HO_count u)))])),
   (a 7, .inr (5, [(.ref (a 35)), (.ref (a 36)), (.ref (a 37)), (.ref (a 38)), (.int (nI (LI_count u)))])),
   (a 8, .inr (6, [(.ref (a 5)), (.ref (a 7)), (.ref (a 39)), (.ref (a 40)), (.ref (a 41))])),
   (a 9, .inr (6, [(.ref (a 5)), (.ref (a 7)), (.ref (a 42)), (.ref (a 43)), (.ref (a 44))])),
   (a 10, .inl (κ.1, 4, .inl (u.2.2.2.2.1 0))),
   (a 11, .inl (κ.1, 10, .inl (fun j => nI (u.2.2.2.1 0 j)))),
   (a 12, .inl (κ.1, 10, .inl (fun j => nI (u.2.2.2.1 1 j)))),
   (a 13, .inl (κ.1, 10, .inl (u.2.2.2.2.1 1))),
   (a 14, .inl (κ.2.2, 10, .inl (fun j => bI (u.2.2.2.2.2.1 0 j)))),
   (a 15, .inl (κ.1, 10, .inl (fun j => nI (u.2.2.2.1 2 j)))),
   (a 16, .inl (κ.2.1, 10, .inr (.inl (u.2.2.2.2.2.2.2 0)))),
   (a 17, .inl (κ.2.1, 10, .inr (.inl (u.2.2.2.2.2.2.2 1)))),
   (a 18, .inl (κ.1, 10, .inl (fun j => nI (u.2.2.2.1 3 j)))),
   (a 19, .inl (κ.2.1, 10, .inr (.inl (u.2.2.2.2.2.2.2 2)))),
   (a 20, .inl (κ.2.1, 10, .inr (.inl (u.2.2.2.2.2.2.2 3)))),
   (a 21, .inl (κ.1, 60, .inl (fun j => nI (u.2.2.2.1 4 j)))),
   (a 22, .inl (κ.1, 60, .inl (fun j => nI (u.2.2.2.1 5 j)))),
   (a 23, .inl (κ.1, 60, .inl (fun j => nI (u.2.2.2.1 6 j)))),
   (a 24, .inl (κ.1, 60, .inl (fun j => nI (u.2.2.2.1 7 j)))),
   (a 25, .inl (κ.2.2, 60, .inl (fun j => bI (u.2.2.2.2.2.1 1 j)))),
   (a 26, .inl (κ.2.2, 60, .inl (fun j => bI (u.2.2.2.2.2.1 2 j)))),
   (a 27, .inl (κ.1, 600, .inl (fun j => nI (u.2.2.2.1 8 j)))),
   (a 28, .inl (κ.1, 600, .inl (fun j => nI (u.2.2.2.1 9 j)))),
   (a 29, .inl (κ.2.1, 600, .inr (.inl (u.2.2.2.2.2.2.2 4)))),
   (a 30, .inl (κ.2.1, 600, .inr (.inl (u.2.2.2.2.2.2.2 5)))),
   (a 31, .inl (κ.1, 20, .inl (fun j => nI (u.2.2.2.1 10 j)))),
   (a 32, .inl (κ.1, 20, .inl (u.2.2.2.2.1 2))),
   (a 33, .inl (κ.1, 20, .inl (fun j => nI (u.2.2.2.1 11 j)))),
   (a 34, .inl (κ.2.2, 20, .inl (fun j => bI (u.2.2.2.2.2.1 3 j)))),
   (a 35, .inl (κ.1, 40, .inl (fun j => nI (u.2.2.2.1 12 j)))),
   (a 36, .inl (κ.1, 40, .inl (fun j => nI (u.2.2.2.1 13 j)))),
   (a 37, .inl (κ.1, 40, .inl (u.2.2.2.2.1 3))),
   (a 38, .inl (κ.1, 40, .inl (fun j => nI (u.2.2.2.1 14 j)))),
   (a 39, .inl (κ.1, 600, .inl (fun j => oI (u.2.2.2.2.2.2.1 0 j)))),
   (a 40, .inl (κ.1, 40, .inl (fun j => oI (u.2.2.2.2.2.2.1 1 j)))),
   (a 41, .inl (κ.1, 40, .inl (fun j => oI (u.2.2.2.2.2.2.1 2 j)))),
   (a 42, .inl (κ.1, 600, .inl (fun j => oI (u.2.2.2.2.2.2.1 3 j)))),
   (a 43, .inl (κ.1, 40, .inl (fun j => oI (u.2.2.2.2.2.2.1 4 j)))),
   (a 44, .inl (κ.1, 40, .inl (fun j => oI (u.2.2.2.2.2.2.1 5 j))))]
def tysA (κ : ClassId × ClassId × ClassId) : List (ClassId × FieldType) := [(κ.1, .int), (κ.2.1, .long), (κ.2.2, .boolean)]
/-- what a ledger may change: its own cells, and what is new -/
def AA (a : Nat → Nat) (sz : Nat) : Nat → Prop := fun q => (∃ k, k < 45 ∧ q = a k) ∨ sz ≤ q
/-- the world inside a method -/
def GW (D : va_G) (κ : ClassId × ClassId × ClassId) (a : Nat → Nat) (u : TS) (A : Nat → Prop) (s : State) (H : Heap) (locs : List Loc) : Prop :=
  va_K D vwCl (tysA κ) s ∧ va_P D vwCl (cells κ a u) H ∧ va_D A (cells κ a u) ∧ va_S A s.heap H locs ∧ ∀ q, s.heap.size ≤ q → A q
/-- the world at a method's start and end -/
def CW (D : va_G) (κ : ClassId × ClassId × ClassId) (a : Nat → Nat) (u : TS) (U : State) : Prop :=
  va_K D vwCl (tysA κ) U ∧ va_P D vwCl (cells κ a u) U.heap ∧ va_D (fun _ => True) (cells κ a u)
theorem cells_addr (κ : ClassId × ClassId × ClassId) (a : Nat → Nat) (u : TS) : (cells κ a u).map (·.1) = (List.range 45).map a := rfl
theorem cells_in {κ : ClassId × ClassId × ClassId} {a : Nat → Nat} {u : TS} {k : Nat} {q : Nat × va_E} (h : (cells κ a u)[k]? = some q) : k < 45 ∧ q.1 = a k := by
  have h1 : ((cells κ a u).map (·.1))[k]? = some q.1 := by rw [List.getElem?_map, h]; rfl
  rw [cells_addr, List.getElem?_map] at h1
  rcases Nat.lt_or_ge k 45 with hk | hk
  · rw [List.getElem?_range hk] at h1
    exact ⟨hk, (Option.some.inj h1).symm⟩
  · rw [List.getElem?_eq_none (by simpa using hk)] at h1
    cases h1
theorem cells_out {κ : ClassId × ClassId × ClassId} {a : Nat → Nat} {u : TS} {k : Nat} (hk : k < 45) : ∃ e, (cells κ a u)[k]? = some (a k, e) := by
  have hl : (cells κ a u).length = 45 := rfl
  have h := List.getElem?_eq_getElem (l := cells κ a u) (i := k) (by rw [hl]; exact hk)
  exact ⟨_, by rw [h]; exact congrArg some (Prod.ext (cells_in h).2 rfl)⟩
theorem GW.start {D : va_G} {κ : ClassId × ClassId × ClassId} {a : Nat → Nat} {u : TS} {s : State} (h : CW D κ a u s) : GW D κ a u (AA a s.heap.size) s s.heap [] :=
  ⟨h.1, h.2.1, ⟨h.2.2.1, fun k q hk => Or.inl ⟨k, cells_in hk⟩⟩, va_S.rf, fun _ hq => Or.inr hq⟩
theorem CW.of {D : va_G} {κ : ClassId × ClassId × ClassId} {a : Nat → Nat} {u : TS} {A : Nat → Prop} {s t : State} {H : Heap} {locs : List Loc} (h : GW D κ a u A s H locs) (ht : t.heap = H) (hA : s.vm.Alike t.vm) : CW D κ a u t :=
  ⟨va_K.moved hA h.1, by rw [ht]; exact h.2.1, h.2.2.1.weaken (fun _ _ _ _ => trivial)⟩
theorem AA.of {D : va_G} {κ : ClassId × ClassId × ClassId} {a : Nat → Nat} {u : TS} {A : Nat → Prop} {s : State} {H : Heap} {locs : List Loc} (h : GW D κ a u A s H locs) (q : Nat) (hq : AA a H.size q) : A q := by
  rcases hq with ⟨k, hk, rfl⟩ | hq
  · obtain ⟨e, he⟩ := cells_out (κ := κ) (a := a) (u := u) hk
    exact h.2.2.1.2 k _ he
  · exact h.2.2.2.2 q (Nat.le_trans h.2.2.2.1.1 hq)
theorem GW.back {D : va_G} {κ : ClassId × ClassId × ClassId} {a : Nat → Nat} {u u' : TS} {A : Nat → Prop} {s t : State} {H H1 : Heap} {locs locs1 : List Loc} (h : GW D κ a u A s H locs) (hW : CW D κ a u' t) (ht : t.heap = H1) (hvm : s.vm.Alike t.vm) (hS : va_S A s.heap H1 locs1) : GW D κ a u' A s H1 locs1 := by
  refine ⟨h.1, by rw [← ht]; exact hW.2.1, ⟨hW.2.2.1, fun k q hk => ?_⟩, hS, h.2.2.2.2⟩
  obtain ⟨hk2, hq⟩ := cells_in hk
  obtain ⟨e, he⟩ := cells_out (κ := κ) (a := a) (u := u) hk2
  rw [hq]
  exact h.2.2.1.2 k _ he
theorem CW.blind {D : va_G} {κ : ClassId × ClassId × ClassId} {a : Nat → Nat} {u : TS} {sz : Nat} {av : List Value} : FrameBlind (va_Pc av (fun U => U.heap.size = sz ∧ CW D κ a u U)) :=
  fun x U g mk q => ⟨q.1, q.2.1, va_K.moved (u := U) (U := U.calling g mk x) (Vm.Alike.refl U.vm) q.2.2.1, q.2.2.2⟩
abbrev WALL : List Cond := wsL_law0
set_option maxRecDepth 100000 in
theorem wl_good : WALL.all goodWord = true := by decide +kernel
theorem wl_in : GoodIn WALL WALL := fun w h => ⟨h, good_of_word (List.all_eq_true.mp wl_good w h)⟩
theorem iw7 : ∀ w ∈ wsX70, w ∈ WALL := fun _ h => List.mem_append_left _ (List.mem_append_left _ (List.mem_append_left _ (List.mem_append_left _ (List.mem_append_left _ (List.mem_append_left _ (List.mem_append_left _ (List.mem_append_left _ (List.mem_append_right _ h))))))))
theorem iw0 : ∀ w ∈ wsX00, w ∈ WALL := fun _ h => List.mem_append_left _ (List.mem_append_left _ (List.mem_append_left _ (List.mem_append_left _ (List.mem_append_left _ (List.mem_append_left _ (List.mem_append_left _ (List.mem_append_right _ h)))))))
theorem iw1 : ∀ w ∈ wsX10, w ∈ WALL := fun _ h => List.mem_append_left _ (List.mem_append_left _ (List.mem_append_left _ (List.mem_append_left _ (List.mem_append_left _ (List.mem_append_left _ (List.mem_append_right _ h))))))
theorem iw3 : ∀ w ∈ wsX30, w ∈ WALL := fun _ h => List.mem_append_left _ (List.mem_append_left _ (List.mem_append_left _ (List.mem_append_left _ (List.mem_append_left _ (List.mem_append_right _ h)))))
theorem iw2 : ∀ w ∈ wsX20, w ∈ WALL := fun _ h => List.mem_append_left _ (List.mem_append_left _ (List.mem_append_left _ (List.mem_append_left _ (List.mem_append_right _ h))))
theorem iw5 : ∀ w ∈ wsX50, w ∈ WALL := fun _ h => List.mem_append_left _ (List.mem_append_left _ (List.mem_append_left _ (List.mem_append_right _ h)))
theorem iw6 : ∀ w ∈ wsX60, w ∈ WALL := fun _ h => List.mem_append_left _ (List.mem_append_left _ (List.mem_append_right _ h))
theorem iw4 : ∀ w ∈ wsX40, w ∈ WALL := fun _ h => List.mem_append_left _ (List.mem_append_right _ h)
set_option maxRecDepth 100000 in
theorem w0 : Cond.classLink RL 9 RX7 ∈ WALL := List.mem_of_getElem? (i := 0) (by decide +kernel)
set_option maxRecDepth 100000 in
theorem w1 : Cond.instantiable RX7 10 ∈ WALL := List.mem_of_getElem? (i := 1) (by decide +kernel)
set_option maxRecDepth 100000 in
theorem w2 : Cond.initialized RX7 ∈ WALL := List.mem_of_getElem? (i := 2) (by decide +kernel)
set_option maxRecDepth 100000 in
theorem w3 : Cond.methodLink RL 95 Lib.MathLoose.abs_long.x ∈ WALL := List.mem_of_getElem? (i := 3) (by decide +kernel)
set_option maxRecDepth 100000 in
theorem w4 : Cond.static Lib.MathLoose.abs_long.x ∈ WALL := List.mem_of_getElem? (i := 4) (by decide +kernel)
set_option maxRecDepth 100000 in
theorem w5 : Cond.initialized "java/lang/Math" ∈ WALL := List.mem_of_getElem? (i := 5) (by decide +kernel)
set_option maxRecDepth 100000 in
theorem w6 : Cond.code Lib.MathLoose.abs_long.x Lib.MathLoose.abs_long.code 2 (some .long) ∈ WALL := List.mem_of_getElem? (i := 6) (by decide +kernel)
set_option maxRecDepth 100000 in
theorem w7 : Cond.methodLink RL 11 yX7_init ∈ WALL := List.mem_of_getElem? (i := 7) (by decide +kernel)
set_option maxRecDepth 100000 in
theorem w8 : Cond.instanceMethod yX7_init ∈ WALL := List.mem_of_getElem? (i := 8) (by decide +kernel)
set_option maxRecDepth 100000 in
theorem w9 : Cond.code yX7_init cX7_init 1 none ∈ WALL := List.mem_of_getElem? (i := 9) (by decide +kernel)
set_option maxRecDepth 100000 in
theorem w10 : Cond.methodLink RX7 3 objectInit ∈ WALL := List.mem_of_getElem? (i := 10) (by decide +kernel)
set_option maxRecDepth 100000 in
theorem w11 : Cond.instanceMethod objectInit ∈ WALL := List.mem_of_getElem? (i := 11) (by decide +kernel)
set_option maxRecDepth 100000 in
theorem w12 : Cond.code objectInit ⟨#[0xb1]⟩ 1 none ∈ WALL := List.mem_of_getElem? (i := 12) (by decide +kernel)
set_option maxRecDepth 100000 in
theorem w13 : Cond.classLink RX7 9 RX0 ∈ WALL := List.mem_of_getElem? (i := 13) (by decide +kernel)
set_option maxRecDepth 100000 in
theorem w14 : Cond.instantiable RX0 6 ∈ WALL := List.mem_of_getElem? (i := 14) (by decide +kernel)
set_option maxRecDepth 100000 in
theorem w15 : Cond.initialized RX0 ∈ WALL := List.mem_of_getElem? (i := 15) (by decide +kernel)
set_option maxRecDepth 100000 in
theorem w16 : Cond.fieldLink RX7 12 "Tollgate" "accounts" "LTollgate$Accounts;" ∈ WALL := List.mem_of_getElem? (i := 16) (by decide +kernel)
set_option maxRecDepth 100000 in
theorem w17 : Cond.classLink RX7 16 RX1 ∈ WALL := List.mem_of_getElem? (i := 17) (by decide +kernel)
set_option maxRecDepth 100000 in
theorem w18 : Cond.instantiable RX1 4 ∈ WALL := List.mem_of_getElem? (i := 18) (by decide +kernel)
set_option maxRecDepth 100000 in
theorem w19 : Cond.initialized RX1 ∈ WALL := List.mem_of_getElem? (i := 19) (by decide +kernel)
set_option maxRecDepth 100000 in
theorem w20 : Cond.fieldLink RX7 19 "Tollgate" "draft" "LTollgate$Draft;" ∈ WALL := List.mem_of_getElem? (i := 20) (by decide +kernel)
set_option maxRecDepth 100000 in
theorem w21 : Cond.classLink RX7 23 RX3 ∈ WALL := List.mem_of_getElem? (i := 21) (by decide +kernel)
set_option maxRecDepth 100000 in
theorem w22 : Cond.instantiable RX3 12 ∈ WALL := List.mem_of_getElem? (i := 22) (by decide +kernel)
set_option maxRecDepth 100000 in
theorem w23 : Cond.initialized RX3 ∈ WALL := List.mem_of_getElem? (i := 23) (by decide +kernel)
set_option maxRecDepth 100000 in
theorem w24 : Cond.fieldLink RX7 26 "Tollgate" "journal" "LTollgate$Journal;" ∈ WALL := List.mem_of_getElem? (i := 24) (by decide +kernel)
set_option maxRecDepth 100000 in
theorem w25 : Cond.classLink RX7 30 RX2 ∈ WALL := List.mem_of_getElem? (i := 25) (by decide +kernel)
set_option maxRecDepth 100000 in
theorem w26 : Cond.instantiable RX2 5 ∈ WALL := List.mem_of_getElem? (i := 26) (by decide +kernel)
set_option maxRecDepth 100000 in
theorem w27 : Cond.initialized RX2 ∈ WALL := List.mem_of_getElem? (i := 27) (by decide +kernel)
set_option maxRecDepth 100000 in
theorem w28 : Cond.fieldLink RX7 33 "Tollgate" "holds" "LTollgate$Holds;" ∈ WALL := List.mem_of_getElem? (i := 28) (by decide +kernel)
set_option maxRecDepth 100000 in
theorem w29 : Cond.classLink RX7 37 RX5 ∈ WALL := List.mem_of_getElem? (i := 29) (by decide +kernel)
set_option maxRecDepth 100000 in
theorem w30 : Cond.instantiable RX5 5 ∈ WALL := List.mem_of_getElem? (i := 30) (by decide +kernel)
set_option maxRecDepth 100000 in
theorem w31 : Cond.initialized RX5 ∈ WALL := List.mem_of_getElem? (i := 31) (by decide +kernel)
set_option maxRecDepth 100000 in
theorem w32 : Cond.fieldLink RX7 40 "Tollgate" "lines" "LTollgate$Lines;" ∈ WALL := List.mem_of_getElem? (i := 32) (by decide +kernel)
set_option maxRecDepth 100000 in
theorem w33 : Cond.classLink RX7 44 RX6 ∈ WALL := List.mem_of_getElem? (i := 33) (by decide +kernel)
set_option maxRecDepth 100000 in
theorem w34 : Cond.instantiable RX6 5 ∈ WALL := List.mem_of_getElem? (i := 34) (by decide +kernel)
set_option maxRecDepth 100000 in
theorem w35 : Cond.initialized RX6 ∈ WALL := List.mem_of_getElem? (i := 35) (by decide +kernel)
set_option maxRecDepth 100000 in
theorem w36 : Cond.fieldLink RX7 49 "Tollgate" "kept" "LTollgate$Matching;" ∈ WALL := List.mem_of_getElem? (i := 36) (by decide +kernel)
set_option maxRecDepth 100000 in
theorem w37 : Cond.fieldLink RX7 53 "Tollgate" "trial" "LTollgate$Matching;" ∈ WALL := List.mem_of_getElem? (i := 37) (by decide +kernel)
set_option maxRecDepth 100000 in
theorem w38 : Cond.classLink RX7 56 RX4 ∈ WALL := List.mem_of_getElem? (i := 38) (by decide +kernel)
set_option maxRecDepth 100000 in
theorem w39 : Cond.instantiable RX4 4 ∈ WALL := List.mem_of_getElem? (i := 39) (by decide +kernel)
set_option maxRecDepth 100000 in
theorem w40 : Cond.initialized RX4 ∈ WALL := List.mem_of_getElem? (i := 40) (by decide +kernel)
set_option maxRecDepth 100000 in
theorem w41 : Cond.fieldLink RX7 59 "Tollgate" "plan" "LTollgate$LegRow;" ∈ WALL := List.mem_of_getElem? (i := 41) (by decide +kernel)
set_option maxRecDepth 100000 in
theorem w42 : Cond.fieldLink RX7 63 "Tollgate" "exchangeAccount" "I" ∈ WALL := List.mem_of_getElem? (i := 42) (by decide +kernel)
set_option maxRecDepth 100000 in
theorem w43 : Cond.fieldLink RX7 67 "Tollgate" "today" "I" ∈ WALL := List.mem_of_getElem? (i := 43) (by decide +kernel)
set_option maxRecDepth 100000 in
theorem w44 : Cond.instanceMethod yX0_init ∈ WALL := List.mem_of_getElem? (i := 44) (by decide +kernel)
set_option maxRecDepth 100000 in
theorem w45 : Cond.code yX0_init cX0_init 1 none ∈ WALL := List.mem_of_getElem? (i := 45) (by decide +kernel)
set_option maxRecDepth 100000 in
theorem w46 : Cond.methodLink RX0 3 objectInit ∈ WALL := List.mem_of_getElem? (i := 46) (by decide +kernel)
set_option maxRecDepth 100000 in
theorem w47 : Cond.arrayClass .int ∈ WALL := List.mem_of_getElem? (i := 47) (by decide +kernel)
set_option maxRecDepth 100000 in
theorem w48 : Cond.fieldLink RX0 9 "Tollgate$Accounts" "rates" "[I" ∈ WALL := List.mem_of_getElem? (i := 48) (by decide +kernel)
set_option maxRecDepth 100000 in
theorem w49 : Cond.fieldLink RX0 15 "Tollgate$Accounts" "kind" "[I" ∈ WALL := List.mem_of_getElem? (i := 49) (by decide +kernel)
set_option maxRecDepth 100000 in
theorem w50 : Cond.fieldLink RX0 18 "Tollgate$Accounts" "currency" "[I" ∈ WALL := List.mem_of_getElem? (i := 50) (by decide +kernel)
set_option maxRecDepth 100000 in
theorem w51 : Cond.fieldLink RX0 21 "Tollgate$Accounts" "floors" "[I" ∈ WALL := List.mem_of_getElem? (i := 51) (by decide +kernel)
set_option maxRecDepth 100000 in
theorem w52 : Cond.arrayClass .boolean ∈ WALL := List.mem_of_getElem? (i := 52) (by decide +kernel)
set_option maxRecDepth 100000 in
theorem w53 : Cond.fieldLink RX0 24 "Tollgate$Accounts" "hasFloor" "[Z" ∈ WALL := List.mem_of_getElem? (i := 53) (by decide +kernel)
set_option maxRecDepth 100000 in
theorem w54 : Cond.fieldLink RX0 28 "Tollgate$Accounts" "count" "I" ∈ WALL := List.mem_of_getElem? (i := 54) (by decide +kernel)
set_option maxRecDepth 100000 in
theorem w55 : Cond.instanceMethod yX1_init ∈ WALL := List.mem_of_getElem? (i := 55) (by decide +kernel)
set_option maxRecDepth 100000 in
theorem w56 : Cond.code yX1_init cX1_init 1 none ∈ WALL := List.mem_of_getElem? (i := 56) (by decide +kernel)
set_option maxRecDepth 100000 in
theorem w57 : Cond.methodLink RX1 1 objectInit ∈ WALL := List.mem_of_getElem? (i := 57) (by decide +kernel)
set_option maxRecDepth 100000 in
theorem w58 : Cond.classLink RX1 7 RX4 ∈ WALL := List.mem_of_getElem? (i := 58) (by decide +kernel)
set_option maxRecDepth 100000 in
theorem w59 : Cond.fieldLink RX1 10 "Tollgate$Draft" "legs" "LTollgate$LegRow;" ∈ WALL := List.mem_of_getElem? (i := 59) (by decide +kernel)
set_option maxRecDepth 100000 in
theorem w60 : Cond.fieldLink RX1 16 "Tollgate$Draft" "isThere" "Z" ∈ WALL := List.mem_of_getElem? (i := 60) (by decide +kernel)
set_option maxRecDepth 100000 in
theorem w61 : Cond.fieldLink RX1 20 "Tollgate$Draft" "day" "I" ∈ WALL := List.mem_of_getElem? (i := 61) (by decide +kernel)
set_option maxRecDepth 100000 in
theorem w62 : Cond.fieldLink RX1 24 "Tollgate$Draft" "note" "I" ∈ WALL := List.mem_of_getElem? (i := 62) (by decide +kernel)
set_option maxRecDepth 100000 in
theorem w63 : Cond.instanceMethod yX4_init ∈ WALL := List.mem_of_getElem? (i := 63) (by decide +kernel)
set_option maxRecDepth 100000 in
theorem w64 : Cond.code yX4_init cX4_init 1 none ∈ WALL := List.mem_of_getElem? (i := 64) (by decide +kernel)
set_option maxRecDepth 100000 in
theorem w65 : Cond.methodLink RX4 3 objectInit ∈ WALL := List.mem_of_getElem? (i := 65) (by decide +kernel)
set_option maxRecDepth 100000 in
theorem w66 : Cond.fieldLink RX4 9 "Tollgate$LegRow" "account" "[I" ∈ WALL := List.mem_of_getElem? (i := 66) (by decide +kernel)
set_option maxRecDepth 100000 in
theorem w67 : Cond.arrayClass .long ∈ WALL := List.mem_of_getElem? (i := 67) (by decide +kernel)
set_option maxRecDepth 100000 in
theorem w68 : Cond.fieldLink RX4 15 "Tollgate$LegRow" "amount" "[J" ∈ WALL := List.mem_of_getElem? (i := 68) (by decide +kernel)
set_option maxRecDepth 100000 in
theorem w69 : Cond.fieldLink RX4 19 "Tollgate$LegRow" "worth" "[J" ∈ WALL := List.mem_of_getElem? (i := 69) (by decide +kernel)
set_option maxRecDepth 100000 in
theorem w70 : Cond.fieldLink RX4 22 "Tollgate$LegRow" "count" "I" ∈ WALL := List.mem_of_getElem? (i := 70) (by decide +kernel)
set_option maxRecDepth 100000 in
theorem w71 : Cond.instanceMethod yX3_init ∈ WALL := List.mem_of_getElem? (i := 71) (by decide +kernel)
set_option maxRecDepth 100000 in
theorem w72 : Cond.code yX3_init cX3_init 1 none ∈ WALL := List.mem_of_getElem? (i := 72) (by decide +kernel)
set_option maxRecDepth 100000 in
theorem w73 : Cond.methodLink RX3 3 objectInit ∈ WALL := List.mem_of_getElem? (i := 73) (by decide +kernel)
set_option maxRecDepth 100000 in
theorem w74 : Cond.fieldLink RX3 9 "Tollgate$Journal" "day" "[I" ∈ WALL := List.mem_of_getElem? (i := 74) (by decide +kernel)
set_option maxRecDepth 100000 in
theorem w75 : Cond.fieldLink RX3 15 "Tollgate$Journal" "note" "[I" ∈ WALL := List.mem_of_getElem? (i := 75) (by decide +kernel)
set_option maxRecDepth 100000 in
theorem w76 : Cond.fieldLink RX3 18 "Tollgate$Journal" "firstLeg" "[I" ∈ WALL := List.mem_of_getElem? (i := 76) (by decide +kernel)
set_option maxRecDepth 100000 in
theorem w77 : Cond.fieldLink RX3 21 "Tollgate$Journal" "legsOf" "[I" ∈ WALL := List.mem_of_getElem? (i := 77) (by decide +kernel)
set_option maxRecDepth 100000 in
theorem w78 : Cond.fieldLink RX3 24 "Tollgate$Journal" "gone" "[Z" ∈ WALL := List.mem_of_getElem? (i := 78) (by decide +kernel)
set_option maxRecDepth 100000 in
theorem w79 : Cond.fieldLink RX3 28 "Tollgate$Journal" "isClosing" "[Z" ∈ WALL := List.mem_of_getElem? (i := 79) (by decide +kernel)
set_option maxRecDepth 100000 in
theorem w80 : Cond.fieldLink RX3 31 "Tollgate$Journal" "count" "I" ∈ WALL := List.mem_of_getElem? (i := 80) (by decide +kernel)
set_option maxRecDepth 100000 in
theorem w81 : Cond.fieldLink RX3 35 "Tollgate$Journal" "entryOf" "[I" ∈ WALL := List.mem_of_getElem? (i := 81) (by decide +kernel)
set_option maxRecDepth 100000 in
theorem w82 : Cond.fieldLink RX3 38 "Tollgate$Journal" "account" "[I" ∈ WALL := List.mem_of_getElem? (i := 82) (by decide +kernel)
set_option maxRecDepth 100000 in
theorem w83 : Cond.fieldLink RX3 41 "Tollgate$Journal" "amount" "[J" ∈ WALL := List.mem_of_getElem? (i := 83) (by decide +kernel)
set_option maxRecDepth 100000 in
theorem w84 : Cond.fieldLink RX3 45 "Tollgate$Journal" "worth" "[J" ∈ WALL := List.mem_of_getElem? (i := 84) (by decide +kernel)
set_option maxRecDepth 100000 in
theorem w85 : Cond.fieldLink RX3 48 "Tollgate$Journal" "legCount" "I" ∈ WALL := List.mem_of_getElem? (i := 85) (by decide +kernel)
set_option maxRecDepth 100000 in
theorem w86 : Cond.instanceMethod yX2_init ∈ WALL := List.mem_of_getElem? (i := 86) (by decide +kernel)
set_option maxRecDepth 100000 in
theorem w87 : Cond.code yX2_init cX2_init 1 none ∈ WALL := List.mem_of_getElem? (i := 87) (by decide +kernel)
set_option maxRecDepth 100000 in
theorem w88 : Cond.methodLink RX2 3 objectInit ∈ WALL := List.mem_of_getElem? (i := 88) (by decide +kernel)
set_option maxRecDepth 100000 in
theorem w89 : Cond.fieldLink RX2 9 "Tollgate$Holds" "account" "[I" ∈ WALL := List.mem_of_getElem? (i := 89) (by decide +kernel)
set_option maxRecDepth 100000 in
theorem w90 : Cond.fieldLink RX2 15 "Tollgate$Holds" "amount" "[I" ∈ WALL := List.mem_of_getElem? (i := 90) (by decide +kernel)
set_option maxRecDepth 100000 in
theorem w91 : Cond.fieldLink RX2 18 "Tollgate$Holds" "lastDay" "[I" ∈ WALL := List.mem_of_getElem? (i := 91) (by decide +kernel)
set_option maxRecDepth 100000 in
theorem w92 : Cond.fieldLink RX2 21 "Tollgate$Holds" "isEnded" "[Z" ∈ WALL := List.mem_of_getElem? (i := 92) (by decide +kernel)
set_option maxRecDepth 100000 in
theorem w93 : Cond.fieldLink RX2 25 "Tollgate$Holds" "count" "I" ∈ WALL := List.mem_of_getElem? (i := 93) (by decide +kernel)
set_option maxRecDepth 100000 in
theorem w94 : Cond.instanceMethod yX5_init ∈ WALL := List.mem_of_getElem? (i := 94) (by decide +kernel)
set_option maxRecDepth 100000 in
theorem w95 : Cond.code yX5_init cX5_init 1 none ∈ WALL := List.mem_of_getElem? (i := 95) (by decide +kernel)
set_option maxRecDepth 100000 in
theorem w96 : Cond.methodLink RX5 3 objectInit ∈ WALL := List.mem_of_getElem? (i := 96) (by decide +kernel)
set_option maxRecDepth 100000 in
theorem w97 : Cond.fieldLink RX5 9 "Tollgate$Lines" "account" "[I" ∈ WALL := List.mem_of_getElem? (i := 97) (by decide +kernel)
set_option maxRecDepth 100000 in
theorem w98 : Cond.fieldLink RX5 15 "Tollgate$Lines" "day" "[I" ∈ WALL := List.mem_of_getElem? (i := 98) (by decide +kernel)
set_option maxRecDepth 100000 in
theorem w99 : Cond.fieldLink RX5 18 "Tollgate$Lines" "amount" "[I" ∈ WALL := List.mem_of_getElem? (i := 99) (by decide +kernel)
set_option maxRecDepth 100000 in
theorem w100 : Cond.fieldLink RX5 21 "Tollgate$Lines" "byDay" "[I" ∈ WALL := List.mem_of_getElem? (i := 100) (by decide +kernel)
set_option maxRecDepth 100000 in
theorem w101 : Cond.fieldLink RX5 24 "Tollgate$Lines" "count" "I" ∈ WALL := List.mem_of_getElem? (i := 101) (by decide +kernel)
set_option maxRecDepth 100000 in
theorem w102 : Cond.methodLink RX7 46 yX6_init ∈ WALL := List.mem_of_getElem? (i := 102) (by decide +kernel)
set_option maxRecDepth 100000 in
theorem w103 : Cond.instanceMethod yX6_init ∈ WALL := List.mem_of_getElem? (i := 103) (by decide +kernel)
set_option maxRecDepth 100000 in
theorem w104 : Cond.code yX6_init cX6_init 4 none ∈ WALL := List.mem_of_getElem? (i := 104) (by decide +kernel)
set_option maxRecDepth 100000 in
theorem w105 : Cond.methodLink RX6 3 objectInit ∈ WALL := List.mem_of_getElem? (i := 105) (by decide +kernel)
set_option maxRecDepth 100000 in
theorem w106 : Cond.fieldLink RX6 9 "Tollgate$Matching" "lineOfLeg" "[I" ∈ WALL := List.mem_of_getElem? (i := 106) (by decide +kernel)
set_option maxRecDepth 100000 in
theorem w107 : Cond.fieldLink RX6 15 "Tollgate$Matching" "firstOfLine" "[I" ∈ WALL := List.mem_of_getElem? (i := 107) (by decide +kernel)
set_option maxRecDepth 100000 in
theorem w108 : Cond.fieldLink RX6 18 "Tollgate$Matching" "secondOfLine" "[I" ∈ WALL := List.mem_of_getElem? (i := 108) (by decide +kernel)
set_option maxRecDepth 100000 in
theorem w109 : Cond.fieldLink RX6 21 "Tollgate$Matching" "journal" "LTollgate$Journal;" ∈ WALL := List.mem_of_getElem? (i := 109) (by decide +kernel)
set_option maxRecDepth 100000 in
theorem w110 : Cond.fieldLink RX6 25 "Tollgate$Matching" "lines" "LTollgate$Lines;" ∈ WALL := List.mem_of_getElem? (i := 110) (by decide +kernel)
set_option maxRecDepth 100000 in
theorem w111 : Cond.methodLink RL 12 yL_cell ∈ WALL := List.mem_of_getElem? (i := 111) (by decide +kernel)
set_option maxRecDepth 100000 in
theorem w112 : Cond.static yL_cell ∈ WALL := List.mem_of_getElem? (i := 112) (by decide +kernel)
set_option maxRecDepth 100000 in
theorem w113 : Cond.initialized RL ∈ WALL := List.mem_of_getElem? (i := 113) (by decide +kernel)
set_option maxRecDepth 100000 in
theorem w114 : Cond.code yL_cell cL_cell 2 (some .int) ∈ WALL := List.mem_of_getElem? (i := 114) (by decide +kernel)
set_option maxRecDepth 100000 in
theorem w115 : Cond.constant RL 8 (790386105) ∈ WALL := List.mem_of_getElem? (i := 115) (by decide +kernel)
set_option maxRecDepth 100000 in
theorem w116 : Cond.methodLink RL 18 yL_below ∈ WALL := List.mem_of_getElem? (i := 116) (by decide +kernel)
set_option maxRecDepth 100000 in
theorem w117 : Cond.static yL_below ∈ WALL := List.mem_of_getElem? (i := 117) (by decide +kernel)
set_option maxRecDepth 100000 in
theorem w118 : Cond.code yL_below cL_below 2 (some .int) ∈ WALL := List.mem_of_getElem? (i := 118) (by decide +kernel)
set_option maxRecDepth 100000 in
theorem w119 : Cond.constant RL 7 (2147483647) ∈ WALL := List.mem_of_getElem? (i := 119) (by decide +kernel)
set_option maxRecDepth 100000 in
theorem w120 : Cond.methodLink RL 22 yX7_rate ∈ WALL := List.mem_of_getElem? (i := 120) (by decide +kernel)
set_option maxRecDepth 100000 in
theorem w121 : Cond.instanceMethod yX7_rate ∈ WALL := List.mem_of_getElem? (i := 121) (by decide +kernel)
set_option maxRecDepth 100000 in
theorem w122 : Cond.selects RX7 yX7_rate yX7_rate ∈ WALL := List.mem_of_getElem? (i := 122) (by decide +kernel)
set_option maxRecDepth 100000 in
theorem w123 : Cond.code yX7_rate cX7_rate 4 (some .int) ∈ WALL := List.mem_of_getElem? (i := 123) (by decide +kernel)
set_option maxRecDepth 100000 in
theorem w124 : Cond.classLink RX7 71 "java/lang/IllegalArgumentException" ∈ WALL := List.mem_of_getElem? (i := 124) (by decide +kernel)
set_option maxRecDepth 100000 in
theorem w125 : Cond.initialized "java/lang/IllegalArgumentException" ∈ WALL := List.mem_of_getElem? (i := 125) (by decide +kernel)
set_option maxRecDepth 100000 in
theorem w126 : Cond.classLink RX7 82 "java/lang/IllegalStateException" ∈ WALL := List.mem_of_getElem? (i := 126) (by decide +kernel)
set_option maxRecDepth 100000 in
theorem w127 : Cond.initialized "java/lang/IllegalStateException" ∈ WALL := List.mem_of_getElem? (i := 127) (by decide +kernel)
set_option maxRecDepth 100000 in
theorem w128 : Cond.constant RX7 70 (100000) ∈ WALL := List.mem_of_getElem? (i := 128) (by decide +kernel)
set_option maxRecDepth 100000 in
theorem w129 : Cond.fieldLink RX7 87 "Tollgate$Accounts" "rates" "[I" ∈ WALL := List.mem_of_getElem? (i := 129) (by decide +kernel)
set_option maxRecDepth 100000 in
theorem w130 : Cond.methodLink RX7 78 yX0_anyIn ∈ WALL := List.mem_of_getElem? (i := 130) (by decide +kernel)
set_option maxRecDepth 100000 in
theorem w131 : Cond.instanceMethod yX0_anyIn ∈ WALL := List.mem_of_getElem? (i := 131) (by decide +kernel)
set_option maxRecDepth 100000 in
theorem w132 : Cond.selects RX0 yX0_anyIn yX0_anyIn ∈ WALL := List.mem_of_getElem? (i := 132) (by decide +kernel)
set_option maxRecDepth 100000 in
theorem w133 : Cond.code yX0_anyIn cX0_anyIn 3 (some .boolean) ∈ WALL := List.mem_of_getElem? (i := 133) (by decide +kernel)
set_option maxRecDepth 100000 in
theorem w134 : Cond.methodLink RL 25 yX7_account ∈ WALL := List.mem_of_getElem? (i := 134) (by decide +kernel)
set_option maxRecDepth 100000 in
theorem w135 : Cond.instanceMethod yX7_account ∈ WALL := List.mem_of_getElem? (i := 135) (by decide +kernel)
set_option maxRecDepth 100000 in
theorem w136 : Cond.selects RX7 yX7_account yX7_account ∈ WALL := List.mem_of_getElem? (i := 136) (by decide +kernel)
set_option maxRecDepth 100000 in
theorem w137 : Cond.code yX7_account cX7_account 3 (some .int) ∈ WALL := List.mem_of_getElem? (i := 137) (by decide +kernel)
set_option maxRecDepth 100000 in
theorem w138 : Cond.fieldLink RX7 93 "Tollgate$Accounts" "count" "I" ∈ WALL := List.mem_of_getElem? (i := 138) (by decide +kernel)
set_option maxRecDepth 100000 in
theorem w139 : Cond.methodLink RX7 98 yX0_add ∈ WALL := List.mem_of_getElem? (i := 139) (by decide +kernel)
set_option maxRecDepth 100000 in
theorem w140 : Cond.instanceMethod yX0_add ∈ WALL := List.mem_of_getElem? (i := 140) (by decide +kernel)
set_option maxRecDepth 100000 in
theorem w141 : Cond.selects RX0 yX0_add yX0_add ∈ WALL := List.mem_of_getElem? (i := 141) (by decide +kernel)
set_option maxRecDepth 100000 in
theorem w142 : Cond.code yX0_add cX0_add 3 (some .int) ∈ WALL := List.mem_of_getElem? (i := 142) (by decide +kernel)
set_option maxRecDepth 100000 in
theorem w143 : Cond.methodLink RL 28 yX7_exchange ∈ WALL := List.mem_of_getElem? (i := 143) (by decide +kernel)
set_option maxRecDepth 100000 in
theorem w144 : Cond.instanceMethod yX7_exchange ∈ WALL := List.mem_of_getElem? (i := 144) (by decide +kernel)
set_option maxRecDepth 100000 in
theorem w145 : Cond.selects RX7 yX7_exchange yX7_exchange ∈ WALL := List.mem_of_getElem? (i := 145) (by decide +kernel)
set_option maxRecDepth 100000 in
theorem w146 : Cond.code yX7_exchange cX7_exchange 3 (some .int) ∈ WALL := List.mem_of_getElem? (i := 146) (by decide +kernel)
set_option maxRecDepth 100000 in
theorem w147 : Cond.fieldLink RX7 126 "Tollgate$Accounts" "currency" "[I" ∈ WALL := List.mem_of_getElem? (i := 147) (by decide +kernel)
set_option maxRecDepth 100000 in
theorem w148 : Cond.methodLink RX7 102 yX7_needAccount ∈ WALL := List.mem_of_getElem? (i := 148) (by decide +kernel)
set_option maxRecDepth 100000 in
theorem w149 : Cond.instanceMethod yX7_needAccount ∈ WALL := List.mem_of_getElem? (i := 149) (by decide +kernel)
set_option maxRecDepth 100000 in
theorem w150 : Cond.selects RX7 yX7_needAccount yX7_needAccount ∈ WALL := List.mem_of_getElem? (i := 150) (by decide +kernel)
set_option maxRecDepth 100000 in
theorem w151 : Cond.code yX7_needAccount cX7_needAccount 2 none ∈ WALL := List.mem_of_getElem? (i := 151) (by decide +kernel)
set_option maxRecDepth 100000 in
theorem w152 : Cond.classLink RX7 194 "java/lang/IndexOutOfBoundsException" ∈ WALL := List.mem_of_getElem? (i := 152) (by decide +kernel)
set_option maxRecDepth 100000 in
theorem w153 : Cond.initialized "java/lang/IndexOutOfBoundsException" ∈ WALL := List.mem_of_getElem? (i := 153) (by decide +kernel)
set_option maxRecDepth 100000 in
theorem w154 : Cond.methodLink RL 32 yX7_pass ∈ WALL := List.mem_of_getElem? (i := 154) (by decide +kernel)
set_option maxRecDepth 100000 in
theorem w155 : Cond.instanceMethod yX7_pass ∈ WALL := List.mem_of_getElem? (i := 155) (by decide +kernel)
set_option maxRecDepth 100000 in
theorem w156 : Cond.selects RX7 yX7_pass yX7_pass ∈ WALL := List.mem_of_getElem? (i := 156) (by decide +kernel)
set_option maxRecDepth 100000 in
theorem w157 : Cond.code yX7_pass cX7_pass 2 (some .int) ∈ WALL := List.mem_of_getElem? (i := 157) (by decide +kernel)
set_option maxRecDepth 100000 in
theorem w158 : Cond.methodLink RL 35 yX7_many ∈ WALL := List.mem_of_getElem? (i := 158) (by decide +kernel)
set_option maxRecDepth 100000 in
theorem w159 : Cond.instanceMethod yX7_many ∈ WALL := List.mem_of_getElem? (i := 159) (by decide +kernel)
set_option maxRecDepth 100000 in
theorem w160 : Cond.selects RX7 yX7_many yX7_many ∈ WALL := List.mem_of_getElem? (i := 160) (by decide +kernel)
set_option maxRecDepth 100000 in
theorem w161 : Cond.code yX7_many cX7_many 2 (some .int) ∈ WALL := List.mem_of_getElem? (i := 161) (by decide +kernel)
set_option maxRecDepth 100000 in
theorem w162 : Cond.fieldLink RX7 301 "Tollgate$Lines" "count" "I" ∈ WALL := List.mem_of_getElem? (i := 162) (by decide +kernel)
set_option maxRecDepth 100000 in
theorem w163 : Cond.methodLink RX7 337 yX3_countStanding ∈ WALL := List.mem_of_getElem? (i := 163) (by decide +kernel)
set_option maxRecDepth 100000 in
theorem w164 : Cond.instanceMethod yX3_countStanding ∈ WALL := List.mem_of_getElem? (i := 164) (by decide +kernel)
set_option maxRecDepth 100000 in
theorem w165 : Cond.selects RX3 yX3_countStanding yX3_countStanding ∈ WALL := List.mem_of_getElem? (i := 165) (by decide +kernel)
set_option maxRecDepth 100000 in
theorem w166 : Cond.code yX3_countStanding cX3_countStanding 3 (some .int) ∈ WALL := List.mem_of_getElem? (i := 166) (by decide +kernel)
set_option maxRecDepth 100000 in
theorem w167 : Cond.methodLink RX7 340 yX2_countOpen ∈ WALL := List.mem_of_getElem? (i := 167) (by decide +kernel)
set_option maxRecDepth 100000 in
theorem w168 : Cond.instanceMethod yX2_countOpen ∈ WALL := List.mem_of_getElem? (i := 168) (by decide +kernel)
set_option maxRecDepth 100000 in
theorem w169 : Cond.selects RX2 yX2_countOpen yX2_countOpen ∈ WALL := List.mem_of_getElem? (i := 169) (by decide +kernel)
set_option maxRecDepth 100000 in
theorem w170 : Cond.code yX2_countOpen cX2_countOpen 4 (some .int) ∈ WALL := List.mem_of_getElem? (i := 170) (by decide +kernel)
set_option maxRecDepth 100000 in
theorem w171 : Cond.methodLink RX2 29 yX2_isOpen ∈ WALL := List.mem_of_getElem? (i := 171) (by decide +kernel)
set_option maxRecDepth 100000 in
theorem w172 : Cond.instanceMethod yX2_isOpen ∈ WALL := List.mem_of_getElem? (i := 172) (by decide +kernel)
set_option maxRecDepth 100000 in
theorem w173 : Cond.selects RX2 yX2_isOpen yX2_isOpen ∈ WALL := List.mem_of_getElem? (i := 173) (by decide +kernel)
set_option maxRecDepth 100000 in
theorem w174 : Cond.code yX2_isOpen cX2_isOpen 3 (some .boolean) ∈ WALL := List.mem_of_getElem? (i := 174) (by decide +kernel)
set_option maxRecDepth 100000 in
theorem w175 : Cond.methodLink RX7 277 yX3_lastLocked ∈ WALL := List.mem_of_getElem? (i := 175) (by decide +kernel)
set_option maxRecDepth 100000 in
theorem w176 : Cond.instanceMethod yX3_lastLocked ∈ WALL := List.mem_of_getElem? (i := 176) (by decide +kernel)
set_option maxRecDepth 100000 in
theorem w177 : Cond.selects RX3 yX3_lastLocked yX3_lastLocked ∈ WALL := List.mem_of_getElem? (i := 177) (by decide +kernel)
set_option maxRecDepth 100000 in
theorem w178 : Cond.code yX3_lastLocked cX3_lastLocked 2 (some .int) ∈ WALL := List.mem_of_getElem? (i := 178) (by decide +kernel)
set_option maxRecDepth 100000 in
theorem w179 : Cond.methodLink RX3 65 yX3_lastClosing ∈ WALL := List.mem_of_getElem? (i := 179) (by decide +kernel)
set_option maxRecDepth 100000 in
theorem w180 : Cond.instanceMethod yX3_lastClosing ∈ WALL := List.mem_of_getElem? (i := 180) (by decide +kernel)
set_option maxRecDepth 100000 in
theorem w181 : Cond.selects RX3 yX3_lastClosing yX3_lastClosing ∈ WALL := List.mem_of_getElem? (i := 181) (by decide +kernel)
set_option maxRecDepth 100000 in
theorem w182 : Cond.code yX3_lastClosing cX3_lastClosing 2 (some .int) ∈ WALL := List.mem_of_getElem? (i := 182) (by decide +kernel)
set_option maxRecDepth 100000 in
theorem w183 : Cond.methodLink RL 38 yX7_wouldClose ∈ WALL := List.mem_of_getElem? (i := 183) (by decide +kernel)
set_option maxRecDepth 100000 in
theorem w184 : Cond.instanceMethod yX7_wouldClose ∈ WALL := List.mem_of_getElem? (i := 184) (by decide +kernel)
set_option maxRecDepth 100000 in
theorem w185 : Cond.selects RX7 yX7_wouldClose yX7_wouldClose ∈ WALL := List.mem_of_getElem? (i := 185) (by decide +kernel)
set_option maxRecDepth 100000 in
theorem w186 : Cond.code yX7_wouldClose cX7_wouldClose 2 (some .long) ∈ WALL := List.mem_of_getElem? (i := 186) (by decide +kernel)
set_option maxRecDepth 100000 in
theorem w187 : Cond.methodLink RX7 133 yX7_needDay ∈ WALL := List.mem_of_getElem? (i := 187) (by decide +kernel)
set_option maxRecDepth 100000 in
theorem w188 : Cond.static yX7_needDay ∈ WALL := List.mem_of_getElem? (i := 188) (by decide +kernel)
set_option maxRecDepth 100000 in
theorem w189 : Cond.code yX7_needDay cX7_needDay 1 none ∈ WALL := List.mem_of_getElem? (i := 189) (by decide +kernel)
set_option maxRecDepth 100000 in
theorem w190 : Cond.methodLink RX7 286 yX7_planClosing ∈ WALL := List.mem_of_getElem? (i := 190) (by decide +kernel)
set_option maxRecDepth 100000 in
theorem w191 : Cond.instanceMethod yX7_planClosing ∈ WALL := List.mem_of_getElem? (i := 191) (by decide +kernel)
set_option maxRecDepth 100000 in
theorem w192 : Cond.selects RX7 yX7_planClosing yX7_planClosing ∈ WALL := List.mem_of_getElem? (i := 192) (by decide +kernel)
set_option maxRecDepth 100000 in
theorem w193 : Cond.code yX7_planClosing cX7_planClosing 5 none ∈ WALL := List.mem_of_getElem? (i := 193) (by decide +kernel)
set_option maxRecDepth 100000 in
theorem w194 : Cond.fieldLink RX7 141 "Tollgate$LegRow" "count" "I" ∈ WALL := List.mem_of_getElem? (i := 194) (by decide +kernel)
set_option maxRecDepth 100000 in
theorem w195 : Cond.methodLink RX7 353 yX0_isClosed ∈ WALL := List.mem_of_getElem? (i := 195) (by decide +kernel)
set_option maxRecDepth 100000 in
theorem w196 : Cond.instanceMethod yX0_isClosed ∈ WALL := List.mem_of_getElem? (i := 196) (by decide +kernel)
set_option maxRecDepth 100000 in
theorem w197 : Cond.selects RX0 yX0_isClosed yX0_isClosed ∈ WALL := List.mem_of_getElem? (i := 197) (by decide +kernel)
set_option maxRecDepth 100000 in
theorem w198 : Cond.code yX0_isClosed cX0_isClosed 2 (some .boolean) ∈ WALL := List.mem_of_getElem? (i := 198) (by decide +kernel)
set_option maxRecDepth 100000 in
theorem w199 : Cond.methodLink RX7 345 yX3_amountUpTo ∈ WALL := List.mem_of_getElem? (i := 199) (by decide +kernel)
set_option maxRecDepth 100000 in
theorem w200 : Cond.instanceMethod yX3_amountUpTo ∈ WALL := List.mem_of_getElem? (i := 200) (by decide +kernel)
set_option maxRecDepth 100000 in
theorem w201 : Cond.selects RX3 yX3_amountUpTo yX3_amountUpTo ∈ WALL := List.mem_of_getElem? (i := 201) (by decide +kernel)
set_option maxRecDepth 100000 in
theorem w202 : Cond.code yX3_amountUpTo cX3_amountUpTo 6 (some .long) ∈ WALL := List.mem_of_getElem? (i := 202) (by decide +kernel)
set_option maxRecDepth 100000 in
theorem w203 : Cond.methodLink RX3 69 yX3_counts ∈ WALL := List.mem_of_getElem? (i := 203) (by decide +kernel)
set_option maxRecDepth 100000 in
theorem w204 : Cond.instanceMethod yX3_counts ∈ WALL := List.mem_of_getElem? (i := 204) (by decide +kernel)
set_option maxRecDepth 100000 in
theorem w205 : Cond.selects RX3 yX3_counts yX3_counts ∈ WALL := List.mem_of_getElem? (i := 205) (by decide +kernel)
set_option maxRecDepth 100000 in
theorem w206 : Cond.code yX3_counts cX3_counts 2 (some .boolean) ∈ WALL := List.mem_of_getElem? (i := 206) (by decide +kernel)
set_option maxRecDepth 100000 in
theorem w207 : Cond.methodLink RX3 73 yX3_dayOf ∈ WALL := List.mem_of_getElem? (i := 207) (by decide +kernel)
set_option maxRecDepth 100000 in
theorem w208 : Cond.instanceMethod yX3_dayOf ∈ WALL := List.mem_of_getElem? (i := 208) (by decide +kernel)
set_option maxRecDepth 100000 in
theorem w209 : Cond.selects RX3 yX3_dayOf yX3_dayOf ∈ WALL := List.mem_of_getElem? (i := 209) (by decide +kernel)
set_option maxRecDepth 100000 in
theorem w210 : Cond.code yX3_dayOf cX3_dayOf 2 (some .int) ∈ WALL := List.mem_of_getElem? (i := 210) (by decide +kernel)
set_option maxRecDepth 100000 in
theorem w211 : Cond.methodLink RX7 289 yX7_planLeg ∈ WALL := List.mem_of_getElem? (i := 211) (by decide +kernel)
set_option maxRecDepth 100000 in
theorem w212 : Cond.instanceMethod yX7_planLeg ∈ WALL := List.mem_of_getElem? (i := 212) (by decide +kernel)
set_option maxRecDepth 100000 in
theorem w213 : Cond.selects RX7 yX7_planLeg yX7_planLeg ∈ WALL := List.mem_of_getElem? (i := 213) (by decide +kernel)
set_option maxRecDepth 100000 in
theorem w214 : Cond.code yX7_planLeg cX7_planLeg 4 none ∈ WALL := List.mem_of_getElem? (i := 214) (by decide +kernel)
set_option maxRecDepth 100000 in
theorem w215 : Cond.methodLink RX7 155 yX0_worth ∈ WALL := List.mem_of_getElem? (i := 215) (by decide +kernel)
set_option maxRecDepth 100000 in
theorem w216 : Cond.instanceMethod yX0_worth ∈ WALL := List.mem_of_getElem? (i := 216) (by decide +kernel)
set_option maxRecDepth 100000 in
theorem w217 : Cond.selects RX0 yX0_worth yX0_worth ∈ WALL := List.mem_of_getElem? (i := 217) (by decide +kernel)
set_option maxRecDepth 100000 in
theorem w218 : Cond.code yX0_worth cX0_worth 8 (some .long) ∈ WALL := List.mem_of_getElem? (i := 218) (by decide +kernel)
set_option maxRecDepth 100000 in
theorem w219 : Cond.constantLong RX0 32 (-500) ∈ WALL := List.mem_of_getElem? (i := 219) (by decide +kernel)
set_option maxRecDepth 100000 in
theorem w220 : Cond.constantLong RX0 34 (500) ∈ WALL := List.mem_of_getElem? (i := 220) (by decide +kernel)
set_option maxRecDepth 100000 in
theorem w221 : Cond.constantLong RX0 36 (1000) ∈ WALL := List.mem_of_getElem? (i := 221) (by decide +kernel)
set_option maxRecDepth 100000 in
theorem w222 : Cond.methodLink RX7 159 yX4_add ∈ WALL := List.mem_of_getElem? (i := 222) (by decide +kernel)
set_option maxRecDepth 100000 in
theorem w223 : Cond.instanceMethod yX4_add ∈ WALL := List.mem_of_getElem? (i := 223) (by decide +kernel)
set_option maxRecDepth 100000 in
theorem w224 : Cond.selects RX4 yX4_add yX4_add ∈ WALL := List.mem_of_getElem? (i := 224) (by decide +kernel)
set_option maxRecDepth 100000 in
theorem w225 : Cond.code yX4_add cX4_add 6 none ∈ WALL := List.mem_of_getElem? (i := 225) (by decide +kernel)
set_option maxRecDepth 100000 in
theorem w226 : Cond.methodLink RX7 162 yX4_worthSum ∈ WALL := List.mem_of_getElem? (i := 226) (by decide +kernel)
set_option maxRecDepth 100000 in
theorem w227 : Cond.instanceMethod yX4_worthSum ∈ WALL := List.mem_of_getElem? (i := 227) (by decide +kernel)
set_option maxRecDepth 100000 in
theorem w228 : Cond.selects RX4 yX4_worthSum yX4_worthSum ∈ WALL := List.mem_of_getElem? (i := 228) (by decide +kernel)
set_option maxRecDepth 100000 in
theorem w229 : Cond.code yX4_worthSum cX4_worthSum 4 (some .long) ∈ WALL := List.mem_of_getElem? (i := 229) (by decide +kernel)
set_option maxRecDepth 100000 in
theorem w230 : Cond.methodLink RL 42 yX7_close ∈ WALL := List.mem_of_getElem? (i := 230) (by decide +kernel)
set_option maxRecDepth 100000 in
theorem w231 : Cond.instanceMethod yX7_close ∈ WALL := List.mem_of_getElem? (i := 231) (by decide +kernel)
set_option maxRecDepth 100000 in
theorem w232 : Cond.selects RX7 yX7_close yX7_close ∈ WALL := List.mem_of_getElem? (i := 232) (by decide +kernel)
set_option maxRecDepth 100000 in
theorem w233 : Cond.code yX7_close cX7_close 5 (some .int) ∈ WALL := List.mem_of_getElem? (i := 233) (by decide +kernel)
set_option maxRecDepth 100000 in
theorem w234 : Cond.fieldLink RX7 239 "Tollgate$Accounts" "kind" "[I" ∈ WALL := List.mem_of_getElem? (i := 234) (by decide +kernel)
set_option maxRecDepth 100000 in
theorem w235 : Cond.methodLink RX7 280 yX3_isFull ∈ WALL := List.mem_of_getElem? (i := 235) (by decide +kernel)
set_option maxRecDepth 100000 in
theorem w236 : Cond.instanceMethod yX3_isFull ∈ WALL := List.mem_of_getElem? (i := 236) (by decide +kernel)
set_option maxRecDepth 100000 in
theorem w237 : Cond.selects RX3 yX3_isFull yX3_isFull ∈ WALL := List.mem_of_getElem? (i := 237) (by decide +kernel)
set_option maxRecDepth 100000 in
theorem w238 : Cond.code yX3_isFull cX3_isFull 1 (some .boolean) ∈ WALL := List.mem_of_getElem? (i := 238) (by decide +kernel)
set_option maxRecDepth 100000 in
theorem w239 : Cond.methodLink RX7 181 yX3_enter ∈ WALL := List.mem_of_getElem? (i := 239) (by decide +kernel)
set_option maxRecDepth 100000 in
theorem w240 : Cond.instanceMethod yX3_enter ∈ WALL := List.mem_of_getElem? (i := 240) (by decide +kernel)
set_option maxRecDepth 100000 in
theorem w241 : Cond.selects RX3 yX3_enter yX3_enter ∈ WALL := List.mem_of_getElem? (i := 241) (by decide +kernel)
set_option maxRecDepth 100000 in
theorem w242 : Cond.code yX3_enter cX3_enter 7 (some .int) ∈ WALL := List.mem_of_getElem? (i := 242) (by decide +kernel)
set_option maxRecDepth 100000 in
theorem w243 : Cond.fieldLink RX3 55 "Tollgate$LegRow" "count" "I" ∈ WALL := List.mem_of_getElem? (i := 243) (by decide +kernel)
set_option maxRecDepth 100000 in
theorem w244 : Cond.fieldLink RX3 58 "Tollgate$LegRow" "account" "[I" ∈ WALL := List.mem_of_getElem? (i := 244) (by decide +kernel)
set_option maxRecDepth 100000 in
theorem w245 : Cond.fieldLink RX3 59 "Tollgate$LegRow" "amount" "[J" ∈ WALL := List.mem_of_getElem? (i := 245) (by decide +kernel)
set_option maxRecDepth 100000 in
theorem w246 : Cond.fieldLink RX3 60 "Tollgate$LegRow" "worth" "[J" ∈ WALL := List.mem_of_getElem? (i := 246) (by decide +kernel)
set_option maxRecDepth 100000 in
theorem w247 : Cond.methodLink RX3 51 yX3_isFull ∈ WALL := List.mem_of_getElem? (i := 247) (by decide +kernel)
set_option maxRecDepth 100000 in
theorem w248 : Cond.methodLink RX3 61 yX3_addLeg ∈ WALL := List.mem_of_getElem? (i := 248) (by decide +kernel)
set_option maxRecDepth 100000 in
theorem w249 : Cond.instanceMethod yX3_addLeg ∈ WALL := List.mem_of_getElem? (i := 249) (by decide +kernel)
set_option maxRecDepth 100000 in
theorem w250 : Cond.selects RX3 yX3_addLeg yX3_addLeg ∈ WALL := List.mem_of_getElem? (i := 250) (by decide +kernel)
set_option maxRecDepth 100000 in
theorem w251 : Cond.code yX3_addLeg cX3_addLeg 7 none ∈ WALL := List.mem_of_getElem? (i := 251) (by decide +kernel)
set_option maxRecDepth 100000 in
theorem w252 : Cond.methodLink RL 45 yX7_ofEntry ∈ WALL := List.mem_of_getElem? (i := 252) (by decide +kernel)
set_option maxRecDepth 100000 in
theorem w253 : Cond.instanceMethod yX7_ofEntry ∈ WALL := List.mem_of_getElem? (i := 253) (by decide +kernel)
set_option maxRecDepth 100000 in
theorem w254 : Cond.selects RX7 yX7_ofEntry yX7_ofEntry ∈ WALL := List.mem_of_getElem? (i := 254) (by decide +kernel)
set_option maxRecDepth 100000 in
theorem w255 : Cond.code yX7_ofEntry cX7_ofEntry 3 (some .int) ∈ WALL := List.mem_of_getElem? (i := 255) (by decide +kernel)
set_option maxRecDepth 100000 in
theorem w256 : Cond.fieldLink RX7 215 "Tollgate$Journal" "day" "[I" ∈ WALL := List.mem_of_getElem? (i := 256) (by decide +kernel)
set_option maxRecDepth 100000 in
theorem w257 : Cond.fieldLink RX7 210 "Tollgate$Journal" "note" "[I" ∈ WALL := List.mem_of_getElem? (i := 257) (by decide +kernel)
set_option maxRecDepth 100000 in
theorem w258 : Cond.fieldLink RX7 217 "Tollgate$Journal" "legsOf" "[I" ∈ WALL := List.mem_of_getElem? (i := 258) (by decide +kernel)
set_option maxRecDepth 100000 in
theorem w259 : Cond.fieldLink RX7 191 "Tollgate$Journal" "gone" "[Z" ∈ WALL := List.mem_of_getElem? (i := 259) (by decide +kernel)
set_option maxRecDepth 100000 in
theorem w260 : Cond.methodLink RX7 212 yX7_needEntry ∈ WALL := List.mem_of_getElem? (i := 260) (by decide +kernel)
set_option maxRecDepth 100000 in
theorem w261 : Cond.instanceMethod yX7_needEntry ∈ WALL := List.mem_of_getElem? (i := 261) (by decide +kernel)
set_option maxRecDepth 100000 in
theorem w262 : Cond.selects RX7 yX7_needEntry yX7_needEntry ∈ WALL := List.mem_of_getElem? (i := 262) (by decide +kernel)
set_option maxRecDepth 100000 in
theorem w263 : Cond.code yX7_needEntry cX7_needEntry 2 none ∈ WALL := List.mem_of_getElem? (i := 263) (by decide +kernel)
set_option maxRecDepth 100000 in
theorem w264 : Cond.methodLink RX7 188 yX3_has ∈ WALL := List.mem_of_getElem? (i := 264) (by decide +kernel)
set_option maxRecDepth 100000 in
theorem w265 : Cond.instanceMethod yX3_has ∈ WALL := List.mem_of_getElem? (i := 265) (by decide +kernel)
set_option maxRecDepth 100000 in
theorem w266 : Cond.selects RX3 yX3_has yX3_has ∈ WALL := List.mem_of_getElem? (i := 266) (by decide +kernel)
set_option maxRecDepth 100000 in
theorem w267 : Cond.code yX3_has cX3_has 2 (some .boolean) ∈ WALL := List.mem_of_getElem? (i := 267) (by decide +kernel)
set_option maxRecDepth 100000 in
theorem w268 : Cond.methodLink RL 48 yX7_ofLeg ∈ WALL := List.mem_of_getElem? (i := 268) (by decide +kernel)
set_option maxRecDepth 100000 in
theorem w269 : Cond.instanceMethod yX7_ofLeg ∈ WALL := List.mem_of_getElem? (i := 269) (by decide +kernel)
set_option maxRecDepth 100000 in
theorem w270 : Cond.selects RX7 yX7_ofLeg yX7_ofLeg ∈ WALL := List.mem_of_getElem? (i := 270) (by decide +kernel)
set_option maxRecDepth 100000 in
theorem w271 : Cond.code yX7_ofLeg cX7_ofLeg 5 (some .long) ∈ WALL := List.mem_of_getElem? (i := 271) (by decide +kernel)
set_option maxRecDepth 100000 in
theorem w272 : Cond.fieldLink RX7 224 "Tollgate$Journal" "firstLeg" "[I" ∈ WALL := List.mem_of_getElem? (i := 272) (by decide +kernel)
set_option maxRecDepth 100000 in
theorem w273 : Cond.fieldLink RX7 227 "Tollgate$Journal" "account" "[I" ∈ WALL := List.mem_of_getElem? (i := 273) (by decide +kernel)
set_option maxRecDepth 100000 in
theorem w274 : Cond.fieldLink RX7 230 "Tollgate$Journal" "amount" "[J" ∈ WALL := List.mem_of_getElem? (i := 274) (by decide +kernel)
set_option maxRecDepth 100000 in
theorem w275 : Cond.fieldLink RX7 234 "Tollgate$Journal" "worth" "[J" ∈ WALL := List.mem_of_getElem? (i := 275) (by decide +kernel)
set_option maxRecDepth 100000 in
theorem w276 : Cond.fieldLink RX7 236 "Tollgate$Matching" "lineOfLeg" "[I" ∈ WALL := List.mem_of_getElem? (i := 276) (by decide +kernel)
set_option maxRecDepth 100000 in
theorem w277 : Cond.methodLink RL 52 yX7_open ∈ WALL := List.mem_of_getElem? (i := 277) (by decide +kernel)
set_option maxRecDepth 100000 in
theorem w278 : Cond.instanceMethod yX7_open ∈ WALL := List.mem_of_getElem? (i := 278) (by decide +kernel)
set_option maxRecDepth 100000 in
theorem w279 : Cond.selects RX7 yX7_open yX7_open ∈ WALL := List.mem_of_getElem? (i := 279) (by decide +kernel)
set_option maxRecDepth 100000 in
theorem w280 : Cond.code yX7_open cX7_open 2 (some .int) ∈ WALL := List.mem_of_getElem? (i := 280) (by decide +kernel)
set_option maxRecDepth 100000 in
theorem w281 : Cond.methodLink RX7 293 yX3_lastClosing ∈ WALL := List.mem_of_getElem? (i := 281) (by decide +kernel)
set_option maxRecDepth 100000 in
theorem w282 : Cond.methodLink RX7 298 yX6_freeLegsOf ∈ WALL := List.mem_of_getElem? (i := 282) (by decide +kernel)
set_option maxRecDepth 100000 in
theorem w283 : Cond.instanceMethod yX6_freeLegsOf ∈ WALL := List.mem_of_getElem? (i := 283) (by decide +kernel)
set_option maxRecDepth 100000 in
theorem w284 : Cond.selects RX6 yX6_freeLegsOf yX6_freeLegsOf ∈ WALL := List.mem_of_getElem? (i := 284) (by decide +kernel)
set_option maxRecDepth 100000 in
theorem w285 : Cond.code yX6_freeLegsOf cX6_freeLegsOf 4 none ∈ WALL := List.mem_of_getElem? (i := 285) (by decide +kernel)
set_option maxRecDepth 100000 in
theorem w286 : Cond.fieldLink RX6 108 "Tollgate$Journal" "firstLeg" "[I" ∈ WALL := List.mem_of_getElem? (i := 286) (by decide +kernel)
set_option maxRecDepth 100000 in
theorem w287 : Cond.fieldLink RX6 111 "Tollgate$Journal" "legsOf" "[I" ∈ WALL := List.mem_of_getElem? (i := 287) (by decide +kernel)
set_option maxRecDepth 100000 in
theorem w288 : Cond.methodLink RX6 38 yX6_freeLine ∈ WALL := List.mem_of_getElem? (i := 288) (by decide +kernel)
set_option maxRecDepth 100000 in
theorem w289 : Cond.instanceMethod yX6_freeLine ∈ WALL := List.mem_of_getElem? (i := 289) (by decide +kernel)
set_option maxRecDepth 100000 in
theorem w290 : Cond.selects RX6 yX6_freeLine yX6_freeLine ∈ WALL := List.mem_of_getElem? (i := 290) (by decide +kernel)
set_option maxRecDepth 100000 in
theorem w291 : Cond.code yX6_freeLine cX6_freeLine 2 none ∈ WALL := List.mem_of_getElem? (i := 291) (by decide +kernel)
set_option maxRecDepth 100000 in
theorem w292 : Cond.methodLink RL 56 yX7_line ∈ WALL := List.mem_of_getElem? (i := 292) (by decide +kernel)
set_option maxRecDepth 100000 in
theorem w293 : Cond.instanceMethod yX7_line ∈ WALL := List.mem_of_getElem? (i := 293) (by decide +kernel)
set_option maxRecDepth 100000 in
theorem w294 : Cond.selects RX7 yX7_line yX7_line ∈ WALL := List.mem_of_getElem? (i := 294) (by decide +kernel)
set_option maxRecDepth 100000 in
theorem w295 : Cond.code yX7_line cX7_line 4 (some .int) ∈ WALL := List.mem_of_getElem? (i := 295) (by decide +kernel)
set_option maxRecDepth 100000 in
theorem w296 : Cond.methodLink RX7 146 yX7_needAmount ∈ WALL := List.mem_of_getElem? (i := 296) (by decide +kernel)
set_option maxRecDepth 100000 in
theorem w297 : Cond.static yX7_needAmount ∈ WALL := List.mem_of_getElem? (i := 297) (by decide +kernel)
set_option maxRecDepth 100000 in
theorem w298 : Cond.code yX7_needAmount cX7_needAmount 1 none ∈ WALL := List.mem_of_getElem? (i := 298) (by decide +kernel)
set_option maxRecDepth 100000 in
theorem w299 : Cond.constant RX7 414 (-1000000) ∈ WALL := List.mem_of_getElem? (i := 299) (by decide +kernel)
set_option maxRecDepth 100000 in
theorem w300 : Cond.constant RX7 242 (1000000) ∈ WALL := List.mem_of_getElem? (i := 300) (by decide +kernel)
set_option maxRecDepth 100000 in
theorem w301 : Cond.methodLink RX7 304 yX5_add ∈ WALL := List.mem_of_getElem? (i := 301) (by decide +kernel)
set_option maxRecDepth 100000 in
theorem w302 : Cond.instanceMethod yX5_add ∈ WALL := List.mem_of_getElem? (i := 302) (by decide +kernel)
set_option maxRecDepth 100000 in
theorem w303 : Cond.selects RX5 yX5_add yX5_add ∈ WALL := List.mem_of_getElem? (i := 303) (by decide +kernel)
set_option maxRecDepth 100000 in
theorem w304 : Cond.code yX5_add cX5_add 4 (some .int) ∈ WALL := List.mem_of_getElem? (i := 304) (by decide +kernel)
set_option maxRecDepth 100000 in
theorem w305 : Cond.methodLink RX5 28 yX5_sortIn ∈ WALL := List.mem_of_getElem? (i := 305) (by decide +kernel)
set_option maxRecDepth 100000 in
theorem w306 : Cond.instanceMethod yX5_sortIn ∈ WALL := List.mem_of_getElem? (i := 306) (by decide +kernel)
set_option maxRecDepth 100000 in
theorem w307 : Cond.selects RX5 yX5_sortIn yX5_sortIn ∈ WALL := List.mem_of_getElem? (i := 307) (by decide +kernel)
set_option maxRecDepth 100000 in
theorem w308 : Cond.code yX5_sortIn cX5_sortIn 3 none ∈ WALL := List.mem_of_getElem? (i := 308) (by decide +kernel)
set_option maxRecDepth 100000 in
theorem w309 : Cond.methodLink RL 60 yX7_wouldMatch ∈ WALL := List.mem_of_getElem? (i := 309) (by decide +kernel)
set_option maxRecDepth 100000 in
theorem w310 : Cond.instanceMethod yX7_wouldMatch ∈ WALL := List.mem_of_getElem? (i := 310) (by decide +kernel)
set_option maxRecDepth 100000 in
theorem w311 : Cond.selects RX7 yX7_wouldMatch yX7_wouldMatch ∈ WALL := List.mem_of_getElem? (i := 311) (by decide +kernel)
set_option maxRecDepth 100000 in
theorem w312 : Cond.code yX7_wouldMatch cX7_wouldMatch 3 (some .int) ∈ WALL := List.mem_of_getElem? (i := 312) (by decide +kernel)
set_option maxRecDepth 100000 in
theorem w313 : Cond.methodLink RX7 305 yX7_needDaysAway ∈ WALL := List.mem_of_getElem? (i := 313) (by decide +kernel)
set_option maxRecDepth 100000 in
theorem w314 : Cond.static yX7_needDaysAway ∈ WALL := List.mem_of_getElem? (i := 314) (by decide +kernel)
set_option maxRecDepth 100000 in
theorem w315 : Cond.code yX7_needDaysAway cX7_needDaysAway 1 none ∈ WALL := List.mem_of_getElem? (i := 315) (by decide +kernel)
set_option maxRecDepth 100000 in
theorem w316 : Cond.methodLink RX7 308 yX6_pairUp ∈ WALL := List.mem_of_getElem? (i := 316) (by decide +kernel)
set_option maxRecDepth 100000 in
theorem w317 : Cond.instanceMethod yX6_pairUp ∈ WALL := List.mem_of_getElem? (i := 317) (by decide +kernel)
set_option maxRecDepth 100000 in
theorem w318 : Cond.selects RX6 yX6_pairUp yX6_pairUp ∈ WALL := List.mem_of_getElem? (i := 318) (by decide +kernel)
set_option maxRecDepth 100000 in
theorem w319 : Cond.code yX6_pairUp cX6_pairUp 4 (some .int) ∈ WALL := List.mem_of_getElem? (i := 319) (by decide +kernel)
set_option maxRecDepth 100000 in
theorem w320 : Cond.fieldLink RX6 29 "Tollgate$Lines" "count" "I" ∈ WALL := List.mem_of_getElem? (i := 320) (by decide +kernel)
set_option maxRecDepth 100000 in
theorem w321 : Cond.fieldLink RX6 35 "Tollgate$Lines" "account" "[I" ∈ WALL := List.mem_of_getElem? (i := 321) (by decide +kernel)
set_option maxRecDepth 100000 in
theorem w322 : Cond.fieldLink RX6 42 "Tollgate$Lines" "byDay" "[I" ∈ WALL := List.mem_of_getElem? (i := 322) (by decide +kernel)
set_option maxRecDepth 100000 in
theorem w323 : Cond.methodLink RX6 45 yX6_isLeft ∈ WALL := List.mem_of_getElem? (i := 323) (by decide +kernel)
set_option maxRecDepth 100000 in
theorem w324 : Cond.instanceMethod yX6_isLeft ∈ WALL := List.mem_of_getElem? (i := 324) (by decide +kernel)
set_option maxRecDepth 100000 in
theorem w325 : Cond.selects RX6 yX6_isLeft yX6_isLeft ∈ WALL := List.mem_of_getElem? (i := 325) (by decide +kernel)
set_option maxRecDepth 100000 in
theorem w326 : Cond.code yX6_isLeft cX6_isLeft 3 (some .boolean) ∈ WALL := List.mem_of_getElem? (i := 326) (by decide +kernel)
set_option maxRecDepth 100000 in
theorem w327 : Cond.methodLink RX6 49 yX6_bindNearest ∈ WALL := List.mem_of_getElem? (i := 327) (by decide +kernel)
set_option maxRecDepth 100000 in
theorem w328 : Cond.instanceMethod yX6_bindNearest ∈ WALL := List.mem_of_getElem? (i := 328) (by decide +kernel)
set_option maxRecDepth 100000 in
theorem w329 : Cond.selects RX6 yX6_bindNearest yX6_bindNearest ∈ WALL := List.mem_of_getElem? (i := 329) (by decide +kernel)
set_option maxRecDepth 100000 in
theorem w330 : Cond.code yX6_bindNearest cX6_bindNearest 5 none ∈ WALL := List.mem_of_getElem? (i := 330) (by decide +kernel)
set_option maxRecDepth 100000 in
theorem w331 : Cond.fieldLink RX6 81 "Tollgate$Journal" "legCount" "I" ∈ WALL := List.mem_of_getElem? (i := 331) (by decide +kernel)
set_option maxRecDepth 100000 in
theorem w332 : Cond.fieldLink RX6 87 "Tollgate$Journal" "amount" "[J" ∈ WALL := List.mem_of_getElem? (i := 332) (by decide +kernel)
set_option maxRecDepth 100000 in
theorem w333 : Cond.fieldLink RX6 91 "Tollgate$Lines" "amount" "[I" ∈ WALL := List.mem_of_getElem? (i := 333) (by decide +kernel)
set_option maxRecDepth 100000 in
theorem w334 : Cond.methodLink RX6 84 yX6_isLegLeft ∈ WALL := List.mem_of_getElem? (i := 334) (by decide +kernel)
set_option maxRecDepth 100000 in
theorem w335 : Cond.instanceMethod yX6_isLegLeft ∈ WALL := List.mem_of_getElem? (i := 335) (by decide +kernel)
set_option maxRecDepth 100000 in
theorem w336 : Cond.selects RX6 yX6_isLegLeft yX6_isLegLeft ∈ WALL := List.mem_of_getElem? (i := 336) (by decide +kernel)
set_option maxRecDepth 100000 in
theorem w337 : Cond.code yX6_isLegLeft cX6_isLegLeft 3 (some .boolean) ∈ WALL := List.mem_of_getElem? (i := 337) (by decide +kernel)
set_option maxRecDepth 100000 in
theorem w338 : Cond.fieldLink RX6 63 "Tollgate$Journal" "account" "[I" ∈ WALL := List.mem_of_getElem? (i := 338) (by decide +kernel)
set_option maxRecDepth 100000 in
theorem w339 : Cond.methodLink RX6 66 yX3_counts ∈ WALL := List.mem_of_getElem? (i := 339) (by decide +kernel)
set_option maxRecDepth 100000 in
theorem w340 : Cond.methodLink RX6 93 yX6_away ∈ WALL := List.mem_of_getElem? (i := 340) (by decide +kernel)
set_option maxRecDepth 100000 in
theorem w341 : Cond.instanceMethod yX6_away ∈ WALL := List.mem_of_getElem? (i := 341) (by decide +kernel)
set_option maxRecDepth 100000 in
theorem w342 : Cond.selects RX6 yX6_away yX6_away ∈ WALL := List.mem_of_getElem? (i := 342) (by decide +kernel)
set_option maxRecDepth 100000 in
theorem w343 : Cond.code yX6_away cX6_away 3 (some .int) ∈ WALL := List.mem_of_getElem? (i := 343) (by decide +kernel)
set_option maxRecDepth 100000 in
theorem w344 : Cond.fieldLink RX6 73 "Tollgate$Lines" "day" "[I" ∈ WALL := List.mem_of_getElem? (i := 344) (by decide +kernel)
set_option maxRecDepth 100000 in
theorem w345 : Cond.methodLink RX6 76 Lib.Math.abs.name ∈ WALL := List.mem_of_getElem? (i := 345) (by decide +kernel)
set_option maxRecDepth 100000 in
theorem w346 : Cond.static Lib.Math.abs.name ∈ WALL := List.mem_of_getElem? (i := 346) (by decide +kernel)
set_option maxRecDepth 100000 in
theorem w347 : Cond.code Lib.Math.abs.name Lib.Math.abs.code 1 (some .int) ∈ WALL := List.mem_of_getElem? (i := 347) (by decide +kernel)
set_option maxRecDepth 100000 in
theorem w348 : Cond.methodLink RX6 70 yX3_dayOf ∈ WALL := List.mem_of_getElem? (i := 348) (by decide +kernel)
set_option maxRecDepth 100000 in
theorem w349 : Cond.methodLink RX6 97 yX6_isNearer ∈ WALL := List.mem_of_getElem? (i := 349) (by decide +kernel)
set_option maxRecDepth 100000 in
theorem w350 : Cond.instanceMethod yX6_isNearer ∈ WALL := List.mem_of_getElem? (i := 350) (by decide +kernel)
set_option maxRecDepth 100000 in
theorem w351 : Cond.selects RX6 yX6_isNearer yX6_isNearer ∈ WALL := List.mem_of_getElem? (i := 351) (by decide +kernel)
set_option maxRecDepth 100000 in
theorem w352 : Cond.code yX6_isNearer cX6_isNearer 6 (some .boolean) ∈ WALL := List.mem_of_getElem? (i := 352) (by decide +kernel)
set_option maxRecDepth 100000 in
theorem w353 : Cond.methodLink RX6 101 yX6_bind ∈ WALL := List.mem_of_getElem? (i := 353) (by decide +kernel)
set_option maxRecDepth 100000 in
theorem w354 : Cond.instanceMethod yX6_bind ∈ WALL := List.mem_of_getElem? (i := 354) (by decide +kernel)
set_option maxRecDepth 100000 in
theorem w355 : Cond.selects RX6 yX6_bind yX6_bind ∈ WALL := List.mem_of_getElem? (i := 355) (by decide +kernel)
set_option maxRecDepth 100000 in
theorem w356 : Cond.code yX6_bind cX6_bind 4 none ∈ WALL := List.mem_of_getElem? (i := 356) (by decide +kernel)
set_option maxRecDepth 100000 in
theorem w357 : Cond.methodLink RX6 53 yX6_bindFirstTwo ∈ WALL := List.mem_of_getElem? (i := 357) (by decide +kernel)
set_option maxRecDepth 100000 in
theorem w358 : Cond.instanceMethod yX6_bindFirstTwo ∈ WALL := List.mem_of_getElem? (i := 358) (by decide +kernel)
set_option maxRecDepth 100000 in
theorem w359 : Cond.selects RX6 yX6_bindFirstTwo yX6_bindFirstTwo ∈ WALL := List.mem_of_getElem? (i := 359) (by decide +kernel)
set_option maxRecDepth 100000 in
theorem w360 : Cond.code yX6_bindFirstTwo cX6_bindFirstTwo 5 none ∈ WALL := List.mem_of_getElem? (i := 360) (by decide +kernel)
set_option maxRecDepth 100000 in
theorem w361 : Cond.methodLink RX6 105 yX6_secondBehind ∈ WALL := List.mem_of_getElem? (i := 361) (by decide +kernel)
set_option maxRecDepth 100000 in
theorem w362 : Cond.instanceMethod yX6_secondBehind ∈ WALL := List.mem_of_getElem? (i := 362) (by decide +kernel)
set_option maxRecDepth 100000 in
theorem w363 : Cond.selects RX6 yX6_secondBehind yX6_secondBehind ∈ WALL := List.mem_of_getElem? (i := 363) (by decide +kernel)
set_option maxRecDepth 100000 in
theorem w364 : Cond.code yX6_secondBehind cX6_secondBehind 4 (some .int) ∈ WALL := List.mem_of_getElem? (i := 364) (by decide +kernel)
set_option maxRecDepth 100000 in
theorem w365 : Cond.methodLink RX6 56 yX5_countOf ∈ WALL := List.mem_of_getElem? (i := 365) (by decide +kernel)
set_option maxRecDepth 100000 in
theorem w366 : Cond.instanceMethod yX5_countOf ∈ WALL := List.mem_of_getElem? (i := 366) (by decide +kernel)
set_option maxRecDepth 100000 in
theorem w367 : Cond.selects RX5 yX5_countOf yX5_countOf ∈ WALL := List.mem_of_getElem? (i := 367) (by decide +kernel)
set_option maxRecDepth 100000 in
theorem w368 : Cond.code yX5_countOf cX5_countOf 4 (some .int) ∈ WALL := List.mem_of_getElem? (i := 368) (by decide +kernel)
set_option maxRecDepth 100000 in
theorem w369 : Cond.methodLink RX6 60 yX6_linesLeft ∈ WALL := List.mem_of_getElem? (i := 369) (by decide +kernel)
set_option maxRecDepth 100000 in
theorem w370 : Cond.instanceMethod yX6_linesLeft ∈ WALL := List.mem_of_getElem? (i := 370) (by decide +kernel)
set_option maxRecDepth 100000 in
theorem w371 : Cond.selects RX6 yX6_linesLeft yX6_linesLeft ∈ WALL := List.mem_of_getElem? (i := 371) (by decide +kernel)
set_option maxRecDepth 100000 in
theorem w372 : Cond.code yX6_linesLeft cX6_linesLeft 4 (some .int) ∈ WALL := List.mem_of_getElem? (i := 372) (by decide +kernel)
set_option maxRecDepth 100000 in
theorem w373 : Cond.methodLink RL 63 yX7_match ∈ WALL := List.mem_of_getElem? (i := 373) (by decide +kernel)
set_option maxRecDepth 100000 in
theorem w374 : Cond.instanceMethod yX7_match ∈ WALL := List.mem_of_getElem? (i := 374) (by decide +kernel)
set_option maxRecDepth 100000 in
theorem w375 : Cond.selects RX7 yX7_match yX7_match ∈ WALL := List.mem_of_getElem? (i := 375) (by decide +kernel)
set_option maxRecDepth 100000 in
theorem w376 : Cond.code yX7_match cX7_match 3 (some .int) ∈ WALL := List.mem_of_getElem? (i := 376) (by decide +kernel)
set_option maxRecDepth 100000 in
theorem w377 : Cond.methodLink RL 66 yX7_left ∈ WALL := List.mem_of_getElem? (i := 377) (by decide +kernel)
set_option maxRecDepth 100000 in
theorem w378 : Cond.instanceMethod yX7_left ∈ WALL := List.mem_of_getElem? (i := 378) (by decide +kernel)
set_option maxRecDepth 100000 in
theorem w379 : Cond.selects RX7 yX7_left yX7_left ∈ WALL := List.mem_of_getElem? (i := 379) (by decide +kernel)
set_option maxRecDepth 100000 in
theorem w380 : Cond.code yX7_left cX7_left 3 (some .long) ∈ WALL := List.mem_of_getElem? (i := 380) (by decide +kernel)
set_option maxRecDepth 100000 in
theorem w381 : Cond.methodLink RX7 311 yX5_countOf ∈ WALL := List.mem_of_getElem? (i := 381) (by decide +kernel)
set_option maxRecDepth 100000 in
theorem w382 : Cond.methodLink RX7 315 yX6_linesLeft ∈ WALL := List.mem_of_getElem? (i := 382) (by decide +kernel)
set_option maxRecDepth 100000 in
theorem w383 : Cond.methodLink RX7 318 yX6_legsLeft ∈ WALL := List.mem_of_getElem? (i := 383) (by decide +kernel)
set_option maxRecDepth 100000 in
theorem w384 : Cond.instanceMethod yX6_legsLeft ∈ WALL := List.mem_of_getElem? (i := 384) (by decide +kernel)
set_option maxRecDepth 100000 in
theorem w385 : Cond.selects RX6 yX6_legsLeft yX6_legsLeft ∈ WALL := List.mem_of_getElem? (i := 385) (by decide +kernel)
set_option maxRecDepth 100000 in
theorem w386 : Cond.code yX6_legsLeft cX6_legsLeft 4 (some .int) ∈ WALL := List.mem_of_getElem? (i := 386) (by decide +kernel)
set_option maxRecDepth 100000 in
theorem w387 : Cond.methodLink RX7 321 yX6_lineSumLeft ∈ WALL := List.mem_of_getElem? (i := 387) (by decide +kernel)
set_option maxRecDepth 100000 in
theorem w388 : Cond.instanceMethod yX6_lineSumLeft ∈ WALL := List.mem_of_getElem? (i := 388) (by decide +kernel)
set_option maxRecDepth 100000 in
theorem w389 : Cond.selects RX6 yX6_lineSumLeft yX6_lineSumLeft ∈ WALL := List.mem_of_getElem? (i := 389) (by decide +kernel)
set_option maxRecDepth 100000 in
theorem w390 : Cond.code yX6_lineSumLeft cX6_lineSumLeft 5 (some .long) ∈ WALL := List.mem_of_getElem? (i := 390) (by decide +kernel)
set_option maxRecDepth 100000 in
theorem w391 : Cond.methodLink RX7 324 yX6_legSumLeft ∈ WALL := List.mem_of_getElem? (i := 391) (by decide +kernel)
set_option maxRecDepth 100000 in
theorem w392 : Cond.instanceMethod yX6_legSumLeft ∈ WALL := List.mem_of_getElem? (i := 392) (by decide +kernel)
set_option maxRecDepth 100000 in
theorem w393 : Cond.selects RX6 yX6_legSumLeft yX6_legSumLeft ∈ WALL := List.mem_of_getElem? (i := 393) (by decide +kernel)
set_option maxRecDepth 100000 in
theorem w394 : Cond.code yX6_legSumLeft cX6_legSumLeft 5 (some .long) ∈ WALL := List.mem_of_getElem? (i := 394) (by decide +kernel)
set_option maxRecDepth 100000 in
theorem w395 : Cond.methodLink RL 70 yX7_draft ∈ WALL := List.mem_of_getElem? (i := 395) (by decide +kernel)
set_option maxRecDepth 100000 in
theorem w396 : Cond.instanceMethod yX7_draft ∈ WALL := List.mem_of_getElem? (i := 396) (by decide +kernel)
set_option maxRecDepth 100000 in
theorem w397 : Cond.selects RX7 yX7_draft yX7_draft ∈ WALL := List.mem_of_getElem? (i := 397) (by decide +kernel)
set_option maxRecDepth 100000 in
theorem w398 : Cond.code yX7_draft cX7_draft 4 (some .int) ∈ WALL := List.mem_of_getElem? (i := 398) (by decide +kernel)
set_option maxRecDepth 100000 in
theorem w399 : Cond.fieldLink RX7 138 "Tollgate$Draft" "legs" "LTollgate$LegRow;" ∈ WALL := List.mem_of_getElem? (i := 399) (by decide +kernel)
set_option maxRecDepth 100000 in
theorem w400 : Cond.methodLink RX7 142 yX1_begin ∈ WALL := List.mem_of_getElem? (i := 400) (by decide +kernel)
set_option maxRecDepth 100000 in
theorem w401 : Cond.instanceMethod yX1_begin ∈ WALL := List.mem_of_getElem? (i := 401) (by decide +kernel)
set_option maxRecDepth 100000 in
theorem w402 : Cond.selects RX1 yX1_begin yX1_begin ∈ WALL := List.mem_of_getElem? (i := 402) (by decide +kernel)
set_option maxRecDepth 100000 in
theorem w403 : Cond.code yX1_begin cX1_begin 3 none ∈ WALL := List.mem_of_getElem? (i := 403) (by decide +kernel)
set_option maxRecDepth 100000 in
theorem w404 : Cond.fieldLink RX1 27 "Tollgate$LegRow" "count" "I" ∈ WALL := List.mem_of_getElem? (i := 404) (by decide +kernel)
set_option maxRecDepth 100000 in
theorem w405 : Cond.methodLink RL 73 yX7_leg ∈ WALL := List.mem_of_getElem? (i := 405) (by decide +kernel)
set_option maxRecDepth 100000 in
theorem w406 : Cond.instanceMethod yX7_leg ∈ WALL := List.mem_of_getElem? (i := 406) (by decide +kernel)
set_option maxRecDepth 100000 in
theorem w407 : Cond.selects RX7 yX7_leg yX7_leg ∈ WALL := List.mem_of_getElem? (i := 407) (by decide +kernel)
set_option maxRecDepth 100000 in
theorem w408 : Cond.code yX7_leg cX7_leg 3 (some .long) ∈ WALL := List.mem_of_getElem? (i := 408) (by decide +kernel)
set_option maxRecDepth 100000 in
theorem w409 : Cond.fieldLink RX7 149 "Tollgate$Draft" "isThere" "Z" ∈ WALL := List.mem_of_getElem? (i := 409) (by decide +kernel)
set_option maxRecDepth 100000 in
theorem w410 : Cond.methodLink RL 76 yX7_reason ∈ WALL := List.mem_of_getElem? (i := 410) (by decide +kernel)
set_option maxRecDepth 100000 in
theorem w411 : Cond.instanceMethod yX7_reason ∈ WALL := List.mem_of_getElem? (i := 411) (by decide +kernel)
set_option maxRecDepth 100000 in
theorem w412 : Cond.selects RX7 yX7_reason yX7_reason ∈ WALL := List.mem_of_getElem? (i := 412) (by decide +kernel)
set_option maxRecDepth 100000 in
theorem w413 : Cond.code yX7_reason cX7_reason 1 (some .int) ∈ WALL := List.mem_of_getElem? (i := 413) (by decide +kernel)
set_option maxRecDepth 100000 in
theorem w414 : Cond.methodLink RX7 166 yX7_whyNotPosted ∈ WALL := List.mem_of_getElem? (i := 414) (by decide +kernel)
set_option maxRecDepth 100000 in
theorem w415 : Cond.instanceMethod yX7_whyNotPosted ∈ WALL := List.mem_of_getElem? (i := 415) (by decide +kernel)
set_option maxRecDepth 100000 in
theorem w416 : Cond.selects RX7 yX7_whyNotPosted yX7_whyNotPosted ∈ WALL := List.mem_of_getElem? (i := 416) (by decide +kernel)
set_option maxRecDepth 100000 in
theorem w417 : Cond.code yX7_whyNotPosted cX7_whyNotPosted 1 (some .int) ∈ WALL := List.mem_of_getElem? (i := 417) (by decide +kernel)
set_option maxRecDepth 100000 in
theorem w418 : Cond.fieldLink RX7 175 "Tollgate$Draft" "day" "I" ∈ WALL := List.mem_of_getElem? (i := 418) (by decide +kernel)
set_option maxRecDepth 100000 in
theorem w419 : Cond.methodLink RX7 427 yX7_canBeExchanged ∈ WALL := List.mem_of_getElem? (i := 419) (by decide +kernel)
set_option maxRecDepth 100000 in
theorem w420 : Cond.instanceMethod yX7_canBeExchanged ∈ WALL := List.mem_of_getElem? (i := 420) (by decide +kernel)
set_option maxRecDepth 100000 in
theorem w421 : Cond.selects RX7 yX7_canBeExchanged yX7_canBeExchanged ∈ WALL := List.mem_of_getElem? (i := 421) (by decide +kernel)
set_option maxRecDepth 100000 in
theorem w422 : Cond.code yX7_canBeExchanged cX7_canBeExchanged 1 (some .boolean) ∈ WALL := List.mem_of_getElem? (i := 422) (by decide +kernel)
set_option maxRecDepth 100000 in
theorem w423 : Cond.methodLink RX7 433 Lib.MathLoose.abs_long.x ∈ WALL := List.mem_of_getElem? (i := 423) (by decide +kernel)
set_option maxRecDepth 100000 in
theorem w424 : Cond.methodLink RX7 430 yX7_draftHasTwoCurrencies ∈ WALL := List.mem_of_getElem? (i := 424) (by decide +kernel)
set_option maxRecDepth 100000 in
theorem w425 : Cond.instanceMethod yX7_draftHasTwoCurrencies ∈ WALL := List.mem_of_getElem? (i := 425) (by decide +kernel)
set_option maxRecDepth 100000 in
theorem w426 : Cond.selects RX7 yX7_draftHasTwoCurrencies yX7_draftHasTwoCurrencies ∈ WALL := List.mem_of_getElem? (i := 426) (by decide +kernel)
set_option maxRecDepth 100000 in
theorem w427 : Cond.code yX7_draftHasTwoCurrencies cX7_draftHasTwoCurrencies 2 (some .boolean) ∈ WALL := List.mem_of_getElem? (i := 427) (by decide +kernel)
set_option maxRecDepth 100000 in
theorem w428 : Cond.fieldLink RX7 439 "Tollgate$LegRow" "account" "[I" ∈ WALL := List.mem_of_getElem? (i := 428) (by decide +kernel)
set_option maxRecDepth 100000 in
theorem w429 : Cond.methodLink RX7 172 yX7_planDraft ∈ WALL := List.mem_of_getElem? (i := 429) (by decide +kernel)
set_option maxRecDepth 100000 in
theorem w430 : Cond.instanceMethod yX7_planDraft ∈ WALL := List.mem_of_getElem? (i := 430) (by decide +kernel)
set_option maxRecDepth 100000 in
theorem w431 : Cond.selects RX7 yX7_planDraft yX7_planDraft ∈ WALL := List.mem_of_getElem? (i := 431) (by decide +kernel)
set_option maxRecDepth 100000 in
theorem w432 : Cond.code yX7_planDraft cX7_planDraft 3 none ∈ WALL := List.mem_of_getElem? (i := 432) (by decide +kernel)
set_option maxRecDepth 100000 in
theorem w433 : Cond.fieldLink RX7 440 "Tollgate$LegRow" "amount" "[J" ∈ WALL := List.mem_of_getElem? (i := 433) (by decide +kernel)
set_option maxRecDepth 100000 in
theorem w434 : Cond.fieldLink RX7 441 "Tollgate$LegRow" "worth" "[J" ∈ WALL := List.mem_of_getElem? (i := 434) (by decide +kernel)
set_option maxRecDepth 100000 in
theorem w435 : Cond.methodLink RX7 419 yX7_planKeepsFloors ∈ WALL := List.mem_of_getElem? (i := 435) (by decide +kernel)
set_option maxRecDepth 100000 in
theorem w436 : Cond.instanceMethod yX7_planKeepsFloors ∈ WALL := List.mem_of_getElem? (i := 436) (by decide +kernel)
set_option maxRecDepth 100000 in
theorem w437 : Cond.selects RX7 yX7_planKeepsFloors yX7_planKeepsFloors ∈ WALL := List.mem_of_getElem? (i := 437) (by decide +kernel)
set_option maxRecDepth 100000 in
theorem w438 : Cond.code yX7_planKeepsFloors cX7_planKeepsFloors 8 (some .boolean) ∈ WALL := List.mem_of_getElem? (i := 438) (by decide +kernel)
set_option maxRecDepth 100000 in
theorem w439 : Cond.fieldLink RX7 122 "Tollgate$Accounts" "hasFloor" "[Z" ∈ WALL := List.mem_of_getElem? (i := 439) (by decide +kernel)
set_option maxRecDepth 100000 in
theorem w440 : Cond.fieldLink RX7 119 "Tollgate$Accounts" "floors" "[I" ∈ WALL := List.mem_of_getElem? (i := 440) (by decide +kernel)
set_option maxRecDepth 100000 in
theorem w441 : Cond.methodLink RX7 442 yX4_amountOn ∈ WALL := List.mem_of_getElem? (i := 441) (by decide +kernel)
set_option maxRecDepth 100000 in
theorem w442 : Cond.instanceMethod yX4_amountOn ∈ WALL := List.mem_of_getElem? (i := 442) (by decide +kernel)
set_option maxRecDepth 100000 in
theorem w443 : Cond.selects RX4 yX4_amountOn yX4_amountOn ∈ WALL := List.mem_of_getElem? (i := 443) (by decide +kernel)
set_option maxRecDepth 100000 in
theorem w444 : Cond.code yX4_amountOn cX4_amountOn 5 (some .long) ∈ WALL := List.mem_of_getElem? (i := 444) (by decide +kernel)
set_option maxRecDepth 100000 in
theorem w445 : Cond.methodLink RX7 424 yX0_stand ∈ WALL := List.mem_of_getElem? (i := 445) (by decide +kernel)
set_option maxRecDepth 100000 in
theorem w446 : Cond.instanceMethod yX0_stand ∈ WALL := List.mem_of_getElem? (i := 446) (by decide +kernel)
set_option maxRecDepth 100000 in
theorem w447 : Cond.selects RX0 yX0_stand yX0_stand ∈ WALL := List.mem_of_getElem? (i := 447) (by decide +kernel)
set_option maxRecDepth 100000 in
theorem w448 : Cond.code yX0_stand cX0_stand 4 (some .long) ∈ WALL := List.mem_of_getElem? (i := 448) (by decide +kernel)
set_option maxRecDepth 100000 in
theorem w449 : Cond.methodLink RX7 113 yX2_heldOn ∈ WALL := List.mem_of_getElem? (i := 449) (by decide +kernel)
set_option maxRecDepth 100000 in
theorem w450 : Cond.instanceMethod yX2_heldOn ∈ WALL := List.mem_of_getElem? (i := 450) (by decide +kernel)
set_option maxRecDepth 100000 in
theorem w451 : Cond.selects RX2 yX2_heldOn yX2_heldOn ∈ WALL := List.mem_of_getElem? (i := 451) (by decide +kernel)
set_option maxRecDepth 100000 in
theorem w452 : Cond.code yX2_heldOn cX2_heldOn 7 (some .long) ∈ WALL := List.mem_of_getElem? (i := 452) (by decide +kernel)
set_option maxRecDepth 100000 in
theorem w453 : Cond.methodLink RL 79 yX7_post ∈ WALL := List.mem_of_getElem? (i := 453) (by decide +kernel)
set_option maxRecDepth 100000 in
theorem w454 : Cond.instanceMethod yX7_post ∈ WALL := List.mem_of_getElem? (i := 454) (by decide +kernel)
set_option maxRecDepth 100000 in
theorem w455 : Cond.selects RX7 yX7_post yX7_post ∈ WALL := List.mem_of_getElem? (i := 455) (by decide +kernel)
set_option maxRecDepth 100000 in
theorem w456 : Cond.code yX7_post cX7_post 2 (some .int) ∈ WALL := List.mem_of_getElem? (i := 456) (by decide +kernel)
set_option maxRecDepth 100000 in
theorem w457 : Cond.fieldLink RX7 178 "Tollgate$Draft" "note" "I" ∈ WALL := List.mem_of_getElem? (i := 457) (by decide +kernel)
set_option maxRecDepth 100000 in
theorem w458 : Cond.methodLink RX7 185 yX1_forget ∈ WALL := List.mem_of_getElem? (i := 458) (by decide +kernel)
set_option maxRecDepth 100000 in
theorem w459 : Cond.instanceMethod yX1_forget ∈ WALL := List.mem_of_getElem? (i := 459) (by decide +kernel)
set_option maxRecDepth 100000 in
theorem w460 : Cond.selects RX1 yX1_forget yX1_forget ∈ WALL := List.mem_of_getElem? (i := 460) (by decide +kernel)
set_option maxRecDepth 100000 in
theorem w461 : Cond.code yX1_forget cX1_forget 1 none ∈ WALL := List.mem_of_getElem? (i := 461) (by decide +kernel)
set_option maxRecDepth 100000 in
theorem w462 : Cond.methodLink RL 82 yX7_ofKind ∈ WALL := List.mem_of_getElem? (i := 462) (by decide +kernel)
set_option maxRecDepth 100000 in
theorem w463 : Cond.instanceMethod yX7_ofKind ∈ WALL := List.mem_of_getElem? (i := 463) (by decide +kernel)
set_option maxRecDepth 100000 in
theorem w464 : Cond.selects RX7 yX7_ofKind yX7_ofKind ∈ WALL := List.mem_of_getElem? (i := 464) (by decide +kernel)
set_option maxRecDepth 100000 in
theorem w465 : Cond.code yX7_ofKind cX7_ofKind 5 (some .long) ∈ WALL := List.mem_of_getElem? (i := 465) (by decide +kernel)
set_option maxRecDepth 100000 in
theorem w466 : Cond.methodLink RX7 348 yX3_worthOn ∈ WALL := List.mem_of_getElem? (i := 466) (by decide +kernel)
set_option maxRecDepth 100000 in
theorem w467 : Cond.instanceMethod yX3_worthOn ∈ WALL := List.mem_of_getElem? (i := 467) (by decide +kernel)
set_option maxRecDepth 100000 in
theorem w468 : Cond.selects RX3 yX3_worthOn yX3_worthOn ∈ WALL := List.mem_of_getElem? (i := 468) (by decide +kernel)
set_option maxRecDepth 100000 in
theorem w469 : Cond.code yX3_worthOn cX3_worthOn 5 (some .long) ∈ WALL := List.mem_of_getElem? (i := 469) (by decide +kernel)
set_option maxRecDepth 100000 in
theorem w470 : Cond.methodLink RL 85 yX7_digest ∈ WALL := List.mem_of_getElem? (i := 470) (by decide +kernel)
set_option maxRecDepth 100000 in
theorem w471 : Cond.instanceMethod yX7_digest ∈ WALL := List.mem_of_getElem? (i := 471) (by decide +kernel)
set_option maxRecDepth 100000 in
theorem w472 : Cond.selects RX7 yX7_digest yX7_digest ∈ WALL := List.mem_of_getElem? (i := 472) (by decide +kernel)
set_option maxRecDepth 100000 in
theorem w473 : Cond.code yX7_digest cX7_digest 4 (some .long) ∈ WALL := List.mem_of_getElem? (i := 473) (by decide +kernel)
set_option maxRecDepth 100000 in
theorem w474 : Cond.constantLong RX7 364 (58089) ∈ WALL := List.mem_of_getElem? (i := 474) (by decide +kernel)
set_option maxRecDepth 100000 in
theorem w475 : Cond.fieldLink RX7 377 "Tollgate$Journal" "count" "I" ∈ WALL := List.mem_of_getElem? (i := 475) (by decide +kernel)
set_option maxRecDepth 100000 in
theorem w476 : Cond.methodLink RX7 366 yX7_many ∈ WALL := List.mem_of_getElem? (i := 476) (by decide +kernel)
set_option maxRecDepth 100000 in
theorem w477 : Cond.methodLink RX7 369 yX7_mix ∈ WALL := List.mem_of_getElem? (i := 477) (by decide +kernel)
set_option maxRecDepth 100000 in
theorem w478 : Cond.static yX7_mix ∈ WALL := List.mem_of_getElem? (i := 478) (by decide +kernel)
set_option maxRecDepth 100000 in
theorem w479 : Cond.code yX7_mix cX7_mix 4 (some .long) ∈ WALL := List.mem_of_getElem? (i := 479) (by decide +kernel)
set_option maxRecDepth 100000 in
theorem w480 : Cond.constantLong RX7 390 (31) ∈ WALL := List.mem_of_getElem? (i := 480) (by decide +kernel)
set_option maxRecDepth 100000 in
theorem w481 : Cond.methodLink RX7 373 yX7_mixAccount ∈ WALL := List.mem_of_getElem? (i := 481) (by decide +kernel)
set_option maxRecDepth 100000 in
theorem w482 : Cond.instanceMethod yX7_mixAccount ∈ WALL := List.mem_of_getElem? (i := 482) (by decide +kernel)
set_option maxRecDepth 100000 in
theorem w483 : Cond.selects RX7 yX7_mixAccount yX7_mixAccount ∈ WALL := List.mem_of_getElem? (i := 483) (by decide +kernel)
set_option maxRecDepth 100000 in
theorem w484 : Cond.code yX7_mixAccount cX7_mixAccount 7 (some .long) ∈ WALL := List.mem_of_getElem? (i := 484) (by decide +kernel)
set_option maxRecDepth 100000 in
theorem w485 : Cond.methodLink RX7 392 yX7_told ∈ WALL := List.mem_of_getElem? (i := 485) (by decide +kernel)
set_option maxRecDepth 100000 in
theorem w486 : Cond.instanceMethod yX7_told ∈ WALL := List.mem_of_getElem? (i := 486) (by decide +kernel)
set_option maxRecDepth 100000 in
theorem w487 : Cond.selects RX7 yX7_told yX7_told ∈ WALL := List.mem_of_getElem? (i := 487) (by decide +kernel)
set_option maxRecDepth 100000 in
theorem w488 : Cond.code yX7_told cX7_told 3 (some .long) ∈ WALL := List.mem_of_getElem? (i := 488) (by decide +kernel)
set_option maxRecDepth 100000 in
theorem w489 : Cond.methodLink RX7 109 yX7_standOf ∈ WALL := List.mem_of_getElem? (i := 489) (by decide +kernel)
set_option maxRecDepth 100000 in
theorem w490 : Cond.instanceMethod yX7_standOf ∈ WALL := List.mem_of_getElem? (i := 490) (by decide +kernel)
set_option maxRecDepth 100000 in
theorem w491 : Cond.selects RX7 yX7_standOf yX7_standOf ∈ WALL := List.mem_of_getElem? (i := 491) (by decide +kernel)
set_option maxRecDepth 100000 in
theorem w492 : Cond.code yX7_standOf cX7_standOf 2 (some .long) ∈ WALL := List.mem_of_getElem? (i := 492) (by decide +kernel)
set_option maxRecDepth 100000 in
theorem w493 : Cond.methodLink RX7 248 yX7_hadIf ∈ WALL := List.mem_of_getElem? (i := 493) (by decide +kernel)
set_option maxRecDepth 100000 in
theorem w494 : Cond.instanceMethod yX7_hadIf ∈ WALL := List.mem_of_getElem? (i := 494) (by decide +kernel)
set_option maxRecDepth 100000 in
theorem w495 : Cond.selects RX7 yX7_hadIf yX7_hadIf ∈ WALL := List.mem_of_getElem? (i := 495) (by decide +kernel)
set_option maxRecDepth 100000 in
theorem w496 : Cond.code yX7_hadIf cX7_hadIf 5 (some .long) ∈ WALL := List.mem_of_getElem? (i := 496) (by decide +kernel)
set_option maxRecDepth 100000 in
theorem w497 : Cond.methodLink RX7 395 yX7_left ∈ WALL := List.mem_of_getElem? (i := 497) (by decide +kernel)
set_option maxRecDepth 100000 in
theorem w498 : Cond.methodLink RX7 378 yX7_mixEntry ∈ WALL := List.mem_of_getElem? (i := 498) (by decide +kernel)
set_option maxRecDepth 100000 in
theorem w499 : Cond.instanceMethod yX7_mixEntry ∈ WALL := List.mem_of_getElem? (i := 499) (by decide +kernel)
set_option maxRecDepth 100000 in
theorem w500 : Cond.selects RX7 yX7_mixEntry yX7_mixEntry ∈ WALL := List.mem_of_getElem? (i := 500) (by decide +kernel)
set_option maxRecDepth 100000 in
theorem w501 : Cond.code yX7_mixEntry cX7_mixEntry 8 (some .long) ∈ WALL := List.mem_of_getElem? (i := 501) (by decide +kernel)
set_option maxRecDepth 100000 in
theorem w502 : Cond.methodLink RX7 398 yX7_ofEntry ∈ WALL := List.mem_of_getElem? (i := 502) (by decide +kernel)
set_option maxRecDepth 100000 in
theorem w503 : Cond.methodLink RX7 401 yX7_ofLeg ∈ WALL := List.mem_of_getElem? (i := 503) (by decide +kernel)
set_option maxRecDepth 100000 in
theorem w504 : Cond.methodLink RX7 381 yX7_matched ∈ WALL := List.mem_of_getElem? (i := 504) (by decide +kernel)
set_option maxRecDepth 100000 in
theorem w505 : Cond.instanceMethod yX7_matched ∈ WALL := List.mem_of_getElem? (i := 505) (by decide +kernel)
set_option maxRecDepth 100000 in
theorem w506 : Cond.selects RX7 yX7_matched yX7_matched ∈ WALL := List.mem_of_getElem? (i := 506) (by decide +kernel)
set_option maxRecDepth 100000 in
theorem w507 : Cond.code yX7_matched cX7_matched 3 (some .int) ∈ WALL := List.mem_of_getElem? (i := 507) (by decide +kernel)
set_option maxRecDepth 100000 in
theorem w508 : Cond.fieldLink RX7 331 "Tollgate$Matching" "firstOfLine" "[I" ∈ WALL := List.mem_of_getElem? (i := 508) (by decide +kernel)
set_option maxRecDepth 100000 in
theorem w509 : Cond.fieldLink RX7 334 "Tollgate$Journal" "entryOf" "[I" ∈ WALL := List.mem_of_getElem? (i := 509) (by decide +kernel)
set_option maxRecDepth 100000 in
theorem w510 : Cond.methodLink RX7 384 yX7_ofKind ∈ WALL := List.mem_of_getElem? (i := 510) (by decide +kernel)
set_option maxRecDepth 100000 in
theorem w511 : Cond.methodLink RX7 387 yX7_wouldClose ∈ WALL := List.mem_of_getElem? (i := 511) (by decide +kernel)
set_option maxRecDepth 100000 in
theorem w512 : Cond.methodLink RL 89 yX7_at ∈ WALL := List.mem_of_getElem? (i := 512) (by decide +kernel)
set_option maxRecDepth 100000 in
theorem w513 : Cond.instanceMethod yX7_at ∈ WALL := List.mem_of_getElem? (i := 513) (by decide +kernel)
set_option maxRecDepth 100000 in
theorem w514 : Cond.selects RX7 yX7_at yX7_at ∈ WALL := List.mem_of_getElem? (i := 514) (by decide +kernel)
set_option maxRecDepth 100000 in
theorem w515 : Cond.code yX7_at cX7_at 3 (some .long) ∈ WALL := List.mem_of_getElem? (i := 515) (by decide +kernel)
set_option maxRecDepth 100000 in
theorem w516 : Cond.methodLink RL 92 yX7_told ∈ WALL := List.mem_of_getElem? (i := 516) (by decide +kernel)
set_option maxRecDepth 100000 in
theorem w517 : Cond.methodLink RL 101 yX7_hadOn ∈ WALL := List.mem_of_getElem? (i := 517) (by decide +kernel)
set_option maxRecDepth 100000 in
theorem w518 : Cond.instanceMethod yX7_hadOn ∈ WALL := List.mem_of_getElem? (i := 518) (by decide +kernel)
set_option maxRecDepth 100000 in
theorem w519 : Cond.selects RX7 yX7_hadOn yX7_hadOn ∈ WALL := List.mem_of_getElem? (i := 519) (by decide +kernel)
set_option maxRecDepth 100000 in
theorem w520 : Cond.code yX7_hadOn cX7_hadOn 3 (some .long) ∈ WALL := List.mem_of_getElem? (i := 520) (by decide +kernel)
set_option maxRecDepth 100000 in
theorem w521 : Cond.methodLink RL 104 yX7_matched ∈ WALL := List.mem_of_getElem? (i := 521) (by decide +kernel)
set_option maxRecDepth 100000 in
theorem w522 : Cond.methodLink RL 107 yX7_earned ∈ WALL := List.mem_of_getElem? (i := 522) (by decide +kernel)
set_option maxRecDepth 100000 in
theorem w523 : Cond.instanceMethod yX7_earned ∈ WALL := List.mem_of_getElem? (i := 523) (by decide +kernel)
set_option maxRecDepth 100000 in
theorem w524 : Cond.selects RX7 yX7_earned yX7_earned ∈ WALL := List.mem_of_getElem? (i := 524) (by decide +kernel)
set_option maxRecDepth 100000 in
theorem w525 : Cond.code yX7_earned cX7_earned 6 (some .long) ∈ WALL := List.mem_of_getElem? (i := 525) (by decide +kernel)
set_option maxRecDepth 100000 in
theorem w526 : Cond.methodLink RX7 356 yX3_worthBetween ∈ WALL := List.mem_of_getElem? (i := 526) (by decide +kernel)
set_option maxRecDepth 100000 in
theorem w527 : Cond.instanceMethod yX3_worthBetween ∈ WALL := List.mem_of_getElem? (i := 527) (by decide +kernel)
set_option maxRecDepth 100000 in
theorem w528 : Cond.selects RX3 yX3_worthBetween yX3_worthBetween ∈ WALL := List.mem_of_getElem? (i := 528) (by decide +kernel)
set_option maxRecDepth 100000 in
theorem w529 : Cond.code yX3_worthBetween cX3_worthBetween 7 (some .long) ∈ WALL := List.mem_of_getElem? (i := 529) (by decide +kernel)
