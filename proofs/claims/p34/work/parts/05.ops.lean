/-! BRANCHES AND ARITHMETIC over numbers (nI), truths (bI), places (oI) -/
theorem oI_m1 {x : Option Nat} (h : ∀ j, x = some j → j < 2 ^ 31) : oI x = -1 ↔ x = none := by
  cases x with
  | none => exact ⟨fun _ => rfl, fun _ => rfl⟩
  | some j =>
    refine ⟨fun e => ?_, fun e => by cases e⟩
    have h1 : nI j = -1 := e
    have h2 := nI_toInt (h j rfl)
    rw [h1] at h2
    have h3 : (-1 : Int32).toInt = -1 := by decide
    omega
theorem oI_le {d : Nat} {x : Option Nat} (hd : d < 2 ^ 31) (h : ∀ j, x = some j → j < 2 ^ 31) : nI d ≤ oI x ↔ ∃ j, x = some j ∧ d ≤ j := by
  cases x with
  | none =>
    refine ⟨fun e => ?_, fun ⟨j, e, _⟩ => by cases e⟩
    have h1 : nI d ≤ -1 := e
    have h2 := Int32.le_iff_toInt_le.mp h1
    rw [nI_toInt hd, show (-1 : Int32).toInt = -1 by decide] at h2
    omega
  | some j =>
    show nI d ≤ nI j ↔ _
    rw [nI_leI hd (h j rfl)]
    exact ⟨fun e => ⟨j, rfl, e⟩, fun ⟨k, e, f⟩ => by cases e; exact f⟩
theorem nI_m1 {x : Nat} (h : 0 < x) : nI x + Int32.ofInt (-1) = nI (x - 1) := by
  obtain ⟨y, rfl⟩ : ∃ y, x = y + 1 := ⟨x - 1, by omega⟩
  show nI (y + 1) + (-1) = nI (y + 1 - 1)
  rw [Nat.add_sub_cancel]
  exact pk_m1 y
theorem nI_x0 {x : Nat} (h : x < 2 ^ 31) : nI x = 0 ↔ x = 0 := by
  rw [← nI_0]
  exact nI_eq h (by decide)
section Ops
variable {p : Program} {l : Launch} {e : Env} {R : Room} {s : State} {m : MethodId} {args : Array Value} {below : List Frame} {meth : Method} {c : Code} {H : Heap} {locs : List Loc} {cs ss : Nat} {Q : State → Prop} {cc : ByteArray} {pc : Nat} {ls : Array Slot} {rest : List Value}
theorem bn_eq (hx : p.tables.exec = Jvm.exec) (hb : c.code = cc) {x y : Nat} (hX : x < 2 ^ 31) (hY : y < 2 ^ 31) {off : Int} {tgt : Nat} (hd : decode cc pc = .ok (.if_icmp .eq off, 3)) (ht : (pc : Int) + off = (tgt : Int)) (kt : x = y → W p l e R s m args below meth c H locs cs ss Q (F0 m tgt ls rest)) (kf : x ≠ y → W p l e R s m args below meth c H locs cs ss Q (F0 m (pc + 3) ls rest)) : W p l e R s m args below meth c H locs cs ss Q (F0 m pc ls (.int (nI y) :: .int (nI x) :: rest)) :=
  lv_icmp_eq hx hb hd ht (fun h => kt ((nI_eq hX hY).mp h)) (fun h => kf (fun q => h ((nI_eq hX hY).mpr q)))
theorem bn_eq_t (hx : p.tables.exec = Jvm.exec) (hb : c.code = cc) {x y : Nat} (hX : x < 2 ^ 31) (hY : y < 2 ^ 31) {off : Int} {tgt : Nat} (hd : decode cc pc = .ok (.if_icmp .eq off, 3)) (ht : (pc : Int) + off = (tgt : Int)) (hh : x = y) (kt : W p l e R s m args below meth c H locs cs ss Q (F0 m tgt ls rest)) : W p l e R s m args below meth c H locs cs ss Q (F0 m pc ls (.int (nI y) :: .int (nI x) :: rest)) :=
  bn_eq hx hb hX hY hd ht (fun _ => kt) (fun h => absurd hh (by omega))
theorem bn_eq_f (hx : p.tables.exec = Jvm.exec) (hb : c.code = cc) {x y : Nat} (hX : x < 2 ^ 31) (hY : y < 2 ^ 31) {off : Int} {tgt : Nat} (hd : decode cc pc = .ok (.if_icmp .eq off, 3)) (ht : (pc : Int) + off = (tgt : Int)) (hh : x ≠ y) (kf : W p l e R s m args below meth c H locs cs ss Q (F0 m (pc + 3) ls rest)) : W p l e R s m args below meth c H locs cs ss Q (F0 m pc ls (.int (nI y) :: .int (nI x) :: rest)) :=
  bn_eq hx hb hX hY hd ht (fun h => absurd hh (by omega)) (fun _ => kf)
theorem bn_ne (hx : p.tables.exec = Jvm.exec) (hb : c.code = cc) {x y : Nat} (hX : x < 2 ^ 31) (hY : y < 2 ^ 31) {off : Int} {tgt : Nat} (hd : decode cc pc = .ok (.if_icmp .ne off, 3)) (ht : (pc : Int) + off = (tgt : Int)) (kt : x ≠ y → W p l e R s m args below meth c H locs cs ss Q (F0 m tgt ls rest)) (kf : x = y → W p l e R s m args below meth c H locs cs ss Q (F0 m (pc + 3) ls rest)) : W p l e R s m args below meth c H locs cs ss Q (F0 m pc ls (.int (nI y) :: .int (nI x) :: rest)) :=
  lv_icmp_ne hx hb hd ht (fun h => kt (fun q => h ((nI_eq hX hY).mpr q))) (fun h => kf ((nI_eq hX hY).mp h))
theorem bn_ne_t (hx : p.tables.exec = Jvm.exec) (hb : c.code = cc) {x y : Nat} (hX : x < 2 ^ 31) (hY : y < 2 ^ 31) {off : Int} {tgt : Nat} (hd : decode cc pc = .ok (.if_icmp .ne off, 3)) (ht : (pc : Int) + off = (tgt : Int)) (hh : x ≠ y) (kt : W p l e R s m args below meth c H locs cs ss Q (F0 m tgt ls rest)) : W p l e R s m args below meth c H locs cs ss Q (F0 m pc ls (.int (nI y) :: .int (nI x) :: rest)) :=
  bn_ne hx hb hX hY hd ht (fun _ => kt) (fun h => absurd hh (by omega))
theorem bn_ne_f (hx : p.tables.exec = Jvm.exec) (hb : c.code = cc) {x y : Nat} (hX : x < 2 ^ 31) (hY : y < 2 ^ 31) {off : Int} {tgt : Nat} (hd : decode cc pc = .ok (.if_icmp .ne off, 3)) (ht : (pc : Int) + off = (tgt : Int)) (hh : x = y) (kf : W p l e R s m args below meth c H locs cs ss Q (F0 m (pc + 3) ls rest)) : W p l e R s m args below meth c H locs cs ss Q (F0 m pc ls (.int (nI y) :: .int (nI x) :: rest)) :=
  bn_ne hx hb hX hY hd ht (fun h => absurd hh (by omega)) (fun _ => kf)
theorem bn_lt (hx : p.tables.exec = Jvm.exec) (hb : c.code = cc) {x y : Nat} (hX : x < 2 ^ 31) (hY : y < 2 ^ 31) {off : Int} {tgt : Nat} (hd : decode cc pc = .ok (.if_icmp .lt off, 3)) (ht : (pc : Int) + off = (tgt : Int)) (kt : x < y → W p l e R s m args below meth c H locs cs ss Q (F0 m tgt ls rest)) (kf : y ≤ x → W p l e R s m args below meth c H locs cs ss Q (F0 m (pc + 3) ls rest)) : W p l e R s m args below meth c H locs cs ss Q (F0 m pc ls (.int (nI y) :: .int (nI x) :: rest)) :=
  lv_icmp_lt hx hb hd ht (fun h => kt ((nI_ltI hX hY).mp h)) (fun h => kf (by have q := mt (nI_ltI hX hY).mpr h; omega))
theorem bn_lt_t (hx : p.tables.exec = Jvm.exec) (hb : c.code = cc) {x y : Nat} (hX : x < 2 ^ 31) (hY : y < 2 ^ 31) {off : Int} {tgt : Nat} (hd : decode cc pc = .ok (.if_icmp .lt off, 3)) (ht : (pc : Int) + off = (tgt : Int)) (hh : x < y) (kt : W p l e R s m args below meth c H locs cs ss Q (F0 m tgt ls rest)) : W p l e R s m args below meth c H locs cs ss Q (F0 m pc ls (.int (nI y) :: .int (nI x) :: rest)) :=
  bn_lt hx hb hX hY hd ht (fun _ => kt) (fun h => absurd hh (by omega))
theorem bn_lt_f (hx : p.tables.exec = Jvm.exec) (hb : c.code = cc) {x y : Nat} (hX : x < 2 ^ 31) (hY : y < 2 ^ 31) {off : Int} {tgt : Nat} (hd : decode cc pc = .ok (.if_icmp .lt off, 3)) (ht : (pc : Int) + off = (tgt : Int)) (hh : y ≤ x) (kf : W p l e R s m args below meth c H locs cs ss Q (F0 m (pc + 3) ls rest)) : W p l e R s m args below meth c H locs cs ss Q (F0 m pc ls (.int (nI y) :: .int (nI x) :: rest)) :=
  bn_lt hx hb hX hY hd ht (fun h => absurd hh (by omega)) (fun _ => kf)
theorem bn_ge (hx : p.tables.exec = Jvm.exec) (hb : c.code = cc) {x y : Nat} (hX : x < 2 ^ 31) (hY : y < 2 ^ 31) {off : Int} {tgt : Nat} (hd : decode cc pc = .ok (.if_icmp .ge off, 3)) (ht : (pc : Int) + off = (tgt : Int)) (kt : y ≤ x → W p l e R s m args below meth c H locs cs ss Q (F0 m tgt ls rest)) (kf : x < y → W p l e R s m args below meth c H locs cs ss Q (F0 m (pc + 3) ls rest)) : W p l e R s m args below meth c H locs cs ss Q (F0 m pc ls (.int (nI y) :: .int (nI x) :: rest)) :=
  lv_icmp_ge hx hb hd ht (fun h => kt ((nI_leI hY hX).mp h)) (fun h => kf (by have q := mt (nI_leI hY hX).mpr h; omega))
theorem bn_ge_t (hx : p.tables.exec = Jvm.exec) (hb : c.code = cc) {x y : Nat} (hX : x < 2 ^ 31) (hY : y < 2 ^ 31) {off : Int} {tgt : Nat} (hd : decode cc pc = .ok (.if_icmp .ge off, 3)) (ht : (pc : Int) + off = (tgt : Int)) (hh : y ≤ x) (kt : W p l e R s m args below meth c H locs cs ss Q (F0 m tgt ls rest)) : W p l e R s m args below meth c H locs cs ss Q (F0 m pc ls (.int (nI y) :: .int (nI x) :: rest)) :=
  bn_ge hx hb hX hY hd ht (fun _ => kt) (fun h => absurd hh (by omega))
theorem bn_ge_f (hx : p.tables.exec = Jvm.exec) (hb : c.code = cc) {x y : Nat} (hX : x < 2 ^ 31) (hY : y < 2 ^ 31) {off : Int} {tgt : Nat} (hd : decode cc pc = .ok (.if_icmp .ge off, 3)) (ht : (pc : Int) + off = (tgt : Int)) (hh : x < y) (kf : W p l e R s m args below meth c H locs cs ss Q (F0 m (pc + 3) ls rest)) : W p l e R s m args below meth c H locs cs ss Q (F0 m pc ls (.int (nI y) :: .int (nI x) :: rest)) :=
  bn_ge hx hb hX hY hd ht (fun h => absurd hh (by omega)) (fun _ => kf)
theorem bn_gt (hx : p.tables.exec = Jvm.exec) (hb : c.code = cc) {x y : Nat} (hX : x < 2 ^ 31) (hY : y < 2 ^ 31) {off : Int} {tgt : Nat} (hd : decode cc pc = .ok (.if_icmp .gt off, 3)) (ht : (pc : Int) + off = (tgt : Int)) (kt : y < x → W p l e R s m args below meth c H locs cs ss Q (F0 m tgt ls rest)) (kf : x ≤ y → W p l e R s m args below meth c H locs cs ss Q (F0 m (pc + 3) ls rest)) : W p l e R s m args below meth c H locs cs ss Q (F0 m pc ls (.int (nI y) :: .int (nI x) :: rest)) :=
  lv_icmp_gt hx hb hd ht (fun h => kt ((nI_ltI hY hX).mp h)) (fun h => kf (by have q := mt (nI_ltI hY hX).mpr h; omega))
theorem bn_gt_t (hx : p.tables.exec = Jvm.exec) (hb : c.code = cc) {x y : Nat} (hX : x < 2 ^ 31) (hY : y < 2 ^ 31) {off : Int} {tgt : Nat} (hd : decode cc pc = .ok (.if_icmp .gt off, 3)) (ht : (pc : Int) + off = (tgt : Int)) (hh : y < x) (kt : W p l e R s m args below meth c H locs cs ss Q (F0 m tgt ls rest)) : W p l e R s m args below meth c H locs cs ss Q (F0 m pc ls (.int (nI y) :: .int (nI x) :: rest)) :=
  bn_gt hx hb hX hY hd ht (fun _ => kt) (fun h => absurd hh (by omega))
theorem bn_gt_f (hx : p.tables.exec = Jvm.exec) (hb : c.code = cc) {x y : Nat} (hX : x < 2 ^ 31) (hY : y < 2 ^ 31) {off : Int} {tgt : Nat} (hd : decode cc pc = .ok (.if_icmp .gt off, 3)) (ht : (pc : Int) + off = (tgt : Int)) (hh : x ≤ y) (kf : W p l e R s m args below meth c H locs cs ss Q (F0 m (pc + 3) ls rest)) : W p l e R s m args below meth c H locs cs ss Q (F0 m pc ls (.int (nI y) :: .int (nI x) :: rest)) :=
  bn_gt hx hb hX hY hd ht (fun h => absurd hh (by omega)) (fun _ => kf)
theorem bn_le (hx : p.tables.exec = Jvm.exec) (hb : c.code = cc) {x y : Nat} (hX : x < 2 ^ 31) (hY : y < 2 ^ 31) {off : Int} {tgt : Nat} (hd : decode cc pc = .ok (.if_icmp .le off, 3)) (ht : (pc : Int) + off = (tgt : Int)) (kt : x ≤ y → W p l e R s m args below meth c H locs cs ss Q (F0 m tgt ls rest)) (kf : y < x → W p l e R s m args below meth c H locs cs ss Q (F0 m (pc + 3) ls rest)) : W p l e R s m args below meth c H locs cs ss Q (F0 m pc ls (.int (nI y) :: .int (nI x) :: rest)) :=
  lv_icmp_le hx hb hd ht (fun h => kt ((nI_leI hX hY).mp h)) (fun h => kf (by have q := mt (nI_leI hX hY).mpr h; omega))
theorem bn_le_t (hx : p.tables.exec = Jvm.exec) (hb : c.code = cc) {x y : Nat} (hX : x < 2 ^ 31) (hY : y < 2 ^ 31) {off : Int} {tgt : Nat} (hd : decode cc pc = .ok (.if_icmp .le off, 3)) (ht : (pc : Int) + off = (tgt : Int)) (hh : x ≤ y) (kt : W p l e R s m args below meth c H locs cs ss Q (F0 m tgt ls rest)) : W p l e R s m args below meth c H locs cs ss Q (F0 m pc ls (.int (nI y) :: .int (nI x) :: rest)) :=
  bn_le hx hb hX hY hd ht (fun _ => kt) (fun h => absurd hh (by omega))
theorem bn_le_f (hx : p.tables.exec = Jvm.exec) (hb : c.code = cc) {x y : Nat} (hX : x < 2 ^ 31) (hY : y < 2 ^ 31) {off : Int} {tgt : Nat} (hd : decode cc pc = .ok (.if_icmp .le off, 3)) (ht : (pc : Int) + off = (tgt : Int)) (hh : y < x) (kf : W p l e R s m args below meth c H locs cs ss Q (F0 m (pc + 3) ls rest)) : W p l e R s m args below meth c H locs cs ss Q (F0 m pc ls (.int (nI y) :: .int (nI x) :: rest)) :=
  bn_le hx hb hX hY hd ht (fun h => absurd hh (by omega)) (fun _ => kf)
theorem bz_eq (hx : p.tables.exec = Jvm.exec) (hb : c.code = cc) {x : Nat} (hX : x < 2 ^ 31) {off : Int} {tgt : Nat} (hd : decode cc pc = .ok (.ifCond .eq off, 3)) (ht : (pc : Int) + off = (tgt : Int)) (kt : x = 0 → W p l e R s m args below meth c H locs cs ss Q (F0 m tgt ls rest)) (kf : x ≠ 0 → W p l e R s m args below meth c H locs cs ss Q (F0 m (pc + 3) ls rest)) : W p l e R s m args below meth c H locs cs ss Q (F0 m pc ls (.int (nI x) :: rest)) :=
  lv_if_eq hx hb hd ht (fun h => kt ((nI_x0 hX).mp h)) (fun h => kf (fun q => h ((nI_x0 hX).mpr q)))
theorem bz_ne (hx : p.tables.exec = Jvm.exec) (hb : c.code = cc) {x : Nat} (hX : x < 2 ^ 31) {off : Int} {tgt : Nat} (hd : decode cc pc = .ok (.ifCond .ne off, 3)) (ht : (pc : Int) + off = (tgt : Int)) (kt : x ≠ 0 → W p l e R s m args below meth c H locs cs ss Q (F0 m tgt ls rest)) (kf : x = 0 → W p l e R s m args below meth c H locs cs ss Q (F0 m (pc + 3) ls rest)) : W p l e R s m args below meth c H locs cs ss Q (F0 m pc ls (.int (nI x) :: rest)) :=
  lv_if_ne hx hb hd ht (fun h => kt (fun q => h ((nI_x0 hX).mpr q))) (fun h => kf ((nI_x0 hX).mp h))
theorem bz_lt_f (hx : p.tables.exec = Jvm.exec) (hb : c.code = cc) {x : Nat} (hX : x < 2 ^ 31) {off : Int} {tgt : Nat} (hd : decode cc pc = .ok (.ifCond .lt off, 3)) (ht : (pc : Int) + off = (tgt : Int)) (kk : W p l e R s m args below meth c H locs cs ss Q (F0 m (pc + 3) ls rest)) : W p l e R s m args below meth c H locs cs ss Q (F0 m pc ls (.int (nI x) :: rest)) :=
  lv_if_lt hx hb hd ht (fun h => absurd h (nI_pos hX)) (fun _ => kk)
theorem bz_ge_t (hx : p.tables.exec = Jvm.exec) (hb : c.code = cc) {x : Nat} (hX : x < 2 ^ 31) {off : Int} {tgt : Nat} (hd : decode cc pc = .ok (.ifCond .ge off, 3)) (ht : (pc : Int) + off = (tgt : Int)) (kk : W p l e R s m args below meth c H locs cs ss Q (F0 m tgt ls rest)) : W p l e R s m args below meth c H locs cs ss Q (F0 m pc ls (.int (nI x) :: rest)) :=
  lv_if_ge hx hb hd ht (fun _ => kk) (fun h => absurd (nI_pos' hX) h)
theorem bz_le (hx : p.tables.exec = Jvm.exec) (hb : c.code = cc) {x : Nat} (hX : x < 2 ^ 31) {off : Int} {tgt : Nat} (hd : decode cc pc = .ok (.ifCond .le off, 3)) (ht : (pc : Int) + off = (tgt : Int)) (kt : x = 0 → W p l e R s m args below meth c H locs cs ss Q (F0 m tgt ls rest)) (kf : 0 < x → W p l e R s m args below meth c H locs cs ss Q (F0 m (pc + 3) ls rest)) : W p l e R s m args below meth c H locs cs ss Q (F0 m pc ls (.int (nI x) :: rest)) :=
  lv_if_le hx hb hd ht (fun h => kt (by rcases Nat.eq_zero_or_pos x with q | q; exact q; exact absurd h (nI_nle q hX))) (fun h => kf (by rcases Nat.eq_zero_or_pos x with q | q; exact absurd (by rw [q]; exact (show nI 0 ≤ 0 by decide)) h; exact q))
theorem bb_eq (hx : p.tables.exec = Jvm.exec) (hb : c.code = cc) {b : Bool} {off : Int} {tgt : Nat} (hd : decode cc pc = .ok (.ifCond .eq off, 3)) (ht : (pc : Int) + off = (tgt : Int)) (kt : b = false → W p l e R s m args below meth c H locs cs ss Q (F0 m tgt ls rest)) (kf : b = true → W p l e R s m args below meth c H locs cs ss Q (F0 m (pc + 3) ls rest)) : W p l e R s m args below meth c H locs cs ss Q (F0 m pc ls (.int (bI b) :: rest)) :=
  lv_if_eq hx hb hd ht (fun h => kt ((bI_0 b).mp h)) (fun h => kf (by cases b; exact absurd rfl h; rfl))
theorem bb_ne (hx : p.tables.exec = Jvm.exec) (hb : c.code = cc) {b : Bool} {off : Int} {tgt : Nat} (hd : decode cc pc = .ok (.ifCond .ne off, 3)) (ht : (pc : Int) + off = (tgt : Int)) (kt : b = true → W p l e R s m args below meth c H locs cs ss Q (F0 m tgt ls rest)) (kf : b = false → W p l e R s m args below meth c H locs cs ss Q (F0 m (pc + 3) ls rest)) : W p l e R s m args below meth c H locs cs ss Q (F0 m pc ls (.int (bI b) :: rest)) :=
  lv_if_ne hx hb hd ht (fun h => kt (by cases b; exact absurd rfl h; rfl)) (fun h => kf ((bI_0 b).mp h))
theorem bo_eq (hx : p.tables.exec = Jvm.exec) (hb : c.code = cc) {x : Option Nat} (hX : ∀ j, x = some j → j < 2 ^ 31) {off : Int} {tgt : Nat} (hd : decode cc pc = .ok (.if_icmp .eq off, 3)) (ht : (pc : Int) + off = (tgt : Int)) (kt : (x = none) → W p l e R s m args below meth c H locs cs ss Q (F0 m tgt ls rest)) (kf : (x ≠ none) → W p l e R s m args below meth c H locs cs ss Q (F0 m (pc + 3) ls rest)) : W p l e R s m args below meth c H locs cs ss Q (F0 m pc ls (.int (-1) :: .int (oI x) :: rest)) :=
  lv_icmp_eq hx hb hd ht (fun h => kt ((oI_m1 hX).mp h)) (fun h => kf (fun q => h ((oI_m1 hX).mpr q)))
theorem bo_ne (hx : p.tables.exec = Jvm.exec) (hb : c.code = cc) {x : Option Nat} (hX : ∀ j, x = some j → j < 2 ^ 31) {off : Int} {tgt : Nat} (hd : decode cc pc = .ok (.if_icmp .ne off, 3)) (ht : (pc : Int) + off = (tgt : Int)) (kt : (x ≠ none) → W p l e R s m args below meth c H locs cs ss Q (F0 m tgt ls rest)) (kf : (x = none) → W p l e R s m args below meth c H locs cs ss Q (F0 m (pc + 3) ls rest)) : W p l e R s m args below meth c H locs cs ss Q (F0 m pc ls (.int (-1) :: .int (oI x) :: rest)) :=
  lv_icmp_ne hx hb hd ht (fun h => kt (fun q => h ((oI_m1 hX).mpr q))) (fun h => kf ((oI_m1 hX).mp h))
theorem bno_gt (hx : p.tables.exec = Jvm.exec) (hb : c.code = cc) {x : Option Nat} {d : Nat} (hD : d < 2 ^ 31) (hX : ∀ j, x = some j → j < 2 ^ 31) {off : Int} {tgt : Nat} (hd : decode cc pc = .ok (.if_icmp .gt off, 3)) (ht : (pc : Int) + off = (tgt : Int)) (kt : (∀ j, x = some j → j < d) → W p l e R s m args below meth c H locs cs ss Q (F0 m tgt ls rest)) (kf : (∃ j, x = some j ∧ d ≤ j) → W p l e R s m args below meth c H locs cs ss Q (F0 m (pc + 3) ls rest)) : W p l e R s m args below meth c H locs cs ss Q (F0 m pc ls (.int (oI x) :: .int (nI d) :: rest)) :=
  lv_icmp_gt hx hb hd ht (fun h => kt (fun j ej => Nat.lt_of_not_le (fun q => absurd ((oI_le hD hX).mpr ⟨j, ej, q⟩) (Int32.not_le.mpr h)))) (fun h => kf ((oI_le hD hX).mp (Int32.not_lt.mp h)))
theorem bno_le (hx : p.tables.exec = Jvm.exec) (hb : c.code = cc) {x : Option Nat} {d : Nat} (hD : d < 2 ^ 31) (hX : ∀ j, x = some j → j < 2 ^ 31) {off : Int} {tgt : Nat} (hd : decode cc pc = .ok (.if_icmp .le off, 3)) (ht : (pc : Int) + off = (tgt : Int)) (kt : (∃ j, x = some j ∧ d ≤ j) → W p l e R s m args below meth c H locs cs ss Q (F0 m tgt ls rest)) (kf : (∀ j, x = some j → j < d) → W p l e R s m args below meth c H locs cs ss Q (F0 m (pc + 3) ls rest)) : W p l e R s m args below meth c H locs cs ss Q (F0 m pc ls (.int (oI x) :: .int (nI d) :: rest)) :=
  lv_icmp_le hx hb hd ht (fun h => kt ((oI_le hD hX).mp h)) (fun h => kf (fun j ej => Nat.lt_of_not_le (fun q => h ((oI_le hD hX).mpr ⟨j, ej, q⟩))))
theorem bt_in {w v : Nat} (hw : w = v) (hx : p.tables.exec = Jvm.exec) (hb : c.code = cc) {dflt lo hi : Int} {offs : Array Int} {len : Nat} {off : Int} {tgt : Nat} (hd : decode cc pc = .ok (.tableswitch dflt lo hi offs, len)) (h1 : ¬ (nI v).toInt < lo) (h2 : ¬ hi < (nI v).toInt) (ho : offs[((nI v).toInt - lo).toNat]? = some off) (ht : (pc : Int) + off = (tgt : Int)) (kk : W p l e R s m args below meth c H locs cs ss Q (F0 m tgt ls rest)) : W p l e R s m args below meth c H locs cs ss Q (F0 m pc ls (.int (nI w) :: rest)) := by
  subst hw
  exact lv_tableIn hx hb hd h1 h2 ho ht kk
theorem bt_out {w v : Nat} (hw : v ≤ w) (hW : w < 2 ^ 31) (hx : p.tables.exec = Jvm.exec) (hb : c.code = cc) {dflt lo hi : Int} {offs : Array Int} {len : Nat} {tgt : Nat} (hd : decode cc pc = .ok (.tableswitch dflt lo hi offs, len)) (hh : hi < (v : Int)) (ht : (pc : Int) + dflt = (tgt : Int)) (kk : W p l e R s m args below meth c H locs cs ss Q (F0 m tgt ls rest)) : W p l e R s m args below meth c H locs cs ss Q (F0 m pc ls (.int (nI w) :: rest)) :=
  lv_tableOut hx hb hd (Or.inr (by rw [nI_toInt hW]; omega)) ht kk
theorem oI_lt0 {x : Option Nat} (h : ∀ j, x = some j → j < 2 ^ 31) : oI x < 0 ↔ x = none := by
  cases x with
  | none => exact ⟨fun _ => rfl, fun _ => (by decide : (-1 : Int32) < 0)⟩
  | some j => exact ⟨fun e => absurd e (nI_pos (h j rfl)), fun e => by cases e⟩
theorem oI_le_c {x : Option Nat} {n : Nat} (hn : n < 2 ^ 31) (h : ∀ j, x = some j → j ≤ n) : oI x ≤ nI n := by
  cases x with
  | none =>
    show (-1 : Int32) ≤ nI n
    rw [Int32.le_iff_toInt_le, nI_toInt hn, show (-1 : Int32).toInt = -1 by decide]
    omega
  | some j => exact nI_le (h j rfl) hn
theorem bo_lt (hx : p.tables.exec = Jvm.exec) (hb : c.code = cc) {x : Option Nat} (hX : ∀ j, x = some j → j < 2 ^ 31) {off : Int} {tgt : Nat} (hd : decode cc pc = .ok (.ifCond .lt off, 3)) (ht : (pc : Int) + off = (tgt : Int)) (kt : x = none → W p l e R s m args below meth c H locs cs ss Q (F0 m tgt ls rest)) (kf : x ≠ none → W p l e R s m args below meth c H locs cs ss Q (F0 m (pc + 3) ls rest)) : W p l e R s m args below meth c H locs cs ss Q (F0 m pc ls (.int (oI x) :: rest)) :=
  lv_if_lt hx hb hd ht (fun h => kt ((oI_lt0 hX).mp h)) (fun h => kf (fun q => h ((oI_lt0 hX).mpr q)))
theorem ar_irem (hx : p.tables.exec = Jvm.exec) (hb : c.code = cc) {x y : Nat} (h1 : x < 2 ^ 31) (h2 : 0 < y) (h3 : y < 2 ^ 31) (hd : decode cc pc = .ok (.irem, 1)) (kk : W p l e R s m args below meth c H locs cs ss Q (F0 m (pc + 1) ls (.int (nI (x % y)) :: rest))) : W p l e R s m args below meth c H locs cs ss Q (F0 m pc ls (.int (nI y) :: .int (nI x) :: rest)) :=
  lv_irem hx hb hd (nI_ne0 h2 h3) (by rw [pk_rem h1 h2 h3]; exact kk)
theorem ar_idiv (hx : p.tables.exec = Jvm.exec) (hb : c.code = cc) {x y : Nat} (h1 : x < 2 ^ 31) (h2 : 0 < y) (h3 : y < 2 ^ 31) (hd : decode cc pc = .ok (.idiv, 1)) (kk : W p l e R s m args below meth c H locs cs ss Q (F0 m (pc + 1) ls (.int (nI (x / y)) :: rest))) : W p l e R s m args below meth c H locs cs ss Q (F0 m pc ls (.int (nI y) :: .int (nI x) :: rest)) :=
  lv_idiv hx hb hd (nI_ne0 h2 h3) (by rw [pk_div h1 h2 h3]; exact kk)
theorem ar_imul (hx : p.tables.exec = Jvm.exec) (hb : c.code = cc) {x y : Nat} (hd : decode cc pc = .ok (.imul, 1)) (kk : W p l e R s m args below meth c H locs cs ss Q (F0 m (pc + 1) ls (.int (nI (x * y)) :: rest))) : W p l e R s m args below meth c H locs cs ss Q (F0 m pc ls (.int (nI y) :: .int (nI x) :: rest)) :=
  lv_imul hx hb hd (by rw [pk_mul]; exact kk)
theorem ar_ior (hx : p.tables.exec = Jvm.exec) (hb : c.code = cc) {x y : Bool} (hd : decode cc pc = .ok (.ior, 1)) (kk : W p l e R s m args below meth c H locs cs ss Q (F0 m (pc + 1) ls (.int (bI (x || y)) :: rest))) : W p l e R s m args below meth c H locs cs ss Q (F0 m pc ls (.int (bI y) :: .int (bI x) :: rest)) :=
  lv_ior hx hb hd (by rw [show bI x ||| bI y = bI (x || y) by cases x <;> cases y <;> decide]; exact kk)
theorem ar_iadd (hx : p.tables.exec = Jvm.exec) (hb : c.code = cc) {x y : Nat} (hd : decode cc pc = .ok (.iadd, 1)) (kk : W p l e R s m args below meth c H locs cs ss Q (F0 m (pc + 1) ls (.int (nI (x + y)) :: rest))) : W p l e R s m args below meth c H locs cs ss Q (F0 m pc ls (.int (nI y) :: .int (nI x) :: rest)) :=
  lv_iadd hx hb hd (by rw [nI_add]; exact kk)
theorem ar_isub (hx : p.tables.exec = Jvm.exec) (hb : c.code = cc) {x y : Nat} (h : y ≤ x) (hd : decode cc pc = .ok (.isub, 1)) (kk : W p l e R s m args below meth c H locs cs ss Q (F0 m (pc + 1) ls (.int (nI (x - y)) :: rest))) : W p l e R s m args below meth c H locs cs ss Q (F0 m pc ls (.int (nI y) :: .int (nI x) :: rest)) :=
  lv_isub hx hb hd (by rw [pk_sub h]; exact kk)
theorem bm_lt (hx : p.tables.exec = Jvm.exec) (hb : c.code = cc) {k : Nat} (hX : k < 2 ^ 31) {off : Int} {tgt : Nat} (hd : decode cc pc = .ok (.ifCond .lt off, 3)) (ht : (pc : Int) + off = (tgt : Int)) (kt : k = 0 → W p l e R s m args below meth c H locs cs ss Q (F0 m tgt ls rest)) (kf : ∀ j, k = j + 1 → W p l e R s m args below meth c H locs cs ss Q (F0 m (pc + 3) ls rest)) : W p l e R s m args below meth c H locs cs ss Q (F0 m pc ls (.int (nI k - 1) :: rest)) :=
  lv_if_lt hx hb hd ht (fun h => kt (by cases k with
    | zero => rfl
    | succ j => rw [nI_pred] at h; exact absurd h (nI_pos (by omega)))) (fun h => by cases k with
    | zero => exact absurd (show nI 0 - 1 < 0 by decide) h
    | succ j => exact kf j rfl)
theorem absd_eq {x y : Nat} (hX : x < 2 ^ 30) (hY : y < 2 ^ 30) : (if 0 ≤ nI x - nI y then nI x - nI y else 0 - (nI x - nI y)) = nI (if y ≤ x then x - y else y - x) := by
  have h0 := pk_sub_toInt hX hY
  by_cases h : y ≤ x
  · rw [if_pos (by rw [Int32.le_iff_toInt_le, h0]; show (0 : Int32).toInt ≤ _; rw [show (0 : Int32).toInt = 0 by decide]; omega), if_pos h, pk_sub h]
  · have h1 : nI x - nI y < 0 := pk_sneg hY (by omega)
    rw [if_neg (Int32.not_le.mpr h1), if_neg h, ← pk_sub (by omega : x ≤ y)]
    show 0 - (nI x - nI y) = nI y - nI x
    rw [Int32.zero_sub, Int32.neg_sub]
theorem nI_mm (j : Nat) : nI j + Int32.ofInt (-1) = nI j - 1 := (Int32.sub_eq_add_neg (nI j) 1).symm
theorem bl_eq (hx : p.tables.exec = Jvm.exec) (hb : c.code = cc) {x y : Int64} {off : Int} {tgt : Nat} (hd : decode cc pc = .ok (.lcmp, 1)) (hd2 : decode cc (pc + 1) = .ok (.ifCond .eq off, 3)) (ht : ((pc + 1 : Nat) : Int) + off = (tgt : Int)) (kt : x = y → W p l e R s m args below meth c H locs cs ss Q (F0 m tgt ls rest)) (kf : ¬ x = y → W p l e R s m args below meth c H locs cs ss Q (F0 m (pc + 1 + 3) ls rest)) : W p l e R s m args below meth c H locs cs ss Q (F0 m pc ls (.long y :: .long x :: rest)) :=
  W.lcmp hx hb hd (lv_if_eq hx hb hd2 ht (fun h => kt ((lg_cmp_eq x y).mp h)) (fun h => kf (fun q => h ((lg_cmp_eq x y).mpr q))))
theorem bl_lt (hx : p.tables.exec = Jvm.exec) (hb : c.code = cc) {x y : Int64} {off : Int} {tgt : Nat} (hd : decode cc pc = .ok (.lcmp, 1)) (hd2 : decode cc (pc + 1) = .ok (.ifCond .lt off, 3)) (ht : ((pc + 1 : Nat) : Int) + off = (tgt : Int)) (kt : x < y → W p l e R s m args below meth c H locs cs ss Q (F0 m tgt ls rest)) (kf : ¬ x < y → W p l e R s m args below meth c H locs cs ss Q (F0 m (pc + 1 + 3) ls rest)) : W p l e R s m args below meth c H locs cs ss Q (F0 m pc ls (.long y :: .long x :: rest)) :=
  W.lcmp hx hb hd (lv_if_lt hx hb hd2 ht (fun h => kt ((lg_cmp_lt x y).mp h)) (fun h => kf (fun q => h ((lg_cmp_lt x y).mpr q))))
theorem bl_ge (hx : p.tables.exec = Jvm.exec) (hb : c.code = cc) {x y : Int64} {off : Int} {tgt : Nat} (hd : decode cc pc = .ok (.lcmp, 1)) (hd2 : decode cc (pc + 1) = .ok (.ifCond .ge off, 3)) (ht : ((pc + 1 : Nat) : Int) + off = (tgt : Int)) (kt : y ≤ x → W p l e R s m args below meth c H locs cs ss Q (F0 m tgt ls rest)) (kf : ¬ y ≤ x → W p l e R s m args below meth c H locs cs ss Q (F0 m (pc + 1 + 3) ls rest)) : W p l e R s m args below meth c H locs cs ss Q (F0 m pc ls (.long y :: .long x :: rest)) :=
  W.lcmp hx hb hd (lv_if_ge hx hb hd2 ht (fun h => kt ((lg_cmp_ge x y).mp h)) (fun h => kf (fun q => h ((lg_cmp_ge x y).mpr q))))
theorem bl_gt (hx : p.tables.exec = Jvm.exec) (hb : c.code = cc) {x y : Int64} {off : Int} {tgt : Nat} (hd : decode cc pc = .ok (.lcmp, 1)) (hd2 : decode cc (pc + 1) = .ok (.ifCond .gt off, 3)) (ht : ((pc + 1 : Nat) : Int) + off = (tgt : Int)) (kt : y < x → W p l e R s m args below meth c H locs cs ss Q (F0 m tgt ls rest)) (kf : ¬ y < x → W p l e R s m args below meth c H locs cs ss Q (F0 m (pc + 1 + 3) ls rest)) : W p l e R s m args below meth c H locs cs ss Q (F0 m pc ls (.long y :: .long x :: rest)) :=
  W.lcmp hx hb hd (lv_if_gt hx hb hd2 ht (fun h => kt ((lg_cmp_gt x y).mp h)) (fun h => kf (fun q => h ((lg_cmp_gt x y).mpr q))))
theorem bl_le (hx : p.tables.exec = Jvm.exec) (hb : c.code = cc) {x y : Int64} {off : Int} {tgt : Nat} (hd : decode cc pc = .ok (.lcmp, 1)) (hd2 : decode cc (pc + 1) = .ok (.ifCond .le off, 3)) (ht : ((pc + 1 : Nat) : Int) + off = (tgt : Int)) (kt : x ≤ y → W p l e R s m args below meth c H locs cs ss Q (F0 m tgt ls rest)) (kf : ¬ x ≤ y → W p l e R s m args below meth c H locs cs ss Q (F0 m (pc + 1 + 3) ls rest)) : W p l e R s m args below meth c H locs cs ss Q (F0 m pc ls (.long y :: .long x :: rest)) :=
  W.lcmp hx hb hd (lv_if_le hx hb hd2 ht (fun h => kt ((lg_cmp_le x y).mp h)) (fun h => kf (fun q => h ((lg_cmp_le x y).mpr q))))
theorem bl_ne (hx : p.tables.exec = Jvm.exec) (hb : c.code = cc) {x y : Int64} {off : Int} {tgt : Nat} (hd : decode cc pc = .ok (.lcmp, 1)) (hd2 : decode cc (pc + 1) = .ok (.ifCond .ne off, 3)) (ht : ((pc + 1 : Nat) : Int) + off = (tgt : Int)) (kt : ¬ x = y → W p l e R s m args below meth c H locs cs ss Q (F0 m tgt ls rest)) (kf : x = y → W p l e R s m args below meth c H locs cs ss Q (F0 m (pc + 1 + 3) ls rest)) : W p l e R s m args below meth c H locs cs ss Q (F0 m pc ls (.long y :: .long x :: rest)) :=
  W.lcmp hx hb hd (lv_if_ne hx hb hd2 ht (fun h => kt (fun q => h ((lg_cmp_eq x y).mpr q))) (fun h => kf ((lg_cmp_eq x y).mp h)))
end Ops
