/-! A DRAFT -/
theorem nI64 {n : Nat} (h : n < 2 ^ 31) : ((nI n).toInt64).toInt = n := by rw [Int32.toInt_toInt64, nI_toInt h]
theorem neg64 {b : Nat} (h : b < 300) : ((-1 - nI b).toInt64).toInt = -1 - b ∧ (-1 - nI b).toInt = -1 - b := by
  have e : (-1 - nI b).toInt = -1 - b := by
    rw [Int32.toInt_sub, nI_toInt (by omega), show (-1 : Int32).toInt = -1 by decide, Int.bmod_def]
    split <;> omega
  exact ⟨by rw [Int32.toInt_toInt64, e], e⟩
theorem dU_es (u : TS) (d i k : Nat) (x : Int32) (o : Nat) (y : Int32) : ES u (dU1 u d i) ∧ ES u (dU2 u d i k x) ∧ ES u (dU3 u d i k x o y) := by
  have h1 : ES u (dU1 u d i) := ⟨fun k q => (upne (by omega)).trans ((upne (by omega)).trans (upne (by omega))), fun _ _ => rfl, rfl, rfl, fun _ _ => rfl⟩
  have h2 : ∀ (v : TS) a b c, ES v (fRow 0 v a b c) := fun v a b c => ⟨fun k q => upne (by omega), fun k q => upne q.1, rfl, rfl, fun k q => (upne (by omega)).trans (upne (by omega))⟩
  exact ⟨h1, h1.trans (h2 _ _ _ _), (h1.trans (h2 _ _ _ _)).trans (h2 _ _ _ _)⟩
theorem d3_a0 (u : TS) (d i k : Nat) (x : Int32) (o : Nat) (y : Int32) : L0_amount (dU3 u d i k x o y) 0 = x.toInt64 := rfl
theorem d3_a1 (u : TS) (d i k : Nat) (x : Int32) (o : Nat) (y : Int32) : L0_amount (dU3 u d i k x o y) 1 = y.toInt64 := rfl
theorem d3_w0 (u : TS) (d i k : Nat) (x : Int32) (o : Nat) (y : Int32) : L0_worth (dU3 u d i k x o y) 0 = fWorth (dU1 u d i) k x.toInt64 := rfl
theorem d3_w1 (u : TS) (d i k : Nat) (x : Int32) (o : Nat) (y : Int32) : L0_worth (dU3 u d i k x o y) 1 = fWorth (dU2 u d i k x) o y.toInt64 := rfl
theorem d3_c (u : TS) (d i k : Nat) (x : Int32) (o : Nat) (y : Int32) : L0_count (dU3 u d i k x o y) = 2 := rfl
theorem L_draft2 {n i : Nat} {u : TS} (h : INV n i u) {d k o a b : Nat} (hk : k < n) (ho : o < n) (ha : a < 300) (hb : b < 300) : L0_count (dU3 u d i k (nI (1 + a)) o (-1 - nI b)) = 2 ∧ ∀ j, j < L0_count (dU3 u d i k (nI (1 + a)) o (-1 - nI b)) → (L0_amount (dU3 u d i k (nI (1 + a)) o (-1 - nI b)) j).toInt.natAbs ≤ 300 ∧ (L0_worth (dU3 u d i k (nI (1 + a)) o (-1 - nI b)) j).toInt.natAbs ≤ 1501 := by
  have n1 := nI64 (n := 1 + a) (by omega)
  have n2 := (neg64 hb).1
  generalize nI (1 + a) = p at *
  generalize -1 - nI b = q at *
  have g := dU_es u d i k p o q
  rw [d3_c]
  refine ⟨rfl, fun j hj => ?_⟩
  rcases (show j = 0 ∨ j = 1 by omega) with rfl | rfl
  · rw [d3_a0, d3_w0, g.1.qWorth]
    have := worth_le (h.rate hk) (x := p.toInt64) (by omega)
    omega
  · rw [d3_a1, d3_w1, g.2.1.qWorth]
    have := worth_le (h.rate ho) (x := q.toInt64) (by omega)
    omega
