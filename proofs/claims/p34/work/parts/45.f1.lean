/-! WORTHS -/
theorem bm {x : Int} (h1 : -2 ^ 63 ≤ x) (h2 : x < 2 ^ 63) : x.bmod (2 ^ 64) = x := by
  rw [Int.bmod_def]; split <;> omega
theorem i64_neg {x : Int64} (h : x.toInt.natAbs < 2 ^ 62) : (-x).toInt = -x.toInt := by
  rw [Int64.toInt_neg]; exact bm (by omega) (by omega)
theorem i64_add {x y : Int64} (h : x.toInt.natAbs + y.toInt.natAbs < 2 ^ 62) : (x + y).toInt = x.toInt + y.toInt := by
  rw [Int64.toInt_add]; exact bm (by omega) (by omega)
theorem worth_int {u : TS} {k : Nat} {x : Int64} (hr : 1 ≤ (AC_rates u (AC_currency u k)).toInt ∧ (AC_rates u (AC_currency u k)).toInt ≤ 5000) (hx : x.toInt.natAbs ≤ 2 ^ 49) :
    (fWorth u k x).toInt = (x.toInt * (AC_rates u (AC_currency u k)).toInt + (if x.toInt * (AC_rates u (AC_currency u k)).toInt < 0 then -500 else 500)).tdiv 1000 ∧ (x.toInt * (AC_rates u (AC_currency u k)).toInt).natAbs ≤ x.toInt.natAbs * 5000 := by
  unfold fWorth
  generalize AC_rates u (AC_currency u k) = r at *
  have e1 : (r.toInt64).toInt = r.toInt := Int32.toInt_toInt64 r
  have hp : (x.toInt * r.toInt).natAbs ≤ x.toInt.natAbs * 5000 := by
    rw [Int.natAbs_mul]
    exact Nat.mul_le_mul_left _ (by omega)
  refine ⟨?_, hp⟩
  have hp2 : (x.toInt * r.toInt).natAbs ≤ 2 ^ 49 * 5000 := Nat.le_trans hp (Nat.mul_le_mul_right _ hx)
  have e2 : (x * r.toInt64).toInt = x.toInt * r.toInt := by
    rw [Int64.toInt_mul, e1]
    exact bm (by omega) (by omega)
  generalize x * r.toInt64 = y at *
  have e3 : (y < 0) ↔ (x.toInt * r.toInt < 0) := by rw [Int64.lt_iff_toInt_lt, e2]; rfl
  have e4 : (y + (if y < 0 then -500 else 500)).toInt = x.toInt * r.toInt + (if x.toInt * r.toInt < 0 then -500 else 500) := by
    by_cases q : y < 0
    · rw [if_pos q, if_pos (e3.mp q), Int64.toInt_add, e2, show ((-500 : Int64)).toInt = -500 by decide]
      exact bm (by omega) (by omega)
    · rw [if_neg q, if_neg (fun z => q (e3.mpr z)), Int64.toInt_add, e2, show ((500 : Int64)).toInt = 500 by decide]
      exact bm (by omega) (by omega)
  rw [Int64.toInt_div, e4, show ((1000 : Int64)).toInt = 1000 by decide]
  have h5 : ((x.toInt * r.toInt + (if x.toInt * r.toInt < 0 then -500 else 500)).tdiv 1000).natAbs ≤ (x.toInt * r.toInt + (if x.toInt * r.toInt < 0 then -500 else 500)).natAbs := by
    rw [Int.natAbs_tdiv]
    exact Nat.div_le_self _ _
  have h6 : (x.toInt * r.toInt + (if x.toInt * r.toInt < 0 then -500 else 500)).natAbs ≤ 2 ^ 49 * 5000 + 500 := by
    split <;> omega
  exact bm (by omega) (by omega)
theorem tdiv_k (P : Int) : (P.tdiv 1000).natAbs = P.natAbs / 1000 := by rw [Int.natAbs_tdiv]; rfl
theorem worth_le {u : TS} {k : Nat} {x : Int64} (hr : 1 ≤ (AC_rates u (AC_currency u k)).toInt ∧ (AC_rates u (AC_currency u k)).toInt ≤ 5000) (hx : x.toInt.natAbs ≤ 2 ^ 49) : (fWorth u k x).toInt.natAbs ≤ x.toInt.natAbs * 5 + 1 := by
  obtain ⟨e, h⟩ := worth_int hr hx
  rw [e, tdiv_k]
  generalize x.toInt * (AC_rates u (AC_currency u k)).toInt = P at *
  have h6 : (P + (if P < 0 then -500 else 500)).natAbs ≤ x.toInt.natAbs * 5000 + 500 := by split <;> omega
  generalize (P + (if P < 0 then -500 else 500)).natAbs = Q at *
  have h7 : Q / 1000 ≤ (x.toInt.natAbs * 5000 + 500) / 1000 := Nat.div_le_div_right h6
  omega
theorem worth_neg {u : TS} {k : Nat} {x : Int64} (hr : 1 ≤ (AC_rates u (AC_currency u k)).toInt ∧ (AC_rates u (AC_currency u k)).toInt ≤ 5000) (hx : x.toInt.natAbs ≤ 2 ^ 49) (hn : x.toInt < 0) : (fWorth u k x).toInt ≤ 0 := by
  obtain ⟨e, h⟩ := worth_int hr hx
  rw [e]
  have hp : x.toInt * (AC_rates u (AC_currency u k)).toInt < 0 := Int.mul_neg_of_neg_of_pos hn (by omega)
  generalize x.toInt * (AC_rates u (AC_currency u k)).toInt = P at *
  rw [if_pos hp]
  have e2 : (P + -500).tdiv 1000 = -((-(P + -500)).tdiv 1000) := by rw [Int.neg_tdiv, Int.neg_neg]
  rw [e2, Int.tdiv_eq_ediv_of_nonneg (by omega)]
  omega
theorem worth_base {u : TS} (h0 : AC_currency u 0 = 0) (hr : AC_rates u 0 = nI 1000) {x : Int64} (hx : x.toInt.natAbs ≤ 2 ^ 49) : fWorth u 0 x = x := by
  have e1 : (AC_rates u (AC_currency u 0)).toInt = 1000 := by rw [h0, hr]; decide
  obtain ⟨e, -⟩ := worth_int (u := u) (k := 0) (x := x) (by rw [e1]; omega) hx
  apply Int64.toInt_inj.mp
  rw [e, e1]
  by_cases q : x.toInt * 1000 < 0
  · rw [if_pos q]
    have e2 : (x.toInt * 1000 + -500).tdiv 1000 = -((-(x.toInt * 1000 + -500)).tdiv 1000) := by rw [Int.neg_tdiv, Int.neg_neg]
    rw [e2, Int.tdiv_eq_ediv_of_nonneg (by omega)]
    omega
  · rw [if_neg q, Int.tdiv_eq_ediv_of_nonneg (by omega)]
    omega
theorem fSum_le {f : Nat → Int64} {B : Nat} : ∀ m, (∀ j, j < m → (f j).toInt.natAbs ≤ B) → m * B < 2 ^ 61 → (fSum f m).toInt.natAbs ≤ m * B
  | 0, _, _ => by rw [show fSum f 0 = 0 from rfl]; exact Nat.zero_le _
  | m + 1, h, hb => by
    have e1 : (m + 1) * B = m * B + B := by rw [Nat.succ_mul]
    have ih := fSum_le m (fun j hj => h j (by omega)) (by omega)
    have h1 := h m (by omega)
    show (fSum f m + f m).toInt.natAbs ≤ _
    rw [i64_add (by omega)]
    omega
theorem INV.rate {n i : Nat} {u : TS} (h : INV n i u) {k : Nat} (hk : k < n) : 1 ≤ (AC_rates u (AC_currency u k)).toInt ∧ (AC_rates u (AC_currency u k)).toInt ≤ 5000 :=
  h.2.2.2.2.2.2.1.1 _ (h.1.acc (by have := h.2.1.1; omega)).2
