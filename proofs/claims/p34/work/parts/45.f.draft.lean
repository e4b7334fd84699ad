/-! WORTHS -/
theorem bm {x : Int} (h1 : -2 ^ 63 ≤ x) (h2 : x < 2 ^ 63) : x.bmod (2 ^ 64) = x := by
  rw [Int.bmod_def]; split <;> omega
theorem i64_neg {x : Int64} (h : x.toInt.natAbs < 2 ^ 62) : (-x).toInt = -x.toInt := by
  rw [Int64.toInt_neg]; exact bm (by omega) (by omega)
theorem i64_add {x y : Int64} (h : x.toInt.natAbs + y.toInt.natAbs < 2 ^ 62) : (x + y).toInt = x.toInt + y.toInt := by
  rw [Int64.toInt_add]; exact bm (by omega) (by omega)
theorem worth_int {u : TS} {k : Nat} {x : Int64} (hr : 1 ≤ (AC_rates u (AC_currency u k)).toInt ∧ (AC_rates u (AC_currency u k)).toInt ≤ 5000) (hx : x.toInt.natAbs ≤ 2 ^ 49) :
    (fWorth u k x).toInt = (x.toInt * (AC_rates u (AC_currency u k)).toInt + (if x.toInt * (AC_rates u (AC_currency u k)).toInt < 0 then -500 else 500)).tdiv 1000 ∧ (x.toInt * (AC_rates u (AC_currency u k)).toInt).natAbs ≤ x.toInt.natAbs * 5000 := by
  unfold fWorth
  generalize AC_rates u (AC_currency u k) = r at *
  have e1 : (r.toInt64).toInt = r.toInt := Int32.toInt_toInt64 r
  have hp : (x.toInt * r.toInt).natAbs ≤ x.toInt.natAbs * 5000 := by
    rw [Int.natAbs_mul]
    exact Nat.mul_le_mul_left _ (by omega)
  refine ⟨?_, hp⟩
  have hp2 : (x.toInt * r.toInt).natAbs ≤ 2 ^ 49 * 5000 := Nat.le_trans hp (Nat.mul_le_mul_right _ hx)
  have e2 : (x * r.toInt64).toInt = x.toInt * r.toInt := by
    rw [Int64.toInt_mul, e1]
    exact bm (by omega) (by omega)
  generalize x * r.toInt64 = y at *
  have e3 : (y < 0) ↔ (x.toInt * r.toInt < 0) := by rw [Int64.lt_iff_toInt_lt, e2]; rfl
  have e4 : (y + (if y < 0 then -500 else 500)).toInt = x.toInt * r.toInt + (if x.toInt * r.toInt < 0 then -500 else 500) := by
    by_cases q : y < 0
    · rw [if_pos q, if_pos (e3.mp q), Int64.toInt_add, e2, show ((-500 : Int64)).toInt = -500 by decide]
      exact bm (by omega) (by omega)
    · rw [if_neg q, if_neg (fun z => q (e3.mpr z)), Int64.toInt_add, e2, show ((500 : Int64)).toInt = 500 by decide]
      exact bm (by omega) (by omega)
  rw [Int64.toInt_div, e4, show ((1000 : Int64)).toInt = 1000 by decide]
  have h5 : ((x.toInt * r.toInt + (if x.toInt * r.toInt < 0 then -500 else 500)).tdiv 1000).natAbs ≤ (x.toInt * r.toInt + (if x.toInt * r.toInt < 0 then -500 else 500)).natAbs := by
    rw [Int.natAbs_tdiv]
    exact Nat.div_le_self _ _
  have h6 : (x.toInt * r.toInt + (if x.toInt * r.toInt < 0 then -500 else 500)).natAbs ≤ 2 ^ 49 * 5000 + 500 := by
    split <;> omega
  exact bm (by omega) (by omega)
theorem worth_le {u : TS} {k : Nat} {x : Int64} (hr : 1 ≤ (AC_rates u (AC_currency u k)).toInt ∧ (AC_rates u (AC_currency u k)).toInt ≤ 5000) (hx : x.toInt.natAbs ≤ 2 ^ 49) : (fWorth u k x).toInt.natAbs ≤ x.toInt.natAbs * 5 + 1 := by
  obtain ⟨e, h⟩ := worth_int hr hx
  rw [e, Int.natAbs_tdiv]
  generalize x.toInt * (AC_rates u (AC_currency u k)).toInt = P at *
  have h6 : (P + (if P < 0 then -500 else 500)).natAbs ≤ x.toInt.natAbs * 5000 + 500 := by split <;> omega
  have : (1000 : Int).natAbs = 1000 := rfl
  rw [this]
  omega
theorem worth_neg {u : TS} {k : Nat} {x : Int64} (hr : 1 ≤ (AC_rates u (AC_currency u k)).toInt ∧ (AC_rates u (AC_currency u k)).toInt ≤ 5000) (hx : x.toInt.natAbs ≤ 2 ^ 49) (hn : x.toInt < 0) : (fWorth u k x).toInt ≤ 0 := by
  obtain ⟨e, h⟩ := worth_int hr hx
  rw [e]
  have hp : x.toInt * (AC_rates u (AC_currency u k)).toInt < 0 := Int.mul_neg_of_neg_of_pos hn (by omega)
  generalize x.toInt * (AC_rates u (AC_currency u k)).toInt = P at *
  rw [if_pos hp]
  have e2 : (P + -500).tdiv 1000 = -((-(P + -500)).tdiv 1000) := by rw [Int.neg_tdiv, Int.neg_neg]
  rw [e2, Int.tdiv_eq_ediv_of_nonneg (by omega)]
  omega
theorem worth_base {u : TS} (h0 : AC_currency u 0 = 0) (hr : AC_rates u 0 = nI 1000) {x : Int64} (hx : x.toInt.natAbs ≤ 2 ^ 49) : fWorth u 0 x = x := by
  have e1 : (AC_rates u (AC_currency u 0)).toInt = 1000 := by rw [h0, hr]; decide
  obtain ⟨e, -⟩ := worth_int (u := u) (k := 0) (x := x) (by rw [e1]; omega) hx
  apply Int64.toInt_inj.mp
  rw [e, e1]
  by_cases q : x.toInt * 1000 < 0
  · rw [if_pos q]
    have e2 : (x.toInt * 1000 + -500).tdiv 1000 = -((-(x.toInt * 1000 + -500)).tdiv 1000) := by rw [Int.neg_tdiv, Int.neg_neg]
    rw [e2, Int.tdiv_eq_ediv_of_nonneg (by omega)]
    omega
  · rw [if_neg q, Int.tdiv_eq_ediv_of_nonneg (by omega)]
    omega
theorem fSum_le {f : Nat → Int64} {B : Nat} : ∀ m, (∀ j, j < m → (f j).toInt.natAbs ≤ B) → m * B < 2 ^ 61 → (fSum f m).toInt.natAbs ≤ m * B
  | 0, _, _ => by rw [show fSum f 0 = 0 from rfl]; exact Nat.zero_le _
  | m + 1, h, hb => by
    have e1 : (m + 1) * B = m * B + B := by rw [Nat.succ_mul]
    have ih := fSum_le m (fun j hj => h j (by omega)) (by omega)
    have h1 := h m (by omega)
    show (fSum f m + f m).toInt.natAbs ≤ _
    rw [i64_add (by omega)]
    omega
theorem INV.rate {n i : Nat} {u : TS} (h : INV n i u) {k : Nat} (hk : k < n) : 1 ≤ (AC_rates u (AC_currency u k)).toInt ∧ (AC_rates u (AC_currency u k)).toInt ≤ 5000 :=
  h.2.2.2.2.2.2.1.1 _ (h.1.acc (by have := h.2.1.1; omega)).2
/-! A DRAFT -/
theorem nI64 {n : Nat} (h : n < 2 ^ 31) : ((nI n).toInt64).toInt = n := by rw [Int32.toInt_toInt64, nI_toInt h]
theorem neg64 {b : Nat} (h : b < 300) : ((-1 - nI b).toInt64).toInt = -1 - b ∧ (-1 - nI b).toInt = -1 - b := by
  have e : (-1 - nI b).toInt = -1 - b := by
    rw [Int32.toInt_sub, nI_toInt (by omega), show (-1 : Int32).toInt = -1 by decide, Int.bmod_def]
    split <;> omega
  exact ⟨by rw [Int32.toInt_toInt64, e], e⟩
theorem dU_es (u : TS) (d i k : Nat) (x : Int32) (o : Nat) (y : Int32) : ES u (dU1 u d i) ∧ ES u (dU2 u d i k x) ∧ ES u (dU3 u d i k x o y) := by
  have h1 : ES u (dU1 u d i) := ⟨fun k q => (upne (by omega)).trans ((upne (by omega)).trans (upne (by omega))), fun _ _ => rfl, rfl, rfl, fun _ _ => rfl⟩
  have h2 : ∀ (v : TS) a b c, ES v (fRow 0 v a b c) := fun v a b c => ⟨fun k q => upne (by omega), fun k q => upne q.1, rfl, rfl, fun k q => (upne (by omega)).trans (upne (by omega))⟩
  exact ⟨h1, h1.trans (h2 _ _ _ _), (h1.trans (h2 _ _ _ _)).trans (h2 _ _ _ _)⟩
theorem L_draft2 {n i : Nat} {u : TS} (h : INV n i u) {d k o a b : Nat} (hk : k < n) (ho : o < n) (ha : a < 300) (hb : b < 300) : L0_count (dU3 u d i k (nI (1 + a)) o (-1 - nI b)) = 2 ∧ ∀ j, j < L0_count (dU3 u d i k (nI (1 + a)) o (-1 - nI b)) → (L0_amount (dU3 u d i k (nI (1 + a)) o (-1 - nI b)) j).toInt.natAbs ≤ 300 ∧ (L0_worth (dU3 u d i k (nI (1 + a)) o (-1 - nI b)) j).toInt.natAbs ≤ 1501 := by
  refine ⟨rfl, fun j hj => ?_⟩
  have hj : j < 2 := hj
  have g := dU_es u d i k (nI (1 + a)) o (-1 - nI b)
  have n1 := nI64 (n := 1 + a) (by omega)
  have n2 := (neg64 hb).1
  rcases (show j = 0 ∨ j = 1 by omega) with rfl | rfl
  · show ((nI (1 + a)).toInt64).toInt.natAbs ≤ 300 ∧ (fWorth (dU1 u d i) k (nI (1 + a)).toInt64).toInt.natAbs ≤ 1501
    rw [g.1.qWorth]
    have := worth_le (h.rate hk) (x := (nI (1 + a)).toInt64) (by omega)
    omega
  · show ((-1 - nI b).toInt64).toInt.natAbs ≤ 300 ∧ (fWorth (dU2 u d i k (nI (1 + a))) o (-1 - nI b).toInt64).toInt.natAbs ≤ 1501
    rw [g.2.1.qWorth]
    have := worth_le (h.rate ho) (x := (-1 - nI b).toInt64) (by omega)
    omega
theorem EQP.tc {u v : TS} (h : EQP u v) : ∀ r, fTC v r = fTC u r
  | 0 => rfl
  | r + 1 => by
    have e1 : L0_count v = L0_count u := h.n.2.2.2.2.1
    have e2 : ∀ j, L0_account v j = L0_account u j := fun j => congrFun (h.2.2.2.1 2 (by decide)) j
    have e3 := h.es.cur
    unfold fTC
    rw [EQP.tc h r, e1, e2, e2, e3, e3]
theorem EQP.why {u v : TS} (h : EQP u v) : fWhy v = fWhy u := by
  have e1 : L0_count v = L0_count u := h.n.2.2.2.2.1
  have e2 : DR_isThere v = DR_isThere u := congrFun h.2.1 0
  have e3 : DR_day v = DR_day u := h.n.2.2.2.2.2.2.2.1
  have e4 : L0_worth v = L0_worth u := h.2.2.2.2.2.2.2 1 (by decide)
  have e5 : T_exchangeAccount v = T_exchangeAccount u := congrFun h.2.2.1 0
  have e6 : fCanEx v = fCanEx u := by unfold fCanEx; rw [e5, e1, h.tc, e4]
  unfold fWhy
  rw [e1, e2, e3, e4, e6, h.es.qLock, h.es.jn]
theorem L_draft {n i : Nat} {u : TS} (h : INV n i u) (hi : i < 30) {d k o a b : Nat} (hd : d < 25) (hk : k < n) (ho : o < n) (ha : a < 300) (hb : b < 300) :
    (OK (dU1 u d i) ∧ AC_count (dU1 u d i) = n ∧ DR_isThere (dU1 u d i) = true ∧ L0_count (dU1 u d i) = 0) ∧ (OK (dU2 u d i k (nI (1 + a))) ∧ AC_count (dU2 u d i k (nI (1 + a))) = n ∧ DR_isThere (dU2 u d i k (nI (1 + a))) = true ∧ L0_count (dU2 u d i k (nI (1 + a))) = 1) ∧
    (¬ nI (1 + a) = 0 ∧ ¬ nI (1 + a) < -1000000 ∧ nI (1 + a) ≤ nI 1000000) ∧ (¬ (-1 - nI b) = 0 ∧ ¬ (-1 - nI b) < -1000000 ∧ -1 - nI b ≤ nI 1000000) ∧
    fSum (L0_worth (dU3 u d i k (nI (1 + a)) o (-1 - nI b))) (L0_count (dU3 u d i k (nI (1 + a)) o (-1 - nI b))) ≤ fSum (L0_worth (dU2 u d i k (nI (1 + a)))) (L0_count (dU2 u d i k (nI (1 + a)))) ∧
    OK (dU3 u d i k (nI (1 + a)) o (-1 - nI b)) ∧ INV n i (fWhyU (dU3 u d i k (nI (1 + a)) o (-1 - nI b))) ∧ fWhy (fWhyU (dU3 u d i k (nI (1 + a)) o (-1 - nI b))) = fWhy (dU3 u d i k (nI (1 + a)) o (-1 - nI b)) := by
  have o1 := h.1
  have hn := o1.n
  have hc := h.2.1
  have ok1 : OK (dU1 u d i) := ⟨⟨hn.1, hn.2.1, hn.2.2.1, hn.2.2.2.1, Nat.zero_le _, hn.2.2.2.2.2.1, hn.2.2.2.2.2.2.1, hn.2.2.2.2.2.2.2.1, show d ≤ 364 by omega, show i ≤ 999 by omega⟩, o1.2.1, o1.2.2.1, o1.2.2.2.1, fun j hj => absurd hj (Nat.not_lt_zero _), o1.2.2.2.2.2⟩
  have okr : ∀ (v : TS) (ac : Nat) (x w : Int64), OK v → L0_count v ≤ 5 → ac < AC_count v → OK (fRow 0 v ac x w) := by
    intro v ac x w ov hl hac
    have hv := ov.n
    refine ⟨⟨hv.1, hv.2.1, hv.2.2.1, hv.2.2.2.1, show L0_count v + 1 ≤ 6 by omega, hv.2.2.2.2.2⟩, ov.2.1, ov.2.2.1, ov.2.2.2.1, fun j hj => ?_, ov.2.2.2.2.2⟩
    have hj : j < L0_count v + 1 := hj
    show va_up (L0_account v) (L0_count v) ac j < AC_count v
    unfold va_up
    split
    · exact hac
    · exact ov.dr (by omega)
  have ok2 : OK (dU2 u d i k (nI (1 + a))) := okr _ _ _ _ ok1 (by show 0 ≤ 5; omega) (by show k < AC_count u; omega)
  have ok3 : OK (dU3 u d i k (nI (1 + a)) o (-1 - nI b)) := okr _ _ _ _ ok2 (by show 1 ≤ 5; omega) (by show o < AC_count u; omega)
  have g := (dU_es u d i k (nI (1 + a)) o (-1 - nI b)).2.2
  have n2 := neg64 hb
  have n1 : (nI (1 + a)).toInt = 1 + a := by rw [nI_toInt (by omega)]; omega
  have dd := (L_draft2 h hk ho ha hb (d := d)).2
  have d0 := (dd 0 (by show 0 < 2; omega)).2
  have d1 := (dd 1 (by show 1 < 2; omega)).2
  refine ⟨⟨ok1, hc.1, rfl, rfl⟩, ⟨ok2, hc.1, rfl, rfl⟩, ⟨?_, ?_, ?_⟩, ⟨?_, ?_, ?_⟩, ?_, ok3, ?_, ?_⟩
  · intro q
    have := congrArg Int32.toInt q
    rw [n1, show (0 : Int32).toInt = 0 by decide] at this
    omega
  · intro q
    rw [Int32.lt_iff_toInt_lt, n1, show (-1000000 : Int32).toInt = -1000000 by decide] at q
    omega
  · rw [Int32.le_iff_toInt_le, n1, nI_toInt (by decide)]
    omega
  · intro q
    have := congrArg Int32.toInt q
    rw [n2.2, show (0 : Int32).toInt = 0 by decide] at this
    omega
  · intro q
    rw [Int32.lt_iff_toInt_lt, n2.2, show (-1000000 : Int32).toInt = -1000000 by decide] at q
    omega
  · rw [Int32.le_iff_toInt_le, n2.2, nI_toInt (by decide)]
    omega
  · have e0 : L0_worth (dU3 u d i k (nI (1 + a)) o (-1 - nI b)) 0 = L0_worth (dU2 u d i k (nI (1 + a))) 0 := rfl
    have e1 : L0_worth (dU3 u d i k (nI (1 + a)) o (-1 - nI b)) 1 = fWorth (dU2 u d i k (nI (1 + a))) o (-1 - nI b).toInt64 := rfl
    show 0 + L0_worth (dU3 u d i k (nI (1 + a)) o (-1 - nI b)) 0 + L0_worth (dU3 u d i k (nI (1 + a)) o (-1 - nI b)) 1 ≤ 0 + L0_worth (dU2 u d i k (nI (1 + a))) 0
    have e2 : (L0_worth (dU3 u d i k (nI (1 + a)) o (-1 - nI b)) 1).toInt ≤ 0 := by
      rw [e1, (dU_es u d i k (nI (1 + a)) o (-1 - nI b)).2.1.qWorth]
      exact worth_neg (h.rate ho) (by omega) (by omega)
    rw [← e0]
    generalize L0_worth (dU3 u d i k (nI (1 + a)) o (-1 - nI b)) 0 = A at *
    generalize L0_worth (dU3 u d i k (nI (1 + a)) o (-1 - nI b)) 1 = B at *
    rw [show (0 : Int64) + A = A by grind, Int64.le_iff_toInt_le, i64_add (by omega)]
    omega
  · have hw := fWhyU_c ok3
    have i3 : INV n i (dU3 u d i k (nI (1 + a)) o (-1 - nI b)) := h.core g ok3 hc.2.2.2.1 h.2.2.1 h.2.2.2.2.2.2.2.2.2.2.1 h.2.2.2.2.2.2.2.2.2.2.2.1 h.2.2.2.2.2.2.2.2.2.2.2.2
    exact i3.plan hw.1 hw.2
  · exact (fWhyU_c ok3).1.why
/-! POSTING -/
theorem fPD_rows (u : TS) : ∀ i, L1_count (fPD u i) = i ∧ (∀ j, j < i → L1_account (fPD u i) j = L0_account u j ∧ L1_amount (fPD u i) j = L0_amount u j ∧ L1_worth (fPD u i) j = L0_worth u j) ∧ L0_account (fPD u i) = L0_account u ∧ L0_amount (fPD u i) = L0_amount u ∧ L0_worth (fPD u i) = L0_worth u ∧ L0_count (fPD u i) = L0_count u
  | 0 => ⟨rfl, fun j hj => absurd hj (Nat.not_lt_zero _), rfl, rfl, rfl, rfl⟩
  | i + 1 => by
    obtain ⟨a1, a2, a3, a4, a5, a6⟩ := fPD_rows u i
    have e1 : L0_account (fPD u i) i = L0_account u i := congrFun a3 i
    have e2 : L0_amount (fPD u i) i = L0_amount u i := congrFun a4 i
    have e3 : L0_worth (fPD u i) i = L0_worth u i := congrFun a5 i
    unfold fPD
    rw [e1, e2, e3]
    generalize fPD u i = z at *
    refine ⟨by show L1_count z + 1 = i + 1; omega, fun j hj => ?_, a3, a4, a5, a6⟩
    show va_up (L1_account z) (L1_count z) _ j = _ ∧ va_up (L1_amount z) (L1_count z) _ j = _ ∧ va_up (L1_worth z) (L1_count z) _ j = _
    rw [a1]
    by_cases q : j = i
    · subst q
      rw [upeq, upeq, upeq]
      exact ⟨rfl, rfl, rfl⟩
    · rw [upne q, upne q, upne q]
      exact a2 j (by omega)
theorem fRowAbs_le {w : TS} {k B : Nat} : ∀ m, (∀ r, r < m → L1_account w r = k → (L1_amount w r).toInt.natAbs ≤ B) → fRowAbs w k m ≤ m * B
  | 0, _ => Nat.zero_le _
  | m + 1, h => by
    have ih := fRowAbs_le m (fun r hr => h r (by omega))
    have h1 := h m (by omega)
    rw [Nat.succ_mul]
    unfold fRowAbs
    split
    · rename_i q
      have := h1 q
      omega
    · omega
theorem L_post {n i : Nat} {u : TS} (h : INV n i (fWhyU u)) (hi : i < 30) (ho : OK u) (hL : ∀ j, j < L0_count u → (L0_amount u j).toInt.natAbs ≤ 300 ∧ (L0_worth u j).toInt.natAbs ≤ 1501) (h2 : L0_count u = 2) (hw : fWhy (fWhyU u) = 0) :
    OK (fPost (fWhyU u)) ∧ J_count (fPost (fWhyU u)) = J_count (fWhyU u) + 1 ∧ fSum (fun g => fOfL (fPost (fWhyU u)) (J_count (fWhyU u)) g 2) (J_legsOf (fPost (fWhyU u)) (J_count (fWhyU u))) = 0 ∧ fWhy (fPost (fWhyU u)) = 1 ∧ fWhyU (fPost (fWhyU u)) = fPost (fWhyU u) ∧ INV n (i + 1) (fPost (fWhyU u)) := by
  have q1 := (fWhyU_c ho).1
  have q2 := (fWhyU_c h.1).1
  have l1 : L0_count (fWhyU (fWhyU u)) = 2 := (q1.trans q2).n.2.2.2.2.1.trans h2
  have l2 : L0_amount (fWhyU (fWhyU u)) = L0_amount u := (q1.trans q2).2.2.2.2.2.2.2 0 (by decide)
  have l3 : L0_worth (fWhyU (fWhyU u)) = L0_worth u := (q1.trans q2).2.2.2.2.2.2.2 1 (by decide)
  have ok2 := (fWhyU_c h.1).2
  have iw := h.plan q2 ok2
  generalize fWhyU u = w at *
  unfold fPost
  generalize fWhyU w = z at *
  have pc := fPlanD_c ok2
  have ip := iw.plan pc.1 pc.2.2.2
  have ex : T_exchangeAccount (fPD z (L0_count z)) = some 0 := (congrFun (fPD_c ok2 _ (Nat.le_refl _)).1.2.2.1 0).trans iw.2.2.1
  obtain ⟨r1, r2, r3, r4, r5, r6⟩ := fPD_rows z (L0_count z)
  have hS : (fSum (L0_worth z) (L0_count z)).toInt.natAbs ≤ 2 * 1501 := by
    rw [l1]
    exact fSum_le 2 (fun j hj => by rw [l3]; exact (hL j (by omega)).2) (by decide)
  have hs1 : fSum (L1_worth (fPD z (L0_count z))) (L0_count z) = fSum (L0_worth z) (L0_count z) := fSum_congr (fun j hj => (r2 j hj).2.2)
  have es := (fPD_c ok2 _ (Nat.le_refl _)).1.es
  have hz : fSum (L1_worth (fPlanD z)) (L1_count (fPlanD z)) = 0 ∧ ∀ k, k < n → fClosed (fPlanD z) k = true → fRowAbs (fPlanD z) k (L1_count (fPlanD z)) ≤ 600 * 2 ^ i := by
    have h600 : 600 ≤ 600 * 2 ^ i := Nat.le_mul_of_pos_right _ (Nat.pow_pos (by decide))
    have hcl0 : fClosed (fPlanD z) 0 = false := by
      rw [pc.1.es.closed]
      unfold fClosed
      rw [iw.2.2.2.1]
      decide
    revert hcl0
    unfold fPlanD
    rw [ex]
    dsimp only
    rw [r5, r6]
    by_cases q : fSum (L0_worth z) (L0_count z) = 0
    · rw [if_pos q, r1, hs1]
      intro _
      refine ⟨q, fun k hk hc => Nat.le_trans ?_ h600⟩
      have := fRowAbs_le (w := fPD z (L0_count z)) (k := k) (B := 300) (L0_count z) (fun r hr _ => by
        rw [(r2 r hr).2.1, l2]
        exact (hL r (by omega)).1)
      omega
    · rw [if_neg q]
      intro hcl0
      generalize hx : fPD z (L0_count z) = y at *
      have hneg : (-fSum (L0_worth z) (L0_count z)).toInt.natAbs ≤ 3002 := by rw [i64_neg (by omega)]; omega
      have hwb : fWorth y 0 (-fSum (L0_worth z) (L0_count z)) = -fSum (L0_worth z) (L0_count z) := by
        rw [es.qWorth]
        exact worth_base iw.2.2.2.2.1 iw.2.2.2.2.2.2.1.2.1 (by omega)
      refine ⟨?_, fun k hk hc => Nat.le_trans ?_ h600⟩
      · show fSum (va_up (L1_worth y) (L1_count y) (fWorth y 0 (-fSum (L0_worth z) (L0_count z)))) (L1_count y) + va_up (L1_worth y) (L1_count y) (fWorth y 0 (-fSum (L0_worth z) (L0_count z))) (L1_count y) = 0
        rw [upeq, hwb, fSum_congr (g := L1_worth y) (fun j hj => upne (by omega)), r1, hs1]
        grind
      · have hk0 : k ≠ 0 := by rintro rfl; rw [hcl0] at hc; cases hc
        show fRowAbs (fPLeg y 0 (-fSum (L0_worth z) (L0_count z))) k (L1_count y + 1) ≤ 600
        unfold fRowAbs
        rw [if_neg (by show ¬ va_up (L1_account y) (L1_count y) 0 (L1_count y) = k; rw [upeq]; omega)]
        have := fRowAbs_le (w := fPLeg y 0 (-fSum (L0_worth z) (L0_count z))) (k := k) (B := 300) (L1_count y) (fun r hr _ => by
          show (va_up (L1_amount y) (L1_count y) _ r).toInt.natAbs ≤ 300
          rw [upne (by omega), (r2 r (by omega)).2.1, l2]
          exact (hL r (by omega)).1)
        omega
  have pn := pc.1.n
  have on := ok2.n
  have ie := L_enter (d := DR_day (fPlanD z)) (nt := DR_note (fPlanD z)) (cl := false) ip hi (by omega) (by omega) (by omega) hz.1 hz.2
  have jc : J_count (fPlanD z) = J_count w := by rw [pc.1.es.jn, q2.es.jn]
  have f1 := (fEnter_EN (fPlanD z) (DR_day (fPlanD z)) (DR_note (fPlanD z)) false).2.1
  generalize fEnter (fPlanD z) (DR_day (fPlanD z)) (DR_note (fPlanD z)) false = v at *
  have en := ie.1.n
  have okf : OK (fForget v) := ⟨⟨en.1, en.2.1, en.2.2.1, en.2.2.2.1, Nat.zero_le _, en.2.2.2.2.2⟩, ie.1.2.1, ie.1.2.2.1, ie.1.2.2.2.1, fun j hj => absurd hj (Nat.not_lt_zero _), ie.1.2.2.2.2.2⟩
  have fi : INV n (i + 1) (fForget v) := ie.core ⟨fun k q => upne (by omega), fun _ _ => rfl, rfl, rfl, fun _ _ => rfl⟩ okf ie.2.1.2.2.2.1 ie.2.2.1 ie.2.2.2.2.2.2.2.2.2.2.1 ie.2.2.2.2.2.2.2.2.2.2.2.1 ie.2.2.2.2.2.2.2.2.2.2.2.2
  have hj : J_count (fForget v) = J_count w + 1 := by rw [← jc]; exact f1
  refine ⟨okf, hj, ?_, ?_, ?_, fi⟩
  · exact fi.2.2.2.2.2.2.2.2.1 (J_count w) (by omega)
  · unfold fWhy
    rw [if_pos rfl]
  · unfold fWhyU
    rw [if_pos rfl]
