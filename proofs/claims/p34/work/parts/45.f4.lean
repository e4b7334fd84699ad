theorem okRow0 {v : TS} {ac : Nat} {x w : Int64} (ov : OK v) (hl : L0_count v ≤ 5) (hac : ac < AC_count v) : OK (fRow 0 v ac x w) := by
  have hv := ov.n
  refine ⟨⟨hv.1, hv.2.1, hv.2.2.1, hv.2.2.2.1, Nat.succ_le_succ hl, hv.2.2.2.2.2⟩, ov.2.1, ov.2.2.1, ov.2.2.2.1, fun j hj => ?_, ov.2.2.2.2.2⟩
  have hj : j < L0_count v + 1 := hj
  show va_up (L0_account v) (L0_count v) ac j < AC_count v
  unfold va_up
  split
  · exact hac
  · exact ov.dr (by omega)
theorem okD1 {u : TS} (o1 : OK u) {d i : Nat} (hd : d ≤ 364) (hi : i ≤ 999) : OK (dU1 u d i) := by
  have hn := o1.n
  exact ⟨⟨hn.1, hn.2.1, hn.2.2.1, hn.2.2.2.1, Nat.zero_le _, hn.2.2.2.2.2.1, hn.2.2.2.2.2.2.1, hn.2.2.2.2.2.2.2.1, hd, hi⟩, o1.2.1, o1.2.2.1, o1.2.2.2.1, fun j hj => absurd hj (Nat.not_lt_zero _), o1.2.2.2.2.2⟩
theorem d1_ac (u : TS) (d i : Nat) : AC_count (dU1 u d i) = AC_count u := rfl
theorem d2_ac (u : TS) (d i k : Nat) (x : Int32) : AC_count (dU2 u d i k x) = AC_count u := rfl
theorem d1_c (u : TS) (d i : Nat) : L0_count (dU1 u d i) = 0 := rfl
theorem d2_c (u : TS) (d i k : Nat) (x : Int32) : L0_count (dU2 u d i k x) = 1 := rfl
theorem d1_t (u : TS) (d i : Nat) : DR_isThere (dU1 u d i) = true := rfl
theorem d2_t (u : TS) (d i k : Nat) (x : Int32) : DR_isThere (dU2 u d i k x) = true := rfl
theorem d3_m (u : TS) (d i k : Nat) (x : Int32) (o : Nat) (y : Int32) : (dU3 u d i k x o y).2.2.2.2.2.2.1 = u.2.2.2.2.2.2.1 := rfl
theorem d3_t (u : TS) (d i k : Nat) (x : Int32) (o : Nat) (y : Int32) : T_today (dU3 u d i k x o y) = T_today u := rfl
theorem d3_x (u : TS) (d i k : Nat) (x : Int32) (o : Nat) (y : Int32) : T_exchangeAccount (dU3 u d i k x o y) = T_exchangeAccount u := rfl
theorem d2_w0 (u : TS) (d i k : Nat) (x : Int32) : L0_worth (dU2 u d i k x) 0 = fWorth (dU1 u d i) k x.toInt64 := rfl
theorem d3_w02 (u : TS) (d i k : Nat) (x : Int32) (o : Nat) (y : Int32) : L0_worth (dU2 u d i k x) 0 = L0_worth (dU3 u d i k x o y) 0 := (d2_w0 u d i k x).trans (d3_w0 u d i k x o y).symm
theorem fSum2 (f : Nat → Int64) : fSum f 2 = 0 + f 0 + f 1 := rfl
theorem fSum1 (f : Nat → Int64) : fSum f 1 = 0 + f 0 := rfl
theorem draft_nums {a b : Nat} (ha : a < 300) (hb : b < 300) : (¬ nI (1 + a) = 0 ∧ ¬ nI (1 + a) < -1000000 ∧ nI (1 + a) ≤ nI 1000000) ∧ (¬ (-1 - nI b) = 0 ∧ ¬ (-1 - nI b) < -1000000 ∧ -1 - nI b ≤ nI 1000000) := by
  have n2 := (neg64 hb).2
  have n1 : (nI (1 + a)).toInt = 1 + a := by rw [nI_toInt (by omega)]; omega
  have n3 : (nI 1000000).toInt = 1000000 := by rw [nI_toInt (by omega)]; omega
  have m0 : (0 : Int32).toInt = 0 := by decide
  have m1 : (-1000000 : Int32).toInt = -1000000 := by decide
  generalize nI (1 + a) = p at *
  generalize -1 - nI b = q at *
  refine ⟨⟨fun z => ?_, fun z => ?_, ?_⟩, fun z => ?_, fun z => ?_, ?_⟩
  · have := congrArg Int32.toInt z
    omega
  · rw [Int32.lt_iff_toInt_lt] at z
    omega
  · rw [Int32.le_iff_toInt_le]
    omega
  · have := congrArg Int32.toInt z
    omega
  · rw [Int32.lt_iff_toInt_lt] at z
    omega
  · rw [Int32.le_iff_toInt_le]
    omega
theorem M_of {k : Nat} {u v : TS} (h : v.2.2.2.2.2.2.1 = u.2.2.2.2.2.2.1) : (∀ x, mLo k v x = mLo k u x) ∧ (∀ x, mFi k v x = mFi k u x) ∧ ∀ x, mSe k v x = mSe k u x := by
  unfold mLo mFi mSe M0_lineOfLeg M0_firstOfLine M0_secondOfLine M1_lineOfLeg M1_firstOfLine M1_secondOfLine
  rw [h]
  exact ⟨fun _ => rfl, fun _ => rfl, fun _ => rfl⟩
theorem INV.coreM {n i : Nat} {u v : TS} (h : INV n i u) (g : ES u v) (hok : OK v) (ht : T_today v = T_today u) (hx : T_exchangeAccount v = T_exchangeAccount u) (hm : v.2.2.2.2.2.2.1 = u.2.2.2.2.2.2.1) : INV n i v :=
  h.core g hok (by rw [ht]; exact h.2.1.2.2.2.1) (hx.trans h.2.2.1) (h.2.2.2.2.2.2.2.2.2.2.1.core g (M_of hm).1 (M_of hm).2.1 (M_of hm).2.2) (h.2.2.2.2.2.2.2.2.2.2.2.1.core g (M_of hm).1) (h.2.2.2.2.2.2.2.2.2.2.2.2.core g (M_of hm).1 (M_of hm).2.1 (M_of hm).2.2)
theorem L_draft {n i : Nat} {u : TS} (h : INV n i u) (hi : i < 30) {d k o a b : Nat} (hd : d < 25) (hk : k < n) (ho : o < n) (ha : a < 300) (hb : b < 300) :
    (OK (dU1 u d i) ∧ AC_count (dU1 u d i) = n ∧ DR_isThere (dU1 u d i) = true ∧ L0_count (dU1 u d i) = 0) ∧ (OK (dU2 u d i k (nI (1 + a))) ∧ AC_count (dU2 u d i k (nI (1 + a))) = n ∧ DR_isThere (dU2 u d i k (nI (1 + a))) = true ∧ L0_count (dU2 u d i k (nI (1 + a))) = 1) ∧
    (¬ nI (1 + a) = 0 ∧ ¬ nI (1 + a) < -1000000 ∧ nI (1 + a) ≤ nI 1000000) ∧ (¬ (-1 - nI b) = 0 ∧ ¬ (-1 - nI b) < -1000000 ∧ -1 - nI b ≤ nI 1000000) ∧
    fSum (L0_worth (dU3 u d i k (nI (1 + a)) o (-1 - nI b))) (L0_count (dU3 u d i k (nI (1 + a)) o (-1 - nI b))) ≤ fSum (L0_worth (dU2 u d i k (nI (1 + a)))) (L0_count (dU2 u d i k (nI (1 + a)))) ∧
    OK (dU3 u d i k (nI (1 + a)) o (-1 - nI b)) ∧ INV n i (fWhyU (dU3 u d i k (nI (1 + a)) o (-1 - nI b))) ∧ fWhy (fWhyU (dU3 u d i k (nI (1 + a)) o (-1 - nI b))) = fWhy (dU3 u d i k (nI (1 + a)) o (-1 - nI b)) := by
  have o1 := h.1
  have hc := h.2.1.1
  have dd := (L_draft2 h hk ho ha hb (d := d)).2
  have n2 := (neg64 hb).1
  have nn := draft_nums ha hb
  generalize nI (1 + a) = p at *
  generalize -1 - nI b = q at *
  have ok1 : OK (dU1 u d i) := okD1 o1 (by omega) (by omega)
  have ok2 : OK (dU2 u d i k p) := okRow0 ok1 (by rw [d1_c]; omega) (by rw [d1_ac]; omega)
  have ok3 : OK (dU3 u d i k p o q) := okRow0 ok2 (by rw [d2_c]; omega) (by rw [d2_ac]; omega)
  have g := dU_es u d i k p o q
  rw [d3_c] at dd ⊢
  rw [d2_c, fSum2, fSum1, d3_w02 u d i k p o q]
  have d0 := (dd 0 (by omega)).2
  have d1 := (dd 1 (by omega)).2
  have e2 : (L0_worth (dU3 u d i k p o q) 1).toInt ≤ 0 := by
    rw [d3_w1, g.2.1.qWorth]
    exact worth_neg (h.rate ho) (by omega) (by omega)
  have i3 : INV n i (dU3 u d i k p o q) := h.coreM g.2.2 ok3 (d3_t _ _ _ _ _ _ _) (d3_x _ _ _ _ _ _ _) (d3_m _ _ _ _ _ _ _)
  have hw := fWhyU_c ok3
  refine ⟨⟨ok1, by rw [d1_ac]; exact hc, d1_t _ _ _, d1_c _ _ _⟩, ⟨ok2, by rw [d2_ac]; exact hc, d2_t _ _ _ _ _, rfl⟩, nn.1, nn.2, ?_, ok3, i3.plan hw.1 hw.2, hw.1.why⟩
  generalize L0_worth (dU3 u d i k p o q) 0 = A at *
  generalize L0_worth (dU3 u d i k p o q) 1 = B at *
  rw [show (0 : Int64) + A = A by grind, Int64.le_iff_toInt_le, i64_add (by omega)]
  omega
