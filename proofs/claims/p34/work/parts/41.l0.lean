/-! THE PURE SIDE: small tools -/
theorem L_abs {u : TS} {k : Nat} : absL (fTold u k 0) = absL (fTold u k 1) := by
  show absL (fBal u k) = absL (fStd u k (fBal u k))
  generalize fBal u k = x
  unfold fStd
  split
  · rfl
  · unfold absL
    have h0 : (0 : Int64).toInt = 0 := rfl
    have h1 : (-x).toInt = (-x.toInt).bmod (2 ^ 64) := Int64.toInt_neg x
    have h2 := Int64.le_toInt x
    have h3 := Int64.toInt_lt x
    have h4 : - -x = x := by grind
    simp only [Int64.lt_iff_toInt_lt, h0, h1]
    by_cases hm : x.toInt = -2 ^ 63
    · rw [hm]
      have e : x = -x := by apply Int64.toInt_inj.mp; rw [h1, hm]; decide
      rw [if_neg (by decide), if_neg (by decide), ← e]
      exact e
    · have e : (-x.toInt).bmod (2 ^ 64) = -x.toInt := by
        rw [Int.bmod_def]; split <;> omega
      rw [e]
      split <;> split <;> first | rfl | omega | (rw [h4]) | skip
      have : x.toInt = 0 := by omega
      have e2 : x = 0 := Int64.toInt_inj.mp (by rw [this]; rfl)
      rw [e2]; rfl
theorem L_earn0 (u : TS) (w : Nat) : ∀ g, fWorB u w 5 4 g = 0
  | 0 => rfl
  | g + 1 => by
    unfold fWorB
    rw [if_neg (fun h => by have := h.2.2.2; omega), L_earn0 u w g]
theorem L_earn1 (u : TS) (w : Nat) : ∀ g, fWorB u w 0 364 g = fWorB u w 0 9 g + fWorB u w 10 364 g
  | 0 => rfl
  | g + 1 => by
    have ih := L_earn1 u w g
    unfold fWorB
    by_cases h : J_account u g = w ∧ fCounts u g = true ∧ J_isClosing u (J_entryOf u g) = false
    · obtain ⟨h1, h2, h3⟩ := h
      by_cases h4 : fDayOf u g ≤ 9
      · rw [if_pos ⟨h1, h2, h3, by omega, by omega⟩, if_pos ⟨h1, h2, h3, by omega, h4⟩, if_neg (fun q => by have := q.2.2.2.1; omega), ih]
        grind
      · by_cases h5 : fDayOf u g ≤ 364
        · rw [if_pos ⟨h1, h2, h3, by omega, h5⟩, if_neg (fun q => by have := q.2.2.2.2; omega), if_pos ⟨h1, h2, h3, by omega, h5⟩, ih]
          grind
        · rw [if_neg (fun q => by have := q.2.2.2.2; omega), if_neg (fun q => by have := q.2.2.2.2; omega), if_neg (fun q => by have := q.2.2.2.2; omega), ih]
    · rw [if_neg (fun q => h ⟨q.1, q.2.1, q.2.2.1⟩), if_neg (fun q => h ⟨q.1, q.2.1, q.2.2.1⟩), if_neg (fun q => h ⟨q.1, q.2.1, q.2.2.1⟩), ih]
theorem L_earn (u : TS) : fEarn u 5 4 (AC_count u) = 0 ∧ fEarn u 0 364 (AC_count u) = fEarn u 0 9 (AC_count u) + fEarn u 10 364 (AC_count u) := by
  generalize AC_count u = n
  induction n with
  | zero => exact ⟨rfl, rfl⟩
  | succ n ih =>
    obtain ⟨h1, h2⟩ := ih
    unfold fEarn
    rw [h1, h2, L_earn0, L_earn1]
    split
    · exact ⟨by grind, by grind⟩
    · exact ⟨rfl, rfl⟩
theorem L_left {n i : Nat} {u : TS} (h : INV n i u) (hi : i ≤ 30) {k : Nat} : fLeft u k 1 ≤ fLeft u k 0 := by
  have h1 := fLLeft_le 0 u k (LI_count u)
  have h2 := fLCnt_le u k (LI_count u)
  have h3 := h.1.n
  show (nI (fLLeft 0 u k (LI_count u))).toInt64 ≤ (nI (fLCnt u k (LI_count u))).toInt64
  rw [Int64.le_iff_toInt_le, Int32.toInt_toInt64, Int32.toInt_toInt64, nI_toInt (by omega), nI_toInt (by omega)]
  omega
