theorem I0_u0 : I0 0 u0 := sorry
theorem I0_rate {u : TS} (h : I0 0 u) {c r : Nat} (hc : 1 ≤ c ∧ c ≤ 3) (hr : 1 ≤ r ∧ r ≤ 5000) : I0 0 (sAI u 0 c (nI r)) := sorry
theorem I0_acc {a : Nat} {u : TS} (h : I0 a u) (ha : a < 10) {kd cu : Nat} (hk : kd < 5) (hc : cu < 4) (h0 : a = 0 → kd = 4 ∧ cu = 0) : I0 (a + 1) (fAccAdd u kd cu) := sorry
theorem I0_ex {n : Nat} {u : TS} (h : I0 n u) (hn : 3 ≤ n ∧ n ≤ 8) : INV n 0 (sO u 0 (some 0)) := sorry
theorem L_pass {n i : Nat} {u : TS} (h : INV n i u) (hi : i < 30) {d : Nat} (hd : d ≤ 5) : INV n (i + 1) (sN u 0 (T_today u + d)) := sorry
theorem L_up {n i : Nat} {u : TS} (h : INV n i u) : INV n (i + 1) u := sorry
theorem L_close {n i : Nat} {u : TS} (h : INV n i u) (hi : i < 30) {d : Nat} (hd : d ≤ T_today u) (hl : ∀ j, fLock u = some j → j < d) {u1 u2 : TS} (e1 : u1 = fPC u d (AC_count u)) (e2 : u2 = fClose u1 d 0) :
    (OK u1 ∧ T_today u1 = T_today u ∧ AC_count u1 = n ∧ AC_kind u1 0 = 4 ∧ AC_currency u1 0 = 0 ∧ (∀ j, fLock u1 = some j → j < d) ∧ J_count u1 = J_count u ∧ J_legCount u1 = J_legCount u) ∧
    (OK u2 ∧ J_count u2 = J_count u1 + 1) ∧
    (fWould u d ≠ 0 → 1 ≤ J_legsOf u2 (J_count u1) ∧ fOfL u2 (J_count u1) (J_legsOf u2 (J_count u1) - 1) 0 = 0 ∧ fOfL u2 (J_count u1) (J_legsOf u2 (J_count u1) - 1) 1 = fWould u d) ∧
    fLock u2 = some d ∧ fWould u2 d = 0 ∧ INV n (i + 1) (fPC u2 d (AC_count u2)) := sorry
theorem L_open {n i : Nat} {u : TS} (h : INV n i u) (hi : i < 30) (hc : fLastC u (J_count u) ≠ none) :
    INV n (i + 1) (fOpen u ((fLastC u (J_count u)).getD 0)) ∧ ∀ j, fLock (fOpen u ((fLastC u (J_count u)).getD 0)) = some j → j ≤ 364 := sorry
theorem L_line {n i : Nat} {u : TS} (h : INV n i u) (hi : i < 30) {k d : Nat} (hk : k < n) (hd : d < 20) {x : Int32} : INV n (i + 1) (fLine u k d x) := sorry
theorem L_match {n i : Nat} {u : TS} (h : INV n i u) (hi : i < 30) {k dd : Nat} (hk : k < n) (hd : dd ≤ 30) :
    OK (fPair 1 u k dd) ∧ AC_count (fPair 1 u k dd) = n ∧ fPairN 0 (fPair 1 u k dd) k dd = fPairN 1 u k dd ∧ fPairN 1 u k dd ≤ 40 ∧ INV n (i + 1) (fPair 0 (fPair 1 u k dd) k dd) ∧
    fLeft (fPair 0 (fPair 1 u k dd) k dd) k 0 - fLeft (fPair 0 (fPair 1 u k dd) k dd) k 1 = (nI (fPairN 1 u k dd)).toInt64 := sorry
def dU1 (u : TS) (d i : Nat) : TS := fBegin u d i
def dU2 (u : TS) (d i k : Nat) (x : Int32) : TS := fRow 0 (dU1 u d i) k x.toInt64 (fWorth (dU1 u d i) k x.toInt64)
def dU3 (u : TS) (d i k : Nat) (x : Int32) (o : Nat) (y : Int32) : TS := fRow 0 (dU2 u d i k x) o y.toInt64 (fWorth (dU2 u d i k x) o y.toInt64)
theorem L_draft {n i : Nat} {u : TS} (h : INV n i u) (hi : i < 30) {d k o a b : Nat} (hd : d < 25) (hk : k < n) (ho : o < n) (ha : a < 300) (hb : b < 300) :
    (OK (dU1 u d i) ∧ AC_count (dU1 u d i) = n ∧ DR_isThere (dU1 u d i) = true ∧ L0_count (dU1 u d i) = 0) ∧ (OK (dU2 u d i k (nI (1 + a))) ∧ AC_count (dU2 u d i k (nI (1 + a))) = n ∧ DR_isThere (dU2 u d i k (nI (1 + a))) = true ∧ L0_count (dU2 u d i k (nI (1 + a))) = 1) ∧
    (¬ nI (1 + a) = 0 ∧ ¬ nI (1 + a) < -1000000 ∧ nI (1 + a) ≤ nI 1000000) ∧ (¬ (-1 - nI b) = 0 ∧ ¬ (-1 - nI b) < -1000000 ∧ -1 - nI b ≤ nI 1000000) ∧
    fSum (L0_worth (dU3 u d i k (nI (1 + a)) o (-1 - nI b))) (L0_count (dU3 u d i k (nI (1 + a)) o (-1 - nI b))) ≤ fSum (L0_worth (dU2 u d i k (nI (1 + a)))) (L0_count (dU2 u d i k (nI (1 + a)))) ∧
    OK (dU3 u d i k (nI (1 + a)) o (-1 - nI b)) ∧ INV n i (fWhyU (dU3 u d i k (nI (1 + a)) o (-1 - nI b))) ∧ fWhy (fWhyU (dU3 u d i k (nI (1 + a)) o (-1 - nI b))) = fWhy (dU3 u d i k (nI (1 + a)) o (-1 - nI b)) := sorry
theorem L_post {n i : Nat} {u : TS} (h : INV n i (fWhyU u)) (hi : i < 30) (hL : ∀ j, j < L0_count u → (L0_amount u j).toInt.natAbs ≤ 300) (h2 : L0_count u = 2) (hw : fWhy (fWhyU u) = 0) :
    OK (fPost (fWhyU u)) ∧ J_count (fPost (fWhyU u)) = J_count (fWhyU u) + 1 ∧ fSum (fun g => fOfL (fPost (fWhyU u)) (J_count (fWhyU u)) g 2) (J_legsOf (fPost (fWhyU u)) (J_count (fWhyU u))) = 0 ∧ fWhy (fPost (fWhyU u)) = 1 ∧ fWhyU (fPost (fWhyU u)) = fPost (fWhyU u) ∧ INV n (i + 1) (fPost (fWhyU u)) := sorry
theorem L_draft2 {u : TS} {d i k o a b : Nat} (ha : a < 300) (hb : b < 300) : L0_count (dU3 u d i k (nI (1 + a)) o (-1 - nI b)) = 2 ∧ ∀ j, j < L0_count (dU3 u d i k (nI (1 + a)) o (-1 - nI b)) → (L0_amount (dU3 u d i k (nI (1 + a)) o (-1 - nI b)) j).toInt.natAbs ≤ 300 := sorry
theorem L_kinds {n i : Nat} {u : TS} (h : INV n i u) (hi : i ≤ 30) : fSum (fun kd => fKind u kd (AC_count u)) 5 = 0 := sorry
theorem L_dig {n i : Nat} {u : TS} (h : INV n i u) (hi : i ≤ 30) : INV n i (fDigU u) ∧ fDig (fDigU u) = fDig u := sorry
theorem L_abs {u : TS} {k : Nat} : absL (fTold u k 0) = absL (fTold u k 1) := sorry
theorem L_left {n i : Nat} {u : TS} (h : INV n i u) (hi : i ≤ 30) {k : Nat} : fLeft u k 1 ≤ fLeft u k 0 := sorry
theorem L_matched {n i : Nat} {u : TS} (h : INV n i u) (hi : i ≤ 30) {x : Nat} (hx : x < LI_count u) {e : Nat} (he : fMatched u x = some e) : e < J_count u ∧ fOfE u e 3 = 0 ∧ ∃ g, g < J_legsOf u e ∧ fOfL u e g 3 = (nI x).toInt64 := sorry
theorem L_earn (u : TS) : fEarn u 5 4 (AC_count u) = 0 ∧ fEarn u 0 364 (AC_count u) = fEarn u 0 9 (AC_count u) + fEarn u 10 364 (AC_count u) := sorry

