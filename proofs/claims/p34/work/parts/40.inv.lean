/-! WHAT HOLDS BETWEEN THE LAW'S STEPS -/
def fAbsA (u : TS) (k : Nat) : Nat → Nat
  | 0 => 0
  | g + 1 => if J_account u g = k then fAbsA u k g + (J_amount u g).toInt.natAbs else fAbsA u k g
def MI (k : Nat) (u : TS) : Prop :=
  (∀ g x, mLo k u g = some x → g < J_legCount u ∧ x < LI_count u ∧ J_account u g = LI_account u x ∧ (mFi k u x = some g ∨ mSe k u x = some g)) ∧
  (∀ x g, mFi k u x = some g → mLo k u g = some x) ∧
  (∀ x g, mSe k u x = some g → mLo k u g = some x ∧ ∃ f, mFi k u x = some f ∧ f ≠ g)
def MG (u : TS) : Prop := ∀ g x, mLo 0 u g = some x → fCounts u g = true
def fEnd (u : TS) : Nat → Nat
  | 0 => 0
  | e + 1 => fEnd u e + J_legsOf u e
def CT (u : TS) : Prop := (∀ e, e < J_count u → J_firstLeg u e = fEnd u e) ∧ J_legCount u = fEnd u (J_count u) ∧ ∀ e i, e < J_count u → i < J_legsOf u e → J_entryOf u (J_firstLeg u e + i) = e
def ZS (u : TS) : Prop := ∀ e, e < J_count u → fSum (fun i => J_worth u (J_firstLeg u e + i)) (J_legsOf u e) = 0
def RT (u : TS) : Prop := (∀ c, c < 4 → 1 ≤ (AC_rates u c).toInt ∧ (AC_rates u c).toInt ≤ 5000) ∧ AC_rates u 0 = nI 1000 ∧ ∀ e, J_count u ≤ e → J_gone u e = false
def BD (i : Nat) (u : TS) : Prop := ∀ k, k < AC_count u → fClosed u k = true → fAbsA u k (J_legCount u) ≤ 600 * 2 ^ i
def INV (n i : Nat) (u : TS) : Prop :=
  OK u ∧ (AC_count u = n ∧ 3 ≤ n ∧ n ≤ 8 ∧ T_today u ≤ 5 * i ∧ J_count u ≤ i ∧ J_legCount u ≤ 10 * i ∧ LI_count u ≤ i) ∧ T_exchangeAccount u = some 0 ∧ AC_kind u 0 = 4 ∧ AC_currency u 0 = 0 ∧ (∀ x, LI_day u x < 600) ∧ RT u ∧ CT u ∧ ZS u ∧ BD i u ∧ MI 0 u ∧ MG u ∧ MI 1 u
def I0 (a : Nat) (u : TS) : Prop :=
  OK u ∧ AC_count u = a ∧ J_count u = 0 ∧ J_legCount u = 0 ∧ LI_count u = 0 ∧ T_today u = 0 ∧ (0 < a → AC_kind u 0 = 4 ∧ AC_currency u 0 = 0) ∧ (∀ x, LI_day u x = 0) ∧ RT u ∧ ∀ k g, mLo k u g = none ∧ mFi k u g = none ∧ mSe k u g = none
def u0 : TS := (fun _ => 0, fun _ => false, fun _ => none, fun _ _ => 0, fun k _ => if k = 0 then nI 1000 else 0, fun _ _ => false, fun _ _ => none, fun _ _ => 0)
def dU1 (u : TS) (d i : Nat) : TS := fBegin u d i
def dU2 (u : TS) (d i k : Nat) (x : Int32) : TS := fRow 0 (dU1 u d i) k x.toInt64 (fWorth (dU1 u d i) k x.toInt64)
def dU3 (u : TS) (d i k : Nat) (x : Int32) (o : Nat) (y : Int32) : TS := fRow 0 (dU2 u d i k x) o y.toInt64 (fWorth (dU2 u d i k x) o y.toInt64)

