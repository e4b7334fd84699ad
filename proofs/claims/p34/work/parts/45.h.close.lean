/-! CLOSING -/
theorem row_acc (y : TS) (k : Nat) (x : Int64) (j : Nat) : L1_account (fPLeg y k x) j = if j = L1_count y then k else L1_account y j := rfl
theorem row_amt (y : TS) (k : Nat) (x : Int64) (j : Nat) : L1_amount (fPLeg y k x) j = if j = L1_count y then x else L1_amount y j := rfl
theorem row_wor (y : TS) (k : Nat) (x : Int64) (j : Nat) : L1_worth (fPLeg y k x) j = if j = L1_count y then fWorth y k x else L1_worth y j := rfl
theorem row_cnt (y : TS) (k : Nat) (x : Int64) : L1_count (fPLeg y k x) = L1_count y + 1 := rfl
theorem fSum_S (f : Nat → Int64) (m : Nat) : fSum f (m + 1) = fSum f m + f m := rfl
theorem row_sum (y : TS) (k : Nat) (x : Int64) : fSum (L1_worth (fPLeg y k x)) (L1_count (fPLeg y k x)) = fSum (L1_worth y) (L1_count y) + fWorth y k x := by
  rw [row_cnt, fSum_S, row_wor, if_pos rfl, fSum_congr (g := L1_worth y) (fun j hj => by rw [row_wor, if_neg (by omega)])]
def fRowSum (w : TS) (k : Nat) : Nat → Int64
  | 0 => 0
  | r + 1 => if L1_account w r = k then fRowSum w k r + L1_amount w r else fRowSum w k r
theorem fRowSum_S (w : TS) (k m : Nat) : fRowSum w k (m + 1) = if L1_account w m = k then fRowSum w k m + L1_amount w m else fRowSum w k m := rfl
theorem rowSum_pre (y : TS) (k : Nat) (x : Int64) (a : Nat) : ∀ m, m ≤ L1_count y → fRowSum (fPLeg y k x) a m = fRowSum y a m
  | 0, _ => rfl
  | m + 1, h => by rw [fRowSum_S, fRowSum_S, row_acc, row_amt, if_neg (c := m = L1_count y) (by omega), if_neg (c := m = L1_count y) (by omega), rowSum_pre y k x a m (by omega)]
theorem rowAbs_pre (y : TS) (k : Nat) (x : Int64) (a : Nat) : ∀ m, m ≤ L1_count y → fRowAbs (fPLeg y k x) a m = fRowAbs y a m
  | 0, _ => rfl
  | m + 1, h => by rw [fRowAbs_S, fRowAbs_S, row_acc, row_amt, if_neg (c := m = L1_count y) (by omega), if_neg (c := m = L1_count y) (by omega), rowAbs_pre y k x a m (by omega)]
theorem rowSum_new (y : TS) (k : Nat) (x : Int64) (a : Nat) : fRowSum (fPLeg y k x) a (L1_count (fPLeg y k x)) = if k = a then fRowSum y a (L1_count y) + x else fRowSum y a (L1_count y) := by
  rw [row_cnt, fRowSum_S, row_acc, row_amt, if_pos (c := L1_count y = L1_count y) rfl, if_pos (c := L1_count y = L1_count y) rfl, rowSum_pre y k x a _ (Nat.le_refl _)]
theorem rowAbs_new (y : TS) (k : Nat) (x : Int64) (a : Nat) : fRowAbs (fPLeg y k x) a (L1_count (fPLeg y k x)) = if k = a then fRowAbs y a (L1_count y) + x.toInt.natAbs else fRowAbs y a (L1_count y) := by
  rw [row_cnt, fRowAbs_S, row_acc, row_amt, if_pos (c := L1_count y = L1_count y) rfl, if_pos (c := L1_count y = L1_count y) rfl, rowAbs_pre y k x a _ (Nat.le_refl _)]
/-- an account's amount up to a day -/
def fA (u : TS) (d k : Nat) : Int64 := fAmt u k d (J_legCount u)
def fPCs (u : TS) (d : Nat) : Nat → Int64
  | 0 => 0
  | k + 1 => if fClosed u k = true ∧ fA u d k ≠ 0 then fPCs u d k + fWorth u k (-fA u d k) else fPCs u d k
theorem ES.qA {u v : TS} (h : ES u v) (d k : Nat) : fA v d k = fA u d k := by unfold fA; rw [h.qAmt, h.ln]
theorem ES.qPCs {u v : TS} (h : ES u v) (d : Nat) : ∀ k, fPCs v d k = fPCs u d k
  | 0 => rfl
  | k + 1 => by
    unfold fPCs
    rw [ES.qPCs h d k, h.closed, h.qA, h.qWorth]
theorem fPC_S (u : TS) (d k : Nat) : fPC u d (k + 1) = if fClosed (fPC u d k) k = true ∧ fAmt (fPC u d k) k d (J_legCount (fPC u d k)) ≠ 0 then fPLeg (fPC u d k) k (-fAmt (fPC u d k) k d (J_legCount (fPC u d k))) else fPC u d k := rfl
theorem fPC_rows {u : TS} {d : Nat} : ∀ k, k ≤ AC_count u →
    (∀ w, fRowSum (fPC u d k) w (L1_count (fPC u d k)) = if w < k ∧ fClosed u w = true then -fA u d w else 0) ∧
    fSum (L1_worth (fPC u d k)) (L1_count (fPC u d k)) = fPCs u d k ∧
    (∀ w, fRowAbs (fPC u d k) w (L1_count (fPC u d k)) = if w < k ∧ fClosed u w = true then (-fA u d w).toInt.natAbs else 0)
  | 0, _ => ⟨fun w => by rw [if_neg (by omega)]; rfl, rfl, fun w => by rw [if_neg (by omega)]; rfl⟩
  | k + 1, hk => by
    obtain ⟨h1, h2, h3⟩ := fPC_rows (u := u) (d := d) k (by omega)
    have g := (fPC_c u d k (by omega)).1.es
    have e1 : fAmt (fPC u d k) k d (J_legCount (fPC u d k)) = fA u d k := g.qA d k
    rw [fPC_S, g.closed, e1]
    unfold fPCs
    by_cases q : fClosed u k = true ∧ fA u d k ≠ 0
    · rw [if_pos q, if_pos q, row_sum, h2, g.qWorth]
      refine ⟨fun w => ?_, rfl, fun w => ?_⟩
      · rw [rowSum_new, h1]
        by_cases z : k = w
        · subst z
          rw [if_pos rfl, if_neg (by omega), if_pos ⟨by omega, q.1⟩]
          grind
        · rw [if_neg z]
          by_cases y : w < k ∧ fClosed u w = true
          · rw [if_pos y, if_pos ⟨by omega, y.2⟩]
          · rw [if_neg y, if_neg (fun s => y ⟨by omega, s.2⟩)]
      · rw [rowAbs_new, h3]
        by_cases z : k = w
        · subst z
          rw [if_pos rfl, if_neg (by omega), if_pos ⟨by omega, q.1⟩]
          omega
        · rw [if_neg z]
          by_cases y : w < k ∧ fClosed u w = true
          · rw [if_pos y, if_pos ⟨by omega, y.2⟩]
          · rw [if_neg y, if_neg (fun s => y ⟨by omega, s.2⟩)]
    · rw [if_neg q, if_neg q]
      refine ⟨fun w => ?_, h2, fun w => ?_⟩
      · rw [h1]
        by_cases y : w < k ∧ fClosed u w = true
        · rw [if_pos y, if_pos ⟨by omega, y.2⟩]
        · rw [if_neg y]
          by_cases s : w < k + 1 ∧ fClosed u w = true
          · rw [if_pos s]
            have : w = k := by have : ¬ w < k := fun z => y ⟨z, s.2⟩; omega
            subst this
            have e2 : fA u d w = 0 := Classical.byContradiction (fun z => q ⟨s.2, z⟩)
            rw [e2]; rfl
          · rw [if_neg s]
      · rw [h3]
        by_cases y : w < k ∧ fClosed u w = true
        · rw [if_pos y, if_pos ⟨by omega, y.2⟩]
        · rw [if_neg y]
          by_cases s : w < k + 1 ∧ fClosed u w = true
          · rw [if_pos s]
            have : w = k := by have : ¬ w < k := fun z => y ⟨z, s.2⟩; omega
            subst this
            have e2 : fA u d w = 0 := Classical.byContradiction (fun z => q ⟨s.2, z⟩)
            rw [e2]; rfl
          · rw [if_neg s]
theorem amt_le {u : TS} {w d : Nat} : ∀ g, fAbsA u w g < 2 ^ 61 → (fAmt u w d g).toInt.natAbs ≤ fAbsA u w g
  | 0, _ => Nat.zero_le _
  | g + 1, h => by
    unfold fAbsA at h ⊢
    unfold fAmt
    by_cases q : J_account u g = w
    · rw [if_pos q] at h ⊢
      have ih := amt_le (u := u) (w := w) (d := d) g (by omega)
      by_cases z : J_account u g = w ∧ fCounts u g = true ∧ fDayOf u g ≤ d
      · rw [if_pos z, i64_add (by omega)]
        omega
      · rw [if_neg z]
        omega
    · rw [if_neg q] at h ⊢
      rw [if_neg (fun z => q z.1)]
      exact amt_le g h
theorem INV.amt {n i : Nat} {u : TS} (h : INV n i u) (hi : i ≤ 30) {k : Nat} (hk : k < n) (hc : fClosed u k = true) (d : Nat) : (fA u d k).toInt.natAbs ≤ 600 * 2 ^ i ∧ 600 * 2 ^ i ≤ 600 * 2 ^ 30 := by
  have h1 := h.2.2.2.2.2.2.2.2.2.1 k (by have := h.2.1.1; omega) hc
  have h2 : 600 * 2 ^ i ≤ 600 * 2 ^ 30 := Nat.mul_le_mul_left _ (Nat.pow_le_pow_right (by decide) hi)
  refine ⟨Nat.le_trans (amt_le _ ?_) h1, h2⟩
  omega
theorem PCs_le {n i : Nat} {u : TS} (h : INV n i u) (hi : i ≤ 30) (d : Nat) : ∀ k, k ≤ n → (fPCs u d k).toInt.natAbs ≤ k * (600 * 2 ^ 30 * 5 + 1)
  | 0, _ => Nat.zero_le _
  | k + 1, hk => by
    have ih := PCs_le h hi d k (by omega)
    have hn := h.2.1.2.2.1
    unfold fPCs
    split
    · rename_i q
      have a := h.amt hi (k := k) (by omega) q.1 d
      have b : (-fA u d k).toInt.natAbs ≤ 600 * 2 ^ 30 := by rw [i64_neg (by omega)]; omega
      have c := worth_le (h.rate (k := k) (by omega)) (x := -fA u d k) (by omega)
      have e : k * (600 * 2 ^ 30 * 5 + 1) ≤ 8 * (600 * 2 ^ 30 * 5 + 1) := Nat.mul_le_mul_right _ (by omega)
      rw [Nat.succ_mul]
      rw [i64_add (by omega)]
      omega
    · rw [Nat.succ_mul]
      exact Nat.le_trans ih (Nat.le_add_right _ _)
theorem amt_pre {c v : TS} {w d : Nat} : ∀ g, (∀ j, j < g → J_account v j = J_account c j ∧ J_amount v j = J_amount c j ∧ fCounts v j = fCounts c j ∧ fDayOf v j = fDayOf c j) → fAmt v w d g = fAmt c w d g
  | 0, _ => rfl
  | g + 1, h => by
    have h1 := h g (by omega)
    unfold fAmt
    rw [amt_pre g (fun j hj => h j (by omega)), h1.1, h1.2.1, h1.2.2.1, h1.2.2.2]
theorem fAmt_S (u : TS) (w d g : Nat) : fAmt u w d (g + 1) = if J_account u g = w ∧ fCounts u g = true ∧ fDayOf u g ≤ d then fAmt u w d g + J_amount u g else fAmt u w d g := rfl
/-- behind the entering of a closing's rows each closed account has nothing left -/
theorem amt_new {c v : TS} {d nt m : Nat} (E : EN c d nt true m v) (o : OK c) (hg : J_gone c (J_count c) = false) (w : Nat) : ∀ r, r ≤ m → fAmt v w d (J_legCount c + r) = fAmt c w d (J_legCount c) + fRowSum c w r
  | 0, _ => by
    obtain ⟨a1, a2, a3, a4, a5, a6, a7, a8, a9, b1, b2, b3, b4, b5, b6, b7, b8⟩ := E
    have hgn : ∀ j, J_gone v j = J_gone c j := fun j => congrFun (a7 1 (by decide)) j
    show fAmt v w d (J_legCount c) = fAmt c w d (J_legCount c) + 0
    rw [show fAmt c w d (J_legCount c) + 0 = fAmt c w d (J_legCount c) by grind]
    refine amt_pre _ (fun j hj => ?_)
    have ho := o.leg hj
    have e5 : J_entryOf v j = J_entryOf c j := by rw [b5, if_neg (by omega)]
    refine ⟨by rw [b6, if_neg (by omega)], by rw [b7, if_neg (by omega)], ?_, ?_⟩
    · unfold fCounts
      rw [e5, hgn]
    · unfold fDayOf
      rw [e5, b1, if_neg (by omega)]
  | r + 1, hr => by
    have ih := amt_new E o hg w r (by omega)
    obtain ⟨a1, a2, a3, a4, a5, a6, a7, a8, a9, b1, b2, b3, b4, b5, b6, b7, b8⟩ := E
    have hgn : ∀ j, J_gone v j = J_gone c j := fun j => congrFun (a7 1 (by decide)) j
    have es : J_legCount c + r - J_legCount c = r := by omega
    have e5 : J_entryOf v (J_legCount c + r) = J_count c := by rw [b5, if_pos (by omega)]
    have e6 : J_account v (J_legCount c + r) = L1_account c r := by rw [b6, if_pos (by omega), es]
    have e7 : J_amount v (J_legCount c + r) = L1_amount c r := by rw [b7, if_pos (by omega), es]
    have e8 : fCounts v (J_legCount c + r) = true := by unfold fCounts; rw [e5, hgn, hg]; rfl
    have e9 : fDayOf v (J_legCount c + r) = d := by unfold fDayOf; rw [e5, b1, if_pos rfl]
    rw [show J_legCount c + (r + 1) = J_legCount c + r + 1 by omega, fAmt_S, fRowSum_S, e6, e7, e8, e9, ih]
    by_cases q : L1_account c r = w
    · rw [if_pos ⟨q, rfl, Nat.le_refl _⟩, if_pos q]
      grind
    · rw [if_neg (fun z => q z.1), if_neg q]
theorem PCs_zero {u : TS} {d : Nat} : ∀ k, (∀ j, j < k → fClosed u j = true → fA u d j = 0) → fPCs u d k = 0
  | 0, _ => rfl
  | k + 1, h => by
    unfold fPCs
    rw [if_neg (fun q => q.2 (h k (by omega) q.1))]
    exact PCs_zero k (fun j hj => h j (by omega))
theorem L_close {n i : Nat} {u : TS} (h : INV n i u) (hi : i < 30) {d : Nat} (hd : d ≤ T_today u) (hl : ∀ j, fLock u = some j → j < d) {u1 u2 : TS} (e1 : u1 = fPC u d (AC_count u)) (e2 : u2 = fClose u1 d 0) :
    (OK u1 ∧ T_today u1 = T_today u ∧ AC_count u1 = n ∧ AC_kind u1 0 = 4 ∧ AC_currency u1 0 = 0 ∧ (∀ j, fLock u1 = some j → j < d) ∧ J_count u1 = J_count u ∧ J_legCount u1 = J_legCount u) ∧
    (OK u2 ∧ J_count u2 = J_count u1 + 1) ∧
    (fWould u d ≠ 0 → 1 ≤ J_legsOf u2 (J_count u1) ∧ fOfL u2 (J_count u1) (J_legsOf u2 (J_count u1) - 1) 0 = 0 ∧ fOfL u2 (J_count u1) (J_legsOf u2 (J_count u1) - 1) 1 = fWould u d) ∧
    fLock u2 = some d ∧ fWould u2 d = 0 ∧ INV n (i + 1) (fPC u2 d (AC_count u2)) := by
  have hn := h.2.1
  have c1 := fPC_c u d (AC_count u) (Nat.le_refl _)
  have ok1 := fPC_OK h.1 d (Nat.le_refl _)
  have w1 : fWould u d = -fPCs u d (AC_count u) := by unfold fWould; rw [(fPC_rows (u := u) (d := d) _ (Nat.le_refl _)).2.1]
  rw [← e1] at c1 ok1
  have g1 := c1.1.es
  have i1 : INV n i u1 := h.plan c1.1 ok1
  have ac1 : AC_count u1 = n := g1.ac.trans hn.1
  have td1 : T_today u1 = T_today u := c1.1.n.2.2.2.2.2.2.1
  have lk1 : fLock u1 = fLock u := g1.qLock
  have jc1 : J_count u1 = J_count u := g1.jn
  have ln1 : J_legCount u1 = J_legCount u := g1.ln
  have w2 : fWould u d = -fPCs u1 d n := by rw [w1, g1.qPCs, hn.1]
  clear w1 c1 e1
  -- the rows of the closing
  obtain ⟨r1, r2, r3⟩ := fPC_rows (u := u1) (d := d) (AC_count u1) (Nat.le_refl _)
  have gp := (fPC_c u1 d (AC_count u1) (Nat.le_refl _)).1.es
  have cc := fCloP_c ok1 d (k := 0) (by omega) (by omega)
  have ec : fCloP u1 d 0 = if fPCs u1 d n = 0 then fPC u1 d (AC_count u1) else fPLeg (fPC u1 d (AC_count u1)) 0 (-fPCs u1 d n) := by unfold fCloP; rw [r2, ac1]
  have hS := PCs_le i1 (by omega) d n (Nat.le_refl _)
  have hS8 : n * (600 * 2 ^ 30 * 5 + 1) ≤ 8 * (600 * 2 ^ 30 * 5 + 1) := Nat.mul_le_mul_right _ (by omega)
  have hneg : (-fPCs u1 d n).toInt.natAbs ≤ 2 ^ 49 := by rw [i64_neg (by omega)]; omega
  have hwb : fWorth (fPC u1 d (AC_count u1)) 0 (-fPCs u1 d n) = -fPCs u1 d n := by
    rw [gp.qWorth]
    exact worth_base i1.2.2.2.2.1 i1.2.2.2.2.2.2.1.2.1 hneg
  have hcl0 : fClosed u1 0 = false := by
    unfold fClosed
    rw [i1.2.2.2.1]
    decide
  rw [ac1] at r1 r2 r3 hwb ec
  have ee : u2 = fEnter (fCloP u1 d 0) d 0 true := e2
  generalize fPC u1 d n = p at *
  have hz : fSum (L1_worth (fCloP u1 d 0)) (L1_count (fCloP u1 d 0)) = 0 := by
    rw [ec]
    by_cases q : fPCs u1 d n = 0
    · rw [if_pos q, r2, q]
    · rw [if_neg q, row_sum, hwb, r2]; grind
  have hrs : ∀ k, k < n → fClosed u1 k = true → fRowSum (fCloP u1 d 0) k (L1_count (fCloP u1 d 0)) = -fA u1 d k ∧ fRowAbs (fCloP u1 d 0) k (L1_count (fCloP u1 d 0)) = (-fA u1 d k).toInt.natAbs := by
    intro k hk hc
    have k0 : ¬ 0 = k := by rintro rfl; rw [hcl0] at hc; cases hc
    rw [ec]
    by_cases q : fPCs u1 d n = 0
    · rw [if_pos q, r1, r3, if_pos ⟨hk, hc⟩, if_pos ⟨hk, hc⟩]
      exact ⟨rfl, rfl⟩
    · rw [if_neg q, rowSum_new, rowAbs_new, if_neg k0, if_neg k0, r1, r3, if_pos ⟨hk, hc⟩, if_pos ⟨hk, hc⟩]
      exact ⟨rfl, rfl⟩
  have hlast : fPCs u1 d n ≠ 0 → 1 ≤ L1_count (fCloP u1 d 0) ∧ L1_account (fCloP u1 d 0) (L1_count (fCloP u1 d 0) - 1) = 0 ∧ L1_amount (fCloP u1 d 0) (L1_count (fCloP u1 d 0) - 1) = -fPCs u1 d n := by
    intro q
    rw [ec, if_neg q, row_cnt, row_acc, row_amt]
    refine ⟨by omega, ?_, ?_⟩
    · rw [if_pos (by omega)]
    · rw [if_pos (by omega)]
  generalize fCloP u1 d 0 = c at *
  have gc := cc.1.es
  have ic : INV n i c := i1.plan cc.1 cc.2.2.2
  have hb : ∀ k, k < n → fClosed c k = true → fRowAbs c k (L1_count c) ≤ 600 * 2 ^ i := by
    intro k hk hc
    rw [gc.closed] at hc
    rw [(hrs k hk hc).2]
    have := i1.amt (by omega) hk hc d
    rw [i64_neg (by omega)]
    omega
  have hT : T_today u ≤ 5 * i := hn.2.2.2.1
  have ie : INV n (i + 1) u2 := by rw [ee]; exact L_enter ic hi (by omega) (by omega) cc.2.1 hz hb
  obtain ⟨E, f1, f2⟩ := fEnter_EN c d 0 true
  rw [← ee] at E f1 f2
  clear ee e2 ec
  have hgc : J_gone c (J_count c) = false := ic.2.2.2.2.2.2.1.2.2 _ (Nat.le_refl _)
  have amt0 := fun k => amt_new E ic.1 hgc k (L1_count c) (Nat.le_refl _)
  obtain ⟨a1, a2, a3, a4, a5, a6, a7, a8, a9, b1, b2, b3, b4, b5, b6, b7, b8⟩ := E
  have jcc : J_count c = J_count u1 := gc.jn
  have hk2 : ∀ j, AC_kind u2 j = AC_kind c j := fun j => congrFun (a5 0 (by decide)) j
  have ac2 : AC_count u2 = n := ie.2.1.1
  have hlock : fLock u2 = some d := by
    unfold fLock
    rw [f1]
    unfold fLastC
    rw [if_pos ⟨by rw [b4, if_pos rfl], (congrFun (a7 1 (by decide)) _).trans hgc⟩]
    show some (J_day u2 (J_count c)) = some d
    rw [b1, if_pos rfl]
  have hzero : ∀ j, j < n → fClosed u2 j = true → fA u2 d j = 0 := by
    intro j hj hc
    have hc1 : fClosed u1 j = true := by
      rw [← gc.closed]
      unfold fClosed at hc ⊢
      rw [hk2] at hc
      exact hc
    unfold fA
    rw [a2, amt0 j, (hrs j hj hc1).1]
    have : fAmt c j d (J_legCount c) = fA u1 d j := gc.qA d j
    rw [this]
    grind
  have hw0 : fWould u2 d = 0 := by
    unfold fWould
    rw [(fPC_rows (u := u2) (d := d) _ (Nat.le_refl _)).2.1, ac2, PCs_zero n hzero]
    rfl
  refine ⟨⟨ok1, td1, ac1, i1.2.2.2.1, i1.2.2.2.2.1, by rw [lk1]; exact hl, jc1, ln1⟩, ⟨ie.1, by rw [← jcc]; exact f1⟩, fun hne => ?_, hlock, hw0, ie.plan (fPC_c u2 d _ (Nat.le_refl _)).1 (fPC_OK ie.1 d (Nat.le_refl _))⟩
  have q : fPCs u1 d n ≠ 0 := fun z => hne (by rw [w2, z]; rfl)
  have hL := hlast q
  rw [← jcc, f2, if_pos rfl]
  refine ⟨hL.1, ?_, ?_⟩
  · show (nI (J_account u2 (J_firstLeg u2 (J_count c) + (L1_count c - 1)))).toInt64 = 0
    rw [b3, if_pos rfl, b6, if_pos (by omega), show J_legCount c + (L1_count c - 1) - J_legCount c = L1_count c - 1 by omega, hL.2.1]
    rfl
  · show J_amount u2 (J_firstLeg u2 (J_count c) + (L1_count c - 1)) = _
    rw [b3, if_pos rfl, b7, if_pos (by omega), show J_legCount c + (L1_count c - 1) - J_legCount c = L1_count c - 1 by omega, hL.2.2, w2]
