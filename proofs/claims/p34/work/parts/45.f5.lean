/-! POSTING -/
theorem fPD_rows (u : TS) : ∀ i, L1_count (fPD u i) = i ∧ (∀ j, j < i → L1_account (fPD u i) j = L0_account u j ∧ L1_amount (fPD u i) j = L0_amount u j ∧ L1_worth (fPD u i) j = L0_worth u j) ∧ L0_account (fPD u i) = L0_account u ∧ L0_amount (fPD u i) = L0_amount u ∧ L0_worth (fPD u i) = L0_worth u ∧ L0_count (fPD u i) = L0_count u
  | 0 => ⟨rfl, fun j hj => absurd hj (Nat.not_lt_zero _), rfl, rfl, rfl, rfl⟩
  | i + 1 => by
    obtain ⟨a1, a2, a3, a4, a5, a6⟩ := fPD_rows u i
    have e1 : L0_account (fPD u i) i = L0_account u i := congrFun a3 i
    have e2 : L0_amount (fPD u i) i = L0_amount u i := congrFun a4 i
    have e3 : L0_worth (fPD u i) i = L0_worth u i := congrFun a5 i
    unfold fPD
    rw [e1, e2, e3]
    generalize fPD u i = z at *
    refine ⟨by show L1_count z + 1 = i + 1; omega, fun j hj => ?_, a3, a4, a5, a6⟩
    show va_up (L1_account z) (L1_count z) _ j = _ ∧ va_up (L1_amount z) (L1_count z) _ j = _ ∧ va_up (L1_worth z) (L1_count z) _ j = _
    rw [a1]
    by_cases q : j = i
    · subst q
      rw [upeq, upeq, upeq]
      exact ⟨rfl, rfl, rfl⟩
    · rw [upne q, upne q, upne q]
      exact a2 j (by omega)
theorem fRowAbs_le {w : TS} {k B : Nat} : ∀ m, (∀ r, r < m → L1_account w r = k → (L1_amount w r).toInt.natAbs ≤ B) → fRowAbs w k m ≤ m * B
  | 0, _ => Nat.zero_le _
  | m + 1, h => by
    have ih := fRowAbs_le m (fun r hr => h r (by omega))
    have h1 := h m (by omega)
    rw [Nat.succ_mul]
    unfold fRowAbs
    split
    · rename_i q
      have := h1 q
      omega
    · omega
theorem plan_sum {y : TS} {x : Int64} : fSum (L1_worth (fPLeg y 0 x)) (L1_count (fPLeg y 0 x)) = fSum (L1_worth y) (L1_count y) + fWorth y 0 x := by
  show fSum (va_up (L1_worth y) (L1_count y) (fWorth y 0 x)) (L1_count y) + va_up (L1_worth y) (L1_count y) (fWorth y 0 x) (L1_count y) = _
  rw [upeq, fSum_congr (g := L1_worth y) (fun j hj => upne (by omega))]
theorem plan_acc (y : TS) (x : Int64) (j : Nat) : L1_account (fPLeg y 0 x) j = if j = L1_count y then 0 else L1_account y j := rfl
theorem plan_amt (y : TS) (x : Int64) (j : Nat) : L1_amount (fPLeg y 0 x) j = if j = L1_count y then x else L1_amount y j := rfl
theorem plan_cnt (y : TS) (x : Int64) : L1_count (fPLeg y 0 x) = L1_count y + 1 := rfl
theorem fRowAbs_S (w : TS) (k m : Nat) : fRowAbs w k (m + 1) = if L1_account w m = k then fRowAbs w k m + (L1_amount w m).toInt.natAbs else fRowAbs w k m := rfl
theorem L_post {n i : Nat} {u : TS} (h : INV n i (fWhyU u)) (hi : i < 30) (ho : OK u) (hL : ∀ j, j < L0_count u → (L0_amount u j).toInt.natAbs ≤ 300 ∧ (L0_worth u j).toInt.natAbs ≤ 1501) (h2 : L0_count u = 2) (hw : fWhy (fWhyU u) = 0) :
    OK (fPost (fWhyU u)) ∧ J_count (fPost (fWhyU u)) = J_count (fWhyU u) + 1 ∧ fSum (fun g => fOfL (fPost (fWhyU u)) (J_count (fWhyU u)) g 2) (J_legsOf (fPost (fWhyU u)) (J_count (fWhyU u))) = 0 ∧ fWhy (fPost (fWhyU u)) = 1 ∧ fWhyU (fPost (fWhyU u)) = fPost (fWhyU u) ∧ INV n (i + 1) (fPost (fWhyU u)) := by
  have q1 := (fWhyU_c ho).1
  have q2 := (fWhyU_c h.1).1
  have l1 : L0_count (fWhyU (fWhyU u)) = 2 := (q1.trans q2).n.2.2.2.2.1.trans h2
  have l2 : L0_amount (fWhyU (fWhyU u)) = L0_amount u := (q1.trans q2).2.2.2.2.2.2.2 0 (by decide)
  have l3 : L0_worth (fWhyU (fWhyU u)) = L0_worth u := (q1.trans q2).2.2.2.2.2.2.2 1 (by decide)
  have ok2 := (fWhyU_c h.1).2
  have iw := h.plan q2 ok2
  clear hw q1
  unfold fPost
  generalize fWhyU u = w at *
  generalize fWhyU w = z at *
  have pc := fPlanD_c ok2
  have ip := iw.plan pc.1 pc.2.2.2
  have ex : T_exchangeAccount (fPD z (L0_count z)) = some 0 := (congrFun (fPD_c ok2 _ (Nat.le_refl _)).1.2.2.1 0).trans iw.2.2.1
  obtain ⟨r1, r2, r3, r4, r5, r6⟩ := fPD_rows z (L0_count z)
  have hS : (fSum (L0_worth z) (L0_count z)).toInt.natAbs ≤ 2 * 1501 := by
    rw [l1]
    exact fSum_le 2 (fun j hj => by rw [l3]; exact (hL j (by omega)).2) (by omega)
  have hs1 : fSum (L1_worth (fPD z (L0_count z))) (L0_count z) = fSum (L0_worth z) (L0_count z) := fSum_congr (fun j hj => (r2 j hj).2.2)
  have es := (fPD_c ok2 _ (Nat.le_refl _)).1.es
  have h600 : 600 ≤ 600 * 2 ^ i := Nat.le_mul_of_pos_right _ (Nat.pow_pos (by decide))
  have hcl0 : fClosed (fPlanD z) 0 = false := by
    rw [pc.1.es.closed]
    unfold fClosed
    rw [iw.2.2.2.1]
    decide
  have hz : fSum (L1_worth (fPlanD z)) (L1_count (fPlanD z)) = 0 ∧ ∀ k, k < n → fClosed (fPlanD z) k = true → fRowAbs (fPlanD z) k (L1_count (fPlanD z)) ≤ 600 * 2 ^ i := by
    have e : fPlanD z = if fSum (L0_worth z) (L0_count z) = 0 then fPD z (L0_count z) else fPLeg (fPD z (L0_count z)) 0 (-fSum (L0_worth z) (L0_count z)) := by
      unfold fPlanD
      rw [ex]
      dsimp only
      rw [r5, r6]
    rw [e] at hcl0 ⊢
    generalize fPD z (L0_count z) = y at *
    by_cases q : fSum (L0_worth z) (L0_count z) = 0
    · rw [if_pos q, r1, hs1]
      refine ⟨q, fun k hk hc => Nat.le_trans ?_ h600⟩
      have := fRowAbs_le (w := y) (k := k) (B := 300) (L0_count z) (fun r hr _ => by
        rw [(r2 r hr).2.1, l2]
        exact (hL r (by omega)).1)
      omega
    · rw [if_neg q] at hcl0 ⊢
      have hneg : (-fSum (L0_worth z) (L0_count z)).toInt.natAbs ≤ 3002 := by rw [i64_neg (by omega)]; omega
      have hwb : fWorth y 0 (-fSum (L0_worth z) (L0_count z)) = -fSum (L0_worth z) (L0_count z) := by
        rw [es.qWorth]
        exact worth_base iw.2.2.2.2.1 iw.2.2.2.2.2.2.1.2.1 (by omega)
      refine ⟨?_, fun k hk hc => Nat.le_trans ?_ h600⟩
      · rw [plan_sum, hwb, r1, hs1]
        grind
      · have hk0 : k ≠ 0 := by rintro rfl; rw [hcl0] at hc; cases hc
        rw [plan_cnt, fRowAbs_S, plan_acc, if_pos rfl, if_neg (by omega)]
        have := fRowAbs_le (w := fPLeg y 0 (-fSum (L0_worth z) (L0_count z))) (k := k) (B := 300) (L1_count y) (fun r hr _ => by
          rw [plan_amt, if_neg (by omega), (r2 r (by omega)).2.1, l2]
          exact (hL r (by omega)).1)
        omega
  have pn := pc.1.n
  have on := ok2.n
  have ie := L_enter (d := DR_day (fPlanD z)) (nt := DR_note (fPlanD z)) (cl := false) ip hi (by omega) (by omega) (by omega) hz.1 hz.2
  have jc : J_count (fPlanD z) = J_count w := by rw [pc.1.es.jn, q2.es.jn]
  have f1 := (fEnter_EN (fPlanD z) (DR_day (fPlanD z)) (DR_note (fPlanD z)) false).2.1
  generalize fEnter (fPlanD z) (DR_day (fPlanD z)) (DR_note (fPlanD z)) false = v at *
  have en := ie.1.n
  have okf : OK (fForget v) := ⟨⟨en.1, en.2.1, en.2.2.1, en.2.2.2.1, Nat.zero_le _, en.2.2.2.2.2⟩, ie.1.2.1, ie.1.2.2.1, ie.1.2.2.2.1, fun j hj => absurd hj (Nat.not_lt_zero _), ie.1.2.2.2.2.2⟩
  have fi : INV n (i + 1) (fForget v) := ie.coreM ⟨fun k q => upne (by omega), fun _ _ => rfl, rfl, rfl, fun _ _ => rfl⟩ okf rfl rfl rfl
  have hj : J_count (fForget v) = J_count w + 1 := by rw [← jc]; exact f1
  have ht : DR_isThere (fForget v) = false := rfl
  refine ⟨okf, hj, ?_, ?_, ?_, fi⟩
  · have := fi.2.2.2.2.2.2.2.2.1 (J_count w) (by omega)
    exact this
  · unfold fWhy
    rw [if_pos ht]
  · unfold fWhyU
    rw [if_pos ht]
