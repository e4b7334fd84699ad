/-! SUMS OVER THE JOURNAL -/
theorem fSum_if (f : Nat → Int64) (a : Nat) (w : Int64) : ∀ n, fSum (fun k => if a = k then f k + w else f k) n = if a < n then fSum f n + w else fSum f n
  | 0 => by rw [if_neg (Nat.not_lt_zero _)]; rfl
  | n + 1 => by
    unfold fSum
    rw [fSum_if f a w n]
    by_cases q : a < n
    · rw [if_pos q, if_neg (by omega), if_pos (by omega)]; grind
    · by_cases z : a = n
      · rw [if_neg q, if_pos z, if_pos (by omega)]; grind
      · rw [if_neg q, if_neg z, if_neg (by omega)]
/-- the worth of all legs that count -/
def fTot (u : TS) : Nat → Int64
  | 0 => 0
  | g + 1 => if fCounts u g = true then fTot u g + J_worth u g else fTot u g
theorem fSum_zero : ∀ n, fSum (fun _ => 0) n = 0
  | 0 => rfl
  | n + 1 => by unfold fSum; rw [fSum_zero n]; rfl
theorem fTot_acc {u : TS} {n : Nat} : ∀ g, (∀ j, j < g → J_account u j < n) → fSum (fun k => fWor u k g) n = fTot u g
  | 0, _ => by
    exact fSum_zero n
  | g + 1, h => by
    have ih := fTot_acc g (fun j hj => h j (by omega))
    unfold fTot fWor
    by_cases c : fCounts u g = true
    · simp only [c, and_true, if_true]
      rw [fSum_if, if_pos (h g (by omega)), ih]
    · rw [Bool.not_eq_true] at c
      simp only [c, Bool.false_eq_true, and_false, if_false]
      exact ih
theorem fKind_tot {u : TS} : ∀ n, (∀ k, k < n → AC_kind u k < 5) → fSum (fun kd => fKind u kd n) 5 = fSum (fun k => fWor u k (J_legCount u)) n
  | 0, _ => rfl
  | n + 1, h => by
    have ih := fKind_tot n (fun k hk => h k (by omega))
    have h1 := h n (by omega)
    rw [show fSum (fun k => fWor u k (J_legCount u)) (n + 1) = fSum (fun k => fWor u k (J_legCount u)) n + fWor u n (J_legCount u) from rfl, ← ih]
    show fSum (fun kd => if AC_kind u n = kd then fKind u kd n + fWor u n (J_legCount u) else fKind u kd n) 5 = _
    rw [fSum_if, if_pos h1]
theorem fTot_run {u : TS} (s : Nat) (c : Bool) : ∀ m, (∀ i, i < m → fCounts u (s + i) = c) → fTot u (s + m) = if c = true then fTot u s + fSum (fun i => J_worth u (s + i)) m else fTot u s
  | 0, _ => by
    show fTot u s = if c = true then fTot u s + 0 else fTot u s
    split
    · grind
    · rfl
  | m + 1, h => by
    have ih := fTot_run s c m (fun i hi => h i (by omega))
    show (if fCounts u (s + m) = true then fTot u (s + m) + J_worth u (s + m) else fTot u (s + m)) = _
    rw [h m (by omega), ih]
    show _ = if c = true then fTot u s + (fSum (fun i => J_worth u (s + i)) m + J_worth u (s + m)) else fTot u s
    split
    · grind
    · rfl
theorem fTot_zero {u : TS} (h : CT u) (z : ZS u) : ∀ e, e ≤ J_count u → fTot u (fEnd u e) = 0
  | 0, _ => rfl
  | e + 1, he => by
    have ih := fTot_zero h z e (by omega)
    show fTot u (fEnd u e + J_legsOf u e) = 0
    rw [fTot_run (fEnd u e) (!(J_gone u e)) (J_legsOf u e) (fun i hi => by
      unfold fCounts
      rw [← h.1 e (by omega), h.2.2 e i (by omega) hi]), ih]
    split
    · have := z e (by omega)
      rw [h.1 e (by omega)] at this
      rw [this]; rfl
    · rfl
theorem L_kinds {n i : Nat} {u : TS} (h : INV n i u) (hi : i ≤ 30) : fSum (fun kd => fKind u kd (AC_count u)) 5 = 0 := by
  have ct := h.2.2.2.2.2.2.2.1
  rw [fKind_tot _ (fun k hk => (h.1.acc hk).1), fTot_acc _ (fun j hj => (h.1.leg hj).2), ct.2.1]
  exact fTot_zero ct h.2.2.2.2.2.2.2.2.1 _ (Nat.le_refl _)
/-! A NEW ENTRY -/
/-- what the entering of m rows makes of w -/
def EN (w : TS) (d nt : Nat) (cl : Bool) (m : Nat) (v : TS) : Prop :=
  (∀ k, k ≠ 6 ∧ k ≠ 7 → v.1 k = w.1 k) ∧ J_legCount v = J_legCount w + m ∧ v.2.1 = w.2.1 ∧ v.2.2.1 = w.2.2.1 ∧ (∀ k, k < 4 ∨ 10 ≤ k → v.2.2.2.1 k = w.2.2.2.1 k) ∧ v.2.2.2.2.1 = w.2.2.2.2.1 ∧ (∀ k, k ≠ 2 → v.2.2.2.2.2.1 k = w.2.2.2.2.2.1 k) ∧ v.2.2.2.2.2.2.1 = w.2.2.2.2.2.2.1 ∧ (∀ k, k < 4 → v.2.2.2.2.2.2.2 k = w.2.2.2.2.2.2.2 k) ∧
  (∀ e, J_day v e = if e = J_count w then d else J_day w e) ∧ (∀ e, J_note v e = if e = J_count w then nt else J_note w e) ∧ (∀ e, J_firstLeg v e = if e = J_count w then J_legCount w else J_firstLeg w e) ∧ (∀ e, J_isClosing v e = if e = J_count w then cl else J_isClosing w e) ∧
  (∀ g, J_entryOf v g = if J_legCount w ≤ g ∧ g < J_legCount w + m then J_count w else J_entryOf w g) ∧ (∀ g, J_account v g = if J_legCount w ≤ g ∧ g < J_legCount w + m then L1_account w (g - J_legCount w) else J_account w g) ∧
  (∀ g, J_amount v g = if J_legCount w ≤ g ∧ g < J_legCount w + m then L1_amount w (g - J_legCount w) else J_amount w g) ∧ (∀ g, J_worth v g = if J_legCount w ≤ g ∧ g < J_legCount w + m then L1_worth w (g - J_legCount w) else J_worth w g)
theorem upstep {α : Type} {f : Nat → α} {h : Nat → α} {L m : Nat} {g : Nat → α} (hf : ∀ x, f x = if L ≤ x ∧ x < L + m then h (x - L) else g x) (x : Nat) : va_up f (L + m) (h m) x = if L ≤ x ∧ x < L + (m + 1) then h (x - L) else g x := by
  unfold va_up
  by_cases q : x = L + m
  · subst q
    rw [if_pos rfl, if_pos (by omega), show L + m - L = m by omega]
  · rw [if_neg q, hf]
    by_cases z : L ≤ x ∧ x < L + m
    · rw [if_pos z, if_pos (by omega)]
    · rw [if_neg z, if_neg (by omega)]
theorem fEntL_EN (w : TS) (d nt : Nat) (cl : Bool) : ∀ m, EN w d nt cl m (fEntL w d nt cl m) ∧ J_count (fEntL w d nt cl m) = J_count w ∧ ∀ e, J_legsOf (fEntL w d nt cl m) e = J_legsOf w e
  | 0 => by
    refine ⟨⟨fun k q => rfl, rfl, rfl, rfl, fun k q => ?_, rfl, fun k q => upne q, rfl, fun k q => rfl, fun e => rfl, fun e => rfl, fun e => rfl, fun e => rfl, fun g => ?_, fun g => ?_, fun g => ?_, fun g => ?_⟩, rfl, fun e => rfl⟩
    · exact (upne (by omega)).trans ((upne (by omega)).trans (upne (by omega)))
    all_goals (rw [if_neg (by omega)]; rfl)
  | m + 1 => by
    obtain ⟨⟨a1, a2, a3, a4, a5, a6, a7, a8, a9, b1, b2, b3, b4, b5, b6, b7, b8⟩, a10, a11⟩ := fEntL_EN w d nt cl m
    have c1 : L1_account (fEntL w d nt cl m) m = L1_account w m := congrFun (a5 3 (by decide)) m
    have c2 : L1_amount (fEntL w d nt cl m) m = L1_amount w m := congrFun (a9 2 (by decide)) m
    have c3 : L1_worth (fEntL w d nt cl m) m = L1_worth w m := congrFun (a9 3 (by decide)) m
    unfold fEntL
    rw [c1, c2, c3]
    generalize fEntL w d nt cl m = z at *
    refine ⟨⟨fun k q => (upne q.2).trans (a1 k q), show J_legCount z + 1 = _ by omega, a3, a4, fun k q => (upne (by omega)).trans ((upne (by omega)).trans (a5 k q)), a6, a7, a8, fun k q => (upne (by omega)).trans ((upne (by omega)).trans (a9 k q)), b1, b2, b3, b4, fun g => ?_, fun g => ?_, fun g => ?_, fun g => ?_⟩, a10, a11⟩
    · show va_up (J_entryOf z) (J_legCount z) (J_count w) g = _
      rw [a2]
      exact upstep (h := fun _ => J_count w) b5 g
    · show va_up (J_account z) (J_legCount z) (L1_account w m) g = _
      rw [a2]
      exact upstep (h := L1_account w) b6 g
    · show va_up (J_amount z) (J_legCount z) (L1_amount w m) g = _
      rw [a2]
      exact upstep (h := L1_amount w) b7 g
    · show va_up (J_worth z) (J_legCount z) (L1_worth w m) g = _
      rw [a2]
      exact upstep (h := L1_worth w) b8 g
theorem fEnter_EN (w : TS) (d nt : Nat) (cl : Bool) : EN w d nt cl (L1_count w) (fEnter w d nt cl) ∧ J_count (fEnter w d nt cl) = J_count w + 1 ∧ ∀ e, J_legsOf (fEnter w d nt cl) e = if e = J_count w then L1_count w else J_legsOf w e := by
  obtain ⟨⟨a1, a2, a3, a4, a5, a6, a7, a8, a9, b1, b2, b3, b4, b5, b6, b7, b8⟩, a10, a11⟩ := fEntL_EN w d nt cl (L1_count w)
  unfold fEnter
  refine ⟨⟨fun k q => (upne q.1).trans (a1 k q), a2, a3, a4, fun k q => (upne (by omega)).trans (a5 k q), a6, a7, a8, a9, b1, b2, b3, b4, b5, b6, b7, b8⟩, rfl, fun e => ?_⟩
  show va_up (J_legsOf (fEntL w d nt cl (L1_count w))) (J_count w) (L1_count w) e = _
  unfold va_up
  split
  · rfl
  · exact a11 e
/-- what rows do to an account, by size -/
def fRowAbs (w : TS) (k : Nat) : Nat → Nat
  | 0 => 0
  | r + 1 => if L1_account w r = k then fRowAbs w k r + (L1_amount w r).toInt.natAbs else fRowAbs w k r
theorem fAbsA_pre {u v : TS} (k : Nat) : ∀ g, (∀ j, j < g → J_account v j = J_account u j ∧ J_amount v j = J_amount u j) → fAbsA v k g = fAbsA u k g
  | 0, _ => rfl
  | g + 1, h => by
    have h1 := h g (by omega)
    unfold fAbsA
    rw [fAbsA_pre k g (fun j hj => h j (by omega)), h1.1, h1.2]
theorem fEnd_pre {u v : TS} : ∀ e, (∀ j, j < e → J_legsOf v j = J_legsOf u j) → fEnd v e = fEnd u e
  | 0, _ => rfl
  | e + 1, h => by
    unfold fEnd
    rw [fEnd_pre e (fun j hj => h j (by omega)), h e (by omega)]
theorem fAbsA_row {w v : TS} {d nt : Nat} {cl : Bool} {m : Nat} (h : EN w d nt cl m v) (k : Nat) : ∀ r, r ≤ m → fAbsA v k (J_legCount w + r) = fAbsA w k (J_legCount w) + fRowAbs w k r
  | 0, _ => fAbsA_pre k _ (fun j hj => by
    obtain ⟨a1, a2, a3, a4, a5, a6, a7, a8, a9, b1, b2, b3, b4, b5, b6, b7, b8⟩ := h
    rw [b6, b7, if_neg (by omega), if_neg (by omega)]
    exact ⟨rfl, rfl⟩)
  | r + 1, hr => by
    have ih := fAbsA_row h k r (by omega)
    obtain ⟨a1, a2, a3, a4, a5, a6, a7, a8, a9, b1, b2, b3, b4, b5, b6, b7, b8⟩ := h
    show (if J_account v (J_legCount w + r) = k then fAbsA v k (J_legCount w + r) + (J_amount v (J_legCount w + r)).toInt.natAbs else fAbsA v k (J_legCount w + r)) = _
    have c1 : J_account v (J_legCount w + r) = L1_account w r := by rw [b6, if_pos (by omega), show J_legCount w + r - J_legCount w = r by omega]
    have c2 : J_amount v (J_legCount w + r) = L1_amount w r := by rw [b7, if_pos (by omega), show J_legCount w + r - J_legCount w = r by omega]
    rw [ih, c1, c2]
    show _ = fAbsA w k (J_legCount w) + (if L1_account w r = k then fRowAbs w k r + (L1_amount w r).toInt.natAbs else fRowAbs w k r)
    by_cases q : L1_account w r = k
    · rw [if_pos q, if_pos q]; omega
    · rw [if_neg q, if_neg q]
theorem L_enter {n i : Nat} {w : TS} (h : INV n i w) (hi : i < 30) {d nt : Nat} {cl : Bool} (hd : d ≤ 364) (hnt : nt ≤ 999) (hm : L1_count w ≤ 10) (hz : fSum (L1_worth w) (L1_count w) = 0) (hb : ∀ k, k < n → fClosed w k = true → fRowAbs w k (L1_count w) ≤ 600 * 2 ^ i) : INV n (i + 1) (fEnter w d nt cl) := by
  obtain ⟨E, f1, f2⟩ := fEnter_EN w d nt cl
  have E' := E
  obtain ⟨a1, a2, a3, a4, a5, a6, a7, a8, a9, b1, b2, b3, b4, b5, b6, b7, b8⟩ := E
  generalize hv : fEnter w d nt cl = v at *
  obtain ⟨o, c, x1, x2, x3, x4, x5, x6, x7, x8, x9, x10, x11⟩ := h
  have hn := o.n
  have hac : AC_count v = AC_count w := a1 1 (by decide)
  have hli : LI_count v = LI_count w := a1 9 (by decide)
  have hLo : ∀ q j, mLo q v j = mLo q w j := fun q j => by unfold mLo M0_lineOfLeg M1_lineOfLeg; rw [a8]
  have hFi : ∀ q j, mFi q v j = mFi q w j := fun q j => by unfold mFi M0_firstOfLine M1_firstOfLine; rw [a8]
  have hSe : ∀ q j, mSe q v j = mSe q w j := fun q j => by unfold mSe M0_secondOfLine M1_secondOfLine; rw [a8]
  have hla : ∀ j, LI_account v j = LI_account w j := fun j => congrFun (a5 12 (by decide)) j
  have hld : ∀ j, LI_day v j = LI_day w j := fun j => congrFun (a5 13 (by decide)) j
  have hlb : ∀ j, LI_byDay v j = LI_byDay w j := fun j => congrFun (a5 14 (by decide)) j
  have hk : ∀ j, AC_kind v j = AC_kind w j := fun j => congrFun (a5 0 (by decide)) j
  have hc : ∀ j, AC_currency v j = AC_currency w j := fun j => congrFun (a5 1 (by decide)) j
  have hg : ∀ j, J_gone v j = J_gone w j := fun j => congrFun (a7 1 (by decide)) j
  have hcl : ∀ j, fClosed v j = fClosed w j := fun j => by unfold fClosed; rw [hk]
  have h0 : ∀ j, L0_account v j = L0_account w j := fun j => congrFun (a5 2 (by decide)) j
  have h1 : ∀ j, L1_account v j = L1_account w j := fun j => congrFun (a5 3 (by decide)) j
  have h0c : L0_count v = L0_count w := a1 4 (by decide)
  have h1c : L1_count v = L1_count w := a1 5 (by decide)
  have hMI : ∀ q, MI q w → MI q v := by
    intro q hq
    refine ⟨fun g y e => ?_, fun y g e => ?_, fun y g e => ?_⟩
    · rw [hLo] at e
      have := hq.1 g y e
      rw [a2, b6, if_neg (by omega), hli, hla, hFi, hSe]
      exact ⟨by omega, this.2⟩
    · rw [hFi] at e
      rw [hLo]
      exact hq.2.1 y g e
    · rw [hSe] at e
      rw [hLo, hFi]
      exact hq.2.2 y g e
  have hfe : ∀ e, e ≤ J_count w → fEnd v e = fEnd w e := fun e he => fEnd_pre e (fun j hj => by rw [f2, if_neg (by omega)])
  refine ⟨⟨⟨?_, ?_, ?_, ?_, ?_, ?_, ?_, ?_, ?_, ?_⟩, ?_, ?_, ?_, ?_, ?_, ?_, ?_, ?_, ?_, ?_⟩, ⟨?_, c.2.1, c.2.2.1, ?_, ?_, ?_, ?_⟩, ?_, ?_, ?_, ?_, ?_, ?_, ?_, ?_, hMI 0 x9, ?_, hMI 1 x11⟩
  · omega
  · omega
  · omega
  · omega
  · omega
  · omega
  · rw [show HO_count v = HO_count w from a1 8 (by decide)]; omega
  · rw [show T_today v = T_today w from a1 0 (by decide)]; omega
  · rw [show DR_day v = DR_day w from a1 2 (by decide)]; omega
  · rw [show DR_note v = DR_note w from a1 3 (by decide)]; omega
  · intro g hg'
    rw [b5, b6, f1, hac]
    by_cases q : J_legCount w ≤ g ∧ g < J_legCount w + L1_count w
    · rw [if_pos q, if_pos q]
      exact ⟨by omega, o.pl (by omega)⟩
    · rw [if_neg q, if_neg q]
      have := o.leg (g := g) (by omega)
      omega
  · intro e he
    rw [b3, f2, b1, b2, a2]
    by_cases q : e = J_count w
    · rw [if_pos q, if_pos q, if_pos q, if_pos q]
      omega
    · rw [if_neg q, if_neg q, if_neg q, if_neg q]
      have := o.ent (e := e) (by omega)
      omega
  · intro y hy
    rw [hla, hld, hlb, hac, hli]
    exact o.line (by omega)
  · intro j hj
    rw [h0, hac]
    exact o.dr (by omega)
  · intro j hj
    rw [h1, hac]
    exact o.pl (by omega)
  · intro j hj
    rw [hk, hc]
    exact o.acc (by omega)
  · intro j e
    rw [hac]
    exact o.ex ((congrFun a4 0).symm.trans e)
  · intro j
    exact (congrFun (a7 0 (by decide)) j).trans (o.nf j)
  · have := o.m0
    refine ⟨fun a b e => ?_, fun a b e => ?_, fun a b e => ?_⟩
    · rw [hli]; exact this.1 a b ((hLo 0 a).symm.trans e)
    · have := this.2.1 a b ((hFi 0 a).symm.trans e); omega
    · have := this.2.2 a b ((hSe 0 a).symm.trans e); omega
  · have := o.m1
    refine ⟨fun a b e => ?_, fun a b e => ?_, fun a b e => ?_⟩
    · rw [hli]; exact this.1 a b ((hLo 1 a).symm.trans e)
    · have := this.2.1 a b ((hFi 1 a).symm.trans e); omega
    · have := this.2.2 a b ((hSe 1 a).symm.trans e); omega
  · omega
  · rw [show T_today v = T_today w from a1 0 (by decide)]; omega
  · omega
  · omega
  · omega
  · exact (congrFun a4 0).trans x1
  · rw [hk]; exact x2
  · rw [hc]; exact x3
  · intro y
    rw [hld]; exact x4 y
  · refine ⟨fun y hy => ?_, ?_, fun e he => ?_⟩
    · rw [show AC_rates v y = AC_rates w y from congrFun (congrFun a6 0) y]
      exact x5.1 y hy
    · rw [show AC_rates v 0 = AC_rates w 0 from congrFun (congrFun a6 0) 0]
      exact x5.2.1
    · rw [hg]
      exact x5.2.2 e (by omega)
  · refine ⟨fun e he => ?_, ?_, fun e y he hy => ?_⟩
    · rw [b3, hfe e (by omega)]
      split
      · rename_i q
        rw [q]
        exact x6.2.1
      · exact x6.1 e (by omega)
    · rw [f1, a2]
      show _ = fEnd v (J_count w) + J_legsOf v (J_count w)
      rw [hfe _ (Nat.le_refl _), f2, if_pos rfl, ← x6.2.1]
    · rw [f2] at hy
      rw [b3, b5]
      split at hy
      · rename_i q
        rw [if_pos q, if_pos (by omega)]
        exact q.symm
      · rename_i q
        rw [if_neg q]
        have h3 := o.ent (e := e) (by omega)
        rw [if_neg (by omega)]
        exact x6.2.2 e y (by omega) hy
  · intro e he
    rw [f2, b3]
    split
    · rw [← hz]
      exact fSum_congr (fun j hj => by rw [b8, if_pos (by omega), show J_legCount w + j - J_legCount w = j by omega])
    · rename_i q
      have h3 := o.ent (e := e) (by omega)
      rw [← x7 e (by omega)]
      exact fSum_congr (fun j hj => by rw [b8, if_neg (by omega)])
  · intro k hk' hcc
    rw [hcl] at hcc
    rw [a2, fAbsA_row E' k _ (Nat.le_refl _), Nat.pow_succ]
    have h3 := x8 k (by omega) hcc
    have h4 := hb k (by omega) hcc
    omega
  · intro g y e
    rw [hLo] at e
    have h3 := x9.1 g y e
    have h4 := x10 g y e
    unfold fCounts at h4 ⊢
    rw [b5, if_neg (by omega), hg]
    exact h4
