/-! THE LEDGER'S OWN METHODS -/
def fF (f : Nat → Int64) (d : Int64) : Nat → Int64
  | 0 => d
  | i + 1 => fF f d i * 31 + f i
def fPLeg (u : TS) (k : Nat) (x : Int64) : TS := fRow 1 u k x (fWorth u k x)
/-- all but the plan is as it was -/
def EQP (u v : TS) : Prop := (∀ k, k ≠ 5 → v.1 k = u.1 k) ∧ v.2.1 = u.2.1 ∧ v.2.2.1 = u.2.2.1 ∧ (∀ k, k ≠ 3 → v.2.2.2.1 k = u.2.2.2.1 k) ∧ v.2.2.2.2.1 = u.2.2.2.2.1 ∧ v.2.2.2.2.2.1 = u.2.2.2.2.2.1 ∧ v.2.2.2.2.2.2.1 = u.2.2.2.2.2.2.1 ∧ ∀ k, k ≠ 2 ∧ k ≠ 3 → v.2.2.2.2.2.2.2 k = u.2.2.2.2.2.2.2 k
theorem EQP.rfl' (u : TS) : EQP u u := ⟨fun _ _ => rfl, rfl, rfl, fun _ _ => rfl, rfl, rfl, rfl, fun _ _ => rfl⟩
theorem EQP.trans {u v w : TS} (h : EQP u v) (g : EQP v w) : EQP u w := ⟨fun k q => (g.1 k q).trans (h.1 k q), g.2.1.trans h.2.1, g.2.2.1.trans h.2.2.1, fun k q => (g.2.2.2.1 k q).trans (h.2.2.2.1 k q), g.2.2.2.2.1.trans h.2.2.2.2.1, g.2.2.2.2.2.1.trans h.2.2.2.2.2.1, g.2.2.2.2.2.2.1.trans h.2.2.2.2.2.2.1, fun k q => (g.2.2.2.2.2.2.2 k q).trans (h.2.2.2.2.2.2.2 k q)⟩
theorem upne {α : Type} {f : Nat → α} {k i : Nat} {v : α} (h : i ≠ k) : va_up f k v i = f i := by unfold va_up; rw [if_neg h]
theorem upeq {α : Type} (f : Nat → α) (k : Nat) (v : α) : va_up f k v k = v := by unfold va_up; rw [if_pos rfl]
theorem EQP.cnt0 (u : TS) (n : Nat) : EQP u (sN u 5 n) := ⟨fun k q => upne q, rfl, rfl, fun _ _ => rfl, rfl, rfl, rfl, fun _ _ => rfl⟩
theorem EQP.row (u : TS) (ac : Nat) (am wo : Int64) : EQP u (fRow 1 u ac am wo) := ⟨fun k q => upne q, rfl, rfl, fun k q => upne q, rfl, rfl, rfl, fun k q => by
  show va_up (va_up u.2.2.2.2.2.2.2 2 _) 3 _ k = _
  rw [upne q.2, upne q.1]⟩
theorem fRow1_c (u : TS) (ac : Nat) (am wo : Int64) : L1_count (fRow 1 u ac am wo) = L1_count u + 1 := rfl
theorem EQP.n {u v : TS} (h : EQP u v) : J_legCount v = J_legCount u ∧ J_count v = J_count u ∧ LI_count v = LI_count u ∧ AC_count v = AC_count u ∧ L0_count v = L0_count u ∧ HO_count v = HO_count u ∧ T_today v = T_today u ∧ DR_day v = DR_day u ∧ DR_note v = DR_note u := ⟨h.1 _ (by decide), h.1 _ (by decide), h.1 _ (by decide), h.1 _ (by decide), h.1 _ (by decide), h.1 _ (by decide), h.1 _ (by decide), h.1 _ (by decide), h.1 _ (by decide)⟩
theorem EQP.OK {u v : TS} (h : EQP u v) (g : OK u) (h1 : L1_count v ≤ 10) (h2 : ∀ i, i < L1_count v → L1_account v i < AC_count v) : OK v := by
  obtain ⟨b, bO, e, m1, m2, m3, m4, m5⟩ := id h
  have n := h.n
  have gn := g.n
  refine ⟨by omega, ?_, ?_, ?_, ?_, h2, ?_, ?_, ?_, ?_, ?_⟩
  · intro i hi
    have := g.leg (g := i) (by omega)
    show v.2.2.2.1 8 i < _ ∧ v.2.2.2.1 9 i < _
    rw [m1 _ (by decide), m1 _ (by decide)]
    have n1 := n.2.1; have n2 := n.2.2.2.1
    exact ⟨by rw [n1]; exact this.1, by rw [n2]; exact this.2⟩
  · intro i hi
    have := g.ent (e := i) (by omega)
    show v.2.2.2.1 6 i + v.2.2.2.1 7 i ≤ _ ∧ v.2.2.2.1 4 i ≤ 364 ∧ v.2.2.2.1 5 i ≤ 999
    rw [m1 _ (by decide), m1 _ (by decide), m1 _ (by decide), m1 _ (by decide), n.1]
    exact this
  · intro i hi
    have := g.line (x := i) (by omega)
    show v.2.2.2.1 12 i < _ ∧ v.2.2.2.1 13 i ≤ 364 ∧ v.2.2.2.1 14 i < _
    rw [m1 _ (by decide), m1 _ (by decide), m1 _ (by decide), n.2.2.1, n.2.2.2.1]
    exact this
  · intro i hi
    show v.2.2.2.1 2 i < _
    rw [m1 _ (by decide), n.2.2.2.1]
    exact g.dr (by omega)
  · intro k hk
    show v.2.2.2.1 0 k < 5 ∧ v.2.2.2.1 1 k < 4
    rw [m1 _ (by decide), m1 _ (by decide)]
    exact g.acc (by omega)
  · intro k hk
    rw [n.2.2.2.1]
    exact g.ex (by rw [← hk]; show _ = v.2.2.1 _; rw [e])
  · intro k
    show v.2.2.2.2.2.1 _ k = false
    rw [m3]
    exact g.nf k
  · have := g.m0
    unfold M0_lineOfLeg M0_firstOfLine M0_secondOfLine
    rw [m4, n.1, n.2.2.1]
    exact this
  · have := g.m1
    unfold M1_lineOfLeg M1_firstOfLine M1_secondOfLine
    rw [m4, n.1, n.2.2.1]
    exact this
/-- the plan's accounts are accounts -/
def PA (v : TS) : Prop := ∀ i, i < L1_count v → L1_account v i < AC_count v
theorem PA.c0 (u : TS) : PA (sN u 5 0) := fun i hi => absurd hi (Nat.not_lt_zero _)
theorem PA.row {v : TS} (h : PA v) {k : Nat} (hk : k < AC_count v) (x w : Int64) : PA (fRow 1 v k x w) := by
  intro i hi
  show va_up (L1_account v) (L1_count v) k i < AC_count v
  unfold va_up
  split
  · exact hk
  · refine h i ?_
    have : i < L1_count v + 1 := hi
    omega
def fMany (u : TS) (w : Nat) : Int32 := if w = 0 then nI (AC_count u) else if w = 1 then nI (fStand u (J_count u)) else if w = 2 then nI 0 else if w = 3 then nI (LI_count u) else if w = 4 then nI (T_today u) else oI (fLock u)
def fOfE (u : TS) (e w : Nat) : Nat := if w = 0 then J_day u e else if w = 1 then J_note u e else if w = 2 then J_legsOf u e else if J_gone u e = true then 1 else 0
def fOfL (u : TS) (e g w : Nat) : Int64 := if w = 0 then (nI (J_account u (J_firstLeg u e + g))).toInt64 else if w = 1 then J_amount u (J_firstLeg u e + g) else if w = 2 then J_worth u (J_firstLeg u e + g) else (oI (mLo 0 u (J_firstLeg u e + g))).toInt64
def fBal (u : TS) (k : Nat) : Int64 := fAmt u k 364 (J_legCount u)
def fStO (u : TS) (k : Nat) : Int64 := fStd u k (fBal u k)
def fTold (u : TS) (k w : Nat) : Int64 := if w = 0 then fBal u k else if w = 1 then fStO u k else if w = 2 then fWor u k (J_legCount u) else if w = 3 then 0 else fStO u k - 0
def fLeft (u : TS) (k w : Nat) : Int64 := if w = 0 then (nI (fLCnt u k (LI_count u))).toInt64 else if w = 1 then (nI (fLLeft 0 u k (LI_count u))).toInt64 else if w = 2 then (nI (fGLeft 0 u k (J_legCount u))).toInt64 else if w = 3 then fLSum 0 u k (LI_count u) else fGSum 0 u k (J_legCount u)
def fMatched (u : TS) (x : Nat) : Option Nat := (mFi 0 u x).map (J_entryOf u)
def fKind (u : TS) (kd : Nat) : Nat → Int64
  | 0 => 0
  | k + 1 => if AC_kind u k = kd then fKind u kd k + fWor u k (J_legCount u) else fKind u kd k
def fEarn (u : TS) (f t : Nat) : Nat → Int64
  | 0 => 0
  | k + 1 => if fClosed u k = true then fEarn u f t k - fWorB u k f t (J_legCount u) else fEarn u f t k
def fPC (u : TS) (d : Nat) : Nat → TS
  | 0 => sN u 5 0
  | k + 1 => if fClosed (fPC u d k) k = true ∧ fAmt (fPC u d k) k d (J_legCount (fPC u d k)) ≠ 0 then fPLeg (fPC u d k) k (-fAmt (fPC u d k) k d (J_legCount (fPC u d k))) else fPC u d k
theorem fPC_c (u : TS) (d : Nat) : ∀ k, k ≤ AC_count u → EQP u (fPC u d k) ∧ L1_count (fPC u d k) ≤ k ∧ PA (fPC u d k)
  | 0, _ => ⟨EQP.cnt0 u 0, Nat.le_refl _, PA.c0 u⟩
  | k + 1, hk => by
    obtain ⟨h1, h2, h3⟩ := fPC_c u d k (by omega)
    have h4 := h1.n
    unfold fPC
    split
    · exact ⟨h1.trans (EQP.row _ _ _ _), by show L1_count (fPC u d k) + 1 ≤ _; omega, h3.row (by omega) _ _⟩
    · exact ⟨h1, by omega, h3⟩
theorem fPC_OK {u : TS} (h : OK u) (d : Nat) {k : Nat} (hk : k ≤ AC_count u) : OK (fPC u d k) := by
  obtain ⟨h1, h2, h3⟩ := fPC_c u d k hk
  have := h.n
  exact h1.OK h (by omega) h3
def fWould (u : TS) (d : Nat) : Int64 := -fSum (L1_worth (fPC u d (AC_count u))) (L1_count (fPC u d (AC_count u)))
def fCloP (u : TS) (d k : Nat) : TS := if fSum (L1_worth (fPC u d (AC_count u))) (L1_count (fPC u d (AC_count u))) = 0 then fPC u d (AC_count u) else fPLeg (fPC u d (AC_count u)) k (-fSum (L1_worth (fPC u d (AC_count u))) (L1_count (fPC u d (AC_count u))))
theorem fCloP_c {u : TS} (h : OK u) (d : Nat) {k : Nat} (hk : k < AC_count u) (h9 : AC_count u ≤ 9) : EQP u (fCloP u d k) ∧ L1_count (fCloP u d k) ≤ 10 ∧ PA (fCloP u d k) ∧ OK (fCloP u d k) := by
  obtain ⟨h1, h2, h3⟩ := fPC_c u d (AC_count u) (Nat.le_refl _)
  have h4 := h1.n
  have A : EQP u (fCloP u d k) ∧ L1_count (fCloP u d k) ≤ 10 ∧ PA (fCloP u d k) := by
    unfold fCloP
    split
    · exact ⟨h1, by omega, h3⟩
    · exact ⟨h1.trans (EQP.row _ _ _ _), by show L1_count (fPC u d (AC_count u)) + 1 ≤ _; omega, h3.row (by omega) _ _⟩
  exact ⟨A.1, A.2.1, A.2.2, A.1.OK h A.2.1 A.2.2⟩
def fClose (u : TS) (d k : Nat) : TS := fEnter (fCloP u d k) d 0 true
def fPD (u : TS) : Nat → TS
  | 0 => sN u 5 0
  | i + 1 => fRow 1 (fPD u i) (L0_account (fPD u i) i) (L0_amount (fPD u i) i) (L0_worth (fPD u i) i)
theorem fPD_c {u : TS} (h : OK u) : ∀ i, i ≤ L0_count u → EQP u (fPD u i) ∧ L1_count (fPD u i) = i ∧ PA (fPD u i)
  | 0, _ => ⟨EQP.cnt0 u 0, rfl, PA.c0 u⟩
  | i + 1, hi => by
    obtain ⟨h1, h2, h3⟩ := fPD_c h i (by omega)
    have h4 := h1.n
    have h5 := h.dr (i := i) (by omega)
    have e : L0_account (fPD u i) i = L0_account u i := congrFun (h1.2.2.2.1 2 (by decide)) i
    exact ⟨h1.trans (EQP.row _ _ _ _), by show L1_count (fPD u i) + 1 = _; omega, h3.row (by omega) _ _⟩
theorem fPD_OK {u : TS} (h : OK u) {i : Nat} (hi : i ≤ L0_count u) : OK (fPD u i) := by
  obtain ⟨h1, h2, h3⟩ := fPD_c h i hi
  have := h.n
  exact h1.OK h (by omega) h3
def fPlanD (u : TS) : TS := match T_exchangeAccount (fPD u (L0_count u)) with
  | none => fPD u (L0_count u)
  | some x => if fSum (L0_worth (fPD u (L0_count u))) (L0_count (fPD u (L0_count u))) = 0 then fPD u (L0_count u) else fPLeg (fPD u (L0_count u)) x (-fSum (L0_worth (fPD u (L0_count u))) (L0_count (fPD u (L0_count u))))
theorem fPlanD_c {u : TS} (h : OK u) : EQP u (fPlanD u) ∧ L1_count (fPlanD u) ≤ 7 ∧ PA (fPlanD u) ∧ OK (fPlanD u) := by
  obtain ⟨h1, h2, h3⟩ := fPD_c h (L0_count u) (Nat.le_refl _)
  have h4 := h1.n
  have h5 := h.n
  have A : EQP u (fPlanD u) ∧ L1_count (fPlanD u) ≤ 7 ∧ PA (fPlanD u) := by
    unfold fPlanD
    split
    · exact ⟨h1, by omega, h3⟩
    · rename_i x hx
      have h6 := (fPD_OK h (Nat.le_refl _)).ex hx
      split
      · exact ⟨h1, by omega, h3⟩
      · exact ⟨h1.trans (EQP.row _ _ _ _), by show L1_count (fPD u (L0_count u)) + 1 ≤ _; omega, h3.row h6 _ _⟩
  exact ⟨A.1, A.2.1, A.2.2, A.1.OK h (by omega) A.2.2⟩
/-- two currencies among the last r legs and the first -/
def fTC (u : TS) : Nat → Bool
  | 0 => false
  | r + 1 => if AC_currency u (L0_account u (L0_count u - (r + 1))) = AC_currency u (L0_account u 0) then fTC u r else true
def absL (x : Int64) : Int64 := if 0 < x then x else -x
def fCanEx (u : TS) : Bool := decide (T_exchangeAccount u ≠ none) && (fTC u (L0_count u - 1) && decide (absL (fSum (L0_worth u) (L0_count u)) ≤ (nI (L0_count u)).toInt64))
/-- whether the floors are asked for -/
def fReach (u : TS) : Bool := DR_isThere u && (decide (2 ≤ L0_count u) && (decide (∀ j, fLock u = some j → j < DR_day u) && (decide (fSum (L0_worth u) (L0_count u) = 0) || fCanEx u)))
def fWhy (u : TS) : Nat := if DR_isThere u = false then 1 else if L0_count u < 2 then 2 else if ¬ (∀ j, fLock u = some j → j < DR_day u) then 3 else if ¬ fSum (L0_worth u) (L0_count u) = 0 ∧ fCanEx u = false then 4 else if 60 ≤ J_count u then 6 else 0
theorem fWhy_le (u : TS) : fWhy u ≤ 6 := by
  unfold fWhy
  repeat' split
  all_goals omega
def fWhyU (u : TS) : TS := if DR_isThere u = false then u else if L0_count u < 2 then u else if ¬ (∀ j, fLock u = some j → j < DR_day u) then u else if ¬ fSum (L0_worth u) (L0_count u) = 0 ∧ fCanEx u = false then u else fPlanD u
theorem fWhyU_c {u : TS} (h : OK u) : EQP u (fWhyU u) ∧ OK (fWhyU u) := by
  unfold fWhyU
  have := fPlanD_c h
  repeat' split
  all_goals first | exact ⟨EQP.rfl' u, h⟩ | exact ⟨this.1, this.2.2.2⟩
def fPost (u : TS) : TS := fForget (fEnter (fPlanD (fWhyU u)) (DR_day (fPlanD (fWhyU u))) (DR_note (fPlanD (fWhyU u))) false)
def fOpen (u : TS) (e : Nat) : TS := sAB (fFrees 0 u (J_firstLeg u e) (J_legsOf u e)) 1 e true
theorem OKg {u : TS} (h : OK u) (e : Nat) : OK (sAB u 1 e true) :=
  ⟨h.1, h.2.1, h.2.2.1, h.2.2.2.1, h.2.2.2.2.1, h.2.2.2.2.2.1, h.2.2.2.2.2.2.1, h.2.2.2.2.2.2.2.1, h.2.2.2.2.2.2.2.2.1, h.m0, h.m1⟩
def fMixA (u : TS) (d : Int64) (k : Nat) : Int64 := fF (fLeft u k) (fF (fTold u k) d 5) 5 * 31 + (nI (fPairN 1 u k 3)).toInt64
def fMixE (u : TS) (d : Int64) (e : Nat) : Nat → Int64
  | 0 => fF (fun w => (nI (fOfE u e w)).toInt64) d 4
  | g + 1 => fF (fOfL u e g) (fMixE u d e g) 4
def fDAu (v : TS) : Nat → TS
  | 0 => v
  | k + 1 => fPair 1 (fDAu v k) k 3
def fDAd (v : TS) (d : Int64) : Nat → Int64
  | 0 => d
  | k + 1 => fMixA (fDAu v k) (fDAd v d k) k
def fDE (v : TS) (d : Int64) : Nat → Int64
  | 0 => d
  | e + 1 => fMixE v (fDE v d e) e (J_legsOf v e)
theorem fDAu_c {v : TS} (h : OK v) : ∀ k, JL v (fDAu v k) ∧ OK (fDAu v k)
  | 0 => ⟨JL.rfl' v, h⟩
  | k + 1 => by
    obtain ⟨h1, h2⟩ := fDAu_c h k
    have := fPair_J 1 (fDAu v k) k 3 h2
    exact ⟨h1.trans this.1, this.2⟩
def fDv (u : TS) : TS := fDAu (fWhyU u) (AC_count u)
def fD1 (u : TS) : Int64 := fF (fun w => (fMany u w).toInt64) 58089 6 * 31 + (nI (fWhy u)).toInt64
def fD2 (u : TS) : Int64 := fDAd (fWhyU u) (fD1 u) (AC_count u)
def fD3 (u : TS) : Int64 := fDE (fDv u) (fD2 u) (J_count u)
def fD4 (u : TS) : Int64 := fF (fun x => (oI (fMatched (fDv u) x)).toInt64) (fD3 u) (LI_count u)
def fD5 (u : TS) : Int64 := fF (fun kd => fKind (fDv u) kd (AC_count (fDv u))) (fD4 u) 5
def fDig (u : TS) : Int64 := fD5 u * 31 + fWould (fDv u) (T_today (fDv u))
def fDigU (u : TS) : TS := fPC (fDv u) (T_today (fDv u)) (AC_count (fDv u))
theorem fDv_c {u : TS} (h : OK u) : OK (fDv u) ∧ J_count (fDv u) = J_count u ∧ LI_count (fDv u) = LI_count u ∧ AC_count (fDv u) = AC_count u ∧ J_legCount (fDv u) = J_legCount u ∧ T_today (fDv u) = T_today u := by
  have h1 := fWhyU_c h
  have h2 := fDAu_c h1.2 (AC_count u)
  have h3 := h1.1.n
  have h4 := h2.1.cnt
  have h5 : T_today (fDv u) = T_today (fWhyU u) := congrFun h2.1.1 _
  exact ⟨h2.2, by unfold fDv; omega, by unfold fDv; omega, by unfold fDv; omega, by unfold fDv; omega, by omega⟩

