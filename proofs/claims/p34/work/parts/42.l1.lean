/-! WHAT IS AS IT WAS: accounts, rates, the journal -/
def EJ (u v : TS) : Prop := (∀ k, k = 1 ∨ 6 ≤ k ∧ k ≤ 8 → v.1 k = u.1 k) ∧ (∀ k, k ≤ 1 ∨ 4 ≤ k ∧ k ≤ 11 → v.2.2.2.1 k = u.2.2.2.1 k) ∧ v.2.2.2.2.1 0 = u.2.2.2.2.1 0 ∧ v.2.2.2.2.2.1 = u.2.2.2.2.2.1 ∧ ∀ k, 4 ≤ k → v.2.2.2.2.2.2.2 k = u.2.2.2.2.2.2.2 k
theorem EJ.ac {u v : TS} (h : EJ u v) : AC_count v = AC_count u := h.1 1 (by decide)
theorem EJ.jn {u v : TS} (h : EJ u v) : J_count v = J_count u := h.1 6 (by decide)
theorem EJ.ln {u v : TS} (h : EJ u v) : J_legCount v = J_legCount u := h.1 7 (by decide)
theorem EJ.hn {u v : TS} (h : EJ u v) : HO_count v = HO_count u := h.1 8 (by decide)
theorem EJ.kind {u v : TS} (h : EJ u v) (i : Nat) : AC_kind v i = AC_kind u i := congrFun (h.2.1 0 (by decide)) i
theorem EJ.cur {u v : TS} (h : EJ u v) (i : Nat) : AC_currency v i = AC_currency u i := congrFun (h.2.1 1 (by decide)) i
theorem EJ.jday {u v : TS} (h : EJ u v) (i : Nat) : J_day v i = J_day u i := congrFun (h.2.1 4 (by decide)) i
theorem EJ.jnote {u v : TS} (h : EJ u v) (i : Nat) : J_note v i = J_note u i := congrFun (h.2.1 5 (by decide)) i
theorem EJ.first {u v : TS} (h : EJ u v) (i : Nat) : J_firstLeg v i = J_firstLeg u i := congrFun (h.2.1 6 (by decide)) i
theorem EJ.legsOf {u v : TS} (h : EJ u v) (i : Nat) : J_legsOf v i = J_legsOf u i := congrFun (h.2.1 7 (by decide)) i
theorem EJ.entryOf {u v : TS} (h : EJ u v) (i : Nat) : J_entryOf v i = J_entryOf u i := congrFun (h.2.1 8 (by decide)) i
theorem EJ.account {u v : TS} (h : EJ u v) (i : Nat) : J_account v i = J_account u i := congrFun (h.2.1 9 (by decide)) i
theorem EJ.rates {u v : TS} (h : EJ u v) (i : Nat) : AC_rates v i = AC_rates u i := congrFun h.2.2.1 i
theorem EJ.gone {u v : TS} (h : EJ u v) (i : Nat) : J_gone v i = J_gone u i := congrFun (congrFun h.2.2.2.1 1) i
theorem EJ.isC {u v : TS} (h : EJ u v) (i : Nat) : J_isClosing v i = J_isClosing u i := congrFun (congrFun h.2.2.2.1 2) i
theorem EJ.floor {u v : TS} (h : EJ u v) (i : Nat) : AC_hasFloor v i = AC_hasFloor u i := congrFun (congrFun h.2.2.2.1 0) i
theorem EJ.amount {u v : TS} (h : EJ u v) (i : Nat) : J_amount v i = J_amount u i := congrFun (h.2.2.2.2 4 (by decide)) i
theorem EJ.worth {u v : TS} (h : EJ u v) (i : Nat) : J_worth v i = J_worth u i := congrFun (h.2.2.2.2 5 (by decide)) i
theorem EJ.counts {u v : TS} (h : EJ u v) (g : Nat) : fCounts v g = fCounts u g := by unfold fCounts; rw [h.entryOf, h.gone]
theorem EJ.dayOf {u v : TS} (h : EJ u v) (g : Nat) : fDayOf v g = fDayOf u g := by unfold fDayOf; rw [h.entryOf, h.jday]
theorem EJ.closed {u v : TS} (h : EJ u v) (k : Nat) : fClosed v k = fClosed u k := by unfold fClosed; rw [h.kind]
theorem EJ.qEnd {u v : TS} (h : EJ u v) (e : Nat) : fEnd v e = fEnd u e := by
  induction e with
  | zero => rfl
  | succ e ih => unfold fEnd; rw [ih, h.legsOf]
theorem EJ.qAbsA {u v : TS} (h : EJ u v) (k g : Nat) : fAbsA v k g = fAbsA u k g := by
  induction g with
  | zero => rfl
  | succ g ih => unfold fAbsA; rw [ih, h.account, h.amount]
theorem EJ.qAmt {u v : TS} (h : EJ u v) (w d g : Nat) : fAmt v w d g = fAmt u w d g := by
  induction g with
  | zero => rfl
  | succ g ih => unfold fAmt; rw [ih, h.account, h.amount, h.counts, h.dayOf]
theorem EJ.qWor {u v : TS} (h : EJ u v) (w g : Nat) : fWor v w g = fWor u w g := by
  induction g with
  | zero => rfl
  | succ g ih => unfold fWor; rw [ih, h.account, h.worth, h.counts]
theorem EJ.qLastC {u v : TS} (h : EJ u v) (n : Nat) : fLastC v n = fLastC u n := by
  induction n with
  | zero => rfl
  | succ n ih => unfold fLastC; rw [ih, h.isC, h.gone]
theorem EJ.qStand {u v : TS} (h : EJ u v) (n : Nat) : fStand v n = fStand u n := by
  induction n with
  | zero => rfl
  | succ n ih => unfold fStand; rw [ih, h.gone]
theorem EJ.qLock {u v : TS} (h : EJ u v) : fLock v = fLock u := by
  unfold fLock
  rw [h.jn, h.qLastC, show J_day v = J_day u from h.2.1 4 (by decide)]
theorem EJ.qWorth {u v : TS} (h : EJ u v) (k : Nat) (x : Int64) : fWorth v k x = fWorth u k x := by unfold fWorth; rw [h.cur, h.rates]
/-! WHAT IS AS IT WAS: all but the draft, the plan and the two matchings -/
def ES (u v : TS) : Prop := (∀ k, k = 1 ∨ 6 ≤ k → v.1 k = u.1 k) ∧ (∀ k, k ≠ 2 ∧ k ≠ 3 → v.2.2.2.1 k = u.2.2.2.1 k) ∧ v.2.2.2.2.1 = u.2.2.2.2.1 ∧ v.2.2.2.2.2.1 = u.2.2.2.2.2.1 ∧ ∀ k, 4 ≤ k → v.2.2.2.2.2.2.2 k = u.2.2.2.2.2.2.2 k
theorem ES.rfl' (u : TS) : ES u u := ⟨fun _ _ => rfl, fun _ _ => rfl, rfl, rfl, fun _ _ => rfl⟩
theorem ES.trans {u v w : TS} (h : ES u v) (g : ES v w) : ES u w := ⟨fun k q => (g.1 k q).trans (h.1 k q), fun k q => (g.2.1 k q).trans (h.2.1 k q), g.2.2.1.trans h.2.2.1, g.2.2.2.1.trans h.2.2.2.1, fun k q => (g.2.2.2.2 k q).trans (h.2.2.2.2 k q)⟩
theorem ES.symm {u v : TS} (h : ES u v) : ES v u := ⟨fun k q => (h.1 k q).symm, fun k q => (h.2.1 k q).symm, h.2.2.1.symm, h.2.2.2.1.symm, fun k q => (h.2.2.2.2 k q).symm⟩
theorem JL.es {u v : TS} (h : JL u v) : ES u v := ⟨fun _ _ => by rw [h.1], fun _ _ => by rw [h.2.2.2.1], h.2.2.2.2.1, h.2.2.2.2.2.1, fun _ _ => by rw [h.2.2.2.2.2.2]⟩
theorem EQP.es {u v : TS} (h : EQP u v) : ES u v := ⟨fun k q => h.1 k (by omega), fun k q => h.2.2.2.1 k q.2, h.2.2.2.2.1, h.2.2.2.2.2.1, fun k q => h.2.2.2.2.2.2.2 k (by omega)⟩
theorem ES.ej {u v : TS} (h : ES u v) : EJ u v := ⟨fun k q => h.1 k (by omega), fun k q => h.2.1 k (by omega), congrFun h.2.2.1 0, h.2.2.2.1, h.2.2.2.2⟩
theorem ES.xn {u v : TS} (h : ES u v) : LI_count v = LI_count u := h.1 9 (by decide)
theorem ES.lacc {u v : TS} (h : ES u v) (i : Nat) : LI_account v i = LI_account u i := congrFun (h.2.1 12 (by decide)) i
theorem ES.lday {u v : TS} (h : ES u v) (i : Nat) : LI_day v i = LI_day u i := congrFun (h.2.1 13 (by decide)) i
theorem ES.byDay {u v : TS} (h : ES u v) (i : Nat) : LI_byDay v i = LI_byDay u i := congrFun (h.2.1 14 (by decide)) i
theorem ES.lam {u v : TS} (h : ES u v) (i : Nat) : LI_amount v i = LI_amount u i := congrFun (congrFun h.2.2.1 3) i
theorem ES.qLCnt {u v : TS} (h : ES u v) (w n : Nat) : fLCnt v w n = fLCnt u w n := by
  induction n with
  | zero => rfl
  | succ n ih => unfold fLCnt; rw [ih, h.lacc]
theorem ES.ac {u v : TS} (h : ES u v) : AC_count v = AC_count u := h.ej.ac
theorem ES.jn {u v : TS} (h : ES u v) : J_count v = J_count u := h.ej.jn
theorem ES.ln {u v : TS} (h : ES u v) : J_legCount v = J_legCount u := h.ej.ln
theorem ES.hn {u v : TS} (h : ES u v) : HO_count v = HO_count u := h.ej.hn
theorem ES.kind {u v : TS} (h : ES u v) (i : Nat) : AC_kind v i = AC_kind u i := h.ej.kind i
theorem ES.cur {u v : TS} (h : ES u v) (i : Nat) : AC_currency v i = AC_currency u i := h.ej.cur i
theorem ES.jday {u v : TS} (h : ES u v) (i : Nat) : J_day v i = J_day u i := h.ej.jday i
theorem ES.jnote {u v : TS} (h : ES u v) (i : Nat) : J_note v i = J_note u i := h.ej.jnote i
theorem ES.first {u v : TS} (h : ES u v) (i : Nat) : J_firstLeg v i = J_firstLeg u i := h.ej.first i
theorem ES.legsOf {u v : TS} (h : ES u v) (i : Nat) : J_legsOf v i = J_legsOf u i := h.ej.legsOf i
theorem ES.entryOf {u v : TS} (h : ES u v) (i : Nat) : J_entryOf v i = J_entryOf u i := h.ej.entryOf i
theorem ES.account {u v : TS} (h : ES u v) (i : Nat) : J_account v i = J_account u i := h.ej.account i
theorem ES.rates {u v : TS} (h : ES u v) (i : Nat) : AC_rates v i = AC_rates u i := h.ej.rates i
theorem ES.gone {u v : TS} (h : ES u v) (i : Nat) : J_gone v i = J_gone u i := h.ej.gone i
theorem ES.isC {u v : TS} (h : ES u v) (i : Nat) : J_isClosing v i = J_isClosing u i := h.ej.isC i
theorem ES.floor {u v : TS} (h : ES u v) (i : Nat) : AC_hasFloor v i = AC_hasFloor u i := h.ej.floor i
theorem ES.amount {u v : TS} (h : ES u v) (i : Nat) : J_amount v i = J_amount u i := h.ej.amount i
theorem ES.worth {u v : TS} (h : ES u v) (i : Nat) : J_worth v i = J_worth u i := h.ej.worth i
theorem ES.counts {u v : TS} (h : ES u v) (g : Nat) : fCounts v g = fCounts u g := h.ej.counts g
theorem ES.dayOf {u v : TS} (h : ES u v) (g : Nat) : fDayOf v g = fDayOf u g := h.ej.dayOf g
theorem ES.closed {u v : TS} (h : ES u v) (k : Nat) : fClosed v k = fClosed u k := h.ej.closed k
theorem ES.qEnd {u v : TS} (h : ES u v) (e : Nat) : fEnd v e = fEnd u e := h.ej.qEnd e
theorem ES.qAbsA {u v : TS} (h : ES u v) (k g : Nat) : fAbsA v k g = fAbsA u k g := h.ej.qAbsA k g
theorem ES.qAmt {u v : TS} (h : ES u v) (w d g : Nat) : fAmt v w d g = fAmt u w d g := h.ej.qAmt w d g
theorem ES.qWor {u v : TS} (h : ES u v) (w g : Nat) : fWor v w g = fWor u w g := h.ej.qWor w g
theorem ES.qLastC {u v : TS} (h : ES u v) (n : Nat) : fLastC v n = fLastC u n := h.ej.qLastC n
theorem ES.qStand {u v : TS} (h : ES u v) (n : Nat) : fStand v n = fStand u n := h.ej.qStand n
theorem ES.qLock {u v : TS} (h : ES u v) : fLock v = fLock u := h.ej.qLock
theorem ES.qWorth {u v : TS} (h : ES u v) (k : Nat) (x : Int64) : fWorth v k x = fWorth u k x := h.ej.qWorth k x
theorem fSum_congr {f g : Nat → Int64} {n : Nat} (h : ∀ i, i < n → f i = g i) : fSum f n = fSum g n := by
  induction n with
  | zero => rfl
  | succ n ih => unfold fSum; rw [ih (fun i hi => h i (by omega)), h n (by omega)]
theorem INV.core2 {n i : Nat} {u v : TS} (h : INV n i u) (g : EJ u v) (hok : OK v) (ht : T_today v ≤ 5 * i) (hx : T_exchangeAccount v = some 0) (hl : LI_count v ≤ i) (hd : ∀ x, LI_day v x < 600) (m0 : MI 0 v) (mg : MG v) (m1 : MI 1 v) : INV n i v := by
  obtain ⟨a1, a2, a3, a4, a5, a6, a7, a8, a9, a10, -, -, -⟩ := h
  refine ⟨hok, by rw [g.ac, g.jn, g.ln]; exact ⟨a2.1, a2.2.1, a2.2.2.1, ht, a2.2.2.2.2.1, a2.2.2.2.2.2.1, hl⟩, hx, (g.kind 0).trans a4, (g.cur 0).trans a5, hd, ?_, ?_, ?_, ?_, m0, mg, m1⟩
  · unfold RT
    simp only [g.rates, g.jn, g.gone]
    exact a7
  · unfold CT
    simp only [g.first, g.jn, g.ln, g.entryOf, g.legsOf, g.qEnd]
    exact a8
  · intro e he
    rw [g.jn] at he
    rw [g.legsOf, ← a9 e he]
    exact fSum_congr (fun i _ => by rw [g.first, g.worth])
  · intro k hk hc
    rw [g.ac] at hk
    rw [g.closed] at hc
    rw [g.qAbsA, g.ln]
    exact a10 k hk hc
theorem INV.core {n i : Nat} {u v : TS} (h : INV n i u) (g : ES u v) (hok : OK v) (ht : T_today v ≤ 5 * i) (hx : T_exchangeAccount v = some 0) (m0 : MI 0 v) (mg : MG v) (m1 : MI 1 v) : INV n i v :=
  h.core2 g.ej hok ht hx (by rw [g.xn]; exact h.2.1.2.2.2.2.2.2) (fun x => by rw [g.lday]; exact h.2.2.2.2.2.1 x) m0 mg m1
theorem MI.core {k : Nat} {u v : TS} (h : MI k u) (g : ES u v) (h1 : ∀ x, mLo k v x = mLo k u x) (h2 : ∀ x, mFi k v x = mFi k u x) (h3 : ∀ x, mSe k v x = mSe k u x) : MI k v := by
  unfold MI
  simp only [h1, h2, h3, g.ln, g.xn, g.account, g.lacc]
  exact h
theorem MG.core {u v : TS} (h : MG u) (g : ES u v) (h1 : ∀ x, mLo 0 v x = mLo 0 u x) : MG v := by
  intro y x e
  rw [h1] at e
  rw [g.counts]
  exact h y x e
theorem EQP.m {u v : TS} (h : EQP u v) (k : Nat) : (∀ x, mLo k v x = mLo k u x) ∧ (∀ x, mFi k v x = mFi k u x) ∧ ∀ x, mSe k v x = mSe k u x := by
  unfold mLo mFi mSe M0_lineOfLeg M0_firstOfLine M0_secondOfLine M1_lineOfLeg M1_firstOfLine M1_secondOfLine
  rw [h.2.2.2.2.2.2.1]
  exact ⟨fun _ => rfl, fun _ => rfl, fun _ => rfl⟩
theorem INV.plan {n i : Nat} {u v : TS} (h : INV n i u) (g : EQP u v) (hok : OK v) : INV n i v :=
  h.core g.es hok (by rw [g.n.2.2.2.2.2.2.1]; exact h.2.1.2.2.2.1) ((congrFun g.2.2.1 0).trans h.2.2.1) (h.2.2.2.2.2.2.2.2.2.2.1.core g.es (g.m 0).1 (g.m 0).2.1 (g.m 0).2.2) (h.2.2.2.2.2.2.2.2.2.2.2.1.core g.es (g.m 0).1) (h.2.2.2.2.2.2.2.2.2.2.2.2.core g.es (g.m 1).1 (g.m 1).2.1 (g.m 1).2.2)
theorem L_up {n i : Nat} {u : TS} (h : INV n i u) : INV n (i + 1) u := by
  obtain ⟨a1, a2, a3, a4, a5, a6, a7, a8, a9, a10, a11, a12, a13⟩ := h
  refine ⟨a1, ⟨a2.1, a2.2.1, a2.2.2.1, by omega, by omega, by omega, by omega⟩, a3, a4, a5, a6, a7, a8, a9, fun k hk hc => ?_, a11, a12, a13⟩
  have := a10 k hk hc
  rw [Nat.pow_succ]
  omega
theorem L_pass {n i : Nat} {u : TS} (h : INV n i u) (hi : i < 30) {d : Nat} (hd : d ≤ 5) : INV n (i + 1) (sN u 0 (T_today u + d)) := by
  have h' := L_up h
  have hn := h'.1.n
  have ht : T_today u ≤ 5 * i := h.2.1.2.2.2.1
  have g : ES u (sN u 0 (T_today u + d)) := ⟨fun k q => upne (by omega), fun _ _ => rfl, rfl, rfl, fun _ _ => rfl⟩
  exact h'.core g ⟨⟨hn.1, hn.2.1, hn.2.2.1, hn.2.2.2.1, hn.2.2.2.2.1, hn.2.2.2.2.2.1, hn.2.2.2.2.2.2.1, show T_today u + d ≤ 364 by omega, hn.2.2.2.2.2.2.2.2⟩, h'.1.2⟩ (show T_today u + d ≤ _ by omega) h'.2.2.1 h'.2.2.2.2.2.2.2.2.2.2.1 h'.2.2.2.2.2.2.2.2.2.2.2.1 h'.2.2.2.2.2.2.2.2.2.2.2.2
theorem I0_ex {n : Nat} {u : TS} (h : I0 n u) (hn : 3 ≤ n ∧ n ≤ 8) : INV n 0 (sO u 0 (some 0)) := by
  obtain ⟨a1, a2, a3, a4, a5, a6, a7, a8, a9, a10⟩ := h
  have hc := a1.n
  refine ⟨⟨a1.1, a1.2.1, a1.2.2.1, a1.2.2.2.1, a1.2.2.2.2.1, a1.2.2.2.2.2.1, a1.2.2.2.2.2.2.1, ?_, a1.2.2.2.2.2.2.2.2⟩, ⟨a2, hn.1, hn.2, Nat.le_of_eq a6, Nat.le_of_eq a3, Nat.le_of_eq a4, Nat.le_of_eq a5⟩, rfl, (a7 (by omega)).1, (a7 (by omega)).2, fun x => by show LI_day u x < 600; rw [a8]; decide, a9, ?_, ?_, ?_, ?_, ?_, ?_⟩
  · intro k e
    have e : some 0 = some k := e
    cases e
    show 0 < AC_count u
    omega
  · refine ⟨fun e he => ?_, ?_, fun e i he => ?_⟩
    · have he : e < J_count u := he
      omega
    · show J_legCount u = fEnd _ (J_count u)
      rw [a3, a4]; rfl
    · have he : e < J_count u := he
      omega
  · intro e he
    have he : e < J_count u := he
    omega
  · intro k hk hcl
    show fAbsA _ k (J_legCount u) ≤ _
    rw [a4]
    exact Nat.zero_le _
  · exact ⟨fun g x e => absurd (((a10 0 g).1).symm.trans e) (by simp), fun g x e => absurd (((a10 0 g).2.1).symm.trans e) (by simp), fun g x e => absurd (((a10 0 g).2.2).symm.trans e) (by simp)⟩
  · intro g x e
    exact absurd (((a10 0 g).1).symm.trans e) (by simp)
  · exact ⟨fun g x e => absurd (((a10 1 g).1).symm.trans e) (by simp), fun g x e => absurd (((a10 1 g).2.1).symm.trans e) (by simp), fun g x e => absurd (((a10 1 g).2.2).symm.trans e) (by simp)⟩
