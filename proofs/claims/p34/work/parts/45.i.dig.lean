/-! THE CHECKSUM -/
/-- all is as it was but the plan and the trial matching -/
def ED (u v : TS) : Prop := (∀ k, k ≠ 5 → v.1 k = u.1 k) ∧ v.2.1 = u.2.1 ∧ v.2.2.1 = u.2.2.1 ∧ (∀ k, k ≠ 3 → v.2.2.2.1 k = u.2.2.2.1 k) ∧ v.2.2.2.2.1 = u.2.2.2.2.1 ∧ v.2.2.2.2.2.1 = u.2.2.2.2.2.1 ∧ (∀ k, k < 3 → v.2.2.2.2.2.2.1 k = u.2.2.2.2.2.2.1 k) ∧ ∀ k, k ≠ 2 ∧ k ≠ 3 → v.2.2.2.2.2.2.2 k = u.2.2.2.2.2.2.2 k
theorem ED.rfl' (u : TS) : ED u u := ⟨fun _ _ => rfl, rfl, rfl, fun _ _ => rfl, rfl, rfl, fun _ _ => rfl, fun _ _ => rfl⟩
theorem ED.trans {u v w : TS} (h : ED u v) (g : ED v w) : ED u w := ⟨fun k q => (g.1 k q).trans (h.1 k q), g.2.1.trans h.2.1, g.2.2.1.trans h.2.2.1, fun k q => (g.2.2.2.1 k q).trans (h.2.2.2.1 k q), g.2.2.2.2.1.trans h.2.2.2.2.1, g.2.2.2.2.2.1.trans h.2.2.2.2.2.1, fun k q => (g.2.2.2.2.2.2.1 k q).trans (h.2.2.2.2.2.2.1 k q), fun k q => (g.2.2.2.2.2.2.2 k q).trans (h.2.2.2.2.2.2.2 k q)⟩
theorem ED.symm {u v : TS} (h : ED u v) : ED v u := ⟨fun k q => (h.1 k q).symm, h.2.1.symm, h.2.2.1.symm, fun k q => (h.2.2.2.1 k q).symm, h.2.2.2.2.1.symm, h.2.2.2.2.2.1.symm, fun k q => (h.2.2.2.2.2.2.1 k q).symm, fun k q => (h.2.2.2.2.2.2.2 k q).symm⟩
theorem EQP.ed {u v : TS} (h : EQP u v) : ED u v := ⟨h.1, h.2.1, h.2.2.1, h.2.2.2.1, h.2.2.2.2.1, h.2.2.2.2.2.1, fun _ _ => by rw [h.2.2.2.2.2.2.1], h.2.2.2.2.2.2.2⟩
theorem PV.ed {u v : TS} (h : PV 1 u v) : ED u v := by
  have j := h.1
  have ot := h.2.2.2.2 0 (by decide)
  refine ⟨fun _ _ => by rw [j.1], j.2.1, j.2.2.1, fun _ _ => by rw [j.2.2.2.1], j.2.2.2.2.1, j.2.2.2.2.2.1, fun k q => ?_, fun _ _ => by rw [j.2.2.2.2.2.2]⟩
  rcases (show k = 0 ∨ k = 1 ∨ k = 2 by omega) with rfl | rfl | rfl
  · exact funext ot.1
  · exact funext ot.2.1
  · exact funext ot.2.2
theorem ED.es {u v : TS} (h : ED u v) : ES u v := ⟨fun k q => h.1 k (by omega), fun k q => h.2.2.2.1 k q.2, h.2.2.2.2.1, h.2.2.2.2.2.1, fun k q => h.2.2.2.2.2.2.2 k (by omega)⟩
theorem ED.lo {u v : TS} (h : ED u v) (g : Nat) : mLo 0 v g = mLo 0 u g := congrFun (h.2.2.2.2.2.2.1 0 (by decide)) g
theorem ED.fi {u v : TS} (h : ED u v) (g : Nat) : mFi 0 v g = mFi 0 u g := congrFun (h.2.2.2.2.2.2.1 1 (by decide)) g
theorem ED.today {u v : TS} (h : ED u v) : T_today v = T_today u := h.1 0 (by decide)
theorem ED.tc {u v : TS} (h : ED u v) : ∀ r, fTC v r = fTC u r
  | 0 => rfl
  | r + 1 => by
    have e1 : L0_count v = L0_count u := h.1 4 (by decide)
    have e2 : ∀ j, L0_account v j = L0_account u j := fun j => congrFun (h.2.2.2.1 2 (by decide)) j
    have e3 := h.es.cur
    unfold fTC
    rw [ED.tc h r, e1, e2, e2, e3, e3]
theorem ED.why {u v : TS} (h : ED u v) : fWhy v = fWhy u := by
  have e1 : L0_count v = L0_count u := h.1 4 (by decide)
  have e2 : DR_isThere v = DR_isThere u := congrFun h.2.1 0
  have e3 : DR_day v = DR_day u := h.1 2 (by decide)
  have e4 : L0_worth v = L0_worth u := h.2.2.2.2.2.2.2 1 (by decide)
  have e5 : T_exchangeAccount v = T_exchangeAccount u := congrFun h.2.2.1 0
  have e6 : fCanEx v = fCanEx u := by unfold fCanEx; rw [e5, e1, h.tc, e4]
  unfold fWhy
  rw [e1, e2, e3, e4, e6, h.es.qLock, h.es.jn]
theorem ED.many {u v : TS} (h : ED u v) (w : Nat) : fMany v w = fMany u w := by
  unfold fMany
  rw [h.es.ac, h.es.jn, h.es.qStand, h.es.xn, h.today, h.es.qLock]
theorem ED.isLeft {u v : TS} (h : ED u v) (x w : Nat) : fIsLeft 0 v x w = fIsLeft 0 u x w := by unfold fIsLeft; rw [h.es.lacc, h.fi]
theorem ED.legLeft {u v : TS} (h : ED u v) (g w : Nat) : fLegLeft 0 v g w = fLegLeft 0 u g w := by unfold fLegLeft; rw [h.es.account, h.lo, h.es.counts]
theorem ED.lleft {u v : TS} (h : ED u v) (w : Nat) : ∀ n, fLLeft 0 v w n = fLLeft 0 u w n
  | 0 => rfl
  | n + 1 => by unfold fLLeft; rw [h.lleft w n, h.isLeft]
theorem ED.lsum {u v : TS} (h : ED u v) (w : Nat) : ∀ n, fLSum 0 v w n = fLSum 0 u w n
  | 0 => rfl
  | n + 1 => by unfold fLSum; rw [h.lsum w n, h.isLeft, h.es.lam]
theorem ED.gleft {u v : TS} (h : ED u v) (w : Nat) : ∀ n, fGLeft 0 v w n = fGLeft 0 u w n
  | 0 => rfl
  | n + 1 => by unfold fGLeft; rw [h.gleft w n, h.legLeft]
theorem ED.gsum {u v : TS} (h : ED u v) (w : Nat) : ∀ n, fGSum 0 v w n = fGSum 0 u w n
  | 0 => rfl
  | n + 1 => by unfold fGSum; rw [h.gsum w n, h.legLeft, h.es.amount]
theorem ED.left {u v : TS} (h : ED u v) (k : Nat) : fLeft v k = fLeft u k := by
  funext w
  unfold fLeft
  rw [h.es.xn, h.es.ln, h.es.qLCnt, h.lleft, h.gleft, h.lsum, h.gsum]
theorem ED.told {u v : TS} (h : ED u v) (k : Nat) : fTold v k = fTold u k := by
  funext w
  unfold fTold fStO fStd fBal
  rw [h.es.ln, h.es.qAmt, h.es.qWor, h.es.kind]
theorem ED.ofE {u v : TS} (h : ED u v) (e w : Nat) : fOfE v e w = fOfE u e w := by
  unfold fOfE
  rw [h.es.jday, h.es.jnote, h.es.legsOf, h.es.gone]
theorem ED.ofL {u v : TS} (h : ED u v) (e g : Nat) : fOfL v e g = fOfL u e g := by
  funext w
  unfold fOfL
  rw [h.es.first, h.es.account, h.es.amount, h.es.worth, h.lo]
theorem ED.mixE {u v : TS} (h : ED u v) (d : Int64) (e : Nat) : ∀ g, fMixE v d e g = fMixE u d e g
  | 0 => by
    unfold fMixE
    rw [show (fun w => (nI (fOfE v e w)).toInt64) = fun w => (nI (fOfE u e w)).toInt64 from funext (fun w => by rw [h.ofE])]
  | g + 1 => by
    unfold fMixE
    rw [h.mixE d e g, h.ofL]
theorem ED.dE {u v : TS} (h : ED u v) (d : Int64) : ∀ e, fDE v d e = fDE u d e
  | 0 => rfl
  | e + 1 => by
    unfold fDE
    rw [h.dE d e, h.mixE, h.es.legsOf]
theorem ED.matched {u v : TS} (h : ED u v) (x : Nat) : fMatched v x = fMatched u x := by
  unfold fMatched
  rw [h.fi, show J_entryOf v = J_entryOf u from funext h.es.entryOf]
theorem ED.kinds {u v : TS} (h : ED u v) (kd : Nat) : ∀ n, fKind v kd n = fKind u kd n
  | 0 => rfl
  | n + 1 => by
    unfold fKind
    rw [h.kinds kd n, h.es.kind, h.es.qWor, h.es.ln]
theorem would_eq (u : TS) (d : Nat) : fWould u d = -fPCs u d (AC_count u) := by unfold fWould; rw [(fPC_rows (u := u) (d := d) _ (Nat.le_refl _)).2.1]
theorem ED.would {u v : TS} (h : ED u v) (d : Nat) : fWould v d = fWould u d := by rw [would_eq, would_eq, h.es.qPCs, h.es.ac]
theorem PV.trans {k : Nat} {u v w : TS} (h : PV k u v) (g : PV k v w) : PV k u w := ⟨h.1.trans g.1, g.2.1, g.2.2.1, fun z => g.2.2.2.1 (h.2.2.2.1 z), fun k' hk => (h.2.2.2.2 k' hk).trans (g.2.2.2.2 k' hk)⟩
theorem PV.da {v : TS} (h : OK v) (m : MI 1 v) : ∀ k, PV 1 v (fDAu v k)
  | 0 => PV.rfl' h m
  | k + 1 => by
    have ih := PV.da h m k
    exact ih.trans (PV.pair ih.2.1 ih.2.2.1 k 3)
theorem ED.mixA {u v : TS} (h : ED u v) (o : OK u) (o' : OK v) (m : MI 1 u) (m' : MI 1 v) (d : Int64) (k : Nat) : fMixA v d k = fMixA u d k := by
  unfold fMixA
  rw [h.left, h.told, fPairN_sim h.es o o' m m']
theorem ED.da {u v : TS} (h : ED u v) (o : OK u) (o' : OK v) (m : MI 1 u) (m' : MI 1 v) (k : Nat) : ED (fDAu u k) (fDAu v k) :=
  ((PV.da o m k).ed.symm.trans h).trans (PV.da o' m' k).ed
theorem ED.dad {u v : TS} (h : ED u v) (o : OK u) (o' : OK v) (m : MI 1 u) (m' : MI 1 v) (d : Int64) : ∀ k, fDAd v d k = fDAd u d k
  | 0 => rfl
  | k + 1 => by
    have p := PV.da o m k
    have p' := PV.da o' m' k
    unfold fDAd
    rw [h.dad o o' m m' d k, (h.da o o' m m' k).mixA p.2.1 p'.2.1 p.2.2.1 p'.2.2.1]
theorem L_dig {n i : Nat} {u : TS} (h : INV n i u) (hi : i ≤ 30) : INV n i (fDigU u) ∧ fDig (fDigU u) = fDig u := by
  have why : ∀ {x : TS}, INV n i x → INV n i (fWhyU x) ∧ ED x (fWhyU x) := fun {x} hx => ⟨hx.plan (fWhyU_c hx.1).1 (fWhyU_c hx.1).2, (fWhyU_c hx.1).1.ed⟩
  have w1 := why h
  have dv : ∀ {x : TS} (k : Nat), INV n i x → INV n i (fDAu x k) ∧ ED x (fDAu x k) := by
    intro x k hx
    have p := PV.da hx.1 hx.2.2.2.2.2.2.2.2.2.2.2.2 k
    have g := p.1.es
    have ot := p.2.2.2.2 0 (by decide)
    exact ⟨hx.core g p.2.1 (by rw [p.ed.today]; exact hx.2.1.2.2.2.1) ((congrFun p.1.2.2.1 0).trans hx.2.2.1) (hx.2.2.2.2.2.2.2.2.2.2.1.core g ot.1 ot.2.1 ot.2.2) (hx.2.2.2.2.2.2.2.2.2.2.2.1.core g ot.1) p.2.2.1, p.ed⟩
  have d1 := dv (AC_count u) w1.1
  have c1 := fPC_c (fDv u) (T_today (fDv u)) _ (Nat.le_refl _)
  have I : INV n i (fDigU u) := d1.1.plan c1.1 (fPC_OK d1.1.1 _ (Nat.le_refl _))
  refine ⟨I, ?_⟩
  have e : ED u (fDigU u) := (w1.2.trans d1.2).trans c1.1.ed
  generalize fDigU u = w at *
  have w2 := why I
  have ew : ED (fWhyU u) (fWhyU w) := (w1.2.symm.trans e).trans w2.2
  have m1 := w1.1.2.2.2.2.2.2.2.2.2.2.2.2
  have m2 := w2.1.2.2.2.2.2.2.2.2.2.2.2.2
  have ev : ED (fDv u) (fDv w) := by
    unfold fDv
    rw [e.es.ac]
    exact ew.da w1.1.1 w2.1.1 m1 m2 _
  have f1 : fD1 w = fD1 u := by
    unfold fD1
    rw [show (fun x => (fMany w x).toInt64) = fun x => (fMany u x).toInt64 from funext (fun x => by rw [e.many]), e.why]
  have f2 : fD2 w = fD2 u := by
    unfold fD2
    rw [f1, e.es.ac, ew.dad w1.1.1 w2.1.1 m1 m2]
  have f3 : fD3 w = fD3 u := by
    unfold fD3
    rw [f2, e.es.jn, ev.dE]
  have f4 : fD4 w = fD4 u := by
    unfold fD4
    rw [f3, e.es.xn, show (fun x => (oI (fMatched (fDv w) x)).toInt64) = fun x => (oI (fMatched (fDv u) x)).toInt64 from funext (fun x => by rw [ev.matched])]
  have f5 : fD5 w = fD5 u := by
    unfold fD5
    rw [f4, ev.es.ac, show (fun kd => fKind (fDv w) kd (AC_count (fDv u))) = fun kd => fKind (fDv u) kd (AC_count (fDv u)) from funext (fun kd => ev.kinds kd _)]
  unfold fDig
  rw [f5, ev.today, ev.would]
