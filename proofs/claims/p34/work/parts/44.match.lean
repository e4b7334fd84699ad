/-! THE MATCHINGS -/
theorem lo_sLo (k : Nat) (u : TS) (g : Nat) (v : Option Nat) (y : Nat) : mLo k (msLo k u g v) y = if y = g then v else mLo k u y := by
  unfold mLo msLo; by_cases h : k = 0 <;> simp only [h, if_true, if_false] <;> rfl
theorem lo_sFi (k : Nat) (u : TS) (g : Nat) (v : Option Nat) (y : Nat) : mLo k (msFi k u g v) y = mLo k u y := by
  unfold mLo msFi; by_cases h : k = 0 <;> simp only [h, if_true, if_false] <;> rfl
theorem lo_sSe (k : Nat) (u : TS) (g : Nat) (v : Option Nat) (y : Nat) : mLo k (msSe k u g v) y = mLo k u y := by
  unfold mLo msSe; by_cases h : k = 0 <;> simp only [h, if_true, if_false] <;> rfl
theorem fi_sLo (k : Nat) (u : TS) (g : Nat) (v : Option Nat) (y : Nat) : mFi k (msLo k u g v) y = mFi k u y := by
  unfold mFi msLo; by_cases h : k = 0 <;> simp only [h, if_true, if_false] <;> rfl
theorem fi_sFi (k : Nat) (u : TS) (g : Nat) (v : Option Nat) (y : Nat) : mFi k (msFi k u g v) y = if y = g then v else mFi k u y := by
  unfold mFi msFi; by_cases h : k = 0 <;> simp only [h, if_true, if_false] <;> rfl
theorem fi_sSe (k : Nat) (u : TS) (g : Nat) (v : Option Nat) (y : Nat) : mFi k (msSe k u g v) y = mFi k u y := by
  unfold mFi msSe; by_cases h : k = 0 <;> simp only [h, if_true, if_false] <;> rfl
theorem se_sLo (k : Nat) (u : TS) (g : Nat) (v : Option Nat) (y : Nat) : mSe k (msLo k u g v) y = mSe k u y := by
  unfold mSe msLo; by_cases h : k = 0 <;> simp only [h, if_true, if_false] <;> rfl
theorem se_sFi (k : Nat) (u : TS) (g : Nat) (v : Option Nat) (y : Nat) : mSe k (msFi k u g v) y = mSe k u y := by
  unfold mSe msFi; by_cases h : k = 0 <;> simp only [h, if_true, if_false] <;> rfl
theorem se_sSe (k : Nat) (u : TS) (g : Nat) (v : Option Nat) (y : Nat) : mSe k (msSe k u g v) y = if y = g then v else mSe k u y := by
  unfold mSe msSe; by_cases h : k = 0 <;> simp only [h, if_true, if_false] <;> rfl
/-- the other matching is as it was -/
def OT (k : Nat) (u v : TS) : Prop := (∀ g, mLo k v g = mLo k u g) ∧ (∀ g, mFi k v g = mFi k u g) ∧ ∀ g, mSe k v g = mSe k u g
theorem OT.rfl' (k : Nat) (u : TS) : OT k u u := ⟨fun _ => rfl, fun _ => rfl, fun _ => rfl⟩
theorem OT.trans {k : Nat} {u v w : TS} (h : OT k u v) (g : OT k v w) : OT k u w := ⟨fun x => (g.1 x).trans (h.1 x), fun x => (g.2.1 x).trans (h.2.1 x), fun x => (g.2.2 x).trans (h.2.2 x)⟩
theorem OT.sLo {k k' : Nat} (hk : ¬ (k = 0 ↔ k' = 0)) (u : TS) (g : Nat) (v : Option Nat) : OT k' u (msLo k u g v) := by
  unfold OT mLo mFi mSe msLo
  by_cases h : k = 0 <;> by_cases h' : k' = 0 <;> simp only [h, h', if_true, if_false] <;> first | exact ⟨fun _ => rfl, fun _ => rfl, fun _ => rfl⟩ | exact absurd (by simp [h, h']) hk
theorem OT.sFi {k k' : Nat} (hk : ¬ (k = 0 ↔ k' = 0)) (u : TS) (g : Nat) (v : Option Nat) : OT k' u (msFi k u g v) := by
  unfold OT mLo mFi mSe msFi
  by_cases h : k = 0 <;> by_cases h' : k' = 0 <;> simp only [h, h', if_true, if_false] <;> first | exact ⟨fun _ => rfl, fun _ => rfl, fun _ => rfl⟩ | exact absurd (by simp [h, h']) hk
theorem OT.sSe {k k' : Nat} (hk : ¬ (k = 0 ↔ k' = 0)) (u : TS) (g : Nat) (v : Option Nat) : OT k' u (msSe k u g v) := by
  unfold OT mLo mFi mSe msSe
  by_cases h : k = 0 <;> by_cases h' : k' = 0 <;> simp only [h, h', if_true, if_false] <;> first | exact ⟨fun _ => rfl, fun _ => rfl, fun _ => rfl⟩ | exact absurd (by simp [h, h']) hk
theorem OT.clr {k k' : Nat} (hk : ¬ (k = 0 ↔ k' = 0)) (u : TS) (o : Option Nat) : OT k' u (fClrO k u o) := by
  cases o
  · exact OT.rfl' _ _
  · exact OT.sLo hk _ _ _
theorem OT.free {k k' : Nat} (hk : ¬ (k = 0 ↔ k' = 0)) (u : TS) (x : Nat) : OT k' u (fFree k u x) :=
  (((OT.clr hk u _).trans (OT.clr hk _ _)).trans (OT.sFi hk _ _ _)).trans (OT.sSe hk _ _ _)
theorem OT.bind {k k' : Nat} (hk : ¬ (k = 0 ↔ k' = 0)) (u : TS) (x f : Nat) (s : Option Nat) : OT k' u (fBind k u x f s) := by
  cases s
  · exact ((OT.sFi hk _ _ _).trans (OT.sSe hk _ _ _)).trans (OT.sLo hk _ _ _)
  · exact (((OT.sFi hk _ _ _).trans (OT.sSe hk _ _ _)).trans (OT.sLo hk _ _ _)).trans (OT.sLo hk _ _ _)
theorem clr_lo (k : Nat) (u : TS) (o : Option Nat) (g : Nat) : mLo k (fClrO k u o) g = if o = some g then none else mLo k u g := by
  cases o with
  | none => rfl
  | some y =>
    show mLo k (msLo k u y none) g = _
    rw [lo_sLo]
    by_cases q : g = y
    · subst q; rw [if_pos rfl, if_pos rfl]
    · rw [if_neg q, if_neg (fun z => q (Option.some.inj z).symm)]
theorem clr_fi (k : Nat) (u : TS) (o : Option Nat) (g : Nat) : mFi k (fClrO k u o) g = mFi k u g := by
  cases o
  · rfl
  · exact fi_sLo _ _ _ _ _
theorem clr_se (k : Nat) (u : TS) (o : Option Nat) (g : Nat) : mSe k (fClrO k u o) g = mSe k u g := by
  cases o
  · rfl
  · exact se_sLo _ _ _ _ _
theorem free_lo (k : Nat) (u : TS) (x g : Nat) : mLo k (fFree k u x) g = if mSe k u x = some g then none else if mFi k u x = some g then none else mLo k u g := by
  unfold fFree
  rw [lo_sSe, lo_sFi, clr_lo, clr_lo]
theorem free_fi (k : Nat) (u : TS) (x y : Nat) : mFi k (fFree k u x) y = if y = x then none else mFi k u y := by
  unfold fFree
  rw [fi_sSe, fi_sFi, clr_fi, clr_fi]
theorem free_se (k : Nat) (u : TS) (x y : Nat) : mSe k (fFree k u x) y = if y = x then none else mSe k u y := by
  unfold fFree
  rw [se_sSe, se_sFi, clr_se, clr_se]
theorem bind_lo (k : Nat) (u : TS) (x f : Nat) (s : Option Nat) (g : Nat) : mLo k (fBind k u x f s) g = if s = some g then some x else if g = f then some x else mLo k u g := by
  cases s with
  | none =>
    show mLo k (msLo k _ f (some x)) g = _
    rw [lo_sLo, lo_sSe, lo_sFi, if_neg (c := (none : Option Nat) = some g) (fun z => by cases z)]
  | some y =>
    show mLo k (msLo k (msLo k _ f (some x)) y (some x)) g = _
    rw [lo_sLo, lo_sLo, lo_sSe, lo_sFi]
    by_cases q : g = y
    · subst q; rw [if_pos rfl, if_pos rfl]
    · rw [if_neg q, if_neg (c := some y = some g) (fun z => q (Option.some.inj z).symm)]
theorem bind_fi (k : Nat) (u : TS) (x f : Nat) (s : Option Nat) (y : Nat) : mFi k (fBind k u x f s) y = if y = x then some f else mFi k u y := by
  cases s
  · show mFi k (msLo k _ f (some x)) y = _
    rw [fi_sLo, fi_sSe, fi_sFi]
  · show mFi k (msLo k (msLo k _ f (some x)) _ (some x)) y = _
    rw [fi_sLo, fi_sLo, fi_sSe, fi_sFi]
theorem bind_se (k : Nat) (u : TS) (x f : Nat) (s : Option Nat) (y : Nat) : mSe k (fBind k u x f s) y = if y = x then s else mSe k u y := by
  cases s
  · show mSe k (msLo k _ f (some x)) y = _
    rw [se_sLo, se_sSe, se_sFi]
  · show mSe k (msLo k (msLo k _ f (some x)) _ (some x)) y = _
    rw [se_sLo, se_sLo, se_sSe, se_sFi]
theorem MI.free {k : Nat} {u : TS} (h : MI k u) (x : Nat) : MI k (fFree k u x) := by
  obtain ⟨a, b, c⟩ := h
  have g := (fFree_JL k u x).es
  refine ⟨fun z y e => ?_, fun y z e => ?_, fun y z e => ?_⟩
  · rw [free_lo] at e
    split at e
    · cases e
    · rename_i h1
      split at e
      · cases e
      · rename_i h2
        have h3 := a z y e
        have h4 : y ≠ x := by
          rintro rfl
          rcases h3.2.2.2 with q | q
          · exact h2 q
          · exact h1 q
        rw [g.ln, g.xn, g.account, g.lacc, free_fi, free_se, if_neg h4, if_neg h4]
        exact h3
  · rw [free_fi] at e
    split at e
    · cases e
    · rename_i h1
      have h2 := b y z e
      rw [free_lo, if_neg (fun q => h1 (Option.some.inj (h2.symm.trans (c x z q).1))), if_neg (fun q => h1 (Option.some.inj (h2.symm.trans (b x z q))))]
      exact h2
  · rw [free_se] at e
    split at e
    · cases e
    · rename_i h1
      have h2 := c y z e
      rw [free_lo, free_fi, if_neg h1, if_neg (fun q => h1 (Option.some.inj (h2.1.symm.trans (c x z q).1))), if_neg (fun q => h1 (Option.some.inj (h2.1.symm.trans (b x z q))))]
      exact h2
theorem MI.bind {k : Nat} {u : TS} (h : MI k u) {x f : Nat} {s : Option Nat} (hx : x < LI_count u) (hl : mFi k u x = none) (hf : f < J_legCount u ∧ J_account u f = LI_account u x ∧ mLo k u f = none) (hs : ∀ g, s = some g → g < J_legCount u ∧ J_account u g = LI_account u x ∧ mLo k u g = none ∧ f ≠ g) : MI k (fBind k u x f s) := by
  obtain ⟨a, b, c⟩ := h
  have g := (fBind_JL k u x f s).es
  have hn : mSe k u x = none := by
    cases q : mSe k u x with
    | none => rfl
    | some y =>
      obtain ⟨-, f', q1, -⟩ := c x y q
      rw [hl] at q1
      cases q1
  refine ⟨fun z y e => ?_, fun y z e => ?_, fun y z e => ?_⟩
  · rw [g.ln, g.xn, g.account, g.lacc, bind_fi, bind_se]
    rw [bind_lo] at e
    split at e
    · rename_i h1
      cases e
      have := hs z h1
      rw [if_pos rfl, if_pos rfl]
      exact ⟨this.1, hx, this.2.1, Or.inr h1⟩
    · split at e
      · rename_i h1 h2
        cases e
        subst h2
        rw [if_pos rfl, if_pos rfl]
        exact ⟨hf.1, hx, hf.2.1, Or.inl rfl⟩
      · have h3 := a z y e
        have h4 : y ≠ x := by
          rintro rfl
          rcases h3.2.2.2 with q | q
          · rw [hl] at q; cases q
          · rw [hn] at q; cases q
        rw [if_neg h4, if_neg h4]
        exact h3
  · rw [bind_fi] at e
    split at e
    · rename_i h1
      cases e
      subst h1
      rw [bind_lo]
      split
      · rfl
      · rw [if_pos rfl]
    · have h2 := b y z e
      rw [bind_lo, if_neg (fun q => by rw [(hs z q).2.2.1] at h2; cases h2), if_neg (fun q => by rw [q, hf.2.2] at h2; cases h2)]
      exact h2
  · rw [bind_se] at e
    rw [bind_lo, bind_fi]
    split at e
    · rename_i h1
      subst h1
      rw [if_pos e, if_pos rfl]
      exact ⟨rfl, f, rfl, (hs z e).2.2.2⟩
    · rename_i h1
      have h2 := c y z e
      rw [if_neg h1, if_neg (fun q => by have := h2.1; rw [(hs z q).2.2.1] at this; cases this), if_neg (fun q => by have := h2.1; rw [q, hf.2.2] at this; cases this)]
      exact h2
theorem legLeft {k : Nat} {u : TS} {g w : Nat} (h : fLegLeft k u g w = true) : J_account u g = w ∧ mLo k u g = none ∧ fCounts u g = true := by
  unfold fLegLeft at h
  simpa using h
theorem Jvm_isLeft {k : Nat} {u : TS} {x w : Nat} (h : fIsLeft k u x w = true) : LI_account u x = w ∧ mFi k u x = none := by
  unfold fIsLeft at h
  simpa using h
theorem fBest_p (k : Nat) (u : TS) (x dd : Nat) : ∀ n j, fBest k u x dd n = some j → fLegLeft k u j (LI_account u x) = true
  | 0, _, h => by cases h
  | n + 1, j, h => by
    unfold fBest at h
    split at h
    · rename_i q
      cases h
      exact q.1
    · exact fBest_p k u x dd n j h
theorem fSec_p (k : Nat) (u : TS) (f x : Nat) : ∀ r j, r ≤ J_legCount u → fSec k u f x r = some j → fLegLeft k u j (LI_account u x) = true ∧ J_legCount u - r ≤ j
  | 0, _, _, h => by cases h
  | r + 1, j, hr, h => by
    unfold fSec at h
    split at h
    · rename_i q
      cases h
      exact ⟨q.1, by omega⟩
    · have := fSec_p k u f x r j (by omega) h
      exact ⟨this.1, by omega⟩
/-- what a matching's step keeps -/
def PV (k : Nat) (u v : TS) : Prop := JL u v ∧ OK v ∧ MI k v ∧ ((∀ g x, mLo k u g = some x → fCounts u g = true) → ∀ g x, mLo k v g = some x → fCounts v g = true) ∧ ∀ k', ¬ (k = 0 ↔ k' = 0) → OT k' u v
theorem PV.rfl' {k : Nat} {u : TS} (h : OK u) (m : MI k u) : PV k u u := ⟨JL.rfl' u, h, m, fun z => z, fun k' _ => OT.rfl' k' u⟩
theorem PV.free {k : Nat} {u v : TS} (h : PV k u v) (x : Nat) : PV k u (fFree k v x) := by
  obtain ⟨a, b, c, d, e⟩ := h
  have j := fFree_JL k v x
  refine ⟨a.trans j, fFree_OK b x, c.free x, fun z g y q => ?_, fun k' hk => (e k' hk).trans (OT.free hk v x)⟩
  rw [j.es.counts]
  rw [free_lo] at q
  split at q
  · cases q
  · split at q
    · cases q
    · exact d z g y q
theorem PV.bind {k : Nat} {u v : TS} (h : PV k u v) {x f : Nat} {s : Option Nat} (hx : x < LI_count v) (hl : mFi k v x = none) (hfl : f < J_legCount v) (hf : fLegLeft k v f (LI_account v x) = true) (hs : ∀ g, s = some g → g < J_legCount v ∧ fLegLeft k v g (LI_account v x) = true ∧ f ≠ g) : PV k u (fBind k v x f s) := by
  obtain ⟨a, b, c, d, e⟩ := h
  have j := fBind_JL k v x f s
  have f1 := legLeft hf
  refine ⟨a.trans j, fBind_OK b hx hfl (fun g q => (hs g q).1), c.bind hx hl ⟨hfl, f1.1, f1.2.1⟩ (fun g q => ⟨(hs g q).1, (legLeft (hs g q).2.1).1, (legLeft (hs g q).2.1).2.1, (hs g q).2.2⟩), fun z g y q => ?_, fun k' hk => (e k' hk).trans (OT.bind hk v x f s)⟩
  rw [j.es.counts]
  rw [bind_lo] at q
  split at q
  · rename_i q1
    exact (legLeft (hs g q1).2.1).2.2
  · split at q
    · rename_i q2
      rw [q2]
      exact f1.2.2
    · exact d z g y q
theorem PV.nst {k : Nat} {u v : TS} (h : PV k u v) {x : Nat} (hx : x < LI_count v) (hl : mFi k v x = none) (dd : Nat) : PV k u (fNst k v x dd) := by
  unfold fNst
  split
  · exact h
  · rename_i g hg
    exact h.bind hx hl (fBest_lt _ _ _ _ _ _ hg) (fBest_p _ _ _ _ _ _ hg) (fun y e => by cases e)
theorem PV.two {k : Nat} {u v : TS} (h : PV k u v) {x : Nat} (hx : x < LI_count v) (hl : mFi k v x = none) (dd : Nat) : ∀ r, r ≤ J_legCount v → PV k u (fTwo k v x dd r)
  | 0, _ => h
  | r + 1, hr => by
    unfold fTwo
    split
    · rename_i q
      exact h.bind hx hl (by omega) q.1 (fun g e => by
        have h1 := fSec_p k v _ x r g (by omega) e
        have h2 := fSec_lt k v _ x r g (by omega) e
        exact ⟨h2, h1.1, by omega⟩)
    · exact PV.two h hx hl dd r (by omega)
theorem PV.p1 {k : Nat} {u : TS} (h : OK u) (m : MI k u) (w : Nat) : ∀ i, PV k u (fP1 k u w i)
  | 0 => PV.rfl' h m
  | i + 1 => by
    have ih := PV.p1 h m w i
    unfold fP1
    split
    · exact ih.free i
    · exact ih
theorem PV.p2 {k : Nat} {u v : TS} (h : PV k u v) (w dd : Nat) : ∀ i, i ≤ LI_count v → PV k u (fP2 k v w dd i) ∧ LI_count (fP2 k v w dd i) = LI_count v
  | 0, _ => ⟨h, rfl⟩
  | i + 1, hi => by
    obtain ⟨ih, hc⟩ := PV.p2 h w dd i (by omega)
    unfold fP2
    split
    · rename_i q
      have l := ih.2.1.line (x := i) (by omega)
      refine ⟨ih.nst l.2.2 (Jvm_isLeft q).2 dd, ?_⟩
      rw [(fNst_JL k _ _ dd).es.xn, hc]
    · exact ⟨ih, hc⟩
theorem PV.p3 {k : Nat} {u v : TS} (h : PV k u v) (w dd : Nat) : ∀ i, i ≤ LI_count v → PV k u (fP3 k v w dd i) ∧ LI_count (fP3 k v w dd i) = LI_count v
  | 0, _ => ⟨h, rfl⟩
  | i + 1, hi => by
    obtain ⟨ih, hc⟩ := PV.p3 h w dd i (by omega)
    unfold fP3
    split
    · rename_i q
      have l := ih.2.1.line (x := i) (by omega)
      refine ⟨ih.two l.2.2 (Jvm_isLeft q).2 dd _ (Nat.le_refl _), ?_⟩
      rw [(fTwo_JL k _ _ dd _).es.xn, hc]
    · exact ⟨ih, hc⟩
theorem PV.pair {k : Nat} {u : TS} (h : OK u) (m : MI k u) (w dd : Nat) : PV k u (fPair k u w dd) := by
  have h1 := PV.p1 h m w (LI_count u)
  have h2 := h1.p2 w dd (LI_count u) (by rw [h1.1.es.xn]; exact Nat.le_refl _)
  exact (h2.1.p3 w dd (LI_count u) (by rw [h2.1.1.es.xn]; exact Nat.le_refl _)).1
/-- one account's lines and legs are matched alike -/
def SM (w k k' : Nat) (u v : TS) : Prop := ES u v ∧ (∀ x, LI_account u x = w → mFi k u x = mFi k' v x) ∧ ∀ g, J_account u g = w → mLo k u g = mLo k' v g
theorem SM.isLeft {w k k' : Nat} {u v : TS} (h : SM w k k' u v) (x : Nat) : fIsLeft k u x w = fIsLeft k' v x w := by
  unfold fIsLeft
  rw [h.1.lacc]
  by_cases q : LI_account u x = w
  · rw [h.2.1 x q]
  · rw [decide_eq_false q]; rfl
theorem SM.legLeft {w k k' : Nat} {u v : TS} (h : SM w k k' u v) (g : Nat) : fLegLeft k u g w = fLegLeft k' v g w := by
  unfold fLegLeft
  rw [h.1.account, h.1.counts]
  by_cases q : J_account u g = w
  · rw [h.2.2 g q]
  · rw [decide_eq_false q]; rfl
theorem ES.away {u v : TS} (h : ES u v) (g x : Nat) : fAway v g x = fAway u g x := by unfold fAway; rw [h.lday, h.dayOf]
theorem ES.nearO {u v : TS} (h : ES u v) (g x : Nat) (o : Option Nat) : fNearO v g x o = fNearO u g x o := by
  cases o
  · rfl
  · show fNear v g _ x = fNear u g _ x
    unfold fNear
    rw [h.away, h.away, h.dayOf, h.dayOf]
theorem SM.best {w k k' : Nat} {u v : TS} (h : SM w k k' u v) {x : Nat} (hx : LI_account u x = w) (dd : Nat) : ∀ n, fBest k u x dd n = fBest k' v x dd n
  | 0 => rfl
  | n + 1 => by
    unfold fBest
    rw [h.best hx dd n, h.1.lacc, hx, h.legLeft, h.1.amount, h.1.lam, h.1.away, h.1.nearO]
theorem SM.sec {w k k' : Nat} {u v : TS} (h : SM w k k' u v) {x : Nat} (hx : LI_account u x = w) (f : Nat) : ∀ r, fSec k u f x r = fSec k' v f x r
  | 0 => rfl
  | r + 1 => by
    unfold fSec
    rw [h.sec hx f r, h.1.lacc, hx, h.legLeft, h.1.amount, h.1.amount, h.1.lam, h.1.dayOf, h.1.dayOf, h.1.ln]
theorem SM.bind {w k k' : Nat} {u v : TS} (h : SM w k k' u v) (x f : Nat) (s : Option Nat) : SM w k k' (fBind k u x f s) (fBind k' v x f s) := by
  have j1 := (fBind_JL k u x f s).es
  have j2 := (fBind_JL k' v x f s).es
  refine ⟨(j1.symm.trans h.1).trans j2, fun y hy => ?_, fun g hg => ?_⟩
  · rw [j1.lacc] at hy
    rw [bind_fi, bind_fi, h.2.1 y hy]
  · rw [j1.account] at hg
    rw [bind_lo, bind_lo, h.2.2 g hg]
theorem SM.nst {w k k' : Nat} {u v : TS} (h : SM w k k' u v) {x : Nat} (hx : LI_account u x = w) (dd : Nat) : SM w k k' (fNst k u x dd) (fNst k' v x dd) := by
  unfold fNst
  rw [h.best hx, ← h.1.ln]
  cases fBest k' v x dd (J_legCount v) with
  | none => exact h
  | some g => exact h.bind x g none
theorem SM.two {w k k' : Nat} {u v : TS} (h : SM w k k' u v) {x : Nat} (hx : LI_account u x = w) (dd : Nat) : ∀ r, SM w k k' (fTwo k u x dd r) (fTwo k' v x dd r)
  | 0 => h
  | r + 1 => by
    have ih := h.two hx dd r
    unfold fTwo
    rw [h.sec hx, h.1.lacc, hx, h.legLeft, h.1.away, h.1.ln]
    split
    · exact h.bind _ _ _
    · exact ih
theorem SM.p2 {w k k' : Nat} {u v : TS} (h : SM w k k' u v) (dd : Nat) : ∀ i, SM w k k' (fP2 k u w dd i) (fP2 k' v w dd i)
  | 0 => h
  | i + 1 => by
    have ih := h.p2 dd i
    unfold fP2
    rw [ih.isLeft, ih.1.byDay]
    split
    · rename_i q
      rw [← ih.isLeft] at q
      exact ih.nst (Jvm_isLeft q).1 dd
    · exact ih
theorem SM.p3 {w k k' : Nat} {u v : TS} (h : SM w k k' u v) (dd : Nat) : ∀ i, SM w k k' (fP3 k u w dd i) (fP3 k' v w dd i)
  | 0 => h
  | i + 1 => by
    have ih := h.p3 dd i
    unfold fP3
    rw [ih.isLeft, ih.1.byDay]
    split
    · rename_i q
      rw [← ih.isLeft] at q
      rw [ih.1.ln]
      exact ih.two (Jvm_isLeft q).1 dd _
    · exact ih
theorem SM.lleft {w k k' : Nat} {u v : TS} (h : SM w k k' u v) : ∀ n, fLLeft k u w n = fLLeft k' v w n
  | 0 => rfl
  | n + 1 => by
    unfold fLLeft
    rw [h.lleft n, h.isLeft]
theorem p1_fi {k : Nat} {u : TS} (w : Nat) : ∀ i x, x < i → LI_account (fP1 k u w i) x = w → mFi k (fP1 k u w i) x = none
  | 0, _, h, _ => absurd h (Nat.not_lt_zero _)
  | i + 1, x, hx, e => by
    unfold fP1 at e ⊢
    split
    · rename_i q
      rw [if_pos q, (fFree_JL k _ i).es.lacc] at e
      rw [free_fi]
      split
      · rfl
      · exact p1_fi w i x (by omega) e
    · rename_i q
      rw [if_neg q] at e
      by_cases z : x = i
      · subst z; exact absurd e q
      · exact p1_fi w i x (by omega) e
theorem p1_clear {k : Nat} {u : TS} (h : OK u) (m : MI k u) (w : Nat) : (∀ x, LI_account u x = w → mFi k (fP1 k u w (LI_count u)) x = none) ∧ ∀ g, J_account u g = w → mLo k (fP1 k u w (LI_count u)) g = none := by
  have p := PV.p1 h m w (LI_count u)
  have j := p.1.es
  obtain ⟨a, b, c⟩ := p.2.2.1
  have h1 : ∀ x, LI_account u x = w → mFi k (fP1 k u w (LI_count u)) x = none := by
    intro x hx
    by_cases q : x < LI_count u
    · exact p1_fi w _ x q (by rw [j.lacc]; exact hx)
    · cases z : mFi k (fP1 k u w (LI_count u)) x with
      | none => rfl
      | some g =>
        have h2 := (a g x (b x g z)).2.1
        rw [j.xn] at h2
        omega
  refine ⟨h1, fun g hg => ?_⟩
  cases z : mLo k (fP1 k u w (LI_count u)) g with
  | none => rfl
  | some x =>
    have h2 := a g x z
    rw [j.account, j.lacc] at h2
    have h3 := h1 x (by rw [← h2.2.2.1]; exact hg)
    rcases h2.2.2.2 with q | q
    · rw [h3] at q; cases q
    · obtain ⟨-, f, q2, -⟩ := c x g q
      rw [h3] at q2; cases q2
/-- how many lines a matching finds depends on the lines and the legs alone -/
theorem fPairN_sim {k k' : Nat} {u v : TS} (g : ES u v) (h : OK u) (h' : OK v) (m : MI k u) (m' : MI k' v) (w dd : Nat) : fPairN k u w dd = fPairN k' v w dd := by
  have p1 := p1_clear h m w
  have p2 := p1_clear h' m' w
  have j1 := (PV.p1 h m w (LI_count u)).1.es
  have j2 := (PV.p1 h' m' w (LI_count v)).1.es
  have s0 : SM w k k' (fP1 k u w (LI_count u)) (fP1 k' v w (LI_count v)) := by
    refine ⟨(j1.symm.trans g).trans j2, fun x hx => ?_, fun y hy => ?_⟩
    · rw [j1.lacc] at hx
      rw [p1.1 x hx, p2.1 x (by rw [g.lacc]; exact hx)]
    · rw [j1.account] at hy
      rw [p1.2 y hy, p2.2 y (by rw [g.account]; exact hy)]
  have s1 := s0.p2 dd (LI_count u)
  have s2 := s1.p3 dd (LI_count u)
  unfold fPairN fPair
  rw [← g.xn.symm] at *
  rw [s2.lleft, s2.1.qLCnt]
theorem L_match {n i : Nat} {u : TS} (h : INV n i u) (hi : i < 30) {k dd : Nat} (hk : k < n) (hd : dd ≤ 30) :
    OK (fPair 1 u k dd) ∧ AC_count (fPair 1 u k dd) = n ∧ fPairN 0 (fPair 1 u k dd) k dd = fPairN 1 u k dd ∧ fPairN 1 u k dd ≤ 40 ∧ INV n (i + 1) (fPair 0 (fPair 1 u k dd) k dd) ∧
    fLeft (fPair 0 (fPair 1 u k dd) k dd) k 0 - fLeft (fPair 0 (fPair 1 u k dd) k dd) k 1 = (nI (fPairN 1 u k dd)).toInt64 := by
  have hn := h.1.n
  have m0 := h.2.2.2.2.2.2.2.2.2.2.1
  have mg := h.2.2.2.2.2.2.2.2.2.2.2.1
  have m1 := h.2.2.2.2.2.2.2.2.2.2.2.2
  have p := PV.pair h.1 m1 k dd
  have j := p.1.es
  have ot := p.2.2.2.2 0 (by decide)
  have m0' : MI 0 (fPair 1 u k dd) := m0.core j ot.1 ot.2.1 ot.2.2
  have e1 : fPairN 0 (fPair 1 u k dd) k dd = fPairN 1 u k dd := (fPairN_sim j h.1 p.2.1 m1 m0' k dd).symm
  have q := PV.pair p.2.1 m0' k dd
  have jq := q.1.es
  have oq := q.2.2.2.2 1 (by decide)
  have h' := L_up h
  have le := fLLeft_le 0 (fPair 0 (fPair 1 u k dd) k dd) k (LI_count (fPair 1 u k dd))
  have l2 := fLCnt_le (fPair 0 (fPair 1 u k dd) k dd) k (LI_count (fPair 1 u k dd))
  have l3 : LI_count (fPair 1 u k dd) = LI_count u := j.xn
  refine ⟨p.2.1, j.ac.trans h.2.1.1, e1, ?_, ?_, ?_⟩
  · rw [← e1]
    unfold fPairN
    omega
  · refine h'.core (j.trans jq) q.2.1 ?_ ?_ q.2.2.1 (fun g x e => q.2.2.2.1 (fun g x e => ?_) g x e) (p.2.2.1.core jq oq.1 oq.2.1 oq.2.2)
    · rw [show T_today (fPair 0 (fPair 1 u k dd) k dd) = T_today u from (congrFun q.1.1 0).trans (congrFun p.1.1 0)]
      exact h'.2.1.2.2.2.1
    · exact (congrFun q.1.2.2.1 0).trans ((congrFun p.1.2.2.1 0).trans h.2.2.1)
    · rw [ot.1] at e
      rw [j.counts]
      exact mg g x e
  · rw [← e1]
    show (nI (fLCnt (fPair 0 (fPair 1 u k dd) k dd) k (LI_count (fPair 0 (fPair 1 u k dd) k dd)))).toInt64 - (nI (fLLeft 0 (fPair 0 (fPair 1 u k dd) k dd) k (LI_count (fPair 0 (fPair 1 u k dd) k dd)))).toInt64 = _
    unfold fPairN
    rw [jq.xn]
    generalize fLCnt (fPair 0 (fPair 1 u k dd) k dd) k (LI_count (fPair 1 u k dd)) = A at *
    generalize fLLeft 0 (fPair 0 (fPair 1 u k dd) k dd) k (LI_count (fPair 1 u k dd)) = B at *
    apply Int64.toInt_inj.mp
    rw [Int64.toInt_sub, Int32.toInt_toInt64, Int32.toInt_toInt64, Int32.toInt_toInt64, nI_toInt (by omega), nI_toInt (by omega), nI_toInt (by omega), Int.bmod_def]
    split <;> omega
