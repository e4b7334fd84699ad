/-! MATCHING: k = 0 what is kept, k = 1 what is tried -/
def mLo (k : Nat) (u : TS) (g : Nat) : Option Nat := if k = 0 then M0_lineOfLeg u g else M1_lineOfLeg u g
def mFi (k : Nat) (u : TS) (x : Nat) : Option Nat := if k = 0 then M0_firstOfLine u x else M1_firstOfLine u x
def mSe (k : Nat) (u : TS) (x : Nat) : Option Nat := if k = 0 then M0_secondOfLine u x else M1_secondOfLine u x
def msLo (k : Nat) (u : TS) (g : Nat) (v : Option Nat) : TS := if k = 0 then sAO u 0 g v else sAO u 3 g v
def msFi (k : Nat) (u : TS) (x : Nat) (v : Option Nat) : TS := if k = 0 then sAO u 1 x v else sAO u 4 x v
def msSe (k : Nat) (u : TS) (x : Nat) (v : Option Nat) : TS := if k = 0 then sAO u 2 x v else sAO u 5 x v
def mOK (k : Nat) (u : TS) : Prop := (∀ g x, mLo k u g = some x → x < LI_count u) ∧ (∀ x g, mFi k u x = some g → g < J_legCount u) ∧ (∀ x g, mSe k u x = some g → g < J_legCount u)
theorem OK.m {u : TS} (h : OK u) (k : Nat) : mOK k u := by
  unfold mOK mLo mFi mSe
  by_cases hk : k = 0
  · simp only [if_pos hk]
    exact h.m0
  · simp only [if_neg hk]
    exact h.m1
theorem upO {f : Nat → Option Nat} {i : Nat} {v : Option Nat} {n : Nat} (h : ∀ g x, f g = some x → x < n) (hv : ∀ x, v = some x → x < n) : ∀ g x, va_up f i v g = some x → x < n := by
  intro g x e
  unfold va_up at e
  split at e
  · exact hv x e
  · exact h g x e
theorem OK.sLo {u : TS} (h : OK u) (k g : Nat) {v : Option Nat} (hv : ∀ x, v = some x → x < LI_count u) : OK (msLo k u g v) := by
  unfold msLo
  split
  · exact ⟨h.1, h.2.1, h.2.2.1, h.2.2.2.1, h.2.2.2.2.1, h.2.2.2.2.2.1, h.2.2.2.2.2.2.1, h.2.2.2.2.2.2.2.1, h.2.2.2.2.2.2.2.2.1, ⟨upO h.m0.1 hv, h.m0.2.1, h.m0.2.2⟩, h.m1⟩
  · exact ⟨h.1, h.2.1, h.2.2.1, h.2.2.2.1, h.2.2.2.2.1, h.2.2.2.2.2.1, h.2.2.2.2.2.2.1, h.2.2.2.2.2.2.2.1, h.2.2.2.2.2.2.2.2.1, h.m0, ⟨upO h.m1.1 hv, h.m1.2.1, h.m1.2.2⟩⟩
theorem OK.sFi {u : TS} (h : OK u) (k g : Nat) {v : Option Nat} (hv : ∀ x, v = some x → x < J_legCount u) : OK (msFi k u g v) := by
  unfold msFi
  split
  · exact ⟨h.1, h.2.1, h.2.2.1, h.2.2.2.1, h.2.2.2.2.1, h.2.2.2.2.2.1, h.2.2.2.2.2.2.1, h.2.2.2.2.2.2.2.1, h.2.2.2.2.2.2.2.2.1, ⟨h.m0.1, upO h.m0.2.1 hv, h.m0.2.2⟩, h.m1⟩
  · exact ⟨h.1, h.2.1, h.2.2.1, h.2.2.2.1, h.2.2.2.2.1, h.2.2.2.2.2.1, h.2.2.2.2.2.2.1, h.2.2.2.2.2.2.2.1, h.2.2.2.2.2.2.2.2.1, h.m0, ⟨h.m1.1, upO h.m1.2.1 hv, h.m1.2.2⟩⟩
theorem OK.sSe {u : TS} (h : OK u) (k g : Nat) {v : Option Nat} (hv : ∀ x, v = some x → x < J_legCount u) : OK (msSe k u g v) := by
  unfold msSe
  split
  · exact ⟨h.1, h.2.1, h.2.2.1, h.2.2.2.1, h.2.2.2.2.1, h.2.2.2.2.2.1, h.2.2.2.2.2.2.1, h.2.2.2.2.2.2.2.1, h.2.2.2.2.2.2.2.2.1, ⟨h.m0.1, h.m0.2.1, upO h.m0.2.2 hv⟩, h.m1⟩
  · exact ⟨h.1, h.2.1, h.2.2.1, h.2.2.2.1, h.2.2.2.2.1, h.2.2.2.2.2.1, h.2.2.2.2.2.2.1, h.2.2.2.2.2.2.2.1, h.2.2.2.2.2.2.2.2.1, h.m0, ⟨h.m1.1, h.m1.2.1, upO h.m1.2.2 hv⟩⟩
/-- what matching reads of the rest is as it was -/
def JL (u v : TS) : Prop := v.1 = u.1 ∧ v.2.1 = u.2.1 ∧ v.2.2.1 = u.2.2.1 ∧ v.2.2.2.1 = u.2.2.2.1 ∧ v.2.2.2.2.1 = u.2.2.2.2.1 ∧ v.2.2.2.2.2.1 = u.2.2.2.2.2.1 ∧ v.2.2.2.2.2.2.2 = u.2.2.2.2.2.2.2
theorem JL.rfl' (u : TS) : JL u u := ⟨rfl, rfl, rfl, rfl, rfl, rfl, rfl⟩
theorem JL.trans {u v w : TS} (h : JL u v) (g : JL v w) : JL u w := ⟨g.1.trans h.1, g.2.1.trans h.2.1, g.2.2.1.trans h.2.2.1, g.2.2.2.1.trans h.2.2.2.1, g.2.2.2.2.1.trans h.2.2.2.2.1, g.2.2.2.2.2.1.trans h.2.2.2.2.2.1, g.2.2.2.2.2.2.trans h.2.2.2.2.2.2⟩
theorem JL.sLo (k : Nat) (u : TS) (g : Nat) (v : Option Nat) : JL u (msLo k u g v) := by unfold msLo; split <;> exact ⟨rfl, rfl, rfl, rfl, rfl, rfl, rfl⟩
theorem JL.sFi (k : Nat) (u : TS) (g : Nat) (v : Option Nat) : JL u (msFi k u g v) := by unfold msFi; split <;> exact ⟨rfl, rfl, rfl, rfl, rfl, rfl, rfl⟩
theorem JL.sSe (k : Nat) (u : TS) (g : Nat) (v : Option Nat) : JL u (msSe k u g v) := by unfold msSe; split <;> exact ⟨rfl, rfl, rfl, rfl, rfl, rfl, rfl⟩
theorem JL.cnt {u v : TS} (h : JL u v) : J_legCount v = J_legCount u ∧ LI_count v = LI_count u ∧ J_count v = J_count u ∧ AC_count v = AC_count u := by
  refine ⟨?_, ?_, ?_, ?_⟩ <;> (show v.1 _ = u.1 _; rw [h.1])
def fIsLeft (k : Nat) (u : TS) (x w : Nat) : Bool := decide (LI_account u x = w) && decide (mFi k u x = none)
def fLegLeft (k : Nat) (u : TS) (g w : Nat) : Bool := decide (J_account u g = w) && (decide (mLo k u g = none) && fCounts u g)
def fAway (u : TS) (g x : Nat) : Nat := if LI_day u x ≤ fDayOf u g then fDayOf u g - LI_day u x else LI_day u x - fDayOf u g
def fNear (u : TS) (g o x : Nat) : Bool := decide (fAway u g x < fAway u o x) || (decide (fAway u g x = fAway u o x) && decide (fDayOf u g < fDayOf u o))
def fNearO (u : TS) (g x : Nat) : Option Nat → Bool
  | none => true
  | some o => fNear u g o x
def fBest (k : Nat) (u : TS) (x dd : Nat) : Nat → Option Nat
  | 0 => none
  | g + 1 => if fLegLeft k u g (LI_account u x) = true ∧ J_amount u g = (LI_amount u x).toInt64 ∧ fAway u g x ≤ dd ∧ fNearO u g x (fBest k u x dd g) = true then some g else fBest k u x dd g
theorem fBest_lt (k : Nat) (u : TS) (x dd : Nat) : ∀ n j, fBest k u x dd n = some j → j < n
  | 0, _, h => by cases h
  | n + 1, j, h => by
    unfold fBest at h
    split at h
    · cases h; omega
    · have := fBest_lt k u x dd n j h
      omega
def fBind (k : Nat) (u : TS) (x f : Nat) (s : Option Nat) : TS := match s with
  | none => msLo k (msSe k (msFi k u x (some f)) x none) f (some x)
  | some g => msLo k (msLo k (msSe k (msFi k u x (some f)) x (some g)) f (some x)) g (some x)
theorem fBind_JL (k : Nat) (u : TS) (x f : Nat) (s : Option Nat) : JL u (fBind k u x f s) := by
  cases s
  · exact ((JL.sFi k u x _).trans (JL.sSe k _ x _)).trans (JL.sLo k _ f _)
  · exact (((JL.sFi k u x _).trans (JL.sSe k _ x _)).trans (JL.sLo k _ f _)).trans (JL.sLo k _ _ _)
theorem fBind_OK {k : Nat} {u : TS} {x f : Nat} {s : Option Nat} (h : OK u) (hx : x < LI_count u) (hf : f < J_legCount u) (hs : ∀ g, s = some g → g < J_legCount u) : OK (fBind k u x f s) := by
  have h1 : OK (msFi k u x (some f)) := h.sFi k x (fun y e => by cases e; exact hf)
  have e1 := (JL.sFi k u x (some f)).cnt
  cases s with
  | none =>
    have h2 : OK (msSe k (msFi k u x (some f)) x none) := h1.sSe k x (fun y e => by cases e)
    have e2 := (JL.sSe k (msFi k u x (some f)) x none).cnt
    exact h2.sLo k f (fun y e => by cases e; omega)
  | some g =>
    have h2 : OK (msSe k (msFi k u x (some f)) x (some g)) := h1.sSe k x (fun y e => by cases e; have := hs _ rfl; omega)
    have e2 := (JL.sSe k (msFi k u x (some f)) x (some g)).cnt
    have h3 := h2.sLo k f (v := some x) (fun y e => by cases e; omega)
    have e3 := (JL.sLo k (msSe k (msFi k u x (some f)) x (some g)) f (some x)).cnt
    exact h3.sLo k g (fun y e => by cases e; omega)
def fNst (k : Nat) (u : TS) (x dd : Nat) : TS := match fBest k u x dd (J_legCount u) with
  | none => u
  | some g => fBind k u x g none
/-- the second leg behind f: of the last r ones the first -/
def fSec (k : Nat) (u : TS) (f x : Nat) : Nat → Option Nat
  | 0 => none
  | r + 1 => if fLegLeft k u (J_legCount u - (r + 1)) (LI_account u x) = true ∧ fDayOf u (J_legCount u - (r + 1)) = fDayOf u f ∧ J_amount u f + J_amount u (J_legCount u - (r + 1)) = (LI_amount u x).toInt64 then some (J_legCount u - (r + 1)) else fSec k u f x r
theorem fSec_lt (k : Nat) (u : TS) (f x : Nat) : ∀ r j, r ≤ J_legCount u → fSec k u f x r = some j → j < J_legCount u
  | 0, _, _, h => by cases h
  | r + 1, j, hr, h => by
    unfold fSec at h
    split at h
    · cases h; omega
    · exact fSec_lt k u f x r j (by omega) h
def fTwo (k : Nat) (u : TS) (x dd : Nat) : Nat → TS
  | 0 => u
  | r + 1 => if fLegLeft k u (J_legCount u - (r + 1)) (LI_account u x) = true ∧ fAway u (J_legCount u - (r + 1)) x ≤ dd ∧ fSec k u (J_legCount u - (r + 1)) x r ≠ none then fBind k u x (J_legCount u - (r + 1)) (fSec k u (J_legCount u - (r + 1)) x r) else fTwo k u x dd r
def fClrO (k : Nat) (u : TS) : Option Nat → TS
  | none => u
  | some g => msLo k u g none
def fFree (k : Nat) (u : TS) (x : Nat) : TS := msSe k (msFi k (fClrO k (fClrO k u (mFi k u x)) (mSe k u x)) x none) x none
theorem fClrO_JL (k : Nat) (u : TS) (o : Option Nat) : JL u (fClrO k u o) := by
  cases o
  · exact JL.rfl' u
  · exact JL.sLo k u _ _
theorem fClrO_OK {k : Nat} {u : TS} (h : OK u) (o : Option Nat) : OK (fClrO k u o) := by
  cases o
  · exact h
  · exact h.sLo k _ (fun y e => by cases e)
theorem fFree_JL (k : Nat) (u : TS) (x : Nat) : JL u (fFree k u x) := (((fClrO_JL k u _).trans (fClrO_JL k _ _)).trans (JL.sFi k _ x _)).trans (JL.sSe k _ x _)
theorem fFree_OK {k : Nat} {u : TS} (h : OK u) (x : Nat) : OK (fFree k u x) := ((fClrO_OK (fClrO_OK h _) _).sFi k x (fun y e => by cases e)).sSe k x (fun y e => by cases e)
theorem fNst_JL (k : Nat) (u : TS) (x dd : Nat) : JL u (fNst k u x dd) := by
  unfold fNst
  split
  · exact JL.rfl' u
  · exact fBind_JL k u x _ _
theorem fNst_OK {k : Nat} {u : TS} (h : OK u) {x : Nat} (hx : x < LI_count u) (dd : Nat) : OK (fNst k u x dd) := by
  unfold fNst
  split
  · exact h
  · rename_i g hg
    exact fBind_OK h hx (fBest_lt k u x dd _ _ hg) (fun y e => by cases e)
theorem fTwo_JL (k : Nat) (u : TS) (x dd : Nat) : ∀ r, JL u (fTwo k u x dd r)
  | 0 => JL.rfl' u
  | r + 1 => by
    unfold fTwo
    split
    · exact fBind_JL k u x _ _
    · exact fTwo_JL k u x dd r
theorem fTwo_OK {k : Nat} {u : TS} (h : OK u) {x : Nat} (hx : x < LI_count u) (dd : Nat) : ∀ r, r ≤ J_legCount u → OK (fTwo k u x dd r)
  | 0, _ => h
  | r + 1, hr => by
    unfold fTwo
    split
    · exact fBind_OK h hx (by omega) (fun g e => fSec_lt k u _ x r g (by omega) e)
    · exact fTwo_OK h hx dd r (by omega)
def fP1 (k : Nat) (u : TS) (w : Nat) : Nat → TS
  | 0 => u
  | i + 1 => if LI_account (fP1 k u w i) i = w then fFree k (fP1 k u w i) i else fP1 k u w i
theorem fP1_J (k : Nat) (u : TS) (w : Nat) (h : OK u) : ∀ i, JL u (fP1 k u w i) ∧ OK (fP1 k u w i)
  | 0 => ⟨JL.rfl' u, h⟩
  | i + 1 => by
    obtain ⟨h1, h2⟩ := fP1_J k u w h i
    unfold fP1
    split
    · exact ⟨h1.trans (fFree_JL k _ i), fFree_OK h2 i⟩
    · exact ⟨h1, h2⟩
def fP2 (k : Nat) (u : TS) (w dd : Nat) : Nat → TS
  | 0 => u
  | i + 1 => if fIsLeft k (fP2 k u w dd i) (LI_byDay (fP2 k u w dd i) i) w = true then fNst k (fP2 k u w dd i) (LI_byDay (fP2 k u w dd i) i) dd else fP2 k u w dd i
theorem fP2_J (k : Nat) (u : TS) (w dd : Nat) (h : OK u) : ∀ i, i ≤ LI_count u → JL u (fP2 k u w dd i) ∧ OK (fP2 k u w dd i)
  | 0, _ => ⟨JL.rfl' u, h⟩
  | i + 1, hi => by
    obtain ⟨h1, h2⟩ := fP2_J k u w dd h i (by omega)
    unfold fP2
    split
    · exact ⟨h1.trans (fNst_JL k _ _ dd), fNst_OK h2 (h2.line (x := i) (by have := h1.cnt; omega)).2.2 dd⟩
    · exact ⟨h1, h2⟩
def fP3 (k : Nat) (u : TS) (w dd : Nat) : Nat → TS
  | 0 => u
  | i + 1 => if fIsLeft k (fP3 k u w dd i) (LI_byDay (fP3 k u w dd i) i) w = true then fTwo k (fP3 k u w dd i) (LI_byDay (fP3 k u w dd i) i) dd (J_legCount (fP3 k u w dd i)) else fP3 k u w dd i
theorem fP3_J (k : Nat) (u : TS) (w dd : Nat) (h : OK u) : ∀ i, i ≤ LI_count u → JL u (fP3 k u w dd i) ∧ OK (fP3 k u w dd i)
  | 0, _ => ⟨JL.rfl' u, h⟩
  | i + 1, hi => by
    obtain ⟨h1, h2⟩ := fP3_J k u w dd h i (by omega)
    unfold fP3
    split
    · exact ⟨h1.trans (fTwo_JL k _ _ dd _), fTwo_OK h2 (h2.line (x := i) (by have := h1.cnt; omega)).2.2 dd _ (Nat.le_refl _)⟩
    · exact ⟨h1, h2⟩
def fLLeft (k : Nat) (u : TS) (w : Nat) : Nat → Nat
  | 0 => 0
  | i + 1 => if fIsLeft k u i w = true then fLLeft k u w i + 1 else fLLeft k u w i
theorem fLLeft_le (k : Nat) (u : TS) (w : Nat) : ∀ n, fLLeft k u w n ≤ n ∧ fLLeft k u w n ≤ fLCnt u w n
  | 0 => ⟨Nat.le_refl _, Nat.le_refl _⟩
  | n + 1 => by
    have := fLLeft_le k u w n
    unfold fLLeft fLCnt fIsLeft
    by_cases h : LI_account u n = w
    · simp only [h, decide_true, Bool.true_and, if_true]
      split <;> omega
    · simp only [h, decide_false, Bool.false_and, if_false]
      simp
      omega
def fLSum (k : Nat) (u : TS) (w : Nat) : Nat → Int64
  | 0 => 0
  | i + 1 => if fIsLeft k u i w = true then fLSum k u w i + (LI_amount u i).toInt64 else fLSum k u w i
def fGLeft (k : Nat) (u : TS) (w : Nat) : Nat → Nat
  | 0 => 0
  | i + 1 => if fLegLeft k u i w = true then fGLeft k u w i + 1 else fGLeft k u w i
theorem fGLeft_le (k : Nat) (u : TS) (w : Nat) : ∀ n, fGLeft k u w n ≤ n
  | 0 => Nat.le_refl _
  | n + 1 => by
    have := fGLeft_le k u w n
    unfold fGLeft
    split <;> omega
def fGSum (k : Nat) (u : TS) (w : Nat) : Nat → Int64
  | 0 => 0
  | i + 1 => if fLegLeft k u i w = true then fGSum k u w i + J_amount u i else fGSum k u w i
def fPair (k : Nat) (u : TS) (w dd : Nat) : TS := fP3 k (fP2 k (fP1 k u w (LI_count u)) w dd (LI_count u)) w dd (LI_count u)
theorem fPair_J (k : Nat) (u : TS) (w dd : Nat) (h : OK u) : JL u (fPair k u w dd) ∧ OK (fPair k u w dd) := by
  obtain ⟨a1, a2⟩ := fP1_J k u w h (LI_count u)
  obtain ⟨b1, b2⟩ := fP2_J k _ w dd a2 (LI_count u) (by have := a1.cnt; omega)
  obtain ⟨c1, c2⟩ := fP3_J k _ w dd b2 (LI_count u) (by have := a1.cnt; have := b1.cnt; omega)
  exact ⟨(a1.trans b1).trans c1, c2⟩
def fPairN (k : Nat) (u : TS) (w dd : Nat) : Nat := fLCnt (fPair k u w dd) w (LI_count u) - fLLeft k (fPair k u w dd) w (LI_count u)
/-- lines of the legs from g on, n of them, freed -/
def fFrees (k : Nat) (u : TS) (g : Nat) : Nat → TS
  | 0 => u
  | i + 1 => match mLo k (fFrees k u g i) (g + i) with
    | none => fFrees k u g i
    | some x => fFree k (fFrees k u g i) x
theorem fFrees_J (k : Nat) (u : TS) (g : Nat) (h : OK u) : ∀ i, JL u (fFrees k u g i) ∧ OK (fFrees k u g i)
  | 0 => ⟨JL.rfl' u, h⟩
  | i + 1 => by
    obtain ⟨h1, h2⟩ := fFrees_J k u g h i
    unfold fFrees
    split
    · exact ⟨h1, h2⟩
    · exact ⟨h1.trans (fFree_JL k _ _), fFree_OK h2 _⟩

