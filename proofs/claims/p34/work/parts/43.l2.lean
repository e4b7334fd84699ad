/-! THE START, THE LINES -/
theorem I0_u0 : I0 0 u0 := by
  refine ⟨⟨⟨Nat.zero_le _, Nat.zero_le _, Nat.zero_le _, Nat.zero_le _, Nat.zero_le _, Nat.zero_le _, rfl, Nat.zero_le _, Nat.zero_le _, Nat.zero_le _⟩, fun g hg => absurd hg (Nat.not_lt_zero _), fun g hg => absurd hg (Nat.not_lt_zero _), fun g hg => absurd hg (Nat.not_lt_zero _), fun g hg => absurd hg (Nat.not_lt_zero _), fun g hg => absurd hg (Nat.not_lt_zero _), fun g hg => absurd hg (Nat.not_lt_zero _), (fun k e => by cases e), fun k => rfl, ⟨(fun k x e => by cases e), (fun k x e => by cases e), (fun k x e => by cases e)⟩, ⟨(fun k x e => by cases e), (fun k x e => by cases e), (fun k x e => by cases e)⟩⟩, rfl, rfl, rfl, rfl, rfl, fun h => absurd h (Nat.lt_irrefl _), fun _ => rfl, ⟨fun c _ => ?_, rfl, fun _ _ => rfl⟩, fun k g => ⟨?_, ?_, ?_⟩⟩
  · show 1 ≤ (nI 1000).toInt ∧ (nI 1000).toInt ≤ 5000
    decide
  · unfold mLo; split <;> rfl
  · unfold mFi; split <;> rfl
  · unfold mSe; split <;> rfl
theorem I0_rate {u : TS} (h : I0 0 u) {c r : Nat} (hc : 1 ≤ c ∧ c ≤ 3) (hr : 1 ≤ r ∧ r ≤ 5000) : I0 0 (sAI u 0 c (nI r)) := by
  obtain ⟨a1, a2, a3, a4, a5, a6, a7, a8, a9, a10⟩ := h
  refine ⟨a1, a2, a3, a4, a5, a6, a7, a8, ⟨fun x hx => ?_, ?_, a9.2.2⟩, a10⟩
  · show 1 ≤ (va_up (AC_rates u) c (nI r) x).toInt ∧ (va_up (AC_rates u) c (nI r) x).toInt ≤ 5000
    unfold va_up
    split
    · rw [nI_toInt (by omega)]; omega
    · exact a9.1 x hx
  · show va_up (AC_rates u) c (nI r) 0 = nI 1000
    rw [upne (by omega)]
    exact a9.2.1
theorem I0_acc {a : Nat} {u : TS} (h : I0 a u) (ha : a < 10) {kd cu : Nat} (hk : kd < 5) (hc : cu < 4) (h0 : a = 0 → kd = 4 ∧ cu = 0) : I0 (a + 1) (fAccAdd u kd cu) := by
  obtain ⟨a1, a2, a3, a4, a5, a6, a7, a8, a9, a10⟩ := h
  have hn := a1.n
  refine ⟨⟨⟨hn.1, hn.2.1, hn.2.2.1, show AC_count u + 1 ≤ 10 by omega, hn.2.2.2.2⟩, fun g hg => ?_, fun e he => ?_, fun x hx => ?_, fun i hi => ?_, fun i hi => ?_, fun k hk => ?_, fun k e => ?_, a1.nf, a1.m0, a1.m1⟩, show AC_count u + 1 = a + 1 by omega, a3, a4, a5, a6, fun _ => ⟨?_, ?_⟩, a8, a9, a10⟩
  · have hg : g < J_legCount u := hg
    omega
  · have he : e < J_count u := he
    omega
  · have hx : x < LI_count u := hx
    omega
  · have := a1.dr (i := i) hi
    show L0_account u i < AC_count u + 1
    omega
  · have := a1.pl (i := i) hi
    show L1_account u i < AC_count u + 1
    omega
  · show va_up (AC_kind u) (AC_count u) kd k < 5 ∧ va_up (AC_currency u) (AC_count u) cu k < 4
    have hk : k < AC_count u + 1 := hk
    by_cases q : k = AC_count u
    · subst q
      rw [upeq, upeq]
      omega
    · rw [upne q, upne q]
      exact a1.acc (by omega)
  · have := a1.ex (k := k) e
    show k < AC_count u + 1
    omega
  · show va_up (AC_kind u) (AC_count u) kd 0 = 4
    by_cases q : 0 = AC_count u
    · rw [← q, upeq]
      exact (h0 (by omega)).1
    · rw [upne q]
      exact (a7 (by omega)).1
  · show va_up (AC_currency u) (AC_count u) cu 0 = 0
    by_cases q : 0 = AC_count u
    · rw [← q, upeq]
      exact (h0 (by omega)).2
    · rw [upne q]
      exact (a7 (by omega)).2
/-- a sorting step changes the order of the lines alone -/
def EL (u v : TS) : Prop := v.1 = u.1 ∧ v.2.1 = u.2.1 ∧ v.2.2.1 = u.2.2.1 ∧ (∀ k, k ≠ 14 → v.2.2.2.1 k = u.2.2.2.1 k) ∧ v.2.2.2.2 = u.2.2.2.2
theorem EL.rfl' (u : TS) : EL u u := ⟨rfl, rfl, rfl, fun _ _ => rfl, rfl⟩
theorem EL.trans {u v w : TS} (h : EL u v) (g : EL v w) : EL u w := ⟨g.1.trans h.1, g.2.1.trans h.2.1, g.2.2.1.trans h.2.2.1, fun k q => (g.2.2.2.1 k q).trans (h.2.2.2.1 k q), g.2.2.2.2.trans h.2.2.2.2⟩
theorem EL.up (u : TS) (i v : Nat) : EL u (sAN u 14 i v) := ⟨rfl, rfl, rfl, fun k q => upne q, rfl⟩
theorem fSort_EL (x : Nat) : ∀ (pl : Nat) (v : TS), EL v (fSort x pl v)
  | 0, v => EL.up v 0 x
  | pl + 1, v => by
    unfold fSort
    split
    · exact (EL.up v _ _).trans (fSort_EL x pl _)
    · exact EL.up v _ _
theorem byDay_up (v : TS) (i x j : Nat) : LI_byDay (sAN v 14 i x) j = if j = i then x else LI_byDay v j := rfl
theorem fSort_lt (x n : Nat) (hx : x < n) : ∀ (pl : Nat) (v : TS), (∀ i, i < pl → LI_byDay v i < n) → (∀ i, i ≤ pl → LI_byDay (fSort x pl v) i < n) ∧ ∀ i, pl < i → LI_byDay (fSort x pl v) i = LI_byDay v i
  | 0, v, _ => by
    unfold fSort
    refine ⟨fun i hi => ?_, fun i hi => ?_⟩
    · rw [byDay_up, if_pos (by omega)]; exact hx
    · rw [byDay_up, if_neg (by omega)]
  | pl + 1, v, h => by
    unfold fSort
    split
    · have ih := fSort_lt x n hx pl (sAN v 14 (pl + 1) (LI_byDay v pl)) (fun i hi => by rw [byDay_up, if_neg (by omega)]; exact h i (by omega))
      refine ⟨fun i hi => ?_, fun i hi => ?_⟩
      · by_cases q : i = pl + 1
        · rw [ih.2 i (by omega), byDay_up, if_pos q]
          exact h pl (by omega)
        · exact ih.1 i (by omega)
      · rw [ih.2 i (by omega), byDay_up, if_neg (by omega)]
    · refine ⟨fun i hi => ?_, fun i hi => ?_⟩
      · rw [byDay_up]
        split
        · exact hx
        · exact h i (by omega)
      · rw [byDay_up, if_neg (by omega)]
theorem L_line {n i : Nat} {u : TS} (h : INV n i u) (hi : i < 30) {k d : Nat} (hk : k < n) (hd : d < 20) {x : Int32} : INV n (i + 1) (fLine u k d x) := by
  have h' := L_up h
  have hn := h.1.n
  have hc := h.2.1
  have e1 := fSort_EL (LI_count u) (LI_count u) (fLine0 u k d x)
  have e2 := fSort_lt (LI_count u) (LI_count u + 1) (by omega) (LI_count u) (fLine0 u k d x) (fun j hj => by
    have := h.1.line hj
    show LI_byDay u j < _
    omega)
  have hac : ∀ j, LI_account (fLine u k d x) j = if j = LI_count u then k else LI_account u j := fun j => congrFun (e1.2.2.2.1 12 (by decide)) j
  have hdy : ∀ j, LI_day (fLine u k d x) j = if j = LI_count u then d else LI_day u j := fun j => congrFun (e1.2.2.2.1 13 (by decide)) j
  have hs : ∀ q, q ≠ 9 → (fLine u k d x).1 q = u.1 q := fun q hq => (upne hq).trans (congrFun e1.1 q)
  have hl : LI_count (fLine u k d x) = LI_count u + 1 := rfl
  have hAN : ∀ q, q < 12 → (fLine u k d x).2.2.2.1 q = u.2.2.2.1 q := fun q hq => (e1.2.2.2.1 q (by omega)).trans ((upne (by omega)).trans (upne (by omega)))
  have hJ := congrArg (fun z => z.2.2.2) e1.2.2.2.2
  have g : EJ u (fLine u k d x) := ⟨fun q hq => hs q (by omega), fun q hq => hAN q (by omega), congrFun (congrArg (fun z => z.1) e1.2.2.2.2) 0, congrArg (fun z => z.2.1) e1.2.2.2.2, fun q hq => congrFun hJ q⟩
  have hM : (fLine u k d x).2.2.2.2.2.2.1 = u.2.2.2.2.2.2.1 := congrArg (fun z => z.2.2.1) e1.2.2.2.2
  have hLo : ∀ q j, mLo q (fLine u k d x) j = mLo q u j := fun q j => by unfold mLo M0_lineOfLeg M1_lineOfLeg; rw [hM]
  have hFi : ∀ q j, mFi q (fLine u k d x) j = mFi q u j := fun q j => by unfold mFi M0_firstOfLine M1_firstOfLine; rw [hM]
  have hSe : ∀ q j, mSe q (fLine u k d x) j = mSe q u j := fun q j => by unfold mSe M0_secondOfLine M1_secondOfLine; rw [hM]
  have hMI : ∀ q, MI q u → MI q (fLine u k d x) := by
    intro q hq
    refine ⟨fun g' y e => ?_, fun y g' e => ?_, fun y g' e => ?_⟩
    · rw [hLo] at e
      have := hq.1 g' y e
      rw [g.ln, g.account, hac, if_neg (by omega), hl, hFi, hSe]
      exact ⟨this.1, by omega, this.2.2⟩
    · rw [hFi] at e
      rw [hLo]
      exact hq.2.1 y g' e
    · rw [hSe] at e
      rw [hLo, hFi]
      exact hq.2.2 y g' e
  have ha := g.ac
  refine h'.core2 g ⟨⟨?_, ?_, ?_, ?_, ?_, ?_, ?_, ?_, ?_, ?_⟩, ?_, ?_, ?_, ?_, ?_, ?_, ?_, ?_, ?_, ?_⟩ (by rw [show T_today (fLine u k d x) = T_today u from hs 0 (by decide)]; exact h'.2.1.2.2.2.1) ((congrFun e1.2.2.1 0).trans h.2.2.1) (by omega) (fun y => ?_) (hMI 0 h.2.2.2.2.2.2.2.2.2.2.1) (fun g' y e => ?_) (hMI 1 h.2.2.2.2.2.2.2.2.2.2.2.2)
  · rw [g.ln]; exact hn.1
  · rw [g.jn]; exact hn.2.1
  · omega
  · omega
  · rw [show L0_count (fLine u k d x) = L0_count u from hs 4 (by decide)]; omega
  · rw [show L1_count (fLine u k d x) = L1_count u from hs 5 (by decide)]; omega
  · rw [g.hn]; exact hn.2.2.2.2.2.2.1
  · rw [show T_today (fLine u k d x) = T_today u from hs 0 (by decide)]; omega
  · rw [show DR_day (fLine u k d x) = DR_day u from hs 2 (by decide)]; omega
  · rw [show DR_note (fLine u k d x) = DR_note u from hs 3 (by decide)]; omega
  · intro g' hg
    rw [g.ln] at hg
    rw [g.entryOf, g.account, g.jn, ha]
    exact h.1.leg hg
  · intro e he
    rw [g.jn] at he
    rw [g.first, g.legsOf, g.ln, g.jday, g.jnote]
    exact h.1.ent he
  · intro y hy
    rw [hac, hdy, ha]
    have h2 : LI_byDay (fLine u k d x) y < LI_count u + 1 := e2.1 y (by omega)
    by_cases q : y = LI_count u
    · rw [if_pos q, if_pos q]
      omega
    · rw [if_neg q, if_neg q]
      have := h.1.line (x := y) (by omega)
      omega
  · intro j hj
    rw [show L0_count (fLine u k d x) = L0_count u from hs 4 (by decide)] at hj
    rw [show L0_account (fLine u k d x) j = L0_account u j from congrFun (hAN 2 (by decide)) j, ha]
    exact h.1.dr hj
  · intro j hj
    rw [show L1_count (fLine u k d x) = L1_count u from hs 5 (by decide)] at hj
    rw [show L1_account (fLine u k d x) j = L1_account u j from congrFun (hAN 3 (by decide)) j, ha]
    exact h.1.pl hj
  · intro j hj
    rw [g.kind, g.cur]
    rw [ha] at hj
    exact h.1.acc hj
  · intro j e
    rw [ha]
    exact h.1.ex (((congrFun e1.2.2.1 0).symm).trans e)
  · intro j
    rw [g.floor]
    exact h.1.nf j
  · have := h.1.m0
    refine ⟨fun a b e => ?_, fun a b e => ?_, fun a b e => ?_⟩
    · have := this.1 a b ((hLo 0 a).symm.trans e); omega
    · rw [g.ln]; exact this.2.1 a b ((hFi 0 a).symm.trans e)
    · rw [g.ln]; exact this.2.2 a b ((hSe 0 a).symm.trans e)
  · have := h.1.m1
    refine ⟨fun a b e => ?_, fun a b e => ?_, fun a b e => ?_⟩
    · have := this.1 a b ((hLo 1 a).symm.trans e); omega
    · rw [g.ln]; exact this.2.1 a b ((hFi 1 a).symm.trans e)
    · rw [g.ln]; exact this.2.2 a b ((hSe 1 a).symm.trans e)
  · rw [hdy]
    split
    · omega
    · exact h.2.2.2.2.2.1 y
  · rw [g.counts]
    exact h.2.2.2.2.2.2.2.2.2.2.2.1 g' y ((hLo 0 g').symm.trans e)
/-- every leg lies in an entry -/
theorem fEnd_find {u : TS} {g : Nat} : ∀ n, g < fEnd u n → ∃ e, e < n ∧ fEnd u e ≤ g ∧ g < fEnd u e + J_legsOf u e
  | 0, h => absurd h (Nat.not_lt_zero _)
  | n + 1, h => by
    have h : g < fEnd u n + J_legsOf u n := h
    by_cases q : g < fEnd u n
    · obtain ⟨e, a, b⟩ := fEnd_find n q
      exact ⟨e, by omega, b⟩
    · exact ⟨n, by omega, by omega, h⟩
theorem CT.find {u : TS} (h : CT u) {g : Nat} (hg : g < J_legCount u) : ∃ e i, e < J_count u ∧ i < J_legsOf u e ∧ g = J_firstLeg u e + i := by
  rw [h.2.1] at hg
  obtain ⟨e, a, b, c⟩ := fEnd_find _ hg
  exact ⟨e, g - fEnd u e, a, by omega, by rw [h.1 e a]; omega⟩
theorem L_matched {n i : Nat} {u : TS} (h : INV n i u) (hi : i ≤ 30) {x : Nat} (hx : x < LI_count u) {e : Nat} (he : fMatched u x = some e) : e < J_count u ∧ fOfE u e 3 = 0 ∧ ∃ g, g < J_legsOf u e ∧ fOfL u e g 3 = (nI x).toInt64 := by
  unfold fMatched at he
  cases hq : mFi 0 u x with
  | none => rw [hq] at he; cases he
  | some g =>
    rw [hq] at he
    have he : some (J_entryOf u g) = some e := he
    obtain rfl := Option.some.inj he
    have mi := h.2.2.2.2.2.2.2.2.2.2.1
    have h1 := mi.2.1 x g hq
    have h2 := mi.1 g x h1
    have h3 := h.1.leg h2.1
    have h4 := h.2.2.2.2.2.2.2.2.2.2.2.1 g x h1
    have h5 : J_gone u (J_entryOf u g) = false := by
      unfold fCounts at h4
      cases hz : J_gone u (J_entryOf u g)
      · rfl
      · rw [hz] at h4; cases h4
    refine ⟨h3.1, ?_, ?_⟩
    · show (if J_gone u (J_entryOf u g) = true then 1 else 0) = 0
      rw [h5]; rfl
    · obtain ⟨e', i', b1, b2, b3⟩ := CT.find h.2.2.2.2.2.2.2.1 h2.1
      have b4 := h.2.2.2.2.2.2.2.1.2.2 e' i' b1 b2
      rw [← b3] at b4
      rw [b4]
      refine ⟨i', b2, ?_⟩
      show (oI (mLo 0 u (J_firstLeg u e' + i'))).toInt64 = _
      rw [← b3, h1]
      rfl
