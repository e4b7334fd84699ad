/-! OPENING -/
theorem PV.frees {u : TS} (h : OK u) (m : MI 0 u) (g : Nat) : ∀ n, PV 0 u (fFrees 0 u g n) ∧ ∀ j, j < n → mLo 0 (fFrees 0 u g n) (g + j) = none
  | 0 => ⟨PV.rfl' h m, fun j hj => absurd hj (Nat.not_lt_zero _)⟩
  | n + 1 => by
    obtain ⟨p, z⟩ := PV.frees h m g n
    unfold fFrees
    cases q : mLo 0 (fFrees 0 u g n) (g + n) with
    | none =>
      refine ⟨p, fun j hj => ?_⟩
      by_cases e : j = n
      · rw [e]; exact q
      · exact z j (by omega)
    | some x =>
      refine ⟨p.free x, fun j hj => ?_⟩
      dsimp only
      rw [free_lo]
      by_cases e : j = n
      · rw [e]
        rcases (p.2.2.1.1 _ _ q).2.2.2 with e1 | e1
        · rw [e1]
          split
          · rfl
          · rw [if_pos rfl]
        · rw [if_pos e1]
      · rw [z j (by omega)]
        split
        · rfl
        · split <;> rfl
theorem lock_le {u : TS} (h : OK u) : ∀ j, fLock u = some j → j ≤ 364 := by
  intro j hj
  unfold fLock at hj
  cases hq : fLastC u (J_count u) with
  | none => rw [hq] at hj; cases hj
  | some en =>
    rw [hq] at hj
    have h1 := fLastC_lt u _ _ hq
    have h2 := h.ent h1
    cases hj
    exact h2.2.1
theorem gone_up (u : TS) (e j : Nat) : J_gone (sAB u 1 e true) j = if j = e then true else J_gone u j := rfl
theorem es_open {n i : Nat} {v : TS} (h : INV n i v) {e : Nat} (he : e < J_count v) (hm : ∀ g x, mLo 0 v g = some x → J_entryOf v g ≠ e) : INV n i (sAB v 1 e true) := by
  obtain ⟨o, c, x1, x2, x3, x4, x5, x6, x7, x8, x9, x10, x11⟩ := h
  have ea : ∀ k g, fAbsA (sAB v 1 e true) k g = fAbsA v k g := fun k g => fAbsA_pre k g (fun _ _ => ⟨rfl, rfl⟩)
  have ee : ∀ j, fEnd (sAB v 1 e true) j = fEnd v j := fun j => fEnd_pre j (fun _ _ => rfl)
  refine ⟨OKg o e, c, x1, x2, x3, x4, ⟨x5.1, x5.2.1, fun j hj => ?_⟩, ⟨fun j hj => ?_, ?_, x6.2.2⟩, x7, fun k hk hc => ?_, x9, fun g x q => ?_, x11⟩
  · rw [gone_up]
    have hj : J_count v ≤ j := hj
    rw [if_neg (by omega)]
    exact x5.2.2 j hj
  · rw [ee]; exact x6.1 j hj
  · rw [ee]; exact x6.2.1
  · rw [ea]; exact x8 k hk hc
  · have h1 := x10 g x q
    unfold fCounts at h1 ⊢
    rw [gone_up, if_neg (show ¬ J_entryOf (sAB v 1 e true) g = e from hm g x q)]
    exact h1
theorem L_open {n i : Nat} {u : TS} (h : INV n i u) (hi : i < 30) (hc : fLastC u (J_count u) ≠ none) :
    INV n (i + 1) (fOpen u ((fLastC u (J_count u)).getD 0)) ∧ ∀ j, fLock (fOpen u ((fLastC u (J_count u)).getD 0)) = some j → j ≤ 364 := by
  obtain ⟨e, he⟩ := Option.ne_none_iff_exists'.mp hc
  rw [he]
  have hlt := fLastC_lt u _ _ he
  show INV n (i + 1) (fOpen u e) ∧ ∀ j, fLock (fOpen u e) = some j → j ≤ 364
  have m0 := h.2.2.2.2.2.2.2.2.2.2.1
  have mg := h.2.2.2.2.2.2.2.2.2.2.2.1
  have m1 := h.2.2.2.2.2.2.2.2.2.2.2.2
  have p := PV.frees h.1 m0 (J_firstLeg u e) (J_legsOf u e)
  have I : INV n (i + 1) (fOpen u e) := by
    unfold fOpen
    generalize fFrees 0 u (J_firstLeg u e) (J_legsOf u e) = v at *
    obtain ⟨p, z⟩ := p
    have g := p.1.es
    have ot := p.2.2.2.2 1 (by decide)
    have iv : INV n (i + 1) v := (L_up h).core g p.2.1 (by rw [show T_today v = T_today u from congrFun p.1.1 0]; exact (L_up h).2.1.2.2.2.1) ((congrFun p.1.2.2.1 0).trans h.2.2.1) p.2.2.1 (p.2.2.2.1 mg) (m1.core g ot.1 ot.2.1 ot.2.2)
    refine es_open iv (by rw [g.jn]; exact hlt) (fun y x q e1 => ?_)
    have h1 := p.2.2.1.1 y x q
    obtain ⟨e', i', b1, b2, b3⟩ := CT.find iv.2.2.2.2.2.2.2.1 h1.1
    have b4 := iv.2.2.2.2.2.2.2.1.2.2 e' i' b1 b2
    rw [← b3, e1] at b4
    subst b4
    rw [g.legsOf] at b2
    rw [g.first] at b3
    rw [b3, z i' b2] at q
    cases q
  exact ⟨I, lock_le I.1⟩
