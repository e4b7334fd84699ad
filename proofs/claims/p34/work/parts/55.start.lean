theorem dL_law_0 : decode code 0 = .ok (.new 9, 3) := by decide +kernel
theorem dL_law_3 : decode code 3 = .ok (.dup, 1) := by decide +kernel
theorem dL_law_4 : decode code 4 = .ok (.invokespecial 11, 3) := by decide +kernel
theorem dL_law_7 : decode code 7 = .ok (.astore_n 1, 1) := by decide +kernel
theorem arr_known {s : State} {args : Array Value} {ty : FieldType} (hty : ty = .int ∨ ty = .long ∨ ty = .boolean) (h : (Cond.arrayClass ty).before args s = true) : ∃ cA, ArrOfT s cA ty ∧ va_RA s cA ty := by
  obtain ⟨cA, kA, comp, h1, h2, h3⟩ := Cond.arrayClass_spec h
  refine ⟨cA, fun n z => ⟨fun k h => (by cases h), kA, h2, comp, h3⟩, ?_⟩
  rcases hty with rfl | rfl | rfl <;> exact h1

set_option maxHeartbeats 8000000 in
set_option maxRecDepth 100000 in
theorem whole_start {p : Program} {e : Env} {s : State} {m : MethodId} {below : List Frame} {meth : Method} {c : Code} (l : Launch) (hflags : l.flags = flags0) {b L : Nat} {xs : Nat → Int32} (hL : L ≤ 260) (C0 : lw_At p s m meth c b L xs) : W p l e room_1 s m #[Value.ref b] below meth c s.heap [] 0 0 (lw_Z below #[Value.ref b] s) (entryFrame m ([Value.ref b] : List Value).toArray 20) := by
  obtain ⟨hx, hb, hr, hml, hown, hts0, hX, hbl, hlocks, hgv⟩ := id C0
  have hts : ∀ w ∈ WALL, w.before #[Value.ref b] s = true := fun w h => hts0 w (WALL_in w h)
  have hC : CallFix p m c code 20 s #[Value.ref b] WALL RL := ⟨hx, hb, hml, hown, hts⟩
  obtain ⟨c0, iS0, hKn0⟩ := u_known (C := RX0) (T := TX0) (N := 6) (n := 6) hts iw0 (hts _ w14)
  obtain ⟨c1, iS1, hKn1⟩ := u_known (C := RX1) (T := TX1) (N := 4) (n := 4) hts iw1 (hts _ w18)
  obtain ⟨c2, iS2, hKn2⟩ := u_known (C := RX2) (T := TX2) (N := 5) (n := 5) hts iw2 (hts _ w26)
  obtain ⟨c3, iS3, hKn3⟩ := u_known (C := RX3) (T := TX3) (N := 12) (n := 12) hts iw3 (hts _ w22)
  obtain ⟨c4, iS4, hKn4⟩ := u_known (C := RX4) (T := TX4) (N := 4) (n := 4) hts iw4 (hts _ w39)
  obtain ⟨c5, iS5, hKn5⟩ := u_known (C := RX5) (T := TX5) (N := 5) (n := 5) hts iw5 (hts _ w30)
  obtain ⟨c6, iS6, hKn6⟩ := u_known (C := RX6) (T := TX6) (N := 5) (n := 5) hts iw6 (hts _ w34)
  obtain ⟨c7, iS7, hKn7⟩ := u_known (C := RX7) (T := TX7) (N := 10) (n := 10) hts iw7 (hts _ w1)
  obtain ⟨D, hKc⟩ : ∃ D : va_G, ∀ (k : Nat) (q : vw_C), vwCl[k]? = some q → u_Kn s q.1 q.2.1 q.2.2 (D.1 k) (D.2 k) := by
    refine ⟨(fun k => match k with | 0 => c0 | 1 => c1 | 2 => c2 | 3 => c3 | 4 => c4 | 5 => c5 | 6 => c6 | _ => c7, fun k => match k with | 0 => iS0 | 1 => iS1 | 2 => iS2 | 3 => iS3 | 4 => iS4 | 5 => iS5 | 6 => iS6 | _ => iS7), ?_⟩
    intro k q hq
    match k, hq with
    | 0, hq => cases hq; exact hKn0
    | 1, hq => cases hq; exact hKn1
    | 2, hq => cases hq; exact hKn2
    | 3, hq => cases hq; exact hKn3
    | 4, hq => cases hq; exact hKn4
    | 5, hq => cases hq; exact hKn5
    | 6, hq => cases hq; exact hKn6
    | 7, hq => cases hq; exact hKn7
    | k + 8, hq => simp [vwCl] at hq
  obtain ⟨kA, eA, fA⟩ := arr_known (ty := .int) (by decide) (hts _ w47)
  obtain ⟨kB, eB, fB⟩ := arr_known (ty := .long) (by decide) (hts _ w67)
  obtain ⟨kZ, eZ, fZ⟩ := arr_known (ty := .boolean) (by decide) (hts _ w52)
  obtain ⟨κ, eκ⟩ : ∃ κ : ClassId × ClassId × ClassId, κ = (kA, kB, kZ) := ⟨_, rfl⟩
  have hK : va_K D vwCl (tysA κ) s := by
    refine ⟨hKc, fun k q h => ?_⟩
    subst eκ
    match k, h with
    | 0, h => cases h; exact ⟨eA, fA⟩
    | 1, h => cases h; exact ⟨eB, fB⟩
    | 2, h => cases h; exact ⟨eZ, fZ⟩
    | k + 3, h => simp [tysA] at h
  have hG : BW D κ [] (fun q : Nat => s.heap.size ≤ q) s s.heap [] := ⟨hK, fun k q h => by simp at h, ⟨fun i j p q h => by simp at h, fun k q h => by simp at h⟩, va_S.rf, fun _ h => h⟩
  have hX7 : XN [(RX7, 11, yX0_init), (RX7, 18, yX1_init), (RX1, 9, yX4_init), (RX7, 25, yX3_init), (RX7, 32, yX2_init), (RX7, 39, yX5_init), (RX7, 58, yX4_init)] s := by
    intro w hw
    simp only [List.mem_cons, List.not_mem_nil, or_false] at hw
    rcases hw with rfl | rfl | rfl | rfl | rfl | rfl | rfl
    · exact va_Nw.of rfl (hts0 _ wn_RX7_11)
    · exact va_Nw.of rfl (hts0 _ wn_RX7_18)
    · exact va_Nw.of rfl (hts0 _ wn_RX1_9)
    · exact va_Nw.of rfl (hts0 _ wn_RX7_25)
    · exact va_Nw.of rfl (hts0 _ wn_RX7_32)
    · exact va_Nw.of rfl (hts0 _ wn_RX7_39)
    · exact va_Nw.of rfl (hts0 _ wn_RX7_58)
  have hl := lv_entry ([.ref b]) (n := 20) (Nat.le_of_ble_eq_true rfl)
  rw [lg_entry_eq]
  generalize (lg_sl ([.ref b]) ++ List.replicate (20 - (lg_sl ([.ref b])).length) Slot.unset).toArray = ls at hl ⊢
  have hl : lv_has ls 20 [(0, .ref b)] := hl
  refine bw_new (C := RX7) (T := TX7) (N := 10) (ci := 7) (fs := [.null, .null, .null, .null, .null, .null, .null, .null, .int 0, .int 0]) hC hG iw7 tyX7_ok w0 w1 w2 rfl (fun j hj => by rcases (show j = 0 ∨ j = 1 ∨ j = 2 ∨ j = 3 ∨ j = 4 ∨ j = 5 ∨ j = 6 ∨ j = 7 ∨ j = 8 ∨ j = 9 by omega) with rfl | rfl | rfl | rfl | rfl | rfl | rfl | rfl | rfl | rfl <;> rfl) (Nat.le_of_ble_eq_true rfl) (Nat.le_of_ble_eq_true rfl) dL_law_0 (fun h0 H hG => ?_)
  have hG : BW D κ [(h0, .inr (7, [.null, .null, .null, .null, .null, .null, .null, .null, .int 0, .int 0]))] (fun q : Nat => s.heap.size ≤ q) s H [] := hG
  refine W.widen (k := 1) (n := 10) (by decide) (by decide) ?_
  refine lv_dup hx hb dL_law_3 rfl ?_
  refine bw_run (wc := [(h0, .inr (7, [.null, .null, .null, .null, .null, .null, .null, .null, .int 0, .int 0]))]) (wr := []) hG [0] [] rfl rfl (by decide) (by decide) (va_runI (As := []) (rest := [.ref h0]) hC (c_init_7 l D κ H.size h0) (cwI 0 hC.2.2.2.2 (fun w h => by rcases List.mem_cons.mp h with rfl | h; exact wl_in _ w9; exact wl_in _ h) rfl rfl rfl (hC.2.2.2.2 _ w2) (hC.2.2.2.2 _ w7) (hC.2.2.2.2 _ w8) rfl (by decide +kernel) ⟨by decide, by decide⟩) ⟨fun x U g mk q => ⟨q.1, q.2.1, ⟨va_K.moved (u := U) (U := U.calling g mk x) (Vm.Alike.refl U.vm) q.2.2.1.1, q.2.2.1.2⟩, XN.same rfl q.2.2.2⟩, fun U hU hW => ⟨rfl, by rw [hU], ⟨va_K.moved hW.alike hG.1, by rw [hU]; exact hG.2.1, hG.2.2.1.weaken (fun _ _ _ _ => trivial)⟩, XN.warm hW hX7 (fun _ h => h)⟩⟩ rfl rfl hl.1 rfl (lv_room (Nat.le_of_ble_eq_true rfl)) dL_law_4 ⟨by decide, by decide⟩) (fun qs H locs hG => ?_)
  obtain ⟨a, ea⟩ : ∃ a : Nat → Nat, a = fun k => match k with | 0 => h0 | 1 => qs 0 | 2 => qs 6 | 3 => qs 7 | 4 => qs 40 | 5 => qs 11 | 6 => qs 22 | 7 => qs 27 | 8 => qs 32 | 9 => qs 36 | 10 => qs 1 | 11 => qs 2 | 12 => qs 3 | 13 => qs 4 | 14 => qs 5 | 15 => qs 8 | 16 => qs 9 | 17 => qs 10 | 18 => qs 41 | 19 => qs 42 | 20 => qs 43 | 21 => qs 12 | 22 => qs 13 | 23 => qs 14 | 24 => qs 15 | 25 => qs 16 | 26 => qs 17 | 27 => qs 18 | 28 => qs 19 | 29 => qs 20 | 30 => qs 21 | 31 => qs 23 | 32 => qs 24 | 33 => qs 25 | 34 => qs 26 | 35 => qs 28 | 36 => qs 29 | 37 => qs 30 | 38 => qs 31 | 39 => qs 33 | 40 => qs 34 | 41 => qs 35 | 42 => qs 37 | 43 => qs 38 | _ => qs 39 := ⟨_, rfl⟩
  have hG := hG.at (ws' := cells κ a u0) [0, 1, 7, 8, 41, 12, 23, 28, 33, 37, 2, 3, 4, 5, 6, 9, 10, 11, 42, 43, 44, 13, 14, 15, 16, 17, 18, 19, 20, 21, 22, 24, 25, 26, 27, 29, 30, 31, 32, 34, 35, 36, 38, 39, 40] (by decide) (by subst ea; rfl)
  have hG : GW D κ a u0 (fun q : Nat => s.heap.size ≤ q) s H locs := hG
  have eh : h0 = a 0 := by subst ea; rfl
  rw [eh]
  refine W.widen (k := 45) (n := 4524) (by decide) (by decide) ?_
  refine lv_astore_n (lv' := [(1, .ref (a 0)), (0, .ref b)]) hx hb dL_law_7 rfl hl (by decide) rfl (fun ls hl => ?_)
  exact law_walk hL hC hr hlocks hX hbl H locs hG ls hl
