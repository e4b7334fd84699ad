section Rows
variable {p : Program} {l : Launch} {e : Env} {R : Room} {s : State} {m : MethodId} {args : Array Value} {below : List Frame} {meth : Method} {c : Code} {H : Heap} {locs : List Loc} {cs ss : Nat} {Q : State → Prop} {cc : ByteArray} {nL pc : Nat} {ls : Array Slot} {rest : List Value} {own : String} {idx : Nat} {D : va_G} {κ : ClassId × ClassId × ClassId} {a : Nat → Nat} {u : TS} {A : Nat → Prop}
theorem gf_T_accounts (hC : CallFix p m c cc nL s args WALL own) (hG : GW D κ a u A s H locs) (hl : (Cond.fieldLink own idx "Tollgate" "accounts" "LTollgate$Accounts;").before args s = true) (hd : decode cc pc = .ok (.getfield idx, 3)) (kk : W p l e R s m args below meth c H locs cs ss Q (F0 m (pc + 3) ls ((.ref (a 1)) :: rest))) : W p l e R s m args below meth c H locs cs ss Q (F0 m pc ls (.ref (a 0) :: rest)) :=
  va_get (D := D) (ci := 7) (C := RX7) (T := TX7) (N := 10) hC.1 hC.2.1 hC.2.2.2.2 iw7 hC.2.2.2.1 hG.1 hG.2.1 0 rfl rfl 0 (by decide) hl (fun _ h => h) rfl hd kk
theorem gf_T_draft (hC : CallFix p m c cc nL s args WALL own) (hG : GW D κ a u A s H locs) (hl : (Cond.fieldLink own idx "Tollgate" "draft" "LTollgate$Draft;").before args s = true) (hd : decode cc pc = .ok (.getfield idx, 3)) (kk : W p l e R s m args below meth c H locs cs ss Q (F0 m (pc + 3) ls ((.ref (a 2)) :: rest))) : W p l e R s m args below meth c H locs cs ss Q (F0 m pc ls (.ref (a 0) :: rest)) :=
  va_get (D := D) (ci := 7) (C := RX7) (T := TX7) (N := 10) hC.1 hC.2.1 hC.2.2.2.2 iw7 hC.2.2.2.1 hG.1 hG.2.1 0 rfl rfl 1 (by decide) hl (fun _ h => h) rfl hd kk
theorem gf_T_journal (hC : CallFix p m c cc nL s args WALL own) (hG : GW D κ a u A s H locs) (hl : (Cond.fieldLink own idx "Tollgate" "journal" "LTollgate$Journal;").before args s = true) (hd : decode cc pc = .ok (.getfield idx, 3)) (kk : W p l e R s m args below meth c H locs cs ss Q (F0 m (pc + 3) ls ((.ref (a 5)) :: rest))) : W p l e R s m args below meth c H locs cs ss Q (F0 m pc ls (.ref (a 0) :: rest)) :=
  va_get (D := D) (ci := 7) (C := RX7) (T := TX7) (N := 10) hC.1 hC.2.1 hC.2.2.2.2 iw7 hC.2.2.2.1 hG.1 hG.2.1 0 rfl rfl 2 (by decide) hl (fun _ h => h) rfl hd kk
theorem gf_T_holds (hC : CallFix p m c cc nL s args WALL own) (hG : GW D κ a u A s H locs) (hl : (Cond.fieldLink own idx "Tollgate" "holds" "LTollgate$Holds;").before args s = true) (hd : decode cc pc = .ok (.getfield idx, 3)) (kk : W p l e R s m args below meth c H locs cs ss Q (F0 m (pc + 3) ls ((.ref (a 6)) :: rest))) : W p l e R s m args below meth c H locs cs ss Q (F0 m pc ls (.ref (a 0) :: rest)) :=
  va_get (D := D) (ci := 7) (C := RX7) (T := TX7) (N := 10) hC.1 hC.2.1 hC.2.2.2.2 iw7 hC.2.2.2.1 hG.1 hG.2.1 0 rfl rfl 3 (by decide) hl (fun _ h => h) rfl hd kk
theorem gf_T_lines (hC : CallFix p m c cc nL s args WALL own) (hG : GW D κ a u A s H locs) (hl : (Cond.fieldLink own idx "Tollgate" "lines" "LTollgate$Lines;").before args s = true) (hd : decode cc pc = .ok (.getfield idx, 3)) (kk : W p l e R s m args below meth c H locs cs ss Q (F0 m (pc + 3) ls ((.ref (a 7)) :: rest))) : W p l e R s m args below meth c H locs cs ss Q (F0 m pc ls (.ref (a 0) :: rest)) :=
  va_get (D := D) (ci := 7) (C := RX7) (T := TX7) (N := 10) hC.1 hC.2.1 hC.2.2.2.2 iw7 hC.2.2.2.1 hG.1 hG.2.1 0 rfl rfl 4 (by decide) hl (fun _ h => h) rfl hd kk
theorem gf_T_kept (hC : CallFix p m c cc nL s args WALL own) (hG : GW D κ a u A s H locs) (hl : (Cond.fieldLink own idx "Tollgate" "kept" "LTollgate$Matching;").before args s = true) (hd : decode cc pc = .ok (.getfield idx, 3)) (kk : W p l e R s m args below meth c H locs cs ss Q (F0 m (pc + 3) ls ((.ref (a 8)) :: rest))) : W p l e R s m args below meth c H locs cs ss Q (F0 m pc ls (.ref (a 0) :: rest)) :=
  va_get (D := D) (ci := 7) (C := RX7) (T := TX7) (N := 10) hC.1 hC.2.1 hC.2.2.2.2 iw7 hC.2.2.2.1 hG.1 hG.2.1 0 rfl rfl 5 (by decide) hl (fun _ h => h) rfl hd kk
theorem gf_T_trial (hC : CallFix p m c cc nL s args WALL own) (hG : GW D κ a u A s H locs) (hl : (Cond.fieldLink own idx "Tollgate" "trial" "LTollgate$Matching;").before args s = true) (hd : decode cc pc = .ok (.getfield idx, 3)) (kk : W p l e R s m args below meth c H locs cs ss Q (F0 m (pc + 3) ls ((.ref (a 9)) :: rest))) : W p l e R s m args below meth c H locs cs ss Q (F0 m pc ls (.ref (a 0) :: rest)) :=
  va_get (D := D) (ci := 7) (C := RX7) (T := TX7) (N := 10) hC.1 hC.2.1 hC.2.2.2.2 iw7 hC.2.2.2.1 hG.1 hG.2.1 0 rfl rfl 6 (by decide) hl (fun _ h => h) rfl hd kk
theorem gf_T_plan (hC : CallFix p m c cc nL s args WALL own) (hG : GW D κ a u A s H locs) (hl : (Cond.fieldLink own idx "Tollgate" "plan" "LTollgate$LegRow;").before args s = true) (hd : decode cc pc = .ok (.getfield idx, 3)) (kk : W p l e R s m args below meth c H locs cs ss Q (F0 m (pc + 3) ls ((.ref (a 4)) :: rest))) : W p l e R s m args below meth c H locs cs ss Q (F0 m pc ls (.ref (a 0) :: rest)) :=
  va_get (D := D) (ci := 7) (C := RX7) (T := TX7) (N := 10) hC.1 hC.2.1 hC.2.2.2.2 iw7 hC.2.2.2.1 hG.1 hG.2.1 0 rfl rfl 7 (by decide) hl (fun _ h => h) rfl hd kk
theorem gf_T_exchangeAccount (hC : CallFix p m c cc nL s args WALL own) (hG : GW D κ a u A s H locs) (hl : (Cond.fieldLink own idx "Tollgate" "exchangeAccount" "I").before args s = true) (hd : decode cc pc = .ok (.getfield idx, 3)) (kk : W p l e R s m args below meth c H locs cs ss Q (F0 m (pc + 3) ls ((.int (oI (T_exchangeAccount u))) :: rest))) : W p l e R s m args below meth c H locs cs ss Q (F0 m pc ls (.ref (a 0) :: rest)) :=
  va_get (D := D) (ci := 7) (C := RX7) (T := TX7) (N := 10) hC.1 hC.2.1 hC.2.2.2.2 iw7 hC.2.2.2.1 hG.1 hG.2.1 0 rfl rfl 8 (by decide) hl (fun _ h => h) rfl hd kk
theorem pf_T_exchangeAccount (hC : CallFix p m c cc nL s args WALL own) (hG : GW D κ a u A s H locs) {v : Option Nat} (hl : (Cond.fieldLink own idx "Tollgate" "exchangeAccount" "I").before args s = true) (hd : decode cc pc = .ok (.putfield idx, 3)) (kk : ∀ (H1 : Heap) (locs1 : List Loc), GW D κ a (sO u 0 v) A s H1 locs1 → W p l e R s m args below meth c H1 locs1 cs ss Q (F0 m (pc + 3) ls rest)) : W p l e R s m args below meth c H locs cs ss Q (F0 m pc ls (.int (oI v) :: .ref (a 0) :: rest)) :=
  va_put (D := D) (ci := 7) (v := .int (oI v)) (ty := .int) (C := RX7) (T := TX7) (N := 10) hC.1 hC.2.1 hC.2.2.2.2 iw7 tyX7 tyX7_ok nmX7 hC.2.2.2.1 hG.1 hG.2.1 hG.2.2.1 hG.2.2.2.1 0 rfl rfl 8 (by decide) hl (fun _ h => h) rfl (by decide +kernel) rfl rfl (Nat.le_of_ble_eq_true rfl) hd (fun H1 locs1 h1 h2 h3 => kk H1 locs1 ⟨hG.1, h1, h2, h3, hG.2.2.2.2⟩)
theorem gf_T_today (hC : CallFix p m c cc nL s args WALL own) (hG : GW D κ a u A s H locs) (hl : (Cond.fieldLink own idx "Tollgate" "today" "I").before args s = true) (hd : decode cc pc = .ok (.getfield idx, 3)) (kk : W p l e R s m args below meth c H locs cs ss Q (F0 m (pc + 3) ls ((.int (nI (T_today u))) :: rest))) : W p l e R s m args below meth c H locs cs ss Q (F0 m pc ls (.ref (a 0) :: rest)) :=
  va_get (D := D) (ci := 7) (C := RX7) (T := TX7) (N := 10) hC.1 hC.2.1 hC.2.2.2.2 iw7 hC.2.2.2.1 hG.1 hG.2.1 0 rfl rfl 9 (by decide) hl (fun _ h => h) rfl hd kk
theorem pf_T_today (hC : CallFix p m c cc nL s args WALL own) (hG : GW D κ a u A s H locs) {v : Nat} (hl : (Cond.fieldLink own idx "Tollgate" "today" "I").before args s = true) (hd : decode cc pc = .ok (.putfield idx, 3)) (kk : ∀ (H1 : Heap) (locs1 : List Loc), GW D κ a (sN u 0 v) A s H1 locs1 → W p l e R s m args below meth c H1 locs1 cs ss Q (F0 m (pc + 3) ls rest)) : W p l e R s m args below meth c H locs cs ss Q (F0 m pc ls (.int (nI v) :: .ref (a 0) :: rest)) :=
  va_put (D := D) (ci := 7) (v := .int (nI v)) (ty := .int) (C := RX7) (T := TX7) (N := 10) hC.1 hC.2.1 hC.2.2.2.2 iw7 tyX7 tyX7_ok nmX7 hC.2.2.2.1 hG.1 hG.2.1 hG.2.2.1 hG.2.2.2.1 0 rfl rfl 9 (by decide) hl (fun _ h => h) rfl (by decide +kernel) rfl rfl (Nat.le_of_ble_eq_true rfl) hd (fun H1 locs1 h1 h2 h3 => kk H1 locs1 ⟨hG.1, h1, h2, h3, hG.2.2.2.2⟩)
theorem gf_AC_rates (hC : CallFix p m c cc nL s args WALL own) (hG : GW D κ a u A s H locs) (hl : (Cond.fieldLink own idx "Tollgate$Accounts" "rates" "[I").before args s = true) (hd : decode cc pc = .ok (.getfield idx, 3)) (kk : W p l e R s m args below meth c H locs cs ss Q (F0 m (pc + 3) ls ((.ref (a 10)) :: rest))) : W p l e R s m args below meth c H locs cs ss Q (F0 m pc ls (.ref (a 1) :: rest)) :=
  va_get (D := D) (ci := 0) (C := RX0) (T := TX0) (N := 6) hC.1 hC.2.1 hC.2.2.2.2 iw0 hC.2.2.2.1 hG.1 hG.2.1 1 rfl rfl 0 (by decide) hl (fun _ h => h) rfl hd kk
theorem al_AC_rates (hC : CallFix p m c cc nL s args WALL own) (hG : GW D κ a u A s H locs) {i : Nat} (hi : i < 4) (hd : decode cc pc = .ok (.iaload, 1)) (kk : W p l e R s m args below meth c H locs cs ss Q (F0 m (pc + 1) ls (.int (AC_rates u i) :: rest))) : W p l e R s m args below meth c H locs cs ss Q (F0 m pc ls (.int (nI i) :: .ref (a 10) :: rest)) :=
  va_iald hC.1 hC.2.1 hG.1 hG.2.1 10 0 rfl rfl (vp_in_nI hi (by decide)) hd (by
    have e9 : (nI i).toNatClampNeg = i := nI_clamp (by omega)
    rw [e9]
    exact kk)
theorem as_AC_rates (hC : CallFix p m c cc nL s args WALL own) (hG : GW D κ a u A s H locs) {i : Nat} {v : Int32} (hi : i < 4) (hd : decode cc pc = .ok (.iastore, 1)) (kk : ∀ (H1 : Heap) (locs1 : List Loc), GW D κ a (sAI u 0 i v) A s H1 locs1 → W p l e R s m args below meth c H1 locs1 cs ss Q (F0 m (pc + 1) ls rest)) : W p l e R s m args below meth c H locs cs ss Q (F0 m pc ls (.int v :: .int (nI i) :: .ref (a 10) :: rest)) :=
  va_iast hC.1 hC.2.1 hG.1 hG.2.1 hG.2.2.1 hG.2.2.2.1 10 0 rfl rfl (vp_in_nI hi (by decide)) hd (fun H1 locs1 h1 h2 h3 => by
    have e9 : (nI i).toNatClampNeg = i := nI_clamp (by omega)
    rw [e9, fnI (u.2.2.2.2.1 0) i v] at h1 h2
    exact kk H1 locs1 ⟨hG.1, h1, h2, h3, hG.2.2.2.2⟩)
theorem gf_AC_kind (hC : CallFix p m c cc nL s args WALL own) (hG : GW D κ a u A s H locs) (hl : (Cond.fieldLink own idx "Tollgate$Accounts" "kind" "[I").before args s = true) (hd : decode cc pc = .ok (.getfield idx, 3)) (kk : W p l e R s m args below meth c H locs cs ss Q (F0 m (pc + 3) ls ((.ref (a 11)) :: rest))) : W p l e R s m args below meth c H locs cs ss Q (F0 m pc ls (.ref (a 1) :: rest)) :=
  va_get (D := D) (ci := 0) (C := RX0) (T := TX0) (N := 6) hC.1 hC.2.1 hC.2.2.2.2 iw0 hC.2.2.2.1 hG.1 hG.2.1 1 rfl rfl 1 (by decide) hl (fun _ h => h) rfl hd kk
theorem al_AC_kind (hC : CallFix p m c cc nL s args WALL own) (hG : GW D κ a u A s H locs) {i : Nat} (hi : i < 10) (hd : decode cc pc = .ok (.iaload, 1)) (kk : W p l e R s m args below meth c H locs cs ss Q (F0 m (pc + 1) ls (.int (nI (AC_kind u i)) :: rest))) : W p l e R s m args below meth c H locs cs ss Q (F0 m pc ls (.int (nI i) :: .ref (a 11) :: rest)) :=
  va_iald hC.1 hC.2.1 hG.1 hG.2.1 11 0 rfl rfl (vp_in_nI hi (by decide)) hd (by
    have e9 : (nI i).toNatClampNeg = i := nI_clamp (by omega)
    rw [e9]
    exact kk)
theorem as_AC_kind (hC : CallFix p m c cc nL s args WALL own) (hG : GW D κ a u A s H locs) {i : Nat} {v : Nat} (hi : i < 10) (hd : decode cc pc = .ok (.iastore, 1)) (kk : ∀ (H1 : Heap) (locs1 : List Loc), GW D κ a (sAN u 0 i v) A s H1 locs1 → W p l e R s m args below meth c H1 locs1 cs ss Q (F0 m (pc + 1) ls rest)) : W p l e R s m args below meth c H locs cs ss Q (F0 m pc ls (.int (nI v) :: .int (nI i) :: .ref (a 11) :: rest)) :=
  va_iast hC.1 hC.2.1 hG.1 hG.2.1 hG.2.2.1 hG.2.2.2.1 11 0 rfl rfl (vp_in_nI hi (by decide)) hd (fun H1 locs1 h1 h2 h3 => by
    have e9 : (nI i).toNatClampNeg = i := nI_clamp (by omega)
    rw [e9, fnN (u.2.2.2.1 0) i v] at h1 h2
    exact kk H1 locs1 ⟨hG.1, h1, h2, h3, hG.2.2.2.2⟩)
theorem gf_AC_currency (hC : CallFix p m c cc nL s args WALL own) (hG : GW D κ a u A s H locs) (hl : (Cond.fieldLink own idx "Tollgate$Accounts" "currency" "[I").before args s = true) (hd : decode cc pc = .ok (.getfield idx, 3)) (kk : W p l e R s m args below meth c H locs cs ss Q (F0 m (pc + 3) ls ((.ref (a 12)) :: rest))) : W p l e R s m args below meth c H locs cs ss Q (F0 m pc ls (.ref (a 1) :: rest)) :=
  va_get (D := D) (ci := 0) (C := RX0) (T := TX0) (N := 6) hC.1 hC.2.1 hC.2.2.2.2 iw0 hC.2.2.2.1 hG.1 hG.2.1 1 rfl rfl 2 (by decide) hl (fun _ h => h) rfl hd kk
theorem al_AC_currency (hC : CallFix p m c cc nL s args WALL own) (hG : GW D κ a u A s H locs) {i : Nat} (hi : i < 10) (hd : decode cc pc = .ok (.iaload, 1)) (kk : W p l e R s m args below meth c H locs cs ss Q (F0 m (pc + 1) ls (.int (nI (AC_currency u i)) :: rest))) : W p l e R s m args below meth c H locs cs ss Q (F0 m pc ls (.int (nI i) :: .ref (a 12) :: rest)) :=
  va_iald hC.1 hC.2.1 hG.1 hG.2.1 12 0 rfl rfl (vp_in_nI hi (by decide)) hd (by
    have e9 : (nI i).toNatClampNeg = i := nI_clamp (by omega)
    rw [e9]
    exact kk)
theorem as_AC_currency (hC : CallFix p m c cc nL s args WALL own) (hG : GW D κ a u A s H locs) {i : Nat} {v : Nat} (hi : i < 10) (hd : decode cc pc = .ok (.iastore, 1)) (kk : ∀ (H1 : Heap) (locs1 : List Loc), GW D κ a (sAN u 1 i v) A s H1 locs1 → W p l e R s m args below meth c H1 locs1 cs ss Q (F0 m (pc + 1) ls rest)) : W p l e R s m args below meth c H locs cs ss Q (F0 m pc ls (.int (nI v) :: .int (nI i) :: .ref (a 12) :: rest)) :=
  va_iast hC.1 hC.2.1 hG.1 hG.2.1 hG.2.2.1 hG.2.2.2.1 12 0 rfl rfl (vp_in_nI hi (by decide)) hd (fun H1 locs1 h1 h2 h3 => by
    have e9 : (nI i).toNatClampNeg = i := nI_clamp (by omega)
    rw [e9, fnN (u.2.2.2.1 1) i v] at h1 h2
    exact kk H1 locs1 ⟨hG.1, h1, h2, h3, hG.2.2.2.2⟩)
theorem gf_AC_floors (hC : CallFix p m c cc nL s args WALL own) (hG : GW D κ a u A s H locs) (hl : (Cond.fieldLink own idx "Tollgate$Accounts" "floors" "[I").before args s = true) (hd : decode cc pc = .ok (.getfield idx, 3)) (kk : W p l e R s m args below meth c H locs cs ss Q (F0 m (pc + 3) ls ((.ref (a 13)) :: rest))) : W p l e R s m args below meth c H locs cs ss Q (F0 m pc ls (.ref (a 1) :: rest)) :=
  va_get (D := D) (ci := 0) (C := RX0) (T := TX0) (N := 6) hC.1 hC.2.1 hC.2.2.2.2 iw0 hC.2.2.2.1 hG.1 hG.2.1 1 rfl rfl 3 (by decide) hl (fun _ h => h) rfl hd kk
theorem al_AC_floors (hC : CallFix p m c cc nL s args WALL own) (hG : GW D κ a u A s H locs) {i : Nat} (hi : i < 10) (hd : decode cc pc = .ok (.iaload, 1)) (kk : W p l e R s m args below meth c H locs cs ss Q (F0 m (pc + 1) ls (.int (AC_floors u i) :: rest))) : W p l e R s m args below meth c H locs cs ss Q (F0 m pc ls (.int (nI i) :: .ref (a 13) :: rest)) :=
  va_iald hC.1 hC.2.1 hG.1 hG.2.1 13 0 rfl rfl (vp_in_nI hi (by decide)) hd (by
    have e9 : (nI i).toNatClampNeg = i := nI_clamp (by omega)
    rw [e9]
    exact kk)
theorem as_AC_floors (hC : CallFix p m c cc nL s args WALL own) (hG : GW D κ a u A s H locs) {i : Nat} {v : Int32} (hi : i < 10) (hd : decode cc pc = .ok (.iastore, 1)) (kk : ∀ (H1 : Heap) (locs1 : List Loc), GW D κ a (sAI u 1 i v) A s H1 locs1 → W p l e R s m args below meth c H1 locs1 cs ss Q (F0 m (pc + 1) ls rest)) : W p l e R s m args below meth c H locs cs ss Q (F0 m pc ls (.int v :: .int (nI i) :: .ref (a 13) :: rest)) :=
  va_iast hC.1 hC.2.1 hG.1 hG.2.1 hG.2.2.1 hG.2.2.2.1 13 0 rfl rfl (vp_in_nI hi (by decide)) hd (fun H1 locs1 h1 h2 h3 => by
    have e9 : (nI i).toNatClampNeg = i := nI_clamp (by omega)
    rw [e9, fnI (u.2.2.2.2.1 1) i v] at h1 h2
    exact kk H1 locs1 ⟨hG.1, h1, h2, h3, hG.2.2.2.2⟩)
theorem gf_AC_hasFloor (hC : CallFix p m c cc nL s args WALL own) (hG : GW D κ a u A s H locs) (hl : (Cond.fieldLink own idx "Tollgate$Accounts" "hasFloor" "[Z").before args s = true) (hd : decode cc pc = .ok (.getfield idx, 3)) (kk : W p l e R s m args below meth c H locs cs ss Q (F0 m (pc + 3) ls ((.ref (a 14)) :: rest))) : W p l e R s m args below meth c H locs cs ss Q (F0 m pc ls (.ref (a 1) :: rest)) :=
  va_get (D := D) (ci := 0) (C := RX0) (T := TX0) (N := 6) hC.1 hC.2.1 hC.2.2.2.2 iw0 hC.2.2.2.1 hG.1 hG.2.1 1 rfl rfl 4 (by decide) hl (fun _ h => h) rfl hd kk
theorem al_AC_hasFloor (hC : CallFix p m c cc nL s args WALL own) (hG : GW D κ a u A s H locs) {i : Nat} (hi : i < 10) (hd : decode cc pc = .ok (.baload, 1)) (kk : W p l e R s m args below meth c H locs cs ss Q (F0 m (pc + 1) ls (.int (bI (AC_hasFloor u i)) :: rest))) : W p l e R s m args below meth c H locs cs ss Q (F0 m pc ls (.int (nI i) :: .ref (a 14) :: rest)) :=
  va_zald hC.1 hC.2.1 hG.1 hG.2.1 14 2 rfl rfl (vp_in_nI hi (by decide)) hd (by
    have e9 : (nI i).toNatClampNeg = i := nI_clamp (by omega)
    rw [e9]
    exact kk)
theorem as_AC_hasFloor (hC : CallFix p m c cc nL s args WALL own) (hG : GW D κ a u A s H locs) {i : Nat} {v : Bool} (hi : i < 10) (hd : decode cc pc = .ok (.bastore, 1)) (kk : ∀ (H1 : Heap) (locs1 : List Loc), GW D κ a (sAB u 0 i v) A s H1 locs1 → W p l e R s m args below meth c H1 locs1 cs ss Q (F0 m (pc + 1) ls rest)) : W p l e R s m args below meth c H locs cs ss Q (F0 m pc ls (.int (bI v) :: .int (nI i) :: .ref (a 14) :: rest)) :=
  va_zast hC.1 hC.2.1 hG.1 hG.2.1 hG.2.2.1 hG.2.2.2.1 14 2 rfl rfl (vp_in_nI hi (by decide)) hd (fun H1 locs1 h1 h2 h3 => by
    have e9 : (nI i).toNatClampNeg = i := nI_clamp (by omega)
    rw [e9, bI_v, fnB (u.2.2.2.2.2.1 0) i v] at h1 h2
    exact kk H1 locs1 ⟨hG.1, h1, h2, h3, hG.2.2.2.2⟩)
theorem gf_AC_count (hC : CallFix p m c cc nL s args WALL own) (hG : GW D κ a u A s H locs) (hl : (Cond.fieldLink own idx "Tollgate$Accounts" "count" "I").before args s = true) (hd : decode cc pc = .ok (.getfield idx, 3)) (kk : W p l e R s m args below meth c H locs cs ss Q (F0 m (pc + 3) ls ((.int (nI (AC_count u))) :: rest))) : W p l e R s m args below meth c H locs cs ss Q (F0 m pc ls (.ref (a 1) :: rest)) :=
  va_get (D := D) (ci := 0) (C := RX0) (T := TX0) (N := 6) hC.1 hC.2.1 hC.2.2.2.2 iw0 hC.2.2.2.1 hG.1 hG.2.1 1 rfl rfl 5 (by decide) hl (fun _ h => h) rfl hd kk
theorem pf_AC_count (hC : CallFix p m c cc nL s args WALL own) (hG : GW D κ a u A s H locs) {v : Nat} (hl : (Cond.fieldLink own idx "Tollgate$Accounts" "count" "I").before args s = true) (hd : decode cc pc = .ok (.putfield idx, 3)) (kk : ∀ (H1 : Heap) (locs1 : List Loc), GW D κ a (sN u 1 v) A s H1 locs1 → W p l e R s m args below meth c H1 locs1 cs ss Q (F0 m (pc + 3) ls rest)) : W p l e R s m args below meth c H locs cs ss Q (F0 m pc ls (.int (nI v) :: .ref (a 1) :: rest)) :=
  va_put (D := D) (ci := 0) (v := .int (nI v)) (ty := .int) (C := RX0) (T := TX0) (N := 6) hC.1 hC.2.1 hC.2.2.2.2 iw0 tyX0 tyX0_ok nmX0 hC.2.2.2.1 hG.1 hG.2.1 hG.2.2.1 hG.2.2.2.1 1 rfl rfl 5 (by decide) hl (fun _ h => h) rfl (by decide +kernel) rfl rfl (Nat.le_of_ble_eq_true rfl) hd (fun H1 locs1 h1 h2 h3 => kk H1 locs1 ⟨hG.1, h1, h2, h3, hG.2.2.2.2⟩)
theorem gf_DR_legs (hC : CallFix p m c cc nL s args WALL own) (hG : GW D κ a u A s H locs) (hl : (Cond.fieldLink own idx "Tollgate$Draft" "legs" "LTollgate$LegRow;").before args s = true) (hd : decode cc pc = .ok (.getfield idx, 3)) (kk : W p l e R s m args below meth c H locs cs ss Q (F0 m (pc + 3) ls ((.ref (a 3)) :: rest))) : W p l e R s m args below meth c H locs cs ss Q (F0 m pc ls (.ref (a 2) :: rest)) :=
  va_get (D := D) (ci := 1) (C := RX1) (T := TX1) (N := 4) hC.1 hC.2.1 hC.2.2.2.2 iw1 hC.2.2.2.1 hG.1 hG.2.1 2 rfl rfl 0 (by decide) hl (fun _ h => h) rfl hd kk
theorem gf_DR_isThere (hC : CallFix p m c cc nL s args WALL own) (hG : GW D κ a u A s H locs) (hl : (Cond.fieldLink own idx "Tollgate$Draft" "isThere" "Z").before args s = true) (hd : decode cc pc = .ok (.getfield idx, 3)) (kk : W p l e R s m args below meth c H locs cs ss Q (F0 m (pc + 3) ls ((.int (bI (DR_isThere u))) :: rest))) : W p l e R s m args below meth c H locs cs ss Q (F0 m pc ls (.ref (a 2) :: rest)) :=
  va_get (D := D) (ci := 1) (C := RX1) (T := TX1) (N := 4) hC.1 hC.2.1 hC.2.2.2.2 iw1 hC.2.2.2.1 hG.1 hG.2.1 2 rfl rfl 1 (by decide) hl (fun _ h => h) rfl hd kk
theorem pf_DR_isThere (hC : CallFix p m c cc nL s args WALL own) (hG : GW D κ a u A s H locs) {v : Bool} (hl : (Cond.fieldLink own idx "Tollgate$Draft" "isThere" "Z").before args s = true) (hd : decode cc pc = .ok (.putfield idx, 3)) (kk : ∀ (H1 : Heap) (locs1 : List Loc), GW D κ a (sB u 0 v) A s H1 locs1 → W p l e R s m args below meth c H1 locs1 cs ss Q (F0 m (pc + 3) ls rest)) : W p l e R s m args below meth c H locs cs ss Q (F0 m pc ls (.int (bI v) :: .ref (a 2) :: rest)) :=
  va_put (D := D) (ci := 1) (v := .int (bI v)) (ty := .boolean) (C := RX1) (T := TX1) (N := 4) hC.1 hC.2.1 hC.2.2.2.2 iw1 tyX1 tyX1_ok nmX1 hC.2.2.2.1 hG.1 hG.2.1 hG.2.2.1 hG.2.2.2.1 2 rfl rfl 1 (by decide) hl (fun _ h => h) rfl (by decide +kernel) (bI_n v) (bI_f v) (Nat.le_of_ble_eq_true rfl) hd (fun H1 locs1 h1 h2 h3 => kk H1 locs1 ⟨hG.1, h1, h2, h3, hG.2.2.2.2⟩)
theorem gf_DR_day (hC : CallFix p m c cc nL s args WALL own) (hG : GW D κ a u A s H locs) (hl : (Cond.fieldLink own idx "Tollgate$Draft" "day" "I").before args s = true) (hd : decode cc pc = .ok (.getfield idx, 3)) (kk : W p l e R s m args below meth c H locs cs ss Q (F0 m (pc + 3) ls ((.int (nI (DR_day u))) :: rest))) : W p l e R s m args below meth c H locs cs ss Q (F0 m pc ls (.ref (a 2) :: rest)) :=
  va_get (D := D) (ci := 1) (C := RX1) (T := TX1) (N := 4) hC.1 hC.2.1 hC.2.2.2.2 iw1 hC.2.2.2.1 hG.1 hG.2.1 2 rfl rfl 2 (by decide) hl (fun _ h => h) rfl hd kk
theorem pf_DR_day (hC : CallFix p m c cc nL s args WALL own) (hG : GW D κ a u A s H locs) {v : Nat} (hl : (Cond.fieldLink own idx "Tollgate$Draft" "day" "I").before args s = true) (hd : decode cc pc = .ok (.putfield idx, 3)) (kk : ∀ (H1 : Heap) (locs1 : List Loc), GW D κ a (sN u 2 v) A s H1 locs1 → W p l e R s m args below meth c H1 locs1 cs ss Q (F0 m (pc + 3) ls rest)) : W p l e R s m args below meth c H locs cs ss Q (F0 m pc ls (.int (nI v) :: .ref (a 2) :: rest)) :=
  va_put (D := D) (ci := 1) (v := .int (nI v)) (ty := .int) (C := RX1) (T := TX1) (N := 4) hC.1 hC.2.1 hC.2.2.2.2 iw1 tyX1 tyX1_ok nmX1 hC.2.2.2.1 hG.1 hG.2.1 hG.2.2.1 hG.2.2.2.1 2 rfl rfl 2 (by decide) hl (fun _ h => h) rfl (by decide +kernel) rfl rfl (Nat.le_of_ble_eq_true rfl) hd (fun H1 locs1 h1 h2 h3 => kk H1 locs1 ⟨hG.1, h1, h2, h3, hG.2.2.2.2⟩)
theorem gf_DR_note (hC : CallFix p m c cc nL s args WALL own) (hG : GW D κ a u A s H locs) (hl : (Cond.fieldLink own idx "Tollgate$Draft" "note" "I").before args s = true) (hd : decode cc pc = .ok (.getfield idx, 3)) (kk : W p l e R s m args below meth c H locs cs ss Q (F0 m (pc + 3) ls ((.int (nI (DR_note u))) :: rest))) : W p l e R s m args below meth c H locs cs ss Q (F0 m pc ls (.ref (a 2) :: rest)) :=
  va_get (D := D) (ci := 1) (C := RX1) (T := TX1) (N := 4) hC.1 hC.2.1 hC.2.2.2.2 iw1 hC.2.2.2.1 hG.1 hG.2.1 2 rfl rfl 3 (by decide) hl (fun _ h => h) rfl hd kk
theorem pf_DR_note (hC : CallFix p m c cc nL s args WALL own) (hG : GW D κ a u A s H locs) {v : Nat} (hl : (Cond.fieldLink own idx "Tollgate$Draft" "note" "I").before args s = true) (hd : decode cc pc = .ok (.putfield idx, 3)) (kk : ∀ (H1 : Heap) (locs1 : List Loc), GW D κ a (sN u 3 v) A s H1 locs1 → W p l e R s m args below meth c H1 locs1 cs ss Q (F0 m (pc + 3) ls rest)) : W p l e R s m args below meth c H locs cs ss Q (F0 m pc ls (.int (nI v) :: .ref (a 2) :: rest)) :=
  va_put (D := D) (ci := 1) (v := .int (nI v)) (ty := .int) (C := RX1) (T := TX1) (N := 4) hC.1 hC.2.1 hC.2.2.2.2 iw1 tyX1 tyX1_ok nmX1 hC.2.2.2.1 hG.1 hG.2.1 hG.2.2.1 hG.2.2.2.1 2 rfl rfl 3 (by decide) hl (fun _ h => h) rfl (by decide +kernel) rfl rfl (Nat.le_of_ble_eq_true rfl) hd (fun H1 locs1 h1 h2 h3 => kk H1 locs1 ⟨hG.1, h1, h2, h3, hG.2.2.2.2⟩)
theorem gf_L0_account (hC : CallFix p m c cc nL s args WALL own) (hG : GW D κ a u A s H locs) (hl : (Cond.fieldLink own idx "Tollgate$LegRow" "account" "[I").before args s = true) (hd : decode cc pc = .ok (.getfield idx, 3)) (kk : W p l e R s m args below meth c H locs cs ss Q (F0 m (pc + 3) ls ((.ref (a 15)) :: rest))) : W p l e R s m args below meth c H locs cs ss Q (F0 m pc ls (.ref (a 3) :: rest)) :=
  va_get (D := D) (ci := 4) (C := RX4) (T := TX4) (N := 4) hC.1 hC.2.1 hC.2.2.2.2 iw4 hC.2.2.2.1 hG.1 hG.2.1 3 rfl rfl 0 (by decide) hl (fun _ h => h) rfl hd kk
theorem al_L0_account (hC : CallFix p m c cc nL s args WALL own) (hG : GW D κ a u A s H locs) {i : Nat} (hi : i < 10) (hd : decode cc pc = .ok (.iaload, 1)) (kk : W p l e R s m args below meth c H locs cs ss Q (F0 m (pc + 1) ls (.int (nI (L0_account u i)) :: rest))) : W p l e R s m args below meth c H locs cs ss Q (F0 m pc ls (.int (nI i) :: .ref (a 15) :: rest)) :=
  va_iald hC.1 hC.2.1 hG.1 hG.2.1 15 0 rfl rfl (vp_in_nI hi (by decide)) hd (by
    have e9 : (nI i).toNatClampNeg = i := nI_clamp (by omega)
    rw [e9]
    exact kk)
theorem as_L0_account (hC : CallFix p m c cc nL s args WALL own) (hG : GW D κ a u A s H locs) {i : Nat} {v : Nat} (hi : i < 10) (hd : decode cc pc = .ok (.iastore, 1)) (kk : ∀ (H1 : Heap) (locs1 : List Loc), GW D κ a (sAN u 2 i v) A s H1 locs1 → W p l e R s m args below meth c H1 locs1 cs ss Q (F0 m (pc + 1) ls rest)) : W p l e R s m args below meth c H locs cs ss Q (F0 m pc ls (.int (nI v) :: .int (nI i) :: .ref (a 15) :: rest)) :=
  va_iast hC.1 hC.2.1 hG.1 hG.2.1 hG.2.2.1 hG.2.2.2.1 15 0 rfl rfl (vp_in_nI hi (by decide)) hd (fun H1 locs1 h1 h2 h3 => by
    have e9 : (nI i).toNatClampNeg = i := nI_clamp (by omega)
    rw [e9, fnN (u.2.2.2.1 2) i v] at h1 h2
    exact kk H1 locs1 ⟨hG.1, h1, h2, h3, hG.2.2.2.2⟩)
theorem gf_L0_amount (hC : CallFix p m c cc nL s args WALL own) (hG : GW D κ a u A s H locs) (hl : (Cond.fieldLink own idx "Tollgate$LegRow" "amount" "[J").before args s = true) (hd : decode cc pc = .ok (.getfield idx, 3)) (kk : W p l e R s m args below meth c H locs cs ss Q (F0 m (pc + 3) ls ((.ref (a 16)) :: rest))) : W p l e R s m args below meth c H locs cs ss Q (F0 m pc ls (.ref (a 3) :: rest)) :=
  va_get (D := D) (ci := 4) (C := RX4) (T := TX4) (N := 4) hC.1 hC.2.1 hC.2.2.2.2 iw4 hC.2.2.2.1 hG.1 hG.2.1 3 rfl rfl 1 (by decide) hl (fun _ h => h) rfl hd kk
theorem al_L0_amount (hC : CallFix p m c cc nL s args WALL own) (hG : GW D κ a u A s H locs) {i : Nat} (hi : i < 10) (hd : decode cc pc = .ok (.laload, 1)) (kk : W p l e R s m args below meth c H locs cs ss Q (F0 m (pc + 1) ls (.long (L0_amount u i) :: rest))) : W p l e R s m args below meth c H locs cs ss Q (F0 m pc ls (.int (nI i) :: .ref (a 16) :: rest)) :=
  va_lald hC.1 hC.2.1 hG.1 hG.2.1 16 1 rfl rfl (vp_in_nI hi (by decide)) hd (by
    have e9 : (nI i).toNatClampNeg = i := nI_clamp (by omega)
    rw [e9]
    exact kk)
theorem as_L0_amount (hC : CallFix p m c cc nL s args WALL own) (hG : GW D κ a u A s H locs) {i : Nat} {v : Int64} (hi : i < 10) (hd : decode cc pc = .ok (.lastore, 1)) (kk : ∀ (H1 : Heap) (locs1 : List Loc), GW D κ a (sAJ u 0 i v) A s H1 locs1 → W p l e R s m args below meth c H1 locs1 cs ss Q (F0 m (pc + 1) ls rest)) : W p l e R s m args below meth c H locs cs ss Q (F0 m pc ls (.long v :: .int (nI i) :: .ref (a 16) :: rest)) :=
  va_last hC.1 hC.2.1 hG.1 hG.2.1 hG.2.2.1 hG.2.2.2.1 16 1 rfl rfl (vp_in_nI hi (by decide)) hd (fun H1 locs1 h1 h2 h3 => by
    have e9 : (nI i).toNatClampNeg = i := nI_clamp (by omega)
    rw [e9, fnJ (u.2.2.2.2.2.2.2 0) i v] at h1 h2
    exact kk H1 locs1 ⟨hG.1, h1, h2, h3, hG.2.2.2.2⟩)
theorem gf_L0_worth (hC : CallFix p m c cc nL s args WALL own) (hG : GW D κ a u A s H locs) (hl : (Cond.fieldLink own idx "Tollgate$LegRow" "worth" "[J").before args s = true) (hd : decode cc pc = .ok (.getfield idx, 3)) (kk : W p l e R s m args below meth c H locs cs ss Q (F0 m (pc + 3) ls ((.ref (a 17)) :: rest))) : W p l e R s m args below meth c H locs cs ss Q (F0 m pc ls (.ref (a 3) :: rest)) :=
  va_get (D := D) (ci := 4) (C := RX4) (T := TX4) (N := 4) hC.1 hC.2.1 hC.2.2.2.2 iw4 hC.2.2.2.1 hG.1 hG.2.1 3 rfl rfl 2 (by decide) hl (fun _ h => h) rfl hd kk
theorem al_L0_worth (hC : CallFix p m c cc nL s args WALL own) (hG : GW D κ a u A s H locs) {i : Nat} (hi : i < 10) (hd : decode cc pc = .ok (.laload, 1)) (kk : W p l e R s m args below meth c H locs cs ss Q (F0 m (pc + 1) ls (.long (L0_worth u i) :: rest))) : W p l e R s m args below meth c H locs cs ss Q (F0 m pc ls (.int (nI i) :: .ref (a 17) :: rest)) :=
  va_lald hC.1 hC.2.1 hG.1 hG.2.1 17 1 rfl rfl (vp_in_nI hi (by decide)) hd (by
    have e9 : (nI i).toNatClampNeg = i := nI_clamp (by omega)
    rw [e9]
    exact kk)
theorem as_L0_worth (hC : CallFix p m c cc nL s args WALL own) (hG : GW D κ a u A s H locs) {i : Nat} {v : Int64} (hi : i < 10) (hd : decode cc pc = .ok (.lastore, 1)) (kk : ∀ (H1 : Heap) (locs1 : List Loc), GW D κ a (sAJ u 1 i v) A s H1 locs1 → W p l e R s m args below meth c H1 locs1 cs ss Q (F0 m (pc + 1) ls rest)) : W p l e R s m args below meth c H locs cs ss Q (F0 m pc ls (.long v :: .int (nI i) :: .ref (a 17) :: rest)) :=
  va_last hC.1 hC.2.1 hG.1 hG.2.1 hG.2.2.1 hG.2.2.2.1 17 1 rfl rfl (vp_in_nI hi (by decide)) hd (fun H1 locs1 h1 h2 h3 => by
    have e9 : (nI i).toNatClampNeg = i := nI_clamp (by omega)
    rw [e9, fnJ (u.2.2.2.2.2.2.2 1) i v] at h1 h2
    exact kk H1 locs1 ⟨hG.1, h1, h2, h3, hG.2.2.2.2⟩)
theorem gf_L0_count (hC : CallFix p m c cc nL s args WALL own) (hG : GW D κ a u A s H locs) (hl : (Cond.fieldLink own idx "Tollgate$LegRow" "count" "I").before args s = true) (hd : decode cc pc = .ok (.getfield idx, 3)) (kk : W p l e R s m args below meth c H locs cs ss Q (F0 m (pc + 3) ls ((.int (nI (L0_count u))) :: rest))) : W p l e R s m args below meth c H locs cs ss Q (F0 m pc ls (.ref (a 3) :: rest)) :=
  va_get (D := D) (ci := 4) (C := RX4) (T := TX4) (N := 4) hC.1 hC.2.1 hC.2.2.2.2 iw4 hC.2.2.2.1 hG.1 hG.2.1 3 rfl rfl 3 (by decide) hl (fun _ h => h) rfl hd kk
theorem pf_L0_count (hC : CallFix p m c cc nL s args WALL own) (hG : GW D κ a u A s H locs) {v : Nat} (hl : (Cond.fieldLink own idx "Tollgate$LegRow" "count" "I").before args s = true) (hd : decode cc pc = .ok (.putfield idx, 3)) (kk : ∀ (H1 : Heap) (locs1 : List Loc), GW D κ a (sN u 4 v) A s H1 locs1 → W p l e R s m args below meth c H1 locs1 cs ss Q (F0 m (pc + 3) ls rest)) : W p l e R s m args below meth c H locs cs ss Q (F0 m pc ls (.int (nI v) :: .ref (a 3) :: rest)) :=
  va_put (D := D) (ci := 4) (v := .int (nI v)) (ty := .int) (C := RX4) (T := TX4) (N := 4) hC.1 hC.2.1 hC.2.2.2.2 iw4 tyX4 tyX4_ok nmX4 hC.2.2.2.1 hG.1 hG.2.1 hG.2.2.1 hG.2.2.2.1 3 rfl rfl 3 (by decide) hl (fun _ h => h) rfl (by decide +kernel) rfl rfl (Nat.le_of_ble_eq_true rfl) hd (fun H1 locs1 h1 h2 h3 => kk H1 locs1 ⟨hG.1, h1, h2, h3, hG.2.2.2.2⟩)
theorem gf_L1_account (hC : CallFix p m c cc nL s args WALL own) (hG : GW D κ a u A s H locs) (hl : (Cond.fieldLink own idx "Tollgate$LegRow" "account" "[I").before args s = true) (hd : decode cc pc = .ok (.getfield idx, 3)) (kk : W p l e R s m args below meth c H locs cs ss Q (F0 m (pc + 3) ls ((.ref (a 18)) :: rest))) : W p l e R s m args below meth c H locs cs ss Q (F0 m pc ls (.ref (a 4) :: rest)) :=
  va_get (D := D) (ci := 4) (C := RX4) (T := TX4) (N := 4) hC.1 hC.2.1 hC.2.2.2.2 iw4 hC.2.2.2.1 hG.1 hG.2.1 4 rfl rfl 0 (by decide) hl (fun _ h => h) rfl hd kk
theorem al_L1_account (hC : CallFix p m c cc nL s args WALL own) (hG : GW D κ a u A s H locs) {i : Nat} (hi : i < 10) (hd : decode cc pc = .ok (.iaload, 1)) (kk : W p l e R s m args below meth c H locs cs ss Q (F0 m (pc + 1) ls (.int (nI (L1_account u i)) :: rest))) : W p l e R s m args below meth c H locs cs ss Q (F0 m pc ls (.int (nI i) :: .ref (a 18) :: rest)) :=
  va_iald hC.1 hC.2.1 hG.1 hG.2.1 18 0 rfl rfl (vp_in_nI hi (by decide)) hd (by
    have e9 : (nI i).toNatClampNeg = i := nI_clamp (by omega)
    rw [e9]
    exact kk)
theorem as_L1_account (hC : CallFix p m c cc nL s args WALL own) (hG : GW D κ a u A s H locs) {i : Nat} {v : Nat} (hi : i < 10) (hd : decode cc pc = .ok (.iastore, 1)) (kk : ∀ (H1 : Heap) (locs1 : List Loc), GW D κ a (sAN u 3 i v) A s H1 locs1 → W p l e R s m args below meth c H1 locs1 cs ss Q (F0 m (pc + 1) ls rest)) : W p l e R s m args below meth c H locs cs ss Q (F0 m pc ls (.int (nI v) :: .int (nI i) :: .ref (a 18) :: rest)) :=
  va_iast hC.1 hC.2.1 hG.1 hG.2.1 hG.2.2.1 hG.2.2.2.1 18 0 rfl rfl (vp_in_nI hi (by decide)) hd (fun H1 locs1 h1 h2 h3 => by
    have e9 : (nI i).toNatClampNeg = i := nI_clamp (by omega)
    rw [e9, fnN (u.2.2.2.1 3) i v] at h1 h2
    exact kk H1 locs1 ⟨hG.1, h1, h2, h3, hG.2.2.2.2⟩)
theorem gf_L1_amount (hC : CallFix p m c cc nL s args WALL own) (hG : GW D κ a u A s H locs) (hl : (Cond.fieldLink own idx "Tollgate$LegRow" "amount" "[J").before args s = true) (hd : decode cc pc = .ok (.getfield idx, 3)) (kk : W p l e R s m args below meth c H locs cs ss Q (F0 m (pc + 3) ls ((.ref (a 19)) :: rest))) : W p l e R s m args below meth c H locs cs ss Q (F0 m pc ls (.ref (a 4) :: rest)) :=
  va_get (D := D) (ci := 4) (C := RX4) (T := TX4) (N := 4) hC.1 hC.2.1 hC.2.2.2.2 iw4 hC.2.2.2.1 hG.1 hG.2.1 4 rfl rfl 1 (by decide) hl (fun _ h => h) rfl hd kk
theorem al_L1_amount (hC : CallFix p m c cc nL s args WALL own) (hG : GW D κ a u A s H locs) {i : Nat} (hi : i < 10) (hd : decode cc pc = .ok (.laload, 1)) (kk : W p l e R s m args below meth c H locs cs ss Q (F0 m (pc + 1) ls (.long (L1_amount u i) :: rest))) : W p l e R s m args below meth c H locs cs ss Q (F0 m pc ls (.int (nI i) :: .ref (a 19) :: rest)) :=
  va_lald hC.1 hC.2.1 hG.1 hG.2.1 19 1 rfl rfl (vp_in_nI hi (by decide)) hd (by
    have e9 : (nI i).toNatClampNeg = i := nI_clamp (by omega)
    rw [e9]
    exact kk)
theorem as_L1_amount (hC : CallFix p m c cc nL s args WALL own) (hG : GW D κ a u A s H locs) {i : Nat} {v : Int64} (hi : i < 10) (hd : decode cc pc = .ok (.lastore, 1)) (kk : ∀ (H1 : Heap) (locs1 : List Loc), GW D κ a (sAJ u 2 i v) A s H1 locs1 → W p l e R s m args below meth c H1 locs1 cs ss Q (F0 m (pc + 1) ls rest)) : W p l e R s m args below meth c H locs cs ss Q (F0 m pc ls (.long v :: .int (nI i) :: .ref (a 19) :: rest)) :=
  va_last hC.1 hC.2.1 hG.1 hG.2.1 hG.2.2.1 hG.2.2.2.1 19 1 rfl rfl (vp_in_nI hi (by decide)) hd (fun H1 locs1 h1 h2 h3 => by
    have e9 : (nI i).toNatClampNeg = i := nI_clamp (by omega)
    rw [e9, fnJ (u.2.2.2.2.2.2.2 2) i v] at h1 h2
    exact kk H1 locs1 ⟨hG.1, h1, h2, h3, hG.2.2.2.2⟩)
theorem gf_L1_worth (hC : CallFix p m c cc nL s args WALL own) (hG : GW D κ a u A s H locs) (hl : (Cond.fieldLink own idx "Tollgate$LegRow" "worth" "[J").before args s = true) (hd : decode cc pc = .ok (.getfield idx, 3)) (kk : W p l e R s m args below meth c H locs cs ss Q (F0 m (pc + 3) ls ((.ref (a 20)) :: rest))) : W p l e R s m args below meth c H locs cs ss Q (F0 m pc ls (.ref (a 4) :: rest)) :=
  va_get (D := D) (ci := 4) (C := RX4) (T := TX4) (N := 4) hC.1 hC.2.1 hC.2.2.2.2 iw4 hC.2.2.2.1 hG.1 hG.2.1 4 rfl rfl 2 (by decide) hl (fun _ h => h) rfl hd kk
theorem al_L1_worth (hC : CallFix p m c cc nL s args WALL own) (hG : GW D κ a u A s H locs) {i : Nat} (hi : i < 10) (hd : decode cc pc = .ok (.laload, 1)) (kk : W p l e R s m args below meth c H locs cs ss Q (F0 m (pc + 1) ls (.long (L1_worth u i) :: rest))) : W p l e R s m args below meth c H locs cs ss Q (F0 m pc ls (.int (nI i) :: .ref (a 20) :: rest)) :=
  va_lald hC.1 hC.2.1 hG.1 hG.2.1 20 1 rfl rfl (vp_in_nI hi (by decide)) hd (by
    have e9 : (nI i).toNatClampNeg = i := nI_clamp (by omega)
    rw [e9]
    exact kk)
theorem as_L1_worth (hC : CallFix p m c cc nL s args WALL own) (hG : GW D κ a u A s H locs) {i : Nat} {v : Int64} (hi : i < 10) (hd : decode cc pc = .ok (.lastore, 1)) (kk : ∀ (H1 : Heap) (locs1 : List Loc), GW D κ a (sAJ u 3 i v) A s H1 locs1 → W p l e R s m args below meth c H1 locs1 cs ss Q (F0 m (pc + 1) ls rest)) : W p l e R s m args below meth c H locs cs ss Q (F0 m pc ls (.long v :: .int (nI i) :: .ref (a 20) :: rest)) :=
  va_last hC.1 hC.2.1 hG.1 hG.2.1 hG.2.2.1 hG.2.2.2.1 20 1 rfl rfl (vp_in_nI hi (by decide)) hd (fun H1 locs1 h1 h2 h3 => by
    have e9 : (nI i).toNatClampNeg = i := nI_clamp (by omega)
    rw [e9, fnJ (u.2.2.2.2.2.2.2 3) i v] at h1 h2
    exact kk H1 locs1 ⟨hG.1, h1, h2, h3, hG.2.2.2.2⟩)
theorem gf_L1_count (hC : CallFix p m c cc nL s args WALL own) (hG : GW D κ a u A s H locs) (hl : (Cond.fieldLink own idx "Tollgate$LegRow" "count" "I").before args s = true) (hd : decode cc pc = .ok (.getfield idx, 3)) (kk : W p l e R s m args below meth c H locs cs ss Q (F0 m (pc + 3) ls ((.int (nI (L1_count u))) :: rest))) : W p l e R s m args below meth c H locs cs ss Q (F0 m pc ls (.ref (a 4) :: rest)) :=
  va_get (D := D) (ci := 4) (C := RX4) (T := TX4) (N := 4) hC.1 hC.2.1 hC.2.2.2.2 iw4 hC.2.2.2.1 hG.1 hG.2.1 4 rfl rfl 3 (by decide) hl (fun _ h => h) rfl hd kk
theorem pf_L1_count (hC : CallFix p m c cc nL s args WALL own) (hG : GW D κ a u A s H locs) {v : Nat} (hl : (Cond.fieldLink own idx "Tollgate$LegRow" "count" "I").before args s = true) (hd : decode cc pc = .ok (.putfield idx, 3)) (kk : ∀ (H1 : Heap) (locs1 : List Loc), GW D κ a (sN u 5 v) A s H1 locs1 → W p l e R s m args below meth c H1 locs1 cs ss Q (F0 m (pc + 3) ls rest)) : W p l e R s m args below meth c H locs cs ss Q (F0 m pc ls (.int (nI v) :: .ref (a 4) :: rest)) :=
  va_put (D := D) (ci := 4) (v := .int (nI v)) (ty := .int) (C := RX4) (T := TX4) (N := 4) hC.1 hC.2.1 hC.2.2.2.2 iw4 tyX4 tyX4_ok nmX4 hC.2.2.2.1 hG.1 hG.2.1 hG.2.2.1 hG.2.2.2.1 4 rfl rfl 3 (by decide) hl (fun _ h => h) rfl (by decide +kernel) rfl rfl (Nat.le_of_ble_eq_true rfl) hd (fun H1 locs1 h1 h2 h3 => kk H1 locs1 ⟨hG.1, h1, h2, h3, hG.2.2.2.2⟩)
theorem gf_J_day (hC : CallFix p m c cc nL s args WALL own) (hG : GW D κ a u A s H locs) (hl : (Cond.fieldLink own idx "Tollgate$Journal" "day" "[I").before args s = true) (hd : decode cc pc = .ok (.getfield idx, 3)) (kk : W p l e R s m args below meth c H locs cs ss Q (F0 m (pc + 3) ls ((.ref (a 21)) :: rest))) : W p l e R s m args below meth c H locs cs ss Q (F0 m pc ls (.ref (a 5) :: rest)) :=
  va_get (D := D) (ci := 3) (C := RX3) (T := TX3) (N := 12) hC.1 hC.2.1 hC.2.2.2.2 iw3 hC.2.2.2.1 hG.1 hG.2.1 5 rfl rfl 0 (by decide) hl (fun _ h => h) rfl hd kk
theorem al_J_day (hC : CallFix p m c cc nL s args WALL own) (hG : GW D κ a u A s H locs) {i : Nat} (hi : i < 60) (hd : decode cc pc = .ok (.iaload, 1)) (kk : W p l e R s m args below meth c H locs cs ss Q (F0 m (pc + 1) ls (.int (nI (J_day u i)) :: rest))) : W p l e R s m args below meth c H locs cs ss Q (F0 m pc ls (.int (nI i) :: .ref (a 21) :: rest)) :=
  va_iald hC.1 hC.2.1 hG.1 hG.2.1 21 0 rfl rfl (vp_in_nI hi (by decide)) hd (by
    have e9 : (nI i).toNatClampNeg = i := nI_clamp (by omega)
    rw [e9]
    exact kk)
theorem as_J_day (hC : CallFix p m c cc nL s args WALL own) (hG : GW D κ a u A s H locs) {i : Nat} {v : Nat} (hi : i < 60) (hd : decode cc pc = .ok (.iastore, 1)) (kk : ∀ (H1 : Heap) (locs1 : List Loc), GW D κ a (sAN u 4 i v) A s H1 locs1 → W p l e R s m args below meth c H1 locs1 cs ss Q (F0 m (pc + 1) ls rest)) : W p l e R s m args below meth c H locs cs ss Q (F0 m pc ls (.int (nI v) :: .int (nI i) :: .ref (a 21) :: rest)) :=
  va_iast hC.1 hC.2.1 hG.1 hG.2.1 hG.2.2.1 hG.2.2.2.1 21 0 rfl rfl (vp_in_nI hi (by decide)) hd (fun H1 locs1 h1 h2 h3 => by
    have e9 : (nI i).toNatClampNeg = i := nI_clamp (by omega)
    rw [e9, fnN (u.2.2.2.1 4) i v] at h1 h2
    exact kk H1 locs1 ⟨hG.1, h1, h2, h3, hG.2.2.2.2⟩)
theorem gf_J_note (hC : CallFix p m c cc nL s args WALL own) (hG : GW D κ a u A s H locs) (hl : (Cond.fieldLink own idx "Tollgate$Journal" "note" "[I").before args s = true) (hd : decode cc pc = .ok (.getfield idx, 3)) (kk : W p l e R s m args below meth c H locs cs ss Q (F0 m (pc + 3) ls ((.ref (a 22)) :: rest))) : W p l e R s m args below meth c H locs cs ss Q (F0 m pc ls (.ref (a 5) :: rest)) :=
  va_get (D := D) (ci := 3) (C := RX3) (T := TX3) (N := 12) hC.1 hC.2.1 hC.2.2.2.2 iw3 hC.2.2.2.1 hG.1 hG.2.1 5 rfl rfl 1 (by decide) hl (fun _ h => h) rfl hd kk
theorem al_J_note (hC : CallFix p m c cc nL s args WALL own) (hG : GW D κ a u A s H locs) {i : Nat} (hi : i < 60) (hd : decode cc pc = .ok (.iaload, 1)) (kk : W p l e R s m args below meth c H locs cs ss Q (F0 m (pc + 1) ls (.int (nI (J_note u i)) :: rest))) : W p l e R s m args below meth c H locs cs ss Q (F0 m pc ls (.int (nI i) :: .ref (a 22) :: rest)) :=
  va_iald hC.1 hC.2.1 hG.1 hG.2.1 22 0 rfl rfl (vp_in_nI hi (by decide)) hd (by
    have e9 : (nI i).toNatClampNeg = i := nI_clamp (by omega)
    rw [e9]
    exact kk)
theorem as_J_note (hC : CallFix p m c cc nL s args WALL own) (hG : GW D κ a u A s H locs) {i : Nat} {v : Nat} (hi : i < 60) (hd : decode cc pc = .ok (.iastore, 1)) (kk : ∀ (H1 : Heap) (locs1 : List Loc), GW D κ a (sAN u 5 i v) A s H1 locs1 → W p l e R s m args below meth c H1 locs1 cs ss Q (F0 m (pc + 1) ls rest)) : W p l e R s m args below meth c H locs cs ss Q (F0 m pc ls (.int (nI v) :: .int (nI i) :: .ref (a 22) :: rest)) :=
  va_iast hC.1 hC.2.1 hG.1 hG.2.1 hG.2.2.1 hG.2.2.2.1 22 0 rfl rfl (vp_in_nI hi (by decide)) hd (fun H1 locs1 h1 h2 h3 => by
    have e9 : (nI i).toNatClampNeg = i := nI_clamp (by omega)
    rw [e9, fnN (u.2.2.2.1 5) i v] at h1 h2
    exact kk H1 locs1 ⟨hG.1, h1, h2, h3, hG.2.2.2.2⟩)
theorem gf_J_firstLeg (hC : CallFix p m c cc nL s args WALL own) (hG : GW D κ a u A s H locs) (hl : (Cond.fieldLink own idx "Tollgate$Journal" "firstLeg" "[I").before args s = true) (hd : decode cc pc = .ok (.getfield idx, 3)) (kk : W p l e R s m args below meth c H locs cs ss Q (F0 m (pc + 3) ls ((.ref (a 23)) :: rest))) : W p l e R s m args below meth c H locs cs ss Q (F0 m pc ls (.ref (a 5) :: rest)) :=
  va_get (D := D) (ci := 3) (C := RX3) (T := TX3) (N := 12) hC.1 hC.2.1 hC.2.2.2.2 iw3 hC.2.2.2.1 hG.1 hG.2.1 5 rfl rfl 2 (by decide) hl (fun _ h => h) rfl hd kk
theorem al_J_firstLeg (hC : CallFix p m c cc nL s args WALL own) (hG : GW D κ a u A s H locs) {i : Nat} (hi : i < 60) (hd : decode cc pc = .ok (.iaload, 1)) (kk : W p l e R s m args below meth c H locs cs ss Q (F0 m (pc + 1) ls (.int (nI (J_firstLeg u i)) :: rest))) : W p l e R s m args below meth c H locs cs ss Q (F0 m pc ls (.int (nI i) :: .ref (a 23) :: rest)) :=
  va_iald hC.1 hC.2.1 hG.1 hG.2.1 23 0 rfl rfl (vp_in_nI hi (by decide)) hd (by
    have e9 : (nI i).toNatClampNeg = i := nI_clamp (by omega)
    rw [e9]
    exact kk)
theorem as_J_firstLeg (hC : CallFix p m c cc nL s args WALL own) (hG : GW D κ a u A s H locs) {i : Nat} {v : Nat} (hi : i < 60) (hd : decode cc pc = .ok (.iastore, 1)) (kk : ∀ (H1 : Heap) (locs1 : List Loc), GW D κ a (sAN u 6 i v) A s H1 locs1 → W p l e R s m args below meth c H1 locs1 cs ss Q (F0 m (pc + 1) ls rest)) : W p l e R s m args below meth c H locs cs ss Q (F0 m pc ls (.int (nI v) :: .int (nI i) :: .ref (a 23) :: rest)) :=
  va_iast hC.1 hC.2.1 hG.1 hG.2.1 hG.2.2.1 hG.2.2.2.1 23 0 rfl rfl (vp_in_nI hi (by decide)) hd (fun H1 locs1 h1 h2 h3 => by
    have e9 : (nI i).toNatClampNeg = i := nI_clamp (by omega)
    rw [e9, fnN (u.2.2.2.1 6) i v] at h1 h2
    exact kk H1 locs1 ⟨hG.1, h1, h2, h3, hG.2.2.2.2⟩)
theorem gf_J_legsOf (hC : CallFix p m c cc nL s args WALL own) (hG : GW D κ a u A s H locs) (hl : (Cond.fieldLink own idx "Tollgate$Journal" "legsOf" "[I").before args s = true) (hd : decode cc pc = .ok (.getfield idx, 3)) (kk : W p l e R s m args below meth c H locs cs ss Q (F0 m (pc + 3) ls ((.ref (a 24)) :: rest))) : W p l e R s m args below meth c H locs cs ss Q (F0 m pc ls (.ref (a 5) :: rest)) :=
  va_get (D := D) (ci := 3) (C := RX3) (T := TX3) (N := 12) hC.1 hC.2.1 hC.2.2.2.2 iw3 hC.2.2.2.1 hG.1 hG.2.1 5 rfl rfl 3 (by decide) hl (fun _ h => h) rfl hd kk
theorem al_J_legsOf (hC : CallFix p m c cc nL s args WALL own) (hG : GW D κ a u A s H locs) {i : Nat} (hi : i < 60) (hd : decode cc pc = .ok (.iaload, 1)) (kk : W p l e R s m args below meth c H locs cs ss Q (F0 m (pc + 1) ls (.int (nI (J_legsOf u i)) :: rest))) : W p l e R s m args below meth c H locs cs ss Q (F0 m pc ls (.int (nI i) :: .ref (a 24) :: rest)) :=
  va_iald hC.1 hC.2.1 hG.1 hG.2.1 24 0 rfl rfl (vp_in_nI hi (by decide)) hd (by
    have e9 : (nI i).toNatClampNeg = i := nI_clamp (by omega)
    rw [e9]
    exact kk)
theorem as_J_legsOf (hC : CallFix p m c cc nL s args WALL own) (hG : GW D κ a u A s H locs) {i : Nat} {v : Nat} (hi : i < 60) (hd : decode cc pc = .ok (.iastore, 1)) (kk : ∀ (H1 : Heap) (locs1 : List Loc), GW D κ a (sAN u 7 i v) A s H1 locs1 → W p l e R s m args below meth c H1 locs1 cs ss Q (F0 m (pc + 1) ls rest)) : W p l e R s m args below meth c H locs cs ss Q (F0 m pc ls (.int (nI v) :: .int (nI i) :: .ref (a 24) :: rest)) :=
  va_iast hC.1 hC.2.1 hG.1 hG.2.1 hG.2.2.1 hG.2.2.2.1 24 0 rfl rfl (vp_in_nI hi (by decide)) hd (fun H1 locs1 h1 h2 h3 => by
    have e9 : (nI i).toNatClampNeg = i := nI_clamp (by omega)
    rw [e9, fnN (u.2.2.2.1 7) i v] at h1 h2
    exact kk H1 locs1 ⟨hG.1, h1, h2, h3, hG.2.2.2.2⟩)
theorem gf_J_gone (hC : CallFix p m c cc nL s args WALL own) (hG : GW D κ a u A s H locs) (hl : (Cond.fieldLink own idx "Tollgate$Journal" "gone" "[Z").before args s = true) (hd : decode cc pc = .ok (.getfield idx, 3)) (kk : W p l e R s m args below meth c H locs cs ss Q (F0 m (pc + 3) ls ((.ref (a 25)) :: rest))) : W p l e R s m args below meth c H locs cs ss Q (F0 m pc ls (.ref (a 5) :: rest)) :=
  va_get (D := D) (ci := 3) (C := RX3) (T := TX3) (N := 12) hC.1 hC.2.1 hC.2.2.2.2 iw3 hC.2.2.2.1 hG.1 hG.2.1 5 rfl rfl 4 (by decide) hl (fun _ h => h) rfl hd kk
theorem al_J_gone (hC : CallFix p m c cc nL s args WALL own) (hG : GW D κ a u A s H locs) {i : Nat} (hi : i < 60) (hd : decode cc pc = .ok (.baload, 1)) (kk : W p l e R s m args below meth c H locs cs ss Q (F0 m (pc + 1) ls (.int (bI (J_gone u i)) :: rest))) : W p l e R s m args below meth c H locs cs ss Q (F0 m pc ls (.int (nI i) :: .ref (a 25) :: rest)) :=
  va_zald hC.1 hC.2.1 hG.1 hG.2.1 25 2 rfl rfl (vp_in_nI hi (by decide)) hd (by
    have e9 : (nI i).toNatClampNeg = i := nI_clamp (by omega)
    rw [e9]
    exact kk)
theorem as_J_gone (hC : CallFix p m c cc nL s args WALL own) (hG : GW D κ a u A s H locs) {i : Nat} {v : Bool} (hi : i < 60) (hd : decode cc pc = .ok (.bastore, 1)) (kk : ∀ (H1 : Heap) (locs1 : List Loc), GW D κ a (sAB u 1 i v) A s H1 locs1 → W p l e R s m args below meth c H1 locs1 cs ss Q (F0 m (pc + 1) ls rest)) : W p l e R s m args below meth c H locs cs ss Q (F0 m pc ls (.int (bI v) :: .int (nI i) :: .ref (a 25) :: rest)) :=
  va_zast hC.1 hC.2.1 hG.1 hG.2.1 hG.2.2.1 hG.2.2.2.1 25 2 rfl rfl (vp_in_nI hi (by decide)) hd (fun H1 locs1 h1 h2 h3 => by
    have e9 : (nI i).toNatClampNeg = i := nI_clamp (by omega)
    rw [e9, bI_v, fnB (u.2.2.2.2.2.1 1) i v] at h1 h2
    exact kk H1 locs1 ⟨hG.1, h1, h2, h3, hG.2.2.2.2⟩)
theorem gf_J_isClosing (hC : CallFix p m c cc nL s args WALL own) (hG : GW D κ a u A s H locs) (hl : (Cond.fieldLink own idx "Tollgate$Journal" "isClosing" "[Z").before args s = true) (hd : decode cc pc = .ok (.getfield idx, 3)) (kk : W p l e R s m args below meth c H locs cs ss Q (F0 m (pc + 3) ls ((.ref (a 26)) :: rest))) : W p l e R s m args below meth c H locs cs ss Q (F0 m pc ls (.ref (a 5) :: rest)) :=
  va_get (D := D) (ci := 3) (C := RX3) (T := TX3) (N := 12) hC.1 hC.2.1 hC.2.2.2.2 iw3 hC.2.2.2.1 hG.1 hG.2.1 5 rfl rfl 5 (by decide) hl (fun _ h => h) rfl hd kk
theorem al_J_isClosing (hC : CallFix p m c cc nL s args WALL own) (hG : GW D κ a u A s H locs) {i : Nat} (hi : i < 60) (hd : decode cc pc = .ok (.baload, 1)) (kk : W p l e R s m args below meth c H locs cs ss Q (F0 m (pc + 1) ls (.int (bI (J_isClosing u i)) :: rest))) : W p l e R s m args below meth c H locs cs ss Q (F0 m pc ls (.int (nI i) :: .ref (a 26) :: rest)) :=
  va_zald hC.1 hC.2.1 hG.1 hG.2.1 26 2 rfl rfl (vp_in_nI hi (by decide)) hd (by
    have e9 : (nI i).toNatClampNeg = i := nI_clamp (by omega)
    rw [e9]
    exact kk)
theorem as_J_isClosing (hC : CallFix p m c cc nL s args WALL own) (hG : GW D κ a u A s H locs) {i : Nat} {v : Bool} (hi : i < 60) (hd : decode cc pc = .ok (.bastore, 1)) (kk : ∀ (H1 : Heap) (locs1 : List Loc), GW D κ a (sAB u 2 i v) A s H1 locs1 → W p l e R s m args below meth c H1 locs1 cs ss Q (F0 m (pc + 1) ls rest)) : W p l e R s m args below meth c H locs cs ss Q (F0 m pc ls (.int (bI v) :: .int (nI i) :: .ref (a 26) :: rest)) :=
  va_zast hC.1 hC.2.1 hG.1 hG.2.1 hG.2.2.1 hG.2.2.2.1 26 2 rfl rfl (vp_in_nI hi (by decide)) hd (fun H1 locs1 h1 h2 h3 => by
    have e9 : (nI i).toNatClampNeg = i := nI_clamp (by omega)
    rw [e9, bI_v, fnB (u.2.2.2.2.2.1 2) i v] at h1 h2
    exact kk H1 locs1 ⟨hG.1, h1, h2, h3, hG.2.2.2.2⟩)
theorem gf_J_count (hC : CallFix p m c cc nL s args WALL own) (hG : GW D κ a u A s H locs) (hl : (Cond.fieldLink own idx "Tollgate$Journal" "count" "I").before args s = true) (hd : decode cc pc = .ok (.getfield idx, 3)) (kk : W p l e R s m args below meth c H locs cs ss Q (F0 m (pc + 3) ls ((.int (nI (J_count u))) :: rest))) : W p l e R s m args below meth c H locs cs ss Q (F0 m pc ls (.ref (a 5) :: rest)) :=
  va_get (D := D) (ci := 3) (C := RX3) (T := TX3) (N := 12) hC.1 hC.2.1 hC.2.2.2.2 iw3 hC.2.2.2.1 hG.1 hG.2.1 5 rfl rfl 6 (by decide) hl (fun _ h => h) rfl hd kk
theorem pf_J_count (hC : CallFix p m c cc nL s args WALL own) (hG : GW D κ a u A s H locs) {v : Nat} (hl : (Cond.fieldLink own idx "Tollgate$Journal" "count" "I").before args s = true) (hd : decode cc pc = .ok (.putfield idx, 3)) (kk : ∀ (H1 : Heap) (locs1 : List Loc), GW D κ a (sN u 6 v) A s H1 locs1 → W p l e R s m args below meth c H1 locs1 cs ss Q (F0 m (pc + 3) ls rest)) : W p l e R s m args below meth c H locs cs ss Q (F0 m pc ls (.int (nI v) :: .ref (a 5) :: rest)) :=
  va_put (D := D) (ci := 3) (v := .int (nI v)) (ty := .int) (C := RX3) (T := TX3) (N := 12) hC.1 hC.2.1 hC.2.2.2.2 iw3 tyX3 tyX3_ok nmX3 hC.2.2.2.1 hG.1 hG.2.1 hG.2.2.1 hG.2.2.2.1 5 rfl rfl 6 (by decide) hl (fun _ h => h) rfl (by decide +kernel) rfl rfl (Nat.le_of_ble_eq_true rfl) hd (fun H1 locs1 h1 h2 h3 => kk H1 locs1 ⟨hG.1, h1, h2, h3, hG.2.2.2.2⟩)
theorem gf_J_entryOf (hC : CallFix p m c cc nL s args WALL own) (hG : GW D κ a u A s H locs) (hl : (Cond.fieldLink own idx "Tollgate$Journal" "entryOf" "[I").before args s = true) (hd : decode cc pc = .ok (.getfield idx, 3)) (kk : W p l e R s m args below meth c H locs cs ss Q (F0 m (pc + 3) ls ((.ref (a 27)) :: rest))) : W p l e R s m args below meth c H locs cs ss Q (F0 m pc ls (.ref (a 5) :: rest)) :=
  va_get (D := D) (ci := 3) (C := RX3) (T := TX3) (N := 12) hC.1 hC.2.1 hC.2.2.2.2 iw3 hC.2.2.2.1 hG.1 hG.2.1 5 rfl rfl 7 (by decide) hl (fun _ h => h) rfl hd kk
theorem al_J_entryOf (hC : CallFix p m c cc nL s args WALL own) (hG : GW D κ a u A s H locs) {i : Nat} (hi : i < 600) (hd : decode cc pc = .ok (.iaload, 1)) (kk : W p l e R s m args below meth c H locs cs ss Q (F0 m (pc + 1) ls (.int (nI (J_entryOf u i)) :: rest))) : W p l e R s m args below meth c H locs cs ss Q (F0 m pc ls (.int (nI i) :: .ref (a 27) :: rest)) :=
  va_iald hC.1 hC.2.1 hG.1 hG.2.1 27 0 rfl rfl (vp_in_nI hi (by decide)) hd (by
    have e9 : (nI i).toNatClampNeg = i := nI_clamp (by omega)
    rw [e9]
    exact kk)
theorem as_J_entryOf (hC : CallFix p m c cc nL s args WALL own) (hG : GW D κ a u A s H locs) {i : Nat} {v : Nat} (hi : i < 600) (hd : decode cc pc = .ok (.iastore, 1)) (kk : ∀ (H1 : Heap) (locs1 : List Loc), GW D κ a (sAN u 8 i v) A s H1 locs1 → W p l e R s m args below meth c H1 locs1 cs ss Q (F0 m (pc + 1) ls rest)) : W p l e R s m args below meth c H locs cs ss Q (F0 m pc ls (.int (nI v) :: .int (nI i) :: .ref (a 27) :: rest)) :=
  va_iast hC.1 hC.2.1 hG.1 hG.2.1 hG.2.2.1 hG.2.2.2.1 27 0 rfl rfl (vp_in_nI hi (by decide)) hd (fun H1 locs1 h1 h2 h3 => by
    have e9 : (nI i).toNatClampNeg = i := nI_clamp (by omega)
    rw [e9, fnN (u.2.2.2.1 8) i v] at h1 h2
    exact kk H1 locs1 ⟨hG.1, h1, h2, h3, hG.2.2.2.2⟩)
theorem gf_J_account (hC : CallFix p m c cc nL s args WALL own) (hG : GW D κ a u A s H locs) (hl : (Cond.fieldLink own idx "Tollgate$Journal" "account" "[I").before args s = true) (hd : decode cc pc = .ok (.getfield idx, 3)) (kk : W p l e R s m args below meth c H locs cs ss Q (F0 m (pc + 3) ls ((.ref (a 28)) :: rest))) : W p l e R s m args below meth c H locs cs ss Q (F0 m pc ls (.ref (a 5) :: rest)) :=
  va_get (D := D) (ci := 3) (C := RX3) (T := TX3) (N := 12) hC.1 hC.2.1 hC.2.2.2.2 iw3 hC.2.2.2.1 hG.1 hG.2.1 5 rfl rfl 8 (by decide) hl (fun _ h => h) rfl hd kk
theorem al_J_account (hC : CallFix p m c cc nL s args WALL own) (hG : GW D κ a u A s H locs) {i : Nat} (hi : i < 600) (hd : decode cc pc = .ok (.iaload, 1)) (kk : W p l e R s m args below meth c H locs cs ss Q (F0 m (pc + 1) ls (.int (nI (J_account u i)) :: rest))) : W p l e R s m args below meth c H locs cs ss Q (F0 m pc ls (.int (nI i) :: .ref (a 28) :: rest)) :=
  va_iald hC.1 hC.2.1 hG.1 hG.2.1 28 0 rfl rfl (vp_in_nI hi (by decide)) hd (by
    have e9 : (nI i).toNatClampNeg = i := nI_clamp (by omega)
    rw [e9]
    exact kk)
theorem as_J_account (hC : CallFix p m c cc nL s args WALL own) (hG : GW D κ a u A s H locs) {i : Nat} {v : Nat} (hi : i < 600) (hd : decode cc pc = .ok (.iastore, 1)) (kk : ∀ (H1 : Heap) (locs1 : List Loc), GW D κ a (sAN u 9 i v) A s H1 locs1 → W p l e R s m args below meth c H1 locs1 cs ss Q (F0 m (pc + 1) ls rest)) : W p l e R s m args below meth c H locs cs ss Q (F0 m pc ls (.int (nI v) :: .int (nI i) :: .ref (a 28) :: rest)) :=
  va_iast hC.1 hC.2.1 hG.1 hG.2.1 hG.2.2.1 hG.2.2.2.1 28 0 rfl rfl (vp_in_nI hi (by decide)) hd (fun H1 locs1 h1 h2 h3 => by
    have e9 : (nI i).toNatClampNeg = i := nI_clamp (by omega)
    rw [e9, fnN (u.2.2.2.1 9) i v] at h1 h2
    exact kk H1 locs1 ⟨hG.1, h1, h2, h3, hG.2.2.2.2⟩)
theorem gf_J_amount (hC : CallFix p m c cc nL s args WALL own) (hG : GW D κ a u A s H locs) (hl : (Cond.fieldLink own idx "Tollgate$Journal" "amount" "[J").before args s = true) (hd : decode cc pc = .ok (.getfield idx, 3)) (kk : W p l e R s m args below meth c H locs cs ss Q (F0 m (pc + 3) ls ((.ref (a 29)) :: rest))) : W p l e R s m args below meth c H locs cs ss Q (F0 m pc ls (.ref (a 5) :: rest)) :=
  va_get (D := D) (ci := 3) (C := RX3) (T := TX3) (N := 12) hC.1 hC.2.1 hC.2.2.2.2 iw3 hC.2.2.2.1 hG.1 hG.2.1 5 rfl rfl 9 (by decide) hl (fun _ h => h) rfl hd kk
theorem al_J_amount (hC : CallFix p m c cc nL s args WALL own) (hG : GW D κ a u A s H locs) {i : Nat} (hi : i < 600) (hd : decode cc pc = .ok (.laload, 1)) (kk : W p l e R s m args below meth c H locs cs ss Q (F0 m (pc + 1) ls (.long (J_amount u i) :: rest))) : W p l e R s m args below meth c H locs cs ss Q (F0 m pc ls (.int (nI i) :: .ref (a 29) :: rest)) :=
  va_lald hC.1 hC.2.1 hG.1 hG.2.1 29 1 rfl rfl (vp_in_nI hi (by decide)) hd (by
    have e9 : (nI i).toNatClampNeg = i := nI_clamp (by omega)
    rw [e9]
    exact kk)
theorem as_J_amount (hC : CallFix p m c cc nL s args WALL own) (hG : GW D κ a u A s H locs) {i : Nat} {v : Int64} (hi : i < 600) (hd : decode cc pc = .ok (.lastore, 1)) (kk : ∀ (H1 : Heap) (locs1 : List Loc), GW D κ a (sAJ u 4 i v) A s H1 locs1 → W p l e R s m args below meth c H1 locs1 cs ss Q (F0 m (pc + 1) ls rest)) : W p l e R s m args below meth c H locs cs ss Q (F0 m pc ls (.long v :: .int (nI i) :: .ref (a 29) :: rest)) :=
  va_last hC.1 hC.2.1 hG.1 hG.2.1 hG.2.2.1 hG.2.2.2.1 29 1 rfl rfl (vp_in_nI hi (by decide)) hd (fun H1 locs1 h1 h2 h3 => by
    have e9 : (nI i).toNatClampNeg = i := nI_clamp (by omega)
    rw [e9, fnJ (u.2.2.2.2.2.2.2 4) i v] at h1 h2
    exact kk H1 locs1 ⟨hG.1, h1, h2, h3, hG.2.2.2.2⟩)
theorem gf_J_worth (hC : CallFix p m c cc nL s args WALL own) (hG : GW D κ a u A s H locs) (hl : (Cond.fieldLink own idx "Tollgate$Journal" "worth" "[J").before args s = true) (hd : decode cc pc = .ok (.getfield idx, 3)) (kk : W p l e R s m args below meth c H locs cs ss Q (F0 m (pc + 3) ls ((.ref (a 30)) :: rest))) : W p l e R s m args below meth c H locs cs ss Q (F0 m pc ls (.ref (a 5) :: rest)) :=
  va_get (D := D) (ci := 3) (C := RX3) (T := TX3) (N := 12) hC.1 hC.2.1 hC.2.2.2.2 iw3 hC.2.2.2.1 hG.1 hG.2.1 5 rfl rfl 10 (by decide) hl (fun _ h => h) rfl hd kk
theorem al_J_worth (hC : CallFix p m c cc nL s args WALL own) (hG : GW D κ a u A s H locs) {i : Nat} (hi : i < 600) (hd : decode cc pc = .ok (.laload, 1)) (kk : W p l e R s m args below meth c H locs cs ss Q (F0 m (pc + 1) ls (.long (J_worth u i) :: rest))) : W p l e R s m args below meth c H locs cs ss Q (F0 m pc ls (.int (nI i) :: .ref (a 30) :: rest)) :=
  va_lald hC.1 hC.2.1 hG.1 hG.2.1 30 1 rfl rfl (vp_in_nI hi (by decide)) hd (by
    have e9 : (nI i).toNatClampNeg = i := nI_clamp (by omega)
    rw [e9]
    exact kk)
theorem as_J_worth (hC : CallFix p m c cc nL s args WALL own) (hG : GW D κ a u A s H locs) {i : Nat} {v : Int64} (hi : i < 600) (hd : decode cc pc = .ok (.lastore, 1)) (kk : ∀ (H1 : Heap) (locs1 : List Loc), GW D κ a (sAJ u 5 i v) A s H1 locs1 → W p l e R s m args below meth c H1 locs1 cs ss Q (F0 m (pc + 1) ls rest)) : W p l e R s m args below meth c H locs cs ss Q (F0 m pc ls (.long v :: .int (nI i) :: .ref (a 30) :: rest)) :=
  va_last hC.1 hC.2.1 hG.1 hG.2.1 hG.2.2.1 hG.2.2.2.1 30 1 rfl rfl (vp_in_nI hi (by decide)) hd (fun H1 locs1 h1 h2 h3 => by
    have e9 : (nI i).toNatClampNeg = i := nI_clamp (by omega)
    rw [e9, fnJ (u.2.2.2.2.2.2.2 5) i v] at h1 h2
    exact kk H1 locs1 ⟨hG.1, h1, h2, h3, hG.2.2.2.2⟩)
theorem gf_J_legCount (hC : CallFix p m c cc nL s args WALL own) (hG : GW D κ a u A s H locs) (hl : (Cond.fieldLink own idx "Tollgate$Journal" "legCount" "I").before args s = true) (hd : decode cc pc = .ok (.getfield idx, 3)) (kk : W p l e R s m args below meth c H locs cs ss Q (F0 m (pc + 3) ls ((.int (nI (J_legCount u))) :: rest))) : W p l e R s m args below meth c H locs cs ss Q (F0 m pc ls (.ref (a 5) :: rest)) :=
  va_get (D := D) (ci := 3) (C := RX3) (T := TX3) (N := 12) hC.1 hC.2.1 hC.2.2.2.2 iw3 hC.2.2.2.1 hG.1 hG.2.1 5 rfl rfl 11 (by decide) hl (fun _ h => h) rfl hd kk
theorem pf_J_legCount (hC : CallFix p m c cc nL s args WALL own) (hG : GW D κ a u A s H locs) {v : Nat} (hl : (Cond.fieldLink own idx "Tollgate$Journal" "legCount" "I").before args s = true) (hd : decode cc pc = .ok (.putfield idx, 3)) (kk : ∀ (H1 : Heap) (locs1 : List Loc), GW D κ a (sN u 7 v) A s H1 locs1 → W p l e R s m args below meth c H1 locs1 cs ss Q (F0 m (pc + 3) ls rest)) : W p l e R s m args below meth c H locs cs ss Q (F0 m pc ls (.int (nI v) :: .ref (a 5) :: rest)) :=
  va_put (D := D) (ci := 3) (v := .int (nI v)) (ty := .int) (C := RX3) (T := TX3) (N := 12) hC.1 hC.2.1 hC.2.2.2.2 iw3 tyX3 tyX3_ok nmX3 hC.2.2.2.1 hG.1 hG.2.1 hG.2.2.1 hG.2.2.2.1 5 rfl rfl 11 (by decide) hl (fun _ h => h) rfl (by decide +kernel) rfl rfl (Nat.le_of_ble_eq_true rfl) hd (fun H1 locs1 h1 h2 h3 => kk H1 locs1 ⟨hG.1, h1, h2, h3, hG.2.2.2.2⟩)
theorem gf_HO_account (hC : CallFix p m c cc nL s args WALL own) (hG : GW D κ a u A s H locs) (hl : (Cond.fieldLink own idx "Tollgate$Holds" "account" "[I").before args s = true) (hd : decode cc pc = .ok (.getfield idx, 3)) (kk : W p l e R s m args below meth c H locs cs ss Q (F0 m (pc + 3) ls ((.ref (a 31)) :: rest))) : W p l e R s m args below meth c H locs cs ss Q (F0 m pc ls (.ref (a 6) :: rest)) :=
  va_get (D := D) (ci := 2) (C := RX2) (T := TX2) (N := 5) hC.1 hC.2.1 hC.2.2.2.2 iw2 hC.2.2.2.1 hG.1 hG.2.1 6 rfl rfl 0 (by decide) hl (fun _ h => h) rfl hd kk
theorem al_HO_account (hC : CallFix p m c cc nL s args WALL own) (hG : GW D κ a u A s H locs) {i : Nat} (hi : i < 20) (hd : decode cc pc = .ok (.iaload, 1)) (kk : W p l e R s m args below meth c H locs cs ss Q (F0 m (pc + 1) ls (.int (nI (HO_account u i)) :: rest))) : W p l e R s m args below meth c H locs cs ss Q (F0 m pc ls (.int (nI i) :: .ref (a 31) :: rest)) :=
  va_iald hC.1 hC.2.1 hG.1 hG.2.1 31 0 rfl rfl (vp_in_nI hi (by decide)) hd (by
    have e9 : (nI i).toNatClampNeg = i := nI_clamp (by omega)
    rw [e9]
    exact kk)
theorem as_HO_account (hC : CallFix p m c cc nL s args WALL own) (hG : GW D κ a u A s H locs) {i : Nat} {v : Nat} (hi : i < 20) (hd : decode cc pc = .ok (.iastore, 1)) (kk : ∀ (H1 : Heap) (locs1 : List Loc), GW D κ a (sAN u 10 i v) A s H1 locs1 → W p l e R s m args below meth c H1 locs1 cs ss Q (F0 m (pc + 1) ls rest)) : W p l e R s m args below meth c H locs cs ss Q (F0 m pc ls (.int (nI v) :: .int (nI i) :: .ref (a 31) :: rest)) :=
  va_iast hC.1 hC.2.1 hG.1 hG.2.1 hG.2.2.1 hG.2.2.2.1 31 0 rfl rfl (vp_in_nI hi (by decide)) hd (fun H1 locs1 h1 h2 h3 => by
    have e9 : (nI i).toNatClampNeg = i := nI_clamp (by omega)
    rw [e9, fnN (u.2.2.2.1 10) i v] at h1 h2
    exact kk H1 locs1 ⟨hG.1, h1, h2, h3, hG.2.2.2.2⟩)
theorem gf_HO_amount (hC : CallFix p m c cc nL s args WALL own) (hG : GW D κ a u A s H locs) (hl : (Cond.fieldLink own idx "Tollgate$Holds" "amount" "[I").before args s = true) (hd : decode cc pc = .ok (.getfield idx, 3)) (kk : W p l e R s m args below meth c H locs cs ss Q (F0 m (pc + 3) ls ((.ref (a 32)) :: rest))) : W p l e R s m args below meth c H locs cs ss Q (F0 m pc ls (.ref (a 6) :: rest)) :=
  va_get (D := D) (ci := 2) (C := RX2) (T := TX2) (N := 5) hC.1 hC.2.1 hC.2.2.2.2 iw2 hC.2.2.2.1 hG.1 hG.2.1 6 rfl rfl 1 (by decide) hl (fun _ h => h) rfl hd kk
theorem al_HO_amount (hC : CallFix p m c cc nL s args WALL own) (hG : GW D κ a u A s H locs) {i : Nat} (hi : i < 20) (hd : decode cc pc = .ok (.iaload, 1)) (kk : W p l e R s m args below meth c H locs cs ss Q (F0 m (pc + 1) ls (.int (HO_amount u i) :: rest))) : W p l e R s m args below meth c H locs cs ss Q (F0 m pc ls (.int (nI i) :: .ref (a 32) :: rest)) :=
  va_iald hC.1 hC.2.1 hG.1 hG.2.1 32 0 rfl rfl (vp_in_nI hi (by decide)) hd (by
    have e9 : (nI i).toNatClampNeg = i := nI_clamp (by omega)
    rw [e9]
    exact kk)
theorem as_HO_amount (hC : CallFix p m c cc nL s args WALL own) (hG : GW D κ a u A s H locs) {i : Nat} {v : Int32} (hi : i < 20) (hd : decode cc pc = .ok (.iastore, 1)) (kk : ∀ (H1 : Heap) (locs1 : List Loc), GW D κ a (sAI u 2 i v) A s H1 locs1 → W p l e R s m args below meth c H1 locs1 cs ss Q (F0 m (pc + 1) ls rest)) : W p l e R s m args below meth c H locs cs ss Q (F0 m pc ls (.int v :: .int (nI i) :: .ref (a 32) :: rest)) :=
  va_iast hC.1 hC.2.1 hG.1 hG.2.1 hG.2.2.1 hG.2.2.2.1 32 0 rfl rfl (vp_in_nI hi (by decide)) hd (fun H1 locs1 h1 h2 h3 => by
    have e9 : (nI i).toNatClampNeg = i := nI_clamp (by omega)
    rw [e9, fnI (u.2.2.2.2.1 2) i v] at h1 h2
    exact kk H1 locs1 ⟨hG.1, h1, h2, h3, hG.2.2.2.2⟩)
theorem gf_HO_lastDay (hC : CallFix p m c cc nL s args WALL own) (hG : GW D κ a u A s H locs) (hl : (Cond.fieldLink own idx "Tollgate$Holds" "lastDay" "[I").before args s = true) (hd : decode cc pc = .ok (.getfield idx, 3)) (kk : W p l e R s m args below meth c H locs cs ss Q (F0 m (pc + 3) ls ((.ref (a 33)) :: rest))) : W p l e R s m args below meth c H locs cs ss Q (F0 m pc ls (.ref (a 6) :: rest)) :=
  va_get (D := D) (ci := 2) (C := RX2) (T := TX2) (N := 5) hC.1 hC.2.1 hC.2.2.2.2 iw2 hC.2.2.2.1 hG.1 hG.2.1 6 rfl rfl 2 (by decide) hl (fun _ h => h) rfl hd kk
theorem al_HO_lastDay (hC : CallFix p m c cc nL s args WALL own) (hG : GW D κ a u A s H locs) {i : Nat} (hi : i < 20) (hd : decode cc pc = .ok (.iaload, 1)) (kk : W p l e R s m args below meth c H locs cs ss Q (F0 m (pc + 1) ls (.int (nI (HO_lastDay u i)) :: rest))) : W p l e R s m args below meth c H locs cs ss Q (F0 m pc ls (.int (nI i) :: .ref (a 33) :: rest)) :=
  va_iald hC.1 hC.2.1 hG.1 hG.2.1 33 0 rfl rfl (vp_in_nI hi (by decide)) hd (by
    have e9 : (nI i).toNatClampNeg = i := nI_clamp (by omega)
    rw [e9]
    exact kk)
theorem as_HO_lastDay (hC : CallFix p m c cc nL s args WALL own) (hG : GW D κ a u A s H locs) {i : Nat} {v : Nat} (hi : i < 20) (hd : decode cc pc = .ok (.iastore, 1)) (kk : ∀ (H1 : Heap) (locs1 : List Loc), GW D κ a (sAN u 11 i v) A s H1 locs1 → W p l e R s m args below meth c H1 locs1 cs ss Q (F0 m (pc + 1) ls rest)) : W p l e R s m args below meth c H locs cs ss Q (F0 m pc ls (.int (nI v) :: .int (nI i) :: .ref (a 33) :: rest)) :=
  va_iast hC.1 hC.2.1 hG.1 hG.2.1 hG.2.2.1 hG.2.2.2.1 33 0 rfl rfl (vp_in_nI hi (by decide)) hd (fun H1 locs1 h1 h2 h3 => by
    have e9 : (nI i).toNatClampNeg = i := nI_clamp (by omega)
    rw [e9, fnN (u.2.2.2.1 11) i v] at h1 h2
    exact kk H1 locs1 ⟨hG.1, h1, h2, h3, hG.2.2.2.2⟩)
theorem gf_HO_isEnded (hC : CallFix p m c cc nL s args WALL own) (hG : GW D κ a u A s H locs) (hl : (Cond.fieldLink own idx "Tollgate$Holds" "isEnded" "[Z").before args s = true) (hd : decode cc pc = .ok (.getfield idx, 3)) (kk : W p l e R s m args below meth c H locs cs ss Q (F0 m (pc + 3) ls ((.ref (a 34)) :: rest))) : W p l e R s m args below meth c H locs cs ss Q (F0 m pc ls (.ref (a 6) :: rest)) :=
  va_get (D := D) (ci := 2) (C := RX2) (T := TX2) (N := 5) hC.1 hC.2.1 hC.2.2.2.2 iw2 hC.2.2.2.1 hG.1 hG.2.1 6 rfl rfl 3 (by decide) hl (fun _ h => h) rfl hd kk
theorem al_HO_isEnded (hC : CallFix p m c cc nL s args WALL own) (hG : GW D κ a u A s H locs) {i : Nat} (hi : i < 20) (hd : decode cc pc = .ok (.baload, 1)) (kk : W p l e R s m args below meth c H locs cs ss Q (F0 m (pc + 1) ls (.int (bI (HO_isEnded u i)) :: rest))) : W p l e R s m args below meth c H locs cs ss Q (F0 m pc ls (.int (nI i) :: .ref (a 34) :: rest)) :=
  va_zald hC.1 hC.2.1 hG.1 hG.2.1 34 2 rfl rfl (vp_in_nI hi (by decide)) hd (by
    have e9 : (nI i).toNatClampNeg = i := nI_clamp (by omega)
    rw [e9]
    exact kk)
theorem as_HO_isEnded (hC : CallFix p m c cc nL s args WALL own) (hG : GW D κ a u A s H locs) {i : Nat} {v : Bool} (hi : i < 20) (hd : decode cc pc = .ok (.bastore, 1)) (kk : ∀ (H1 : Heap) (locs1 : List Loc), GW D κ a (sAB u 3 i v) A s H1 locs1 → W p l e R s m args below meth c H1 locs1 cs ss Q (F0 m (pc + 1) ls rest)) : W p l e R s m args below meth c H locs cs ss Q (F0 m pc ls (.int (bI v) :: .int (nI i) :: .ref (a 34) :: rest)) :=
  va_zast hC.1 hC.2.1 hG.1 hG.2.1 hG.2.2.1 hG.2.2.2.1 34 2 rfl rfl (vp_in_nI hi (by decide)) hd (fun H1 locs1 h1 h2 h3 => by
    have e9 : (nI i).toNatClampNeg = i := nI_clamp (by omega)
    rw [e9, bI_v, fnB (u.2.2.2.2.2.1 3) i v] at h1 h2
    exact kk H1 locs1 ⟨hG.1, h1, h2, h3, hG.2.2.2.2⟩)
theorem gf_HO_count (hC : CallFix p m c cc nL s args WALL own) (hG : GW D κ a u A s H locs) (hl : (Cond.fieldLink own idx "Tollgate$Holds" "count" "I").before args s = true) (hd : decode cc pc = .ok (.getfield idx, 3)) (kk : W p l e R s m args below meth c H locs cs ss Q (F0 m (pc + 3) ls ((.int (nI (HO_count u))) :: rest))) : W p l e R s m args below meth c H locs cs ss Q (F0 m pc ls (.ref (a 6) :: rest)) :=
  va_get (D := D) (ci := 2) (C := RX2) (T := TX2) (N := 5) hC.1 hC.2.1 hC.2.2.2.2 iw2 hC.2.2.2.1 hG.1 hG.2.1 6 rfl rfl 4 (by decide) hl (fun _ h => h) rfl hd kk
theorem pf_HO_count (hC : CallFix p m c cc nL s args WALL own) (hG : GW D κ a u A s H locs) {v : Nat} (hl : (Cond.fieldLink own idx "Tollgate$Holds" "count" "I").before args s = true) (hd : decode cc pc = .ok (.putfield idx, 3)) (kk : ∀ (H1 : Heap) (locs1 : List Loc), GW D κ a (sN u 8 v) A s H1 locs1 → W p l e R s m args below meth c H1 locs1 cs ss Q (F0 m (pc + 3) ls rest)) : W p l e R s m args below meth c H locs cs ss Q (F0 m pc ls (.int (nI v) :: .ref (a 6) :: rest)) :=
  va_put (D := D) (ci := 2) (v := .int (nI v)) (ty := .int) (C := RX2) (T := TX2) (N := 5) hC.1 hC.2.1 hC.2.2.2.2 iw2 tyX2 tyX2_ok nmX2 hC.2.2.2.1 hG.1 hG.2.1 hG.2.2.1 hG.2.2.2.1 6 rfl rfl 4 (by decide) hl (fun _ h => h) rfl (by decide +kernel) rfl rfl (Nat.le_of_ble_eq_true rfl) hd (fun H1 locs1 h1 h2 h3 => kk H1 locs1 ⟨hG.1, h1, h2, h3, hG.2.2.2.2⟩)
theorem gf_LI_account (hC : CallFix p m c cc nL s args WALL own) (hG : GW D κ a u A s H locs) (hl : (Cond.fieldLink own idx "Tollgate$Lines" "account" "[I").before args s = true) (hd : decode cc pc = .ok (.getfield idx, 3)) (kk : W p l e R s m args below meth c H locs cs ss Q (F0 m (pc + 3) ls ((.ref (a 35)) :: rest))) : W p l e R s m args below meth c H locs cs ss Q (F0 m pc ls (.ref (a 7) :: rest)) :=
  va_get (D := D) (ci := 5) (C := RX5) (T := TX5) (N := 5) hC.1 hC.2.1 hC.2.2.2.2 iw5 hC.2.2.2.1 hG.1 hG.2.1 7 rfl rfl 0 (by decide) hl (fun _ h => h) rfl hd kk
theorem al_LI_account (hC : CallFix p m c cc nL s args WALL own) (hG : GW D κ a u A s H locs) {i : Nat} (hi : i < 40) (hd : decode cc pc = .ok (.iaload, 1)) (kk : W p l e R s m args below meth c H locs cs ss Q (F0 m (pc + 1) ls (.int (nI (LI_account u i)) :: rest))) : W p l e R s m args below meth c H locs cs ss Q (F0 m pc ls (.int (nI i) :: .ref (a 35) :: rest)) :=
  va_iald hC.1 hC.2.1 hG.1 hG.2.1 35 0 rfl rfl (vp_in_nI hi (by decide)) hd (by
    have e9 : (nI i).toNatClampNeg = i := nI_clamp (by omega)
    rw [e9]
    exact kk)
theorem as_LI_account (hC : CallFix p m c cc nL s args WALL own) (hG : GW D κ a u A s H locs) {i : Nat} {v : Nat} (hi : i < 40) (hd : decode cc pc = .ok (.iastore, 1)) (kk : ∀ (H1 : Heap) (locs1 : List Loc), GW D κ a (sAN u 12 i v) A s H1 locs1 → W p l e R s m args below meth c H1 locs1 cs ss Q (F0 m (pc + 1) ls rest)) : W p l e R s m args below meth c H locs cs ss Q (F0 m pc ls (.int (nI v) :: .int (nI i) :: .ref (a 35) :: rest)) :=
  va_iast hC.1 hC.2.1 hG.1 hG.2.1 hG.2.2.1 hG.2.2.2.1 35 0 rfl rfl (vp_in_nI hi (by decide)) hd (fun H1 locs1 h1 h2 h3 => by
    have e9 : (nI i).toNatClampNeg = i := nI_clamp (by omega)
    rw [e9, fnN (u.2.2.2.1 12) i v] at h1 h2
    exact kk H1 locs1 ⟨hG.1, h1, h2, h3, hG.2.2.2.2⟩)
theorem gf_LI_day (hC : CallFix p m c cc nL s args WALL own) (hG : GW D κ a u A s H locs) (hl : (Cond.fieldLink own idx "Tollgate$Lines" "day" "[I").before args s = true) (hd : decode cc pc = .ok (.getfield idx, 3)) (kk : W p l e R s m args below meth c H locs cs ss Q (F0 m (pc + 3) ls ((.ref (a 36)) :: rest))) : W p l e R s m args below meth c H locs cs ss Q (F0 m pc ls (.ref (a 7) :: rest)) :=
  va_get (D := D) (ci := 5) (C := RX5) (T := TX5) (N := 5) hC.1 hC.2.1 hC.2.2.2.2 iw5 hC.2.2.2.1 hG.1 hG.2.1 7 rfl rfl 1 (by decide) hl (fun _ h => h) rfl hd kk
theorem al_LI_day (hC : CallFix p m c cc nL s args WALL own) (hG : GW D κ a u A s H locs) {i : Nat} (hi : i < 40) (hd : decode cc pc = .ok (.iaload, 1)) (kk : W p l e R s m args below meth c H locs cs ss Q (F0 m (pc + 1) ls (.int (nI (LI_day u i)) :: rest))) : W p l e R s m args below meth c H locs cs ss Q (F0 m pc ls (.int (nI i) :: .ref (a 36) :: rest)) :=
  va_iald hC.1 hC.2.1 hG.1 hG.2.1 36 0 rfl rfl (vp_in_nI hi (by decide)) hd (by
    have e9 : (nI i).toNatClampNeg = i := nI_clamp (by omega)
    rw [e9]
    exact kk)
theorem as_LI_day (hC : CallFix p m c cc nL s args WALL own) (hG : GW D κ a u A s H locs) {i : Nat} {v : Nat} (hi : i < 40) (hd : decode cc pc = .ok (.iastore, 1)) (kk : ∀ (H1 : Heap) (locs1 : List Loc), GW D κ a (sAN u 13 i v) A s H1 locs1 → W p l e R s m args below meth c H1 locs1 cs ss Q (F0 m (pc + 1) ls rest)) : W p l e R s m args below meth c H locs cs ss Q (F0 m pc ls (.int (nI v) :: .int (nI i) :: .ref (a 36) :: rest)) :=
  va_iast hC.1 hC.2.1 hG.1 hG.2.1 hG.2.2.1 hG.2.2.2.1 36 0 rfl rfl (vp_in_nI hi (by decide)) hd (fun H1 locs1 h1 h2 h3 => by
    have e9 : (nI i).toNatClampNeg = i := nI_clamp (by omega)
    rw [e9, fnN (u.2.2.2.1 13) i v] at h1 h2
    exact kk H1 locs1 ⟨hG.1, h1, h2, h3, hG.2.2.2.2⟩)
theorem gf_LI_amount (hC : CallFix p m c cc nL s args WALL own) (hG : GW D κ a u A s H locs) (hl : (Cond.fieldLink own idx "Tollgate$Lines" "amount" "[I").before args s = true) (hd : decode cc pc = .ok (.getfield idx, 3)) (kk : W p l e R s m args below meth c H locs cs ss Q (F0 m (pc + 3) ls ((.ref (a 37)) :: rest))) : W p l e R s m args below meth c H locs cs ss Q (F0 m pc ls (.ref (a 7) :: rest)) :=
  va_get (D := D) (ci := 5) (C := RX5) (T := TX5) (N := 5) hC.1 hC.2.1 hC.2.2.2.2 iw5 hC.2.2.2.1 hG.1 hG.2.1 7 rfl rfl 2 (by decide) hl (fun _ h => h) rfl hd kk
theorem al_LI_amount (hC : CallFix p m c cc nL s args WALL own) (hG : GW D κ a u A s H locs) {i : Nat} (hi : i < 40) (hd : decode cc pc = .ok (.iaload, 1)) (kk : W p l e R s m args below meth c H locs cs ss Q (F0 m (pc + 1) ls (.int (LI_amount u i) :: rest))) : W p l e R s m args below meth c H locs cs ss Q (F0 m pc ls (.int (nI i) :: .ref (a 37) :: rest)) :=
  va_iald hC.1 hC.2.1 hG.1 hG.2.1 37 0 rfl rfl (vp_in_nI hi (by decide)) hd (by
    have e9 : (nI i).toNatClampNeg = i := nI_clamp (by omega)
    rw [e9]
    exact kk)
theorem as_LI_amount (hC : CallFix p m c cc nL s args WALL own) (hG : GW D κ a u A s H locs) {i : Nat} {v : Int32} (hi : i < 40) (hd : decode cc pc = .ok (.iastore, 1)) (kk : ∀ (H1 : Heap) (locs1 : List Loc), GW D κ a (sAI u 3 i v) A s H1 locs1 → W p l e R s m args below meth c H1 locs1 cs ss Q (F0 m (pc + 1) ls rest)) : W p l e R s m args below meth c H locs cs ss Q (F0 m pc ls (.int v :: .int (nI i) :: .ref (a 37) :: rest)) :=
  va_iast hC.1 hC.2.1 hG.1 hG.2.1 hG.2.2.1 hG.2.2.2.1 37 0 rfl rfl (vp_in_nI hi (by decide)) hd (fun H1 locs1 h1 h2 h3 => by
    have e9 : (nI i).toNatClampNeg = i := nI_clamp (by omega)
    rw [e9, fnI (u.2.2.2.2.1 3) i v] at h1 h2
    exact kk H1 locs1 ⟨hG.1, h1, h2, h3, hG.2.2.2.2⟩)
theorem gf_LI_byDay (hC : CallFix p m c cc nL s args WALL own) (hG : GW D κ a u A s H locs) (hl : (Cond.fieldLink own idx "Tollgate$Lines" "byDay" "[I").before args s = true) (hd : decode cc pc = .ok (.getfield idx, 3)) (kk : W p l e R s m args below meth c H locs cs ss Q (F0 m (pc + 3) ls ((.ref (a 38)) :: rest))) : W p l e R s m args below meth c H locs cs ss Q (F0 m pc ls (.ref (a 7) :: rest)) :=
  va_get (D := D) (ci := 5) (C := RX5) (T := TX5) (N := 5) hC.1 hC.2.1 hC.2.2.2.2 iw5 hC.2.2.2.1 hG.1 hG.2.1 7 rfl rfl 3 (by decide) hl (fun _ h => h) rfl hd kk
theorem al_LI_byDay (hC : CallFix p m c cc nL s args WALL own) (hG : GW D κ a u A s H locs) {i : Nat} (hi : i < 40) (hd : decode cc pc = .ok (.iaload, 1)) (kk : W p l e R s m args below meth c H locs cs ss Q (F0 m (pc + 1) ls (.int (nI (LI_byDay u i)) :: rest))) : W p l e R s m args below meth c H locs cs ss Q (F0 m pc ls (.int (nI i) :: .ref (a 38) :: rest)) :=
  va_iald hC.1 hC.2.1 hG.1 hG.2.1 38 0 rfl rfl (vp_in_nI hi (by decide)) hd (by
    have e9 : (nI i).toNatClampNeg = i := nI_clamp (by omega)
    rw [e9]
    exact kk)
theorem as_LI_byDay (hC : CallFix p m c cc nL s args WALL own) (hG : GW D κ a u A s H locs) {i : Nat} {v : Nat} (hi : i < 40) (hd : decode cc pc = .ok (.iastore, 1)) (kk : ∀ (H1 : Heap) (locs1 : List Loc), GW D κ a (sAN u 14 i v) A s H1 locs1 → W p l e R s m args below meth c H1 locs1 cs ss Q (F0 m (pc + 1) ls rest)) : W p l e R s m args below meth c H locs cs ss Q (F0 m pc ls (.int (nI v) :: .int (nI i) :: .ref (a 38) :: rest)) :=
  va_iast hC.1 hC.2.1 hG.1 hG.2.1 hG.2.2.1 hG.2.2.2.1 38 0 rfl rfl (vp_in_nI hi (by decide)) hd (fun H1 locs1 h1 h2 h3 => by
    have e9 : (nI i).toNatClampNeg = i := nI_clamp (by omega)
    rw [e9, fnN (u.2.2.2.1 14) i v] at h1 h2
    exact kk H1 locs1 ⟨hG.1, h1, h2, h3, hG.2.2.2.2⟩)
theorem gf_LI_count (hC : CallFix p m c cc nL s args WALL own) (hG : GW D κ a u A s H locs) (hl : (Cond.fieldLink own idx "Tollgate$Lines" "count" "I").before args s = true) (hd : decode cc pc = .ok (.getfield idx, 3)) (kk : W p l e R s m args below meth c H locs cs ss Q (F0 m (pc + 3) ls ((.int (nI (LI_count u))) :: rest))) : W p l e R s m args below meth c H locs cs ss Q (F0 m pc ls (.ref (a 7) :: rest)) :=
  va_get (D := D) (ci := 5) (C := RX5) (T := TX5) (N := 5) hC.1 hC.2.1 hC.2.2.2.2 iw5 hC.2.2.2.1 hG.1 hG.2.1 7 rfl rfl 4 (by decide) hl (fun _ h => h) rfl hd kk
theorem pf_LI_count (hC : CallFix p m c cc nL s args WALL own) (hG : GW D κ a u A s H locs) {v : Nat} (hl : (Cond.fieldLink own idx "Tollgate$Lines" "count" "I").before args s = true) (hd : decode cc pc = .ok (.putfield idx, 3)) (kk : ∀ (H1 : Heap) (locs1 : List Loc), GW D κ a (sN u 9 v) A s H1 locs1 → W p l e R s m args below meth c H1 locs1 cs ss Q (F0 m (pc + 3) ls rest)) : W p l e R s m args below meth c H locs cs ss Q (F0 m pc ls (.int (nI v) :: .ref (a 7) :: rest)) :=
  va_put (D := D) (ci := 5) (v := .int (nI v)) (ty := .int) (C := RX5) (T := TX5) (N := 5) hC.1 hC.2.1 hC.2.2.2.2 iw5 tyX5 tyX5_ok nmX5 hC.2.2.2.1 hG.1 hG.2.1 hG.2.2.1 hG.2.2.2.1 7 rfl rfl 4 (by decide) hl (fun _ h => h) rfl (by decide +kernel) rfl rfl (Nat.le_of_ble_eq_true rfl) hd (fun H1 locs1 h1 h2 h3 => kk H1 locs1 ⟨hG.1, h1, h2, h3, hG.2.2.2.2⟩)
theorem gf_M0_journal (hC : CallFix p m c cc nL s args WALL own) (hG : GW D κ a u A s H locs) (hl : (Cond.fieldLink own idx "Tollgate$Matching" "journal" "LTollgate$Journal;").before args s = true) (hd : decode cc pc = .ok (.getfield idx, 3)) (kk : W p l e R s m args below meth c H locs cs ss Q (F0 m (pc + 3) ls ((.ref (a 5)) :: rest))) : W p l e R s m args below meth c H locs cs ss Q (F0 m pc ls (.ref (a 8) :: rest)) :=
  va_get (D := D) (ci := 6) (C := RX6) (T := TX6) (N := 5) hC.1 hC.2.1 hC.2.2.2.2 iw6 hC.2.2.2.1 hG.1 hG.2.1 8 rfl rfl 0 (by decide) hl (fun _ h => h) rfl hd kk
theorem gf_M0_lines (hC : CallFix p m c cc nL s args WALL own) (hG : GW D κ a u A s H locs) (hl : (Cond.fieldLink own idx "Tollgate$Matching" "lines" "LTollgate$Lines;").before args s = true) (hd : decode cc pc = .ok (.getfield idx, 3)) (kk : W p l e R s m args below meth c H locs cs ss Q (F0 m (pc + 3) ls ((.ref (a 7)) :: rest))) : W p l e R s m args below meth c H locs cs ss Q (F0 m pc ls (.ref (a 8) :: rest)) :=
  va_get (D := D) (ci := 6) (C := RX6) (T := TX6) (N := 5) hC.1 hC.2.1 hC.2.2.2.2 iw6 hC.2.2.2.1 hG.1 hG.2.1 8 rfl rfl 1 (by decide) hl (fun _ h => h) rfl hd kk
theorem gf_M0_lineOfLeg (hC : CallFix p m c cc nL s args WALL own) (hG : GW D κ a u A s H locs) (hl : (Cond.fieldLink own idx "Tollgate$Matching" "lineOfLeg" "[I").before args s = true) (hd : decode cc pc = .ok (.getfield idx, 3)) (kk : W p l e R s m args below meth c H locs cs ss Q (F0 m (pc + 3) ls ((.ref (a 39)) :: rest))) : W p l e R s m args below meth c H locs cs ss Q (F0 m pc ls (.ref (a 8) :: rest)) :=
  va_get (D := D) (ci := 6) (C := RX6) (T := TX6) (N := 5) hC.1 hC.2.1 hC.2.2.2.2 iw6 hC.2.2.2.1 hG.1 hG.2.1 8 rfl rfl 2 (by decide) hl (fun _ h => h) rfl hd kk
theorem al_M0_lineOfLeg (hC : CallFix p m c cc nL s args WALL own) (hG : GW D κ a u A s H locs) {i : Nat} (hi : i < 600) (hd : decode cc pc = .ok (.iaload, 1)) (kk : W p l e R s m args below meth c H locs cs ss Q (F0 m (pc + 1) ls (.int (oI (M0_lineOfLeg u i)) :: rest))) : W p l e R s m args below meth c H locs cs ss Q (F0 m pc ls (.int (nI i) :: .ref (a 39) :: rest)) :=
  va_iald hC.1 hC.2.1 hG.1 hG.2.1 39 0 rfl rfl (vp_in_nI hi (by decide)) hd (by
    have e9 : (nI i).toNatClampNeg = i := nI_clamp (by omega)
    rw [e9]
    exact kk)
theorem as_M0_lineOfLeg (hC : CallFix p m c cc nL s args WALL own) (hG : GW D κ a u A s H locs) {i : Nat} {v : Option Nat} (hi : i < 600) (hd : decode cc pc = .ok (.iastore, 1)) (kk : ∀ (H1 : Heap) (locs1 : List Loc), GW D κ a (sAO u 0 i v) A s H1 locs1 → W p l e R s m args below meth c H1 locs1 cs ss Q (F0 m (pc + 1) ls rest)) : W p l e R s m args below meth c H locs cs ss Q (F0 m pc ls (.int (oI v) :: .int (nI i) :: .ref (a 39) :: rest)) :=
  va_iast hC.1 hC.2.1 hG.1 hG.2.1 hG.2.2.1 hG.2.2.2.1 39 0 rfl rfl (vp_in_nI hi (by decide)) hd (fun H1 locs1 h1 h2 h3 => by
    have e9 : (nI i).toNatClampNeg = i := nI_clamp (by omega)
    rw [e9, fnO (u.2.2.2.2.2.2.1 0) i v] at h1 h2
    exact kk H1 locs1 ⟨hG.1, h1, h2, h3, hG.2.2.2.2⟩)
theorem gf_M0_firstOfLine (hC : CallFix p m c cc nL s args WALL own) (hG : GW D κ a u A s H locs) (hl : (Cond.fieldLink own idx "Tollgate$Matching" "firstOfLine" "[I").before args s = true) (hd : decode cc pc = .ok (.getfield idx, 3)) (kk : W p l e R s m args below meth c H locs cs ss Q (F0 m (pc + 3) ls ((.ref (a 40)) :: rest))) : W p l e R s m args below meth c H locs cs ss Q (F0 m pc ls (.ref (a 8) :: rest)) :=
  va_get (D := D) (ci := 6) (C := RX6) (T := TX6) (N := 5) hC.1 hC.2.1 hC.2.2.2.2 iw6 hC.2.2.2.1 hG.1 hG.2.1 8 rfl rfl 3 (by decide) hl (fun _ h => h) rfl hd kk
theorem al_M0_firstOfLine (hC : CallFix p m c cc nL s args WALL own) (hG : GW D κ a u A s H locs) {i : Nat} (hi : i < 40) (hd : decode cc pc = .ok (.iaload, 1)) (kk : W p l e R s m args below meth c H locs cs ss Q (F0 m (pc + 1) ls (.int (oI (M0_firstOfLine u i)) :: rest))) : W p l e R s m args below meth c H locs cs ss Q (F0 m pc ls (.int (nI i) :: .ref (a 40) :: rest)) :=
  va_iald hC.1 hC.2.1 hG.1 hG.2.1 40 0 rfl rfl (vp_in_nI hi (by decide)) hd (by
    have e9 : (nI i).toNatClampNeg = i := nI_clamp (by omega)
    rw [e9]
    exact kk)
theorem as_M0_firstOfLine (hC : CallFix p m c cc nL s args WALL own) (hG : GW D κ a u A s H locs) {i : Nat} {v : Option Nat} (hi : i < 40) (hd : decode cc pc = .ok (.iastore, 1)) (kk : ∀ (H1 : Heap) (locs1 : List Loc), GW D κ a (sAO u 1 i v) A s H1 locs1 → W p l e R s m args below meth c H1 locs1 cs ss Q (F0 m (pc + 1) ls rest)) : W p l e R s m args below meth c H locs cs ss Q (F0 m pc ls (.int (oI v) :: .int (nI i) :: .ref (a 40) :: rest)) :=
  va_iast hC.1 hC.2.1 hG.1 hG.2.1 hG.2.2.1 hG.2.2.2.1 40 0 rfl rfl (vp_in_nI hi (by decide)) hd (fun H1 locs1 h1 h2 h3 => by
    have e9 : (nI i).toNatClampNeg = i := nI_clamp (by omega)
    rw [e9, fnO (u.2.2.2.2.2.2.1 1) i v] at h1 h2
    exact kk H1 locs1 ⟨hG.1, h1, h2, h3, hG.2.2.2.2⟩)
theorem gf_M0_secondOfLine (hC : CallFix p m c cc nL s args WALL own) (hG : GW D κ a u A s H locs) (hl : (Cond.fieldLink own idx "Tollgate$Matching" "secondOfLine" "[I").before args s = true) (hd : decode cc pc = .ok (.getfield idx, 3)) (kk : W p l e R s m args below meth c H locs cs ss Q (F0 m (pc + 3) ls ((.ref (a 41)) :: rest))) : W p l e R s m args below meth c H locs cs ss Q (F0 m pc ls (.ref (a 8) :: rest)) :=
  va_get (D := D) (ci := 6) (C := RX6) (T := TX6) (N := 5) hC.1 hC.2.1 hC.2.2.2.2 iw6 hC.2.2.2.1 hG.1 hG.2.1 8 rfl rfl 4 (by decide) hl (fun _ h => h) rfl hd kk
theorem al_M0_secondOfLine (hC : CallFix p m c cc nL s args WALL own) (hG : GW D κ a u A s H locs) {i : Nat} (hi : i < 40) (hd : decode cc pc = .ok (.iaload, 1)) (kk : W p l e R s m args below meth c H locs cs ss Q (F0 m (pc + 1) ls (.int (oI (M0_secondOfLine u i)) :: rest))) : W p l e R s m args below meth c H locs cs ss Q (F0 m pc ls (.int (nI i) :: .ref (a 41) :: rest)) :=
  va_iald hC.1 hC.2.1 hG.1 hG.2.1 41 0 rfl rfl (vp_in_nI hi (by decide)) hd (by
    have e9 : (nI i).toNatClampNeg = i := nI_clamp (by omega)
    rw [e9]
    exact kk)
theorem as_M0_secondOfLine (hC : CallFix p m c cc nL s args WALL own) (hG : GW D κ a u A s H locs) {i : Nat} {v : Option Nat} (hi : i < 40) (hd : decode cc pc = .ok (.iastore, 1)) (kk : ∀ (H1 : Heap) (locs1 : List Loc), GW D κ a (sAO u 2 i v) A s H1 locs1 → W p l e R s m args below meth c H1 locs1 cs ss Q (F0 m (pc + 1) ls rest)) : W p l e R s m args below meth c H locs cs ss Q (F0 m pc ls (.int (oI v) :: .int (nI i) :: .ref (a 41) :: rest)) :=
  va_iast hC.1 hC.2.1 hG.1 hG.2.1 hG.2.2.1 hG.2.2.2.1 41 0 rfl rfl (vp_in_nI hi (by decide)) hd (fun H1 locs1 h1 h2 h3 => by
    have e9 : (nI i).toNatClampNeg = i := nI_clamp (by omega)
    rw [e9, fnO (u.2.2.2.2.2.2.1 2) i v] at h1 h2
    exact kk H1 locs1 ⟨hG.1, h1, h2, h3, hG.2.2.2.2⟩)
theorem gf_M1_journal (hC : CallFix p m c cc nL s args WALL own) (hG : GW D κ a u A s H locs) (hl : (Cond.fieldLink own idx "Tollgate$Matching" "journal" "LTollgate$Journal;").before args s = true) (hd : decode cc pc = .ok (.getfield idx, 3)) (kk : W p l e R s m args below meth c H locs cs ss Q (F0 m (pc + 3) ls ((.ref (a 5)) :: rest))) : W p l e R s m args below meth c H locs cs ss Q (F0 m pc ls (.ref (a 9) :: rest)) :=
  va_get (D := D) (ci := 6) (C := RX6) (T := TX6) (N := 5) hC.1 hC.2.1 hC.2.2.2.2 iw6 hC.2.2.2.1 hG.1 hG.2.1 9 rfl rfl 0 (by decide) hl (fun _ h => h) rfl hd kk
theorem gf_M1_lines (hC : CallFix p m c cc nL s args WALL own) (hG : GW D κ a u A s H locs) (hl : (Cond.fieldLink own idx "Tollgate$Matching" "lines" "LTollgate$Lines;").before args s = true) (hd : decode cc pc = .ok (.getfield idx, 3)) (kk : W p l e R s m args below meth c H locs cs ss Q (F0 m (pc + 3) ls ((.ref (a 7)) :: rest))) : W p l e R s m args below meth c H locs cs ss Q (F0 m pc ls (.ref (a 9) :: rest)) :=
  va_get (D := D) (ci := 6) (C := RX6) (T := TX6) (N := 5) hC.1 hC.2.1 hC.2.2.2.2 iw6 hC.2.2.2.1 hG.1 hG.2.1 9 rfl rfl 1 (by decide) hl (fun _ h => h) rfl hd kk
theorem gf_M1_lineOfLeg (hC : CallFix p m c cc nL s args WALL own) (hG : GW D κ a u A s H locs) (hl : (Cond.fieldLink own idx "Tollgate$Matching" "lineOfLeg" "[I").before args s = true) (hd : decode cc pc = .ok (.getfield idx, 3)) (kk : W p l e R s m args below meth c H locs cs ss Q (F0 m (pc + 3) ls ((.ref (a 42)) :: rest))) : W p l e R s m args below meth c H locs cs ss Q (F0 m pc ls (.ref (a 9) :: rest)) :=
  va_get (D := D) (ci := 6) (C := RX6) (T := TX6) (N := 5) hC.1 hC.2.1 hC.2.2.2.2 iw6 hC.2.2.2.1 hG.1 hG.2.1 9 rfl rfl 2 (by decide) hl (fun _ h => h) rfl hd kk
theorem al_M1_lineOfLeg (hC : CallFix p m c cc nL s args WALL own) (hG : GW D κ a u A s H locs) {i : Nat} (hi : i < 600) (hd : decode cc pc = .ok (.iaload, 1)) (kk : W p l e R s m args below meth c H locs cs ss Q (F0 m (pc + 1) ls (.int (oI (M1_lineOfLeg u i)) :: rest))) : W p l e R s m args below meth c H locs cs ss Q (F0 m pc ls (.int (nI i) :: .ref (a 42) :: rest)) :=
  va_iald hC.1 hC.2.1 hG.1 hG.2.1 42 0 rfl rfl (vp_in_nI hi (by decide)) hd (by
    have e9 : (nI i).toNatClampNeg = i := nI_clamp (by omega)
    rw [e9]
    exact kk)
theorem as_M1_lineOfLeg (hC : CallFix p m c cc nL s args WALL own) (hG : GW D κ a u A s H locs) {i : Nat} {v : Option Nat} (hi : i < 600) (hd : decode cc pc = .ok (.iastore, 1)) (kk : ∀ (H1 : Heap) (locs1 : List Loc), GW D κ a (sAO u 3 i v) A s H1 locs1 → W p l e R s m args below meth c H1 locs1 cs ss Q (F0 m (pc + 1) ls rest)) : W p l e R s m args below meth c H locs cs ss Q (F0 m pc ls (.int (oI v) :: .int (nI i) :: .ref (a 42) :: rest)) :=
  va_iast hC.1 hC.2.1 hG.1 hG.2.1 hG.2.2.1 hG.2.2.2.1 42 0 rfl rfl (vp_in_nI hi (by decide)) hd (fun H1 locs1 h1 h2 h3 => by
    have e9 : (nI i).toNatClampNeg = i := nI_clamp (by omega)
    rw [e9, fnO (u.2.2.2.2.2.2.1 3) i v] at h1 h2
    exact kk H1 locs1 ⟨hG.1, h1, h2, h3, hG.2.2.2.2⟩)
theorem gf_M1_firstOfLine (hC : CallFix p m c cc nL s args WALL own) (hG : GW D κ a u A s H locs) (hl : (Cond.fieldLink own idx "Tollgate$Matching" "firstOfLine" "[I").before args s = true) (hd : decode cc pc = .ok (.getfield idx, 3)) (kk : W p l e R s m args below meth c H locs cs ss Q (F0 m (pc + 3) ls ((.ref (a 43)) :: rest))) : W p l e R s m args below meth c H locs cs ss Q (F0 m pc ls (.ref (a 9) :: rest)) :=
  va_get (D := D) (ci := 6) (C := RX6) (T := TX6) (N := 5) hC.1 hC.2.1 hC.2.2.2.2 iw6 hC.2.2.2.1 hG.1 hG.2.1 9 rfl rfl 3 (by decide) hl (fun _ h => h) rfl hd kk
theorem al_M1_firstOfLine (hC : CallFix p m c cc nL s args WALL own) (hG : GW D κ a u A s H locs) {i : Nat} (hi : i < 40) (hd : decode cc pc = .ok (.iaload, 1)) (kk : W p l e R s m args below meth c H locs cs ss Q (F0 m (pc + 1) ls (.int (oI (M1_firstOfLine u i)) :: rest))) : W p l e R s m args below meth c H locs cs ss Q (F0 m pc ls (.int (nI i) :: .ref (a 43) :: rest)) :=
  va_iald hC.1 hC.2.1 hG.1 hG.2.1 43 0 rfl rfl (vp_in_nI hi (by decide)) hd (by
    have e9 : (nI i).toNatClampNeg = i := nI_clamp (by omega)
    rw [e9]
    exact kk)
theorem as_M1_firstOfLine (hC : CallFix p m c cc nL s args WALL own) (hG : GW D κ a u A s H locs) {i : Nat} {v : Option Nat} (hi : i < 40) (hd : decode cc pc = .ok (.iastore, 1)) (kk : ∀ (H1 : Heap) (locs1 : List Loc), GW D κ a (sAO u 4 i v) A s H1 locs1 → W p l e R s m args below meth c H1 locs1 cs ss Q (F0 m (pc + 1) ls rest)) : W p l e R s m args below meth c H locs cs ss Q (F0 m pc ls (.int (oI v) :: .int (nI i) :: .ref (a 43) :: rest)) :=
  va_iast hC.1 hC.2.1 hG.1 hG.2.1 hG.2.2.1 hG.2.2.2.1 43 0 rfl rfl (vp_in_nI hi (by decide)) hd (fun H1 locs1 h1 h2 h3 => by
    have e9 : (nI i).toNatClampNeg = i := nI_clamp (by omega)
    rw [e9, fnO (u.2.2.2.2.2.2.1 4) i v] at h1 h2
    exact kk H1 locs1 ⟨hG.1, h1, h2, h3, hG.2.2.2.2⟩)
theorem gf_M1_secondOfLine (hC : CallFix p m c cc nL s args WALL own) (hG : GW D κ a u A s H locs) (hl : (Cond.fieldLink own idx "Tollgate$Matching" "secondOfLine" "[I").before args s = true) (hd : decode cc pc = .ok (.getfield idx, 3)) (kk : W p l e R s m args below meth c H locs cs ss Q (F0 m (pc + 3) ls ((.ref (a 44)) :: rest))) : W p l e R s m args below meth c H locs cs ss Q (F0 m pc ls (.ref (a 9) :: rest)) :=
  va_get (D := D) (ci := 6) (C := RX6) (T := TX6) (N := 5) hC.1 hC.2.1 hC.2.2.2.2 iw6 hC.2.2.2.1 hG.1 hG.2.1 9 rfl rfl 4 (by decide) hl (fun _ h => h) rfl hd kk
theorem al_M1_secondOfLine (hC : CallFix p m c cc nL s args WALL own) (hG : GW D κ a u A s H locs) {i : Nat} (hi : i < 40) (hd : decode cc pc = .ok (.iaload, 1)) (kk : W p l e R s m args below meth c H locs cs ss Q (F0 m (pc + 1) ls (.int (oI (M1_secondOfLine u i)) :: rest))) : W p l e R s m args below meth c H locs cs ss Q (F0 m pc ls (.int (nI i) :: .ref (a 44) :: rest)) :=
  va_iald hC.1 hC.2.1 hG.1 hG.2.1 44 0 rfl rfl (vp_in_nI hi (by decide)) hd (by
    have e9 : (nI i).toNatClampNeg = i := nI_clamp (by omega)
    rw [e9]
    exact kk)
theorem as_M1_secondOfLine (hC : CallFix p m c cc nL s args WALL own) (hG : GW D κ a u A s H locs) {i : Nat} {v : Option Nat} (hi : i < 40) (hd : decode cc pc = .ok (.iastore, 1)) (kk : ∀ (H1 : Heap) (locs1 : List Loc), GW D κ a (sAO u 5 i v) A s H1 locs1 → W p l e R s m args below meth c H1 locs1 cs ss Q (F0 m (pc + 1) ls rest)) : W p l e R s m args below meth c H locs cs ss Q (F0 m pc ls (.int (oI v) :: .int (nI i) :: .ref (a 44) :: rest)) :=
  va_iast hC.1 hC.2.1 hG.1 hG.2.1 hG.2.2.1 hG.2.2.2.1 44 0 rfl rfl (vp_in_nI hi (by decide)) hd (fun H1 locs1 h1 h2 h3 => by
    have e9 : (nI i).toNatClampNeg = i := nI_clamp (by omega)
    rw [e9, fnO (u.2.2.2.2.2.2.1 5) i v] at h1 h2
    exact kk H1 locs1 ⟨hG.1, h1, h2, h3, hG.2.2.2.2⟩)
end Rows
