theorem nI_facts {n : Nat} (h0 : 0 < n) (h : n ≤ 1000000) : ¬ nI n = 0 ∧ ¬ nI n < -1000000 ∧ nI n ≤ nI 1000000 := by
  refine ⟨nI_ne0 h0 (by omega), fun q => ?_, nI_le h (by decide)⟩
  rw [Int32.lt_iff_toInt_lt, nI_toInt (by omega), show (-1000000 : Int32).toInt = -1000000 by decide] at q
  omega

set_option maxHeartbeats 40000000 in
set_option maxRecDepth 100000 in
theorem law_walk {p : Program} {l : Launch} {e : Env} {s : State} {m : MethodId} {below : List Frame} {meth : Method} {c : Code} {D : va_G} {κ : ClassId × ClassId × ClassId} {a : Nat → Nat} {b L : Nat} {xs : Nat → Int32} (hL : L ≤ 260) (hC : CallFix p m c code 20 s #[Value.ref b] WALL RL) (hr : meth.sig.returnType = ret) (hlocks : meth.locks = false) (hX : va_X b L xs s s.heap) (hbl : b < s.heap.size) (H : Heap) (locs : List Loc) (hG : GW D κ a u0 (fun q : Nat => s.heap.size ≤ q) s H locs) (ls : Array Slot) (hl : lv_has ls 20 [(1, .ref (a 0)), (0, .ref b)]) : W p l e room_1 s m #[Value.ref b] below meth c H locs 45 4524 (lw_Z below #[Value.ref b] s) (F0 m 8 ls []) := by
  have hx := hC.1
  have hb := hC.2.1
  have hbA : ¬ (fun q : Nat => s.heap.size ≤ q) b := Nat.not_le.mpr hbl
  refine lv_iconst (v := nI 1) hx hb dL_law_8 (by decide) ?_
  refine lv_istore_n (lv' := [(2, .int (nI 1)), (1, .ref (a 0)), (0, .ref b)]) hx hb dL_law_9 rfl hl (by decide) rfl (fun ls hl => ?_)
  have lp10 : ∀ (n : Nat) (cu : Nat) (v : TS), 4 - cu < n → (1 ≤ cu ∧ cu ≤ 4) → (I0 0 v) → ∀ (H : Heap) (locs : List Loc), GW D κ a v (fun q : Nat => s.heap.size ≤ q) s H locs → ∀ ls : Array Slot, lv_has ls 20 [(2, .int (nI cu)), (1, .ref (a 0)), (0, .ref b)] → W p l e room_1 s m #[Value.ref b] below meth c H locs 45 4524 (lw_Z below #[Value.ref b] s) (F0 m 10 ls []) := by
    intro n
    induction n with
    | zero =>
      intro cu v hm
      exact absurd hm (Nat.not_lt_zero _)
    | succ n ih10 =>
      intro cu v hm10 c10_1 c10_2 H locs hG ls hl
      have hi0 := c10_2
      have ⟨i1, i2⟩ := hi0
      have i3 := i1.n
      refine lv_iload_n hx hb dL_law_10 rfl (lv_at hl 0 rfl) ?_
      refine lv_iconst (v := nI 4) hx hb dL_law_11 (by decide) ?_
      refine bn_ge (tgt := 40) hx hb (by omega) (by omega) dL_law_12 (by decide) (fun h12 => ?_) (fun h12 => ?_)
      · refine lv_iconst (v := nI 3) hx hb dL_law_40 (by decide) ?_
        refine lv_aload_n hx hb dL_law_41 rfl (lv_at hl 2 rfl) ?_
        refine lv_iconst (v := nI 0) hx hb dL_law_42 (by decide) ?_
        refine k_cell hC hG hX hbl hbA (by omega) (by omega) w111 w113 ⟨by decide, by decide⟩ hl.1 (Nat.le_of_ble_eq_true rfl) dL_law_43 ⟨by decide, by decide⟩ (fun x43 H locs hG => ?_)
        refine lv_bipush (v := nI 6) hx hb dL_law_46 (by decide) ?_
        refine k_S_below (n := 6) hC hG (by omega) (by omega) w116 w113 ⟨by decide, by decide⟩ hl.1 (Nat.le_of_ble_eq_true rfl) dL_law_48 ⟨by decide, by decide⟩ (fun b48 hb48 H locs hG => ?_)
        refine ar_iadd hx hb dL_law_51 ?_
        obtain ⟨ac, eac⟩ : ∃ z, z = (3 + b48) := ⟨_, rfl⟩
        rw [← eac]
        refine lv_istore_n (lv' := [(2, .int (nI ac)), (1, .ref (a 0)), (0, .ref b)]) hx hb dL_law_52 rfl hl (by decide) rfl (fun ls hl => ?_)
        refine lv_iconst (v := nI 0) hx hb dL_law_53 (by decide) ?_
        refine lv_istore_n (lv' := [(3, .int (nI 0)), (2, .int (nI ac)), (1, .ref (a 0)), (0, .ref b)]) hx hb dL_law_54 rfl hl (by decide) rfl (fun ls hl => ?_)
        have lp55 : ∀ (n : Nat) (ai : Nat) (v : TS), ac - ai < n → (ai ≤ ac) → (I0 ai v) → ∀ (H : Heap) (locs : List Loc), GW D κ a v (fun q : Nat => s.heap.size ≤ q) s H locs → ∀ ls : Array Slot, lv_has ls 20 [(3, .int (nI ai)), (2, .int (nI ac)), (1, .ref (a 0)), (0, .ref b)] → W p l e room_1 s m #[Value.ref b] below meth c H locs 45 4524 (lw_Z below #[Value.ref b] s) (F0 m 55 ls []) := by
          intro n
          induction n with
          | zero =>
            intro ai v hm
            exact absurd hm (Nat.not_lt_zero _)
          | succ n ih55 =>
            intro ai v hm55 c55_1 c55_2 H locs hG ls hl
            have ⟨i1, i2, i3⟩ := c55_2
            have i4 := i1.n
            refine lv_iload_n hx hb dL_law_55 rfl (lv_at hl 0 rfl) ?_
            refine lv_iload_n hx hb dL_law_56 rfl (lv_at hl 1 rfl) ?_
            refine bn_ge (tgt := 116) hx hb (by omega) (by omega) dL_law_57 (by decide) (fun h57 => ?_) (fun h57 => ?_)
            · have hai : ai = ac := by omega
              refine lv_aload_n hx hb dL_law_116 rfl (lv_at hl 2 rfl) ?_
              refine lv_iconst (v := nI 0) hx hb dL_law_117 (by decide) ?_
              refine k_T_exchange hC hG 0 (c55_2.1) (by have := c55_2.2.1; omega) ((c55_2.2.2.2.2.2.2.1 (by omega)).2) w143 ⟨by decide, by decide⟩ hl.1 (Nat.le_of_ble_eq_true rfl) dL_law_118 ⟨by decide, by decide⟩ (fun H locs hG => ?_)
              refine lv_pop hx hb dL_law_121 rfl ?_
              have hini := I0_ex (n := ac) (by rw [← hai]; exact c55_2) (by omega)
              refine lv_iconst (v := nI 0) hx hb dL_law_122 (by decide) ?_
              refine lv_istore_n (lv' := [(3, .int (nI 0)), (2, .int (nI ac)), (1, .ref (a 0)), (0, .ref b)]) hx hb dL_law_123 rfl hl (by decide) rfl (fun ls hl => ?_)
              have lp124 : ∀ (n : Nat) (i : Nat) (v : TS), 30 - i < n → (i ≤ 30) → (INV ac i v) → ∀ (H : Heap) (locs : List Loc), GW D κ a v (fun q : Nat => s.heap.size ≤ q) s H locs → ∀ ls : Array Slot, lv_has ls 20 [(3, .int (nI i)), (2, .int (nI ac)), (1, .ref (a 0)), (0, .ref b)] → W p l e room_1 s m #[Value.ref b] below meth c H locs 45 4524 (lw_Z below #[Value.ref b] s) (F0 m 124 ls []) := by
                intro n
                induction n with
                | zero =>
                  intro i v hm
                  exact absurd hm (Nat.not_lt_zero _)
                | succ n ih124 =>
                  intro i v hm124 c124_1 c124_2 H locs hG ls hl
                  have hI := c124_2
                  have ⟨z1, z2, z3, z4, z5, z6, z7⟩ := hI.2.1
                  refine lv_iload_n hx hb dL_law_124 rfl (lv_at hl 0 rfl) ?_
                  refine lv_bipush (v := nI 30) hx hb dL_law_125 (by decide) ?_
                  refine bn_ge (tgt := 639) hx hb (by omega) (by omega) dL_law_127 (by decide) (fun h127 => ?_) (fun h127 => ?_)
                  · have hi30 : i = 30 := by omega
                    subst hi30
                    have ⟨hW0, hdg0⟩ := L_dig hI (by omega)
                    refine lv_aload_n hx hb dL_law_639 rfl (lv_at hl 2 rfl) ?_
                    refine k_T_digest hC hG  (hI.1) w470 ⟨by decide, by decide⟩ hl.1 (Nat.le_of_ble_eq_true rfl) dL_law_640 ⟨by decide, by decide⟩ (fun H locs hG => ?_)
                    obtain ⟨w, ew⟩ : ∃ z, z = fDigU v := ⟨_, rfl⟩
                    rw [← ew] at hG hW0 hdg0
                    have hW := hW0
                    have hdg := hdg0
                    have ⟨k1, k2, k3, k4, k5, k6, k7⟩ := hW.2.1
                    have k8 := hW.1.n
                    refine lv_lstore_n (lv' := [(3, .long (fDig v)), (2, .int (nI ac)), (1, .ref (a 0)), (0, .ref b)]) hx hb dL_law_643 rfl hl (by decide) rfl (fun ls hl => ?_)
                    refine lv_iconst (v := nI 0) hx hb dL_law_644 (by decide) ?_
                    refine lv_istore (lv' := [(5, .int (nI 0)), (3, .long (fDig v)), (2, .int (nI ac)), (1, .ref (a 0)), (0, .ref b)]) hx hb dL_law_645 hl (by decide) rfl (fun ls hl => ?_)
                    have lp647 : ∀ (n : Nat) (k : Nat), ac - k < n → (k ≤ ac) → ∀ (H : Heap) (locs : List Loc), GW D κ a w (fun q : Nat => s.heap.size ≤ q) s H locs → ∀ ls : Array Slot, lv_has ls 20 [(5, .int (nI k)), (3, .long (fDig v)), (2, .int (nI ac)), (1, .ref (a 0)), (0, .ref b)] → W p l e room_1 s m #[Value.ref b] below meth c H locs 45 4524 (lw_Z below #[Value.ref b] s) (F0 m 647 ls []) := by
                      intro n
                      induction n with
                      | zero =>
                        intro k hm
                        exact absurd hm (Nat.not_lt_zero _)
                      | succ n ih647 =>
                        intro k hm647 c647_1 H locs hG ls hl
                        refine lv_iload hx hb dL_law_647 (lv_at hl 0 rfl) ?_
                        refine lv_iload_n hx hb dL_law_649 rfl (lv_at hl 2 rfl) ?_
                        refine bn_ge (tgt := 769) hx hb (by omega) (by omega) dL_law_650 (by decide) (fun h650 => ?_) (fun h650 => ?_)
                        · refine lv_iconst (v := nI 0) hx hb dL_law_769 (by decide) ?_
                          refine lv_istore (lv' := [(5, .int (nI 0)), (3, .long (fDig v)), (2, .int (nI ac)), (1, .ref (a 0)), (0, .ref b)]) hx hb dL_law_770 hl (by decide) rfl (fun ls hl => ?_)
                          have lp772 : ∀ (n : Nat) (x9 : Nat), LI_count w - x9 < n → (x9 ≤ LI_count w) → ∀ (H : Heap) (locs : List Loc), GW D κ a w (fun q : Nat => s.heap.size ≤ q) s H locs → ∀ ls : Array Slot, lv_has ls 20 [(5, .int (nI x9)), (3, .long (fDig v)), (2, .int (nI ac)), (1, .ref (a 0)), (0, .ref b)] → W p l e room_1 s m #[Value.ref b] below meth c H locs 45 4524 (lw_Z below #[Value.ref b] s) (F0 m 772 ls []) := by
                            intro n
                            induction n with
                            | zero =>
                              intro x9 hm
                              exact absurd hm (Nat.not_lt_zero _)
                            | succ n ih772 =>
                              intro x9 hm772 c772_1 H locs hG ls hl
                              refine lv_iload hx hb dL_law_772 (lv_at hl 0 rfl) ?_
                              refine lv_aload_n hx hb dL_law_774 rfl (lv_at hl 3 rfl) ?_
                              refine lv_iconst (v := nI 3) hx hb dL_law_775 (by decide) ?_
                              refine k_T_many hC hG 3 (hW.1) (by omega) w158 ⟨by decide, by decide⟩ hl.1 (Nat.le_of_ble_eq_true rfl) dL_law_776 ⟨by decide, by decide⟩ (fun H locs hG => ?_)
                              refine W.eq (g2 := F0 m 779 ls [.int (nI (LI_count w)), .int (nI x9)]) rfl ?_
                              refine bn_ge (tgt := 886) hx hb (by omega) (by omega) dL_law_779 (by decide) (fun h779 => ?_) (fun h779 => ?_)
                              · refine lv_aload_n hx hb dL_law_886 rfl (lv_at hl 3 rfl) ?_
                                refine lv_iconst (v := nI 5) hx hb dL_law_887 (by decide) ?_
                                refine lv_iconst (v := nI 4) hx hb dL_law_888 (by decide) ?_
                                refine k_T_earned hC hG 5 4 (hW.1) (by omega) (by omega) w522 ⟨by decide, by decide⟩ hl.1 (Nat.le_of_ble_eq_true rfl) dL_law_889 ⟨by decide, by decide⟩ (fun H locs hG => ?_)
                                refine lv_lconst (v := 0) hx hb dL_law_892 (by decide) ?_
                                refine bl_ne (tgt := 926) hx hb dL_law_893 dL_law_894 (by decide) (fun h893 => absurd ((L_earn w).1) h893) (fun h893 => ?_)
                                refine lv_aload_n hx hb dL_law_897 rfl (lv_at hl 3 rfl) ?_
                                refine lv_iconst (v := nI 0) hx hb dL_law_898 (by decide) ?_
                                refine lv_sipush (v := nI 364) hx hb dL_law_899 (by decide) ?_
                                refine k_T_earned hC hG 0 364 (hW.1) (by omega) (by omega) w522 ⟨by decide, by decide⟩ hl.1 (Nat.le_of_ble_eq_true rfl) dL_law_902 ⟨by decide, by decide⟩ (fun H locs hG => ?_)
                                refine lv_aload_n hx hb dL_law_905 rfl (lv_at hl 3 rfl) ?_
                                refine lv_iconst (v := nI 0) hx hb dL_law_906 (by decide) ?_
                                refine lv_bipush (v := nI 9) hx hb dL_law_907 (by decide) ?_
                                refine k_T_earned hC hG 0 9 (hW.1) (by omega) (by omega) w522 ⟨by decide, by decide⟩ hl.1 (Nat.le_of_ble_eq_true rfl) dL_law_909 ⟨by decide, by decide⟩ (fun H locs hG => ?_)
                                refine lv_aload_n hx hb dL_law_912 rfl (lv_at hl 3 rfl) ?_
                                refine lv_bipush (v := nI 10) hx hb dL_law_913 (by decide) ?_
                                refine lv_sipush (v := nI 364) hx hb dL_law_915 (by decide) ?_
                                refine k_T_earned hC hG 10 364 (hW.1) (by omega) (by omega) w522 ⟨by decide, by decide⟩ hl.1 (Nat.le_of_ble_eq_true rfl) dL_law_918 ⟨by decide, by decide⟩ (fun H locs hG => ?_)
                                refine lv_ladd hx hb dL_law_921 ?_
                                refine bl_eq (tgt := 928) hx hb dL_law_922 dL_law_923 (by decide) (fun h922 => ?_) (fun h922 => absurd ((L_earn w).2) h922)
                                refine lv_aload_n hx hb dL_law_928 rfl (lv_at hl 3 rfl) ?_
                                refine k_T_digest hC hG  (hW.1) w470 ⟨by decide, by decide⟩ hl.1 (Nat.le_of_ble_eq_true rfl) dL_law_929 ⟨by decide, by decide⟩ (fun H locs hG => ?_)
                                refine lv_lload_n hx hb dL_law_932 rfl (lv_at hl 1 rfl) ?_
                                refine bl_ne (tgt := 941) hx hb dL_law_933 dL_law_934 (by decide) (fun h933 => absurd (hdg) h933) (fun h933 => ?_)
                                refine lv_iconst (v := nI 1) hx hb dL_law_937 (by decide) ?_
                                refine lv_goto (tgt := 942) hx hb dL_law_938 (by decide) ?_
                                refine va_forget (fun q hq => hG.2.2.2.1.2.2 q hq) ?_
                                refine W.widen (k := 202) (n := 5726) (by decide) (by decide) ?_
                                exact lw_ret hx hb hr hlocks dL_law_942
                              · refine lv_aload_n hx hb dL_law_782 rfl (lv_at hl 3 rfl) ?_
                                refine lv_iload hx hb dL_law_783 (lv_at hl 0 rfl) ?_
                                refine k_T_matched hC hG x9 (hW.1) (by omega) w521 ⟨by decide, by decide⟩ hl.1 (Nat.le_of_ble_eq_true rfl) dL_law_785 ⟨by decide, by decide⟩ (fun H locs hG => ?_)
                                refine lv_istore (lv' := [(6, .int (oI (fMatched w x9))), (5, .int (nI x9)), (3, .long (fDig v)), (2, .int (nI ac)), (1, .ref (a 0)), (0, .ref b)]) hx hb dL_law_788 hl (by decide) rfl (fun ls hl => ?_)
                                refine lv_iload hx hb dL_law_790 (lv_at hl 0 rfl) ?_
                                refine bo_lt (tgt := 808) hx hb (fun j9 e9 => by have := (L_matched hW (by omega) (x := x9) (by omega) e9).1; omega) dL_law_792 (by decide) (fun h792 => ?_) (fun h792 => ?_)
                                · refine lv_iconst (v := nI 0) hx hb dL_law_808 (by decide) ?_
                                  refine lv_istore (lv' := [(7, .int (nI 0)), (6, .int (oI (fMatched w x9))), (5, .int (nI x9)), (3, .long (fDig v)), (2, .int (nI ac)), (1, .ref (a 0)), (0, .ref b)]) hx hb dL_law_809 hl (by decide) rfl (fun ls hl => ?_)
                                  refine lv_iconst (v := nI 0) hx hb dL_law_811 (by decide) ?_
                                  refine lv_istore (lv' := [(8, .int (nI 0)), (7, .int (nI 0)), (6, .int (oI (fMatched w x9))), (5, .int (nI x9)), (3, .long (fDig v)), (2, .int (nI ac)), (1, .ref (a 0)), (0, .ref b)]) hx hb dL_law_812 hl (by decide) rfl (fun ls hl => ?_)
                                  refine lv_iload hx hb dL_law_814 (lv_at hl 2 rfl) ?_
                                  refine bo_lt (tgt := 863) hx hb (fun j9 e9 => by have := (L_matched hW (by omega) (x := x9) (by omega) e9).1; omega) dL_law_816 (by decide) (fun h816 => ?_) (fun h816 => (show False from (h816 h792)).elim)
                                  refine lv_iload hx hb dL_law_863 (lv_at hl 1 rfl) ?_
                                  
                                  refine lv_iload hx hb dL_law_865 (lv_at hl 2 rfl) ?_
                                  refine bo_lt (tgt := 874) hx hb (fun j9 e9 => by have := (L_matched hW (by omega) (x := x9) (by omega) e9).1; omega) dL_law_867 (by decide) (fun h867 => ?_) (fun h867 => (show False from (h867 h792)).elim)
                                  refine lv_iconst (v := nI 0) hx hb dL_law_874 (by decide) ?_
                                  refine bn_eq_t (tgt := 880) hx hb (by omega) (by omega) dL_law_875 (by decide) (rfl) ?_
                                  refine lv_iinc (v := (nI (x9 + 1))) (lv' := [(5, .int (nI (x9 + 1))), (8, .int (nI 0)), (7, .int (nI 0)), (6, .int (oI (fMatched w x9))), (3, .long (fDig v)), (2, .int (nI ac)), (1, .ref (a 0)), (0, .ref b)]) hx hb dL_law_880 hl (k := 3) rfl (nI_1 _) (by decide) rfl (fun ls hl => ?_)
                                  refine lv_goto (tgt := 772) hx hb dL_law_883 (by decide) ?_
                                  exact ih772  (x9 + 1) (by omega) (by omega) H locs hG ls (lv_sub hl [0, 4, 5, 6, 7] rfl)
                                · obtain ⟨e9, ee⟩ := Option.ne_none_iff_exists'.mp h792
                                  have ⟨hm1, hm2, hm3⟩ := L_matched hW (by omega) (x := x9) (by omega) ee
                                  have hm4 := hW.1.ent hm1
                                  have hl : lv_has ls 20 [(6, .int (nI e9)), (5, .int (nI x9)), (3, .long (fDig v)), (2, .int (nI ac)), (1, .ref (a 0)), (0, .ref b)] := by rw [ee] at hl; exact hl
                                  refine lv_aload_n hx hb dL_law_795 rfl (lv_at hl 4 rfl) ?_
                                  refine lv_iload hx hb dL_law_796 (lv_at hl 0 rfl) ?_
                                  refine lv_iconst (v := nI 3) hx hb dL_law_798 (by decide) ?_
                                  refine k_T_ofEntry hC hG e9 3 (hW.1) (hm1) (by omega) w252 ⟨by decide, by decide⟩ hl.1 (Nat.le_of_ble_eq_true rfl) dL_law_799 ⟨by decide, by decide⟩ (fun H locs hG => ?_)
                                  refine lv_iconst (v := nI 1) hx hb dL_law_802 (by decide) ?_
                                  refine bn_ne_t (tgt := 808) hx hb (by omega) (by omega) dL_law_803 (by decide) (by omega) ?_
                                  refine lv_iconst (v := nI 0) hx hb dL_law_808 (by decide) ?_
                                  refine lv_istore (lv' := [(7, .int (nI 0)), (6, .int (nI e9)), (5, .int (nI x9)), (3, .long (fDig v)), (2, .int (nI ac)), (1, .ref (a 0)), (0, .ref b)]) hx hb dL_law_809 hl (by decide) rfl (fun ls hl => ?_)
                                  refine lv_iconst (v := nI 0) hx hb dL_law_811 (by decide) ?_
                                  refine lv_istore (lv' := [(8, .int (nI 0)), (7, .int (nI 0)), (6, .int (nI e9)), (5, .int (nI x9)), (3, .long (fDig v)), (2, .int (nI ac)), (1, .ref (a 0)), (0, .ref b)]) hx hb dL_law_812 hl (by decide) rfl (fun ls hl => ?_)
                                  have lp814 : ∀ (n : Nat) (g : Nat), J_legsOf w e9 - g < n → (g ≤ J_legsOf w e9) → ∀ (H : Heap) (locs : List Loc), GW D κ a w (fun q : Nat => s.heap.size ≤ q) s H locs → ∀ ls : Array Slot, lv_has ls 20 [(8, .int (nI g)), (7, .int (bI (fHas w e9 x9 g))), (6, .int (nI e9)), (5, .int (nI x9)), (3, .long (fDig v)), (2, .int (nI ac)), (1, .ref (a 0)), (0, .ref b)] → W p l e room_1 s m #[Value.ref b] below meth c H locs 45 4524 (lw_Z below #[Value.ref b] s) (F0 m 814 ls []) := by
                                    intro n
                                    induction n with
                                    | zero =>
                                      intro g hm
                                      exact absurd hm (Nat.not_lt_zero _)
                                    | succ n ih814 =>
                                      intro g hm814 c814_1 H locs hG ls hl
                                      refine lv_iload hx hb dL_law_814 (lv_at hl 2 rfl) ?_
                                      refine bz_lt_f (tgt := 863) hx hb (by omega) dL_law_816 (by decide) ?_
                                      refine lv_iload hx hb dL_law_819 (lv_at hl 0 rfl) ?_
                                      refine lv_aload_n hx hb dL_law_821 rfl (lv_at hl 6 rfl) ?_
                                      refine lv_iload hx hb dL_law_822 (lv_at hl 2 rfl) ?_
                                      refine lv_iconst (v := nI 2) hx hb dL_law_824 (by decide) ?_
                                      refine k_T_ofEntry hC hG e9 2 (hW.1) (hm1) (by omega) w252 ⟨by decide, by decide⟩ hl.1 (Nat.le_of_ble_eq_true rfl) dL_law_825 ⟨by decide, by decide⟩ (fun H locs hG => ?_)
                                      refine W.eq (g2 := F0 m 828 ls [.int (nI (J_legsOf w e9)), .int (nI g)]) rfl ?_
                                      refine bn_ge (tgt := 863) hx hb (by omega) (by omega) dL_law_828 (by decide) (fun h828 => ?_) (fun h828 => ?_)
                                      · refine lv_iload hx hb dL_law_863 (lv_at hl 1 rfl) ?_
                                        have hfull : fHas w e9 x9 g = true := by obtain ⟨g9, a1, a2⟩ := hm3; exact fHas_up w e9 x9 g9 a2 g (by omega)
                                        refine lv_iload hx hb dL_law_865 (lv_at hl 2 rfl) ?_
                                        refine bz_lt_f (tgt := 874) hx hb (by omega) dL_law_867 (by decide) ?_
                                        refine lv_iconst (v := nI 1) hx hb dL_law_870 (by decide) ?_
                                        refine lv_goto (tgt := 875) hx hb dL_law_871 (by decide) ?_
                                        refine lv_icmp_eq (tgt := 880) hx hb dL_law_875 (by decide) (fun h875 => ?_) (fun h875 => absurd (by rw [hfull]; rfl) h875)
                                        refine lv_iinc (v := (nI (x9 + 1))) (lv' := [(5, .int (nI (x9 + 1))), (8, .int (nI g)), (7, .int (bI (fHas w e9 x9 g))), (6, .int (nI e9)), (3, .long (fDig v)), (2, .int (nI ac)), (1, .ref (a 0)), (0, .ref b)]) hx hb dL_law_880 hl (k := 3) rfl (nI_1 _) (by decide) rfl (fun ls hl => ?_)
                                        refine lv_goto (tgt := 772) hx hb dL_law_883 (by decide) ?_
                                        exact ih772  (x9 + 1) (by omega) (by omega) H locs hG ls (lv_sub hl [0, 4, 5, 6, 7] rfl)
                                      · refine lv_iload hx hb dL_law_831 (lv_at hl 1 rfl) ?_
                                        refine lv_aload_n hx hb dL_law_833 rfl (lv_at hl 6 rfl) ?_
                                        refine lv_iload hx hb dL_law_834 (lv_at hl 2 rfl) ?_
                                        refine lv_iload hx hb dL_law_836 (lv_at hl 0 rfl) ?_
                                        refine lv_iconst (v := nI 3) hx hb dL_law_838 (by decide) ?_
                                        refine k_T_ofLeg hC hG e9 g 3 (hW.1) (hm1) (by omega) (by omega) w268 ⟨by decide, by decide⟩ hl.1 (Nat.le_of_ble_eq_true rfl) dL_law_839 ⟨by decide, by decide⟩ (fun H locs hG => ?_)
                                        refine lv_iload hx hb dL_law_842 (lv_at hl 3 rfl) ?_
                                        refine lv_i2l hx hb dL_law_844 rfl ?_
                                        refine bl_ne (tgt := 853) hx hb dL_law_845 dL_law_846 (by decide) (fun h845 => ?_) (fun h845 => ?_)
                                        · refine lv_iconst (v := nI 0) hx hb dL_law_853 (by decide) ?_
                                          refine W.eq (g2 := F0 m 854 ls [.int (bI false), .int (bI (fHas w e9 x9 g))]) rfl ?_
                                          refine ar_ior hx hb dL_law_854 ?_
                                          refine lv_istore (lv' := [(7, .int (bI (fHas w e9 x9 g || false))), (8, .int (nI g)), (6, .int (nI e9)), (5, .int (nI x9)), (3, .long (fDig v)), (2, .int (nI ac)), (1, .ref (a 0)), (0, .ref b)]) hx hb dL_law_855 hl (by decide) rfl (fun ls hl => ?_)
                                          refine lv_iinc (v := (nI (g + 1))) (lv' := [(8, .int (nI (g + 1))), (7, .int (bI (fHas w e9 x9 g || false))), (6, .int (nI e9)), (5, .int (nI x9)), (3, .long (fDig v)), (2, .int (nI ac)), (1, .ref (a 0)), (0, .ref b)]) hx hb dL_law_857 hl (k := 1) rfl (nI_1 _) (by decide) rfl (fun ls hl => ?_)
                                          refine lv_goto (tgt := 814) hx hb dL_law_860 (by decide) ?_
                                          have e814_1 : fHas w e9 x9 (g + 1) = (fHas w e9 x9 g || false) := by rw [fHas]; first | rw [decide_eq_true h845] | rw [decide_eq_false h845]
                                          have hl : lv_has ls 20 [(8, .int (nI (g + 1))), (7, .int (bI (fHas w e9 x9 (g + 1)))), (6, .int (nI e9)), (5, .int (nI x9)), (3, .long (fDig v)), (2, .int (nI ac)), (1, .ref (a 0)), (0, .ref b)] := by rw [e814_1]; exact hl
                                          exact ih814  (g + 1) (by omega) (by omega) H locs hG ls (lv_sub hl [0, 1, 2, 3, 4, 5, 6, 7] rfl)
                                        · refine lv_iconst (v := nI 1) hx hb dL_law_849 (by decide) ?_
                                          refine lv_goto (tgt := 854) hx hb dL_law_850 (by decide) ?_
                                          refine W.eq (g2 := F0 m 854 ls [.int (bI true), .int (bI (fHas w e9 x9 g))]) rfl ?_
                                          refine ar_ior hx hb dL_law_854 ?_
                                          refine lv_istore (lv' := [(7, .int (bI (fHas w e9 x9 g || true))), (8, .int (nI g)), (6, .int (nI e9)), (5, .int (nI x9)), (3, .long (fDig v)), (2, .int (nI ac)), (1, .ref (a 0)), (0, .ref b)]) hx hb dL_law_855 hl (by decide) rfl (fun ls hl => ?_)
                                          refine lv_iinc (v := (nI (g + 1))) (lv' := [(8, .int (nI (g + 1))), (7, .int (bI (fHas w e9 x9 g || true))), (6, .int (nI e9)), (5, .int (nI x9)), (3, .long (fDig v)), (2, .int (nI ac)), (1, .ref (a 0)), (0, .ref b)]) hx hb dL_law_857 hl (k := 1) rfl (nI_1 _) (by decide) rfl (fun ls hl => ?_)
                                          refine lv_goto (tgt := 814) hx hb dL_law_860 (by decide) ?_
                                          have e814_2 : fHas w e9 x9 (g + 1) = (fHas w e9 x9 g || true) := by rw [fHas]; first | rw [decide_eq_true h845] | rw [decide_eq_false h845]
                                          have hl : lv_has ls 20 [(8, .int (nI (g + 1))), (7, .int (bI (fHas w e9 x9 (g + 1)))), (6, .int (nI e9)), (5, .int (nI x9)), (3, .long (fDig v)), (2, .int (nI ac)), (1, .ref (a 0)), (0, .ref b)] := by rw [e814_2]; exact hl
                                          exact ih814  (g + 1) (by omega) (by omega) H locs hG ls (lv_sub hl [0, 1, 2, 3, 4, 5, 6, 7] rfl)
                                  have e814_3 : fHas w e9 x9 0 = false := by rfl
                                  have hl : lv_has ls 20 [(8, .int (nI 0)), (7, .int (bI (fHas w e9 x9 0))), (6, .int (nI e9)), (5, .int (nI x9)), (3, .long (fDig v)), (2, .int (nI ac)), (1, .ref (a 0)), (0, .ref b)] := by rw [e814_3]; exact hl
                                  exact lp814 _ 0 (Nat.lt_succ_self _) (by omega) H locs hG ls (lv_sub hl [0, 1, 2, 3, 4, 5, 6, 7] rfl)
                          exact lp772 _ 0 (Nat.lt_succ_self _) (by omega) H locs hG ls (lv_sub hl [0, 1, 2, 3, 4] rfl)
                        · refine lv_aload_n hx hb dL_law_653 rfl (lv_at hl 3 rfl) ?_
                          refine lv_iload hx hb dL_law_654 (lv_at hl 0 rfl) ?_
                          refine lv_sipush (v := nI 364) hx hb dL_law_656 (by decide) ?_
                          refine k_T_at hC hG k 364 (hW.1) (by omega) (by omega) w512 ⟨by decide, by decide⟩ hl.1 (Nat.le_of_ble_eq_true rfl) dL_law_659 ⟨by decide, by decide⟩ (fun H locs hG => ?_)
                          refine lv_aload_n hx hb dL_law_662 rfl (lv_at hl 3 rfl) ?_
                          refine lv_iload hx hb dL_law_663 (lv_at hl 0 rfl) ?_
                          refine lv_iconst (v := nI 0) hx hb dL_law_665 (by decide) ?_
                          refine k_T_told hC hG k 0 (hW.1) (by omega) (by omega) w516 ⟨by decide, by decide⟩ hl.1 (Nat.le_of_ble_eq_true rfl) dL_law_666 ⟨by decide, by decide⟩ (fun H locs hG => ?_)
                          refine bl_ne (tgt := 761) hx hb dL_law_669 dL_law_670 (by decide) (fun h669 => absurd (rfl) h669) (fun h669 => ?_)
                          refine lv_aload_n hx hb dL_law_673 rfl (lv_at hl 3 rfl) ?_
                          refine lv_iload hx hb dL_law_674 (lv_at hl 0 rfl) ?_
                          refine lv_iconst (v := nI 4) hx hb dL_law_676 (by decide) ?_
                          refine k_T_told hC hG k 4 (hW.1) (by omega) (by omega) w516 ⟨by decide, by decide⟩ hl.1 (Nat.le_of_ble_eq_true rfl) dL_law_677 ⟨by decide, by decide⟩ (fun H locs hG => ?_)
                          refine lv_aload_n hx hb dL_law_680 rfl (lv_at hl 3 rfl) ?_
                          refine lv_iload hx hb dL_law_681 (lv_at hl 0 rfl) ?_
                          refine lv_iconst (v := nI 1) hx hb dL_law_683 (by decide) ?_
                          refine k_T_told hC hG k 1 (hW.1) (by omega) (by omega) w516 ⟨by decide, by decide⟩ hl.1 (Nat.le_of_ble_eq_true rfl) dL_law_684 ⟨by decide, by decide⟩ (fun H locs hG => ?_)
                          refine lv_aload_n hx hb dL_law_687 rfl (lv_at hl 3 rfl) ?_
                          refine lv_iload hx hb dL_law_688 (lv_at hl 0 rfl) ?_
                          refine lv_iconst (v := nI 3) hx hb dL_law_690 (by decide) ?_
                          refine k_T_told hC hG k 3 (hW.1) (by omega) (by omega) w516 ⟨by decide, by decide⟩ hl.1 (Nat.le_of_ble_eq_true rfl) dL_law_691 ⟨by decide, by decide⟩ (fun H locs hG => ?_)
                          refine lv_lsub hx hb dL_law_694 ?_
                          refine bl_ne (tgt := 761) hx hb dL_law_695 dL_law_696 (by decide) (fun h695 => absurd (rfl) h695) (fun h695 => ?_)
                          refine lv_aload_n hx hb dL_law_699 rfl (lv_at hl 3 rfl) ?_
                          refine lv_iload hx hb dL_law_700 (lv_at hl 0 rfl) ?_
                          refine lv_iconst (v := nI 0) hx hb dL_law_702 (by decide) ?_
                          refine k_T_told hC hG k 0 (hW.1) (by omega) (by omega) w516 ⟨by decide, by decide⟩ hl.1 (Nat.le_of_ble_eq_true rfl) dL_law_703 ⟨by decide, by decide⟩ (fun H locs hG => ?_)
                          refine va_mabs_long hx hb (hC.2.2.1.trans hl.1.symm) hC.2.2.2.1 (hC.2.2.2.2 _ w3) (hC.2.2.2.2 _ w4) (hC.2.2.2.2 _ w5) (hC.2.2.2.2 _ w6) (by decide) (Nat.le_of_ble_eq_true rfl) (by decide) (by decide) dL_law_706 ?_
                          refine W.eq (g2 := F0 m 709 ls [.long (absL (fTold w k 0))]) rfl ?_
                          refine lv_aload_n hx hb dL_law_709 rfl (lv_at hl 3 rfl) ?_
                          refine lv_iload hx hb dL_law_710 (lv_at hl 0 rfl) ?_
                          refine lv_iconst (v := nI 1) hx hb dL_law_712 (by decide) ?_
                          refine k_T_told hC hG k 1 (hW.1) (by omega) (by omega) w516 ⟨by decide, by decide⟩ hl.1 (Nat.le_of_ble_eq_true rfl) dL_law_713 ⟨by decide, by decide⟩ (fun H locs hG => ?_)
                          refine va_mabs_long hx hb (hC.2.2.1.trans hl.1.symm) hC.2.2.2.1 (hC.2.2.2.2 _ w3) (hC.2.2.2.2 _ w4) (hC.2.2.2.2 _ w5) (hC.2.2.2.2 _ w6) (by decide) (Nat.le_of_ble_eq_true rfl) (by decide) (by decide) dL_law_716 ?_
                          refine W.eq (g2 := F0 m 719 ls [.long (absL (fTold w k 1)), .long (absL (fTold w k 0))]) rfl ?_
                          refine bl_ne (tgt := 761) hx hb dL_law_719 dL_law_720 (by decide) (fun h719 => absurd (L_abs) h719) (fun h719 => ?_)
                          refine lv_aload_n hx hb dL_law_723 rfl (lv_at hl 3 rfl) ?_
                          refine lv_iload hx hb dL_law_724 (lv_at hl 0 rfl) ?_
                          refine lv_sipush (v := nI 364) hx hb dL_law_726 (by decide) ?_
                          refine k_T_hadOn hC hG k 364 (hW.1) (by omega) (by omega) (by omega) w517 ⟨by decide, by decide⟩ hl.1 (Nat.le_of_ble_eq_true rfl) dL_law_729 ⟨by decide, by decide⟩ (fun H locs hG => ?_)
                          refine lv_aload_n hx hb dL_law_732 rfl (lv_at hl 3 rfl) ?_
                          refine lv_iload hx hb dL_law_733 (lv_at hl 0 rfl) ?_
                          refine lv_iconst (v := nI 4) hx hb dL_law_735 (by decide) ?_
                          refine k_T_told hC hG k 4 (hW.1) (by omega) (by omega) w516 ⟨by decide, by decide⟩ hl.1 (Nat.le_of_ble_eq_true rfl) dL_law_736 ⟨by decide, by decide⟩ (fun H locs hG => ?_)
                          refine bl_lt (tgt := 761) hx hb dL_law_739 dL_law_740 (by decide) (fun h739 => absurd h739 (by rw [show fTold w k 4 = fStO w k - 0 from rfl]; exact Int64.lt_irrefl)) (fun h739 => ?_)
                          refine lv_aload_n hx hb dL_law_743 rfl (lv_at hl 3 rfl) ?_
                          refine lv_iload hx hb dL_law_744 (lv_at hl 0 rfl) ?_
                          refine lv_iconst (v := nI 1) hx hb dL_law_746 (by decide) ?_
                          refine k_T_left hC hG k 1 (hW.1) (by omega) (by omega) w377 ⟨by decide, by decide⟩ hl.1 (Nat.le_of_ble_eq_true rfl) dL_law_747 ⟨by decide, by decide⟩ (fun H locs hG => ?_)
                          refine lv_aload_n hx hb dL_law_750 rfl (lv_at hl 3 rfl) ?_
                          refine lv_iload hx hb dL_law_751 (lv_at hl 0 rfl) ?_
                          refine lv_iconst (v := nI 0) hx hb dL_law_753 (by decide) ?_
                          refine k_T_left hC hG k 0 (hW.1) (by omega) (by omega) w377 ⟨by decide, by decide⟩ hl.1 (Nat.le_of_ble_eq_true rfl) dL_law_754 ⟨by decide, by decide⟩ (fun H locs hG => ?_)
                          refine bl_le (tgt := 763) hx hb dL_law_757 dL_law_758 (by decide) (fun h757 => ?_) (fun h757 => absurd (L_left hW (by omega)) h757)
                          refine lv_iinc (v := (nI (k + 1))) (lv' := [(5, .int (nI (k + 1))), (3, .long (fDig v)), (2, .int (nI ac)), (1, .ref (a 0)), (0, .ref b)]) hx hb dL_law_763 hl (k := 0) rfl (nI_1 _) (by decide) rfl (fun ls hl => ?_)
                          refine lv_goto (tgt := 647) hx hb dL_law_766 (by decide) ?_
                          exact ih647  (k + 1) (by omega) (by omega) H locs hG ls (lv_sub hl [0, 1, 2, 3, 4] rfl)
                    exact lp647 _ 0 (Nat.lt_succ_self _) (by omega) H locs hG ls (lv_sub hl [0, 1, 2, 3, 4] rfl)
                  · have jn595 : ∀ (v1 : TS), (INV ac (i + 1) v1) → ∀ (H : Heap) (locs : List Loc), GW D κ a v1 (fun q : Nat => s.heap.size ≤ q) s H locs → ∀ ls : Array Slot, lv_has ls 20 [(3, .int (nI i)), (2, .int (nI ac)), (1, .ref (a 0)), (0, .ref b)] → W p l e room_1 s m #[Value.ref b] below meth c H locs 45 4524 (lw_Z below #[Value.ref b] s) (F0 m 595 ls []) := by
                      intro v1 hj595 H locs hG ls hl
                      refine lv_lconst (v := 0) hx hb dL_law_595 (by decide) ?_
                      refine lv_lstore (lv' := [(8, .long (0 : Int64)), (3, .int (nI i)), (2, .int (nI ac)), (1, .ref (a 0)), (0, .ref b)]) hx hb dL_law_596 hl (by decide) rfl (fun ls hl => ?_)
                      refine lv_iconst (v := nI 0) hx hb dL_law_598 (by decide) ?_
                      refine lv_istore (lv' := [(10, .int (nI 0)), (8, .long (0 : Int64)), (3, .int (nI i)), (2, .int (nI ac)), (1, .ref (a 0)), (0, .ref b)]) hx hb dL_law_599 hl (by decide) rfl (fun ls hl => ?_)
                      have lp601 : ∀ (n : Nat) (kd : Nat), 5 - kd < n → (kd ≤ 5) → ∀ (H : Heap) (locs : List Loc), GW D κ a v1 (fun q : Nat => s.heap.size ≤ q) s H locs → ∀ ls : Array Slot, lv_has ls 20 [(10, .int (nI kd)), (8, .long (fSum (fun kq => fKind v1 kq (AC_count v1)) kd)), (3, .int (nI i)), (2, .int (nI ac)), (1, .ref (a 0)), (0, .ref b)] → W p l e room_1 s m #[Value.ref b] below meth c H locs 45 4524 (lw_Z below #[Value.ref b] s) (F0 m 601 ls []) := by
                        intro n
                        induction n with
                        | zero =>
                          intro kd hm
                          exact absurd hm (Nat.not_lt_zero _)
                        | succ n ih601 =>
                          intro kd hm601 c601_1 H locs hG ls hl
                          refine lv_iload hx hb dL_law_601 (lv_at hl 0 rfl) ?_
                          refine lv_iconst (v := nI 5) hx hb dL_law_603 (by decide) ?_
                          have ⟨y1, y2, y3, y4, y5, y6, y7⟩ := hj595.2.1
                          refine bn_ge (tgt := 624) hx hb (by omega) (by omega) dL_law_604 (by decide) (fun h604 => ?_) (fun h604 => ?_)
                          · refine lv_lload hx hb dL_law_624 (lv_at hl 1 rfl) ?_
                            refine lv_lconst (v := 0) hx hb dL_law_626 (by decide) ?_
                            refine bl_eq (tgt := 633) hx hb dL_law_627 dL_law_628 (by decide) (fun h627 => ?_) (fun h627 => absurd (by rw [show kd = 5 by omega]; exact L_kinds hj595 (by omega)) h627)
                            refine lv_iinc (v := (nI (i + 1))) (lv' := [(3, .int (nI (i + 1))), (10, .int (nI kd)), (8, .long (fSum (fun kq => fKind v1 kq (AC_count v1)) kd)), (2, .int (nI ac)), (1, .ref (a 0)), (0, .ref b)]) hx hb dL_law_633 hl (k := 2) rfl (nI_1 _) (by decide) rfl (fun ls hl => ?_)
                            refine lv_goto (tgt := 124) hx hb dL_law_636 (by decide) ?_
                            exact ih124  (i + 1) v1 (by omega) (by omega) (hj595) H locs hG ls (lv_sub hl [0, 3, 4, 5] rfl)
                          · refine lv_lload hx hb dL_law_607 (lv_at hl 1 rfl) ?_
                            refine lv_aload_n hx hb dL_law_609 rfl (lv_at hl 4 rfl) ?_
                            refine lv_iload hx hb dL_law_610 (lv_at hl 0 rfl) ?_
                            refine k_T_ofKind hC hG kd (hj595.1) (by omega) w462 ⟨by decide, by decide⟩ hl.1 (Nat.le_of_ble_eq_true rfl) dL_law_612 ⟨by decide, by decide⟩ (fun H locs hG => ?_)
                            refine lv_ladd hx hb dL_law_615 ?_
                            refine lv_lstore (lv' := [(8, .long (fSum (fun kq => fKind v1 kq (AC_count v1)) kd + (fKind v1 kd (AC_count v1)))), (10, .int (nI kd)), (3, .int (nI i)), (2, .int (nI ac)), (1, .ref (a 0)), (0, .ref b)]) hx hb dL_law_616 hl (by decide) rfl (fun ls hl => ?_)
                            refine lv_iinc (v := (nI (kd + 1))) (lv' := [(10, .int (nI (kd + 1))), (8, .long (fSum (fun kq => fKind v1 kq (AC_count v1)) kd + (fKind v1 kd (AC_count v1)))), (3, .int (nI i)), (2, .int (nI ac)), (1, .ref (a 0)), (0, .ref b)]) hx hb dL_law_618 hl (k := 1) rfl (nI_1 _) (by decide) rfl (fun ls hl => ?_)
                            refine lv_goto (tgt := 601) hx hb dL_law_621 (by decide) ?_
                            have e601_4 : fSum (fun kq => fKind v1 kq (AC_count v1)) (kd + 1) = (fSum (fun kq => fKind v1 kq (AC_count v1)) kd + (fKind v1 kd (AC_count v1))) := by rfl
                            have hl : lv_has ls 20 [(10, .int (nI (kd + 1))), (8, .long (fSum (fun kq => fKind v1 kq (AC_count v1)) (kd + 1))), (3, .int (nI i)), (2, .int (nI ac)), (1, .ref (a 0)), (0, .ref b)] := by rw [e601_4]; exact hl
                            exact ih601  (kd + 1) (by omega) (by omega) H locs hG ls (lv_sub hl [0, 1, 2, 3, 4, 5] rfl)
                      have e601_5 : fSum (fun kq => fKind v1 kq (AC_count v1)) 0 = (0 : Int64) := by rfl
                      have hl : lv_has ls 20 [(10, .int (nI 0)), (8, .long (fSum (fun kq => fKind v1 kq (AC_count v1)) 0)), (3, .int (nI i)), (2, .int (nI ac)), (1, .ref (a 0)), (0, .ref b)] := by rw [e601_5]; exact hl
                      exact lp601 _ 0 (Nat.lt_succ_self _) (by omega) H locs hG ls (lv_sub hl [0, 1, 2, 3, 4, 5] rfl)
                    refine lv_aload_n hx hb dL_law_130 rfl (lv_at hl 3 rfl) ?_
                    refine lv_iload_n hx hb dL_law_131 rfl (lv_at hl 0 rfl) ?_
                    refine lv_bipush (v := nI 16) hx hb dL_law_132 (by decide) ?_
                    refine ar_irem hx hb (by omega) (by decide) (by decide) dL_law_134 ?_
                    refine k_cell hC hG hX hbl hbA (by omega) (by omega) w111 w113 ⟨by decide, by decide⟩ hl.1 (Nat.le_of_ble_eq_true rfl) dL_law_135 ⟨by decide, by decide⟩ (fun x135 H locs hG => ?_)
                    refine lv_iload_n hx hb dL_law_138 rfl (lv_at hl 0 rfl) ?_
                    refine lv_bipush (v := nI 16) hx hb dL_law_139 (by decide) ?_
                    refine ar_idiv hx hb (by omega) (by decide) (by decide) dL_law_141 ?_
                    refine lv_iconst (v := nI 3) hx hb dL_law_142 (by decide) ?_
                    refine ar_imul hx hb dL_law_143 ?_
                    refine lv_ishr hx hb dL_law_144 ?_
                    refine lv_topi (fun x144 ex144 => ?_)
                    refine lv_iconst (v := nI 5) hx hb dL_law_145 (by decide) ?_
                    refine lv_iload_n hx hb dL_law_146 rfl (lv_at hl 0 rfl) ?_
                    refine ar_imul hx hb dL_law_147 ?_
                    refine lv_iadd hx hb dL_law_148 ?_
                    refine lv_topi (fun x148 ex148 => ?_)
                    refine lv_istore (lv' := [(4, .int x148), (3, .int (nI i)), (2, .int (nI ac)), (1, .ref (a 0)), (0, .ref b)]) hx hb dL_law_149 hl (by decide) rfl (fun ls hl => ?_)
                    refine lv_iload hx hb dL_law_151 (lv_at hl 0 rfl) ?_
                    refine lv_iconst (v := nI 3) hx hb dL_law_153 (by decide) ?_
                    refine lv_ishr hx hb dL_law_154 ?_
                    refine lv_topi (fun x154 ex154 => ?_)
                    refine lv_iload_n hx hb dL_law_155 rfl (lv_at hl 2 rfl) ?_
                    refine k_S_below (n := ac) hC hG (by omega) (by omega) w116 w113 ⟨by decide, by decide⟩ hl.1 (Nat.le_of_ble_eq_true rfl) dL_law_156 ⟨by decide, by decide⟩ (fun b156 hb156 H locs hG => ?_)
                    refine lv_istore (lv' := [(5, .int (nI b156)), (4, .int x148), (3, .int (nI i)), (2, .int (nI ac)), (1, .ref (a 0)), (0, .ref b)]) hx hb dL_law_159 hl (by decide) rfl (fun ls hl => ?_)
                    refine lv_iload hx hb dL_law_161 (lv_at hl 1 rfl) ?_
                    refine lv_iconst (v := nI 5) hx hb dL_law_163 (by decide) ?_
                    refine lv_ishr hx hb dL_law_164 ?_
                    refine lv_topi (fun x164 ex164 => ?_)
                    refine lv_iload_n hx hb dL_law_165 rfl (lv_at hl 3 rfl) ?_
                    refine k_S_below (n := ac) hC hG (by omega) (by omega) w116 w113 ⟨by decide, by decide⟩ hl.1 (Nat.le_of_ble_eq_true rfl) dL_law_166 ⟨by decide, by decide⟩ (fun b166 hb166 H locs hG => ?_)
                    refine lv_istore (lv' := [(6, .int (nI b166)), (5, .int (nI b156)), (4, .int x148), (3, .int (nI i)), (2, .int (nI ac)), (1, .ref (a 0)), (0, .ref b)]) hx hb dL_law_169 hl (by decide) rfl (fun ls hl => ?_)
                    refine lv_iconst (v := nI 0) hx hb dL_law_171 (by decide) ?_
                    refine lv_istore (lv' := [(7, .int (nI 0)), (6, .int (nI b166)), (5, .int (nI b156)), (4, .int x148), (3, .int (nI i)), (2, .int (nI ac)), (1, .ref (a 0)), (0, .ref b)]) hx hb dL_law_172 hl (by decide) rfl (fun ls hl => ?_)
                    refine lv_iload hx hb dL_law_174 (lv_at hl 3 rfl) ?_
                    refine lv_bipush (v := nI 9) hx hb dL_law_176 (by decide) ?_
                    refine k_S_below (n := 9) hC hG (by omega) (by omega) w116 w113 ⟨by decide, by decide⟩ hl.1 (Nat.le_of_ble_eq_true rfl) dL_law_178 ⟨by decide, by decide⟩ (fun b178 hb178 H locs hG => ?_)
                    rcases (show b178 = 0 ∨ b178 = 1 ∨ b178 = 2 ∨ b178 = 3 ∨ b178 = 4 ∨ 5 ≤ b178 from by omega) with h181 | h181 | h181 | h181 | h181 | h181
                    · refine bt_in (v := 0) (off := 35) (tgt := 216) h181 hx hb dL_law_181 (by decide) (by decide) (by decide) (by decide) ?_
                      refine lv_aload_n hx hb dL_law_216 rfl (lv_at hl 6 rfl) ?_
                      refine lv_iload hx hb dL_law_217 (lv_at hl 3 rfl) ?_
                      refine lv_iconst (v := nI 2) hx hb dL_law_219 (by decide) ?_
                      refine lv_ishr hx hb dL_law_220 ?_
                      refine lv_topi (fun x220 ex220 => ?_)
                      refine lv_bipush (v := nI 6) hx hb dL_law_221 (by decide) ?_
                      refine k_S_below (n := 6) hC hG (by omega) (by omega) w116 w113 ⟨by decide, by decide⟩ hl.1 (Nat.le_of_ble_eq_true rfl) dL_law_223 ⟨by decide, by decide⟩ (fun b223 hb223 H locs hG => ?_)
                      refine k_T_pass hC hG b223 (hI.1) (by omega) w154 ⟨by decide, by decide⟩ hl.1 (Nat.le_of_ble_eq_true rfl) dL_law_226 ⟨by decide, by decide⟩ (fun H locs hG => ?_)
                      refine lv_pop hx hb dL_law_229 rfl ?_
                      have hN : INV ac (i + 1) (sN v 0 (T_today v + b223)) := L_pass hI (by omega) (by omega)
                      refine lv_goto (tgt := 595) hx hb dL_law_230 (by decide) ?_
                      exact jn595 _ hN H locs hG ls (lv_sub hl [4, 5, 6, 7] rfl)
                    · refine bt_in (v := 1) (off := 52) (tgt := 233) h181 hx hb dL_law_181 (by decide) (by decide) (by decide) (by decide) ?_
                      refine lv_iload hx hb dL_law_233 (lv_at hl 3 rfl) ?_
                      refine lv_iconst (v := nI 2) hx hb dL_law_235 (by decide) ?_
                      refine lv_ishr hx hb dL_law_236 ?_
                      refine lv_topi (fun x236 ex236 => ?_)
                      refine lv_aload_n hx hb dL_law_237 rfl (lv_at hl 6 rfl) ?_
                      refine lv_iconst (v := nI 4) hx hb dL_law_238 (by decide) ?_
                      refine k_T_many hC hG 4 (hI.1) (by omega) w158 ⟨by decide, by decide⟩ hl.1 (Nat.le_of_ble_eq_true rfl) dL_law_239 ⟨by decide, by decide⟩ (fun H locs hG => ?_)
                      refine W.eq (g2 := F0 m 242 ls [.int (nI (T_today v)), .int x236]) rfl ?_
                      refine lv_iconst (v := nI 1) hx hb dL_law_242 (by decide) ?_
                      refine ar_iadd hx hb dL_law_243 ?_
                      refine k_S_below (n := ((T_today v) + 1)) hC hG (by omega) (by omega) w116 w113 ⟨by decide, by decide⟩ hl.1 (Nat.le_of_ble_eq_true rfl) dL_law_244 ⟨by decide, by decide⟩ (fun b244 hb244 H locs hG => ?_)
                      refine lv_istore (lv' := [(8, .int (nI b244)), (7, .int (nI 0)), (6, .int (nI b166)), (5, .int (nI b156)), (4, .int x148), (3, .int (nI i)), (2, .int (nI ac)), (1, .ref (a 0)), (0, .ref b)]) hx hb dL_law_247 hl (by decide) rfl (fun ls hl => ?_)
                      refine lv_iload hx hb dL_law_249 (lv_at hl 0 rfl) ?_
                      refine lv_aload_n hx hb dL_law_251 rfl (lv_at hl 7 rfl) ?_
                      refine lv_iconst (v := nI 5) hx hb dL_law_252 (by decide) ?_
                      refine k_T_many hC hG 5 (hI.1) (by omega) w158 ⟨by decide, by decide⟩ hl.1 (Nat.le_of_ble_eq_true rfl) dL_law_253 ⟨by decide, by decide⟩ (fun H locs hG => ?_)
                      refine W.eq (g2 := F0 m 256 ls [.int (oI (fLock v)), .int (nI b244)]) rfl ?_
                      refine bno_gt (tgt := 262) hx hb (by omega) (fun j9 e9 => by have := fLock_le hI.1 j9 e9; omega) dL_law_256 (by decide) (fun h256 => ?_) (fun h256 => ?_)
                      · obtain ⟨u1, eu1⟩ : ∃ z, z = fPC v b244 (AC_count v) := ⟨_, rfl⟩
                        obtain ⟨u2, eu2⟩ : ∃ z, z = fClose u1 b244 0 := ⟨_, rfl⟩
                        have ⟨⟨r1, r2, r3, r4, r5, r6, r7, r8⟩, ⟨s1, s2⟩, s3, s4, s5, s6⟩ := L_close hI (by omega) (d := b244) (by omega) h256 eu1 eu2
                        have hok1 := hI.1.n
                        refine lv_aload_n hx hb dL_law_262 rfl (lv_at hl 7 rfl) ?_
                        refine lv_iload hx hb dL_law_263 (lv_at hl 0 rfl) ?_
                        refine k_T_wouldClose hC hG b244 (hI.1) (by omega) w183 ⟨by decide, by decide⟩ hl.1 (Nat.le_of_ble_eq_true rfl) dL_law_265 ⟨by decide, by decide⟩ (fun H locs hG => ?_)
                        rw [← eu1] at hG
                        refine lv_lstore (lv' := [(9, .long (fWould v b244)), (8, .int (nI b244)), (7, .int (nI 0)), (6, .int (nI b166)), (5, .int (nI b156)), (4, .int x148), (3, .int (nI i)), (2, .int (nI ac)), (1, .ref (a 0)), (0, .ref b)]) hx hb dL_law_268 hl (by decide) rfl (fun ls hl => ?_)
                        refine lv_aload_n hx hb dL_law_270 rfl (lv_at hl 8 rfl) ?_
                        refine lv_iload hx hb dL_law_271 (lv_at hl 1 rfl) ?_
                        refine lv_iconst (v := nI 0) hx hb dL_law_273 (by decide) ?_
                        refine k_T_close hC hG b244 0 (r1) (by omega) (by omega) (r4) (r5) (r6) (by omega) (by omega) (by omega) w230 ⟨by decide, by decide⟩ hl.1 (Nat.le_of_ble_eq_true rfl) dL_law_274 ⟨by decide, by decide⟩ (fun H locs hG => ?_)
                        rw [← eu2] at hG
                        refine lv_istore (lv' := [(7, .int (nI (J_count u1))), (9, .long (fWould v b244)), (8, .int (nI b244)), (6, .int (nI b166)), (5, .int (nI b156)), (4, .int x148), (3, .int (nI i)), (2, .int (nI ac)), (1, .ref (a 0)), (0, .ref b)]) hx hb dL_law_277 hl (by decide) rfl (fun ls hl => ?_)
                        refine lv_aload_n hx hb dL_law_279 rfl (lv_at hl 8 rfl) ?_
                        refine lv_iload hx hb dL_law_280 (lv_at hl 0 rfl) ?_
                        refine lv_iconst (v := nI 2) hx hb dL_law_282 (by decide) ?_
                        refine k_T_ofEntry hC hG (J_count u1) 2 (s1) (by omega) (by omega) w252 ⟨by decide, by decide⟩ hl.1 (Nat.le_of_ble_eq_true rfl) dL_law_283 ⟨by decide, by decide⟩ (fun H locs hG => ?_)
                        refine W.eq (g2 := F0 m 286 ls [.int (nI (J_legsOf u2 (J_count u1)))]) rfl ?_
                        refine lv_iconst (v := nI 1) hx hb dL_law_286 (by decide) ?_
                        refine lv_isub hx hb dL_law_287 ?_
                        refine W.eq (g2 := F0 m 288 ls [.int (nI (J_legsOf u2 (J_count u1)) - 1)]) rfl ?_
                        refine lv_istore (lv' := [(11, .int (nI (J_legsOf u2 (J_count u1)) - 1)), (7, .int (nI (J_count u1))), (9, .long (fWould v b244)), (8, .int (nI b244)), (6, .int (nI b166)), (5, .int (nI b156)), (4, .int x148), (3, .int (nI i)), (2, .int (nI ac)), (1, .ref (a 0)), (0, .ref b)]) hx hb dL_law_288 hl (by decide) rfl (fun ls hl => ?_)
                        refine lv_lload hx hb dL_law_290 (lv_at hl 2 rfl) ?_
                        refine lv_lconst (v := 0) hx hb dL_law_292 (by decide) ?_
                        refine bl_eq (tgt := 326) hx hb dL_law_293 dL_law_294 (by decide) (fun h293 => ?_) (fun h293 => ?_)
                        · refine lv_aload_n hx hb dL_law_326 rfl (lv_at hl 9 rfl) ?_
                          refine lv_iconst (v := nI 5) hx hb dL_law_327 (by decide) ?_
                          refine k_T_many hC hG 5 (s1) (by omega) w158 ⟨by decide, by decide⟩ hl.1 (Nat.le_of_ble_eq_true rfl) dL_law_328 ⟨by decide, by decide⟩ (fun H locs hG => ?_)
                          have et6 : (fMany u2 5) = (nI b244) := by show oI (fLock u2) = _; rw [s4]; rfl
                          rw [et6]
                          refine lv_iload hx hb dL_law_331 (lv_at hl 3 rfl) ?_
                          refine bn_ne_f (tgt := 347) hx hb (by omega) (by omega) dL_law_333 (by decide) (rfl) ?_
                          refine lv_aload_n hx hb dL_law_336 rfl (lv_at hl 9 rfl) ?_
                          refine lv_iload hx hb dL_law_337 (lv_at hl 3 rfl) ?_
                          refine k_T_wouldClose hC hG b244 (s1) (by omega) w183 ⟨by decide, by decide⟩ hl.1 (Nat.le_of_ble_eq_true rfl) dL_law_339 ⟨by decide, by decide⟩ (fun H locs hG => ?_)
                          refine lv_lconst (v := 0) hx hb dL_law_342 (by decide) ?_
                          have hN := s6
                          refine bl_eq (tgt := 595) hx hb dL_law_343 dL_law_344 (by decide) (fun h343 => ?_) (fun h343 => absurd (s5) h343)
                          exact jn595 _ hN H locs hG ls (lv_sub hl [7, 8, 9, 10] rfl)
                        · have ⟨w1, w2, w3⟩ := s3 (fun q => h293 (by rw [q]))
                          have hl : lv_has ls 20 [(11, .int (nI (J_legsOf u2 (J_count u1) - 1))), (7, .int (nI (J_count u1))), (9, .long (fWould v b244)), (8, .int (nI b244)), (6, .int (nI b166)), (5, .int (nI b156)), (4, .int x148), (3, .int (nI i)), (2, .int (nI ac)), (1, .ref (a 0)), (0, .ref b)] := by rw [show nI (J_legsOf u2 (J_count u1)) - 1 = nI (J_legsOf u2 (J_count u1) - 1) from pk_sub w1] at hl; exact hl
                          refine lv_aload_n hx hb dL_law_297 rfl (lv_at hl 9 rfl) ?_
                          refine lv_iload hx hb dL_law_298 (lv_at hl 1 rfl) ?_
                          refine lv_iload hx hb dL_law_300 (lv_at hl 0 rfl) ?_
                          refine lv_iconst (v := nI 0) hx hb dL_law_302 (by decide) ?_
                          refine k_T_ofLeg hC hG (J_count u1) (J_legsOf u2 (J_count u1) - 1) 0 (s1) (by omega) (by omega) (by omega) w268 ⟨by decide, by decide⟩ hl.1 (Nat.le_of_ble_eq_true rfl) dL_law_303 ⟨by decide, by decide⟩ (fun H locs hG => ?_)
                          refine lv_lconst (v := 0) hx hb dL_law_306 (by decide) ?_
                          refine bl_ne (tgt := 347) hx hb dL_law_307 dL_law_308 (by decide) (fun h307 => absurd (w2) h307) (fun h307 => ?_)
                          refine lv_aload_n hx hb dL_law_311 rfl (lv_at hl 9 rfl) ?_
                          refine lv_iload hx hb dL_law_312 (lv_at hl 1 rfl) ?_
                          refine lv_iload hx hb dL_law_314 (lv_at hl 0 rfl) ?_
                          refine lv_iconst (v := nI 1) hx hb dL_law_316 (by decide) ?_
                          refine k_T_ofLeg hC hG (J_count u1) (J_legsOf u2 (J_count u1) - 1) 1 (s1) (by omega) (by omega) (by omega) w268 ⟨by decide, by decide⟩ hl.1 (Nat.le_of_ble_eq_true rfl) dL_law_317 ⟨by decide, by decide⟩ (fun H locs hG => ?_)
                          refine lv_lload hx hb dL_law_320 (lv_at hl 2 rfl) ?_
                          refine bl_ne (tgt := 347) hx hb dL_law_322 dL_law_323 (by decide) (fun h322 => absurd (w3) h322) (fun h322 => ?_)
                          refine lv_aload_n hx hb dL_law_326 rfl (lv_at hl 9 rfl) ?_
                          refine lv_iconst (v := nI 5) hx hb dL_law_327 (by decide) ?_
                          refine k_T_many hC hG 5 (s1) (by omega) w158 ⟨by decide, by decide⟩ hl.1 (Nat.le_of_ble_eq_true rfl) dL_law_328 ⟨by decide, by decide⟩ (fun H locs hG => ?_)
                          have et7 : (fMany u2 5) = (nI b244) := by show oI (fLock u2) = _; rw [s4]; rfl
                          rw [et7]
                          refine lv_iload hx hb dL_law_331 (lv_at hl 3 rfl) ?_
                          refine bn_ne_f (tgt := 347) hx hb (by omega) (by omega) dL_law_333 (by decide) (rfl) ?_
                          refine lv_aload_n hx hb dL_law_336 rfl (lv_at hl 9 rfl) ?_
                          refine lv_iload hx hb dL_law_337 (lv_at hl 3 rfl) ?_
                          refine k_T_wouldClose hC hG b244 (s1) (by omega) w183 ⟨by decide, by decide⟩ hl.1 (Nat.le_of_ble_eq_true rfl) dL_law_339 ⟨by decide, by decide⟩ (fun H locs hG => ?_)
                          refine lv_lconst (v := 0) hx hb dL_law_342 (by decide) ?_
                          have hN := s6
                          refine bl_eq (tgt := 595) hx hb dL_law_343 dL_law_344 (by decide) (fun h343 => ?_) (fun h343 => absurd (s5) h343)
                          exact jn595 _ hN H locs hG ls (lv_sub hl [7, 8, 9, 10] rfl)
                      · have hN : INV ac (i + 1) v := L_up hI
                        refine lv_goto (tgt := 595) hx hb dL_law_259 (by decide) ?_
                        exact jn595 _ hN H locs hG ls (lv_sub hl [5, 6, 7, 8] rfl)
                    · refine bt_in (v := 2) (off := 168) (tgt := 349) h181 hx hb dL_law_181 (by decide) (by decide) (by decide) (by decide) ?_
                      refine lv_aload_n hx hb dL_law_349 rfl (lv_at hl 6 rfl) ?_
                      refine lv_iconst (v := nI 5) hx hb dL_law_350 (by decide) ?_
                      refine k_T_many hC hG 5 (hI.1) (by omega) w158 ⟨by decide, by decide⟩ hl.1 (Nat.le_of_ble_eq_true rfl) dL_law_351 ⟨by decide, by decide⟩ (fun H locs hG => ?_)
                      refine W.eq (g2 := F0 m 354 ls [.int (oI (fLock v))]) rfl ?_
                      have hN : INV ac (i + 1) v := L_up hI
                      refine bo_lt (tgt := 595) hx hb (fun j9 e9 => by have := fLock_le hI.1 j9 e9; omega) dL_law_354 (by decide) (fun h354 => ?_) (fun h354 => ?_)
                      · exact jn595 _ hN H locs hG ls (lv_sub hl [4, 5, 6, 7] rfl)
                      · have hlc := fLock_ne h354
                        have ⟨o1, o2⟩ := L_open hI (by omega) hlc
                        refine lv_aload_n hx hb dL_law_357 rfl (lv_at hl 6 rfl) ?_
                        refine k_T_open hC hG  (hI.1) (hlc) w277 ⟨by decide, by decide⟩ hl.1 (Nat.le_of_ble_eq_true rfl) dL_law_358 ⟨by decide, by decide⟩ (fun H locs hG => ?_)
                        refine lv_sipush (v := nI 364) hx hb dL_law_361 (by decide) ?_
                        have hN := o1
                        refine lv_icmp_le (tgt := 595) hx hb dL_law_364 (by decide) (fun h364 => ?_) (fun h364 => absurd (oI_le_c (by decide) o2) h364)
                        exact jn595 _ hN H locs hG ls (lv_sub hl [4, 5, 6, 7] rfl)
                    · refine bt_in (v := 3) (off := 188) (tgt := 369) h181 hx hb dL_law_181 (by decide) (by decide) (by decide) (by decide) ?_
                      refine lv_aload_n hx hb dL_law_369 rfl (lv_at hl 6 rfl) ?_
                      refine lv_iload hx hb dL_law_370 (lv_at hl 2 rfl) ?_
                      refine lv_iload hx hb dL_law_372 (lv_at hl 3 rfl) ?_
                      refine lv_iconst (v := nI 4) hx hb dL_law_374 (by decide) ?_
                      refine lv_ishr hx hb dL_law_375 ?_
                      refine lv_topi (fun x375 ex375 => ?_)
                      refine lv_bipush (v := nI 20) hx hb dL_law_376 (by decide) ?_
                      refine k_S_below (n := 20) hC hG (by omega) (by omega) w116 w113 ⟨by decide, by decide⟩ hl.1 (Nat.le_of_ble_eq_true rfl) dL_law_378 ⟨by decide, by decide⟩ (fun b378 hb378 H locs hG => ?_)
                      refine lv_iconst (v := nI 1) hx hb dL_law_381 (by decide) ?_
                      refine lv_iload hx hb dL_law_382 (lv_at hl 3 rfl) ?_
                      refine lv_iconst (v := nI 2) hx hb dL_law_384 (by decide) ?_
                      refine lv_ishr hx hb dL_law_385 ?_
                      refine lv_topi (fun x385 ex385 => ?_)
                      refine lv_sipush (v := nI 300) hx hb dL_law_386 (by decide) ?_
                      refine k_S_below (n := 300) hC hG (by omega) (by omega) w116 w113 ⟨by decide, by decide⟩ hl.1 (Nat.le_of_ble_eq_true rfl) dL_law_389 ⟨by decide, by decide⟩ (fun b389 hb389 H locs hG => ?_)
                      refine ar_iadd hx hb dL_law_392 ?_
                      refine W.eq (g2 := F0 m 393 ls [.int (nI (1 + b389)), .int (nI b378), .int (nI b156), .ref (a 0)]) rfl ?_
                      refine k_T_line hC hG b156 b378 (nI (1 + b389)) (hI.1) (by omega) (by omega) ((nI_facts (by omega) (by omega)).1) ((nI_facts (by omega) (by omega)).2.1) ((nI_facts (by omega) (by omega)).2.2) (by omega) (hI.2.2.2.2.2.1) w292 ⟨by decide, by decide⟩ hl.1 (Nat.le_of_ble_eq_true rfl) dL_law_393 ⟨by decide, by decide⟩ (fun H locs hG => ?_)
                      have hN := L_line hI (by omega) (k := b156) (d := b378) (by omega) (by omega) (x := nI (1 + b389))
                      refine bz_ge_t (tgt := 595) hx hb (by omega) dL_law_396 (by decide) ?_
                      exact jn595 _ hN H locs hG ls (lv_sub hl [4, 5, 6, 7] rfl)
                    · refine bt_in (v := 4) (off := 220) (tgt := 401) h181 hx hb dL_law_181 (by decide) (by decide) (by decide) (by decide) ?_
                      refine lv_iload hx hb dL_law_401 (lv_at hl 3 rfl) ?_
                      refine lv_iconst (v := nI 4) hx hb dL_law_403 (by decide) ?_
                      refine lv_ishr hx hb dL_law_404 ?_
                      refine lv_topi (fun x404 ex404 => ?_)
                      refine lv_bipush (v := nI 20) hx hb dL_law_405 (by decide) ?_
                      refine k_S_below (n := 20) hC hG (by omega) (by omega) w116 w113 ⟨by decide, by decide⟩ hl.1 (Nat.le_of_ble_eq_true rfl) dL_law_407 ⟨by decide, by decide⟩ (fun b407 hb407 H locs hG => ?_)
                      refine lv_istore (lv' := [(12, .int (nI b407)), (7, .int (nI 0)), (6, .int (nI b166)), (5, .int (nI b156)), (4, .int x148), (3, .int (nI i)), (2, .int (nI ac)), (1, .ref (a 0)), (0, .ref b)]) hx hb dL_law_410 hl (by decide) rfl (fun ls hl => ?_)
                      refine lv_aload_n hx hb dL_law_412 rfl (lv_at hl 7 rfl) ?_
                      refine lv_iload hx hb dL_law_413 (lv_at hl 3 rfl) ?_
                      refine lv_iload hx hb dL_law_415 (lv_at hl 0 rfl) ?_
                      refine k_T_wouldMatch hC hG b156 b407 (hI.1) (by omega) (by omega) w309 ⟨by decide, by decide⟩ hl.1 (Nat.le_of_ble_eq_true rfl) dL_law_417 ⟨by decide, by decide⟩ (fun H locs hG => ?_)
                      have ⟨g1, g2, g3, g4, g5, g6⟩ := L_match hI (by omega) (k := b156) (dd := b407) (by omega) (by omega)
                      refine lv_istore (lv' := [(13, .int (nI (fPairN 1 v b156 b407))), (12, .int (nI b407)), (7, .int (nI 0)), (6, .int (nI b166)), (5, .int (nI b156)), (4, .int x148), (3, .int (nI i)), (2, .int (nI ac)), (1, .ref (a 0)), (0, .ref b)]) hx hb dL_law_420 hl (by decide) rfl (fun ls hl => ?_)
                      refine lv_aload_n hx hb dL_law_422 rfl (lv_at hl 8 rfl) ?_
                      refine lv_iload hx hb dL_law_423 (lv_at hl 4 rfl) ?_
                      refine lv_iload hx hb dL_law_425 (lv_at hl 1 rfl) ?_
                      refine k_T_match hC hG b156 b407 (g1) (by omega) (by omega) w373 ⟨by decide, by decide⟩ hl.1 (Nat.le_of_ble_eq_true rfl) dL_law_427 ⟨by decide, by decide⟩ (fun H locs hG => ?_)
                      refine lv_iload hx hb dL_law_430 (lv_at hl 0 rfl) ?_
                      refine bn_ne_f (tgt := 457) hx hb (by omega) (by omega) dL_law_432 (by decide) (by omega) ?_
                      refine lv_aload_n hx hb dL_law_435 rfl (lv_at hl 8 rfl) ?_
                      refine lv_iload hx hb dL_law_436 (lv_at hl 4 rfl) ?_
                      refine lv_iconst (v := nI 0) hx hb dL_law_438 (by decide) ?_
                      have ⟨y1, y2, y3, y4, y5, y6, y7⟩ := g5.2.1
                      refine k_T_left hC hG b156 0 (g5.1) (by omega) (by omega) w377 ⟨by decide, by decide⟩ hl.1 (Nat.le_of_ble_eq_true rfl) dL_law_439 ⟨by decide, by decide⟩ (fun H locs hG => ?_)
                      refine lv_aload_n hx hb dL_law_442 rfl (lv_at hl 8 rfl) ?_
                      refine lv_iload hx hb dL_law_443 (lv_at hl 4 rfl) ?_
                      refine lv_iconst (v := nI 1) hx hb dL_law_445 (by decide) ?_
                      refine k_T_left hC hG b156 1 (g5.1) (by omega) (by omega) w377 ⟨by decide, by decide⟩ hl.1 (Nat.le_of_ble_eq_true rfl) dL_law_446 ⟨by decide, by decide⟩ (fun H locs hG => ?_)
                      refine lv_lsub hx hb dL_law_449 ?_
                      refine lv_iload hx hb dL_law_450 (lv_at hl 0 rfl) ?_
                      refine lv_i2l hx hb dL_law_452 rfl ?_
                      have hN := g5
                      refine bl_eq (tgt := 595) hx hb dL_law_453 dL_law_454 (by decide) (fun h453 => ?_) (fun h453 => absurd (g6) h453)
                      exact jn595 _ hN H locs hG ls (lv_sub hl [6, 7, 8, 9] rfl)
                    · refine bt_out (tgt := 459) h181 (by omega) hx hb dL_law_181 (by decide) (by decide) ?_
                      refine lv_aload_n hx hb dL_law_459 rfl (lv_at hl 6 rfl) ?_
                      refine lv_iload hx hb dL_law_460 (lv_at hl 3 rfl) ?_
                      refine lv_iconst (v := nI 4) hx hb dL_law_462 (by decide) ?_
                      refine lv_ishr hx hb dL_law_463 ?_
                      refine lv_topi (fun x463 ex463 => ?_)
                      refine lv_bipush (v := nI 25) hx hb dL_law_464 (by decide) ?_
                      refine k_S_below (n := 25) hC hG (by omega) (by omega) w116 w113 ⟨by decide, by decide⟩ hl.1 (Nat.le_of_ble_eq_true rfl) dL_law_466 ⟨by decide, by decide⟩ (fun b466 hb466 H locs hG => ?_)
                      refine lv_iload_n hx hb dL_law_469 rfl (lv_at hl 4 rfl) ?_
                      have hdr := @L_draft ac i v hI (by omega) b466 b156 b166
                      refine k_T_draft hC hG b466 i (hI.1) (by omega) (by omega) w395 ⟨by decide, by decide⟩ hl.1 (Nat.le_of_ble_eq_true rfl) dL_law_470 ⟨by decide, by decide⟩ (fun H locs hG => ?_)
                      have hG : GW D κ a (dU1 v b466 i) (fun q : Nat => s.heap.size ≤ q) s H locs := hG
                      refine lv_pop hx hb dL_law_473 rfl ?_
                      refine lv_aload_n hx hb dL_law_474 rfl (lv_at hl 6 rfl) ?_
                      refine lv_iload hx hb dL_law_475 (lv_at hl 2 rfl) ?_
                      refine lv_iconst (v := nI 1) hx hb dL_law_477 (by decide) ?_
                      refine lv_iload hx hb dL_law_478 (lv_at hl 3 rfl) ?_
                      refine lv_iconst (v := nI 2) hx hb dL_law_480 (by decide) ?_
                      refine lv_ishr hx hb dL_law_481 ?_
                      refine lv_topi (fun x481 ex481 => ?_)
                      refine lv_sipush (v := nI 300) hx hb dL_law_482 (by decide) ?_
                      refine k_S_below (n := 300) hC hG (by omega) (by omega) w116 w113 ⟨by decide, by decide⟩ hl.1 (Nat.le_of_ble_eq_true rfl) dL_law_485 ⟨by decide, by decide⟩ (fun b485 hb485 H locs hG => ?_)
                      refine ar_iadd hx hb dL_law_488 ?_
                      have ⟨⟨d1, d2, d3, d4⟩, _, ⟨d5, d6, d7⟩, _, _⟩ := @L_draft ac i v hI (by omega) b466 b156 b166 b485 0 (by omega) (by omega) (by omega) (by omega) (by omega)
                      refine W.eq (g2 := F0 m 489 ls [.int (nI (1 + b485)), .int (nI b156), .ref (a 0)]) rfl ?_
                      refine k_T_leg hC hG b156 (nI (1 + b485)) (d1) (by omega) (d5) (d6) (d7) (d3) (by omega) w405 ⟨by decide, by decide⟩ hl.1 (Nat.le_of_ble_eq_true rfl) dL_law_489 ⟨by decide, by decide⟩ (fun H locs hG => ?_)
                      have hG : GW D κ a (dU2 v b466 i b156 (nI (1 + b485))) (fun q : Nat => s.heap.size ≤ q) s H locs := hG
                      refine W.eq (g2 := F0 m 492 ls [.long (fSum (L0_worth (dU2 v b466 i b156 (nI (1 + b485)))) (L0_count (dU2 v b466 i b156 (nI (1 + b485)))))]) rfl ?_
                      refine lv_lstore (lv' := [(14, .long (fSum (L0_worth (dU2 v b466 i b156 (nI (1 + b485)))) (L0_count (dU2 v b466 i b156 (nI (1 + b485)))))), (7, .int (nI 0)), (6, .int (nI b166)), (5, .int (nI b156)), (4, .int x148), (3, .int (nI i)), (2, .int (nI ac)), (1, .ref (a 0)), (0, .ref b)]) hx hb dL_law_492 hl (by decide) rfl (fun ls hl => ?_)
                      refine lv_aload_n hx hb dL_law_494 rfl (lv_at hl 7 rfl) ?_
                      refine lv_iload hx hb dL_law_495 (lv_at hl 2 rfl) ?_
                      refine lv_iconst (v := -1) hx hb dL_law_497 (by decide) ?_
                      refine lv_iload hx hb dL_law_498 (lv_at hl 4 rfl) ?_
                      refine lv_iconst (v := nI 2) hx hb dL_law_500 (by decide) ?_
                      refine lv_ishr hx hb dL_law_501 ?_
                      refine lv_topi (fun x501 ex501 => ?_)
                      refine lv_sipush (v := nI 300) hx hb dL_law_502 (by decide) ?_
                      refine k_S_below (n := 300) hC hG (by omega) (by omega) w116 w113 ⟨by decide, by decide⟩ hl.1 (Nat.le_of_ble_eq_true rfl) dL_law_505 ⟨by decide, by decide⟩ (fun b505 hb505 H locs hG => ?_)
                      refine lv_isub hx hb dL_law_508 ?_
                      have ⟨_, ⟨f1, f2, f3, f4⟩, _, ⟨f5, f6, f7⟩, f8, f9, f10, f11⟩ := @L_draft ac i v hI (by omega) b466 b156 b166 b485 b505 (by omega) (by omega) (by omega) (by omega) (by omega)
                      refine k_T_leg hC hG b166 (-1 - nI b505) (f1) (by omega) (f5) (f6) (f7) (f3) (by omega) w405 ⟨by decide, by decide⟩ hl.1 (Nat.le_of_ble_eq_true rfl) dL_law_509 ⟨by decide, by decide⟩ (fun H locs hG => ?_)
                      have hG : GW D κ a (dU3 v b466 i b156 (nI (1 + b485)) b166 (-1 - nI b505)) (fun q : Nat => s.heap.size ≤ q) s H locs := hG
                      refine W.eq (g2 := F0 m 512 ls [.long (fSum (L0_worth (dU3 v b466 i b156 (nI (1 + b485)) b166 (-1 - nI b505))) (L0_count (dU3 v b466 i b156 (nI (1 + b485)) b166 (-1 - nI b505))))]) rfl ?_
                      refine lv_lload hx hb dL_law_512 (lv_at hl 0 rfl) ?_
                      refine bl_le (tgt := 520) hx hb dL_law_514 dL_law_515 (by decide) (fun h514 => ?_) (fun h514 => absurd (f8) h514)
                      refine lv_aload_n hx hb dL_law_520 rfl (lv_at hl 7 rfl) ?_
                      refine k_T_reason hC hG  (f9) w410 ⟨by decide, by decide⟩ hl.1 (Nat.le_of_ble_eq_true rfl) dL_law_521 ⟨by decide, by decide⟩ (fun H locs hG => ?_)
                      refine lv_istore (lv' := [(16, .int (nI (fWhy (dU3 v b466 i b156 (nI (1 + b485)) b166 (-1 - nI b505))))), (14, .long (fSum (L0_worth (dU2 v b466 i b156 (nI (1 + b485)))) (L0_count (dU2 v b466 i b156 (nI (1 + b485)))))), (7, .int (nI 0)), (6, .int (nI b166)), (5, .int (nI b156)), (4, .int x148), (3, .int (nI i)), (2, .int (nI ac)), (1, .ref (a 0)), (0, .ref b)]) hx hb dL_law_524 hl (by decide) rfl (fun ls hl => ?_)
                      refine lv_iload hx hb dL_law_526 (lv_at hl 0 rfl) ?_
                      refine bz_le (tgt := 534) hx hb (Nat.lt_of_le_of_lt (fWhy_le _) (by decide)) dL_law_528 (by decide) (fun h528 => ?_) (fun h528 => ?_)
                      · have ⟨p1, p2⟩ := @L_draft2 ac i v hI b466 b156 b166 b485 b505 (by omega) (by omega) (by omega) (by omega)
                        have ⟨t1, t2, t3, t4, t5, t6⟩ := L_post (u := (dU3 v b466 i b156 (nI (1 + b485)) b166 (-1 - nI b505))) f10 (by omega) f9 p2 p1 (f11.trans h528)
                        have ⟨y1, y2, y3, y4, y5, y6, y7⟩ := f10.2.1
                        have t7 := t1.ent (show J_count (fWhyU (dU3 v b466 i b156 (nI (1 + b485)) b166 (-1 - nI b505))) < J_count (fPost (fWhyU (dU3 v b466 i b156 (nI (1 + b485)) b166 (-1 - nI b505)))) by omega)
                        have t8 := t1.n
                        refine lv_aload_n hx hb dL_law_534 rfl (lv_at hl 8 rfl) ?_
                        refine k_T_post hC hG  (f10.1) (f11.trans h528) (by omega) (by omega) w453 ⟨by decide, by decide⟩ hl.1 (Nat.le_of_ble_eq_true rfl) dL_law_535 ⟨by decide, by decide⟩ (fun H locs hG => ?_)
                        refine lv_istore (lv' := [(7, .int (nI (J_count (fWhyU (dU3 v b466 i b156 (nI (1 + b485)) b166 (-1 - nI b505)))))), (16, .int (nI (fWhy (dU3 v b466 i b156 (nI (1 + b485)) b166 (-1 - nI b505))))), (14, .long (fSum (L0_worth (dU2 v b466 i b156 (nI (1 + b485)))) (L0_count (dU2 v b466 i b156 (nI (1 + b485)))))), (6, .int (nI b166)), (5, .int (nI b156)), (4, .int x148), (3, .int (nI i)), (2, .int (nI ac)), (1, .ref (a 0)), (0, .ref b)]) hx hb dL_law_538 hl (by decide) rfl (fun ls hl => ?_)
                        refine lv_lconst (v := 0) hx hb dL_law_540 (by decide) ?_
                        refine lv_lstore (lv' := [(17, .long (0 : Int64)), (7, .int (nI (J_count (fWhyU (dU3 v b466 i b156 (nI (1 + b485)) b166 (-1 - nI b505)))))), (16, .int (nI (fWhy (dU3 v b466 i b156 (nI (1 + b485)) b166 (-1 - nI b505))))), (14, .long (fSum (L0_worth (dU2 v b466 i b156 (nI (1 + b485)))) (L0_count (dU2 v b466 i b156 (nI (1 + b485)))))), (6, .int (nI b166)), (5, .int (nI b156)), (4, .int x148), (3, .int (nI i)), (2, .int (nI ac)), (1, .ref (a 0)), (0, .ref b)]) hx hb dL_law_541 hl (by decide) rfl (fun ls hl => ?_)
                        refine lv_iconst (v := nI 0) hx hb dL_law_543 (by decide) ?_
                        refine lv_istore (lv' := [(19, .int (nI 0)), (17, .long (0 : Int64)), (7, .int (nI (J_count (fWhyU (dU3 v b466 i b156 (nI (1 + b485)) b166 (-1 - nI b505)))))), (16, .int (nI (fWhy (dU3 v b466 i b156 (nI (1 + b485)) b166 (-1 - nI b505))))), (14, .long (fSum (L0_worth (dU2 v b466 i b156 (nI (1 + b485)))) (L0_count (dU2 v b466 i b156 (nI (1 + b485)))))), (6, .int (nI b166)), (5, .int (nI b156)), (4, .int x148), (3, .int (nI i)), (2, .int (nI ac)), (1, .ref (a 0)), (0, .ref b)]) hx hb dL_law_544 hl (by decide) rfl (fun ls hl => ?_)
                        have lp546 : ∀ (n : Nat) (g : Nat), J_legsOf (fPost (fWhyU (dU3 v b466 i b156 (nI (1 + b485)) b166 (-1 - nI b505)))) (J_count (fWhyU (dU3 v b466 i b156 (nI (1 + b485)) b166 (-1 - nI b505)))) - g < n → (g ≤ J_legsOf (fPost (fWhyU (dU3 v b466 i b156 (nI (1 + b485)) b166 (-1 - nI b505)))) (J_count (fWhyU (dU3 v b466 i b156 (nI (1 + b485)) b166 (-1 - nI b505))))) → ∀ (H : Heap) (locs : List Loc), GW D κ a (fPost (fWhyU (dU3 v b466 i b156 (nI (1 + b485)) b166 (-1 - nI b505)))) (fun q : Nat => s.heap.size ≤ q) s H locs → ∀ ls : Array Slot, lv_has ls 20 [(19, .int (nI g)), (17, .long (fSum (fun gq => fOfL (fPost (fWhyU (dU3 v b466 i b156 (nI (1 + b485)) b166 (-1 - nI b505)))) (J_count (fWhyU (dU3 v b466 i b156 (nI (1 + b485)) b166 (-1 - nI b505)))) gq 2) g)), (7, .int (nI (J_count (fWhyU (dU3 v b466 i b156 (nI (1 + b485)) b166 (-1 - nI b505)))))), (16, .int (nI (fWhy (dU3 v b466 i b156 (nI (1 + b485)) b166 (-1 - nI b505))))), (14, .long (fSum (L0_worth (dU2 v b466 i b156 (nI (1 + b485)))) (L0_count (dU2 v b466 i b156 (nI (1 + b485)))))), (6, .int (nI b166)), (5, .int (nI b156)), (4, .int x148), (3, .int (nI i)), (2, .int (nI ac)), (1, .ref (a 0)), (0, .ref b)] → W p l e room_1 s m #[Value.ref b] below meth c H locs 45 4524 (lw_Z below #[Value.ref b] s) (F0 m 546 ls []) := by
                          intro n
                          induction n with
                          | zero =>
                            intro g hm
                            exact absurd hm (Nat.not_lt_zero _)
                          | succ n ih546 =>
                            intro g hm546 c546_1 H locs hG ls hl
                            refine lv_iload hx hb dL_law_546 (lv_at hl 0 rfl) ?_
                            refine lv_aload_n hx hb dL_law_548 rfl (lv_at hl 10 rfl) ?_
                            refine lv_iload hx hb dL_law_549 (lv_at hl 2 rfl) ?_
                            refine lv_iconst (v := nI 2) hx hb dL_law_551 (by decide) ?_
                            refine k_T_ofEntry hC hG (J_count (fWhyU (dU3 v b466 i b156 (nI (1 + b485)) b166 (-1 - nI b505)))) 2 (t1) (by omega) (by omega) w252 ⟨by decide, by decide⟩ hl.1 (Nat.le_of_ble_eq_true rfl) dL_law_552 ⟨by decide, by decide⟩ (fun H locs hG => ?_)
                            refine W.eq (g2 := F0 m 555 ls [.int (nI (J_legsOf (fPost (fWhyU (dU3 v b466 i b156 (nI (1 + b485)) b166 (-1 - nI b505)))) (J_count (fWhyU (dU3 v b466 i b156 (nI (1 + b485)) b166 (-1 - nI b505)))))), .int (nI g)]) rfl ?_
                            refine bn_ge (tgt := 578) hx hb (by omega) (by omega) dL_law_555 (by decide) (fun h555 => ?_) (fun h555 => ?_)
                            · refine lv_lload hx hb dL_law_578 (lv_at hl 1 rfl) ?_
                              refine lv_lconst (v := 0) hx hb dL_law_580 (by decide) ?_
                              refine bl_ne (tgt := 593) hx hb dL_law_581 dL_law_582 (by decide) (fun h581 => absurd (by rw [show g = J_legsOf (fPost (fWhyU (dU3 v b466 i b156 (nI (1 + b485)) b166 (-1 - nI b505)))) (J_count (fWhyU (dU3 v b466 i b156 (nI (1 + b485)) b166 (-1 - nI b505)))) by omega]; exact t3) h581) (fun h581 => ?_)
                              refine lv_aload_n hx hb dL_law_585 rfl (lv_at hl 10 rfl) ?_
                              refine k_T_reason hC hG  (t1) w410 ⟨by decide, by decide⟩ hl.1 (Nat.le_of_ble_eq_true rfl) dL_law_586 ⟨by decide, by decide⟩ (fun H locs hG => ?_)
                              refine lv_iconst (v := nI 1) hx hb dL_law_589 (by decide) ?_
                              have hN : INV ac (i + 1) (fWhyU (fPost (fWhyU (dU3 v b466 i b156 (nI (1 + b485)) b166 (-1 - nI b505))))) := by rw [t5]; exact t6
                              refine bn_eq_t (tgt := 595) hx hb (by omega) (by omega) dL_law_590 (by decide) (by omega) ?_
                              exact jn595 _ hN H locs hG ls (lv_sub hl [8, 9, 10, 11] rfl)
                            · refine lv_lload hx hb dL_law_558 (lv_at hl 1 rfl) ?_
                              refine lv_aload_n hx hb dL_law_560 rfl (lv_at hl 10 rfl) ?_
                              refine lv_iload hx hb dL_law_561 (lv_at hl 2 rfl) ?_
                              refine lv_iload hx hb dL_law_563 (lv_at hl 0 rfl) ?_
                              refine lv_iconst (v := nI 2) hx hb dL_law_565 (by decide) ?_
                              refine k_T_ofLeg hC hG (J_count (fWhyU (dU3 v b466 i b156 (nI (1 + b485)) b166 (-1 - nI b505)))) g 2 (t1) (by omega) (by omega) (by omega) w268 ⟨by decide, by decide⟩ hl.1 (Nat.le_of_ble_eq_true rfl) dL_law_566 ⟨by decide, by decide⟩ (fun H locs hG => ?_)
                              refine lv_ladd hx hb dL_law_569 ?_
                              refine lv_lstore (lv' := [(17, .long (fSum (fun gq => fOfL (fPost (fWhyU (dU3 v b466 i b156 (nI (1 + b485)) b166 (-1 - nI b505)))) (J_count (fWhyU (dU3 v b466 i b156 (nI (1 + b485)) b166 (-1 - nI b505)))) gq 2) g + (fOfL (fPost (fWhyU (dU3 v b466 i b156 (nI (1 + b485)) b166 (-1 - nI b505)))) (J_count (fWhyU (dU3 v b466 i b156 (nI (1 + b485)) b166 (-1 - nI b505)))) g 2))), (19, .int (nI g)), (7, .int (nI (J_count (fWhyU (dU3 v b466 i b156 (nI (1 + b485)) b166 (-1 - nI b505)))))), (16, .int (nI (fWhy (dU3 v b466 i b156 (nI (1 + b485)) b166 (-1 - nI b505))))), (14, .long (fSum (L0_worth (dU2 v b466 i b156 (nI (1 + b485)))) (L0_count (dU2 v b466 i b156 (nI (1 + b485)))))), (6, .int (nI b166)), (5, .int (nI b156)), (4, .int x148), (3, .int (nI i)), (2, .int (nI ac)), (1, .ref (a 0)), (0, .ref b)]) hx hb dL_law_570 hl (by decide) rfl (fun ls hl => ?_)
                              refine lv_iinc (v := (nI (g + 1))) (lv' := [(19, .int (nI (g + 1))), (17, .long (fSum (fun gq => fOfL (fPost (fWhyU (dU3 v b466 i b156 (nI (1 + b485)) b166 (-1 - nI b505)))) (J_count (fWhyU (dU3 v b466 i b156 (nI (1 + b485)) b166 (-1 - nI b505)))) gq 2) g + (fOfL (fPost (fWhyU (dU3 v b466 i b156 (nI (1 + b485)) b166 (-1 - nI b505)))) (J_count (fWhyU (dU3 v b466 i b156 (nI (1 + b485)) b166 (-1 - nI b505)))) g 2))), (7, .int (nI (J_count (fWhyU (dU3 v b466 i b156 (nI (1 + b485)) b166 (-1 - nI b505)))))), (16, .int (nI (fWhy (dU3 v b466 i b156 (nI (1 + b485)) b166 (-1 - nI b505))))), (14, .long (fSum (L0_worth (dU2 v b466 i b156 (nI (1 + b485)))) (L0_count (dU2 v b466 i b156 (nI (1 + b485)))))), (6, .int (nI b166)), (5, .int (nI b156)), (4, .int x148), (3, .int (nI i)), (2, .int (nI ac)), (1, .ref (a 0)), (0, .ref b)]) hx hb dL_law_572 hl (k := 1) rfl (nI_1 _) (by decide) rfl (fun ls hl => ?_)
                              refine lv_goto (tgt := 546) hx hb dL_law_575 (by decide) ?_
                              have e546_8 : fSum (fun gq => fOfL (fPost (fWhyU (dU3 v b466 i b156 (nI (1 + b485)) b166 (-1 - nI b505)))) (J_count (fWhyU (dU3 v b466 i b156 (nI (1 + b485)) b166 (-1 - nI b505)))) gq 2) (g + 1) = (fSum (fun gq => fOfL (fPost (fWhyU (dU3 v b466 i b156 (nI (1 + b485)) b166 (-1 - nI b505)))) (J_count (fWhyU (dU3 v b466 i b156 (nI (1 + b485)) b166 (-1 - nI b505)))) gq 2) g + (fOfL (fPost (fWhyU (dU3 v b466 i b156 (nI (1 + b485)) b166 (-1 - nI b505)))) (J_count (fWhyU (dU3 v b466 i b156 (nI (1 + b485)) b166 (-1 - nI b505)))) g 2)) := by rfl
                              have hl : lv_has ls 20 [(19, .int (nI (g + 1))), (17, .long (fSum (fun gq => fOfL (fPost (fWhyU (dU3 v b466 i b156 (nI (1 + b485)) b166 (-1 - nI b505)))) (J_count (fWhyU (dU3 v b466 i b156 (nI (1 + b485)) b166 (-1 - nI b505)))) gq 2) (g + 1))), (7, .int (nI (J_count (fWhyU (dU3 v b466 i b156 (nI (1 + b485)) b166 (-1 - nI b505)))))), (16, .int (nI (fWhy (dU3 v b466 i b156 (nI (1 + b485)) b166 (-1 - nI b505))))), (14, .long (fSum (L0_worth (dU2 v b466 i b156 (nI (1 + b485)))) (L0_count (dU2 v b466 i b156 (nI (1 + b485)))))), (6, .int (nI b166)), (5, .int (nI b156)), (4, .int x148), (3, .int (nI i)), (2, .int (nI ac)), (1, .ref (a 0)), (0, .ref b)] := by rw [e546_8]; exact hl
                              exact ih546  (g + 1) (by omega) (by omega) H locs hG ls (lv_sub hl [0, 1, 2, 3, 4, 5, 6, 7, 8, 9, 10, 11] rfl)
                        have e546_9 : fSum (fun gq => fOfL (fPost (fWhyU (dU3 v b466 i b156 (nI (1 + b485)) b166 (-1 - nI b505)))) (J_count (fWhyU (dU3 v b466 i b156 (nI (1 + b485)) b166 (-1 - nI b505)))) gq 2) 0 = (0 : Int64) := by rfl
                        have hl : lv_has ls 20 [(19, .int (nI 0)), (17, .long (fSum (fun gq => fOfL (fPost (fWhyU (dU3 v b466 i b156 (nI (1 + b485)) b166 (-1 - nI b505)))) (J_count (fWhyU (dU3 v b466 i b156 (nI (1 + b485)) b166 (-1 - nI b505)))) gq 2) 0)), (7, .int (nI (J_count (fWhyU (dU3 v b466 i b156 (nI (1 + b485)) b166 (-1 - nI b505)))))), (16, .int (nI (fWhy (dU3 v b466 i b156 (nI (1 + b485)) b166 (-1 - nI b505))))), (14, .long (fSum (L0_worth (dU2 v b466 i b156 (nI (1 + b485)))) (L0_count (dU2 v b466 i b156 (nI (1 + b485)))))), (6, .int (nI b166)), (5, .int (nI b156)), (4, .int x148), (3, .int (nI i)), (2, .int (nI ac)), (1, .ref (a 0)), (0, .ref b)] := by rw [e546_9]; exact hl
                        exact lp546 _ 0 (Nat.lt_succ_self _) (by omega) H locs hG ls (lv_sub hl [0, 1, 2, 3, 4, 5, 6, 7, 8, 9, 10, 11] rfl)
                      · have hN : INV ac (i + 1) (fWhyU (dU3 v b466 i b156 (nI (1 + b485)) b166 (-1 - nI b505))) := L_up f10
                        refine lv_goto (tgt := 595) hx hb dL_law_531 (by decide) ?_
                        exact jn595 _ hN H locs hG ls (lv_sub hl [6, 7, 8, 9] rfl)
              exact lp124 _ 0 (sO v 0 (some 0)) (Nat.lt_succ_self _) (by omega) (hini) H locs hG ls (lv_sub hl [0, 1, 2, 3] rfl)
            · refine lv_aload_n hx hb dL_law_60 rfl (lv_at hl 2 rfl) ?_
              refine lv_iload_n hx hb dL_law_61 rfl (lv_at hl 0 rfl) ?_
              refine bz_ne (tgt := 69) hx hb (by omega) dL_law_62 (by decide) (fun h62 => ?_) (fun h62 => ?_)
              · refine lv_aload_n hx hb dL_law_69 rfl (lv_at hl 3 rfl) ?_
                refine lv_iconst (v := nI 4) hx hb dL_law_70 (by decide) ?_
                refine lv_iload_n hx hb dL_law_71 rfl (lv_at hl 0 rfl) ?_
                refine ar_iadd hx hb dL_law_72 ?_
                refine k_cell hC hG hX hbl hbA (by omega) (by omega) w111 w113 ⟨by decide, by decide⟩ hl.1 (Nat.le_of_ble_eq_true rfl) dL_law_73 ⟨by decide, by decide⟩ (fun x73 H locs hG => ?_)
                refine lv_iconst (v := nI 5) hx hb dL_law_76 (by decide) ?_
                refine k_S_below (n := 5) hC hG (by omega) (by omega) w116 w113 ⟨by decide, by decide⟩ hl.1 (Nat.le_of_ble_eq_true rfl) dL_law_77 ⟨by decide, by decide⟩ (fun b77 hb77 H locs hG => ?_)
                refine lv_iload_n hx hb dL_law_80 rfl (lv_at hl 0 rfl) ?_
                refine bz_ne (tgt := 88) hx hb (by omega) dL_law_81 (by decide) (fun h81 => ?_) (fun h81 => ?_)
                · refine lv_aload_n hx hb dL_law_88 rfl (lv_at hl 3 rfl) ?_
                  refine lv_iconst (v := nI 4) hx hb dL_law_89 (by decide) ?_
                  refine lv_iload_n hx hb dL_law_90 rfl (lv_at hl 0 rfl) ?_
                  refine ar_iadd hx hb dL_law_91 ?_
                  refine k_cell hC hG hX hbl hbA (by omega) (by omega) w111 w113 ⟨by decide, by decide⟩ hl.1 (Nat.le_of_ble_eq_true rfl) dL_law_92 ⟨by decide, by decide⟩ (fun x92 H locs hG => ?_)
                  refine lv_iconst (v := nI 3) hx hb dL_law_95 (by decide) ?_
                  refine lv_ishr hx hb dL_law_96 ?_
                  refine lv_topi (fun x96 ex96 => ?_)
                  refine lv_iconst (v := nI 3) hx hb dL_law_97 (by decide) ?_
                  refine k_S_below (n := 3) hC hG (by omega) (by omega) w116 w113 ⟨by decide, by decide⟩ hl.1 (Nat.le_of_ble_eq_true rfl) dL_law_98 ⟨by decide, by decide⟩ (fun b98 hb98 H locs hG => ?_)
                  refine k_T_account hC hG b77 b98 (i1) (by omega) (by omega) (by omega) w134 ⟨by decide, by decide⟩ hl.1 (Nat.le_of_ble_eq_true rfl) dL_law_101 ⟨by decide, by decide⟩ (fun H locs hG => ?_)
                  refine lv_iload_n hx hb dL_law_104 rfl (lv_at hl 0 rfl) ?_
                  refine bn_eq_t (tgt := 110) hx hb (by omega) (by omega) dL_law_105 (by decide) (by omega) ?_
                  refine lv_iinc (v := (nI (ai + 1))) (lv' := [(3, .int (nI (ai + 1))), (2, .int (nI ac)), (1, .ref (a 0)), (0, .ref b)]) hx hb dL_law_110 hl (k := 0) rfl (nI_1 _) (by decide) rfl (fun ls hl => ?_)
                  refine lv_goto (tgt := 55) hx hb dL_law_113 (by decide) ?_
                  exact ih55  (ai + 1) (fAccAdd v b77 b98) (by omega) (by omega) (I0_acc c55_2 (by omega) (by omega) (by omega) (by intro hq; first | exact ⟨rfl, rfl⟩ | omega)) H locs hG ls (lv_sub hl [0, 1, 2, 3] rfl)
                · refine lv_iconst (v := nI 0) hx hb dL_law_84 (by decide) ?_
                  refine lv_goto (tgt := 101) hx hb dL_law_85 (by decide) ?_
                  refine k_T_account hC hG b77 0 (i1) (by omega) (by omega) (by omega) w134 ⟨by decide, by decide⟩ hl.1 (Nat.le_of_ble_eq_true rfl) dL_law_101 ⟨by decide, by decide⟩ (fun H locs hG => ?_)
                  refine lv_iload_n hx hb dL_law_104 rfl (lv_at hl 0 rfl) ?_
                  refine bn_eq_t (tgt := 110) hx hb (by omega) (by omega) dL_law_105 (by decide) (by omega) ?_
                  refine lv_iinc (v := (nI (ai + 1))) (lv' := [(3, .int (nI (ai + 1))), (2, .int (nI ac)), (1, .ref (a 0)), (0, .ref b)]) hx hb dL_law_110 hl (k := 0) rfl (nI_1 _) (by decide) rfl (fun ls hl => ?_)
                  refine lv_goto (tgt := 55) hx hb dL_law_113 (by decide) ?_
                  exact ih55  (ai + 1) (fAccAdd v b77 0) (by omega) (by omega) (I0_acc c55_2 (by omega) (by omega) (by omega) (by intro hq; first | exact ⟨rfl, rfl⟩ | omega)) H locs hG ls (lv_sub hl [0, 1, 2, 3] rfl)
              · refine lv_iconst (v := nI 4) hx hb dL_law_65 (by decide) ?_
                refine lv_goto (tgt := 80) hx hb dL_law_66 (by decide) ?_
                refine lv_iload_n hx hb dL_law_80 rfl (lv_at hl 0 rfl) ?_
                refine bz_ne (tgt := 88) hx hb (by omega) dL_law_81 (by decide) (fun h81 => ?_) (fun h81 => ?_)
                · refine lv_aload_n hx hb dL_law_88 rfl (lv_at hl 3 rfl) ?_
                  refine lv_iconst (v := nI 4) hx hb dL_law_89 (by decide) ?_
                  refine lv_iload_n hx hb dL_law_90 rfl (lv_at hl 0 rfl) ?_
                  refine ar_iadd hx hb dL_law_91 ?_
                  refine k_cell hC hG hX hbl hbA (by omega) (by omega) w111 w113 ⟨by decide, by decide⟩ hl.1 (Nat.le_of_ble_eq_true rfl) dL_law_92 ⟨by decide, by decide⟩ (fun x92 H locs hG => ?_)
                  refine lv_iconst (v := nI 3) hx hb dL_law_95 (by decide) ?_
                  refine lv_ishr hx hb dL_law_96 ?_
                  refine lv_topi (fun x96 ex96 => ?_)
                  refine lv_iconst (v := nI 3) hx hb dL_law_97 (by decide) ?_
                  refine k_S_below (n := 3) hC hG (by omega) (by omega) w116 w113 ⟨by decide, by decide⟩ hl.1 (Nat.le_of_ble_eq_true rfl) dL_law_98 ⟨by decide, by decide⟩ (fun b98 hb98 H locs hG => ?_)
                  refine k_T_account hC hG 4 b98 (i1) (by omega) (by omega) (by omega) w134 ⟨by decide, by decide⟩ hl.1 (Nat.le_of_ble_eq_true rfl) dL_law_101 ⟨by decide, by decide⟩ (fun H locs hG => ?_)
                  refine lv_iload_n hx hb dL_law_104 rfl (lv_at hl 0 rfl) ?_
                  refine bn_eq_t (tgt := 110) hx hb (by omega) (by omega) dL_law_105 (by decide) (by omega) ?_
                  refine lv_iinc (v := (nI (ai + 1))) (lv' := [(3, .int (nI (ai + 1))), (2, .int (nI ac)), (1, .ref (a 0)), (0, .ref b)]) hx hb dL_law_110 hl (k := 0) rfl (nI_1 _) (by decide) rfl (fun ls hl => ?_)
                  refine lv_goto (tgt := 55) hx hb dL_law_113 (by decide) ?_
                  exact ih55  (ai + 1) (fAccAdd v 4 b98) (by omega) (by omega) (I0_acc c55_2 (by omega) (by omega) (by omega) (by intro hq; first | exact ⟨rfl, rfl⟩ | omega)) H locs hG ls (lv_sub hl [0, 1, 2, 3] rfl)
                · refine lv_iconst (v := nI 0) hx hb dL_law_84 (by decide) ?_
                  refine lv_goto (tgt := 101) hx hb dL_law_85 (by decide) ?_
                  refine k_T_account hC hG 4 0 (i1) (by omega) (by omega) (by omega) w134 ⟨by decide, by decide⟩ hl.1 (Nat.le_of_ble_eq_true rfl) dL_law_101 ⟨by decide, by decide⟩ (fun H locs hG => ?_)
                  refine lv_iload_n hx hb dL_law_104 rfl (lv_at hl 0 rfl) ?_
                  refine bn_eq_t (tgt := 110) hx hb (by omega) (by omega) dL_law_105 (by decide) (by omega) ?_
                  refine lv_iinc (v := (nI (ai + 1))) (lv' := [(3, .int (nI (ai + 1))), (2, .int (nI ac)), (1, .ref (a 0)), (0, .ref b)]) hx hb dL_law_110 hl (k := 0) rfl (nI_1 _) (by decide) rfl (fun ls hl => ?_)
                  refine lv_goto (tgt := 55) hx hb dL_law_113 (by decide) ?_
                  exact ih55  (ai + 1) (fAccAdd v 4 0) (by omega) (by omega) (I0_acc c55_2 (by omega) (by omega) (by omega) (by intro hq; first | exact ⟨rfl, rfl⟩ | omega)) H locs hG ls (lv_sub hl [0, 1, 2, 3] rfl)
        exact lp55 _ 0 v (Nat.lt_succ_self _) (by omega) (c10_2) H locs hG ls (lv_sub hl [0, 1, 2, 3] rfl)
      · have hi0 := c10_2
        refine lv_aload_n hx hb dL_law_15 rfl (lv_at hl 1 rfl) ?_
        refine lv_iload_n hx hb dL_law_16 rfl (lv_at hl 0 rfl) ?_
        refine lv_iconst (v := nI 1) hx hb dL_law_17 (by decide) ?_
        refine lv_aload_n hx hb dL_law_18 rfl (lv_at hl 2 rfl) ?_
        refine lv_iload_n hx hb dL_law_19 rfl (lv_at hl 0 rfl) ?_
        refine k_cell hC hG hX hbl hbA (by omega) (by omega) w111 w113 ⟨by decide, by decide⟩ hl.1 (Nat.le_of_ble_eq_true rfl) dL_law_20 ⟨by decide, by decide⟩ (fun x20 H locs hG => ?_)
        refine lv_sipush (v := nI 5000) hx hb dL_law_23 (by decide) ?_
        refine k_S_below (n := 5000) hC hG (by omega) (by omega) w116 w113 ⟨by decide, by decide⟩ hl.1 (Nat.le_of_ble_eq_true rfl) dL_law_26 ⟨by decide, by decide⟩ (fun b26 hb26 H locs hG => ?_)
        refine ar_iadd hx hb dL_law_29 ?_
        refine k_T_rate hC hG cu (1 + b26) (hi0.1) (hi0.2.1) (by omega) (by omega) w120 ⟨by decide, by decide⟩ hl.1 (Nat.le_of_ble_eq_true rfl) dL_law_30 ⟨by decide, by decide⟩ (fun H locs hG => ?_)
        refine lv_pop hx hb dL_law_33 rfl ?_
        refine lv_iinc (v := (nI (cu + 1))) (lv' := [(2, .int (nI (cu + 1))), (1, .ref (a 0)), (0, .ref b)]) hx hb dL_law_34 hl (k := 0) rfl (nI_1 _) (by decide) rfl (fun ls hl => ?_)
        refine lv_goto (tgt := 10) hx hb dL_law_37 (by decide) ?_
        exact ih10  (cu + 1) (sAI v 0 cu (nI (1 + b26))) (by omega) (by omega) (I0_rate hi0 (by omega) (by omega)) H locs hG ls (lv_sub hl [0, 1, 2] rfl)
  exact lp10 _ 1 u0 (Nat.lt_succ_self _) (by omega) (I0_u0) H locs hG ls (lv_sub hl [0, 1, 2] rfl)
