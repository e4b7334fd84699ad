set_option maxHeartbeats 4000000 in
set_option maxRecDepth 100000 in
theorem z_192_isIn (l : Launch) (hst : l.stackTraces = false) (D : va_G) (κ : K4) (E0 : Nat) (sz : Nat) (b : Nat → Nat) : NM l yX14_isIn cX14_isIn 3 (some .boolean) 0 0 0 0 E0 D κ (mw κ b E0 0) sz [.int 1, .int 0, .int 5] (QI D κ (mw κ b E0 0) sz 1 (fun qs : W1 => mw κ b E0 0)) := by
  refine NM.of (by decide +kernel) (Nat.le_of_ble_eq_true rfl) ?_
  intro p e s m below meth c ls hC hr hk hin hsz hE hT H locs hG hl
  have hx := hC.1
  have hb := hC.2.1
  have hl : lv_has ls 3 [(0, .int 1), (1, .int 0), (2, .int 5)] := hl
  refine lv_iload_n hx hb dX14_isIn_0 rfl (lv_at hl 0 rfl) ?_
  refine lv_iload_n hx hb dX14_isIn_1 rfl (lv_at hl 1 rfl) ?_
  refine lv_icmp_lt (tgt := 14) hx hb dX14_isIn_2 (by decide) (fun h2 => absurd h2 (by decide)) (fun _ => ?_)
  refine lv_iload_n hx hb dX14_isIn_5 rfl (lv_at hl 0 rfl) ?_
  refine lv_iload_n hx hb dX14_isIn_6 rfl (lv_at hl 2 rfl) ?_
  refine lv_icmp_gt (tgt := 14) hx hb dX14_isIn_7 (by decide) (fun h7 => absurd h7 (by decide)) (fun _ => ?_)
  refine lv_iconst (v := 1) hx hb dX14_isIn_10 (by decide) ?_
  refine lv_goto (tgt := 15) hx hb dX14_isIn_11 (by decide) ?_
  exact ze_i (qs := fun _ => 0) hC hG rfl rfl hr rfl hk (Nat.le_of_ble_eq_true rfl) (Nat.le_of_ble_eq_true rfl) dX14_isIn_15
set_option maxHeartbeats 4000000 in
set_option maxRecDepth 100000 in
theorem z_193_count (l : Launch) (hst : l.stackTraces = false) (D : va_G) (κ : K4) (E0 : Nat) (sz : Nat) (b : Nat → Nat) : NM l yX14_count cX14_count 5 (some .int) 1 20 1 6 E0 D κ (mw κ b E0 0) sz [.ref (b 0), .int 1] (QI D κ (mw κ b E0 0) sz 0 (fun qs : W1 => mw κ b E0 0)) := by
  refine NM.of (by decide +kernel) (Nat.le_of_ble_eq_true rfl) ?_
  intro p e s m below meth c ls hC hr hk hin hsz hE hT H locs hG hl
  have hx := hC.1
  have hb := hC.2.1
  have hl : lv_has ls 5 [(0, .ref (b 0)), (1, .int 1)] := hl
  refine lv_iconst (v := 0) hx hb dX14_count_0 (by decide) ?_
  refine lv_istore_n (lv' := [(2, .int 0), (0, .ref (b 0)), (1, .int 1)]) hx hb dX14_count_1 rfl hl (by decide) rfl (fun ls hl => ?_)
  refine lv_iconst (v := 0) hx hb dX14_count_2 (by decide) ?_
  refine lv_istore_n (lv' := [(3, .int 0), (2, .int 0), (0, .ref (b 0)), (1, .int 1)]) hx hb dX14_count_3 rfl hl (by decide) rfl (fun ls hl => ?_)
  refine lv_iconst (v := 0) hx hb dX14_count_4 (by decide) ?_
  refine lv_istore (lv' := [(4, .int 0), (3, .int 0), (2, .int 0), (0, .ref (b 0)), (1, .int 1)]) hx hb dX14_count_5 hl (by decide) rfl (fun ls hl => ?_)
  refine lv_iload hx hb dX14_count_7 (lv_at hl 0 rfl) ?_
  refine lv_aload_n hx hb dX14_count_9 rfl (lv_at hl 3 rfl) ?_
  refine bw_get (C := RX14) (T := TX14) (N := 15) (ci := 9) (v := .ref (b 3)) 3 (by decide) 0 hC hG iwX14 rfl rfl w119 rfl rfl dX14_count_10 ?_
  have cut13 : Cut (mw κ b E0 0) (mw κ b E0 0) ([]) := (Cut.all 9 rfl (by decide))
  refine zc_i hG cut13 (zr_V (k := 3) (ci := 10) (n := 0) (As := []) (rest := [.int 0]) hC hG hE hT cut13 (z_74_size l hst D κ E0 H.size (b 3) (b 0) (b 1) (b 2) (b 4) (b 5) (b 6) (b 7) (b 8)) rfl rfl w179 w117 w182 w180 w181 (by decide +kernel) ⟨Nat.le_of_ble_eq_true rfl, Nat.le_of_ble_eq_true rfl⟩ rfl hl.1 rfl (Nat.le_of_ble_eq_true rfl) dX14_count_13 ⟨Nat.le_of_ble_eq_true rfl, Nat.le_of_ble_eq_true rfl⟩) (fun z1 H locs hG => ?_)
  have hG : BW D κ (mw κ b E0 0) _ s H locs := hG
  refine lv_icmp_ge (tgt := 51) hx hb dX14_count_16 (by decide) (fun _ => ?_) (fun h16 => absurd (by decide) h16)
  refine lv_iconst (v := 0) hx hb dX14_count_51 (by decide) ?_
  refine lv_istore (lv' := [(4, .int 0), (3, .int 0), (2, .int 0), (0, .ref (b 0)), (1, .int 1)]) hx hb dX14_count_52 hl (by decide) rfl (fun ls hl => ?_)
  refine lv_iload hx hb dX14_count_54 (lv_at hl 0 rfl) ?_
  refine lv_aload_n hx hb dX14_count_56 rfl (lv_at hl 3 rfl) ?_
  refine bw_get (C := RX14) (T := TX14) (N := 15) (ci := 9) (v := .ref (b 4)) 4 (by decide) 0 hC hG iwX14 rfl rfl w120 rfl rfl dX14_count_57 ?_
  have cut60 : Cut (mw κ b E0 0) (mw κ b E0 0) ([]) := (Cut.all 9 rfl (by decide))
  refine zc_i hG cut60 (zr_V (k := 4) (ci := 10) (n := 0) (As := []) (rest := [.int 0]) hC hG hE hT cut60 (z_90_size l hst D κ E0 H.size (b 4) (b 0) (b 1) (b 2) (b 3) (b 5) (b 6) (b 7) (b 8)) rfl rfl w179 w117 w182 w180 w181 (by decide +kernel) ⟨Nat.le_of_ble_eq_true rfl, Nat.le_of_ble_eq_true rfl⟩ rfl hl.1 rfl (Nat.le_of_ble_eq_true rfl) dX14_count_60 ⟨Nat.le_of_ble_eq_true rfl, Nat.le_of_ble_eq_true rfl⟩) (fun z2 H locs hG => ?_)
  have hG : BW D κ (mw κ b E0 0) _ s H locs := hG
  refine lv_icmp_ge (tgt := 102) hx hb dX14_count_63 (by decide) (fun _ => ?_) (fun h63 => absurd (by decide) h63)
  refine lv_bipush (v := 6) hx hb dX14_count_102 (by decide) ?_
  refine W.eq (g2 := F0 m 104 ls [.int (nI 6)]) rfl ?_
  refine bw_nI hC hG (by decide) w47 (Nat.le_of_ble_eq_true rfl) (Nat.le_of_ble_eq_true rfl) dX14_count_104 (fun q1 H hG => ?_)
  have hG : BW D κ ((mw κ b E0 0) ++ [(q1, .inl (κ.1, 6, .inl (fun _ => 0)))]) _ s H locs := hG
  refine lv_dup hx hb dX14_count_106 rfl ?_
  refine lv_iconst (v := 0) hx hb dX14_count_107 (by decide) ?_
  refine lv_aload_n hx hb dX14_count_108 rfl (lv_at hl 3 rfl) ?_
  refine bw_get (C := RX14) (T := TX14) (N := 15) (ci := 9) (v := .ref (b 2)) 2 (by decide) 0 hC hG iwX14 rfl rfl w118 rfl rfl dX14_count_109 ?_
  have cut112 : Cut ((mw κ b E0 0) ++ [(q1, .inl (κ.1, 6, .inl (fun _ => 0)))]) (mw κ b E0 0) ([(q1, .inl (κ.1, 6, .inl (fun _ => 0)))]) := (Cut.idx [0, 1, 2, 3, 4, 5, 6, 7, 8] [9] rfl rfl (by decide) (by decide) (by decide))
  refine zc_i hG cut112 (zr_V (k := 2) (ci := 10) (n := 0) (As := []) (rest := [.int 0, .ref q1, .ref q1]) hC hG hE hT cut112 (z_26_size l hst D κ E0 H.size (b 2) (b 0) (b 1) (b 3) (b 4) (b 5) (b 6) (b 7) (b 8)) rfl rfl w179 w117 w182 w180 w181 (by decide +kernel) ⟨Nat.le_of_ble_eq_true rfl, Nat.le_of_ble_eq_true rfl⟩ rfl hl.1 rfl (Nat.le_of_ble_eq_true rfl) dX14_count_112 ⟨Nat.le_of_ble_eq_true rfl, Nat.le_of_ble_eq_true rfl⟩) (fun z3 H locs hG => ?_)
  have hG : BW D κ (([(q1, .inl (κ.1, 6, .inl (fun _ => 0)))]) ++ (mw κ b E0 0)) _ s H locs := hG
  refine zs_ast 0 hC hG rfl (vp_box (by have e0 : (0 : Int32).toInt = 0 := (by decide); omega) (by have e0 : (0 : Int32).toInt = 0 := (by decide); omega)) dX14_count_115 (fun H locs hG => ?_)
  have hG : BW D κ ((([(q1, .inl (κ.1, 6, .inl (fun _ => 0)))]) ++ (mw κ b E0 0) : va_W).set 0 (q1, .inl (κ.1, 6, .inl (va_up (fun _ => 0) ((0 : Int32).toNatClampNeg) 0)))) _ s H locs := hG
  refine lv_dup hx hb dX14_count_116 rfl ?_
  refine lv_iconst (v := 1) hx hb dX14_count_117 (by decide) ?_
  refine lv_iload_n hx hb dX14_count_118 rfl (lv_at hl 2 rfl) ?_
  refine zs_ast 0 hC hG rfl (vp_box (by have e0 : (1 : Int32).toInt = 1 := (by decide); omega) (by have e0 : (1 : Int32).toInt = 1 := (by decide); omega)) dX14_count_119 (fun H locs hG => ?_)
  have hG : BW D κ (((([(q1, .inl (κ.1, 6, .inl (fun _ => 0)))]) ++ (mw κ b E0 0) : va_W).set 0 (q1, .inl (κ.1, 6, .inl (va_up (fun _ => 0) ((0 : Int32).toNatClampNeg) 0))) : va_W).set 0 (q1, .inl (κ.1, 6, .inl (va_up (va_up (fun _ => 0) ((0 : Int32).toNatClampNeg) 0) ((1 : Int32).toNatClampNeg) 0)))) _ s H locs := hG
  refine lv_dup hx hb dX14_count_120 rfl ?_
  refine lv_iconst (v := 2) hx hb dX14_count_121 (by decide) ?_
  refine lv_iload_n hx hb dX14_count_122 rfl (lv_at hl 1 rfl) ?_
  refine zs_ast 0 hC hG rfl (vp_box (by have e0 : (2 : Int32).toInt = 2 := (by decide); omega) (by have e0 : (2 : Int32).toInt = 2 := (by decide); omega)) dX14_count_123 (fun H locs hG => ?_)
  have hG : BW D κ ((((([(q1, .inl (κ.1, 6, .inl (fun _ => 0)))]) ++ (mw κ b E0 0) : va_W).set 0 (q1, .inl (κ.1, 6, .inl (va_up (fun _ => 0) ((0 : Int32).toNatClampNeg) 0))) : va_W).set 0 (q1, .inl (κ.1, 6, .inl (va_up (va_up (fun _ => 0) ((0 : Int32).toNatClampNeg) 0) ((1 : Int32).toNatClampNeg) 0))) : va_W).set 0 (q1, .inl (κ.1, 6, .inl (va_up (va_up (va_up (fun _ => 0) ((0 : Int32).toNatClampNeg) 0) ((1 : Int32).toNatClampNeg) 0) ((2 : Int32).toNatClampNeg) 0)))) _ s H locs := hG
  refine lv_dup hx hb dX14_count_124 rfl ?_
  refine lv_iconst (v := 3) hx hb dX14_count_125 (by decide) ?_
  refine lv_aload_n hx hb dX14_count_126 rfl (lv_at hl 3 rfl) ?_
  refine bw_get (C := RX14) (T := TX14) (N := 15) (ci := 9) (v := .ref (b 5)) 5 (by decide) 1 hC hG iwX14 rfl rfl w121 rfl rfl dX14_count_127 ?_
  have cut130 : Cut ((((([(q1, .inl (κ.1, 6, .inl (fun _ => 0)))]) ++ (mw κ b E0 0) : va_W).set 0 (q1, .inl (κ.1, 6, .inl (va_up (fun _ => 0) ((0 : Int32).toNatClampNeg) 0))) : va_W).set 0 (q1, .inl (κ.1, 6, .inl (va_up (va_up (fun _ => 0) ((0 : Int32).toNatClampNeg) 0) ((1 : Int32).toNatClampNeg) 0))) : va_W).set 0 (q1, .inl (κ.1, 6, .inl (va_up (va_up (va_up (fun _ => 0) ((0 : Int32).toNatClampNeg) 0) ((1 : Int32).toNatClampNeg) 0) ((2 : Int32).toNatClampNeg) 0)))) (mw κ b E0 0) ([(q1, .inl (κ.1, 6, .inl (va_up (va_up (va_up (fun _ => 0) ((0 : Int32).toNatClampNeg) 0) ((1 : Int32).toNatClampNeg) 0) ((2 : Int32).toNatClampNeg) 0)))]) := (Cut.idx [1, 2, 3, 4, 5, 6, 7, 8, 9] [0] rfl rfl (by decide) (by decide) (by decide))
  refine zc_i hG cut130 (zr_V (k := 6) (ci := 10) (n := 0) (As := []) (rest := [.int 3, .ref q1, .ref q1]) hC hG hE hT cut130 (z_110_size l hst D κ E0 H.size (b 5) (b 0) (b 1) (b 2) (b 3) (b 4) (b 6) (b 7) (b 8)) rfl rfl w179 w117 w182 w180 w181 (by decide +kernel) ⟨Nat.le_of_ble_eq_true rfl, Nat.le_of_ble_eq_true rfl⟩ rfl hl.1 rfl (Nat.le_of_ble_eq_true rfl) dX14_count_130 ⟨Nat.le_of_ble_eq_true rfl, Nat.le_of_ble_eq_true rfl⟩) (fun z4 H locs hG => ?_)
  have hG : BW D κ (([(q1, .inl (κ.1, 6, .inl (va_up (va_up (va_up (fun _ => 0) ((0 : Int32).toNatClampNeg) 0) ((1 : Int32).toNatClampNeg) 0) ((2 : Int32).toNatClampNeg) 0)))]) ++ (mw κ b E0 0)) _ s H locs := hG
  refine zs_ast 0 hC hG rfl (vp_box (by have e0 : (3 : Int32).toInt = 3 := (by decide); omega) (by have e0 : (3 : Int32).toInt = 3 := (by decide); omega)) dX14_count_133 (fun H locs hG => ?_)
  have hG : BW D κ ((([(q1, .inl (κ.1, 6, .inl (va_up (va_up (va_up (fun _ => 0) ((0 : Int32).toNatClampNeg) 0) ((1 : Int32).toNatClampNeg) 0) ((2 : Int32).toNatClampNeg) 0)))]) ++ (mw κ b E0 0) : va_W).set 0 (q1, .inl (κ.1, 6, .inl (va_up (va_up (va_up (va_up (fun _ => 0) ((0 : Int32).toNatClampNeg) 0) ((1 : Int32).toNatClampNeg) 0) ((2 : Int32).toNatClampNeg) 0) ((3 : Int32).toNatClampNeg) 0)))) _ s H locs := hG
  refine lv_dup hx hb dX14_count_134 rfl ?_
  refine lv_iconst (v := 4) hx hb dX14_count_135 (by decide) ?_
  refine lv_aload_n hx hb dX14_count_136 rfl (lv_at hl 3 rfl) ?_
  refine bw_get (C := RX14) (T := TX14) (N := 15) (ci := 9) (v := .int 0) 9 (by decide) 1 hC hG iwX14 rfl rfl w332 rfl rfl dX14_count_137 ?_
  refine zs_ast 0 hC hG rfl (vp_box (by have e0 : (4 : Int32).toInt = 4 := (by decide); omega) (by have e0 : (4 : Int32).toInt = 4 := (by decide); omega)) dX14_count_140 (fun H locs hG => ?_)
  have hG : BW D κ (((([(q1, .inl (κ.1, 6, .inl (va_up (va_up (va_up (fun _ => 0) ((0 : Int32).toNatClampNeg) 0) ((1 : Int32).toNatClampNeg) 0) ((2 : Int32).toNatClampNeg) 0)))]) ++ (mw κ b E0 0) : va_W).set 0 (q1, .inl (κ.1, 6, .inl (va_up (va_up (va_up (va_up (fun _ => 0) ((0 : Int32).toNatClampNeg) 0) ((1 : Int32).toNatClampNeg) 0) ((2 : Int32).toNatClampNeg) 0) ((3 : Int32).toNatClampNeg) 0))) : va_W).set 0 (q1, .inl (κ.1, 6, .inl (va_up (va_up (va_up (va_up (va_up (fun _ => 0) ((0 : Int32).toNatClampNeg) 0) ((1 : Int32).toNatClampNeg) 0) ((2 : Int32).toNatClampNeg) 0) ((3 : Int32).toNatClampNeg) 0) ((4 : Int32).toNatClampNeg) 0)))) _ s H locs := hG
  refine lv_dup hx hb dX14_count_141 rfl ?_
  refine lv_iconst (v := 5) hx hb dX14_count_142 (by decide) ?_
  refine lv_aload_n hx hb dX14_count_143 rfl (lv_at hl 3 rfl) ?_
  refine bw_get (C := RX14) (T := TX14) (N := 15) (ci := 9) (v := .int (-1)) 10 (by decide) 1 hC hG iwX14 rfl rfl w124 rfl rfl dX14_count_144 ?_
  refine zs_ast 0 hC hG rfl (vp_box (by have e0 : (5 : Int32).toInt = 5 := (by decide); omega) (by have e0 : (5 : Int32).toInt = 5 := (by decide); omega)) dX14_count_147 (fun H locs hG => ?_)
  have hG : BW D κ ((((([(q1, .inl (κ.1, 6, .inl (va_up (va_up (va_up (fun _ => 0) ((0 : Int32).toNatClampNeg) 0) ((1 : Int32).toNatClampNeg) 0) ((2 : Int32).toNatClampNeg) 0)))]) ++ (mw κ b E0 0) : va_W).set 0 (q1, .inl (κ.1, 6, .inl (va_up (va_up (va_up (va_up (fun _ => 0) ((0 : Int32).toNatClampNeg) 0) ((1 : Int32).toNatClampNeg) 0) ((2 : Int32).toNatClampNeg) 0) ((3 : Int32).toNatClampNeg) 0))) : va_W).set 0 (q1, .inl (κ.1, 6, .inl (va_up (va_up (va_up (va_up (va_up (fun _ => 0) ((0 : Int32).toNatClampNeg) 0) ((1 : Int32).toNatClampNeg) 0) ((2 : Int32).toNatClampNeg) 0) ((3 : Int32).toNatClampNeg) 0) ((4 : Int32).toNatClampNeg) 0))) : va_W).set 0 (q1, .inl (κ.1, 6, .inl (va_up (va_up (va_up (va_up (va_up (va_up (fun _ => 0) ((0 : Int32).toNatClampNeg) 0) ((1 : Int32).toNatClampNeg) 0) ((2 : Int32).toNatClampNeg) 0) ((3 : Int32).toNatClampNeg) 0) ((4 : Int32).toNatClampNeg) 0) ((5 : Int32).toNatClampNeg) (-1))))) _ s H locs := hG
  refine lv_astore (lv' := [(4, .ref q1), (3, .int 0), (2, .int 0), (0, .ref (b 0)), (1, .int 1)]) hx hb dX14_count_148 hl (by decide) rfl (fun ls hl => ?_)
  refine lv_aload hx hb dX14_count_150 (lv_at hl 0 rfl) ?_
  refine lv_iload_n hx hb dX14_count_152 rfl (lv_at hl 4 rfl) ?_
  refine zs_ald 0 (v := 0) hC hG rfl (vp_box (by have e0 : (1 : Int32).toInt = 1 := (by decide); omega) (by have e0 : (1 : Int32).toInt = 1 := (by decide); omega)) rfl dX14_count_153 ?_
  have hG := hG.at (ws' := mw κ b E0 0) [1, 2, 3, 4, 5, 6, 7, 8, 9] (by decide) rfl
  exact ze_i (qs := fun _ => 0) hC hG rfl rfl hr rfl hk (Nat.le_of_ble_eq_true rfl) (Nat.le_of_ble_eq_true rfl) dX14_count_154
set_option maxHeartbeats 4000000 in
set_option maxRecDepth 100000 in
theorem z_194_many (l : Launch) (hst : l.stackTraces = false) (D : va_G) (κ : K4) (E0 : Nat) (sz : Nat) (b : Nat → Nat) : NM l yX14_many cX14_many 2 (some .int) 2 44 1 6 E0 D κ (mw κ b E0 0) sz [.ref (b 0), .int 1] (QI D κ (mw κ b E0 0) sz 0 (fun qs : W1 => mw κ b E0 0)) := by
  refine NM.of (by decide +kernel) (Nat.le_of_ble_eq_true rfl) ?_
  intro p e s m below meth c ls hC hr hk hin hsz hE hT H locs hG hl
  have hx := hC.1
  have hb := hC.2.1
  have hl : lv_has ls 2 [(0, .ref (b 0)), (1, .int 1)] := hl
  refine lv_aload_n hx hb dX14_many_0 rfl (lv_at hl 0 rfl) ?_
  refine lv_iload_n hx hb dX14_many_1 rfl (lv_at hl 1 rfl) ?_
  refine lv_iconst (v := 0) hx hb dX14_many_2 (by decide) ?_
  refine lv_iconst (v := 5) hx hb dX14_many_3 (by decide) ?_
  have cut4 : Cut (mw κ b E0 0) (mw κ b E0 0) ([]) := (Cut.all 9 rfl (by decide))
  refine zc_i hG cut4 (zr_S (n := 3) (As := [.int 1, .int 0, .int 5]) (rest := [.ref (b 0)]) hC hG hE hT cut4 (z_192_isIn l hst D κ E0 H.size b) w167 w5 w169 w168 (by decide +kernel) ⟨Nat.le_of_ble_eq_true rfl, Nat.le_of_ble_eq_true rfl⟩ rfl hl.1 rfl (Nat.le_of_ble_eq_true rfl) dX14_many_4 ⟨Nat.le_of_ble_eq_true rfl, Nat.le_of_ble_eq_true rfl⟩) (fun z1 H locs hG => ?_)
  have hG : BW D κ (mw κ b E0 0) _ s H locs := hG
  refine lv_if_ne (tgt := 14) hx hb dX14_many_7 (by decide) (fun _ => ?_) (fun h7 => absurd h7 (by decide))
  refine lv_iconst (v := 0) hx hb dX14_many_14 (by decide) ?_
  refine lv_iconst (v := 1) hx hb dX14_many_15 (by decide) ?_
  have cut16 : Cut (mw κ b E0 0) (mw κ b E0 0) ([]) := (Cut.all 9 rfl (by decide))
  refine zc_i hG cut16 (zr_V (k := 0) (ci := 9) (n := 2) (As := [.int 0, .int 1]) (rest := []) hC hG hE hT cut16 (z_25_start l hst D κ E0 H.size b) rfl rfl w170 w5 w173 w171 w172 (by decide +kernel) ⟨Nat.le_of_ble_eq_true rfl, Nat.le_of_ble_eq_true rfl⟩ rfl hl.1 rfl (Nat.le_of_ble_eq_true rfl) dX14_many_16 ⟨Nat.le_of_ble_eq_true rfl, Nat.le_of_ble_eq_true rfl⟩) (fun z2 H locs hG => ?_)
  have hG : BW D κ (mw κ b E0 0) _ s H locs := hG
  refine lv_if_eq (tgt := 26) hx hb dX14_many_19 (by decide) (fun _ => ?_) (fun h19 => absurd (by decide) h19)
  refine lv_aload_n hx hb dX14_many_26 rfl (lv_at hl 0 rfl) ?_
  refine lv_iload_n hx hb dX14_many_27 rfl (lv_at hl 1 rfl) ?_
  have cut28 : Cut (mw κ b E0 0) (mw κ b E0 0) ([]) := (Cut.all 9 rfl (by decide))
  refine zc_i hG cut28 (zr_V (k := 0) (ci := 9) (n := 1) (As := [.int 1]) (rest := []) hC hG hE hT cut28 (z_193_count l hst D κ E0 H.size b) rfl rfl w1074 w5 w1077 w1075 w1076 (by decide +kernel) ⟨Nat.le_of_ble_eq_true rfl, Nat.le_of_ble_eq_true rfl⟩ rfl hl.1 rfl (Nat.le_of_ble_eq_true rfl) dX14_many_28 ⟨Nat.le_of_ble_eq_true rfl, Nat.le_of_ble_eq_true rfl⟩) (fun z3 H locs hG => ?_)
  have hG : BW D κ (mw κ b E0 0) _ s H locs := hG
  exact ze_i (qs := fun _ => 0) hC hG rfl rfl hr rfl hk (Nat.le_of_ble_eq_true rfl) (Nat.le_of_ble_eq_true rfl) dX14_many_31
theorem dX2_countOpen_0 : decode cX2_countOpen 0 = .ok (.iconst 0, 1) := by decide +kernel
theorem dX2_countOpen_1 : decode cX2_countOpen 1 = .ok (.istore_n 2, 1) := by decide +kernel
theorem dX2_countOpen_2 : decode cX2_countOpen 2 = .ok (.iconst 0, 1) := by decide +kernel
theorem dX2_countOpen_3 : decode cX2_countOpen 3 = .ok (.istore_n 3, 1) := by decide +kernel
theorem dX2_countOpen_30 : decode cX2_countOpen 30 = .ok (.iload_n 2, 1) := by decide +kernel
theorem dX2_countOpen_31 : decode cX2_countOpen 31 = .ok (.ireturn, 1) := by decide +kernel
theorem dX2_countOpen_4 : decode cX2_countOpen 4 = .ok (.iload_n 3, 1) := by decide +kernel
theorem dX2_countOpen_5 : decode cX2_countOpen 5 = .ok (.aload_n 0, 1) := by decide +kernel
theorem dX2_countOpen_6 : decode cX2_countOpen 6 = .ok (.getfield 25, 3) := by decide +kernel
theorem dX2_countOpen_9 : decode cX2_countOpen 9 = .ok (.if_icmp .ge 21, 3) := by decide +kernel
set_option maxHeartbeats 4000000 in
set_option maxRecDepth 100000 in
theorem z_195_countOpen (l : Launch) (hst : l.stackTraces = false) (D : va_G) (κ : K4) (E0 : Nat) (sz : Nat) (a : Nat → Nat) : NM l yX2_countOpen cX2_countOpen 4 (some .int) 0 0 0 0 E0 D κ (xw κ a) sz [.ref (a 23), .int 0] (QI D κ (xw κ a) sz 0 (fun qs : W1 => xw κ a)) := by
  refine NM.of (by decide +kernel) (Nat.le_of_ble_eq_true rfl) ?_
  intro p e s m below meth c ls hC hr hk hin hsz hE hT H locs hG hl
  have hx := hC.1
  have hb := hC.2.1
  have hl : lv_has ls 4 [(0, .ref (a 23)), (1, .int 0)] := hl
  refine lv_iconst (v := 0) hx hb dX2_countOpen_0 (by decide) ?_
  refine lv_istore_n (lv' := [(2, .int 0), (0, .ref (a 23)), (1, .int 0)]) hx hb dX2_countOpen_1 rfl hl (by decide) rfl (fun ls hl => ?_)
  refine lv_iconst (v := 0) hx hb dX2_countOpen_2 (by decide) ?_
  refine lv_istore_n (lv' := [(3, .int 0), (2, .int 0), (0, .ref (a 23)), (1, .int 0)]) hx hb dX2_countOpen_3 rfl hl (by decide) rfl (fun ls hl => ?_)
  refine lv_iload_n hx hb dX2_countOpen_4 rfl (lv_at hl 0 rfl) ?_
  refine lv_aload_n hx hb dX2_countOpen_5 rfl (lv_at hl 2 rfl) ?_
  refine bw_get (C := RX2) (T := TX2) (N := 5) (ci := 2) (v := .int 0) 4 (by decide) 23 hC hG iwX2 (xw_23 κ a) rfl w92 rfl rfl dX2_countOpen_6 ?_
  refine lv_icmp_ge (tgt := 30) hx hb dX2_countOpen_9 (by decide) (fun _ => ?_) (fun h9 => absurd (by decide) h9)
  refine lv_iload_n hx hb dX2_countOpen_30 rfl (lv_at hl 1 rfl) ?_
  exact ze_i (qs := fun _ => 0) hC hG rfl rfl hr rfl hk (Nat.le_of_ble_eq_true rfl) (Nat.le_of_ble_eq_true rfl) dX2_countOpen_31
theorem dX7_many_56 : decode cX7_many 56 = .ok (.aload_n 0, 1) := by decide +kernel
theorem dX7_many_57 : decode cX7_many 57 = .ok (.getfield 33, 3) := by decide +kernel
theorem dX7_many_60 : decode cX7_many 60 = .ok (.aload_n 0, 1) := by decide +kernel
theorem dX7_many_61 : decode cX7_many 61 = .ok (.getfield 67, 3) := by decide +kernel
theorem dX7_many_64 : decode cX7_many 64 = .ok (.invokevirtual 340, 3) := by decide +kernel
theorem dX7_many_67 : decode cX7_many 67 = .ok (.ireturn, 1) := by decide +kernel
set_option maxHeartbeats 4000000 in
set_option maxRecDepth 100000 in
theorem z_196_many (l : Launch) (hst : l.stackTraces = false) (D : va_G) (κ : K4) (E0 : Nat) (sz : Nat) (a : Nat → Nat) : NM l yX7_many cX7_many 2 (some .int) 1 23 0 0 E0 D κ (xw κ a) sz [.ref (a 0), .int 2] (QI D κ (xw κ a) sz 0 (fun qs : W1 => xw κ a)) := by
  refine NM.of (by decide +kernel) (Nat.le_of_ble_eq_true rfl) ?_
  intro p e s m below meth c ls hC hr hk hin hsz hE hT H locs hG hl
  have hx := hC.1
  have hb := hC.2.1
  have hl : lv_has ls 2 [(0, .ref (a 0)), (1, .int 2)] := hl
  refine lv_iload_n hx hb dX7_many_0 rfl (lv_at hl 1 rfl) ?_
  refine lv_tableIn (off := 55) (tgt := 56) hx hb dX7_many_1 (by decide) (by decide) (by decide) (by decide) ?_
  refine lv_aload_n hx hb dX7_many_56 rfl (lv_at hl 0 rfl) ?_
  refine bw_get (C := RX7) (T := TX7) (N := 10) (ci := 7) (v := .ref (a 23)) 3 (by decide) 0 hC hG iwX7 (xw_0 κ a) rfl w28 rfl rfl dX7_many_57 ?_
  refine lv_aload_n hx hb dX7_many_60 rfl (lv_at hl 0 rfl) ?_
  refine bw_get (C := RX7) (T := TX7) (N := 10) (ci := 7) (v := .int 0) 9 (by decide) 0 hC hG iwX7 (xw_0 κ a) rfl w43 rfl rfl dX7_many_61 ?_
  have cut64 : Cut (xw κ a) (xw κ a) ([]) := (Cut.all 45 rfl (by decide))
  refine zc_i hG cut64 (zr_V (k := 23) (ci := 2) (n := 1) (As := [.int 0]) (rest := []) hC hG hE hT cut64 (z_195_countOpen l hst D κ E0 H.size a) rfl rfl w1066 w27 w1069 w1067 w1068 (by decide +kernel) ⟨Nat.le_of_ble_eq_true rfl, Nat.le_of_ble_eq_true rfl⟩ rfl hl.1 rfl (Nat.le_of_ble_eq_true rfl) dX7_many_64 ⟨Nat.le_of_ble_eq_true rfl, Nat.le_of_ble_eq_true rfl⟩) (fun z1 H locs hG => ?_)
  have hG : BW D κ (xw κ a) _ s H locs := hG
  exact ze_i (qs := fun _ => 0) hC hG rfl rfl hr rfl hk (Nat.le_of_ble_eq_true rfl) (Nat.le_of_ble_eq_true rfl) dX7_many_67
set_option maxHeartbeats 4000000 in
set_option maxRecDepth 100000 in
theorem z_197_many (l : Launch) (hst : l.stackTraces = false) (D : va_G) (κ : K4) (E0 : Nat) (sz : Nat) (a : Nat → Nat) (o : Nat) : NH l yL_many cL_many 4 (some .int) [(0, 9, 12, 13)] 2 44 0 0 E0 D κ (xw κ a ++ [(o, .inl (κ.2.1, 1, .inr (.inl (fun _ => 0))))]) sz [.ref (a 0), .int 2, .ref o] (QI D κ (xw κ a ++ [(o, .inl (κ.2.1, 1, .inr (.inl (fun _ => 0))))]) sz 0 (fun qs : W1 => [(o, .inl (κ.2.1, 1, .inr (.inl (va_up (fun _ => 0) ((0 : Int32).toNatClampNeg) 0))))])) := by
  refine NH.of (by decide +kernel) (Nat.le_of_ble_eq_true rfl) ?_
  intro p e s m below meth c ls hC hr hk htab hsz hE hT H locs hG hl
  have hx := hC.1
  have hb := hC.2.1
  have hl : lv_has ls 4 [(0, .ref (a 0)), (1, .int 2), (2, .ref o)] := hl
  refine lv_aload_n hx hb dL_many_0 rfl (lv_at hl 2 rfl) ?_
  refine lv_iconst (v := 0) hx hb dL_many_1 (by decide) ?_
  refine lv_aload_n hx hb dL_many_2 rfl (lv_at hl 0 rfl) ?_
  refine lv_iload_n hx hb dL_many_3 rfl (lv_at hl 1 rfl) ?_
  have cut4 : Cut (xw κ a ++ [(o, .inl (κ.2.1, 1, .inr (.inl (fun _ => 0))))]) (xw κ a) ([(o, .inl (κ.2.1, 1, .inr (.inl (fun _ => 0))))]) := (Cut.one 45 rfl (by decide))
  refine zc_i hG cut4 (zr_V (k := 0) (ci := 7) (n := 1) (As := [.int 2]) (rest := [.int 0, .ref o]) hC hG hE hT cut4 (z_196_many l hst D κ E0 H.size a) rfl rfl w1058 w2 w1061 w1059 w1060 (by decide +kernel) ⟨Nat.le_of_ble_eq_true rfl, Nat.le_of_ble_eq_true rfl⟩ rfl hl.1 rfl (Nat.le_of_ble_eq_true rfl) dL_many_4 ⟨Nat.le_of_ble_eq_true rfl, Nat.le_of_ble_eq_true rfl⟩) (fun z1 H locs hG => ?_)
  have hG : BW D κ (([(o, .inl (κ.2.1, 1, .inr (.inl (fun _ => 0))))]) ++ (xw κ a)) _ s H locs := hG
  refine lv_i2l (v := 0) hx hb dL_many_7 (by decide) ?_
  refine zs_lst 0 hC hG rfl (vp_box (by have e0 : (0 : Int32).toInt = 0 := (by decide); omega) (by have e0 : (0 : Int32).toInt = 0 := (by decide); omega)) dL_many_8 (fun H locs hG => ?_)
  have hG : BW D κ ((([(o, .inl (κ.2.1, 1, .inr (.inl (fun _ => 0))))]) ++ (xw κ a) : va_W).set 0 (o, .inl (κ.2.1, 1, .inr (.inl (va_up (fun _ => 0) ((0 : Int32).toNatClampNeg) 0))))) _ s H locs := hG
  refine lv_goto (tgt := 15) hx hb dL_many_9 (by decide) ?_
  refine lv_iconst (v := 0) hx hb dL_many_15 (by decide) ?_
  have hG := hG.at (ws' := [(o, .inl (κ.2.1, 1, .inr (.inl (va_up (fun _ => 0) ((0 : Int32).toNatClampNeg) 0))))]) [0] (by decide) rfl
  exact ze_i (qs := fun _ => 0) hC hG rfl rfl hr rfl hk (Nat.le_of_ble_eq_true rfl) (Nat.le_of_ble_eq_true rfl) dL_many_16
set_option maxHeartbeats 4000000 in
set_option maxRecDepth 100000 in
theorem z_198_isIn (l : Launch) (hst : l.stackTraces = false) (D : va_G) (κ : K4) (E0 : Nat) (sz : Nat) (b : Nat → Nat) : NM l yX14_isIn cX14_isIn 3 (some .boolean) 0 0 0 0 E0 D κ (mw κ b E0 0) sz [.int 2, .int 0, .int 5] (QI D κ (mw κ b E0 0) sz 1 (fun qs : W1 => mw κ b E0 0)) := by
  refine NM.of (by decide +kernel) (Nat.le_of_ble_eq_true rfl) ?_
  intro p e s m below meth c ls hC hr hk hin hsz hE hT H locs hG hl
  have hx := hC.1
  have hb := hC.2.1
  have hl : lv_has ls 3 [(0, .int 2), (1, .int 0), (2, .int 5)] := hl
  refine lv_iload_n hx hb dX14_isIn_0 rfl (lv_at hl 0 rfl) ?_
  refine lv_iload_n hx hb dX14_isIn_1 rfl (lv_at hl 1 rfl) ?_
  refine lv_icmp_lt (tgt := 14) hx hb dX14_isIn_2 (by decide) (fun h2 => absurd h2 (by decide)) (fun _ => ?_)
  refine lv_iload_n hx hb dX14_isIn_5 rfl (lv_at hl 0 rfl) ?_
  refine lv_iload_n hx hb dX14_isIn_6 rfl (lv_at hl 2 rfl) ?_
  refine lv_icmp_gt (tgt := 14) hx hb dX14_isIn_7 (by decide) (fun h7 => absurd h7 (by decide)) (fun _ => ?_)
  refine lv_iconst (v := 1) hx hb dX14_isIn_10 (by decide) ?_
  refine lv_goto (tgt := 15) hx hb dX14_isIn_11 (by decide) ?_
  exact ze_i (qs := fun _ => 0) hC hG rfl rfl hr rfl hk (Nat.le_of_ble_eq_true rfl) (Nat.le_of_ble_eq_true rfl) dX14_isIn_15
set_option maxHeartbeats 4000000 in
set_option maxRecDepth 100000 in
theorem z_199_count (l : Launch) (hst : l.stackTraces = false) (D : va_G) (κ : K4) (E0 : Nat) (sz : Nat) (b : Nat → Nat) : NM l yX14_count cX14_count 5 (some .int) 1 20 1 6 E0 D κ (mw κ b E0 0) sz [.ref (b 0), .int 2] (QI D κ (mw κ b E0 0) sz 0 (fun qs : W1 => mw κ b E0 0)) := by
  refine NM.of (by decide +kernel) (Nat.le_of_ble_eq_true rfl) ?_
  intro p e s m below meth c ls hC hr hk hin hsz hE hT H locs hG hl
  have hx := hC.1
  have hb := hC.2.1
  have hl : lv_has ls 5 [(0, .ref (b 0)), (1, .int 2)] := hl
  refine lv_iconst (v := 0) hx hb dX14_count_0 (by decide) ?_
  refine lv_istore_n (lv' := [(2, .int 0), (0, .ref (b 0)), (1, .int 2)]) hx hb dX14_count_1 rfl hl (by decide) rfl (fun ls hl => ?_)
  refine lv_iconst (v := 0) hx hb dX14_count_2 (by decide) ?_
  refine lv_istore_n (lv' := [(3, .int 0), (2, .int 0), (0, .ref (b 0)), (1, .int 2)]) hx hb dX14_count_3 rfl hl (by decide) rfl (fun ls hl => ?_)
  refine lv_iconst (v := 0) hx hb dX14_count_4 (by decide) ?_
  refine lv_istore (lv' := [(4, .int 0), (3, .int 0), (2, .int 0), (0, .ref (b 0)), (1, .int 2)]) hx hb dX14_count_5 hl (by decide) rfl (fun ls hl => ?_)
  refine lv_iload hx hb dX14_count_7 (lv_at hl 0 rfl) ?_
  refine lv_aload_n hx hb dX14_count_9 rfl (lv_at hl 3 rfl) ?_
  refine bw_get (C := RX14) (T := TX14) (N := 15) (ci := 9) (v := .ref (b 3)) 3 (by decide) 0 hC hG iwX14 rfl rfl w119 rfl rfl dX14_count_10 ?_
  have cut13 : Cut (mw κ b E0 0) (mw κ b E0 0) ([]) := (Cut.all 9 rfl (by decide))
  refine zc_i hG cut13 (zr_V (k := 3) (ci := 10) (n := 0) (As := []) (rest := [.int 0]) hC hG hE hT cut13 (z_74_size l hst D κ E0 H.size (b 3) (b 0) (b 1) (b 2) (b 4) (b 5) (b 6) (b 7) (b 8)) rfl rfl w179 w117 w182 w180 w181 (by decide +kernel) ⟨Nat.le_of_ble_eq_true rfl, Nat.le_of_ble_eq_true rfl⟩ rfl hl.1 rfl (Nat.le_of_ble_eq_true rfl) dX14_count_13 ⟨Nat.le_of_ble_eq_true rfl, Nat.le_of_ble_eq_true rfl⟩) (fun z1 H locs hG => ?_)
  have hG : BW D κ (mw κ b E0 0) _ s H locs := hG
  refine lv_icmp_ge (tgt := 51) hx hb dX14_count_16 (by decide) (fun _ => ?_) (fun h16 => absurd (by decide) h16)
  refine lv_iconst (v := 0) hx hb dX14_count_51 (by decide) ?_
  refine lv_istore (lv' := [(4, .int 0), (3, .int 0), (2, .int 0), (0, .ref (b 0)), (1, .int 2)]) hx hb dX14_count_52 hl (by decide) rfl (fun ls hl => ?_)
  refine lv_iload hx hb dX14_count_54 (lv_at hl 0 rfl) ?_
  refine lv_aload_n hx hb dX14_count_56 rfl (lv_at hl 3 rfl) ?_
  refine bw_get (C := RX14) (T := TX14) (N := 15) (ci := 9) (v := .ref (b 4)) 4 (by decide) 0 hC hG iwX14 rfl rfl w120 rfl rfl dX14_count_57 ?_
  have cut60 : Cut (mw κ b E0 0) (mw κ b E0 0) ([]) := (Cut.all 9 rfl (by decide))
  refine zc_i hG cut60 (zr_V (k := 4) (ci := 10) (n := 0) (As := []) (rest := [.int 0]) hC hG hE hT cut60 (z_90_size l hst D κ E0 H.size (b 4) (b 0) (b 1) (b 2) (b 3) (b 5) (b 6) (b 7) (b 8)) rfl rfl w179 w117 w182 w180 w181 (by decide +kernel) ⟨Nat.le_of_ble_eq_true rfl, Nat.le_of_ble_eq_true rfl⟩ rfl hl.1 rfl (Nat.le_of_ble_eq_true rfl) dX14_count_60 ⟨Nat.le_of_ble_eq_true rfl, Nat.le_of_ble_eq_true rfl⟩) (fun z2 H locs hG => ?_)
  have hG : BW D κ (mw κ b E0 0) _ s H locs := hG
  refine lv_icmp_ge (tgt := 102) hx hb dX14_count_63 (by decide) (fun _ => ?_) (fun h63 => absurd (by decide) h63)
  refine lv_bipush (v := 6) hx hb dX14_count_102 (by decide) ?_
  refine W.eq (g2 := F0 m 104 ls [.int (nI 6)]) rfl ?_
  refine bw_nI hC hG (by decide) w47 (Nat.le_of_ble_eq_true rfl) (Nat.le_of_ble_eq_true rfl) dX14_count_104 (fun q1 H hG => ?_)
  have hG : BW D κ ((mw κ b E0 0) ++ [(q1, .inl (κ.1, 6, .inl (fun _ => 0)))]) _ s H locs := hG
  refine lv_dup hx hb dX14_count_106 rfl ?_
  refine lv_iconst (v := 0) hx hb dX14_count_107 (by decide) ?_
  refine lv_aload_n hx hb dX14_count_108 rfl (lv_at hl 3 rfl) ?_
  refine bw_get (C := RX14) (T := TX14) (N := 15) (ci := 9) (v := .ref (b 2)) 2 (by decide) 0 hC hG iwX14 rfl rfl w118 rfl rfl dX14_count_109 ?_
  have cut112 : Cut ((mw κ b E0 0) ++ [(q1, .inl (κ.1, 6, .inl (fun _ => 0)))]) (mw κ b E0 0) ([(q1, .inl (κ.1, 6, .inl (fun _ => 0)))]) := (Cut.idx [0, 1, 2, 3, 4, 5, 6, 7, 8] [9] rfl rfl (by decide) (by decide) (by decide))
  refine zc_i hG cut112 (zr_V (k := 2) (ci := 10) (n := 0) (As := []) (rest := [.int 0, .ref q1, .ref q1]) hC hG hE hT cut112 (z_26_size l hst D κ E0 H.size (b 2) (b 0) (b 1) (b 3) (b 4) (b 5) (b 6) (b 7) (b 8)) rfl rfl w179 w117 w182 w180 w181 (by decide +kernel) ⟨Nat.le_of_ble_eq_true rfl, Nat.le_of_ble_eq_true rfl⟩ rfl hl.1 rfl (Nat.le_of_ble_eq_true rfl) dX14_count_112 ⟨Nat.le_of_ble_eq_true rfl, Nat.le_of_ble_eq_true rfl⟩) (fun z3 H locs hG => ?_)
  have hG : BW D κ (([(q1, .inl (κ.1, 6, .inl (fun _ => 0)))]) ++ (mw κ b E0 0)) _ s H locs := hG
  refine zs_ast 0 hC hG rfl (vp_box (by have e0 : (0 : Int32).toInt = 0 := (by decide); omega) (by have e0 : (0 : Int32).toInt = 0 := (by decide); omega)) dX14_count_115 (fun H locs hG => ?_)
  have hG : BW D κ ((([(q1, .inl (κ.1, 6, .inl (fun _ => 0)))]) ++ (mw κ b E0 0) : va_W).set 0 (q1, .inl (κ.1, 6, .inl (va_up (fun _ => 0) ((0 : Int32).toNatClampNeg) 0)))) _ s H locs := hG
  refine lv_dup hx hb dX14_count_116 rfl ?_
  refine lv_iconst (v := 1) hx hb dX14_count_117 (by decide) ?_
  refine lv_iload_n hx hb dX14_count_118 rfl (lv_at hl 2 rfl) ?_
  refine zs_ast 0 hC hG rfl (vp_box (by have e0 : (1 : Int32).toInt = 1 := (by decide); omega) (by have e0 : (1 : Int32).toInt = 1 := (by decide); omega)) dX14_count_119 (fun H locs hG => ?_)
  have hG : BW D κ (((([(q1, .inl (κ.1, 6, .inl (fun _ => 0)))]) ++ (mw κ b E0 0) : va_W).set 0 (q1, .inl (κ.1, 6, .inl (va_up (fun _ => 0) ((0 : Int32).toNatClampNeg) 0))) : va_W).set 0 (q1, .inl (κ.1, 6, .inl (va_up (va_up (fun _ => 0) ((0 : Int32).toNatClampNeg) 0) ((1 : Int32).toNatClampNeg) 0)))) _ s H locs := hG
  refine lv_dup hx hb dX14_count_120 rfl ?_
  refine lv_iconst (v := 2) hx hb dX14_count_121 (by decide) ?_
  refine lv_iload_n hx hb dX14_count_122 rfl (lv_at hl 1 rfl) ?_
  refine zs_ast 0 hC hG rfl (vp_box (by have e0 : (2 : Int32).toInt = 2 := (by decide); omega) (by have e0 : (2 : Int32).toInt = 2 := (by decide); omega)) dX14_count_123 (fun H locs hG => ?_)
  have hG : BW D κ ((((([(q1, .inl (κ.1, 6, .inl (fun _ => 0)))]) ++ (mw κ b E0 0) : va_W).set 0 (q1, .inl (κ.1, 6, .inl (va_up (fun _ => 0) ((0 : Int32).toNatClampNeg) 0))) : va_W).set 0 (q1, .inl (κ.1, 6, .inl (va_up (va_up (fun _ => 0) ((0 : Int32).toNatClampNeg) 0) ((1 : Int32).toNatClampNeg) 0))) : va_W).set 0 (q1, .inl (κ.1, 6, .inl (va_up (va_up (va_up (fun _ => 0) ((0 : Int32).toNatClampNeg) 0) ((1 : Int32).toNatClampNeg) 0) ((2 : Int32).toNatClampNeg) 0)))) _ s H locs := hG
  refine lv_dup hx hb dX14_count_124 rfl ?_
  refine lv_iconst (v := 3) hx hb dX14_count_125 (by decide) ?_
  refine lv_aload_n hx hb dX14_count_126 rfl (lv_at hl 3 rfl) ?_
  refine bw_get (C := RX14) (T := TX14) (N := 15) (ci := 9) (v := .ref (b 5)) 5 (by decide) 1 hC hG iwX14 rfl rfl w121 rfl rfl dX14_count_127 ?_
  have cut130 : Cut ((((([(q1, .inl (κ.1, 6, .inl (fun _ => 0)))]) ++ (mw κ b E0 0) : va_W).set 0 (q1, .inl (κ.1, 6, .inl (va_up (fun _ => 0) ((0 : Int32).toNatClampNeg) 0))) : va_W).set 0 (q1, .inl (κ.1, 6, .inl (va_up (va_up (fun _ => 0) ((0 : Int32).toNatClampNeg) 0) ((1 : Int32).toNatClampNeg) 0))) : va_W).set 0 (q1, .inl (κ.1, 6, .inl (va_up (va_up (va_up (fun _ => 0) ((0 : Int32).toNatClampNeg) 0) ((1 : Int32).toNatClampNeg) 0) ((2 : Int32).toNatClampNeg) 0)))) (mw κ b E0 0) ([(q1, .inl (κ.1, 6, .inl (va_up (va_up (va_up (fun _ => 0) ((0 : Int32).toNatClampNeg) 0) ((1 : Int32).toNatClampNeg) 0) ((2 : Int32).toNatClampNeg) 0)))]) := (Cut.idx [1, 2, 3, 4, 5, 6, 7, 8, 9] [0] rfl rfl (by decide) (by decide) (by decide))
  refine zc_i hG cut130 (zr_V (k := 6) (ci := 10) (n := 0) (As := []) (rest := [.int 3, .ref q1, .ref q1]) hC hG hE hT cut130 (z_110_size l hst D κ E0 H.size (b 5) (b 0) (b 1) (b 2) (b 3) (b 4) (b 6) (b 7) (b 8)) rfl rfl w179 w117 w182 w180 w181 (by decide +kernel) ⟨Nat.le_of_ble_eq_true rfl, Nat.le_of_ble_eq_true rfl⟩ rfl hl.1 rfl (Nat.le_of_ble_eq_true rfl) dX14_count_130 ⟨Nat.le_of_ble_eq_true rfl, Nat.le_of_ble_eq_true rfl⟩) (fun z4 H locs hG => ?_)
  have hG : BW D κ (([(q1, .inl (κ.1, 6, .inl (va_up (va_up (va_up (fun _ => 0) ((0 : Int32).toNatClampNeg) 0) ((1 : Int32).toNatClampNeg) 0) ((2 : Int32).toNatClampNeg) 0)))]) ++ (mw κ b E0 0)) _ s H locs := hG
  refine zs_ast 0 hC hG rfl (vp_box (by have e0 : (3 : Int32).toInt = 3 := (by decide); omega) (by have e0 : (3 : Int32).toInt = 3 := (by decide); omega)) dX14_count_133 (fun H locs hG => ?_)
  have hG : BW D κ ((([(q1, .inl (κ.1, 6, .inl (va_up (va_up (va_up (fun _ => 0) ((0 : Int32).toNatClampNeg) 0) ((1 : Int32).toNatClampNeg) 0) ((2 : Int32).toNatClampNeg) 0)))]) ++ (mw κ b E0 0) : va_W).set 0 (q1, .inl (κ.1, 6, .inl (va_up (va_up (va_up (va_up (fun _ => 0) ((0 : Int32).toNatClampNeg) 0) ((1 : Int32).toNatClampNeg) 0) ((2 : Int32).toNatClampNeg) 0) ((3 : Int32).toNatClampNeg) 0)))) _ s H locs := hG
  refine lv_dup hx hb dX14_count_134 rfl ?_
  refine lv_iconst (v := 4) hx hb dX14_count_135 (by decide) ?_
  refine lv_aload_n hx hb dX14_count_136 rfl (lv_at hl 3 rfl) ?_
  refine bw_get (C := RX14) (T := TX14) (N := 15) (ci := 9) (v := .int 0) 9 (by decide) 1 hC hG iwX14 rfl rfl w332 rfl rfl dX14_count_137 ?_
  refine zs_ast 0 hC hG rfl (vp_box (by have e0 : (4 : Int32).toInt = 4 := (by decide); omega) (by have e0 : (4 : Int32).toInt = 4 := (by decide); omega)) dX14_count_140 (fun H locs hG => ?_)
  have hG : BW D κ (((([(q1, .inl (κ.1, 6, .inl (va_up (va_up (va_up (fun _ => 0) ((0 : Int32).toNatClampNeg) 0) ((1 : Int32).toNatClampNeg) 0) ((2 : Int32).toNatClampNeg) 0)))]) ++ (mw κ b E0 0) : va_W).set 0 (q1, .inl (κ.1, 6, .inl (va_up (va_up (va_up (va_up (fun _ => 0) ((0 : Int32).toNatClampNeg) 0) ((1 : Int32).toNatClampNeg) 0) ((2 : Int32).toNatClampNeg) 0) ((3 : Int32).toNatClampNeg) 0))) : va_W).set 0 (q1, .inl (κ.1, 6, .inl (va_up (va_up (va_up (va_up (va_up (fun _ => 0) ((0 : Int32).toNatClampNeg) 0) ((1 : Int32).toNatClampNeg) 0) ((2 : Int32).toNatClampNeg) 0) ((3 : Int32).toNatClampNeg) 0) ((4 : Int32).toNatClampNeg) 0)))) _ s H locs := hG
  refine lv_dup hx hb dX14_count_141 rfl ?_
  refine lv_iconst (v := 5) hx hb dX14_count_142 (by decide) ?_
  refine lv_aload_n hx hb dX14_count_143 rfl (lv_at hl 3 rfl) ?_
  refine bw_get (C := RX14) (T := TX14) (N := 15) (ci := 9) (v := .int (-1)) 10 (by decide) 1 hC hG iwX14 rfl rfl w124 rfl rfl dX14_count_144 ?_
  refine zs_ast 0 hC hG rfl (vp_box (by have e0 : (5 : Int32).toInt = 5 := (by decide); omega) (by have e0 : (5 : Int32).toInt = 5 := (by decide); omega)) dX14_count_147 (fun H locs hG => ?_)
  have hG : BW D κ ((((([(q1, .inl (κ.1, 6, .inl (va_up (va_up (va_up (fun _ => 0) ((0 : Int32).toNatClampNeg) 0) ((1 : Int32).toNatClampNeg) 0) ((2 : Int32).toNatClampNeg) 0)))]) ++ (mw κ b E0 0) : va_W).set 0 (q1, .inl (κ.1, 6, .inl (va_up (va_up (va_up (va_up (fun _ => 0) ((0 : Int32).toNatClampNeg) 0) ((1 : Int32).toNatClampNeg) 0) ((2 : Int32).toNatClampNeg) 0) ((3 : Int32).toNatClampNeg) 0))) : va_W).set 0 (q1, .inl (κ.1, 6, .inl (va_up (va_up (va_up (va_up (va_up (fun _ => 0) ((0 : Int32).toNatClampNeg) 0) ((1 : Int32).toNatClampNeg) 0) ((2 : Int32).toNatClampNeg) 0) ((3 : Int32).toNatClampNeg) 0) ((4 : Int32).toNatClampNeg) 0))) : va_W).set 0 (q1, .inl (κ.1, 6, .inl (va_up (va_up (va_up (va_up (va_up (va_up (fun _ => 0) ((0 : Int32).toNatClampNeg) 0) ((1 : Int32).toNatClampNeg) 0) ((2 : Int32).toNatClampNeg) 0) ((3 : Int32).toNatClampNeg) 0) ((4 : Int32).toNatClampNeg) 0) ((5 : Int32).toNatClampNeg) (-1))))) _ s H locs := hG
  refine lv_astore (lv' := [(4, .ref q1), (3, .int 0), (2, .int 0), (0, .ref (b 0)), (1, .int 2)]) hx hb dX14_count_148 hl (by decide) rfl (fun ls hl => ?_)
  refine lv_aload hx hb dX14_count_150 (lv_at hl 0 rfl) ?_
  refine lv_iload_n hx hb dX14_count_152 rfl (lv_at hl 4 rfl) ?_
  refine zs_ald 0 (v := 0) hC hG rfl (vp_box (by have e0 : (2 : Int32).toInt = 2 := (by decide); omega) (by have e0 : (2 : Int32).toInt = 2 := (by decide); omega)) rfl dX14_count_153 ?_
  have hG := hG.at (ws' := mw κ b E0 0) [1, 2, 3, 4, 5, 6, 7, 8, 9] (by decide) rfl
  exact ze_i (qs := fun _ => 0) hC hG rfl rfl hr rfl hk (Nat.le_of_ble_eq_true rfl) (Nat.le_of_ble_eq_true rfl) dX14_count_154
set_option maxHeartbeats 4000000 in
set_option maxRecDepth 100000 in
theorem z_200_many (l : Launch) (hst : l.stackTraces = false) (D : va_G) (κ : K4) (E0 : Nat) (sz : Nat) (b : Nat → Nat) : NM l yX14_many cX14_many 2 (some .int) 2 44 1 6 E0 D κ (mw κ b E0 0) sz [.ref (b 0), .int 2] (QI D κ (mw κ b E0 0) sz 0 (fun qs : W1 => mw κ b E0 0)) := by
  refine NM.of (by decide +kernel) (Nat.le_of_ble_eq_true rfl) ?_
  intro p e s m below meth c ls hC hr hk hin hsz hE hT H locs hG hl
  have hx := hC.1
  have hb := hC.2.1
  have hl : lv_has ls 2 [(0, .ref (b 0)), (1, .int 2)] := hl
  refine lv_aload_n hx hb dX14_many_0 rfl (lv_at hl 0 rfl) ?_
  refine lv_iload_n hx hb dX14_many_1 rfl (lv_at hl 1 rfl) ?_
  refine lv_iconst (v := 0) hx hb dX14_many_2 (by decide) ?_
  refine lv_iconst (v := 5) hx hb dX14_many_3 (by decide) ?_
  have cut4 : Cut (mw κ b E0 0) (mw κ b E0 0) ([]) := (Cut.all 9 rfl (by decide))
  refine zc_i hG cut4 (zr_S (n := 3) (As := [.int 2, .int 0, .int 5]) (rest := [.ref (b 0)]) hC hG hE hT cut4 (z_198_isIn l hst D κ E0 H.size b) w167 w5 w169 w168 (by decide +kernel) ⟨Nat.le_of_ble_eq_true rfl, Nat.le_of_ble_eq_true rfl⟩ rfl hl.1 rfl (Nat.le_of_ble_eq_true rfl) dX14_many_4 ⟨Nat.le_of_ble_eq_true rfl, Nat.le_of_ble_eq_true rfl⟩) (fun z1 H locs hG => ?_)
  have hG : BW D κ (mw κ b E0 0) _ s H locs := hG
  refine lv_if_ne (tgt := 14) hx hb dX14_many_7 (by decide) (fun _ => ?_) (fun h7 => absurd h7 (by decide))
  refine lv_iconst (v := 0) hx hb dX14_many_14 (by decide) ?_
  refine lv_iconst (v := 1) hx hb dX14_many_15 (by decide) ?_
  have cut16 : Cut (mw κ b E0 0) (mw κ b E0 0) ([]) := (Cut.all 9 rfl (by decide))
  refine zc_i hG cut16 (zr_V (k := 0) (ci := 9) (n := 2) (As := [.int 0, .int 1]) (rest := []) hC hG hE hT cut16 (z_25_start l hst D κ E0 H.size b) rfl rfl w170 w5 w173 w171 w172 (by decide +kernel) ⟨Nat.le_of_ble_eq_true rfl, Nat.le_of_ble_eq_true rfl⟩ rfl hl.1 rfl (Nat.le_of_ble_eq_true rfl) dX14_many_16 ⟨Nat.le_of_ble_eq_true rfl, Nat.le_of_ble_eq_true rfl⟩) (fun z2 H locs hG => ?_)
  have hG : BW D κ (mw κ b E0 0) _ s H locs := hG
  refine lv_if_eq (tgt := 26) hx hb dX14_many_19 (by decide) (fun _ => ?_) (fun h19 => absurd (by decide) h19)
  refine lv_aload_n hx hb dX14_many_26 rfl (lv_at hl 0 rfl) ?_
  refine lv_iload_n hx hb dX14_many_27 rfl (lv_at hl 1 rfl) ?_
  have cut28 : Cut (mw κ b E0 0) (mw κ b E0 0) ([]) := (Cut.all 9 rfl (by decide))
  refine zc_i hG cut28 (zr_V (k := 0) (ci := 9) (n := 1) (As := [.int 2]) (rest := []) hC hG hE hT cut28 (z_199_count l hst D κ E0 H.size b) rfl rfl w1074 w5 w1077 w1075 w1076 (by decide +kernel) ⟨Nat.le_of_ble_eq_true rfl, Nat.le_of_ble_eq_true rfl⟩ rfl hl.1 rfl (Nat.le_of_ble_eq_true rfl) dX14_many_28 ⟨Nat.le_of_ble_eq_true rfl, Nat.le_of_ble_eq_true rfl⟩) (fun z3 H locs hG => ?_)
  have hG : BW D κ (mw κ b E0 0) _ s H locs := hG
  exact ze_i (qs := fun _ => 0) hC hG rfl rfl hr rfl hk (Nat.le_of_ble_eq_true rfl) (Nat.le_of_ble_eq_true rfl) dX14_many_31
theorem dX7_many_68 : decode cX7_many 68 = .ok (.aload_n 0, 1) := by decide +kernel
theorem dX7_many_69 : decode cX7_many 69 = .ok (.getfield 40, 3) := by decide +kernel
theorem dX7_many_72 : decode cX7_many 72 = .ok (.getfield 301, 3) := by decide +kernel
theorem dX7_many_75 : decode cX7_many 75 = .ok (.ireturn, 1) := by decide +kernel
set_option maxHeartbeats 4000000 in
set_option maxRecDepth 100000 in
theorem z_201_many (l : Launch) (hst : l.stackTraces = false) (D : va_G) (κ : K4) (E0 : Nat) (sz : Nat) (a : Nat → Nat) : NM l yX7_many cX7_many 2 (some .int) 0 0 0 0 E0 D κ (xw κ a) sz [.ref (a 0), .int 3] (QI D κ (xw κ a) sz 0 (fun qs : W1 => xw κ a)) := by
  refine NM.of (by decide +kernel) (Nat.le_of_ble_eq_true rfl) ?_
  intro p e s m below meth c ls hC hr hk hin hsz hE hT H locs hG hl
  have hx := hC.1
  have hb := hC.2.1
  have hl : lv_has ls 2 [(0, .ref (a 0)), (1, .int 3)] := hl
  refine lv_iload_n hx hb dX7_many_0 rfl (lv_at hl 1 rfl) ?_
  refine lv_tableIn (off := 67) (tgt := 68) hx hb dX7_many_1 (by decide) (by decide) (by decide) (by decide) ?_
  refine lv_aload_n hx hb dX7_many_68 rfl (lv_at hl 0 rfl) ?_
  refine bw_get (C := RX7) (T := TX7) (N := 10) (ci := 7) (v := .ref (a 28)) 4 (by decide) 0 hC hG iwX7 (xw_0 κ a) rfl w32 rfl rfl dX7_many_69 ?_
  refine bw_get (C := RX5) (T := TX5) (N := 5) (ci := 5) (v := .int 0) 4 (by decide) 28 hC hG iwX5 (xw_28 κ a) rfl w863 rfl rfl dX7_many_72 ?_
  exact ze_i (qs := fun _ => 0) hC hG rfl rfl hr rfl hk (Nat.le_of_ble_eq_true rfl) (Nat.le_of_ble_eq_true rfl) dX7_many_75
set_option maxHeartbeats 4000000 in
set_option maxRecDepth 100000 in
theorem z_202_many (l : Launch) (hst : l.stackTraces = false) (D : va_G) (κ : K4) (E0 : Nat) (sz : Nat) (a : Nat → Nat) (o : Nat) : NH l yL_many cL_many 4 (some .int) [(0, 9, 12, 13)] 1 21 0 0 E0 D κ (xw κ a ++ [(o, .inl (κ.2.1, 1, .inr (.inl (fun _ => 0))))]) sz [.ref (a 0), .int 3, .ref o] (QI D κ (xw κ a ++ [(o, .inl (κ.2.1, 1, .inr (.inl (fun _ => 0))))]) sz 0 (fun qs : W1 => [(o, .inl (κ.2.1, 1, .inr (.inl (va_up (fun _ => 0) ((0 : Int32).toNatClampNeg) 0))))])) := by
  refine NH.of (by decide +kernel) (Nat.le_of_ble_eq_true rfl) ?_
  intro p e s m below meth c ls hC hr hk htab hsz hE hT H locs hG hl
  have hx := hC.1
  have hb := hC.2.1
  have hl : lv_has ls 4 [(0, .ref (a 0)), (1, .int 3), (2, .ref o)] := hl
  refine lv_aload_n hx hb dL_many_0 rfl (lv_at hl 2 rfl) ?_
  refine lv_iconst (v := 0) hx hb dL_many_1 (by decide) ?_
  refine lv_aload_n hx hb dL_many_2 rfl (lv_at hl 0 rfl) ?_
  refine lv_iload_n hx hb dL_many_3 rfl (lv_at hl 1 rfl) ?_
  have cut4 : Cut (xw κ a ++ [(o, .inl (κ.2.1, 1, .inr (.inl (fun _ => 0))))]) (xw κ a) ([(o, .inl (κ.2.1, 1, .inr (.inl (fun _ => 0))))]) := (Cut.one 45 rfl (by decide))
  refine zc_i hG cut4 (zr_V (k := 0) (ci := 7) (n := 1) (As := [.int 3]) (rest := [.int 0, .ref o]) hC hG hE hT cut4 (z_201_many l hst D κ E0 H.size a) rfl rfl w1058 w2 w1061 w1059 w1060 (by decide +kernel) ⟨Nat.le_of_ble_eq_true rfl, Nat.le_of_ble_eq_true rfl⟩ rfl hl.1 rfl (Nat.le_of_ble_eq_true rfl) dL_many_4 ⟨Nat.le_of_ble_eq_true rfl, Nat.le_of_ble_eq_true rfl⟩) (fun z1 H locs hG => ?_)
  have hG : BW D κ (([(o, .inl (κ.2.1, 1, .inr (.inl (fun _ => 0))))]) ++ (xw κ a)) _ s H locs := hG
  refine lv_i2l (v := 0) hx hb dL_many_7 (by decide) ?_
  refine zs_lst 0 hC hG rfl (vp_box (by have e0 : (0 : Int32).toInt = 0 := (by decide); omega) (by have e0 : (0 : Int32).toInt = 0 := (by decide); omega)) dL_many_8 (fun H locs hG => ?_)
  have hG : BW D κ ((([(o, .inl (κ.2.1, 1, .inr (.inl (fun _ => 0))))]) ++ (xw κ a) : va_W).set 0 (o, .inl (κ.2.1, 1, .inr (.inl (va_up (fun _ => 0) ((0 : Int32).toNatClampNeg) 0))))) _ s H locs := hG
  refine lv_goto (tgt := 15) hx hb dL_many_9 (by decide) ?_
  refine lv_iconst (v := 0) hx hb dL_many_15 (by decide) ?_
  have hG := hG.at (ws' := [(o, .inl (κ.2.1, 1, .inr (.inl (va_up (fun _ => 0) ((0 : Int32).toNatClampNeg) 0))))]) [0] (by decide) rfl
  exact ze_i (qs := fun _ => 0) hC hG rfl rfl hr rfl hk (Nat.le_of_ble_eq_true rfl) (Nat.le_of_ble_eq_true rfl) dL_many_16
set_option maxHeartbeats 4000000 in
set_option maxRecDepth 100000 in
theorem z_203_isIn (l : Launch) (hst : l.stackTraces = false) (D : va_G) (κ : K4) (E0 : Nat) (sz : Nat) (b : Nat → Nat) : NM l yX14_isIn cX14_isIn 3 (some .boolean) 0 0 0 0 E0 D κ (mw κ b E0 0) sz [.int 3, .int 0, .int 5] (QI D κ (mw κ b E0 0) sz 1 (fun qs : W1 => mw κ b E0 0)) := by
  refine NM.of (by decide +kernel) (Nat.le_of_ble_eq_true rfl) ?_
  intro p e s m below meth c ls hC hr hk hin hsz hE hT H locs hG hl
  have hx := hC.1
  have hb := hC.2.1
  have hl : lv_has ls 3 [(0, .int 3), (1, .int 0), (2, .int 5)] := hl
  refine lv_iload_n hx hb dX14_isIn_0 rfl (lv_at hl 0 rfl) ?_
  refine lv_iload_n hx hb dX14_isIn_1 rfl (lv_at hl 1 rfl) ?_
  refine lv_icmp_lt (tgt := 14) hx hb dX14_isIn_2 (by decide) (fun h2 => absurd h2 (by decide)) (fun _ => ?_)
  refine lv_iload_n hx hb dX14_isIn_5 rfl (lv_at hl 0 rfl) ?_
  refine lv_iload_n hx hb dX14_isIn_6 rfl (lv_at hl 2 rfl) ?_
  refine lv_icmp_gt (tgt := 14) hx hb dX14_isIn_7 (by decide) (fun h7 => absurd h7 (by decide)) (fun _ => ?_)
  refine lv_iconst (v := 1) hx hb dX14_isIn_10 (by decide) ?_
  refine lv_goto (tgt := 15) hx hb dX14_isIn_11 (by decide) ?_
  exact ze_i (qs := fun _ => 0) hC hG rfl rfl hr rfl hk (Nat.le_of_ble_eq_true rfl) (Nat.le_of_ble_eq_true rfl) dX14_isIn_15
set_option maxHeartbeats 4000000 in
set_option maxRecDepth 100000 in
theorem z_204_count (l : Launch) (hst : l.stackTraces = false) (D : va_G) (κ : K4) (E0 : Nat) (sz : Nat) (b : Nat → Nat) : NM l yX14_count cX14_count 5 (some .int) 1 20 1 6 E0 D κ (mw κ b E0 0) sz [.ref (b 0), .int 3] (QI D κ (mw κ b E0 0) sz 0 (fun qs : W1 => mw κ b E0 0)) := by
  refine NM.of (by decide +kernel) (Nat.le_of_ble_eq_true rfl) ?_
  intro p e s m below meth c ls hC hr hk hin hsz hE hT H locs hG hl
  have hx := hC.1
  have hb := hC.2.1
  have hl : lv_has ls 5 [(0, .ref (b 0)), (1, .int 3)] := hl
  refine lv_iconst (v := 0) hx hb dX14_count_0 (by decide) ?_
  refine lv_istore_n (lv' := [(2, .int 0), (0, .ref (b 0)), (1, .int 3)]) hx hb dX14_count_1 rfl hl (by decide) rfl (fun ls hl => ?_)
  refine lv_iconst (v := 0) hx hb dX14_count_2 (by decide) ?_
  refine lv_istore_n (lv' := [(3, .int 0), (2, .int 0), (0, .ref (b 0)), (1, .int 3)]) hx hb dX14_count_3 rfl hl (by decide) rfl (fun ls hl => ?_)
  refine lv_iconst (v := 0) hx hb dX14_count_4 (by decide) ?_
  refine lv_istore (lv' := [(4, .int 0), (3, .int 0), (2, .int 0), (0, .ref (b 0)), (1, .int 3)]) hx hb dX14_count_5 hl (by decide) rfl (fun ls hl => ?_)
  refine lv_iload hx hb dX14_count_7 (lv_at hl 0 rfl) ?_
  refine lv_aload_n hx hb dX14_count_9 rfl (lv_at hl 3 rfl) ?_
  refine bw_get (C := RX14) (T := TX14) (N := 15) (ci := 9) (v := .ref (b 3)) 3 (by decide) 0 hC hG iwX14 rfl rfl w119 rfl rfl dX14_count_10 ?_
  have cut13 : Cut (mw κ b E0 0) (mw κ b E0 0) ([]) := (Cut.all 9 rfl (by decide))
  refine zc_i hG cut13 (zr_V (k := 3) (ci := 10) (n := 0) (As := []) (rest := [.int 0]) hC hG hE hT cut13 (z_74_size l hst D κ E0 H.size (b 3) (b 0) (b 1) (b 2) (b 4) (b 5) (b 6) (b 7) (b 8)) rfl rfl w179 w117 w182 w180 w181 (by decide +kernel) ⟨Nat.le_of_ble_eq_true rfl, Nat.le_of_ble_eq_true rfl⟩ rfl hl.1 rfl (Nat.le_of_ble_eq_true rfl) dX14_count_13 ⟨Nat.le_of_ble_eq_true rfl, Nat.le_of_ble_eq_true rfl⟩) (fun z1 H locs hG => ?_)
  have hG : BW D κ (mw κ b E0 0) _ s H locs := hG
  refine lv_icmp_ge (tgt := 51) hx hb dX14_count_16 (by decide) (fun _ => ?_) (fun h16 => absurd (by decide) h16)
  refine lv_iconst (v := 0) hx hb dX14_count_51 (by decide) ?_
  refine lv_istore (lv' := [(4, .int 0), (3, .int 0), (2, .int 0), (0, .ref (b 0)), (1, .int 3)]) hx hb dX14_count_52 hl (by decide) rfl (fun ls hl => ?_)
  refine lv_iload hx hb dX14_count_54 (lv_at hl 0 rfl) ?_
  refine lv_aload_n hx hb dX14_count_56 rfl (lv_at hl 3 rfl) ?_
  refine bw_get (C := RX14) (T := TX14) (N := 15) (ci := 9) (v := .ref (b 4)) 4 (by decide) 0 hC hG iwX14 rfl rfl w120 rfl rfl dX14_count_57 ?_
  have cut60 : Cut (mw κ b E0 0) (mw κ b E0 0) ([]) := (Cut.all 9 rfl (by decide))
  refine zc_i hG cut60 (zr_V (k := 4) (ci := 10) (n := 0) (As := []) (rest := [.int 0]) hC hG hE hT cut60 (z_90_size l hst D κ E0 H.size (b 4) (b 0) (b 1) (b 2) (b 3) (b 5) (b 6) (b 7) (b 8)) rfl rfl w179 w117 w182 w180 w181 (by decide +kernel) ⟨Nat.le_of_ble_eq_true rfl, Nat.le_of_ble_eq_true rfl⟩ rfl hl.1 rfl (Nat.le_of_ble_eq_true rfl) dX14_count_60 ⟨Nat.le_of_ble_eq_true rfl, Nat.le_of_ble_eq_true rfl⟩) (fun z2 H locs hG => ?_)
  have hG : BW D κ (mw κ b E0 0) _ s H locs := hG
  refine lv_icmp_ge (tgt := 102) hx hb dX14_count_63 (by decide) (fun _ => ?_) (fun h63 => absurd (by decide) h63)
  refine lv_bipush (v := 6) hx hb dX14_count_102 (by decide) ?_
  refine W.eq (g2 := F0 m 104 ls [.int (nI 6)]) rfl ?_
  refine bw_nI hC hG (by decide) w47 (Nat.le_of_ble_eq_true rfl) (Nat.le_of_ble_eq_true rfl) dX14_count_104 (fun q1 H hG => ?_)
  have hG : BW D κ ((mw κ b E0 0) ++ [(q1, .inl (κ.1, 6, .inl (fun _ => 0)))]) _ s H locs := hG
  refine lv_dup hx hb dX14_count_106 rfl ?_
  refine lv_iconst (v := 0) hx hb dX14_count_107 (by decide) ?_
  refine lv_aload_n hx hb dX14_count_108 rfl (lv_at hl 3 rfl) ?_
  refine bw_get (C := RX14) (T := TX14) (N := 15) (ci := 9) (v := .ref (b 2)) 2 (by decide) 0 hC hG iwX14 rfl rfl w118 rfl rfl dX14_count_109 ?_
  have cut112 : Cut ((mw κ b E0 0) ++ [(q1, .inl (κ.1, 6, .inl (fun _ => 0)))]) (mw κ b E0 0) ([(q1, .inl (κ.1, 6, .inl (fun _ => 0)))]) := (Cut.idx [0, 1, 2, 3, 4, 5, 6, 7, 8] [9] rfl rfl (by decide) (by decide) (by decide))
  refine zc_i hG cut112 (zr_V (k := 2) (ci := 10) (n := 0) (As := []) (rest := [.int 0, .ref q1, .ref q1]) hC hG hE hT cut112 (z_26_size l hst D κ E0 H.size (b 2) (b 0) (b 1) (b 3) (b 4) (b 5) (b 6) (b 7) (b 8)) rfl rfl w179 w117 w182 w180 w181 (by decide +kernel) ⟨Nat.le_of_ble_eq_true rfl, Nat.le_of_ble_eq_true rfl⟩ rfl hl.1 rfl (Nat.le_of_ble_eq_true rfl) dX14_count_112 ⟨Nat.le_of_ble_eq_true rfl, Nat.le_of_ble_eq_true rfl⟩) (fun z3 H locs hG => ?_)
  have hG : BW D κ (([(q1, .inl (κ.1, 6, .inl (fun _ => 0)))]) ++ (mw κ b E0 0)) _ s H locs := hG
  refine zs_ast 0 hC hG rfl (vp_box (by have e0 : (0 : Int32).toInt = 0 := (by decide); omega) (by have e0 : (0 : Int32).toInt = 0 := (by decide); omega)) dX14_count_115 (fun H locs hG => ?_)
  have hG : BW D κ ((([(q1, .inl (κ.1, 6, .inl (fun _ => 0)))]) ++ (mw κ b E0 0) : va_W).set 0 (q1, .inl (κ.1, 6, .inl (va_up (fun _ => 0) ((0 : Int32).toNatClampNeg) 0)))) _ s H locs := hG
  refine lv_dup hx hb dX14_count_116 rfl ?_
  refine lv_iconst (v := 1) hx hb dX14_count_117 (by decide) ?_
  refine lv_iload_n hx hb dX14_count_118 rfl (lv_at hl 2 rfl) ?_
  refine zs_ast 0 hC hG rfl (vp_box (by have e0 : (1 : Int32).toInt = 1 := (by decide); omega) (by have e0 : (1 : Int32).toInt = 1 := (by decide); omega)) dX14_count_119 (fun H locs hG => ?_)
  have hG : BW D κ (((([(q1, .inl (κ.1, 6, .inl (fun _ => 0)))]) ++ (mw κ b E0 0) : va_W).set 0 (q1, .inl (κ.1, 6, .inl (va_up (fun _ => 0) ((0 : Int32).toNatClampNeg) 0))) : va_W).set 0 (q1, .inl (κ.1, 6, .inl (va_up (va_up (fun _ => 0) ((0 : Int32).toNatClampNeg) 0) ((1 : Int32).toNatClampNeg) 0)))) _ s H locs := hG
  refine lv_dup hx hb dX14_count_120 rfl ?_
  refine lv_iconst (v := 2) hx hb dX14_count_121 (by decide) ?_
  refine lv_iload_n hx hb dX14_count_122 rfl (lv_at hl 1 rfl) ?_
  refine zs_ast 0 hC hG rfl (vp_box (by have e0 : (2 : Int32).toInt = 2 := (by decide); omega) (by have e0 : (2 : Int32).toInt = 2 := (by decide); omega)) dX14_count_123 (fun H locs hG => ?_)
  have hG : BW D κ ((((([(q1, .inl (κ.1, 6, .inl (fun _ => 0)))]) ++ (mw κ b E0 0) : va_W).set 0 (q1, .inl (κ.1, 6, .inl (va_up (fun _ => 0) ((0 : Int32).toNatClampNeg) 0))) : va_W).set 0 (q1, .inl (κ.1, 6, .inl (va_up (va_up (fun _ => 0) ((0 : Int32).toNatClampNeg) 0) ((1 : Int32).toNatClampNeg) 0))) : va_W).set 0 (q1, .inl (κ.1, 6, .inl (va_up (va_up (va_up (fun _ => 0) ((0 : Int32).toNatClampNeg) 0) ((1 : Int32).toNatClampNeg) 0) ((2 : Int32).toNatClampNeg) 0)))) _ s H locs := hG
  refine lv_dup hx hb dX14_count_124 rfl ?_
  refine lv_iconst (v := 3) hx hb dX14_count_125 (by decide) ?_
  refine lv_aload_n hx hb dX14_count_126 rfl (lv_at hl 3 rfl) ?_
  refine bw_get (C := RX14) (T := TX14) (N := 15) (ci := 9) (v := .ref (b 5)) 5 (by decide) 1 hC hG iwX14 rfl rfl w121 rfl rfl dX14_count_127 ?_
  have cut130 : Cut ((((([(q1, .inl (κ.1, 6, .inl (fun _ => 0)))]) ++ (mw κ b E0 0) : va_W).set 0 (q1, .inl (κ.1, 6, .inl (va_up (fun _ => 0) ((0 : Int32).toNatClampNeg) 0))) : va_W).set 0 (q1, .inl (κ.1, 6, .inl (va_up (va_up (fun _ => 0) ((0 : Int32).toNatClampNeg) 0) ((1 : Int32).toNatClampNeg) 0))) : va_W).set 0 (q1, .inl (κ.1, 6, .inl (va_up (va_up (va_up (fun _ => 0) ((0 : Int32).toNatClampNeg) 0) ((1 : Int32).toNatClampNeg) 0) ((2 : Int32).toNatClampNeg) 0)))) (mw κ b E0 0) ([(q1, .inl (κ.1, 6, .inl (va_up (va_up (va_up (fun _ => 0) ((0 : Int32).toNatClampNeg) 0) ((1 : Int32).toNatClampNeg) 0) ((2 : Int32).toNatClampNeg) 0)))]) := (Cut.idx [1, 2, 3, 4, 5, 6, 7, 8, 9] [0] rfl rfl (by decide) (by decide) (by decide))
  refine zc_i hG cut130 (zr_V (k := 6) (ci := 10) (n := 0) (As := []) (rest := [.int 3, .ref q1, .ref q1]) hC hG hE hT cut130 (z_110_size l hst D κ E0 H.size (b 5) (b 0) (b 1) (b 2) (b 3) (b 4) (b 6) (b 7) (b 8)) rfl rfl w179 w117 w182 w180 w181 (by decide +kernel) ⟨Nat.le_of_ble_eq_true rfl, Nat.le_of_ble_eq_true rfl⟩ rfl hl.1 rfl (Nat.le_of_ble_eq_true rfl) dX14_count_130 ⟨Nat.le_of_ble_eq_true rfl, Nat.le_of_ble_eq_true rfl⟩) (fun z4 H locs hG => ?_)
  have hG : BW D κ (([(q1, .inl (κ.1, 6, .inl (va_up (va_up (va_up (fun _ => 0) ((0 : Int32).toNatClampNeg) 0) ((1 : Int32).toNatClampNeg) 0) ((2 : Int32).toNatClampNeg) 0)))]) ++ (mw κ b E0 0)) _ s H locs := hG
  refine zs_ast 0 hC hG rfl (vp_box (by have e0 : (3 : Int32).toInt = 3 := (by decide); omega) (by have e0 : (3 : Int32).toInt = 3 := (by decide); omega)) dX14_count_133 (fun H locs hG => ?_)
  have hG : BW D κ ((([(q1, .inl (κ.1, 6, .inl (va_up (va_up (va_up (fun _ => 0) ((0 : Int32).toNatClampNeg) 0) ((1 : Int32).toNatClampNeg) 0) ((2 : Int32).toNatClampNeg) 0)))]) ++ (mw κ b E0 0) : va_W).set 0 (q1, .inl (κ.1, 6, .inl (va_up (va_up (va_up (va_up (fun _ => 0) ((0 : Int32).toNatClampNeg) 0) ((1 : Int32).toNatClampNeg) 0) ((2 : Int32).toNatClampNeg) 0) ((3 : Int32).toNatClampNeg) 0)))) _ s H locs := hG
  refine lv_dup hx hb dX14_count_134 rfl ?_
  refine lv_iconst (v := 4) hx hb dX14_count_135 (by decide) ?_
  refine lv_aload_n hx hb dX14_count_136 rfl (lv_at hl 3 rfl) ?_
  refine bw_get (C := RX14) (T := TX14) (N := 15) (ci := 9) (v := .int 0) 9 (by decide) 1 hC hG iwX14 rfl rfl w332 rfl rfl dX14_count_137 ?_
  refine zs_ast 0 hC hG rfl (vp_box (by have e0 : (4 : Int32).toInt = 4 := (by decide); omega) (by have e0 : (4 : Int32).toInt = 4 := (by decide); omega)) dX14_count_140 (fun H locs hG => ?_)
  have hG : BW D κ (((([(q1, .inl (κ.1, 6, .inl (va_up (va_up (va_up (fun _ => 0) ((0 : Int32).toNatClampNeg) 0) ((1 : Int32).toNatClampNeg) 0) ((2 : Int32).toNatClampNeg) 0)))]) ++ (mw κ b E0 0) : va_W).set 0 (q1, .inl (κ.1, 6, .inl (va_up (va_up (va_up (va_up (fun _ => 0) ((0 : Int32).toNatClampNeg) 0) ((1 : Int32).toNatClampNeg) 0) ((2 : Int32).toNatClampNeg) 0) ((3 : Int32).toNatClampNeg) 0))) : va_W).set 0 (q1, .inl (κ.1, 6, .inl (va_up (va_up (va_up (va_up (va_up (fun _ => 0) ((0 : Int32).toNatClampNeg) 0) ((1 : Int32).toNatClampNeg) 0) ((2 : Int32).toNatClampNeg) 0) ((3 : Int32).toNatClampNeg) 0) ((4 : Int32).toNatClampNeg) 0)))) _ s H locs := hG
  refine lv_dup hx hb dX14_count_141 rfl ?_
  refine lv_iconst (v := 5) hx hb dX14_count_142 (by decide) ?_
  refine lv_aload_n hx hb dX14_count_143 rfl (lv_at hl 3 rfl) ?_
  refine bw_get (C := RX14) (T := TX14) (N := 15) (ci := 9) (v := .int (-1)) 10 (by decide) 1 hC hG iwX14 rfl rfl w124 rfl rfl dX14_count_144 ?_
  refine zs_ast 0 hC hG rfl (vp_box (by have e0 : (5 : Int32).toInt = 5 := (by decide); omega) (by have e0 : (5 : Int32).toInt = 5 := (by decide); omega)) dX14_count_147 (fun H locs hG => ?_)
  have hG : BW D κ ((((([(q1, .inl (κ.1, 6, .inl (va_up (va_up (va_up (fun _ => 0) ((0 : Int32).toNatClampNeg) 0) ((1 : Int32).toNatClampNeg) 0) ((2 : Int32).toNatClampNeg) 0)))]) ++ (mw κ b E0 0) : va_W).set 0 (q1, .inl (κ.1, 6, .inl (va_up (va_up (va_up (va_up (fun _ => 0) ((0 : Int32).toNatClampNeg) 0) ((1 : Int32).toNatClampNeg) 0) ((2 : Int32).toNatClampNeg) 0) ((3 : Int32).toNatClampNeg) 0))) : va_W).set 0 (q1, .inl (κ.1, 6, .inl (va_up (va_up (va_up (va_up (va_up (fun _ => 0) ((0 : Int32).toNatClampNeg) 0) ((1 : Int32).toNatClampNeg) 0) ((2 : Int32).toNatClampNeg) 0) ((3 : Int32).toNatClampNeg) 0) ((4 : Int32).toNatClampNeg) 0))) : va_W).set 0 (q1, .inl (κ.1, 6, .inl (va_up (va_up (va_up (va_up (va_up (va_up (fun _ => 0) ((0 : Int32).toNatClampNeg) 0) ((1 : Int32).toNatClampNeg) 0) ((2 : Int32).toNatClampNeg) 0) ((3 : Int32).toNatClampNeg) 0) ((4 : Int32).toNatClampNeg) 0) ((5 : Int32).toNatClampNeg) (-1))))) _ s H locs := hG
  refine lv_astore (lv' := [(4, .ref q1), (3, .int 0), (2, .int 0), (0, .ref (b 0)), (1, .int 3)]) hx hb dX14_count_148 hl (by decide) rfl (fun ls hl => ?_)
  refine lv_aload hx hb dX14_count_150 (lv_at hl 0 rfl) ?_
  refine lv_iload_n hx hb dX14_count_152 rfl (lv_at hl 4 rfl) ?_
  refine zs_ald 0 (v := 0) hC hG rfl (vp_box (by have e0 : (3 : Int32).toInt = 3 := (by decide); omega) (by have e0 : (3 : Int32).toInt = 3 := (by decide); omega)) rfl dX14_count_153 ?_
  have hG := hG.at (ws' := mw κ b E0 0) [1, 2, 3, 4, 5, 6, 7, 8, 9] (by decide) rfl
  exact ze_i (qs := fun _ => 0) hC hG rfl rfl hr rfl hk (Nat.le_of_ble_eq_true rfl) (Nat.le_of_ble_eq_true rfl) dX14_count_154
set_option maxHeartbeats 4000000 in
set_option maxRecDepth 100000 in
theorem z_205_many (l : Launch) (hst : l.stackTraces = false) (D : va_G) (κ : K4) (E0 : Nat) (sz : Nat) (b : Nat → Nat) : NM l yX14_many cX14_many 2 (some .int) 2 44 1 6 E0 D κ (mw κ b E0 0) sz [.ref (b 0), .int 3] (QI D κ (mw κ b E0 0) sz 0 (fun qs : W1 => mw κ b E0 0)) := by
  refine NM.of (by decide +kernel) (Nat.le_of_ble_eq_true rfl) ?_
  intro p e s m below meth c ls hC hr hk hin hsz hE hT H locs hG hl
  have hx := hC.1
  have hb := hC.2.1
  have hl : lv_has ls 2 [(0, .ref (b 0)), (1, .int 3)] := hl
  refine lv_aload_n hx hb dX14_many_0 rfl (lv_at hl 0 rfl) ?_
  refine lv_iload_n hx hb dX14_many_1 rfl (lv_at hl 1 rfl) ?_
  refine lv_iconst (v := 0) hx hb dX14_many_2 (by decide) ?_
  refine lv_iconst (v := 5) hx hb dX14_many_3 (by decide) ?_
  have cut4 : Cut (mw κ b E0 0) (mw κ b E0 0) ([]) := (Cut.all 9 rfl (by decide))
  refine zc_i hG cut4 (zr_S (n := 3) (As := [.int 3, .int 0, .int 5]) (rest := [.ref (b 0)]) hC hG hE hT cut4 (z_203_isIn l hst D κ E0 H.size b) w167 w5 w169 w168 (by decide +kernel) ⟨Nat.le_of_ble_eq_true rfl, Nat.le_of_ble_eq_true rfl⟩ rfl hl.1 rfl (Nat.le_of_ble_eq_true rfl) dX14_many_4 ⟨Nat.le_of_ble_eq_true rfl, Nat.le_of_ble_eq_true rfl⟩) (fun z1 H locs hG => ?_)
  have hG : BW D κ (mw κ b E0 0) _ s H locs := hG
  refine lv_if_ne (tgt := 14) hx hb dX14_many_7 (by decide) (fun _ => ?_) (fun h7 => absurd h7 (by decide))
  refine lv_iconst (v := 0) hx hb dX14_many_14 (by decide) ?_
  refine lv_iconst (v := 1) hx hb dX14_many_15 (by decide) ?_
  have cut16 : Cut (mw κ b E0 0) (mw κ b E0 0) ([]) := (Cut.all 9 rfl (by decide))
  refine zc_i hG cut16 (zr_V (k := 0) (ci := 9) (n := 2) (As := [.int 0, .int 1]) (rest := []) hC hG hE hT cut16 (z_25_start l hst D κ E0 H.size b) rfl rfl w170 w5 w173 w171 w172 (by decide +kernel) ⟨Nat.le_of_ble_eq_true rfl, Nat.le_of_ble_eq_true rfl⟩ rfl hl.1 rfl (Nat.le_of_ble_eq_true rfl) dX14_many_16 ⟨Nat.le_of_ble_eq_true rfl, Nat.le_of_ble_eq_true rfl⟩) (fun z2 H locs hG => ?_)
  have hG : BW D κ (mw κ b E0 0) _ s H locs := hG
  refine lv_if_eq (tgt := 26) hx hb dX14_many_19 (by decide) (fun _ => ?_) (fun h19 => absurd (by decide) h19)
  refine lv_aload_n hx hb dX14_many_26 rfl (lv_at hl 0 rfl) ?_
  refine lv_iload_n hx hb dX14_many_27 rfl (lv_at hl 1 rfl) ?_
  have cut28 : Cut (mw κ b E0 0) (mw κ b E0 0) ([]) := (Cut.all 9 rfl (by decide))
  refine zc_i hG cut28 (zr_V (k := 0) (ci := 9) (n := 1) (As := [.int 3]) (rest := []) hC hG hE hT cut28 (z_204_count l hst D κ E0 H.size b) rfl rfl w1074 w5 w1077 w1075 w1076 (by decide +kernel) ⟨Nat.le_of_ble_eq_true rfl, Nat.le_of_ble_eq_true rfl⟩ rfl hl.1 rfl (Nat.le_of_ble_eq_true rfl) dX14_many_28 ⟨Nat.le_of_ble_eq_true rfl, Nat.le_of_ble_eq_true rfl⟩) (fun z3 H locs hG => ?_)
  have hG : BW D κ (mw κ b E0 0) _ s H locs := hG
  exact ze_i (qs := fun _ => 0) hC hG rfl rfl hr rfl hk (Nat.le_of_ble_eq_true rfl) (Nat.le_of_ble_eq_true rfl) dX14_many_31
theorem dX7_many_76 : decode cX7_many 76 = .ok (.aload_n 0, 1) := by decide +kernel
theorem dX7_many_77 : decode cX7_many 77 = .ok (.getfield 67, 3) := by decide +kernel
theorem dX7_many_80 : decode cX7_many 80 = .ok (.ireturn, 1) := by decide +kernel
set_option maxHeartbeats 4000000 in
set_option maxRecDepth 100000 in
theorem z_206_many (l : Launch) (hst : l.stackTraces = false) (D : va_G) (κ : K4) (E0 : Nat) (sz : Nat) (a : Nat → Nat) : NM l yX7_many cX7_many 2 (some .int) 0 0 0 0 E0 D κ (xw κ a) sz [.ref (a 0), .int 4] (QI D κ (xw κ a) sz 0 (fun qs : W1 => xw κ a)) := by
  refine NM.of (by decide +kernel) (Nat.le_of_ble_eq_true rfl) ?_
  intro p e s m below meth c ls hC hr hk hin hsz hE hT H locs hG hl
  have hx := hC.1
  have hb := hC.2.1
  have hl : lv_has ls 2 [(0, .ref (a 0)), (1, .int 4)] := hl
  refine lv_iload_n hx hb dX7_many_0 rfl (lv_at hl 1 rfl) ?_
  refine lv_tableIn (off := 75) (tgt := 76) hx hb dX7_many_1 (by decide) (by decide) (by decide) (by decide) ?_
  refine lv_aload_n hx hb dX7_many_76 rfl (lv_at hl 0 rfl) ?_
  refine bw_get (C := RX7) (T := TX7) (N := 10) (ci := 7) (v := .int 0) 9 (by decide) 0 hC hG iwX7 (xw_0 κ a) rfl w43 rfl rfl dX7_many_77 ?_
  exact ze_i (qs := fun _ => 0) hC hG rfl rfl hr rfl hk (Nat.le_of_ble_eq_true rfl) (Nat.le_of_ble_eq_true rfl) dX7_many_80
set_option maxHeartbeats 4000000 in
set_option maxRecDepth 100000 in
theorem z_207_many (l : Launch) (hst : l.stackTraces = false) (D : va_G) (κ : K4) (E0 : Nat) (sz : Nat) (a : Nat → Nat) (o : Nat) : NH l yL_many cL_many 4 (some .int) [(0, 9, 12, 13)] 1 21 0 0 E0 D κ (xw κ a ++ [(o, .inl (κ.2.1, 1, .inr (.inl (fun _ => 0))))]) sz [.ref (a 0), .int 4, .ref o] (QI D κ (xw κ a ++ [(o, .inl (κ.2.1, 1, .inr (.inl (fun _ => 0))))]) sz 0 (fun qs : W1 => [(o, .inl (κ.2.1, 1, .inr (.inl (va_up (fun _ => 0) ((0 : Int32).toNatClampNeg) 0))))])) := by
  refine NH.of (by decide +kernel) (Nat.le_of_ble_eq_true rfl) ?_
  intro p e s m below meth c ls hC hr hk htab hsz hE hT H locs hG hl
  have hx := hC.1
  have hb := hC.2.1
  have hl : lv_has ls 4 [(0, .ref (a 0)), (1, .int 4), (2, .ref o)] := hl
  refine lv_aload_n hx hb dL_many_0 rfl (lv_at hl 2 rfl) ?_
  refine lv_iconst (v := 0) hx hb dL_many_1 (by decide) ?_
  refine lv_aload_n hx hb dL_many_2 rfl (lv_at hl 0 rfl) ?_
  refine lv_iload_n hx hb dL_many_3 rfl (lv_at hl 1 rfl) ?_
  have cut4 : Cut (xw κ a ++ [(o, .inl (κ.2.1, 1, .inr (.inl (fun _ => 0))))]) (xw κ a) ([(o, .inl (κ.2.1, 1, .inr (.inl (fun _ => 0))))]) := (Cut.one 45 rfl (by decide))
  refine zc_i hG cut4 (zr_V (k := 0) (ci := 7) (n := 1) (As := [.int 4]) (rest := [.int 0, .ref o]) hC hG hE hT cut4 (z_206_many l hst D κ E0 H.size a) rfl rfl w1058 w2 w1061 w1059 w1060 (by decide +kernel) ⟨Nat.le_of_ble_eq_true rfl, Nat.le_of_ble_eq_true rfl⟩ rfl hl.1 rfl (Nat.le_of_ble_eq_true rfl) dL_many_4 ⟨Nat.le_of_ble_eq_true rfl, Nat.le_of_ble_eq_true rfl⟩) (fun z1 H locs hG => ?_)
  have hG : BW D κ (([(o, .inl (κ.2.1, 1, .inr (.inl (fun _ => 0))))]) ++ (xw κ a)) _ s H locs := hG
  refine lv_i2l (v := 0) hx hb dL_many_7 (by decide) ?_
  refine zs_lst 0 hC hG rfl (vp_box (by have e0 : (0 : Int32).toInt = 0 := (by decide); omega) (by have e0 : (0 : Int32).toInt = 0 := (by decide); omega)) dL_many_8 (fun H locs hG => ?_)
  have hG : BW D κ ((([(o, .inl (κ.2.1, 1, .inr (.inl (fun _ => 0))))]) ++ (xw κ a) : va_W).set 0 (o, .inl (κ.2.1, 1, .inr (.inl (va_up (fun _ => 0) ((0 : Int32).toNatClampNeg) 0))))) _ s H locs := hG
  refine lv_goto (tgt := 15) hx hb dL_many_9 (by decide) ?_
  refine lv_iconst (v := 0) hx hb dL_many_15 (by decide) ?_
  have hG := hG.at (ws' := [(o, .inl (κ.2.1, 1, .inr (.inl (va_up (fun _ => 0) ((0 : Int32).toNatClampNeg) 0))))]) [0] (by decide) rfl
  exact ze_i (qs := fun _ => 0) hC hG rfl rfl hr rfl hk (Nat.le_of_ble_eq_true rfl) (Nat.le_of_ble_eq_true rfl) dL_many_16
set_option maxHeartbeats 4000000 in
set_option maxRecDepth 100000 in
theorem z_208_isIn (l : Launch) (hst : l.stackTraces = false) (D : va_G) (κ : K4) (E0 : Nat) (sz : Nat) (b : Nat → Nat) : NM l yX14_isIn cX14_isIn 3 (some .boolean) 0 0 0 0 E0 D κ (mw κ b E0 0) sz [.int 4, .int 0, .int 5] (QI D κ (mw κ b E0 0) sz 1 (fun qs : W1 => mw κ b E0 0)) := by
  refine NM.of (by decide +kernel) (Nat.le_of_ble_eq_true rfl) ?_
  intro p e s m below meth c ls hC hr hk hin hsz hE hT H locs hG hl
  have hx := hC.1
  have hb := hC.2.1
  have hl : lv_has ls 3 [(0, .int 4), (1, .int 0), (2, .int 5)] := hl
  refine lv_iload_n hx hb dX14_isIn_0 rfl (lv_at hl 0 rfl) ?_
  refine lv_iload_n hx hb dX14_isIn_1 rfl (lv_at hl 1 rfl) ?_
  refine lv_icmp_lt (tgt := 14) hx hb dX14_isIn_2 (by decide) (fun h2 => absurd h2 (by decide)) (fun _ => ?_)
  refine lv_iload_n hx hb dX14_isIn_5 rfl (lv_at hl 0 rfl) ?_
  refine lv_iload_n hx hb dX14_isIn_6 rfl (lv_at hl 2 rfl) ?_
  refine lv_icmp_gt (tgt := 14) hx hb dX14_isIn_7 (by decide) (fun h7 => absurd h7 (by decide)) (fun _ => ?_)
  refine lv_iconst (v := 1) hx hb dX14_isIn_10 (by decide) ?_
  refine lv_goto (tgt := 15) hx hb dX14_isIn_11 (by decide) ?_
  exact ze_i (qs := fun _ => 0) hC hG rfl rfl hr rfl hk (Nat.le_of_ble_eq_true rfl) (Nat.le_of_ble_eq_true rfl) dX14_isIn_15
set_option maxHeartbeats 4000000 in
set_option maxRecDepth 100000 in
theorem z_209_count (l : Launch) (hst : l.stackTraces = false) (D : va_G) (κ : K4) (E0 : Nat) (sz : Nat) (b : Nat → Nat) : NM l yX14_count cX14_count 5 (some .int) 1 20 1 6 E0 D κ (mw κ b E0 0) sz [.ref (b 0), .int 4] (QI D κ (mw κ b E0 0) sz 0 (fun qs : W1 => mw κ b E0 0)) := by
  refine NM.of (by decide +kernel) (Nat.le_of_ble_eq_true rfl) ?_
  intro p e s m below meth c ls hC hr hk hin hsz hE hT H locs hG hl
  have hx := hC.1
  have hb := hC.2.1
  have hl : lv_has ls 5 [(0, .ref (b 0)), (1, .int 4)] := hl
  refine lv_iconst (v := 0) hx hb dX14_count_0 (by decide) ?_
  refine lv_istore_n (lv' := [(2, .int 0), (0, .ref (b 0)), (1, .int 4)]) hx hb dX14_count_1 rfl hl (by decide) rfl (fun ls hl => ?_)
  refine lv_iconst (v := 0) hx hb dX14_count_2 (by decide) ?_
  refine lv_istore_n (lv' := [(3, .int 0), (2, .int 0), (0, .ref (b 0)), (1, .int 4)]) hx hb dX14_count_3 rfl hl (by decide) rfl (fun ls hl => ?_)
  refine lv_iconst (v := 0) hx hb dX14_count_4 (by decide) ?_
  refine lv_istore (lv' := [(4, .int 0), (3, .int 0), (2, .int 0), (0, .ref (b 0)), (1, .int 4)]) hx hb dX14_count_5 hl (by decide) rfl (fun ls hl => ?_)
  refine lv_iload hx hb dX14_count_7 (lv_at hl 0 rfl) ?_
  refine lv_aload_n hx hb dX14_count_9 rfl (lv_at hl 3 rfl) ?_
  refine bw_get (C := RX14) (T := TX14) (N := 15) (ci := 9) (v := .ref (b 3)) 3 (by decide) 0 hC hG iwX14 rfl rfl w119 rfl rfl dX14_count_10 ?_
  have cut13 : Cut (mw κ b E0 0) (mw κ b E0 0) ([]) := (Cut.all 9 rfl (by decide))
  refine zc_i hG cut13 (zr_V (k := 3) (ci := 10) (n := 0) (As := []) (rest := [.int 0]) hC hG hE hT cut13 (z_74_size l hst D κ E0 H.size (b 3) (b 0) (b 1) (b 2) (b 4) (b 5) (b 6) (b 7) (b 8)) rfl rfl w179 w117 w182 w180 w181 (by decide +kernel) ⟨Nat.le_of_ble_eq_true rfl, Nat.le_of_ble_eq_true rfl⟩ rfl hl.1 rfl (Nat.le_of_ble_eq_true rfl) dX14_count_13 ⟨Nat.le_of_ble_eq_true rfl, Nat.le_of_ble_eq_true rfl⟩) (fun z1 H locs hG => ?_)
  have hG : BW D κ (mw κ b E0 0) _ s H locs := hG
  refine lv_icmp_ge (tgt := 51) hx hb dX14_count_16 (by decide) (fun _ => ?_) (fun h16 => absurd (by decide) h16)
  refine lv_iconst (v := 0) hx hb dX14_count_51 (by decide) ?_
  refine lv_istore (lv' := [(4, .int 0), (3, .int 0), (2, .int 0), (0, .ref (b 0)), (1, .int 4)]) hx hb dX14_count_52 hl (by decide) rfl (fun ls hl => ?_)
  refine lv_iload hx hb dX14_count_54 (lv_at hl 0 rfl) ?_
  refine lv_aload_n hx hb dX14_count_56 rfl (lv_at hl 3 rfl) ?_
  refine bw_get (C := RX14) (T := TX14) (N := 15) (ci := 9) (v := .ref (b 4)) 4 (by decide) 0 hC hG iwX14 rfl rfl w120 rfl rfl dX14_count_57 ?_
  have cut60 : Cut (mw κ b E0 0) (mw κ b E0 0) ([]) := (Cut.all 9 rfl (by decide))
  refine zc_i hG cut60 (zr_V (k := 4) (ci := 10) (n := 0) (As := []) (rest := [.int 0]) hC hG hE hT cut60 (z_90_size l hst D κ E0 H.size (b 4) (b 0) (b 1) (b 2) (b 3) (b 5) (b 6) (b 7) (b 8)) rfl rfl w179 w117 w182 w180 w181 (by decide +kernel) ⟨Nat.le_of_ble_eq_true rfl, Nat.le_of_ble_eq_true rfl⟩ rfl hl.1 rfl (Nat.le_of_ble_eq_true rfl) dX14_count_60 ⟨Nat.le_of_ble_eq_true rfl, Nat.le_of_ble_eq_true rfl⟩) (fun z2 H locs hG => ?_)
  have hG : BW D κ (mw κ b E0 0) _ s H locs := hG
  refine lv_icmp_ge (tgt := 102) hx hb dX14_count_63 (by decide) (fun _ => ?_) (fun h63 => absurd (by decide) h63)
  refine lv_bipush (v := 6) hx hb dX14_count_102 (by decide) ?_
  refine W.eq (g2 := F0 m 104 ls [.int (nI 6)]) rfl ?_
  refine bw_nI hC hG (by decide) w47 (Nat.le_of_ble_eq_true rfl) (Nat.le_of_ble_eq_true rfl) dX14_count_104 (fun q1 H hG => ?_)
  have hG : BW D κ ((mw κ b E0 0) ++ [(q1, .inl (κ.1, 6, .inl (fun _ => 0)))]) _ s H locs := hG
  refine lv_dup hx hb dX14_count_106 rfl ?_
  refine lv_iconst (v := 0) hx hb dX14_count_107 (by decide) ?_
  refine lv_aload_n hx hb dX14_count_108 rfl (lv_at hl 3 rfl) ?_
  refine bw_get (C := RX14) (T := TX14) (N := 15) (ci := 9) (v := .ref (b 2)) 2 (by decide) 0 hC hG iwX14 rfl rfl w118 rfl rfl dX14_count_109 ?_
  have cut112 : Cut ((mw κ b E0 0) ++ [(q1, .inl (κ.1, 6, .inl (fun _ => 0)))]) (mw κ b E0 0) ([(q1, .inl (κ.1, 6, .inl (fun _ => 0)))]) := (Cut.idx [0, 1, 2, 3, 4, 5, 6, 7, 8] [9] rfl rfl (by decide) (by decide) (by decide))
  refine zc_i hG cut112 (zr_V (k := 2) (ci := 10) (n := 0) (As := []) (rest := [.int 0, .ref q1, .ref q1]) hC hG hE hT cut112 (z_26_size l hst D κ E0 H.size (b 2) (b 0) (b 1) (b 3) (b 4) (b 5) (b 6) (b 7) (b 8)) rfl rfl w179 w117 w182 w180 w181 (by decide +kernel) ⟨Nat.le_of_ble_eq_true rfl, Nat.le_of_ble_eq_true rfl⟩ rfl hl.1 rfl (Nat.le_of_ble_eq_true rfl) dX14_count_112 ⟨Nat.le_of_ble_eq_true rfl, Nat.le_of_ble_eq_true rfl⟩) (fun z3 H locs hG => ?_)
  have hG : BW D κ (([(q1, .inl (κ.1, 6, .inl (fun _ => 0)))]) ++ (mw κ b E0 0)) _ s H locs := hG
  refine zs_ast 0 hC hG rfl (vp_box (by have e0 : (0 : Int32).toInt = 0 := (by decide); omega) (by have e0 : (0 : Int32).toInt = 0 := (by decide); omega)) dX14_count_115 (fun H locs hG => ?_)
  have hG : BW D κ ((([(q1, .inl (κ.1, 6, .inl (fun _ => 0)))]) ++ (mw κ b E0 0) : va_W).set 0 (q1, .inl (κ.1, 6, .inl (va_up (fun _ => 0) ((0 : Int32).toNatClampNeg) 0)))) _ s H locs := hG
  refine lv_dup hx hb dX14_count_116 rfl ?_
  refine lv_iconst (v := 1) hx hb dX14_count_117 (by decide) ?_
  refine lv_iload_n hx hb dX14_count_118 rfl (lv_at hl 2 rfl) ?_
  refine zs_ast 0 hC hG rfl (vp_box (by have e0 : (1 : Int32).toInt = 1 := (by decide); omega) (by have e0 : (1 : Int32).toInt = 1 := (by decide); omega)) dX14_count_119 (fun H locs hG => ?_)
  have hG : BW D κ (((([(q1, .inl (κ.1, 6, .inl (fun _ => 0)))]) ++ (mw κ b E0 0) : va_W).set 0 (q1, .inl (κ.1, 6, .inl (va_up (fun _ => 0) ((0 : Int32).toNatClampNeg) 0))) : va_W).set 0 (q1, .inl (κ.1, 6, .inl (va_up (va_up (fun _ => 0) ((0 : Int32).toNatClampNeg) 0) ((1 : Int32).toNatClampNeg) 0)))) _ s H locs := hG
  refine lv_dup hx hb dX14_count_120 rfl ?_
  refine lv_iconst (v := 2) hx hb dX14_count_121 (by decide) ?_
  refine lv_iload_n hx hb dX14_count_122 rfl (lv_at hl 1 rfl) ?_
  refine zs_ast 0 hC hG rfl (vp_box (by have e0 : (2 : Int32).toInt = 2 := (by decide); omega) (by have e0 : (2 : Int32).toInt = 2 := (by decide); omega)) dX14_count_123 (fun H locs hG => ?_)
  have hG : BW D κ ((((([(q1, .inl (κ.1, 6, .inl (fun _ => 0)))]) ++ (mw κ b E0 0) : va_W).set 0 (q1, .inl (κ.1, 6, .inl (va_up (fun _ => 0) ((0 : Int32).toNatClampNeg) 0))) : va_W).set 0 (q1, .inl (κ.1, 6, .inl (va_up (va_up (fun _ => 0) ((0 : Int32).toNatClampNeg) 0) ((1 : Int32).toNatClampNeg) 0))) : va_W).set 0 (q1, .inl (κ.1, 6, .inl (va_up (va_up (va_up (fun _ => 0) ((0 : Int32).toNatClampNeg) 0) ((1 : Int32).toNatClampNeg) 0) ((2 : Int32).toNatClampNeg) 0)))) _ s H locs := hG
  refine lv_dup hx hb dX14_count_124 rfl ?_
  refine lv_iconst (v := 3) hx hb dX14_count_125 (by decide) ?_
  refine lv_aload_n hx hb dX14_count_126 rfl (lv_at hl 3 rfl) ?_
  refine bw_get (C := RX14) (T := TX14) (N := 15) (ci := 9) (v := .ref (b 5)) 5 (by decide) 1 hC hG iwX14 rfl rfl w121 rfl rfl dX14_count_127 ?_
  have cut130 : Cut ((((([(q1, .inl (κ.1, 6, .inl (fun _ => 0)))]) ++ (mw κ b E0 0) : va_W).set 0 (q1, .inl (κ.1, 6, .inl (va_up (fun _ => 0) ((0 : Int32).toNatClampNeg) 0))) : va_W).set 0 (q1, .inl (κ.1, 6, .inl (va_up (va_up (fun _ => 0) ((0 : Int32).toNatClampNeg) 0) ((1 : Int32).toNatClampNeg) 0))) : va_W).set 0 (q1, .inl (κ.1, 6, .inl (va_up (va_up (va_up (fun _ => 0) ((0 : Int32).toNatClampNeg) 0) ((1 : Int32).toNatClampNeg) 0) ((2 : Int32).toNatClampNeg) 0)))) (mw κ b E0 0) ([(q1, .inl (κ.1, 6, .inl (va_up (va_up (va_up (fun _ => 0) ((0 : Int32).toNatClampNeg) 0) ((1 : Int32).toNatClampNeg) 0) ((2 : Int32).toNatClampNeg) 0)))]) := (Cut.idx [1, 2, 3, 4, 5, 6, 7, 8, 9] [0] rfl rfl (by decide) (by decide) (by decide))
  refine zc_i hG cut130 (zr_V (k := 6) (ci := 10) (n := 0) (As := []) (rest := [.int 3, .ref q1, .ref q1]) hC hG hE hT cut130 (z_110_size l hst D κ E0 H.size (b 5) (b 0) (b 1) (b 2) (b 3) (b 4) (b 6) (b 7) (b 8)) rfl rfl w179 w117 w182 w180 w181 (by decide +kernel) ⟨Nat.le_of_ble_eq_true rfl, Nat.le_of_ble_eq_true rfl⟩ rfl hl.1 rfl (Nat.le_of_ble_eq_true rfl) dX14_count_130 ⟨Nat.le_of_ble_eq_true rfl, Nat.le_of_ble_eq_true rfl⟩) (fun z4 H locs hG => ?_)
  have hG : BW D κ (([(q1, .inl (κ.1, 6, .inl (va_up (va_up (va_up (fun _ => 0) ((0 : Int32).toNatClampNeg) 0) ((1 : Int32).toNatClampNeg) 0) ((2 : Int32).toNatClampNeg) 0)))]) ++ (mw κ b E0 0)) _ s H locs := hG
  refine zs_ast 0 hC hG rfl (vp_box (by have e0 : (3 : Int32).toInt = 3 := (by decide); omega) (by have e0 : (3 : Int32).toInt = 3 := (by decide); omega)) dX14_count_133 (fun H locs hG => ?_)
  have hG : BW D κ ((([(q1, .inl (κ.1, 6, .inl (va_up (va_up (va_up (fun _ => 0) ((0 : Int32).toNatClampNeg) 0) ((1 : Int32).toNatClampNeg) 0) ((2 : Int32).toNatClampNeg) 0)))]) ++ (mw κ b E0 0) : va_W).set 0 (q1, .inl (κ.1, 6, .inl (va_up (va_up (va_up (va_up (fun _ => 0) ((0 : Int32).toNatClampNeg) 0) ((1 : Int32).toNatClampNeg) 0) ((2 : Int32).toNatClampNeg) 0) ((3 : Int32).toNatClampNeg) 0)))) _ s H locs := hG
  refine lv_dup hx hb dX14_count_134 rfl ?_
  refine lv_iconst (v := 4) hx hb dX14_count_135 (by decide) ?_
  refine lv_aload_n hx hb dX14_count_136 rfl (lv_at hl 3 rfl) ?_
  refine bw_get (C := RX14) (T := TX14) (N := 15) (ci := 9) (v := .int 0) 9 (by decide) 1 hC hG iwX14 rfl rfl w332 rfl rfl dX14_count_137 ?_
  refine zs_ast 0 hC hG rfl (vp_box (by have e0 : (4 : Int32).toInt = 4 := (by decide); omega) (by have e0 : (4 : Int32).toInt = 4 := (by decide); omega)) dX14_count_140 (fun H locs hG => ?_)
  have hG : BW D κ (((([(q1, .inl (κ.1, 6, .inl (va_up (va_up (va_up (fun _ => 0) ((0 : Int32).toNatClampNeg) 0) ((1 : Int32).toNatClampNeg) 0) ((2 : Int32).toNatClampNeg) 0)))]) ++ (mw κ b E0 0) : va_W).set 0 (q1, .inl (κ.1, 6, .inl (va_up (va_up (va_up (va_up (fun _ => 0) ((0 : Int32).toNatClampNeg) 0) ((1 : Int32).toNatClampNeg) 0) ((2 : Int32).toNatClampNeg) 0) ((3 : Int32).toNatClampNeg) 0))) : va_W).set 0 (q1, .inl (κ.1, 6, .inl (va_up (va_up (va_up (va_up (va_up (fun _ => 0) ((0 : Int32).toNatClampNeg) 0) ((1 : Int32).toNatClampNeg) 0) ((2 : Int32).toNatClampNeg) 0) ((3 : Int32).toNatClampNeg) 0) ((4 : Int32).toNatClampNeg) 0)))) _ s H locs := hG
  refine lv_dup hx hb dX14_count_141 rfl ?_
  refine lv_iconst (v := 5) hx hb dX14_count_142 (by decide) ?_
  refine lv_aload_n hx hb dX14_count_143 rfl (lv_at hl 3 rfl) ?_
  refine bw_get (C := RX14) (T := TX14) (N := 15) (ci := 9) (v := .int (-1)) 10 (by decide) 1 hC hG iwX14 rfl rfl w124 rfl rfl dX14_count_144 ?_
  refine zs_ast 0 hC hG rfl (vp_box (by have e0 : (5 : Int32).toInt = 5 := (by decide); omega) (by have e0 : (5 : Int32).toInt = 5 := (by decide); omega)) dX14_count_147 (fun H locs hG => ?_)
  have hG : BW D κ ((((([(q1, .inl (κ.1, 6, .inl (va_up (va_up (va_up (fun _ => 0) ((0 : Int32).toNatClampNeg) 0) ((1 : Int32).toNatClampNeg) 0) ((2 : Int32).toNatClampNeg) 0)))]) ++ (mw κ b E0 0) : va_W).set 0 (q1, .inl (κ.1, 6, .inl (va_up (va_up (va_up (va_up (fun _ => 0) ((0 : Int32).toNatClampNeg) 0) ((1 : Int32).toNatClampNeg) 0) ((2 : Int32).toNatClampNeg) 0) ((3 : Int32).toNatClampNeg) 0))) : va_W).set 0 (q1, .inl (κ.1, 6, .inl (va_up (va_up (va_up (va_up (va_up (fun _ => 0) ((0 : Int32).toNatClampNeg) 0) ((1 : Int32).toNatClampNeg) 0) ((2 : Int32).toNatClampNeg) 0) ((3 : Int32).toNatClampNeg) 0) ((4 : Int32).toNatClampNeg) 0))) : va_W).set 0 (q1, .inl (κ.1, 6, .inl (va_up (va_up (va_up (va_up (va_up (va_up (fun _ => 0) ((0 : Int32).toNatClampNeg) 0) ((1 : Int32).toNatClampNeg) 0) ((2 : Int32).toNatClampNeg) 0) ((3 : Int32).toNatClampNeg) 0) ((4 : Int32).toNatClampNeg) 0) ((5 : Int32).toNatClampNeg) (-1))))) _ s H locs := hG
  refine lv_astore (lv' := [(4, .ref q1), (3, .int 0), (2, .int 0), (0, .ref (b 0)), (1, .int 4)]) hx hb dX14_count_148 hl (by decide) rfl (fun ls hl => ?_)
  refine lv_aload hx hb dX14_count_150 (lv_at hl 0 rfl) ?_
  refine lv_iload_n hx hb dX14_count_152 rfl (lv_at hl 4 rfl) ?_
  refine zs_ald 0 (v := 0) hC hG rfl (vp_box (by have e0 : (4 : Int32).toInt = 4 := (by decide); omega) (by have e0 : (4 : Int32).toInt = 4 := (by decide); omega)) rfl dX14_count_153 ?_
  have hG := hG.at (ws' := mw κ b E0 0) [1, 2, 3, 4, 5, 6, 7, 8, 9] (by decide) rfl
  exact ze_i (qs := fun _ => 0) hC hG rfl rfl hr rfl hk (Nat.le_of_ble_eq_true rfl) (Nat.le_of_ble_eq_true rfl) dX14_count_154
set_option maxHeartbeats 4000000 in
set_option maxRecDepth 100000 in
theorem z_210_many (l : Launch) (hst : l.stackTraces = false) (D : va_G) (κ : K4) (E0 : Nat) (sz : Nat) (b : Nat → Nat) : NM l yX14_many cX14_many 2 (some .int) 2 44 1 6 E0 D κ (mw κ b E0 0) sz [.ref (b 0), .int 4] (QI D κ (mw κ b E0 0) sz 0 (fun qs : W1 => mw κ b E0 0)) := by
  refine NM.of (by decide +kernel) (Nat.le_of_ble_eq_true rfl) ?_
  intro p e s m below meth c ls hC hr hk hin hsz hE hT H locs hG hl
  have hx := hC.1
  have hb := hC.2.1
  have hl : lv_has ls 2 [(0, .ref (b 0)), (1, .int 4)] := hl
  refine lv_aload_n hx hb dX14_many_0 rfl (lv_at hl 0 rfl) ?_
  refine lv_iload_n hx hb dX14_many_1 rfl (lv_at hl 1 rfl) ?_
  refine lv_iconst (v := 0) hx hb dX14_many_2 (by decide) ?_
  refine lv_iconst (v := 5) hx hb dX14_many_3 (by decide) ?_
  have cut4 : Cut (mw κ b E0 0) (mw κ b E0 0) ([]) := (Cut.all 9 rfl (by decide))
  refine zc_i hG cut4 (zr_S (n := 3) (As := [.int 4, .int 0, .int 5]) (rest := [.ref (b 0)]) hC hG hE hT cut4 (z_208_isIn l hst D κ E0 H.size b) w167 w5 w169 w168 (by decide +kernel) ⟨Nat.le_of_ble_eq_true rfl, Nat.le_of_ble_eq_true rfl⟩ rfl hl.1 rfl (Nat.le_of_ble_eq_true rfl) dX14_many_4 ⟨Nat.le_of_ble_eq_true rfl, Nat.le_of_ble_eq_true rfl⟩) (fun z1 H locs hG => ?_)
  have hG : BW D κ (mw κ b E0 0) _ s H locs := hG
  refine lv_if_ne (tgt := 14) hx hb dX14_many_7 (by decide) (fun _ => ?_) (fun h7 => absurd h7 (by decide))
  refine lv_iconst (v := 0) hx hb dX14_many_14 (by decide) ?_
  refine lv_iconst (v := 1) hx hb dX14_many_15 (by decide) ?_
  have cut16 : Cut (mw κ b E0 0) (mw κ b E0 0) ([]) := (Cut.all 9 rfl (by decide))
  refine zc_i hG cut16 (zr_V (k := 0) (ci := 9) (n := 2) (As := [.int 0, .int 1]) (rest := []) hC hG hE hT cut16 (z_25_start l hst D κ E0 H.size b) rfl rfl w170 w5 w173 w171 w172 (by decide +kernel) ⟨Nat.le_of_ble_eq_true rfl, Nat.le_of_ble_eq_true rfl⟩ rfl hl.1 rfl (Nat.le_of_ble_eq_true rfl) dX14_many_16 ⟨Nat.le_of_ble_eq_true rfl, Nat.le_of_ble_eq_true rfl⟩) (fun z2 H locs hG => ?_)
  have hG : BW D κ (mw κ b E0 0) _ s H locs := hG
  refine lv_if_eq (tgt := 26) hx hb dX14_many_19 (by decide) (fun _ => ?_) (fun h19 => absurd (by decide) h19)
  refine lv_aload_n hx hb dX14_many_26 rfl (lv_at hl 0 rfl) ?_
  refine lv_iload_n hx hb dX14_many_27 rfl (lv_at hl 1 rfl) ?_
  have cut28 : Cut (mw κ b E0 0) (mw κ b E0 0) ([]) := (Cut.all 9 rfl (by decide))
  refine zc_i hG cut28 (zr_V (k := 0) (ci := 9) (n := 1) (As := [.int 4]) (rest := []) hC hG hE hT cut28 (z_209_count l hst D κ E0 H.size b) rfl rfl w1074 w5 w1077 w1075 w1076 (by decide +kernel) ⟨Nat.le_of_ble_eq_true rfl, Nat.le_of_ble_eq_true rfl⟩ rfl hl.1 rfl (Nat.le_of_ble_eq_true rfl) dX14_many_28 ⟨Nat.le_of_ble_eq_true rfl, Nat.le_of_ble_eq_true rfl⟩) (fun z3 H locs hG => ?_)
  have hG : BW D κ (mw κ b E0 0) _ s H locs := hG
  exact ze_i (qs := fun _ => 0) hC hG rfl rfl hr rfl hk (Nat.le_of_ble_eq_true rfl) (Nat.le_of_ble_eq_true rfl) dX14_many_31
theorem dX3_lastLocked_0 : decode cX3_lastLocked 0 = .ok (.aload_n 0, 1) := by decide +kernel
theorem dX3_lastLocked_1 : decode cX3_lastLocked 1 = .ok (.invokevirtual 65, 3) := by decide +kernel
theorem dX3_lastLocked_10 : decode cX3_lastLocked 10 = .ok (.iconst (-1), 1) := by decide +kernel
theorem dX3_lastLocked_11 : decode cX3_lastLocked 11 = .ok (.goto 9, 3) := by decide +kernel
theorem dX3_lastLocked_20 : decode cX3_lastLocked 20 = .ok (.ireturn, 1) := by decide +kernel
theorem dX3_lastLocked_4 : decode cX3_lastLocked 4 = .ok (.istore_n 1, 1) := by decide +kernel
theorem dX3_lastLocked_5 : decode cX3_lastLocked 5 = .ok (.iload_n 1, 1) := by decide +kernel
theorem dX3_lastLocked_6 : decode cX3_lastLocked 6 = .ok (.iconst (-1), 1) := by decide +kernel
theorem dX3_lastLocked_7 : decode cX3_lastLocked 7 = .ok (.if_icmp .ne 7, 3) := by decide +kernel
set_option maxHeartbeats 4000000 in
set_option maxRecDepth 100000 in
theorem z_211_lastLocked (l : Launch) (hst : l.stackTraces = false) (D : va_G) (κ : K4) (E0 : Nat) (sz : Nat) (a : Nat → Nat) : NM l yX3_lastLocked cX3_lastLocked 2 (some .int) 1 21 0 0 E0 D κ (xw κ a) sz [.ref (a 12)] (QI D κ (xw κ a) sz (-1) (fun qs : W1 => xw κ a)) := by
  refine NM.of (by decide +kernel) (Nat.le_of_ble_eq_true rfl) ?_
  intro p e s m below meth c ls hC hr hk hin hsz hE hT H locs hG hl
  have hx := hC.1
  have hb := hC.2.1
  have hl : lv_has ls 2 [(0, .ref (a 12))] := hl
  refine lv_aload_n hx hb dX3_lastLocked_0 rfl (lv_at hl 0 rfl) ?_
  have cut1 : Cut (xw κ a) (xw κ a) ([]) := (Cut.all 45 rfl (by decide))
  refine zc_i hG cut1 (zr_V (k := 12) (ci := 3) (n := 0) (As := []) (rest := []) hC hG hE hT cut1 (z_171_lastClosing l hst D κ E0 H.size a) rfl rfl w509 w23 w512 w510 w511 (by decide +kernel) ⟨Nat.le_of_ble_eq_true rfl, Nat.le_of_ble_eq_true rfl⟩ rfl hl.1 rfl (Nat.le_of_ble_eq_true rfl) dX3_lastLocked_1 ⟨Nat.le_of_ble_eq_true rfl, Nat.le_of_ble_eq_true rfl⟩) (fun z1 H locs hG => ?_)
  have hG : BW D κ (xw κ a) _ s H locs := hG
  refine lv_istore_n (lv' := [(1, .int (-1)), (0, .ref (a 12))]) hx hb dX3_lastLocked_4 rfl hl (by decide) rfl (fun ls hl => ?_)
  refine lv_iload_n hx hb dX3_lastLocked_5 rfl (lv_at hl 0 rfl) ?_
  refine lv_iconst (v := (-1)) hx hb dX3_lastLocked_6 (by decide) ?_
  refine lv_icmp_ne (tgt := 14) hx hb dX3_lastLocked_7 (by decide) (fun h7 => absurd (by decide) h7) (fun _ => ?_)
  refine lv_iconst (v := (-1)) hx hb dX3_lastLocked_10 (by decide) ?_
  refine lv_goto (tgt := 20) hx hb dX3_lastLocked_11 (by decide) ?_
  exact ze_i (qs := fun _ => 0) hC hG rfl rfl hr rfl hk (Nat.le_of_ble_eq_true rfl) (Nat.le_of_ble_eq_true rfl) dX3_lastLocked_20
theorem dX7_many_81 : decode cX7_many 81 = .ok (.aload_n 0, 1) := by decide +kernel
theorem dX7_many_82 : decode cX7_many 82 = .ok (.getfield 26, 3) := by decide +kernel
theorem dX7_many_85 : decode cX7_many 85 = .ok (.invokevirtual 277, 3) := by decide +kernel
theorem dX7_many_88 : decode cX7_many 88 = .ok (.ireturn, 1) := by decide +kernel
set_option maxHeartbeats 4000000 in
set_option maxRecDepth 100000 in
theorem z_212_many (l : Launch) (hst : l.stackTraces = false) (D : va_G) (κ : K4) (E0 : Nat) (sz : Nat) (a : Nat → Nat) : NM l yX7_many cX7_many 2 (some .int) 2 42 0 0 E0 D κ (xw κ a) sz [.ref (a 0), .int 5] (QI D κ (xw κ a) sz (-1) (fun qs : W1 => xw κ a)) := by
  refine NM.of (by decide +kernel) (Nat.le_of_ble_eq_true rfl) ?_
  intro p e s m below meth c ls hC hr hk hin hsz hE hT H locs hG hl
  have hx := hC.1
  have hb := hC.2.1
  have hl : lv_has ls 2 [(0, .ref (a 0)), (1, .int 5)] := hl
  refine lv_iload_n hx hb dX7_many_0 rfl (lv_at hl 1 rfl) ?_
  refine lv_tableIn (off := 80) (tgt := 81) hx hb dX7_many_1 (by decide) (by decide) (by decide) (by decide) ?_
  refine lv_aload_n hx hb dX7_many_81 rfl (lv_at hl 0 rfl) ?_
  refine bw_get (C := RX7) (T := TX7) (N := 10) (ci := 7) (v := .ref (a 12)) 2 (by decide) 0 hC hG iwX7 (xw_0 κ a) rfl w24 rfl rfl dX7_many_82 ?_
  have cut85 : Cut (xw κ a) (xw κ a) ([]) := (Cut.all 45 rfl (by decide))
  refine zc_i hG cut85 (zr_V (k := 12) (ci := 3) (n := 0) (As := []) (rest := []) hC hG hE hT cut85 (z_211_lastLocked l hst D κ E0 H.size a) rfl rfl w505 w23 w508 w506 w507 (by decide +kernel) ⟨Nat.le_of_ble_eq_true rfl, Nat.le_of_ble_eq_true rfl⟩ rfl hl.1 rfl (Nat.le_of_ble_eq_true rfl) dX7_many_85 ⟨Nat.le_of_ble_eq_true rfl, Nat.le_of_ble_eq_true rfl⟩) (fun z1 H locs hG => ?_)
  have hG : BW D κ (xw κ a) _ s H locs := hG
  exact ze_i (qs := fun _ => 0) hC hG rfl rfl hr rfl hk (Nat.le_of_ble_eq_true rfl) (Nat.le_of_ble_eq_true rfl) dX7_many_88
set_option maxHeartbeats 4000000 in
set_option maxRecDepth 100000 in
theorem z_213_many (l : Launch) (hst : l.stackTraces = false) (D : va_G) (κ : K4) (E0 : Nat) (sz : Nat) (a : Nat → Nat) (o : Nat) : NH l yL_many cL_many 4 (some .int) [(0, 9, 12, 13)] 3 63 0 0 E0 D κ (xw κ a ++ [(o, .inl (κ.2.1, 1, .inr (.inl (fun _ => 0))))]) sz [.ref (a 0), .int 5, .ref o] (QI D κ (xw κ a ++ [(o, .inl (κ.2.1, 1, .inr (.inl (fun _ => 0))))]) sz 0 (fun qs : W1 => [(o, .inl (κ.2.1, 1, .inr (.inl (va_up (fun _ => 0) ((0 : Int32).toNatClampNeg) (-1)))))])) := by
  refine NH.of (by decide +kernel) (Nat.le_of_ble_eq_true rfl) ?_
  intro p e s m below meth c ls hC hr hk htab hsz hE hT H locs hG hl
  have hx := hC.1
  have hb := hC.2.1
  have hl : lv_has ls 4 [(0, .ref (a 0)), (1, .int 5), (2, .ref o)] := hl
  refine lv_aload_n hx hb dL_many_0 rfl (lv_at hl 2 rfl) ?_
  refine lv_iconst (v := 0) hx hb dL_many_1 (by decide) ?_
  refine lv_aload_n hx hb dL_many_2 rfl (lv_at hl 0 rfl) ?_
  refine lv_iload_n hx hb dL_many_3 rfl (lv_at hl 1 rfl) ?_
  have cut4 : Cut (xw κ a ++ [(o, .inl (κ.2.1, 1, .inr (.inl (fun _ => 0))))]) (xw κ a) ([(o, .inl (κ.2.1, 1, .inr (.inl (fun _ => 0))))]) := (Cut.one 45 rfl (by decide))
  refine zc_i hG cut4 (zr_V (k := 0) (ci := 7) (n := 1) (As := [.int 5]) (rest := [.int 0, .ref o]) hC hG hE hT cut4 (z_212_many l hst D κ E0 H.size a) rfl rfl w1058 w2 w1061 w1059 w1060 (by decide +kernel) ⟨Nat.le_of_ble_eq_true rfl, Nat.le_of_ble_eq_true rfl⟩ rfl hl.1 rfl (Nat.le_of_ble_eq_true rfl) dL_many_4 ⟨Nat.le_of_ble_eq_true rfl, Nat.le_of_ble_eq_true rfl⟩) (fun z1 H locs hG => ?_)
  have hG : BW D κ (([(o, .inl (κ.2.1, 1, .inr (.inl (fun _ => 0))))]) ++ (xw κ a)) _ s H locs := hG
  refine lv_i2l (v := (-1)) hx hb dL_many_7 (by decide) ?_
  refine zs_lst 0 hC hG rfl (vp_box (by have e0 : (0 : Int32).toInt = 0 := (by decide); omega) (by have e0 : (0 : Int32).toInt = 0 := (by decide); omega)) dL_many_8 (fun H locs hG => ?_)
  have hG : BW D κ ((([(o, .inl (κ.2.1, 1, .inr (.inl (fun _ => 0))))]) ++ (xw κ a) : va_W).set 0 (o, .inl (κ.2.1, 1, .inr (.inl (va_up (fun _ => 0) ((0 : Int32).toNatClampNeg) (-1)))))) _ s H locs := hG
  refine lv_goto (tgt := 15) hx hb dL_many_9 (by decide) ?_
  refine lv_iconst (v := 0) hx hb dL_many_15 (by decide) ?_
  have hG := hG.at (ws' := [(o, .inl (κ.2.1, 1, .inr (.inl (va_up (fun _ => 0) ((0 : Int32).toNatClampNeg) (-1)))))]) [0] (by decide) rfl
  exact ze_i (qs := fun _ => 0) hC hG rfl rfl hr rfl hk (Nat.le_of_ble_eq_true rfl) (Nat.le_of_ble_eq_true rfl) dL_many_16
set_option maxHeartbeats 4000000 in
set_option maxRecDepth 100000 in
theorem z_214_isIn (l : Launch) (hst : l.stackTraces = false) (D : va_G) (κ : K4) (E0 : Nat) (sz : Nat) (b : Nat → Nat) : NM l yX14_isIn cX14_isIn 3 (some .boolean) 0 0 0 0 E0 D κ (mw κ b E0 0) sz [.int 5, .int 0, .int 5] (QI D κ (mw κ b E0 0) sz 1 (fun qs : W1 => mw κ b E0 0)) := by
  refine NM.of (by decide +kernel) (Nat.le_of_ble_eq_true rfl) ?_
  intro p e s m below meth c ls hC hr hk hin hsz hE hT H locs hG hl
  have hx := hC.1
  have hb := hC.2.1
  have hl : lv_has ls 3 [(0, .int 5), (1, .int 0), (2, .int 5)] := hl
  refine lv_iload_n hx hb dX14_isIn_0 rfl (lv_at hl 0 rfl) ?_
  refine lv_iload_n hx hb dX14_isIn_1 rfl (lv_at hl 1 rfl) ?_
  refine lv_icmp_lt (tgt := 14) hx hb dX14_isIn_2 (by decide) (fun h2 => absurd h2 (by decide)) (fun _ => ?_)
  refine lv_iload_n hx hb dX14_isIn_5 rfl (lv_at hl 0 rfl) ?_
  refine lv_iload_n hx hb dX14_isIn_6 rfl (lv_at hl 2 rfl) ?_
  refine lv_icmp_gt (tgt := 14) hx hb dX14_isIn_7 (by decide) (fun h7 => absurd h7 (by decide)) (fun _ => ?_)
  refine lv_iconst (v := 1) hx hb dX14_isIn_10 (by decide) ?_
  refine lv_goto (tgt := 15) hx hb dX14_isIn_11 (by decide) ?_
  exact ze_i (qs := fun _ => 0) hC hG rfl rfl hr rfl hk (Nat.le_of_ble_eq_true rfl) (Nat.le_of_ble_eq_true rfl) dX14_isIn_15
set_option maxHeartbeats 4000000 in
set_option maxRecDepth 100000 in
theorem z_215_count (l : Launch) (hst : l.stackTraces = false) (D : va_G) (κ : K4) (E0 : Nat) (sz : Nat) (b : Nat → Nat) : NM l yX14_count cX14_count 5 (some .int) 1 20 1 6 E0 D κ (mw κ b E0 0) sz [.ref (b 0), .int 5] (QI D κ (mw κ b E0 0) sz (-1) (fun qs : W1 => mw κ b E0 0)) := by
  refine NM.of (by decide +kernel) (Nat.le_of_ble_eq_true rfl) ?_
  intro p e s m below meth c ls hC hr hk hin hsz hE hT H locs hG hl
  have hx := hC.1
  have hb := hC.2.1
  have hl : lv_has ls 5 [(0, .ref (b 0)), (1, .int 5)] := hl
  refine lv_iconst (v := 0) hx hb dX14_count_0 (by decide) ?_
  refine lv_istore_n (lv' := [(2, .int 0), (0, .ref (b 0)), (1, .int 5)]) hx hb dX14_count_1 rfl hl (by decide) rfl (fun ls hl => ?_)
  refine lv_iconst (v := 0) hx hb dX14_count_2 (by decide) ?_
  refine lv_istore_n (lv' := [(3, .int 0), (2, .int 0), (0, .ref (b 0)), (1, .int 5)]) hx hb dX14_count_3 rfl hl (by decide) rfl (fun ls hl => ?_)
  refine lv_iconst (v := 0) hx hb dX14_count_4 (by decide) ?_
  refine lv_istore (lv' := [(4, .int 0), (3, .int 0), (2, .int 0), (0, .ref (b 0)), (1, .int 5)]) hx hb dX14_count_5 hl (by decide) rfl (fun ls hl => ?_)
  refine lv_iload hx hb dX14_count_7 (lv_at hl 0 rfl) ?_
  refine lv_aload_n hx hb dX14_count_9 rfl (lv_at hl 3 rfl) ?_
  refine bw_get (C := RX14) (T := TX14) (N := 15) (ci := 9) (v := .ref (b 3)) 3 (by decide) 0 hC hG iwX14 rfl rfl w119 rfl rfl dX14_count_10 ?_
  have cut13 : Cut (mw κ b E0 0) (mw κ b E0 0) ([]) := (Cut.all 9 rfl (by decide))
  refine zc_i hG cut13 (zr_V (k := 3) (ci := 10) (n := 0) (As := []) (rest := [.int 0]) hC hG hE hT cut13 (z_74_size l hst D κ E0 H.size (b 3) (b 0) (b 1) (b 2) (b 4) (b 5) (b 6) (b 7) (b 8)) rfl rfl w179 w117 w182 w180 w181 (by decide +kernel) ⟨Nat.le_of_ble_eq_true rfl, Nat.le_of_ble_eq_true rfl⟩ rfl hl.1 rfl (Nat.le_of_ble_eq_true rfl) dX14_count_13 ⟨Nat.le_of_ble_eq_true rfl, Nat.le_of_ble_eq_true rfl⟩) (fun z1 H locs hG => ?_)
  have hG : BW D κ (mw κ b E0 0) _ s H locs := hG
  refine lv_icmp_ge (tgt := 51) hx hb dX14_count_16 (by decide) (fun _ => ?_) (fun h16 => absurd (by decide) h16)
  refine lv_iconst (v := 0) hx hb dX14_count_51 (by decide) ?_
  refine lv_istore (lv' := [(4, .int 0), (3, .int 0), (2, .int 0), (0, .ref (b 0)), (1, .int 5)]) hx hb dX14_count_52 hl (by decide) rfl (fun ls hl => ?_)
  refine lv_iload hx hb dX14_count_54 (lv_at hl 0 rfl) ?_
  refine lv_aload_n hx hb dX14_count_56 rfl (lv_at hl 3 rfl) ?_
  refine bw_get (C := RX14) (T := TX14) (N := 15) (ci := 9) (v := .ref (b 4)) 4 (by decide) 0 hC hG iwX14 rfl rfl w120 rfl rfl dX14_count_57 ?_
  have cut60 : Cut (mw κ b E0 0) (mw κ b E0 0) ([]) := (Cut.all 9 rfl (by decide))
  refine zc_i hG cut60 (zr_V (k := 4) (ci := 10) (n := 0) (As := []) (rest := [.int 0]) hC hG hE hT cut60 (z_90_size l hst D κ E0 H.size (b 4) (b 0) (b 1) (b 2) (b 3) (b 5) (b 6) (b 7) (b 8)) rfl rfl w179 w117 w182 w180 w181 (by decide +kernel) ⟨Nat.le_of_ble_eq_true rfl, Nat.le_of_ble_eq_true rfl⟩ rfl hl.1 rfl (Nat.le_of_ble_eq_true rfl) dX14_count_60 ⟨Nat.le_of_ble_eq_true rfl, Nat.le_of_ble_eq_true rfl⟩) (fun z2 H locs hG => ?_)
  have hG : BW D κ (mw κ b E0 0) _ s H locs := hG
  refine lv_icmp_ge (tgt := 102) hx hb dX14_count_63 (by decide) (fun _ => ?_) (fun h63 => absurd (by decide) h63)
  refine lv_bipush (v := 6) hx hb dX14_count_102 (by decide) ?_
  refine W.eq (g2 := F0 m 104 ls [.int (nI 6)]) rfl ?_
  refine bw_nI hC hG (by decide) w47 (Nat.le_of_ble_eq_true rfl) (Nat.le_of_ble_eq_true rfl) dX14_count_104 (fun q1 H hG => ?_)
  have hG : BW D κ ((mw κ b E0 0) ++ [(q1, .inl (κ.1, 6, .inl (fun _ => 0)))]) _ s H locs := hG
  refine lv_dup hx hb dX14_count_106 rfl ?_
  refine lv_iconst (v := 0) hx hb dX14_count_107 (by decide) ?_
  refine lv_aload_n hx hb dX14_count_108 rfl (lv_at hl 3 rfl) ?_
  refine bw_get (C := RX14) (T := TX14) (N := 15) (ci := 9) (v := .ref (b 2)) 2 (by decide) 0 hC hG iwX14 rfl rfl w118 rfl rfl dX14_count_109 ?_
  have cut112 : Cut ((mw κ b E0 0) ++ [(q1, .inl (κ.1, 6, .inl (fun _ => 0)))]) (mw κ b E0 0) ([(q1, .inl (κ.1, 6, .inl (fun _ => 0)))]) := (Cut.idx [0, 1, 2, 3, 4, 5, 6, 7, 8] [9] rfl rfl (by decide) (by decide) (by decide))
  refine zc_i hG cut112 (zr_V (k := 2) (ci := 10) (n := 0) (As := []) (rest := [.int 0, .ref q1, .ref q1]) hC hG hE hT cut112 (z_26_size l hst D κ E0 H.size (b 2) (b 0) (b 1) (b 3) (b 4) (b 5) (b 6) (b 7) (b 8)) rfl rfl w179 w117 w182 w180 w181 (by decide +kernel) ⟨Nat.le_of_ble_eq_true rfl, Nat.le_of_ble_eq_true rfl⟩ rfl hl.1 rfl (Nat.le_of_ble_eq_true rfl) dX14_count_112 ⟨Nat.le_of_ble_eq_true rfl, Nat.le_of_ble_eq_true rfl⟩) (fun z3 H locs hG => ?_)
  have hG : BW D κ (([(q1, .inl (κ.1, 6, .inl (fun _ => 0)))]) ++ (mw κ b E0 0)) _ s H locs := hG
  refine zs_ast 0 hC hG rfl (vp_box (by have e0 : (0 : Int32).toInt = 0 := (by decide); omega) (by have e0 : (0 : Int32).toInt = 0 := (by decide); omega)) dX14_count_115 (fun H locs hG => ?_)
  have hG : BW D κ ((([(q1, .inl (κ.1, 6, .inl (fun _ => 0)))]) ++ (mw κ b E0 0) : va_W).set 0 (q1, .inl (κ.1, 6, .inl (va_up (fun _ => 0) ((0 : Int32).toNatClampNeg) 0)))) _ s H locs := hG
  refine lv_dup hx hb dX14_count_116 rfl ?_
  refine lv_iconst (v := 1) hx hb dX14_count_117 (by decide) ?_
  refine lv_iload_n hx hb dX14_count_118 rfl (lv_at hl 2 rfl) ?_
  refine zs_ast 0 hC hG rfl (vp_box (by have e0 : (1 : Int32).toInt = 1 := (by decide); omega) (by have e0 : (1 : Int32).toInt = 1 := (by decide); omega)) dX14_count_119 (fun H locs hG => ?_)
  have hG : BW D κ (((([(q1, .inl (κ.1, 6, .inl (fun _ => 0)))]) ++ (mw κ b E0 0) : va_W).set 0 (q1, .inl (κ.1, 6, .inl (va_up (fun _ => 0) ((0 : Int32).toNatClampNeg) 0))) : va_W).set 0 (q1, .inl (κ.1, 6, .inl (va_up (va_up (fun _ => 0) ((0 : Int32).toNatClampNeg) 0) ((1 : Int32).toNatClampNeg) 0)))) _ s H locs := hG
  refine lv_dup hx hb dX14_count_120 rfl ?_
  refine lv_iconst (v := 2) hx hb dX14_count_121 (by decide) ?_
  refine lv_iload_n hx hb dX14_count_122 rfl (lv_at hl 1 rfl) ?_
  refine zs_ast 0 hC hG rfl (vp_box (by have e0 : (2 : Int32).toInt = 2 := (by decide); omega) (by have e0 : (2 : Int32).toInt = 2 := (by decide); omega)) dX14_count_123 (fun H locs hG => ?_)
  have hG : BW D κ ((((([(q1, .inl (κ.1, 6, .inl (fun _ => 0)))]) ++ (mw κ b E0 0) : va_W).set 0 (q1, .inl (κ.1, 6, .inl (va_up (fun _ => 0) ((0 : Int32).toNatClampNeg) 0))) : va_W).set 0 (q1, .inl (κ.1, 6, .inl (va_up (va_up (fun _ => 0) ((0 : Int32).toNatClampNeg) 0) ((1 : Int32).toNatClampNeg) 0))) : va_W).set 0 (q1, .inl (κ.1, 6, .inl (va_up (va_up (va_up (fun _ => 0) ((0 : Int32).toNatClampNeg) 0) ((1 : Int32).toNatClampNeg) 0) ((2 : Int32).toNatClampNeg) 0)))) _ s H locs := hG
  refine lv_dup hx hb dX14_count_124 rfl ?_
  refine lv_iconst (v := 3) hx hb dX14_count_125 (by decide) ?_
  refine lv_aload_n hx hb dX14_count_126 rfl (lv_at hl 3 rfl) ?_
  refine bw_get (C := RX14) (T := TX14) (N := 15) (ci := 9) (v := .ref (b 5)) 5 (by decide) 1 hC hG iwX14 rfl rfl w121 rfl rfl dX14_count_127 ?_
  have cut130 : Cut ((((([(q1, .inl (κ.1, 6, .inl (fun _ => 0)))]) ++ (mw κ b E0 0) : va_W).set 0 (q1, .inl (κ.1, 6, .inl (va_up (fun _ => 0) ((0 : Int32).toNatClampNeg) 0))) : va_W).set 0 (q1, .inl (κ.1, 6, .inl (va_up (va_up (fun _ => 0) ((0 : Int32).toNatClampNeg) 0) ((1 : Int32).toNatClampNeg) 0))) : va_W).set 0 (q1, .inl (κ.1, 6, .inl (va_up (va_up (va_up (fun _ => 0) ((0 : Int32).toNatClampNeg) 0) ((1 : Int32).toNatClampNeg) 0) ((2 : Int32).toNatClampNeg) 0)))) (mw κ b E0 0) ([(q1, .inl (κ.1, 6, .inl (va_up (va_up (va_up (fun _ => 0) ((0 : Int32).toNatClampNeg) 0) ((1 : Int32).toNatClampNeg) 0) ((2 : Int32).toNatClampNeg) 0)))]) := (Cut.idx [1, 2, 3, 4, 5, 6, 7, 8, 9] [0] rfl rfl (by decide) (by decide) (by decide))
  refine zc_i hG cut130 (zr_V (k := 6) (ci := 10) (n := 0) (As := []) (rest := [.int 3, .ref q1, .ref q1]) hC hG hE hT cut130 (z_110_size l hst D κ E0 H.size (b 5) (b 0) (b 1) (b 2) (b 3) (b 4) (b 6) (b 7) (b 8)) rfl rfl w179 w117 w182 w180 w181 (by decide +kernel) ⟨Nat.le_of_ble_eq_true rfl, Nat.le_of_ble_eq_true rfl⟩ rfl hl.1 rfl (Nat.le_of_ble_eq_true rfl) dX14_count_130 ⟨Nat.le_of_ble_eq_true rfl, Nat.le_of_ble_eq_true rfl⟩) (fun z4 H locs hG => ?_)
  have hG : BW D κ (([(q1, .inl (κ.1, 6, .inl (va_up (va_up (va_up (fun _ => 0) ((0 : Int32).toNatClampNeg) 0) ((1 : Int32).toNatClampNeg) 0) ((2 : Int32).toNatClampNeg) 0)))]) ++ (mw κ b E0 0)) _ s H locs := hG
  refine zs_ast 0 hC hG rfl (vp_box (by have e0 : (3 : Int32).toInt = 3 := (by decide); omega) (by have e0 : (3 : Int32).toInt = 3 := (by decide); omega)) dX14_count_133 (fun H locs hG => ?_)
  have hG : BW D κ ((([(q1, .inl (κ.1, 6, .inl (va_up (va_up (va_up (fun _ => 0) ((0 : Int32).toNatClampNeg) 0) ((1 : Int32).toNatClampNeg) 0) ((2 : Int32).toNatClampNeg) 0)))]) ++ (mw κ b E0 0) : va_W).set 0 (q1, .inl (κ.1, 6, .inl (va_up (va_up (va_up (va_up (fun _ => 0) ((0 : Int32).toNatClampNeg) 0) ((1 : Int32).toNatClampNeg) 0) ((2 : Int32).toNatClampNeg) 0) ((3 : Int32).toNatClampNeg) 0)))) _ s H locs := hG
  refine lv_dup hx hb dX14_count_134 rfl ?_
  refine lv_iconst (v := 4) hx hb dX14_count_135 (by decide) ?_
  refine lv_aload_n hx hb dX14_count_136 rfl (lv_at hl 3 rfl) ?_
  refine bw_get (C := RX14) (T := TX14) (N := 15) (ci := 9) (v := .int 0) 9 (by decide) 1 hC hG iwX14 rfl rfl w332 rfl rfl dX14_count_137 ?_
  refine zs_ast 0 hC hG rfl (vp_box (by have e0 : (4 : Int32).toInt = 4 := (by decide); omega) (by have e0 : (4 : Int32).toInt = 4 := (by decide); omega)) dX14_count_140 (fun H locs hG => ?_)
  have hG : BW D κ (((([(q1, .inl (κ.1, 6, .inl (va_up (va_up (va_up (fun _ => 0) ((0 : Int32).toNatClampNeg) 0) ((1 : Int32).toNatClampNeg) 0) ((2 : Int32).toNatClampNeg) 0)))]) ++ (mw κ b E0 0) : va_W).set 0 (q1, .inl (κ.1, 6, .inl (va_up (va_up (va_up (va_up (fun _ => 0) ((0 : Int32).toNatClampNeg) 0) ((1 : Int32).toNatClampNeg) 0) ((2 : Int32).toNatClampNeg) 0) ((3 : Int32).toNatClampNeg) 0))) : va_W).set 0 (q1, .inl (κ.1, 6, .inl (va_up (va_up (va_up (va_up (va_up (fun _ => 0) ((0 : Int32).toNatClampNeg) 0) ((1 : Int32).toNatClampNeg) 0) ((2 : Int32).toNatClampNeg) 0) ((3 : Int32).toNatClampNeg) 0) ((4 : Int32).toNatClampNeg) 0)))) _ s H locs := hG
  refine lv_dup hx hb dX14_count_141 rfl ?_
  refine lv_iconst (v := 5) hx hb dX14_count_142 (by decide) ?_
  refine lv_aload_n hx hb dX14_count_143 rfl (lv_at hl 3 rfl) ?_
  refine bw_get (C := RX14) (T := TX14) (N := 15) (ci := 9) (v := .int (-1)) 10 (by decide) 1 hC hG iwX14 rfl rfl w124 rfl rfl dX14_count_144 ?_
  refine zs_ast 0 hC hG rfl (vp_box (by have e0 : (5 : Int32).toInt = 5 := (by decide); omega) (by have e0 : (5 : Int32).toInt = 5 := (by decide); omega)) dX14_count_147 (fun H locs hG => ?_)
  have hG : BW D κ ((((([(q1, .inl (κ.1, 6, .inl (va_up (va_up (va_up (fun _ => 0) ((0 : Int32).toNatClampNeg) 0) ((1 : Int32).toNatClampNeg) 0) ((2 : Int32).toNatClampNeg) 0)))]) ++ (mw κ b E0 0) : va_W).set 0 (q1, .inl (κ.1, 6, .inl (va_up (va_up (va_up (va_up (fun _ => 0) ((0 : Int32).toNatClampNeg) 0) ((1 : Int32).toNatClampNeg) 0) ((2 : Int32).toNatClampNeg) 0) ((3 : Int32).toNatClampNeg) 0))) : va_W).set 0 (q1, .inl (κ.1, 6, .inl (va_up (va_up (va_up (va_up (va_up (fun _ => 0) ((0 : Int32).toNatClampNeg) 0) ((1 : Int32).toNatClampNeg) 0) ((2 : Int32).toNatClampNeg) 0) ((3 : Int32).toNatClampNeg) 0) ((4 : Int32).toNatClampNeg) 0))) : va_W).set 0 (q1, .inl (κ.1, 6, .inl (va_up (va_up (va_up (va_up (va_up (va_up (fun _ => 0) ((0 : Int32).toNatClampNeg) 0) ((1 : Int32).toNatClampNeg) 0) ((2 : Int32).toNatClampNeg) 0) ((3 : Int32).toNatClampNeg) 0) ((4 : Int32).toNatClampNeg) 0) ((5 : Int32).toNatClampNeg) (-1))))) _ s H locs := hG
  refine lv_astore (lv' := [(4, .ref q1), (3, .int 0), (2, .int 0), (0, .ref (b 0)), (1, .int 5)]) hx hb dX14_count_148 hl (by decide) rfl (fun ls hl => ?_)
  refine lv_aload hx hb dX14_count_150 (lv_at hl 0 rfl) ?_
  refine lv_iload_n hx hb dX14_count_152 rfl (lv_at hl 4 rfl) ?_
  refine zs_ald 0 (v := (-1)) hC hG rfl (vp_box (by have e0 : (5 : Int32).toInt = 5 := (by decide); omega) (by have e0 : (5 : Int32).toInt = 5 := (by decide); omega)) rfl dX14_count_153 ?_
  have hG := hG.at (ws' := mw κ b E0 0) [1, 2, 3, 4, 5, 6, 7, 8, 9] (by decide) rfl
  exact ze_i (qs := fun _ => 0) hC hG rfl rfl hr rfl hk (Nat.le_of_ble_eq_true rfl) (Nat.le_of_ble_eq_true rfl) dX14_count_154
