set_option maxRecDepth 100000 in
set_option maxHeartbeats 1000000 in
theorem law_0 {p : Program} {l : Launch} {e : Env} {s : State} {m : MethodId} {args : Array Value} {below : List Frame} {meth : Method} {c : Code} {Q : State → Prop} {D : va_G} {cs : Nat → ClassId} {ad am : Nat → Nat} {ao b L N n : Nat} {xs : Nat → Int32} {I : vS → vS → Prop} {σK σM : vS} {ov : Nat → Int64} {H : Heap} {locs : List Loc} {ls : Array Slot} {cells slots c1 s1 : Nat} (hcf : CallFix p m c cL_law 8 s args kws RL) (hfl : l.flags = flags0) (hE : k_EN D cs s) (hap : k_AP cs ad am ao s.heap.size) (hX : va_X b L xs s s.heap) (hbl : b < s.heap.size) (hn : n + 6 ≤ L) (hL2 : L ≤ 3072) (hc1 : cells + 1 ≤ c1) (hs1 : slots + 6 ≤ s1) (hc2 : c1 ≤ 600000) (hs2 : s1 ≤ 7000000)
    (J821 : ∀ (σK σM : vS) (ov : Nat → Int64) (H : Heap) (locs : List Loc) (ls : Array Slot) (cells slots : Nat), lv_has ls 8 [(0, .ref b), (1, .ref (ad 0)), (2, .ref (am 0)), (3, .ref ao), (4, .int (nI n))] → k_L D cs ad am ao s σK σM ov H locs → cells ≤ c1 → slots ≤ s1 → I σK σM → W p l e room_1 s m args below meth c H locs cells slots Q (F0 m 821 ls []))
    (hs : st_0 N I σK σM xs n) (hl : lv_has ls 8 [(0, .ref b), (1, .ref (ad 0)), (2, .ref (am 0)), (3, .ref ao), (4, .int (nI n))]) (hL : k_L D cs ad am ao s σK σM ov H locs) : W p l e room_1 s m args below meth c H locs cells slots Q (F0 m 116 ls []) := by
  have hx := hcf.1
  have hb := hcf.2.1
  have htk := hcf.2.2.2.2
  have hown := hcf.2.2.2.1
  rcases hs with ⟨r, σK', σM', hf1, hf2, hth, hI⟩ | ⟨yb, σM', hf1, hf2, hth, hI⟩ | ⟨yb, σM', hf1, hf2, hth, hI⟩
  · refine lv_aload_n hx hb dL_law_116 rfl (lv_at hl 1 rfl) ?_
    refine lv_aload_n hx hb dL_law_117 rfl (lv_at hl 0 rfl) ?_
    refine lv_iload hx hb dL_law_118 (lv_at hl 4 rfl) ?_
    refine lv_iconst (v := 1) hx hb dL_law_120 rfl ?_
    refine lv_iadd hx hb dL_law_121 ?_
    refine k_sld (v := xs (n + 1)) hX hbl hL hx hb (k_sin 1 rfl (by omega) (by omega)) (k_sval 1 rfl (by omega)) dL_law_122 ?_
    refine lv_i2l hx hb dL_law_123 rfl ?_
    refine lv_bipush (v := 32) hx hb dL_law_124 rfl ?_
    refine lv_lshl hx hb dL_law_126 rfl ?_
    refine lv_aload_n hx hb dL_law_127 rfl (lv_at hl 0 rfl) ?_
    refine lv_iload hx hb dL_law_128 (lv_at hl 4 rfl) ?_
    refine lv_iconst (v := 2) hx hb dL_law_130 rfl ?_
    refine lv_iadd hx hb dL_law_131 ?_
    refine k_sld (v := xs (n + 2)) hX hbl hL hx hb (k_sin 2 rfl (by omega) (by omega)) (k_sval 2 rfl (by omega)) dL_law_132 ?_
    refine lv_i2l hx hb dL_law_133 rfl ?_
    refine lv_ldc2 hx hb hown (kw_962 htk) dL_law_134 ?_
    refine lv_land hx hb dL_law_137 ?_
    refine lv_lor hx hb dL_law_138 ?_
    refine lv_aload_n hx hb dL_law_139 rfl (lv_at hl 3 rfl) ?_
    refine k_lcallH hap (k_runSW (n := 3) (As := [.ref (ad 0), .long ((((xs (n + 1))).toInt64 <<< ((32 : Int32).toInt64 &&& 63)) ||| (((xs (n + 2))).toInt64 &&& (4294967295 : Int64))), .ref ao]) (rest := []) hcf (hL_type l D cs ad ao N σK ov ((((xs (n + 1))).toInt64 <<< ((32 : Int32).toInt64 &&& 63)) ||| (((xs (n + 2))).toInt64 &&& (4294967295 : Int64))) r σK' hf1) kc_470 (kw_51 htk) (kw_469 htk) (kw_468 htk) ⟨by decide, by decide, by decide +kernel⟩ rfl rfl ⟨Nat.le_of_ble_eq_true rfl, Nat.le_of_ble_eq_true rfl⟩ ⟨k_lblindH, k_lpreH hap hE hL⟩ rfl rfl hl.1 rfl (lv_room (Nat.le_of_ble_eq_true rfl)) dL_law_140 ⟨by show _ ≤ 623897; omega, by show _ ≤ 7224412; omega⟩) hL (fun H locs hL => ?_)
    refine lv_istore hx hb dL_law_143 hl (Nat.le_of_ble_eq_true rfl) rfl (fun ls (hl : lv_has ls 8 [(5, .int (0 : Int32)), (0, .ref b), (1, .ref (ad 0)), (2, .ref (am 0)), (3, .ref ao), (4, .int (nI n))]) => ?_)
    refine lv_aload_n hx hb dL_law_145 rfl (lv_at hl 3 rfl) ?_
    refine lv_aload_n hx hb dL_law_146 rfl (lv_at hl 1 rfl) ?_
    refine lv_iload hx hb dL_law_147 (lv_at hl 5 rfl) ?_
    refine lv_iconst (v := 1) hx hb dL_law_149 rfl ?_
    refine lv_iadd hx hb dL_law_150 ?_
    refine k_sld (v := xs (n + 1)) hX hbl hL hx hb (k_sin 1 rfl (by omega) (by omega)) (k_sval 1 rfl (by omega)) dL_law_151 ?_
    refine lv_i2l hx hb dL_law_152 rfl ?_
    refine lv_bipush (v := 32) hx hb dL_law_153 rfl ?_
    refine lv_lshl hx hb dL_law_155 rfl ?_
    refine lv_aload_n hx hb dL_law_156 rfl (lv_at hl 1 rfl) ?_
    refine lv_iload hx hb dL_law_157 (lv_at hl 5 rfl) ?_
    refine lv_iconst (v := 2) hx hb dL_law_159 rfl ?_
    refine lv_iadd hx hb dL_law_160 ?_
    refine k_sld (v := xs (n + 2)) hX hbl hL hx hb (k_sin 2 rfl (by omega) (by omega)) (k_sval 2 rfl (by omega)) dL_law_161 ?_
    refine lv_i2l hx hb dL_law_162 rfl ?_
    refine lv_ldc2 hx hb hown (kw_962 htk) dL_law_163 ?_
    refine lv_land hx hb dL_law_166 ?_
    refine lv_lor hx hb dL_law_167 ?_
    refine k_lcallM hap (va_runV (As := [.long ((((xs (n + 1))).toInt64 <<< ((32 : Int32).toInt64 &&& 63)) ||| (((xs (n + 2))).toInt64 &&& (4294967295 : Int64)))]) (rest := []) hcf (mX6_type l D cs am N σM ((((xs (n + 1))).toInt64 <<< ((32 : Int32).toInt64 &&& 63)) ||| (((xs (n + 2))).toInt64 &&& (4294967295 : Int64))) r σM' hf2) (kcX6_type htk (kw_777 htk) ⟨Nat.le_of_ble_eq_true rfl, Nat.le_of_ble_eq_true rfl⟩) ⟨k_blind, va_recv (ci := 6) (q0 := 0) (k_tM hE.1) hL.2.1 rfl rfl, k_lpreM hap hE hL⟩ rfl rfl hl.1 rfl (lv_room (Nat.le_of_ble_eq_true rfl)) dL_law_168 ⟨by show _ ≤ 623897; omega, by show _ ≤ 7224412; omega⟩) hL (fun H locs hL => ?_)
    refine lv_istore hx hb dL_law_171 hl (Nat.le_of_ble_eq_true rfl) rfl (fun ls (hl : lv_has ls 8 [(6, .int r), (5, .int (0 : Int32)), (0, .ref b), (1, .ref (ad 0)), (2, .ref (am 0)), (3, .ref ao), (4, .int (nI n))]) => ?_)
    refine lv_aload_n hx hb dL_law_173 rfl (lv_at hl 4 rfl) ?_
    refine k_lcallP (va_runV (As := []) (rest := []) hcf (mX6_thrown l D cs am N σM' (σM'.1 0) rfl) (kcX6_thrown htk (kw_773 htk) ⟨Nat.le_of_ble_eq_true rfl, Nat.le_of_ble_eq_true rfl⟩) ⟨k_blind, va_recv (ci := 6) (q0 := 0) (k_tM hE.1) hL.2.1 rfl rfl, k_lpreM hap hE hL⟩ rfl rfl hl.1 rfl (lv_room (Nat.le_of_ble_eq_true rfl)) dL_law_174 ⟨by show _ ≤ 623897; omega, by show _ ≤ 7224412; omega⟩) ?_
    refine lv_iload hx hb dL_law_177 (lv_at hl 1 rfl) ?_
    refine lv_icmp_eq (tgt := 184) hx hb dL_law_179 (by decide) (fun c1 => ?_) (fun c1 => absurd hth c1)
    refine lv_iload hx hb dL_law_184 (lv_at hl 1 rfl) ?_
    refine lv_if_ne (tgt := 201) hx hb dL_law_186 (by decide) (fun c2 => absurd rfl c2) (fun c2 => ?_)
    refine lv_aload_n hx hb dL_law_189 rfl (lv_at hl 5 rfl) ?_
    refine lv_iconst (v := 0) hx hb dL_law_190 rfl ?_
    refine k_ldout (v := (r).toInt64) hE hL rfl hx hb dL_law_191 ?_
    refine lv_iload hx hb dL_law_192 (lv_at hl 0 rfl) ?_
    refine lv_i2l hx hb dL_law_194 rfl ?_
    refine W.lcmp hx hb dL_law_195 ?_
    refine lv_if_eq (tgt := 201) hx hb dL_law_196 (by decide) (fun c3 => ?_) (fun c3 => absurd ((lg_cmp_eq _ _).mpr rfl) c3)
    refine lv_goto (tgt := 821) hx hb dL_law_201 (by decide) ?_
    exact J821 σK' σM' (vp_updL ov 0 (r).toInt64) H locs ls cells slots (lv_sub hl [2, 3, 4, 5, 6] rfl) hL (by omega) (by omega) hI
  · refine lv_aload_n hx hb dL_law_116 rfl (lv_at hl 1 rfl) ?_
    refine lv_aload_n hx hb dL_law_117 rfl (lv_at hl 0 rfl) ?_
    refine lv_iload hx hb dL_law_118 (lv_at hl 4 rfl) ?_
    refine lv_iconst (v := 1) hx hb dL_law_120 rfl ?_
    refine lv_iadd hx hb dL_law_121 ?_
    refine k_sld (v := xs (n + 1)) hX hbl hL hx hb (k_sin 1 rfl (by omega) (by omega)) (k_sval 1 rfl (by omega)) dL_law_122 ?_
    refine lv_i2l hx hb dL_law_123 rfl ?_
    refine lv_bipush (v := 32) hx hb dL_law_124 rfl ?_
    refine lv_lshl hx hb dL_law_126 rfl ?_
    refine lv_aload_n hx hb dL_law_127 rfl (lv_at hl 0 rfl) ?_
    refine lv_iload hx hb dL_law_128 (lv_at hl 4 rfl) ?_
    refine lv_iconst (v := 2) hx hb dL_law_130 rfl ?_
    refine lv_iadd hx hb dL_law_131 ?_
    refine k_sld (v := xs (n + 2)) hX hbl hL hx hb (k_sin 2 rfl (by omega) (by omega)) (k_sval 2 rfl (by omega)) dL_law_132 ?_
    refine lv_i2l hx hb dL_law_133 rfl ?_
    refine lv_ldc2 hx hb hown (kw_962 htk) dL_law_134 ?_
    refine lv_land hx hb dL_law_137 ?_
    refine lv_lor hx hb dL_law_138 ?_
    refine lv_aload_n hx hb dL_law_139 rfl (lv_at hl 3 rfl) ?_
    refine k_lcallT (k_runSW (n := 3) (As := [.ref (ad 0), .long ((((xs (n + 1))).toInt64 <<< ((32 : Int32).toInt64 &&& 63)) ||| (((xs (n + 2))).toInt64 &&& (4294967295 : Int64))), .ref ao]) (rest := []) hcf (gL_type_0 l hfl D cs ad ao N σK ov ((((xs (n + 1))).toInt64 <<< ((32 : Int32).toInt64 &&& 63)) ||| (((xs (n + 2))).toInt64 &&& (4294967295 : Int64))) hf1) kc_470 (kw_51 htk) (kw_469 htk) (kw_468 htk) ⟨by decide, by decide, by decide +kernel⟩ rfl rfl ⟨Nat.le_of_ble_eq_true rfl, Nat.le_of_ble_eq_true rfl⟩ ⟨k_lblindH, k_lpreH hap hE hL⟩ rfl rfl hl.1 rfl (lv_room (Nat.le_of_ble_eq_true rfl)) dL_law_140 ⟨by show _ ≤ 623897; omega, by show _ ≤ 7224412; omega⟩) hL (fun H locs hL => ?_)
    refine lv_istore hx hb dL_law_143 hl (Nat.le_of_ble_eq_true rfl) rfl (fun ls (hl : lv_has ls 8 [(5, .int (1 : Int32)), (0, .ref b), (1, .ref (ad 0)), (2, .ref (am 0)), (3, .ref ao), (4, .int (nI n))]) => ?_)
    refine lv_aload_n hx hb dL_law_145 rfl (lv_at hl 3 rfl) ?_
    refine lv_aload_n hx hb dL_law_146 rfl (lv_at hl 1 rfl) ?_
    refine lv_iload hx hb dL_law_147 (lv_at hl 5 rfl) ?_
    refine lv_iconst (v := 1) hx hb dL_law_149 rfl ?_
    refine lv_iadd hx hb dL_law_150 ?_
    refine k_sld (v := xs (n + 1)) hX hbl hL hx hb (k_sin 1 rfl (by omega) (by omega)) (k_sval 1 rfl (by omega)) dL_law_151 ?_
    refine lv_i2l hx hb dL_law_152 rfl ?_
    refine lv_bipush (v := 32) hx hb dL_law_153 rfl ?_
    refine lv_lshl hx hb dL_law_155 rfl ?_
    refine lv_aload_n hx hb dL_law_156 rfl (lv_at hl 1 rfl) ?_
    refine lv_iload hx hb dL_law_157 (lv_at hl 5 rfl) ?_
    refine lv_iconst (v := 2) hx hb dL_law_159 rfl ?_
    refine lv_iadd hx hb dL_law_160 ?_
    refine k_sld (v := xs (n + 2)) hX hbl hL hx hb (k_sin 2 rfl (by omega) (by omega)) (k_sval 2 rfl (by omega)) dL_law_161 ?_
    refine lv_i2l hx hb dL_law_162 rfl ?_
    refine lv_ldc2 hx hb hown (kw_962 htk) dL_law_163 ?_
    refine lv_land hx hb dL_law_166 ?_
    refine lv_lor hx hb dL_law_167 ?_
    refine k_lcallM hap (va_runV (As := [.long ((((xs (n + 1))).toInt64 <<< ((32 : Int32).toInt64 &&& 63)) ||| (((xs (n + 2))).toInt64 &&& (4294967295 : Int64)))]) (rest := []) hcf (mX6_type l D cs am N σM ((((xs (n + 1))).toInt64 <<< ((32 : Int32).toInt64 &&& 63)) ||| (((xs (n + 2))).toInt64 &&& (4294967295 : Int64))) yb σM' hf2) (kcX6_type htk (kw_777 htk) ⟨Nat.le_of_ble_eq_true rfl, Nat.le_of_ble_eq_true rfl⟩) ⟨k_blind, va_recv (ci := 6) (q0 := 0) (k_tM hE.1) hL.2.1 rfl rfl, k_lpreM hap hE hL⟩ rfl rfl hl.1 rfl (lv_room (Nat.le_of_ble_eq_true rfl)) dL_law_168 ⟨by show _ ≤ 623897; omega, by show _ ≤ 7224412; omega⟩) hL (fun H locs hL => ?_)
    refine lv_istore hx hb dL_law_171 hl (Nat.le_of_ble_eq_true rfl) rfl (fun ls (hl : lv_has ls 8 [(6, .int yb), (5, .int (1 : Int32)), (0, .ref b), (1, .ref (ad 0)), (2, .ref (am 0)), (3, .ref ao), (4, .int (nI n))]) => ?_)
    refine lv_aload_n hx hb dL_law_173 rfl (lv_at hl 4 rfl) ?_
    refine k_lcallP (va_runV (As := []) (rest := []) hcf (mX6_thrown l D cs am N σM' (σM'.1 0) rfl) (kcX6_thrown htk (kw_773 htk) ⟨Nat.le_of_ble_eq_true rfl, Nat.le_of_ble_eq_true rfl⟩) ⟨k_blind, va_recv (ci := 6) (q0 := 0) (k_tM hE.1) hL.2.1 rfl rfl, k_lpreM hap hE hL⟩ rfl rfl hl.1 rfl (lv_room (Nat.le_of_ble_eq_true rfl)) dL_law_174 ⟨by show _ ≤ 623897; omega, by show _ ≤ 7224412; omega⟩) ?_
    refine lv_iload hx hb dL_law_177 (lv_at hl 1 rfl) ?_
    refine lv_icmp_eq (tgt := 184) hx hb dL_law_179 (by decide) (fun c1 => ?_) (fun c1 => absurd hth c1)
    refine lv_iload hx hb dL_law_184 (lv_at hl 1 rfl) ?_
    refine lv_if_ne (tgt := 201) hx hb dL_law_186 (by decide) (fun c2 => ?_) (fun c2 => absurd c2 (by decide))
    refine lv_goto (tgt := 821) hx hb dL_law_201 (by decide) ?_
    exact J821 σK σM' ov H locs ls (cells + 1) (slots + 6) (lv_sub hl [2, 3, 4, 5, 6] rfl) hL (by omega) (by omega) hI
  · refine lv_aload_n hx hb dL_law_116 rfl (lv_at hl 1 rfl) ?_
    refine lv_aload_n hx hb dL_law_117 rfl (lv_at hl 0 rfl) ?_
    refine lv_iload hx hb dL_law_118 (lv_at hl 4 rfl) ?_
    refine lv_iconst (v := 1) hx hb dL_law_120 rfl ?_
    refine lv_iadd hx hb dL_law_121 ?_
    refine k_sld (v := xs (n + 1)) hX hbl hL hx hb (k_sin 1 rfl (by omega) (by omega)) (k_sval 1 rfl (by omega)) dL_law_122 ?_
    refine lv_i2l hx hb dL_law_123 rfl ?_
    refine lv_bipush (v := 32) hx hb dL_law_124 rfl ?_
    refine lv_lshl hx hb dL_law_126 rfl ?_
    refine lv_aload_n hx hb dL_law_127 rfl (lv_at hl 0 rfl) ?_
    refine lv_iload hx hb dL_law_128 (lv_at hl 4 rfl) ?_
    refine lv_iconst (v := 2) hx hb dL_law_130 rfl ?_
    refine lv_iadd hx hb dL_law_131 ?_
    refine k_sld (v := xs (n + 2)) hX hbl hL hx hb (k_sin 2 rfl (by omega) (by omega)) (k_sval 2 rfl (by omega)) dL_law_132 ?_
    refine lv_i2l hx hb dL_law_133 rfl ?_
    refine lv_ldc2 hx hb hown (kw_962 htk) dL_law_134 ?_
    refine lv_land hx hb dL_law_137 ?_
    refine lv_lor hx hb dL_law_138 ?_
    refine lv_aload_n hx hb dL_law_139 rfl (lv_at hl 3 rfl) ?_
    refine k_lcallT (k_runSW (n := 3) (As := [.ref (ad 0), .long ((((xs (n + 1))).toInt64 <<< ((32 : Int32).toInt64 &&& 63)) ||| (((xs (n + 2))).toInt64 &&& (4294967295 : Int64))), .ref ao]) (rest := []) hcf (gL_type_1 l hfl D cs ad ao N σK ov ((((xs (n + 1))).toInt64 <<< ((32 : Int32).toInt64 &&& 63)) ||| (((xs (n + 2))).toInt64 &&& (4294967295 : Int64))) hf1) kc_470 (kw_51 htk) (kw_469 htk) (kw_468 htk) ⟨by decide, by decide, by decide +kernel⟩ rfl rfl ⟨Nat.le_of_ble_eq_true rfl, Nat.le_of_ble_eq_true rfl⟩ ⟨k_lblindH, k_lpreH hap hE hL⟩ rfl rfl hl.1 rfl (lv_room (Nat.le_of_ble_eq_true rfl)) dL_law_140 ⟨by show _ ≤ 623897; omega, by show _ ≤ 7224412; omega⟩) hL (fun H locs hL => ?_)
    refine lv_istore hx hb dL_law_143 hl (Nat.le_of_ble_eq_true rfl) rfl (fun ls (hl : lv_has ls 8 [(5, .int (2 : Int32)), (0, .ref b), (1, .ref (ad 0)), (2, .ref (am 0)), (3, .ref ao), (4, .int (nI n))]) => ?_)
    refine lv_aload_n hx hb dL_law_145 rfl (lv_at hl 3 rfl) ?_
    refine lv_aload_n hx hb dL_law_146 rfl (lv_at hl 1 rfl) ?_
    refine lv_iload hx hb dL_law_147 (lv_at hl 5 rfl) ?_
    refine lv_iconst (v := 1) hx hb dL_law_149 rfl ?_
    refine lv_iadd hx hb dL_law_150 ?_
    refine k_sld (v := xs (n + 1)) hX hbl hL hx hb (k_sin 1 rfl (by omega) (by omega)) (k_sval 1 rfl (by omega)) dL_law_151 ?_
    refine lv_i2l hx hb dL_law_152 rfl ?_
    refine lv_bipush (v := 32) hx hb dL_law_153 rfl ?_
    refine lv_lshl hx hb dL_law_155 rfl ?_
    refine lv_aload_n hx hb dL_law_156 rfl (lv_at hl 1 rfl) ?_
    refine lv_iload hx hb dL_law_157 (lv_at hl 5 rfl) ?_
    refine lv_iconst (v := 2) hx hb dL_law_159 rfl ?_
    refine lv_iadd hx hb dL_law_160 ?_
    refine k_sld (v := xs (n + 2)) hX hbl hL hx hb (k_sin 2 rfl (by omega) (by omega)) (k_sval 2 rfl (by omega)) dL_law_161 ?_
    refine lv_i2l hx hb dL_law_162 rfl ?_
    refine lv_ldc2 hx hb hown (kw_962 htk) dL_law_163 ?_
    refine lv_land hx hb dL_law_166 ?_
    refine lv_lor hx hb dL_law_167 ?_
    refine k_lcallM hap (va_runV (As := [.long ((((xs (n + 1))).toInt64 <<< ((32 : Int32).toInt64 &&& 63)) ||| (((xs (n + 2))).toInt64 &&& (4294967295 : Int64)))]) (rest := []) hcf (mX6_type l D cs am N σM ((((xs (n + 1))).toInt64 <<< ((32 : Int32).toInt64 &&& 63)) ||| (((xs (n + 2))).toInt64 &&& (4294967295 : Int64))) yb σM' hf2) (kcX6_type htk (kw_777 htk) ⟨Nat.le_of_ble_eq_true rfl, Nat.le_of_ble_eq_true rfl⟩) ⟨k_blind, va_recv (ci := 6) (q0 := 0) (k_tM hE.1) hL.2.1 rfl rfl, k_lpreM hap hE hL⟩ rfl rfl hl.1 rfl (lv_room (Nat.le_of_ble_eq_true rfl)) dL_law_168 ⟨by show _ ≤ 623897; omega, by show _ ≤ 7224412; omega⟩) hL (fun H locs hL => ?_)
    refine lv_istore hx hb dL_law_171 hl (Nat.le_of_ble_eq_true rfl) rfl (fun ls (hl : lv_has ls 8 [(6, .int yb), (5, .int (2 : Int32)), (0, .ref b), (1, .ref (ad 0)), (2, .ref (am 0)), (3, .ref ao), (4, .int (nI n))]) => ?_)
    refine lv_aload_n hx hb dL_law_173 rfl (lv_at hl 4 rfl) ?_
    refine k_lcallP (va_runV (As := []) (rest := []) hcf (mX6_thrown l D cs am N σM' (σM'.1 0) rfl) (kcX6_thrown htk (kw_773 htk) ⟨Nat.le_of_ble_eq_true rfl, Nat.le_of_ble_eq_true rfl⟩) ⟨k_blind, va_recv (ci := 6) (q0 := 0) (k_tM hE.1) hL.2.1 rfl rfl, k_lpreM hap hE hL⟩ rfl rfl hl.1 rfl (lv_room (Nat.le_of_ble_eq_true rfl)) dL_law_174 ⟨by show _ ≤ 623897; omega, by show _ ≤ 7224412; omega⟩) ?_
    refine lv_iload hx hb dL_law_177 (lv_at hl 1 rfl) ?_
    refine lv_icmp_eq (tgt := 184) hx hb dL_law_179 (by decide) (fun c1 => ?_) (fun c1 => absurd hth c1)
    refine lv_iload hx hb dL_law_184 (lv_at hl 1 rfl) ?_
    refine lv_if_ne (tgt := 201) hx hb dL_law_186 (by decide) (fun c2 => ?_) (fun c2 => absurd c2 (by decide))
    refine lv_goto (tgt := 821) hx hb dL_law_201 (by decide) ?_
    exact J821 σK σM' ov H locs ls (cells + 1) (slots + 6) (lv_sub hl [2, 3, 4, 5, 6] rfl) hL (by omega) (by omega) hI
set_option maxRecDepth 100000 in
set_option maxHeartbeats 1000000 in
theorem law_1 {p : Program} {l : Launch} {e : Env} {s : State} {m : MethodId} {args : Array Value} {below : List Frame} {meth : Method} {c : Code} {Q : State → Prop} {D : va_G} {cs : Nat → ClassId} {ad am : Nat → Nat} {ao b L N n : Nat} {xs : Nat → Int32} {I : vS → vS → Prop} {σK σM : vS} {ov : Nat → Int64} {H : Heap} {locs : List Loc} {ls : Array Slot} {cells slots c1 s1 : Nat} (hcf : CallFix p m c cL_law 8 s args kws RL) (hfl : l.flags = flags0) (hE : k_EN D cs s) (hap : k_AP cs ad am ao s.heap.size) (hX : va_X b L xs s s.heap) (hbl : b < s.heap.size) (hn : n + 6 ≤ L) (hL2 : L ≤ 3072) (hc1 : cells + 1 ≤ c1) (hs1 : slots + 6 ≤ s1) (hc2 : c1 ≤ 600000) (hs2 : s1 ≤ 7000000)
    (J821 : ∀ (σK σM : vS) (ov : Nat → Int64) (H : Heap) (locs : List Loc) (ls : Array Slot) (cells slots : Nat), lv_has ls 8 [(0, .ref b), (1, .ref (ad 0)), (2, .ref (am 0)), (3, .ref ao), (4, .int (nI n))] → k_L D cs ad am ao s σK σM ov H locs → cells ≤ c1 → slots ≤ s1 → I σK σM → W p l e room_1 s m args below meth c H locs cells slots Q (F0 m 821 ls []))
    (hs : st_1 N I σK σM xs n) (hl : lv_has ls 8 [(0, .ref b), (1, .ref (ad 0)), (2, .ref (am 0)), (3, .ref ao), (4, .int (nI n))]) (hL : k_L D cs ad am ao s σK σM ov H locs) : W p l e room_1 s m args below meth c H locs cells slots Q (F0 m 204 ls []) := by
  have hx := hcf.1
  have hb := hcf.2.1
  have htk := hcf.2.2.2.2
  have hown := hcf.2.2.2.1
  obtain ⟨r, σK', σM', hf1, hf2, hI⟩ := hs
  refine lv_aload_n hx hb dL_law_204 rfl (lv_at hl 1 rfl) ?_
  refine k_lcallK hap (va_runV (As := []) (rest := []) hcf (mX5_read l D cs ad N σK r σK' hf1) (kcX5_read htk (kw_249 htk) ⟨Nat.le_of_ble_eq_true rfl, Nat.le_of_ble_eq_true rfl⟩) ⟨k_blind, va_recv (ci := 5) (q0 := 0) hE.1 hL.1 rfl rfl, k_lpreK hap hE hL⟩ rfl rfl hl.1 rfl (lv_room (Nat.le_of_ble_eq_true rfl)) dL_law_205 ⟨by show _ ≤ 623897; omega, by show _ ≤ 7224412; omega⟩) hL (fun H locs hL => ?_)
  refine lv_aload_n hx hb dL_law_208 rfl (lv_at hl 2 rfl) ?_
  refine k_lcallM hap (va_runV (As := []) (rest := [.int r]) hcf (mX6_read l D cs am N σM r σM' hf2) (kcX6_read htk (kw_784 htk) ⟨Nat.le_of_ble_eq_true rfl, Nat.le_of_ble_eq_true rfl⟩) ⟨k_blind, va_recv (ci := 6) (q0 := 0) (k_tM hE.1) hL.2.1 rfl rfl, k_lpreM hap hE hL⟩ rfl rfl hl.1 rfl (lv_room (Nat.le_of_ble_eq_true rfl)) dL_law_209 ⟨by show _ ≤ 623897; omega, by show _ ≤ 7224412; omega⟩) hL (fun H locs hL => ?_)
  refine lv_icmp_eq (tgt := 821) hx hb dL_law_212 (by decide) (fun c1 => ?_) (fun c1 => absurd rfl c1)
  exact J821 σK' σM' ov H locs ls cells slots hl hL (by omega) (by omega) hI
set_option maxRecDepth 100000 in
set_option maxHeartbeats 1000000 in
theorem law_2 {p : Program} {l : Launch} {e : Env} {s : State} {m : MethodId} {args : Array Value} {below : List Frame} {meth : Method} {c : Code} {Q : State → Prop} {D : va_G} {cs : Nat → ClassId} {ad am : Nat → Nat} {ao b L N n : Nat} {xs : Nat → Int32} {I : vS → vS → Prop} {σK σM : vS} {ov : Nat → Int64} {H : Heap} {locs : List Loc} {ls : Array Slot} {cells slots c1 s1 : Nat} (hcf : CallFix p m c cL_law 8 s args kws RL) (hfl : l.flags = flags0) (hE : k_EN D cs s) (hap : k_AP cs ad am ao s.heap.size) (hX : va_X b L xs s s.heap) (hbl : b < s.heap.size) (hn : n + 6 ≤ L) (hL2 : L ≤ 3072) (hc1 : cells + 1 ≤ c1) (hs1 : slots + 6 ≤ s1) (hc2 : c1 ≤ 600000) (hs2 : s1 ≤ 7000000)
    (J821 : ∀ (σK σM : vS) (ov : Nat → Int64) (H : Heap) (locs : List Loc) (ls : Array Slot) (cells slots : Nat), lv_has ls 8 [(0, .ref b), (1, .ref (ad 0)), (2, .ref (am 0)), (3, .ref ao), (4, .int (nI n))] → k_L D cs ad am ao s σK σM ov H locs → cells ≤ c1 → slots ≤ s1 → I σK σM → W p l e room_1 s m args below meth c H locs cells slots Q (F0 m 821 ls []))
    (hs : st_2 N I σK σM xs n) (hl : lv_has ls 8 [(0, .ref b), (1, .ref (ad 0)), (2, .ref (am 0)), (3, .ref ao), (4, .int (nI n))]) (hL : k_L D cs ad am ao s σK σM ov H locs) : W p l e room_1 s m args below meth c H locs cells slots Q (F0 m 217 ls []) := by
  have hx := hcf.1
  have hb := hcf.2.1
  have htk := hcf.2.2.2.2
  have hown := hcf.2.2.2.1
  obtain ⟨r, σM', hf1, hf2, hI⟩ := hs
  refine lv_aload_n hx hb dL_law_217 rfl (lv_at hl 1 rfl) ?_
  refine k_lcallP (va_runV (As := []) (rest := []) hcf (mX5_at l D cs ad N σK r hf1) (kcX5_at htk (kw_447 htk) ⟨Nat.le_of_ble_eq_true rfl, Nat.le_of_ble_eq_true rfl⟩) ⟨k_blind, va_recv (ci := 5) (q0 := 0) hE.1 hL.1 rfl rfl, k_lpreK hap hE hL⟩ rfl rfl hl.1 rfl (lv_room (Nat.le_of_ble_eq_true rfl)) dL_law_218 ⟨by show _ ≤ 623897; omega, by show _ ≤ 7224412; omega⟩) ?_
  refine lv_aload_n hx hb dL_law_221 rfl (lv_at hl 2 rfl) ?_
  refine k_lcallM hap (va_runV (As := []) (rest := [.int r]) hcf (mX6_at l D cs am N σM r σM' hf2) (kcX6_at htk (kw_902 htk) ⟨Nat.le_of_ble_eq_true rfl, Nat.le_of_ble_eq_true rfl⟩) ⟨k_blind, va_recv (ci := 6) (q0 := 0) (k_tM hE.1) hL.2.1 rfl rfl, k_lpreM hap hE hL⟩ rfl rfl hl.1 rfl (lv_room (Nat.le_of_ble_eq_true rfl)) dL_law_222 ⟨by show _ ≤ 623897; omega, by show _ ≤ 7224412; omega⟩) hL (fun H locs hL => ?_)
  refine lv_icmp_eq (tgt := 821) hx hb dL_law_225 (by decide) (fun c1 => ?_) (fun c1 => absurd rfl c1)
  exact J821 σK σM' ov H locs ls cells slots hl hL (by omega) (by omega) hI
set_option maxRecDepth 100000 in
set_option maxHeartbeats 1000000 in
theorem law_3 {p : Program} {l : Launch} {e : Env} {s : State} {m : MethodId} {args : Array Value} {below : List Frame} {meth : Method} {c : Code} {Q : State → Prop} {D : va_G} {cs : Nat → ClassId} {ad am : Nat → Nat} {ao b L N n : Nat} {xs : Nat → Int32} {I : vS → vS → Prop} {σK σM : vS} {ov : Nat → Int64} {H : Heap} {locs : List Loc} {ls : Array Slot} {cells slots c1 s1 : Nat} (hcf : CallFix p m c cL_law 8 s args kws RL) (hfl : l.flags = flags0) (hE : k_EN D cs s) (hap : k_AP cs ad am ao s.heap.size) (hX : va_X b L xs s s.heap) (hbl : b < s.heap.size) (hn : n + 6 ≤ L) (hL2 : L ≤ 3072) (hc1 : cells + 1 ≤ c1) (hs1 : slots + 6 ≤ s1) (hc2 : c1 ≤ 600000) (hs2 : s1 ≤ 7000000)
    (J821 : ∀ (σK σM : vS) (ov : Nat → Int64) (H : Heap) (locs : List Loc) (ls : Array Slot) (cells slots : Nat), lv_has ls 8 [(0, .ref b), (1, .ref (ad 0)), (2, .ref (am 0)), (3, .ref ao), (4, .int (nI n))] → k_L D cs ad am ao s σK σM ov H locs → cells ≤ c1 → slots ≤ s1 → I σK σM → W p l e room_1 s m args below meth c H locs cells slots Q (F0 m 821 ls []))
    (hs : st_3 N I σK σM xs n) (hl : lv_has ls 8 [(0, .ref b), (1, .ref (ad 0)), (2, .ref (am 0)), (3, .ref ao), (4, .int (nI n))]) (hL : k_L D cs ad am ao s σK σM ov H locs) : W p l e room_1 s m args below meth c H locs cells slots Q (F0 m 230 ls []) := by
  have hx := hcf.1
  have hb := hcf.2.1
  have htk := hcf.2.2.2.2
  have hown := hcf.2.2.2.1
  obtain ⟨r, σM', hf1, hf2, hI⟩ := hs
  refine lv_aload_n hx hb dL_law_230 rfl (lv_at hl 1 rfl) ?_
  refine k_lcallP (va_runV (As := []) (rest := []) hcf (mX5_state l D cs ad N σK r hf1) (kcX5_state htk (kw_451 htk) ⟨Nat.le_of_ble_eq_true rfl, Nat.le_of_ble_eq_true rfl⟩) ⟨k_blind, va_recv (ci := 5) (q0 := 0) hE.1 hL.1 rfl rfl, k_lpreK hap hE hL⟩ rfl rfl hl.1 rfl (lv_room (Nat.le_of_ble_eq_true rfl)) dL_law_231 ⟨by show _ ≤ 623897; omega, by show _ ≤ 7224412; omega⟩) ?_
  refine lv_aload_n hx hb dL_law_234 rfl (lv_at hl 2 rfl) ?_
  refine k_lcallM hap (va_runV (As := []) (rest := [.int r]) hcf (mX6_state l D cs am N σM r σM' hf2) (kcX6_state htk (kw_906 htk) ⟨Nat.le_of_ble_eq_true rfl, Nat.le_of_ble_eq_true rfl⟩) ⟨k_blind, va_recv (ci := 6) (q0 := 0) (k_tM hE.1) hL.2.1 rfl rfl, k_lpreM hap hE hL⟩ rfl rfl hl.1 rfl (lv_room (Nat.le_of_ble_eq_true rfl)) dL_law_235 ⟨by show _ ≤ 623897; omega, by show _ ≤ 7224412; omega⟩) hL (fun H locs hL => ?_)
  refine lv_icmp_eq (tgt := 821) hx hb dL_law_238 (by decide) (fun c1 => ?_) (fun c1 => absurd rfl c1)
  exact J821 σK σM' ov H locs ls cells slots hl hL (by omega) (by omega) hI
set_option maxRecDepth 100000 in
set_option maxHeartbeats 1000000 in
theorem law_4 {p : Program} {l : Launch} {e : Env} {s : State} {m : MethodId} {args : Array Value} {below : List Frame} {meth : Method} {c : Code} {Q : State → Prop} {D : va_G} {cs : Nat → ClassId} {ad am : Nat → Nat} {ao b L N n : Nat} {xs : Nat → Int32} {I : vS → vS → Prop} {σK σM : vS} {ov : Nat → Int64} {H : Heap} {locs : List Loc} {ls : Array Slot} {cells slots c1 s1 : Nat} (hcf : CallFix p m c cL_law 8 s args kws RL) (hfl : l.flags = flags0) (hE : k_EN D cs s) (hap : k_AP cs ad am ao s.heap.size) (hX : va_X b L xs s s.heap) (hbl : b < s.heap.size) (hn : n + 6 ≤ L) (hL2 : L ≤ 3072) (hc1 : cells + 1 ≤ c1) (hs1 : slots + 6 ≤ s1) (hc2 : c1 ≤ 600000) (hs2 : s1 ≤ 7000000)
    (J821 : ∀ (σK σM : vS) (ov : Nat → Int64) (H : Heap) (locs : List Loc) (ls : Array Slot) (cells slots : Nat), lv_has ls 8 [(0, .ref b), (1, .ref (ad 0)), (2, .ref (am 0)), (3, .ref ao), (4, .int (nI n))] → k_L D cs ad am ao s σK σM ov H locs → cells ≤ c1 → slots ≤ s1 → I σK σM → W p l e room_1 s m args below meth c H locs cells slots Q (F0 m 821 ls []))
    (hs : st_4 N I σK σM xs n) (hl : lv_has ls 8 [(0, .ref b), (1, .ref (ad 0)), (2, .ref (am 0)), (3, .ref ao), (4, .int (nI n))]) (hL : k_L D cs ad am ao s σK σM ov H locs) : W p l e room_1 s m args below meth c H locs cells slots Q (F0 m 243 ls []) := by
  have hx := hcf.1
  have hb := hcf.2.1
  have htk := hcf.2.2.2.2
  have hown := hcf.2.2.2.1
  obtain ⟨r, σM', hf1, hf2, hI⟩ := hs
  refine lv_aload_n hx hb dL_law_243 rfl (lv_at hl 1 rfl) ?_
  refine k_lcallP (va_runV (As := []) (rest := []) hcf (mX5_freedom l D cs ad N σK r hf1) (kcX5_freedom htk (kw_455 htk) ⟨Nat.le_of_ble_eq_true rfl, Nat.le_of_ble_eq_true rfl⟩) ⟨k_blind, va_recv (ci := 5) (q0 := 0) hE.1 hL.1 rfl rfl, k_lpreK hap hE hL⟩ rfl rfl hl.1 rfl (lv_room (Nat.le_of_ble_eq_true rfl)) dL_law_244 ⟨by show _ ≤ 623897; omega, by show _ ≤ 7224412; omega⟩) ?_
  refine lv_aload_n hx hb dL_law_247 rfl (lv_at hl 2 rfl) ?_
  refine k_lcallM hap (va_runV (As := []) (rest := [.int r]) hcf (mX6_freedom l D cs am N σM r σM' hf2) (kcX6_freedom htk (kw_910 htk) ⟨Nat.le_of_ble_eq_true rfl, Nat.le_of_ble_eq_true rfl⟩) ⟨k_blind, va_recv (ci := 6) (q0 := 0) (k_tM hE.1) hL.2.1 rfl rfl, k_lpreM hap hE hL⟩ rfl rfl hl.1 rfl (lv_room (Nat.le_of_ble_eq_true rfl)) dL_law_248 ⟨by show _ ≤ 623897; omega, by show _ ≤ 7224412; omega⟩) hL (fun H locs hL => ?_)
  refine lv_icmp_eq (tgt := 821) hx hb dL_law_251 (by decide) (fun c1 => ?_) (fun c1 => absurd rfl c1)
  exact J821 σK σM' ov H locs ls cells slots hl hL (by omega) (by omega) hI
set_option maxRecDepth 100000 in
set_option maxHeartbeats 1000000 in
theorem law_5 {p : Program} {l : Launch} {e : Env} {s : State} {m : MethodId} {args : Array Value} {below : List Frame} {meth : Method} {c : Code} {Q : State → Prop} {D : va_G} {cs : Nat → ClassId} {ad am : Nat → Nat} {ao b L N n : Nat} {xs : Nat → Int32} {I : vS → vS → Prop} {σK σM : vS} {ov : Nat → Int64} {H : Heap} {locs : List Loc} {ls : Array Slot} {cells slots c1 s1 : Nat} (hcf : CallFix p m c cL_law 8 s args kws RL) (hfl : l.flags = flags0) (hE : k_EN D cs s) (hap : k_AP cs ad am ao s.heap.size) (hX : va_X b L xs s s.heap) (hbl : b < s.heap.size) (hn : n + 6 ≤ L) (hL2 : L ≤ 3072) (hc1 : cells + 1 ≤ c1) (hs1 : slots + 6 ≤ s1) (hc2 : c1 ≤ 600000) (hs2 : s1 ≤ 7000000)
    (J821 : ∀ (σK σM : vS) (ov : Nat → Int64) (H : Heap) (locs : List Loc) (ls : Array Slot) (cells slots : Nat), lv_has ls 8 [(0, .ref b), (1, .ref (ad 0)), (2, .ref (am 0)), (3, .ref ao), (4, .int (nI n))] → k_L D cs ad am ao s σK σM ov H locs → cells ≤ c1 → slots ≤ s1 → I σK σM → W p l e room_1 s m args below meth c H locs cells slots Q (F0 m 821 ls []))
    (hs : st_5 N I σK σM xs n) (hl : lv_has ls 8 [(0, .ref b), (1, .ref (ad 0)), (2, .ref (am 0)), (3, .ref ao), (4, .int (nI n))]) (hL : k_L D cs ad am ao s σK σM ov H locs) : W p l e room_1 s m args below meth c H locs cells slots Q (F0 m 256 ls []) := by
  have hx := hcf.1
  have hb := hcf.2.1
  have htk := hcf.2.2.2.2
  have hown := hcf.2.2.2.1
  obtain ⟨r, σM', hf1, hf2, hI⟩ := hs
  refine lv_aload_n hx hb dL_law_256 rfl (lv_at hl 1 rfl) ?_
  refine k_lcallP (va_runV (As := []) (rest := []) hcf (mX5_formulas l D cs ad N σK r hf1) (kcX5_formulas htk (kw_459 htk) ⟨Nat.le_of_ble_eq_true rfl, Nat.le_of_ble_eq_true rfl⟩) ⟨k_blind, va_recv (ci := 5) (q0 := 0) hE.1 hL.1 rfl rfl, k_lpreK hap hE hL⟩ rfl rfl hl.1 rfl (lv_room (Nat.le_of_ble_eq_true rfl)) dL_law_257 ⟨by show _ ≤ 623897; omega, by show _ ≤ 7224412; omega⟩) ?_
  refine lv_aload_n hx hb dL_law_260 rfl (lv_at hl 2 rfl) ?_
  refine k_lcallM hap (va_runV (As := []) (rest := [.int r]) hcf (mX6_formulas l D cs am N σM r σM' hf2) (kcX6_formulas htk (kw_914 htk) ⟨Nat.le_of_ble_eq_true rfl, Nat.le_of_ble_eq_true rfl⟩) ⟨k_blind, va_recv (ci := 6) (q0 := 0) (k_tM hE.1) hL.2.1 rfl rfl, k_lpreM hap hE hL⟩ rfl rfl hl.1 rfl (lv_room (Nat.le_of_ble_eq_true rfl)) dL_law_261 ⟨by show _ ≤ 623897; omega, by show _ ≤ 7224412; omega⟩) hL (fun H locs hL => ?_)
  refine lv_icmp_eq (tgt := 821) hx hb dL_law_264 (by decide) (fun c1 => ?_) (fun c1 => absurd rfl c1)
  exact J821 σK σM' ov H locs ls cells slots hl hL (by omega) (by omega) hI
set_option maxRecDepth 100000 in
set_option maxHeartbeats 1000000 in
theorem law_6 {p : Program} {l : Launch} {e : Env} {s : State} {m : MethodId} {args : Array Value} {below : List Frame} {meth : Method} {c : Code} {Q : State → Prop} {D : va_G} {cs : Nat → ClassId} {ad am : Nat → Nat} {ao b L N n : Nat} {xs : Nat → Int32} {I : vS → vS → Prop} {σK σM : vS} {ov : Nat → Int64} {H : Heap} {locs : List Loc} {ls : Array Slot} {cells slots c1 s1 : Nat} (hcf : CallFix p m c cL_law 8 s args kws RL) (hfl : l.flags = flags0) (hE : k_EN D cs s) (hap : k_AP cs ad am ao s.heap.size) (hX : va_X b L xs s s.heap) (hbl : b < s.heap.size) (hn : n + 6 ≤ L) (hL2 : L ≤ 3072) (hc1 : cells + 1 ≤ c1) (hs1 : slots + 6 ≤ s1) (hc2 : c1 ≤ 600000) (hs2 : s1 ≤ 7000000)
    (J821 : ∀ (σK σM : vS) (ov : Nat → Int64) (H : Heap) (locs : List Loc) (ls : Array Slot) (cells slots : Nat), lv_has ls 8 [(0, .ref b), (1, .ref (ad 0)), (2, .ref (am 0)), (3, .ref ao), (4, .int (nI n))] → k_L D cs ad am ao s σK σM ov H locs → cells ≤ c1 → slots ≤ s1 → I σK σM → W p l e room_1 s m args below meth c H locs cells slots Q (F0 m 821 ls []))
    (hs : st_6 N I σK σM xs n) (hl : lv_has ls 8 [(0, .ref b), (1, .ref (ad 0)), (2, .ref (am 0)), (3, .ref ao), (4, .int (nI n))]) (hL : k_L D cs ad am ao s σK σM ov H locs) : W p l e room_1 s m args below meth c H locs cells slots Q (F0 m 269 ls []) := by
  have hx := hcf.1
  have hb := hcf.2.1
  have htk := hcf.2.2.2.2
  have hown := hcf.2.2.2.1
  obtain ⟨r, σM', hf1, hf2, hI⟩ := hs
  refine lv_aload_n hx hb dL_law_269 rfl (lv_at hl 1 rfl) ?_
  refine k_lcallP (va_runV (As := []) (rest := []) hcf (mX5_kinds l D cs ad N σK r hf1) (kcX5_kinds htk (kw_463 htk) ⟨Nat.le_of_ble_eq_true rfl, Nat.le_of_ble_eq_true rfl⟩) ⟨k_blind, va_recv (ci := 5) (q0 := 0) hE.1 hL.1 rfl rfl, k_lpreK hap hE hL⟩ rfl rfl hl.1 rfl (lv_room (Nat.le_of_ble_eq_true rfl)) dL_law_270 ⟨by show _ ≤ 623897; omega, by show _ ≤ 7224412; omega⟩) ?_
  refine lv_aload_n hx hb dL_law_273 rfl (lv_at hl 2 rfl) ?_
  refine k_lcallM hap (va_runV (As := []) (rest := [.int r]) hcf (mX6_kinds l D cs am N σM r σM' hf2) (kcX6_kinds htk (kw_918 htk) ⟨Nat.le_of_ble_eq_true rfl, Nat.le_of_ble_eq_true rfl⟩) ⟨k_blind, va_recv (ci := 6) (q0 := 0) (k_tM hE.1) hL.2.1 rfl rfl, k_lpreM hap hE hL⟩ rfl rfl hl.1 rfl (lv_room (Nat.le_of_ble_eq_true rfl)) dL_law_274 ⟨by show _ ≤ 623897; omega, by show _ ≤ 7224412; omega⟩) hL (fun H locs hL => ?_)
  refine lv_icmp_eq (tgt := 821) hx hb dL_law_277 (by decide) (fun c1 => ?_) (fun c1 => absurd rfl c1)
  exact J821 σK σM' ov H locs ls cells slots hl hL (by omega) (by omega) hI
set_option maxRecDepth 100000 in
set_option maxHeartbeats 1000000 in
theorem law_7 {p : Program} {l : Launch} {e : Env} {s : State} {m : MethodId} {args : Array Value} {below : List Frame} {meth : Method} {c : Code} {Q : State → Prop} {D : va_G} {cs : Nat → ClassId} {ad am : Nat → Nat} {ao b L N n : Nat} {xs : Nat → Int32} {I : vS → vS → Prop} {σK σM : vS} {ov : Nat → Int64} {H : Heap} {locs : List Loc} {ls : Array Slot} {cells slots c1 s1 : Nat} (hcf : CallFix p m c cL_law 8 s args kws RL) (hfl : l.flags = flags0) (hE : k_EN D cs s) (hap : k_AP cs ad am ao s.heap.size) (hX : va_X b L xs s s.heap) (hbl : b < s.heap.size) (hn : n + 6 ≤ L) (hL2 : L ≤ 3072) (hc1 : cells + 1 ≤ c1) (hs1 : slots + 6 ≤ s1) (hc2 : c1 ≤ 600000) (hs2 : s1 ≤ 7000000)
    (J821 : ∀ (σK σM : vS) (ov : Nat → Int64) (H : Heap) (locs : List Loc) (ls : Array Slot) (cells slots : Nat), lv_has ls 8 [(0, .ref b), (1, .ref (ad 0)), (2, .ref (am 0)), (3, .ref ao), (4, .int (nI n))] → k_L D cs ad am ao s σK σM ov H locs → cells ≤ c1 → slots ≤ s1 → I σK σM → W p l e room_1 s m args below meth c H locs cells slots Q (F0 m 821 ls []))
    (hs : st_7 N I σK σM xs n) (hl : lv_has ls 8 [(0, .ref b), (1, .ref (ad 0)), (2, .ref (am 0)), (3, .ref ao), (4, .int (nI n))]) (hL : k_L D cs ad am ao s σK σM ov H locs) : W p l e room_1 s m args below meth c H locs cells slots Q (F0 m 282 ls []) := by
  have hx := hcf.1
  have hb := hcf.2.1
  have htk := hcf.2.2.2.2
  have hown := hcf.2.2.2.1
  rcases hs with ⟨r, σM', hf1, hf2, hth, hI⟩ | ⟨yb, σM', hf1, hf2, hth, hI⟩
  · refine lv_aload_n hx hb dL_law_282 rfl (lv_at hl 1 rfl) ?_
    refine lv_aload_n hx hb dL_law_283 rfl (lv_at hl 0 rfl) ?_
    refine lv_iload hx hb dL_law_284 (lv_at hl 4 rfl) ?_
    refine lv_iconst (v := 1) hx hb dL_law_286 rfl ?_
    refine lv_iadd hx hb dL_law_287 ?_
    refine k_sld (v := xs (n + 1)) hX hbl hL hx hb (k_sin 1 rfl (by omega) (by omega)) (k_sval 1 rfl (by omega)) dL_law_288 ?_
    refine lv_aload_n hx hb dL_law_289 rfl (lv_at hl 3 rfl) ?_
    refine k_lcallH hap (k_runSW (n := 3) (As := [.ref (ad 0), .int (xs (n + 1)), .ref ao]) (rest := []) hcf (hL_name l D cs ad ao N σK ov (xs (n + 1)) r hf1) kc_571 (kw_51 htk) (kw_570 htk) (kw_569 htk) ⟨by decide, by decide, by decide +kernel⟩ rfl rfl ⟨Nat.le_of_ble_eq_true rfl, Nat.le_of_ble_eq_true rfl⟩ ⟨k_lblindH, k_lpreH hap hE hL⟩ rfl rfl hl.1 rfl (lv_room (Nat.le_of_ble_eq_true rfl)) dL_law_290 ⟨by show _ ≤ 623897; omega, by show _ ≤ 7224412; omega⟩) hL (fun H locs hL => ?_)
    refine lv_istore hx hb dL_law_293 hl (Nat.le_of_ble_eq_true rfl) rfl (fun ls (hl : lv_has ls 8 [(5, .int (0 : Int32)), (0, .ref b), (1, .ref (ad 0)), (2, .ref (am 0)), (3, .ref ao), (4, .int (nI n))]) => ?_)
    refine lv_aload_n hx hb dL_law_295 rfl (lv_at hl 3 rfl) ?_
    refine lv_aload_n hx hb dL_law_296 rfl (lv_at hl 1 rfl) ?_
    refine lv_iload hx hb dL_law_297 (lv_at hl 5 rfl) ?_
    refine lv_iconst (v := 1) hx hb dL_law_299 rfl ?_
    refine lv_iadd hx hb dL_law_300 ?_
    refine k_sld (v := xs (n + 1)) hX hbl hL hx hb (k_sin 1 rfl (by omega) (by omega)) (k_sval 1 rfl (by omega)) dL_law_301 ?_
    refine k_lcallM hap (va_runV (As := [.int (xs (n + 1))]) (rest := []) hcf (mX6_name l D cs am N σM (xs (n + 1)) r σM' hf2) (kcX6_name htk (kw_922 htk) ⟨Nat.le_of_ble_eq_true rfl, Nat.le_of_ble_eq_true rfl⟩) ⟨k_blind, va_recv (ci := 6) (q0 := 0) (k_tM hE.1) hL.2.1 rfl rfl, k_lpreM hap hE hL⟩ rfl rfl hl.1 rfl (lv_room (Nat.le_of_ble_eq_true rfl)) dL_law_302 ⟨by show _ ≤ 623897; omega, by show _ ≤ 7224412; omega⟩) hL (fun H locs hL => ?_)
    refine lv_istore hx hb dL_law_305 hl (Nat.le_of_ble_eq_true rfl) rfl (fun ls (hl : lv_has ls 8 [(6, .int r), (5, .int (0 : Int32)), (0, .ref b), (1, .ref (ad 0)), (2, .ref (am 0)), (3, .ref ao), (4, .int (nI n))]) => ?_)
    refine lv_aload_n hx hb dL_law_307 rfl (lv_at hl 4 rfl) ?_
    refine k_lcallP (va_runV (As := []) (rest := []) hcf (mX6_thrown l D cs am N σM' (σM'.1 0) rfl) (kcX6_thrown htk (kw_773 htk) ⟨Nat.le_of_ble_eq_true rfl, Nat.le_of_ble_eq_true rfl⟩) ⟨k_blind, va_recv (ci := 6) (q0 := 0) (k_tM hE.1) hL.2.1 rfl rfl, k_lpreM hap hE hL⟩ rfl rfl hl.1 rfl (lv_room (Nat.le_of_ble_eq_true rfl)) dL_law_308 ⟨by show _ ≤ 623897; omega, by show _ ≤ 7224412; omega⟩) ?_
    refine lv_iload hx hb dL_law_311 (lv_at hl 1 rfl) ?_
    refine lv_icmp_eq (tgt := 318) hx hb dL_law_313 (by decide) (fun c1 => ?_) (fun c1 => absurd hth c1)
    refine lv_iload hx hb dL_law_318 (lv_at hl 1 rfl) ?_
    refine lv_if_ne (tgt := 335) hx hb dL_law_320 (by decide) (fun c2 => absurd rfl c2) (fun c2 => ?_)
    refine lv_aload_n hx hb dL_law_323 rfl (lv_at hl 5 rfl) ?_
    refine lv_iconst (v := 0) hx hb dL_law_324 rfl ?_
    refine k_ldout (v := (r).toInt64) hE hL rfl hx hb dL_law_325 ?_
    refine lv_iload hx hb dL_law_326 (lv_at hl 0 rfl) ?_
    refine lv_i2l hx hb dL_law_328 rfl ?_
    refine W.lcmp hx hb dL_law_329 ?_
    refine lv_if_eq (tgt := 335) hx hb dL_law_330 (by decide) (fun c3 => ?_) (fun c3 => absurd ((lg_cmp_eq _ _).mpr rfl) c3)
    refine lv_goto (tgt := 821) hx hb dL_law_335 (by decide) ?_
    exact J821 σK σM' (vp_updL ov 0 (r).toInt64) H locs ls cells slots (lv_sub hl [2, 3, 4, 5, 6] rfl) hL (by omega) (by omega) hI
  · refine lv_aload_n hx hb dL_law_282 rfl (lv_at hl 1 rfl) ?_
    refine lv_aload_n hx hb dL_law_283 rfl (lv_at hl 0 rfl) ?_
    refine lv_iload hx hb dL_law_284 (lv_at hl 4 rfl) ?_
    refine lv_iconst (v := 1) hx hb dL_law_286 rfl ?_
    refine lv_iadd hx hb dL_law_287 ?_
    refine k_sld (v := xs (n + 1)) hX hbl hL hx hb (k_sin 1 rfl (by omega) (by omega)) (k_sval 1 rfl (by omega)) dL_law_288 ?_
    refine lv_aload_n hx hb dL_law_289 rfl (lv_at hl 3 rfl) ?_
    refine k_lcallT (k_runSW (n := 3) (As := [.ref (ad 0), .int (xs (n + 1)), .ref ao]) (rest := []) hcf (gL_name_2 l hfl D cs ad ao N σK ov (xs (n + 1)) hf1) kc_571 (kw_51 htk) (kw_570 htk) (kw_569 htk) ⟨by decide, by decide, by decide +kernel⟩ rfl rfl ⟨Nat.le_of_ble_eq_true rfl, Nat.le_of_ble_eq_true rfl⟩ ⟨k_lblindH, k_lpreH hap hE hL⟩ rfl rfl hl.1 rfl (lv_room (Nat.le_of_ble_eq_true rfl)) dL_law_290 ⟨by show _ ≤ 623897; omega, by show _ ≤ 7224412; omega⟩) hL (fun H locs hL => ?_)
    refine lv_istore hx hb dL_law_293 hl (Nat.le_of_ble_eq_true rfl) rfl (fun ls (hl : lv_has ls 8 [(5, .int (1 : Int32)), (0, .ref b), (1, .ref (ad 0)), (2, .ref (am 0)), (3, .ref ao), (4, .int (nI n))]) => ?_)
    refine lv_aload_n hx hb dL_law_295 rfl (lv_at hl 3 rfl) ?_
    refine lv_aload_n hx hb dL_law_296 rfl (lv_at hl 1 rfl) ?_
    refine lv_iload hx hb dL_law_297 (lv_at hl 5 rfl) ?_
    refine lv_iconst (v := 1) hx hb dL_law_299 rfl ?_
    refine lv_iadd hx hb dL_law_300 ?_
    refine k_sld (v := xs (n + 1)) hX hbl hL hx hb (k_sin 1 rfl (by omega) (by omega)) (k_sval 1 rfl (by omega)) dL_law_301 ?_
    refine k_lcallM hap (va_runV (As := [.int (xs (n + 1))]) (rest := []) hcf (mX6_name l D cs am N σM (xs (n + 1)) yb σM' hf2) (kcX6_name htk (kw_922 htk) ⟨Nat.le_of_ble_eq_true rfl, Nat.le_of_ble_eq_true rfl⟩) ⟨k_blind, va_recv (ci := 6) (q0 := 0) (k_tM hE.1) hL.2.1 rfl rfl, k_lpreM hap hE hL⟩ rfl rfl hl.1 rfl (lv_room (Nat.le_of_ble_eq_true rfl)) dL_law_302 ⟨by show _ ≤ 623897; omega, by show _ ≤ 7224412; omega⟩) hL (fun H locs hL => ?_)
    refine lv_istore hx hb dL_law_305 hl (Nat.le_of_ble_eq_true rfl) rfl (fun ls (hl : lv_has ls 8 [(6, .int yb), (5, .int (1 : Int32)), (0, .ref b), (1, .ref (ad 0)), (2, .ref (am 0)), (3, .ref ao), (4, .int (nI n))]) => ?_)
    refine lv_aload_n hx hb dL_law_307 rfl (lv_at hl 4 rfl) ?_
    refine k_lcallP (va_runV (As := []) (rest := []) hcf (mX6_thrown l D cs am N σM' (σM'.1 0) rfl) (kcX6_thrown htk (kw_773 htk) ⟨Nat.le_of_ble_eq_true rfl, Nat.le_of_ble_eq_true rfl⟩) ⟨k_blind, va_recv (ci := 6) (q0 := 0) (k_tM hE.1) hL.2.1 rfl rfl, k_lpreM hap hE hL⟩ rfl rfl hl.1 rfl (lv_room (Nat.le_of_ble_eq_true rfl)) dL_law_308 ⟨by show _ ≤ 623897; omega, by show _ ≤ 7224412; omega⟩) ?_
    refine lv_iload hx hb dL_law_311 (lv_at hl 1 rfl) ?_
    refine lv_icmp_eq (tgt := 318) hx hb dL_law_313 (by decide) (fun c1 => ?_) (fun c1 => absurd hth c1)
    refine lv_iload hx hb dL_law_318 (lv_at hl 1 rfl) ?_
    refine lv_if_ne (tgt := 335) hx hb dL_law_320 (by decide) (fun c2 => ?_) (fun c2 => absurd c2 (by decide))
    refine lv_goto (tgt := 821) hx hb dL_law_335 (by decide) ?_
    exact J821 σK σM' ov H locs ls (cells + 1) (slots + 6) (lv_sub hl [2, 3, 4, 5, 6] rfl) hL (by omega) (by omega) hI
set_option maxRecDepth 100000 in
set_option maxHeartbeats 1000000 in
theorem law_8 {p : Program} {l : Launch} {e : Env} {s : State} {m : MethodId} {args : Array Value} {below : List Frame} {meth : Method} {c : Code} {Q : State → Prop} {D : va_G} {cs : Nat → ClassId} {ad am : Nat → Nat} {ao b L N n : Nat} {xs : Nat → Int32} {I : vS → vS → Prop} {σK σM : vS} {ov : Nat → Int64} {H : Heap} {locs : List Loc} {ls : Array Slot} {cells slots c1 s1 : Nat} (hcf : CallFix p m c cL_law 8 s args kws RL) (hfl : l.flags = flags0) (hE : k_EN D cs s) (hap : k_AP cs ad am ao s.heap.size) (hX : va_X b L xs s s.heap) (hbl : b < s.heap.size) (hn : n + 6 ≤ L) (hL2 : L ≤ 3072) (hc1 : cells + 1 ≤ c1) (hs1 : slots + 6 ≤ s1) (hc2 : c1 ≤ 600000) (hs2 : s1 ≤ 7000000)
    (J821 : ∀ (σK σM : vS) (ov : Nat → Int64) (H : Heap) (locs : List Loc) (ls : Array Slot) (cells slots : Nat), lv_has ls 8 [(0, .ref b), (1, .ref (ad 0)), (2, .ref (am 0)), (3, .ref ao), (4, .int (nI n))] → k_L D cs ad am ao s σK σM ov H locs → cells ≤ c1 → slots ≤ s1 → I σK σM → W p l e room_1 s m args below meth c H locs cells slots Q (F0 m 821 ls []))
    (hs : st_8 N I σK σM xs n) (hl : lv_has ls 8 [(0, .ref b), (1, .ref (ad 0)), (2, .ref (am 0)), (3, .ref ao), (4, .int (nI n))]) (hL : k_L D cs ad am ao s σK σM ov H locs) : W p l e room_1 s m args below meth c H locs cells slots Q (F0 m 338 ls []) := by
  have hx := hcf.1
  have hb := hcf.2.1
  have htk := hcf.2.2.2.2
  have hown := hcf.2.2.2.1
  rcases hs with ⟨r, σM', hf1, hf2, hth, hI⟩ | ⟨yb, σM', hf1, hf2, hth, hI⟩
  · refine lv_aload_n hx hb dL_law_338 rfl (lv_at hl 1 rfl) ?_
    refine lv_aload_n hx hb dL_law_339 rfl (lv_at hl 0 rfl) ?_
    refine lv_iload hx hb dL_law_340 (lv_at hl 4 rfl) ?_
    refine lv_iconst (v := 1) hx hb dL_law_342 rfl ?_
    refine lv_iadd hx hb dL_law_343 ?_
    refine k_sld (v := xs (n + 1)) hX hbl hL hx hb (k_sin 1 rfl (by omega) (by omega)) (k_sval 1 rfl (by omega)) dL_law_344 ?_
    refine lv_aload_n hx hb dL_law_345 rfl (lv_at hl 0 rfl) ?_
    refine lv_iload hx hb dL_law_346 (lv_at hl 4 rfl) ?_
    refine lv_iconst (v := 2) hx hb dL_law_348 rfl ?_
    refine lv_iadd hx hb dL_law_349 ?_
    refine k_sld (v := xs (n + 2)) hX hbl hL hx hb (k_sin 2 rfl (by omega) (by omega)) (k_sval 2 rfl (by omega)) dL_law_350 ?_
    refine lv_aload_n hx hb dL_law_351 rfl (lv_at hl 3 rfl) ?_
    refine k_lcallH hap (k_runSW (n := 4) (As := [.ref (ad 0), .int (xs (n + 1)), .int (xs (n + 2)), .ref ao]) (rest := []) hcf (hL_has l D cs ad ao N σK ov (xs (n + 1)) (xs (n + 2)) r hf1) kc_602 (kw_51 htk) (kw_601 htk) (kw_600 htk) ⟨by decide, by decide, by decide +kernel⟩ rfl rfl ⟨Nat.le_of_ble_eq_true rfl, Nat.le_of_ble_eq_true rfl⟩ ⟨k_lblindH, k_lpreH hap hE hL⟩ rfl rfl hl.1 rfl (lv_room (Nat.le_of_ble_eq_true rfl)) dL_law_352 ⟨by show _ ≤ 623897; omega, by show _ ≤ 7224412; omega⟩) hL (fun H locs hL => ?_)
    refine lv_istore hx hb dL_law_355 hl (Nat.le_of_ble_eq_true rfl) rfl (fun ls (hl : lv_has ls 8 [(5, .int (0 : Int32)), (0, .ref b), (1, .ref (ad 0)), (2, .ref (am 0)), (3, .ref ao), (4, .int (nI n))]) => ?_)
    refine lv_aload_n hx hb dL_law_357 rfl (lv_at hl 3 rfl) ?_
    refine lv_aload_n hx hb dL_law_358 rfl (lv_at hl 1 rfl) ?_
    refine lv_iload hx hb dL_law_359 (lv_at hl 5 rfl) ?_
    refine lv_iconst (v := 1) hx hb dL_law_361 rfl ?_
    refine lv_iadd hx hb dL_law_362 ?_
    refine k_sld (v := xs (n + 1)) hX hbl hL hx hb (k_sin 1 rfl (by omega) (by omega)) (k_sval 1 rfl (by omega)) dL_law_363 ?_
    refine lv_aload_n hx hb dL_law_364 rfl (lv_at hl 1 rfl) ?_
    refine lv_iload hx hb dL_law_365 (lv_at hl 5 rfl) ?_
    refine lv_iconst (v := 2) hx hb dL_law_367 rfl ?_
    refine lv_iadd hx hb dL_law_368 ?_
    refine k_sld (v := xs (n + 2)) hX hbl hL hx hb (k_sin 2 rfl (by omega) (by omega)) (k_sval 2 rfl (by omega)) dL_law_369 ?_
    refine k_lcallM hap (va_runV (As := [.int (xs (n + 1)), .int (xs (n + 2))]) (rest := []) hcf (mX6_has l D cs am N σM (xs (n + 1)) (xs (n + 2)) r σM' hf2) (kcX6_has htk (kw_930 htk) ⟨Nat.le_of_ble_eq_true rfl, Nat.le_of_ble_eq_true rfl⟩) ⟨k_blind, va_recv (ci := 6) (q0 := 0) (k_tM hE.1) hL.2.1 rfl rfl, k_lpreM hap hE hL⟩ rfl rfl hl.1 rfl (lv_room (Nat.le_of_ble_eq_true rfl)) dL_law_370 ⟨by show _ ≤ 623897; omega, by show _ ≤ 7224412; omega⟩) hL (fun H locs hL => ?_)
    refine lv_istore hx hb dL_law_373 hl (Nat.le_of_ble_eq_true rfl) rfl (fun ls (hl : lv_has ls 8 [(6, .int r), (5, .int (0 : Int32)), (0, .ref b), (1, .ref (ad 0)), (2, .ref (am 0)), (3, .ref ao), (4, .int (nI n))]) => ?_)
    refine lv_aload_n hx hb dL_law_375 rfl (lv_at hl 4 rfl) ?_
    refine k_lcallP (va_runV (As := []) (rest := []) hcf (mX6_thrown l D cs am N σM' (σM'.1 0) rfl) (kcX6_thrown htk (kw_773 htk) ⟨Nat.le_of_ble_eq_true rfl, Nat.le_of_ble_eq_true rfl⟩) ⟨k_blind, va_recv (ci := 6) (q0 := 0) (k_tM hE.1) hL.2.1 rfl rfl, k_lpreM hap hE hL⟩ rfl rfl hl.1 rfl (lv_room (Nat.le_of_ble_eq_true rfl)) dL_law_376 ⟨by show _ ≤ 623897; omega, by show _ ≤ 7224412; omega⟩) ?_
    refine lv_iload hx hb dL_law_379 (lv_at hl 1 rfl) ?_
    refine lv_icmp_eq (tgt := 386) hx hb dL_law_381 (by decide) (fun c1 => ?_) (fun c1 => absurd hth c1)
    refine lv_iload hx hb dL_law_386 (lv_at hl 1 rfl) ?_
    refine lv_if_ne (tgt := 403) hx hb dL_law_388 (by decide) (fun c2 => absurd rfl c2) (fun c2 => ?_)
    refine lv_aload_n hx hb dL_law_391 rfl (lv_at hl 5 rfl) ?_
    refine lv_iconst (v := 0) hx hb dL_law_392 rfl ?_
    refine k_ldout (v := (r).toInt64) hE hL rfl hx hb dL_law_393 ?_
    refine lv_iload hx hb dL_law_394 (lv_at hl 0 rfl) ?_
    refine lv_i2l hx hb dL_law_396 rfl ?_
    refine W.lcmp hx hb dL_law_397 ?_
    refine lv_if_eq (tgt := 403) hx hb dL_law_398 (by decide) (fun c3 => ?_) (fun c3 => absurd ((lg_cmp_eq _ _).mpr rfl) c3)
    refine lv_goto (tgt := 821) hx hb dL_law_403 (by decide) ?_
    exact J821 σK σM' (vp_updL ov 0 (r).toInt64) H locs ls cells slots (lv_sub hl [2, 3, 4, 5, 6] rfl) hL (by omega) (by omega) hI
  · refine lv_aload_n hx hb dL_law_338 rfl (lv_at hl 1 rfl) ?_
    refine lv_aload_n hx hb dL_law_339 rfl (lv_at hl 0 rfl) ?_
    refine lv_iload hx hb dL_law_340 (lv_at hl 4 rfl) ?_
    refine lv_iconst (v := 1) hx hb dL_law_342 rfl ?_
    refine lv_iadd hx hb dL_law_343 ?_
    refine k_sld (v := xs (n + 1)) hX hbl hL hx hb (k_sin 1 rfl (by omega) (by omega)) (k_sval 1 rfl (by omega)) dL_law_344 ?_
    refine lv_aload_n hx hb dL_law_345 rfl (lv_at hl 0 rfl) ?_
    refine lv_iload hx hb dL_law_346 (lv_at hl 4 rfl) ?_
    refine lv_iconst (v := 2) hx hb dL_law_348 rfl ?_
    refine lv_iadd hx hb dL_law_349 ?_
    refine k_sld (v := xs (n + 2)) hX hbl hL hx hb (k_sin 2 rfl (by omega) (by omega)) (k_sval 2 rfl (by omega)) dL_law_350 ?_
    refine lv_aload_n hx hb dL_law_351 rfl (lv_at hl 3 rfl) ?_
    refine k_lcallT (k_runSW (n := 4) (As := [.ref (ad 0), .int (xs (n + 1)), .int (xs (n + 2)), .ref ao]) (rest := []) hcf (gL_has_2 l hfl D cs ad ao N σK ov (xs (n + 1)) (xs (n + 2)) hf1) kc_602 (kw_51 htk) (kw_601 htk) (kw_600 htk) ⟨by decide, by decide, by decide +kernel⟩ rfl rfl ⟨Nat.le_of_ble_eq_true rfl, Nat.le_of_ble_eq_true rfl⟩ ⟨k_lblindH, k_lpreH hap hE hL⟩ rfl rfl hl.1 rfl (lv_room (Nat.le_of_ble_eq_true rfl)) dL_law_352 ⟨by show _ ≤ 623897; omega, by show _ ≤ 7224412; omega⟩) hL (fun H locs hL => ?_)
    refine lv_istore hx hb dL_law_355 hl (Nat.le_of_ble_eq_true rfl) rfl (fun ls (hl : lv_has ls 8 [(5, .int (1 : Int32)), (0, .ref b), (1, .ref (ad 0)), (2, .ref (am 0)), (3, .ref ao), (4, .int (nI n))]) => ?_)
    refine lv_aload_n hx hb dL_law_357 rfl (lv_at hl 3 rfl) ?_
    refine lv_aload_n hx hb dL_law_358 rfl (lv_at hl 1 rfl) ?_
    refine lv_iload hx hb dL_law_359 (lv_at hl 5 rfl) ?_
    refine lv_iconst (v := 1) hx hb dL_law_361 rfl ?_
    refine lv_iadd hx hb dL_law_362 ?_
    refine k_sld (v := xs (n + 1)) hX hbl hL hx hb (k_sin 1 rfl (by omega) (by omega)) (k_sval 1 rfl (by omega)) dL_law_363 ?_
    refine lv_aload_n hx hb dL_law_364 rfl (lv_at hl 1 rfl) ?_
    refine lv_iload hx hb dL_law_365 (lv_at hl 5 rfl) ?_
    refine lv_iconst (v := 2) hx hb dL_law_367 rfl ?_
    refine lv_iadd hx hb dL_law_368 ?_
    refine k_sld (v := xs (n + 2)) hX hbl hL hx hb (k_sin 2 rfl (by omega) (by omega)) (k_sval 2 rfl (by omega)) dL_law_369 ?_
    refine k_lcallM hap (va_runV (As := [.int (xs (n + 1)), .int (xs (n + 2))]) (rest := []) hcf (mX6_has l D cs am N σM (xs (n + 1)) (xs (n + 2)) yb σM' hf2) (kcX6_has htk (kw_930 htk) ⟨Nat.le_of_ble_eq_true rfl, Nat.le_of_ble_eq_true rfl⟩) ⟨k_blind, va_recv (ci := 6) (q0 := 0) (k_tM hE.1) hL.2.1 rfl rfl, k_lpreM hap hE hL⟩ rfl rfl hl.1 rfl (lv_room (Nat.le_of_ble_eq_true rfl)) dL_law_370 ⟨by show _ ≤ 623897; omega, by show _ ≤ 7224412; omega⟩) hL (fun H locs hL => ?_)
    refine lv_istore hx hb dL_law_373 hl (Nat.le_of_ble_eq_true rfl) rfl (fun ls (hl : lv_has ls 8 [(6, .int yb), (5, .int (1 : Int32)), (0, .ref b), (1, .ref (ad 0)), (2, .ref (am 0)), (3, .ref ao), (4, .int (nI n))]) => ?_)
    refine lv_aload_n hx hb dL_law_375 rfl (lv_at hl 4 rfl) ?_
    refine k_lcallP (va_runV (As := []) (rest := []) hcf (mX6_thrown l D cs am N σM' (σM'.1 0) rfl) (kcX6_thrown htk (kw_773 htk) ⟨Nat.le_of_ble_eq_true rfl, Nat.le_of_ble_eq_true rfl⟩) ⟨k_blind, va_recv (ci := 6) (q0 := 0) (k_tM hE.1) hL.2.1 rfl rfl, k_lpreM hap hE hL⟩ rfl rfl hl.1 rfl (lv_room (Nat.le_of_ble_eq_true rfl)) dL_law_376 ⟨by show _ ≤ 623897; omega, by show _ ≤ 7224412; omega⟩) ?_
    refine lv_iload hx hb dL_law_379 (lv_at hl 1 rfl) ?_
    refine lv_icmp_eq (tgt := 386) hx hb dL_law_381 (by decide) (fun c1 => ?_) (fun c1 => absurd hth c1)
    refine lv_iload hx hb dL_law_386 (lv_at hl 1 rfl) ?_
    refine lv_if_ne (tgt := 403) hx hb dL_law_388 (by decide) (fun c2 => ?_) (fun c2 => absurd c2 (by decide))
    refine lv_goto (tgt := 821) hx hb dL_law_403 (by decide) ?_
    exact J821 σK σM' ov H locs ls (cells + 1) (slots + 6) (lv_sub hl [2, 3, 4, 5, 6] rfl) hL (by omega) (by omega) hI
set_option maxRecDepth 100000 in
set_option maxHeartbeats 1000000 in
theorem law_9 {p : Program} {l : Launch} {e : Env} {s : State} {m : MethodId} {args : Array Value} {below : List Frame} {meth : Method} {c : Code} {Q : State → Prop} {D : va_G} {cs : Nat → ClassId} {ad am : Nat → Nat} {ao b L N n : Nat} {xs : Nat → Int32} {I : vS → vS → Prop} {σK σM : vS} {ov : Nat → Int64} {H : Heap} {locs : List Loc} {ls : Array Slot} {cells slots c1 s1 : Nat} (hcf : CallFix p m c cL_law 8 s args kws RL) (hfl : l.flags = flags0) (hE : k_EN D cs s) (hap : k_AP cs ad am ao s.heap.size) (hX : va_X b L xs s s.heap) (hbl : b < s.heap.size) (hn : n + 6 ≤ L) (hL2 : L ≤ 3072) (hc1 : cells + 1 ≤ c1) (hs1 : slots + 6 ≤ s1) (hc2 : c1 ≤ 600000) (hs2 : s1 ≤ 7000000)
    (J821 : ∀ (σK σM : vS) (ov : Nat → Int64) (H : Heap) (locs : List Loc) (ls : Array Slot) (cells slots : Nat), lv_has ls 8 [(0, .ref b), (1, .ref (ad 0)), (2, .ref (am 0)), (3, .ref ao), (4, .int (nI n))] → k_L D cs ad am ao s σK σM ov H locs → cells ≤ c1 → slots ≤ s1 → I σK σM → W p l e room_1 s m args below meth c H locs cells slots Q (F0 m 821 ls []))
    (hs : st_9 N I σK σM xs n) (hl : lv_has ls 8 [(0, .ref b), (1, .ref (ad 0)), (2, .ref (am 0)), (3, .ref ao), (4, .int (nI n))]) (hL : k_L D cs ad am ao s σK σM ov H locs) : W p l e room_1 s m args below meth c H locs cells slots Q (F0 m 406 ls []) := by
  have hx := hcf.1
  have hb := hcf.2.1
  have htk := hcf.2.2.2.2
  have hown := hcf.2.2.2.1
  rcases hs with ⟨r, σM', hf1, hf2, hth, hI⟩ | ⟨yb, σM', hf1, hf2, hth, hI⟩
  · refine lv_aload_n hx hb dL_law_406 rfl (lv_at hl 1 rfl) ?_
    refine lv_aload_n hx hb dL_law_407 rfl (lv_at hl 0 rfl) ?_
    refine lv_iload hx hb dL_law_408 (lv_at hl 4 rfl) ?_
    refine lv_iconst (v := 1) hx hb dL_law_410 rfl ?_
    refine lv_iadd hx hb dL_law_411 ?_
    refine k_sld (v := xs (n + 1)) hX hbl hL hx hb (k_sin 1 rfl (by omega) (by omega)) (k_sval 1 rfl (by omega)) dL_law_412 ?_
    refine lv_aload_n hx hb dL_law_413 rfl (lv_at hl 3 rfl) ?_
    refine k_lcallH hap (k_runSW (n := 3) (As := [.ref (ad 0), .int (xs (n + 1)), .ref ao]) (rest := []) hcf (hL_product l D cs ad ao N σK ov (xs (n + 1)) r hf1) kc_611 (kw_51 htk) (kw_610 htk) (kw_609 htk) ⟨by decide, by decide, by decide +kernel⟩ rfl rfl ⟨Nat.le_of_ble_eq_true rfl, Nat.le_of_ble_eq_true rfl⟩ ⟨k_lblindH, k_lpreH hap hE hL⟩ rfl rfl hl.1 rfl (lv_room (Nat.le_of_ble_eq_true rfl)) dL_law_414 ⟨by show _ ≤ 623897; omega, by show _ ≤ 7224412; omega⟩) hL (fun H locs hL => ?_)
    refine lv_istore hx hb dL_law_417 hl (Nat.le_of_ble_eq_true rfl) rfl (fun ls (hl : lv_has ls 8 [(5, .int (0 : Int32)), (0, .ref b), (1, .ref (ad 0)), (2, .ref (am 0)), (3, .ref ao), (4, .int (nI n))]) => ?_)
    refine lv_aload_n hx hb dL_law_419 rfl (lv_at hl 3 rfl) ?_
    refine lv_aload_n hx hb dL_law_420 rfl (lv_at hl 1 rfl) ?_
    refine lv_iload hx hb dL_law_421 (lv_at hl 5 rfl) ?_
    refine lv_iconst (v := 1) hx hb dL_law_423 rfl ?_
    refine lv_iadd hx hb dL_law_424 ?_
    refine k_sld (v := xs (n + 1)) hX hbl hL hx hb (k_sin 1 rfl (by omega) (by omega)) (k_sval 1 rfl (by omega)) dL_law_425 ?_
    refine k_lcallM hap (va_runV (As := [.int (xs (n + 1))]) (rest := []) hcf (mX6_product l D cs am N σM (xs (n + 1)) r σM' hf2) (kcX6_product htk (kw_938 htk) ⟨Nat.le_of_ble_eq_true rfl, Nat.le_of_ble_eq_true rfl⟩) ⟨k_blind, va_recv (ci := 6) (q0 := 0) (k_tM hE.1) hL.2.1 rfl rfl, k_lpreM hap hE hL⟩ rfl rfl hl.1 rfl (lv_room (Nat.le_of_ble_eq_true rfl)) dL_law_426 ⟨by show _ ≤ 623897; omega, by show _ ≤ 7224412; omega⟩) hL (fun H locs hL => ?_)
    refine lv_istore hx hb dL_law_429 hl (Nat.le_of_ble_eq_true rfl) rfl (fun ls (hl : lv_has ls 8 [(6, .int r), (5, .int (0 : Int32)), (0, .ref b), (1, .ref (ad 0)), (2, .ref (am 0)), (3, .ref ao), (4, .int (nI n))]) => ?_)
    refine lv_aload_n hx hb dL_law_431 rfl (lv_at hl 4 rfl) ?_
    refine k_lcallP (va_runV (As := []) (rest := []) hcf (mX6_thrown l D cs am N σM' (σM'.1 0) rfl) (kcX6_thrown htk (kw_773 htk) ⟨Nat.le_of_ble_eq_true rfl, Nat.le_of_ble_eq_true rfl⟩) ⟨k_blind, va_recv (ci := 6) (q0 := 0) (k_tM hE.1) hL.2.1 rfl rfl, k_lpreM hap hE hL⟩ rfl rfl hl.1 rfl (lv_room (Nat.le_of_ble_eq_true rfl)) dL_law_432 ⟨by show _ ≤ 623897; omega, by show _ ≤ 7224412; omega⟩) ?_
    refine lv_iload hx hb dL_law_435 (lv_at hl 1 rfl) ?_
    refine lv_icmp_eq (tgt := 442) hx hb dL_law_437 (by decide) (fun c1 => ?_) (fun c1 => absurd hth c1)
    refine lv_iload hx hb dL_law_442 (lv_at hl 1 rfl) ?_
    refine lv_if_ne (tgt := 466) hx hb dL_law_444 (by decide) (fun c2 => absurd rfl c2) (fun c2 => ?_)
    refine lv_aload_n hx hb dL_law_447 rfl (lv_at hl 5 rfl) ?_
    refine lv_iconst (v := 0) hx hb dL_law_448 rfl ?_
    refine k_ldout (v := (k_b2l r)) hE hL rfl hx hb dL_law_449 ?_
    refine lv_iload hx hb dL_law_450 (lv_at hl 0 rfl) ?_
    refine lv_if_eq (tgt := 459) hx hb dL_law_452 (by decide) (fun c4 => ?_) (fun c4 => ?_)
    · refine lv_lconst (v := 0) hx hb dL_law_459 rfl ?_
      refine W.lcmp hx hb dL_law_460 ?_
      refine lv_if_eq (tgt := 466) hx hb dL_law_461 (by decide) (fun c3 => ?_) (fun c3 => absurd ((lg_cmp_eq _ _).mpr (if_pos c4)) c3)
      refine lv_goto (tgt := 821) hx hb dL_law_466 (by decide) ?_
      exact J821 σK σM' (vp_updL ov 0 (k_b2l r)) H locs ls cells slots (lv_sub hl [2, 3, 4, 5, 6] rfl) hL (by omega) (by omega) hI
    · refine lv_lconst (v := 1) hx hb dL_law_455 rfl ?_
      refine lv_goto (tgt := 460) hx hb dL_law_456 (by decide) ?_
      refine W.lcmp hx hb dL_law_460 ?_
      refine lv_if_eq (tgt := 466) hx hb dL_law_461 (by decide) (fun c3 => ?_) (fun c3 => absurd ((lg_cmp_eq _ _).mpr (if_neg c4)) c3)
      refine lv_goto (tgt := 821) hx hb dL_law_466 (by decide) ?_
      exact J821 σK σM' (vp_updL ov 0 (k_b2l r)) H locs ls cells slots (lv_sub hl [2, 3, 4, 5, 6] rfl) hL (by omega) (by omega) hI
  · refine lv_aload_n hx hb dL_law_406 rfl (lv_at hl 1 rfl) ?_
    refine lv_aload_n hx hb dL_law_407 rfl (lv_at hl 0 rfl) ?_
    refine lv_iload hx hb dL_law_408 (lv_at hl 4 rfl) ?_
    refine lv_iconst (v := 1) hx hb dL_law_410 rfl ?_
    refine lv_iadd hx hb dL_law_411 ?_
    refine k_sld (v := xs (n + 1)) hX hbl hL hx hb (k_sin 1 rfl (by omega) (by omega)) (k_sval 1 rfl (by omega)) dL_law_412 ?_
    refine lv_aload_n hx hb dL_law_413 rfl (lv_at hl 3 rfl) ?_
    refine k_lcallT (k_runSW (n := 3) (As := [.ref (ad 0), .int (xs (n + 1)), .ref ao]) (rest := []) hcf (gL_product_2 l hfl D cs ad ao N σK ov (xs (n + 1)) hf1) kc_611 (kw_51 htk) (kw_610 htk) (kw_609 htk) ⟨by decide, by decide, by decide +kernel⟩ rfl rfl ⟨Nat.le_of_ble_eq_true rfl, Nat.le_of_ble_eq_true rfl⟩ ⟨k_lblindH, k_lpreH hap hE hL⟩ rfl rfl hl.1 rfl (lv_room (Nat.le_of_ble_eq_true rfl)) dL_law_414 ⟨by show _ ≤ 623897; omega, by show _ ≤ 7224412; omega⟩) hL (fun H locs hL => ?_)
    refine lv_istore hx hb dL_law_417 hl (Nat.le_of_ble_eq_true rfl) rfl (fun ls (hl : lv_has ls 8 [(5, .int (1 : Int32)), (0, .ref b), (1, .ref (ad 0)), (2, .ref (am 0)), (3, .ref ao), (4, .int (nI n))]) => ?_)
    refine lv_aload_n hx hb dL_law_419 rfl (lv_at hl 3 rfl) ?_
    refine lv_aload_n hx hb dL_law_420 rfl (lv_at hl 1 rfl) ?_
    refine lv_iload hx hb dL_law_421 (lv_at hl 5 rfl) ?_
    refine lv_iconst (v := 1) hx hb dL_law_423 rfl ?_
    refine lv_iadd hx hb dL_law_424 ?_
    refine k_sld (v := xs (n + 1)) hX hbl hL hx hb (k_sin 1 rfl (by omega) (by omega)) (k_sval 1 rfl (by omega)) dL_law_425 ?_
    refine k_lcallM hap (va_runV (As := [.int (xs (n + 1))]) (rest := []) hcf (mX6_product l D cs am N σM (xs (n + 1)) yb σM' hf2) (kcX6_product htk (kw_938 htk) ⟨Nat.le_of_ble_eq_true rfl, Nat.le_of_ble_eq_true rfl⟩) ⟨k_blind, va_recv (ci := 6) (q0 := 0) (k_tM hE.1) hL.2.1 rfl rfl, k_lpreM hap hE hL⟩ rfl rfl hl.1 rfl (lv_room (Nat.le_of_ble_eq_true rfl)) dL_law_426 ⟨by show _ ≤ 623897; omega, by show _ ≤ 7224412; omega⟩) hL (fun H locs hL => ?_)
    refine lv_istore hx hb dL_law_429 hl (Nat.le_of_ble_eq_true rfl) rfl (fun ls (hl : lv_has ls 8 [(6, .int yb), (5, .int (1 : Int32)), (0, .ref b), (1, .ref (ad 0)), (2, .ref (am 0)), (3, .ref ao), (4, .int (nI n))]) => ?_)
    refine lv_aload_n hx hb dL_law_431 rfl (lv_at hl 4 rfl) ?_
    refine k_lcallP (va_runV (As := []) (rest := []) hcf (mX6_thrown l D cs am N σM' (σM'.1 0) rfl) (kcX6_thrown htk (kw_773 htk) ⟨Nat.le_of_ble_eq_true rfl, Nat.le_of_ble_eq_true rfl⟩) ⟨k_blind, va_recv (ci := 6) (q0 := 0) (k_tM hE.1) hL.2.1 rfl rfl, k_lpreM hap hE hL⟩ rfl rfl hl.1 rfl (lv_room (Nat.le_of_ble_eq_true rfl)) dL_law_432 ⟨by show _ ≤ 623897; omega, by show _ ≤ 7224412; omega⟩) ?_
    refine lv_iload hx hb dL_law_435 (lv_at hl 1 rfl) ?_
    refine lv_icmp_eq (tgt := 442) hx hb dL_law_437 (by decide) (fun c1 => ?_) (fun c1 => absurd hth c1)
    refine lv_iload hx hb dL_law_442 (lv_at hl 1 rfl) ?_
    refine lv_if_ne (tgt := 466) hx hb dL_law_444 (by decide) (fun c2 => ?_) (fun c2 => absurd c2 (by decide))
    refine lv_goto (tgt := 821) hx hb dL_law_466 (by decide) ?_
    exact J821 σK σM' ov H locs ls (cells + 1) (slots + 6) (lv_sub hl [2, 3, 4, 5, 6] rfl) hL (by omega) (by omega) hI
set_option maxRecDepth 100000 in
set_option maxHeartbeats 1000000 in
theorem law_10 {p : Program} {l : Launch} {e : Env} {s : State} {m : MethodId} {args : Array Value} {below : List Frame} {meth : Method} {c : Code} {Q : State → Prop} {D : va_G} {cs : Nat → ClassId} {ad am : Nat → Nat} {ao b L N n : Nat} {xs : Nat → Int32} {I : vS → vS → Prop} {σK σM : vS} {ov : Nat → Int64} {H : Heap} {locs : List Loc} {ls : Array Slot} {cells slots c1 s1 : Nat} (hcf : CallFix p m c cL_law 8 s args kws RL) (hfl : l.flags = flags0) (hE : k_EN D cs s) (hap : k_AP cs ad am ao s.heap.size) (hX : va_X b L xs s s.heap) (hbl : b < s.heap.size) (hn : n + 6 ≤ L) (hL2 : L ≤ 3072) (hc1 : cells + 1 ≤ c1) (hs1 : slots + 6 ≤ s1) (hc2 : c1 ≤ 600000) (hs2 : s1 ≤ 7000000)
    (J821 : ∀ (σK σM : vS) (ov : Nat → Int64) (H : Heap) (locs : List Loc) (ls : Array Slot) (cells slots : Nat), lv_has ls 8 [(0, .ref b), (1, .ref (ad 0)), (2, .ref (am 0)), (3, .ref ao), (4, .int (nI n))] → k_L D cs ad am ao s σK σM ov H locs → cells ≤ c1 → slots ≤ s1 → I σK σM → W p l e room_1 s m args below meth c H locs cells slots Q (F0 m 821 ls []))
    (hs : st_10 N I σK σM xs n) (hl : lv_has ls 8 [(0, .ref b), (1, .ref (ad 0)), (2, .ref (am 0)), (3, .ref ao), (4, .int (nI n))]) (hL : k_L D cs ad am ao s σK σM ov H locs) : W p l e room_1 s m args below meth c H locs cells slots Q (F0 m 469 ls []) := by
  have hx := hcf.1
  have hb := hcf.2.1
  have htk := hcf.2.2.2.2
  have hown := hcf.2.2.2.1
  rcases hs with ⟨r, σM', hf1, hf2, hth, hI⟩ | ⟨yb, σM', hf1, hf2, hth, hI⟩
  · refine lv_aload_n hx hb dL_law_469 rfl (lv_at hl 1 rfl) ?_
    refine lv_aload_n hx hb dL_law_470 rfl (lv_at hl 0 rfl) ?_
    refine lv_iload hx hb dL_law_471 (lv_at hl 4 rfl) ?_
    refine lv_iconst (v := 1) hx hb dL_law_473 rfl ?_
    refine lv_iadd hx hb dL_law_474 ?_
    refine k_sld (v := xs (n + 1)) hX hbl hL hx hb (k_sin 1 rfl (by omega) (by omega)) (k_sval 1 rfl (by omega)) dL_law_475 ?_
    refine lv_aload_n hx hb dL_law_476 rfl (lv_at hl 3 rfl) ?_
    refine k_lcallH hap (k_runSW (n := 3) (As := [.ref (ad 0), .int (xs (n + 1)), .ref ao]) (rest := []) hcf (hL_free l D cs ad ao N σK ov (xs (n + 1)) r hf1) kc_619 (kw_51 htk) (kw_618 htk) (kw_617 htk) ⟨by decide, by decide, by decide +kernel⟩ rfl rfl ⟨Nat.le_of_ble_eq_true rfl, Nat.le_of_ble_eq_true rfl⟩ ⟨k_lblindH, k_lpreH hap hE hL⟩ rfl rfl hl.1 rfl (lv_room (Nat.le_of_ble_eq_true rfl)) dL_law_477 ⟨by show _ ≤ 623897; omega, by show _ ≤ 7224412; omega⟩) hL (fun H locs hL => ?_)
    refine lv_istore hx hb dL_law_480 hl (Nat.le_of_ble_eq_true rfl) rfl (fun ls (hl : lv_has ls 8 [(5, .int (0 : Int32)), (0, .ref b), (1, .ref (ad 0)), (2, .ref (am 0)), (3, .ref ao), (4, .int (nI n))]) => ?_)
    refine lv_aload_n hx hb dL_law_482 rfl (lv_at hl 3 rfl) ?_
    refine lv_aload_n hx hb dL_law_483 rfl (lv_at hl 1 rfl) ?_
    refine lv_iload hx hb dL_law_484 (lv_at hl 5 rfl) ?_
    refine lv_iconst (v := 1) hx hb dL_law_486 rfl ?_
    refine lv_iadd hx hb dL_law_487 ?_
    refine k_sld (v := xs (n + 1)) hX hbl hL hx hb (k_sin 1 rfl (by omega) (by omega)) (k_sval 1 rfl (by omega)) dL_law_488 ?_
    refine k_lcallM hap (va_runV (As := [.int (xs (n + 1))]) (rest := []) hcf (mX6_free l D cs am N σM (xs (n + 1)) r σM' hf2) (kcX6_free htk (kw_942 htk) ⟨Nat.le_of_ble_eq_true rfl, Nat.le_of_ble_eq_true rfl⟩) ⟨k_blind, va_recv (ci := 6) (q0 := 0) (k_tM hE.1) hL.2.1 rfl rfl, k_lpreM hap hE hL⟩ rfl rfl hl.1 rfl (lv_room (Nat.le_of_ble_eq_true rfl)) dL_law_489 ⟨by show _ ≤ 623897; omega, by show _ ≤ 7224412; omega⟩) hL (fun H locs hL => ?_)
    refine lv_istore hx hb dL_law_492 hl (Nat.le_of_ble_eq_true rfl) rfl (fun ls (hl : lv_has ls 8 [(6, .int r), (5, .int (0 : Int32)), (0, .ref b), (1, .ref (ad 0)), (2, .ref (am 0)), (3, .ref ao), (4, .int (nI n))]) => ?_)
    refine lv_aload_n hx hb dL_law_494 rfl (lv_at hl 4 rfl) ?_
    refine k_lcallP (va_runV (As := []) (rest := []) hcf (mX6_thrown l D cs am N σM' (σM'.1 0) rfl) (kcX6_thrown htk (kw_773 htk) ⟨Nat.le_of_ble_eq_true rfl, Nat.le_of_ble_eq_true rfl⟩) ⟨k_blind, va_recv (ci := 6) (q0 := 0) (k_tM hE.1) hL.2.1 rfl rfl, k_lpreM hap hE hL⟩ rfl rfl hl.1 rfl (lv_room (Nat.le_of_ble_eq_true rfl)) dL_law_495 ⟨by show _ ≤ 623897; omega, by show _ ≤ 7224412; omega⟩) ?_
    refine lv_iload hx hb dL_law_498 (lv_at hl 1 rfl) ?_
    refine lv_icmp_eq (tgt := 505) hx hb dL_law_500 (by decide) (fun c1 => ?_) (fun c1 => absurd hth c1)
    refine lv_iload hx hb dL_law_505 (lv_at hl 1 rfl) ?_
    refine lv_if_ne (tgt := 529) hx hb dL_law_507 (by decide) (fun c2 => absurd rfl c2) (fun c2 => ?_)
    refine lv_aload_n hx hb dL_law_510 rfl (lv_at hl 5 rfl) ?_
    refine lv_iconst (v := 0) hx hb dL_law_511 rfl ?_
    refine k_ldout (v := (k_b2l r)) hE hL rfl hx hb dL_law_512 ?_
    refine lv_iload hx hb dL_law_513 (lv_at hl 0 rfl) ?_
    refine lv_if_eq (tgt := 522) hx hb dL_law_515 (by decide) (fun c4 => ?_) (fun c4 => ?_)
    · refine lv_lconst (v := 0) hx hb dL_law_522 rfl ?_
      refine W.lcmp hx hb dL_law_523 ?_
      refine lv_if_eq (tgt := 529) hx hb dL_law_524 (by decide) (fun c3 => ?_) (fun c3 => absurd ((lg_cmp_eq _ _).mpr (if_pos c4)) c3)
      refine lv_goto (tgt := 821) hx hb dL_law_529 (by decide) ?_
      exact J821 σK σM' (vp_updL ov 0 (k_b2l r)) H locs ls cells slots (lv_sub hl [2, 3, 4, 5, 6] rfl) hL (by omega) (by omega) hI
    · refine lv_lconst (v := 1) hx hb dL_law_518 rfl ?_
      refine lv_goto (tgt := 523) hx hb dL_law_519 (by decide) ?_
      refine W.lcmp hx hb dL_law_523 ?_
      refine lv_if_eq (tgt := 529) hx hb dL_law_524 (by decide) (fun c3 => ?_) (fun c3 => absurd ((lg_cmp_eq _ _).mpr (if_neg c4)) c3)
      refine lv_goto (tgt := 821) hx hb dL_law_529 (by decide) ?_
      exact J821 σK σM' (vp_updL ov 0 (k_b2l r)) H locs ls cells slots (lv_sub hl [2, 3, 4, 5, 6] rfl) hL (by omega) (by omega) hI
  · refine lv_aload_n hx hb dL_law_469 rfl (lv_at hl 1 rfl) ?_
    refine lv_aload_n hx hb dL_law_470 rfl (lv_at hl 0 rfl) ?_
    refine lv_iload hx hb dL_law_471 (lv_at hl 4 rfl) ?_
    refine lv_iconst (v := 1) hx hb dL_law_473 rfl ?_
    refine lv_iadd hx hb dL_law_474 ?_
    refine k_sld (v := xs (n + 1)) hX hbl hL hx hb (k_sin 1 rfl (by omega) (by omega)) (k_sval 1 rfl (by omega)) dL_law_475 ?_
    refine lv_aload_n hx hb dL_law_476 rfl (lv_at hl 3 rfl) ?_
    refine k_lcallT (k_runSW (n := 3) (As := [.ref (ad 0), .int (xs (n + 1)), .ref ao]) (rest := []) hcf (gL_free_2 l hfl D cs ad ao N σK ov (xs (n + 1)) hf1) kc_619 (kw_51 htk) (kw_618 htk) (kw_617 htk) ⟨by decide, by decide, by decide +kernel⟩ rfl rfl ⟨Nat.le_of_ble_eq_true rfl, Nat.le_of_ble_eq_true rfl⟩ ⟨k_lblindH, k_lpreH hap hE hL⟩ rfl rfl hl.1 rfl (lv_room (Nat.le_of_ble_eq_true rfl)) dL_law_477 ⟨by show _ ≤ 623897; omega, by show _ ≤ 7224412; omega⟩) hL (fun H locs hL => ?_)
    refine lv_istore hx hb dL_law_480 hl (Nat.le_of_ble_eq_true rfl) rfl (fun ls (hl : lv_has ls 8 [(5, .int (1 : Int32)), (0, .ref b), (1, .ref (ad 0)), (2, .ref (am 0)), (3, .ref ao), (4, .int (nI n))]) => ?_)
    refine lv_aload_n hx hb dL_law_482 rfl (lv_at hl 3 rfl) ?_
    refine lv_aload_n hx hb dL_law_483 rfl (lv_at hl 1 rfl) ?_
    refine lv_iload hx hb dL_law_484 (lv_at hl 5 rfl) ?_
    refine lv_iconst (v := 1) hx hb dL_law_486 rfl ?_
    refine lv_iadd hx hb dL_law_487 ?_
    refine k_sld (v := xs (n + 1)) hX hbl hL hx hb (k_sin 1 rfl (by omega) (by omega)) (k_sval 1 rfl (by omega)) dL_law_488 ?_
    refine k_lcallM hap (va_runV (As := [.int (xs (n + 1))]) (rest := []) hcf (mX6_free l D cs am N σM (xs (n + 1)) yb σM' hf2) (kcX6_free htk (kw_942 htk) ⟨Nat.le_of_ble_eq_true rfl, Nat.le_of_ble_eq_true rfl⟩) ⟨k_blind, va_recv (ci := 6) (q0 := 0) (k_tM hE.1) hL.2.1 rfl rfl, k_lpreM hap hE hL⟩ rfl rfl hl.1 rfl (lv_room (Nat.le_of_ble_eq_true rfl)) dL_law_489 ⟨by show _ ≤ 623897; omega, by show _ ≤ 7224412; omega⟩) hL (fun H locs hL => ?_)
    refine lv_istore hx hb dL_law_492 hl (Nat.le_of_ble_eq_true rfl) rfl (fun ls (hl : lv_has ls 8 [(6, .int yb), (5, .int (1 : Int32)), (0, .ref b), (1, .ref (ad 0)), (2, .ref (am 0)), (3, .ref ao), (4, .int (nI n))]) => ?_)
    refine lv_aload_n hx hb dL_law_494 rfl (lv_at hl 4 rfl) ?_
    refine k_lcallP (va_runV (As := []) (rest := []) hcf (mX6_thrown l D cs am N σM' (σM'.1 0) rfl) (kcX6_thrown htk (kw_773 htk) ⟨Nat.le_of_ble_eq_true rfl, Nat.le_of_ble_eq_true rfl⟩) ⟨k_blind, va_recv (ci := 6) (q0 := 0) (k_tM hE.1) hL.2.1 rfl rfl, k_lpreM hap hE hL⟩ rfl rfl hl.1 rfl (lv_room (Nat.le_of_ble_eq_true rfl)) dL_law_495 ⟨by show _ ≤ 623897; omega, by show _ ≤ 7224412; omega⟩) ?_
    refine lv_iload hx hb dL_law_498 (lv_at hl 1 rfl) ?_
    refine lv_icmp_eq (tgt := 505) hx hb dL_law_500 (by decide) (fun c1 => ?_) (fun c1 => absurd hth c1)
    refine lv_iload hx hb dL_law_505 (lv_at hl 1 rfl) ?_
    refine lv_if_ne (tgt := 529) hx hb dL_law_507 (by decide) (fun c2 => ?_) (fun c2 => absurd c2 (by decide))
    refine lv_goto (tgt := 821) hx hb dL_law_529 (by decide) ?_
    exact J821 σK σM' ov H locs ls (cells + 1) (slots + 6) (lv_sub hl [2, 3, 4, 5, 6] rfl) hL (by omega) (by omega) hI
set_option maxRecDepth 100000 in
set_option maxHeartbeats 1000000 in
theorem law_11 {p : Program} {l : Launch} {e : Env} {s : State} {m : MethodId} {args : Array Value} {below : List Frame} {meth : Method} {c : Code} {Q : State → Prop} {D : va_G} {cs : Nat → ClassId} {ad am : Nat → Nat} {ao b L N n : Nat} {xs : Nat → Int32} {I : vS → vS → Prop} {σK σM : vS} {ov : Nat → Int64} {H : Heap} {locs : List Loc} {ls : Array Slot} {cells slots c1 s1 : Nat} (hcf : CallFix p m c cL_law 8 s args kws RL) (hfl : l.flags = flags0) (hE : k_EN D cs s) (hap : k_AP cs ad am ao s.heap.size) (hX : va_X b L xs s s.heap) (hbl : b < s.heap.size) (hn : n + 6 ≤ L) (hL2 : L ≤ 3072) (hc1 : cells + 1 ≤ c1) (hs1 : slots + 6 ≤ s1) (hc2 : c1 ≤ 600000) (hs2 : s1 ≤ 7000000)
    (J821 : ∀ (σK σM : vS) (ov : Nat → Int64) (H : Heap) (locs : List Loc) (ls : Array Slot) (cells slots : Nat), lv_has ls 8 [(0, .ref b), (1, .ref (ad 0)), (2, .ref (am 0)), (3, .ref ao), (4, .int (nI n))] → k_L D cs ad am ao s σK σM ov H locs → cells ≤ c1 → slots ≤ s1 → I σK σM → W p l e room_1 s m args below meth c H locs cells slots Q (F0 m 821 ls []))
    (hs : st_11 N I σK σM xs n) (hl : lv_has ls 8 [(0, .ref b), (1, .ref (ad 0)), (2, .ref (am 0)), (3, .ref ao), (4, .int (nI n))]) (hL : k_L D cs ad am ao s σK σM ov H locs) : W p l e room_1 s m args below meth c H locs cells slots Q (F0 m 532 ls []) := by
  have hx := hcf.1
  have hb := hcf.2.1
  have htk := hcf.2.2.2.2
  have hown := hcf.2.2.2.1
  rcases hs with ⟨r, σM', hf1, hf2, hth, hI⟩ | ⟨yb, σM', hf1, hf2, hth, hI⟩
  · refine lv_aload_n hx hb dL_law_532 rfl (lv_at hl 1 rfl) ?_
    refine lv_aload_n hx hb dL_law_533 rfl (lv_at hl 0 rfl) ?_
    refine lv_iload hx hb dL_law_534 (lv_at hl 4 rfl) ?_
    refine lv_iconst (v := 1) hx hb dL_law_536 rfl ?_
    refine lv_iadd hx hb dL_law_537 ?_
    refine k_sld (v := xs (n + 1)) hX hbl hL hx hb (k_sin 1 rfl (by omega) (by omega)) (k_sval 1 rfl (by omega)) dL_law_538 ?_
    refine lv_aload_n hx hb dL_law_539 rfl (lv_at hl 0 rfl) ?_
    refine lv_iload hx hb dL_law_540 (lv_at hl 4 rfl) ?_
    refine lv_iconst (v := 2) hx hb dL_law_542 rfl ?_
    refine lv_iadd hx hb dL_law_543 ?_
    refine k_sld (v := xs (n + 2)) hX hbl hL hx hb (k_sin 2 rfl (by omega) (by omega)) (k_sval 2 rfl (by omega)) dL_law_544 ?_
    refine lv_aload_n hx hb dL_law_545 rfl (lv_at hl 3 rfl) ?_
    refine k_lcallH hap (k_runSW (n := 4) (As := [.ref (ad 0), .int (xs (n + 1)), .int (xs (n + 2)), .ref ao]) (rest := []) hcf (hL_number l D cs ad ao N σK ov (xs (n + 1)) (xs (n + 2)) r hf1) kc_626 (kw_51 htk) (kw_625 htk) (kw_624 htk) ⟨by decide, by decide, by decide +kernel⟩ rfl rfl ⟨Nat.le_of_ble_eq_true rfl, Nat.le_of_ble_eq_true rfl⟩ ⟨k_lblindH, k_lpreH hap hE hL⟩ rfl rfl hl.1 rfl (lv_room (Nat.le_of_ble_eq_true rfl)) dL_law_546 ⟨by show _ ≤ 623897; omega, by show _ ≤ 7224412; omega⟩) hL (fun H locs hL => ?_)
    refine lv_istore hx hb dL_law_549 hl (Nat.le_of_ble_eq_true rfl) rfl (fun ls (hl : lv_has ls 8 [(5, .int (0 : Int32)), (0, .ref b), (1, .ref (ad 0)), (2, .ref (am 0)), (3, .ref ao), (4, .int (nI n))]) => ?_)
    refine lv_aload_n hx hb dL_law_551 rfl (lv_at hl 3 rfl) ?_
    refine lv_aload_n hx hb dL_law_552 rfl (lv_at hl 1 rfl) ?_
    refine lv_iload hx hb dL_law_553 (lv_at hl 5 rfl) ?_
    refine lv_iconst (v := 1) hx hb dL_law_555 rfl ?_
    refine lv_iadd hx hb dL_law_556 ?_
    refine k_sld (v := xs (n + 1)) hX hbl hL hx hb (k_sin 1 rfl (by omega) (by omega)) (k_sval 1 rfl (by omega)) dL_law_557 ?_
    refine lv_aload_n hx hb dL_law_558 rfl (lv_at hl 1 rfl) ?_
    refine lv_iload hx hb dL_law_559 (lv_at hl 5 rfl) ?_
    refine lv_iconst (v := 2) hx hb dL_law_561 rfl ?_
    refine lv_iadd hx hb dL_law_562 ?_
    refine k_sld (v := xs (n + 2)) hX hbl hL hx hb (k_sin 2 rfl (by omega) (by omega)) (k_sval 2 rfl (by omega)) dL_law_563 ?_
    refine k_lcallM hap (va_runV (As := [.int (xs (n + 1)), .int (xs (n + 2))]) (rest := []) hcf (mX6_number l D cs am N σM (xs (n + 1)) (xs (n + 2)) r σM' hf2) (kcX6_number htk (kw_946 htk) ⟨Nat.le_of_ble_eq_true rfl, Nat.le_of_ble_eq_true rfl⟩) ⟨k_blind, va_recv (ci := 6) (q0 := 0) (k_tM hE.1) hL.2.1 rfl rfl, k_lpreM hap hE hL⟩ rfl rfl hl.1 rfl (lv_room (Nat.le_of_ble_eq_true rfl)) dL_law_564 ⟨by show _ ≤ 623897; omega, by show _ ≤ 7224412; omega⟩) hL (fun H locs hL => ?_)
    refine lv_lstore hx hb dL_law_567 hl (Nat.le_of_ble_eq_true rfl) rfl (fun ls (hl : lv_has ls 8 [(6, .long r), (5, .int (0 : Int32)), (0, .ref b), (1, .ref (ad 0)), (2, .ref (am 0)), (3, .ref ao), (4, .int (nI n))]) => ?_)
    refine lv_aload_n hx hb dL_law_569 rfl (lv_at hl 4 rfl) ?_
    refine k_lcallP (va_runV (As := []) (rest := []) hcf (mX6_thrown l D cs am N σM' (σM'.1 0) rfl) (kcX6_thrown htk (kw_773 htk) ⟨Nat.le_of_ble_eq_true rfl, Nat.le_of_ble_eq_true rfl⟩) ⟨k_blind, va_recv (ci := 6) (q0 := 0) (k_tM hE.1) hL.2.1 rfl rfl, k_lpreM hap hE hL⟩ rfl rfl hl.1 rfl (lv_room (Nat.le_of_ble_eq_true rfl)) dL_law_570 ⟨by show _ ≤ 623897; omega, by show _ ≤ 7224412; omega⟩) ?_
    refine lv_iload hx hb dL_law_573 (lv_at hl 1 rfl) ?_
    refine lv_icmp_eq (tgt := 580) hx hb dL_law_575 (by decide) (fun c1 => ?_) (fun c1 => absurd hth c1)
    refine lv_iload hx hb dL_law_580 (lv_at hl 1 rfl) ?_
    refine lv_if_ne (tgt := 596) hx hb dL_law_582 (by decide) (fun c2 => absurd rfl c2) (fun c2 => ?_)
    refine lv_aload_n hx hb dL_law_585 rfl (lv_at hl 5 rfl) ?_
    refine lv_iconst (v := 0) hx hb dL_law_586 rfl ?_
    refine k_ldout (v := r) hE hL rfl hx hb dL_law_587 ?_
    refine lv_lload hx hb dL_law_588 (lv_at hl 0 rfl) ?_
    refine W.lcmp hx hb dL_law_590 ?_
    refine lv_if_eq (tgt := 596) hx hb dL_law_591 (by decide) (fun c3 => ?_) (fun c3 => absurd ((lg_cmp_eq _ _).mpr rfl) c3)
    refine lv_goto (tgt := 821) hx hb dL_law_596 (by decide) ?_
    exact J821 σK σM' (vp_updL ov 0 r) H locs ls cells slots (lv_sub hl [2, 3, 4, 5, 6] rfl) hL (by omega) (by omega) hI
  · refine lv_aload_n hx hb dL_law_532 rfl (lv_at hl 1 rfl) ?_
    refine lv_aload_n hx hb dL_law_533 rfl (lv_at hl 0 rfl) ?_
    refine lv_iload hx hb dL_law_534 (lv_at hl 4 rfl) ?_
    refine lv_iconst (v := 1) hx hb dL_law_536 rfl ?_
    refine lv_iadd hx hb dL_law_537 ?_
    refine k_sld (v := xs (n + 1)) hX hbl hL hx hb (k_sin 1 rfl (by omega) (by omega)) (k_sval 1 rfl (by omega)) dL_law_538 ?_
    refine lv_aload_n hx hb dL_law_539 rfl (lv_at hl 0 rfl) ?_
    refine lv_iload hx hb dL_law_540 (lv_at hl 4 rfl) ?_
    refine lv_iconst (v := 2) hx hb dL_law_542 rfl ?_
    refine lv_iadd hx hb dL_law_543 ?_
    refine k_sld (v := xs (n + 2)) hX hbl hL hx hb (k_sin 2 rfl (by omega) (by omega)) (k_sval 2 rfl (by omega)) dL_law_544 ?_
    refine lv_aload_n hx hb dL_law_545 rfl (lv_at hl 3 rfl) ?_
    refine k_lcallT (k_runSW (n := 4) (As := [.ref (ad 0), .int (xs (n + 1)), .int (xs (n + 2)), .ref ao]) (rest := []) hcf (gL_number_2 l hfl D cs ad ao N σK ov (xs (n + 1)) (xs (n + 2)) hf1) kc_626 (kw_51 htk) (kw_625 htk) (kw_624 htk) ⟨by decide, by decide, by decide +kernel⟩ rfl rfl ⟨Nat.le_of_ble_eq_true rfl, Nat.le_of_ble_eq_true rfl⟩ ⟨k_lblindH, k_lpreH hap hE hL⟩ rfl rfl hl.1 rfl (lv_room (Nat.le_of_ble_eq_true rfl)) dL_law_546 ⟨by show _ ≤ 623897; omega, by show _ ≤ 7224412; omega⟩) hL (fun H locs hL => ?_)
    refine lv_istore hx hb dL_law_549 hl (Nat.le_of_ble_eq_true rfl) rfl (fun ls (hl : lv_has ls 8 [(5, .int (1 : Int32)), (0, .ref b), (1, .ref (ad 0)), (2, .ref (am 0)), (3, .ref ao), (4, .int (nI n))]) => ?_)
    refine lv_aload_n hx hb dL_law_551 rfl (lv_at hl 3 rfl) ?_
    refine lv_aload_n hx hb dL_law_552 rfl (lv_at hl 1 rfl) ?_
    refine lv_iload hx hb dL_law_553 (lv_at hl 5 rfl) ?_
    refine lv_iconst (v := 1) hx hb dL_law_555 rfl ?_
    refine lv_iadd hx hb dL_law_556 ?_
    refine k_sld (v := xs (n + 1)) hX hbl hL hx hb (k_sin 1 rfl (by omega) (by omega)) (k_sval 1 rfl (by omega)) dL_law_557 ?_
    refine lv_aload_n hx hb dL_law_558 rfl (lv_at hl 1 rfl) ?_
    refine lv_iload hx hb dL_law_559 (lv_at hl 5 rfl) ?_
    refine lv_iconst (v := 2) hx hb dL_law_561 rfl ?_
    refine lv_iadd hx hb dL_law_562 ?_
    refine k_sld (v := xs (n + 2)) hX hbl hL hx hb (k_sin 2 rfl (by omega) (by omega)) (k_sval 2 rfl (by omega)) dL_law_563 ?_
    refine k_lcallM hap (va_runV (As := [.int (xs (n + 1)), .int (xs (n + 2))]) (rest := []) hcf (mX6_number l D cs am N σM (xs (n + 1)) (xs (n + 2)) yb σM' hf2) (kcX6_number htk (kw_946 htk) ⟨Nat.le_of_ble_eq_true rfl, Nat.le_of_ble_eq_true rfl⟩) ⟨k_blind, va_recv (ci := 6) (q0 := 0) (k_tM hE.1) hL.2.1 rfl rfl, k_lpreM hap hE hL⟩ rfl rfl hl.1 rfl (lv_room (Nat.le_of_ble_eq_true rfl)) dL_law_564 ⟨by show _ ≤ 623897; omega, by show _ ≤ 7224412; omega⟩) hL (fun H locs hL => ?_)
    refine lv_lstore hx hb dL_law_567 hl (Nat.le_of_ble_eq_true rfl) rfl (fun ls (hl : lv_has ls 8 [(6, .long yb), (5, .int (1 : Int32)), (0, .ref b), (1, .ref (ad 0)), (2, .ref (am 0)), (3, .ref ao), (4, .int (nI n))]) => ?_)
    refine lv_aload_n hx hb dL_law_569 rfl (lv_at hl 4 rfl) ?_
    refine k_lcallP (va_runV (As := []) (rest := []) hcf (mX6_thrown l D cs am N σM' (σM'.1 0) rfl) (kcX6_thrown htk (kw_773 htk) ⟨Nat.le_of_ble_eq_true rfl, Nat.le_of_ble_eq_true rfl⟩) ⟨k_blind, va_recv (ci := 6) (q0 := 0) (k_tM hE.1) hL.2.1 rfl rfl, k_lpreM hap hE hL⟩ rfl rfl hl.1 rfl (lv_room (Nat.le_of_ble_eq_true rfl)) dL_law_570 ⟨by show _ ≤ 623897; omega, by show _ ≤ 7224412; omega⟩) ?_
    refine lv_iload hx hb dL_law_573 (lv_at hl 1 rfl) ?_
    refine lv_icmp_eq (tgt := 580) hx hb dL_law_575 (by decide) (fun c1 => ?_) (fun c1 => absurd hth c1)
    refine lv_iload hx hb dL_law_580 (lv_at hl 1 rfl) ?_
    refine lv_if_ne (tgt := 596) hx hb dL_law_582 (by decide) (fun c2 => ?_) (fun c2 => absurd c2 (by decide))
    refine lv_goto (tgt := 821) hx hb dL_law_596 (by decide) ?_
    exact J821 σK σM' ov H locs ls (cells + 1) (slots + 6) (lv_sub hl [2, 3, 4, 5, 6] rfl) hL (by omega) (by omega) hI
set_option maxRecDepth 100000 in
set_option maxHeartbeats 1000000 in
theorem law_12 {p : Program} {l : Launch} {e : Env} {s : State} {m : MethodId} {args : Array Value} {below : List Frame} {meth : Method} {c : Code} {Q : State → Prop} {D : va_G} {cs : Nat → ClassId} {ad am : Nat → Nat} {ao b L N n : Nat} {xs : Nat → Int32} {I : vS → vS → Prop} {σK σM : vS} {ov : Nat → Int64} {H : Heap} {locs : List Loc} {ls : Array Slot} {cells slots c1 s1 : Nat} (hcf : CallFix p m c cL_law 8 s args kws RL) (hfl : l.flags = flags0) (hE : k_EN D cs s) (hap : k_AP cs ad am ao s.heap.size) (hX : va_X b L xs s s.heap) (hbl : b < s.heap.size) (hn : n + 6 ≤ L) (hL2 : L ≤ 3072) (hc1 : cells + 1 ≤ c1) (hs1 : slots + 6 ≤ s1) (hc2 : c1 ≤ 600000) (hs2 : s1 ≤ 7000000)
    (J821 : ∀ (σK σM : vS) (ov : Nat → Int64) (H : Heap) (locs : List Loc) (ls : Array Slot) (cells slots : Nat), lv_has ls 8 [(0, .ref b), (1, .ref (ad 0)), (2, .ref (am 0)), (3, .ref ao), (4, .int (nI n))] → k_L D cs ad am ao s σK σM ov H locs → cells ≤ c1 → slots ≤ s1 → I σK σM → W p l e room_1 s m args below meth c H locs cells slots Q (F0 m 821 ls []))
    (hs : st_12 N I σK σM xs n) (hl : lv_has ls 8 [(0, .ref b), (1, .ref (ad 0)), (2, .ref (am 0)), (3, .ref ao), (4, .int (nI n))]) (hL : k_L D cs ad am ao s σK σM ov H locs) : W p l e room_1 s m args below meth c H locs cells slots Q (F0 m 599 ls []) := by
  have hx := hcf.1
  have hb := hcf.2.1
  have htk := hcf.2.2.2.2
  have hown := hcf.2.2.2.1
  rcases hs with ⟨r, σM', hf1, hf2, hth, hI⟩ | ⟨yb, σM', hf1, hf2, hth, hI⟩ | ⟨yb, σM', hf1, hf2, hth, hI⟩
  · refine lv_aload_n hx hb dL_law_599 rfl (lv_at hl 1 rfl) ?_
    refine lv_aload_n hx hb dL_law_600 rfl (lv_at hl 0 rfl) ?_
    refine lv_iload hx hb dL_law_601 (lv_at hl 4 rfl) ?_
    refine lv_iconst (v := 1) hx hb dL_law_603 rfl ?_
    refine lv_iadd hx hb dL_law_604 ?_
    refine k_sld (v := xs (n + 1)) hX hbl hL hx hb (k_sin 1 rfl (by omega) (by omega)) (k_sval 1 rfl (by omega)) dL_law_605 ?_
    refine lv_aload_n hx hb dL_law_606 rfl (lv_at hl 3 rfl) ?_
    refine k_lcallH hap (k_runSW (n := 3) (As := [.ref (ad 0), .int (xs (n + 1)), .ref ao]) (rest := []) hcf (hL_weight l D cs ad ao N σK ov (xs (n + 1)) r hf1) kc_633 (kw_51 htk) (kw_632 htk) (kw_631 htk) ⟨by decide, by decide, by decide +kernel⟩ rfl rfl ⟨Nat.le_of_ble_eq_true rfl, Nat.le_of_ble_eq_true rfl⟩ ⟨k_lblindH, k_lpreH hap hE hL⟩ rfl rfl hl.1 rfl (lv_room (Nat.le_of_ble_eq_true rfl)) dL_law_607 ⟨by show _ ≤ 623897; omega, by show _ ≤ 7224412; omega⟩) hL (fun H locs hL => ?_)
    refine lv_istore hx hb dL_law_610 hl (Nat.le_of_ble_eq_true rfl) rfl (fun ls (hl : lv_has ls 8 [(5, .int (0 : Int32)), (0, .ref b), (1, .ref (ad 0)), (2, .ref (am 0)), (3, .ref ao), (4, .int (nI n))]) => ?_)
    refine lv_aload_n hx hb dL_law_612 rfl (lv_at hl 3 rfl) ?_
    refine lv_aload_n hx hb dL_law_613 rfl (lv_at hl 1 rfl) ?_
    refine lv_iload hx hb dL_law_614 (lv_at hl 5 rfl) ?_
    refine lv_iconst (v := 1) hx hb dL_law_616 rfl ?_
    refine lv_iadd hx hb dL_law_617 ?_
    refine k_sld (v := xs (n + 1)) hX hbl hL hx hb (k_sin 1 rfl (by omega) (by omega)) (k_sval 1 rfl (by omega)) dL_law_618 ?_
    refine k_lcallM hap (va_runV (As := [.int (xs (n + 1))]) (rest := []) hcf (mX6_weight l D cs am N σM (xs (n + 1)) r σM' hf2) (kcX6_weight htk (kw_950 htk) ⟨Nat.le_of_ble_eq_true rfl, Nat.le_of_ble_eq_true rfl⟩) ⟨k_blind, va_recv (ci := 6) (q0 := 0) (k_tM hE.1) hL.2.1 rfl rfl, k_lpreM hap hE hL⟩ rfl rfl hl.1 rfl (lv_room (Nat.le_of_ble_eq_true rfl)) dL_law_619 ⟨by show _ ≤ 623897; omega, by show _ ≤ 7224412; omega⟩) hL (fun H locs hL => ?_)
    refine lv_lstore hx hb dL_law_622 hl (Nat.le_of_ble_eq_true rfl) rfl (fun ls (hl : lv_has ls 8 [(6, .long r), (5, .int (0 : Int32)), (0, .ref b), (1, .ref (ad 0)), (2, .ref (am 0)), (3, .ref ao), (4, .int (nI n))]) => ?_)
    refine lv_aload_n hx hb dL_law_624 rfl (lv_at hl 4 rfl) ?_
    refine k_lcallP (va_runV (As := []) (rest := []) hcf (mX6_thrown l D cs am N σM' (σM'.1 0) rfl) (kcX6_thrown htk (kw_773 htk) ⟨Nat.le_of_ble_eq_true rfl, Nat.le_of_ble_eq_true rfl⟩) ⟨k_blind, va_recv (ci := 6) (q0 := 0) (k_tM hE.1) hL.2.1 rfl rfl, k_lpreM hap hE hL⟩ rfl rfl hl.1 rfl (lv_room (Nat.le_of_ble_eq_true rfl)) dL_law_625 ⟨by show _ ≤ 623897; omega, by show _ ≤ 7224412; omega⟩) ?_
    refine lv_iload hx hb dL_law_628 (lv_at hl 1 rfl) ?_
    refine lv_icmp_eq (tgt := 635) hx hb dL_law_630 (by decide) (fun c1 => ?_) (fun c1 => absurd hth c1)
    refine lv_iload hx hb dL_law_635 (lv_at hl 1 rfl) ?_
    refine lv_if_ne (tgt := 651) hx hb dL_law_637 (by decide) (fun c2 => absurd rfl c2) (fun c2 => ?_)
    refine lv_aload_n hx hb dL_law_640 rfl (lv_at hl 5 rfl) ?_
    refine lv_iconst (v := 0) hx hb dL_law_641 rfl ?_
    refine k_ldout (v := r) hE hL rfl hx hb dL_law_642 ?_
    refine lv_lload hx hb dL_law_643 (lv_at hl 0 rfl) ?_
    refine W.lcmp hx hb dL_law_645 ?_
    refine lv_if_eq (tgt := 651) hx hb dL_law_646 (by decide) (fun c3 => ?_) (fun c3 => absurd ((lg_cmp_eq _ _).mpr rfl) c3)
    refine lv_goto (tgt := 821) hx hb dL_law_651 (by decide) ?_
    exact J821 σK σM' (vp_updL ov 0 r) H locs ls cells slots (lv_sub hl [2, 3, 4, 5, 6] rfl) hL (by omega) (by omega) hI
  · refine lv_aload_n hx hb dL_law_599 rfl (lv_at hl 1 rfl) ?_
    refine lv_aload_n hx hb dL_law_600 rfl (lv_at hl 0 rfl) ?_
    refine lv_iload hx hb dL_law_601 (lv_at hl 4 rfl) ?_
    refine lv_iconst (v := 1) hx hb dL_law_603 rfl ?_
    refine lv_iadd hx hb dL_law_604 ?_
    refine k_sld (v := xs (n + 1)) hX hbl hL hx hb (k_sin 1 rfl (by omega) (by omega)) (k_sval 1 rfl (by omega)) dL_law_605 ?_
    refine lv_aload_n hx hb dL_law_606 rfl (lv_at hl 3 rfl) ?_
    refine k_lcallT (k_runSW (n := 3) (As := [.ref (ad 0), .int (xs (n + 1)), .ref ao]) (rest := []) hcf (gL_weight_2 l hfl D cs ad ao N σK ov (xs (n + 1)) hf1) kc_633 (kw_51 htk) (kw_632 htk) (kw_631 htk) ⟨by decide, by decide, by decide +kernel⟩ rfl rfl ⟨Nat.le_of_ble_eq_true rfl, Nat.le_of_ble_eq_true rfl⟩ ⟨k_lblindH, k_lpreH hap hE hL⟩ rfl rfl hl.1 rfl (lv_room (Nat.le_of_ble_eq_true rfl)) dL_law_607 ⟨by show _ ≤ 623897; omega, by show _ ≤ 7224412; omega⟩) hL (fun H locs hL => ?_)
    refine lv_istore hx hb dL_law_610 hl (Nat.le_of_ble_eq_true rfl) rfl (fun ls (hl : lv_has ls 8 [(5, .int (1 : Int32)), (0, .ref b), (1, .ref (ad 0)), (2, .ref (am 0)), (3, .ref ao), (4, .int (nI n))]) => ?_)
    refine lv_aload_n hx hb dL_law_612 rfl (lv_at hl 3 rfl) ?_
    refine lv_aload_n hx hb dL_law_613 rfl (lv_at hl 1 rfl) ?_
    refine lv_iload hx hb dL_law_614 (lv_at hl 5 rfl) ?_
    refine lv_iconst (v := 1) hx hb dL_law_616 rfl ?_
    refine lv_iadd hx hb dL_law_617 ?_
    refine k_sld (v := xs (n + 1)) hX hbl hL hx hb (k_sin 1 rfl (by omega) (by omega)) (k_sval 1 rfl (by omega)) dL_law_618 ?_
    refine k_lcallM hap (va_runV (As := [.int (xs (n + 1))]) (rest := []) hcf (mX6_weight l D cs am N σM (xs (n + 1)) yb σM' hf2) (kcX6_weight htk (kw_950 htk) ⟨Nat.le_of_ble_eq_true rfl, Nat.le_of_ble_eq_true rfl⟩) ⟨k_blind, va_recv (ci := 6) (q0 := 0) (k_tM hE.1) hL.2.1 rfl rfl, k_lpreM hap hE hL⟩ rfl rfl hl.1 rfl (lv_room (Nat.le_of_ble_eq_true rfl)) dL_law_619 ⟨by show _ ≤ 623897; omega, by show _ ≤ 7224412; omega⟩) hL (fun H locs hL => ?_)
    refine lv_lstore hx hb dL_law_622 hl (Nat.le_of_ble_eq_true rfl) rfl (fun ls (hl : lv_has ls 8 [(6, .long yb), (5, .int (1 : Int32)), (0, .ref b), (1, .ref (ad 0)), (2, .ref (am 0)), (3, .ref ao), (4, .int (nI n))]) => ?_)
    refine lv_aload_n hx hb dL_law_624 rfl (lv_at hl 4 rfl) ?_
    refine k_lcallP (va_runV (As := []) (rest := []) hcf (mX6_thrown l D cs am N σM' (σM'.1 0) rfl) (kcX6_thrown htk (kw_773 htk) ⟨Nat.le_of_ble_eq_true rfl, Nat.le_of_ble_eq_true rfl⟩) ⟨k_blind, va_recv (ci := 6) (q0 := 0) (k_tM hE.1) hL.2.1 rfl rfl, k_lpreM hap hE hL⟩ rfl rfl hl.1 rfl (lv_room (Nat.le_of_ble_eq_true rfl)) dL_law_625 ⟨by show _ ≤ 623897; omega, by show _ ≤ 7224412; omega⟩) ?_
    refine lv_iload hx hb dL_law_628 (lv_at hl 1 rfl) ?_
    refine lv_icmp_eq (tgt := 635) hx hb dL_law_630 (by decide) (fun c1 => ?_) (fun c1 => absurd hth c1)
    refine lv_iload hx hb dL_law_635 (lv_at hl 1 rfl) ?_
    refine lv_if_ne (tgt := 651) hx hb dL_law_637 (by decide) (fun c2 => ?_) (fun c2 => absurd c2 (by decide))
    refine lv_goto (tgt := 821) hx hb dL_law_651 (by decide) ?_
    exact J821 σK σM' ov H locs ls (cells + 1) (slots + 6) (lv_sub hl [2, 3, 4, 5, 6] rfl) hL (by omega) (by omega) hI
  · refine lv_aload_n hx hb dL_law_599 rfl (lv_at hl 1 rfl) ?_
    refine lv_aload_n hx hb dL_law_600 rfl (lv_at hl 0 rfl) ?_
    refine lv_iload hx hb dL_law_601 (lv_at hl 4 rfl) ?_
    refine lv_iconst (v := 1) hx hb dL_law_603 rfl ?_
    refine lv_iadd hx hb dL_law_604 ?_
    refine k_sld (v := xs (n + 1)) hX hbl hL hx hb (k_sin 1 rfl (by omega) (by omega)) (k_sval 1 rfl (by omega)) dL_law_605 ?_
    refine lv_aload_n hx hb dL_law_606 rfl (lv_at hl 3 rfl) ?_
    refine k_lcallT (k_runSW (n := 3) (As := [.ref (ad 0), .int (xs (n + 1)), .ref ao]) (rest := []) hcf (gL_weight_3 l hfl D cs ad ao N σK ov (xs (n + 1)) hf1) kc_633 (kw_51 htk) (kw_632 htk) (kw_631 htk) ⟨by decide, by decide, by decide +kernel⟩ rfl rfl ⟨Nat.le_of_ble_eq_true rfl, Nat.le_of_ble_eq_true rfl⟩ ⟨k_lblindH, k_lpreH hap hE hL⟩ rfl rfl hl.1 rfl (lv_room (Nat.le_of_ble_eq_true rfl)) dL_law_607 ⟨by show _ ≤ 623897; omega, by show _ ≤ 7224412; omega⟩) hL (fun H locs hL => ?_)
    refine lv_istore hx hb dL_law_610 hl (Nat.le_of_ble_eq_true rfl) rfl (fun ls (hl : lv_has ls 8 [(5, .int (2 : Int32)), (0, .ref b), (1, .ref (ad 0)), (2, .ref (am 0)), (3, .ref ao), (4, .int (nI n))]) => ?_)
    refine lv_aload_n hx hb dL_law_612 rfl (lv_at hl 3 rfl) ?_
    refine lv_aload_n hx hb dL_law_613 rfl (lv_at hl 1 rfl) ?_
    refine lv_iload hx hb dL_law_614 (lv_at hl 5 rfl) ?_
    refine lv_iconst (v := 1) hx hb dL_law_616 rfl ?_
    refine lv_iadd hx hb dL_law_617 ?_
    refine k_sld (v := xs (n + 1)) hX hbl hL hx hb (k_sin 1 rfl (by omega) (by omega)) (k_sval 1 rfl (by omega)) dL_law_618 ?_
    refine k_lcallM hap (va_runV (As := [.int (xs (n + 1))]) (rest := []) hcf (mX6_weight l D cs am N σM (xs (n + 1)) yb σM' hf2) (kcX6_weight htk (kw_950 htk) ⟨Nat.le_of_ble_eq_true rfl, Nat.le_of_ble_eq_true rfl⟩) ⟨k_blind, va_recv (ci := 6) (q0 := 0) (k_tM hE.1) hL.2.1 rfl rfl, k_lpreM hap hE hL⟩ rfl rfl hl.1 rfl (lv_room (Nat.le_of_ble_eq_true rfl)) dL_law_619 ⟨by show _ ≤ 623897; omega, by show _ ≤ 7224412; omega⟩) hL (fun H locs hL => ?_)
    refine lv_lstore hx hb dL_law_622 hl (Nat.le_of_ble_eq_true rfl) rfl (fun ls (hl : lv_has ls 8 [(6, .long yb), (5, .int (2 : Int32)), (0, .ref b), (1, .ref (ad 0)), (2, .ref (am 0)), (3, .ref ao), (4, .int (nI n))]) => ?_)
    refine lv_aload_n hx hb dL_law_624 rfl (lv_at hl 4 rfl) ?_
    refine k_lcallP (va_runV (As := []) (rest := []) hcf (mX6_thrown l D cs am N σM' (σM'.1 0) rfl) (kcX6_thrown htk (kw_773 htk) ⟨Nat.le_of_ble_eq_true rfl, Nat.le_of_ble_eq_true rfl⟩) ⟨k_blind, va_recv (ci := 6) (q0 := 0) (k_tM hE.1) hL.2.1 rfl rfl, k_lpreM hap hE hL⟩ rfl rfl hl.1 rfl (lv_room (Nat.le_of_ble_eq_true rfl)) dL_law_625 ⟨by show _ ≤ 623897; omega, by show _ ≤ 7224412; omega⟩) ?_
    refine lv_iload hx hb dL_law_628 (lv_at hl 1 rfl) ?_
    refine lv_icmp_eq (tgt := 635) hx hb dL_law_630 (by decide) (fun c1 => ?_) (fun c1 => absurd hth c1)
    refine lv_iload hx hb dL_law_635 (lv_at hl 1 rfl) ?_
    refine lv_if_ne (tgt := 651) hx hb dL_law_637 (by decide) (fun c2 => ?_) (fun c2 => absurd c2 (by decide))
    refine lv_goto (tgt := 821) hx hb dL_law_651 (by decide) ?_
    exact J821 σK σM' ov H locs ls (cells + 1) (slots + 6) (lv_sub hl [2, 3, 4, 5, 6] rfl) hL (by omega) (by omega) hI
set_option maxRecDepth 100000 in
set_option maxHeartbeats 1000000 in
theorem law_13 {p : Program} {l : Launch} {e : Env} {s : State} {m : MethodId} {args : Array Value} {below : List Frame} {meth : Method} {c : Code} {Q : State → Prop} {D : va_G} {cs : Nat → ClassId} {ad am : Nat → Nat} {ao b L N n : Nat} {xs : Nat → Int32} {I : vS → vS → Prop} {σK σM : vS} {ov : Nat → Int64} {H : Heap} {locs : List Loc} {ls : Array Slot} {cells slots c1 s1 : Nat} (hcf : CallFix p m c cL_law 8 s args kws RL) (hfl : l.flags = flags0) (hE : k_EN D cs s) (hap : k_AP cs ad am ao s.heap.size) (hX : va_X b L xs s s.heap) (hbl : b < s.heap.size) (hn : n + 6 ≤ L) (hL2 : L ≤ 3072) (hc1 : cells + 1 ≤ c1) (hs1 : slots + 6 ≤ s1) (hc2 : c1 ≤ 600000) (hs2 : s1 ≤ 7000000)
    (J821 : ∀ (σK σM : vS) (ov : Nat → Int64) (H : Heap) (locs : List Loc) (ls : Array Slot) (cells slots : Nat), lv_has ls 8 [(0, .ref b), (1, .ref (ad 0)), (2, .ref (am 0)), (3, .ref ao), (4, .int (nI n))] → k_L D cs ad am ao s σK σM ov H locs → cells ≤ c1 → slots ≤ s1 → I σK σM → W p l e room_1 s m args below meth c H locs cells slots Q (F0 m 821 ls []))
    (hs : st_13 N I σK σM xs n) (hl : lv_has ls 8 [(0, .ref b), (1, .ref (ad 0)), (2, .ref (am 0)), (3, .ref ao), (4, .int (nI n))]) (hL : k_L D cs ad am ao s σK σM ov H locs) : W p l e room_1 s m args below meth c H locs cells slots Q (F0 m 654 ls []) := by
  have hx := hcf.1
  have hb := hcf.2.1
  have htk := hcf.2.2.2.2
  have hown := hcf.2.2.2.1
  rcases hs with ⟨r, σM', hf1, hf2, hth, hI⟩ | ⟨yb, σM', hf1, hf2, hth, hI⟩
  · refine lv_aload_n hx hb dL_law_654 rfl (lv_at hl 1 rfl) ?_
    refine lv_aload_n hx hb dL_law_655 rfl (lv_at hl 0 rfl) ?_
    refine lv_iload hx hb dL_law_656 (lv_at hl 4 rfl) ?_
    refine lv_iconst (v := 1) hx hb dL_law_658 rfl ?_
    refine lv_iadd hx hb dL_law_659 ?_
    refine k_sld (v := xs (n + 1)) hX hbl hL hx hb (k_sin 1 rfl (by omega) (by omega)) (k_sval 1 rfl (by omega)) dL_law_660 ?_
    refine lv_aload_n hx hb dL_law_661 rfl (lv_at hl 3 rfl) ?_
    refine k_lcallH hap (k_runSW (n := 3) (As := [.ref (ad 0), .int (xs (n + 1)), .ref ao]) (rest := []) hcf (hL_written l D cs ad ao N σK ov (xs (n + 1)) r hf1) kc_656 (kw_51 htk) (kw_655 htk) (kw_654 htk) ⟨by decide, by decide, by decide +kernel⟩ rfl rfl ⟨Nat.le_of_ble_eq_true rfl, Nat.le_of_ble_eq_true rfl⟩ ⟨k_lblindH, k_lpreH hap hE hL⟩ rfl rfl hl.1 rfl (lv_room (Nat.le_of_ble_eq_true rfl)) dL_law_662 ⟨by show _ ≤ 623897; omega, by show _ ≤ 7224412; omega⟩) hL (fun H locs hL => ?_)
    refine lv_istore hx hb dL_law_665 hl (Nat.le_of_ble_eq_true rfl) rfl (fun ls (hl : lv_has ls 8 [(5, .int (0 : Int32)), (0, .ref b), (1, .ref (ad 0)), (2, .ref (am 0)), (3, .ref ao), (4, .int (nI n))]) => ?_)
    refine lv_aload_n hx hb dL_law_667 rfl (lv_at hl 3 rfl) ?_
    refine lv_aload_n hx hb dL_law_668 rfl (lv_at hl 1 rfl) ?_
    refine lv_iload hx hb dL_law_669 (lv_at hl 5 rfl) ?_
    refine lv_iconst (v := 1) hx hb dL_law_671 rfl ?_
    refine lv_iadd hx hb dL_law_672 ?_
    refine k_sld (v := xs (n + 1)) hX hbl hL hx hb (k_sin 1 rfl (by omega) (by omega)) (k_sval 1 rfl (by omega)) dL_law_673 ?_
    refine k_lcallM hap (va_runV (As := [.int (xs (n + 1))]) (rest := []) hcf (mX6_written l D cs am N σM (xs (n + 1)) r σM' hf2) (kcX6_written htk (kw_954 htk) ⟨Nat.le_of_ble_eq_true rfl, Nat.le_of_ble_eq_true rfl⟩) ⟨k_blind, va_recv (ci := 6) (q0 := 0) (k_tM hE.1) hL.2.1 rfl rfl, k_lpreM hap hE hL⟩ rfl rfl hl.1 rfl (lv_room (Nat.le_of_ble_eq_true rfl)) dL_law_674 ⟨by show _ ≤ 623897; omega, by show _ ≤ 7224412; omega⟩) hL (fun H locs hL => ?_)
    refine lv_istore hx hb dL_law_677 hl (Nat.le_of_ble_eq_true rfl) rfl (fun ls (hl : lv_has ls 8 [(6, .int r), (5, .int (0 : Int32)), (0, .ref b), (1, .ref (ad 0)), (2, .ref (am 0)), (3, .ref ao), (4, .int (nI n))]) => ?_)
    refine lv_aload_n hx hb dL_law_679 rfl (lv_at hl 4 rfl) ?_
    refine k_lcallP (va_runV (As := []) (rest := []) hcf (mX6_thrown l D cs am N σM' (σM'.1 0) rfl) (kcX6_thrown htk (kw_773 htk) ⟨Nat.le_of_ble_eq_true rfl, Nat.le_of_ble_eq_true rfl⟩) ⟨k_blind, va_recv (ci := 6) (q0 := 0) (k_tM hE.1) hL.2.1 rfl rfl, k_lpreM hap hE hL⟩ rfl rfl hl.1 rfl (lv_room (Nat.le_of_ble_eq_true rfl)) dL_law_680 ⟨by show _ ≤ 623897; omega, by show _ ≤ 7224412; omega⟩) ?_
    refine lv_iload hx hb dL_law_683 (lv_at hl 1 rfl) ?_
    refine lv_icmp_eq (tgt := 690) hx hb dL_law_685 (by decide) (fun c1 => ?_) (fun c1 => absurd hth c1)
    refine lv_iload hx hb dL_law_690 (lv_at hl 1 rfl) ?_
    refine lv_if_ne (tgt := 707) hx hb dL_law_692 (by decide) (fun c2 => absurd rfl c2) (fun c2 => ?_)
    refine lv_aload_n hx hb dL_law_695 rfl (lv_at hl 5 rfl) ?_
    refine lv_iconst (v := 0) hx hb dL_law_696 rfl ?_
    refine k_ldout (v := (r).toInt64) hE hL rfl hx hb dL_law_697 ?_
    refine lv_iload hx hb dL_law_698 (lv_at hl 0 rfl) ?_
    refine lv_i2l hx hb dL_law_700 rfl ?_
    refine W.lcmp hx hb dL_law_701 ?_
    refine lv_if_eq (tgt := 707) hx hb dL_law_702 (by decide) (fun c3 => ?_) (fun c3 => absurd ((lg_cmp_eq _ _).mpr rfl) c3)
    refine lv_goto (tgt := 821) hx hb dL_law_707 (by decide) ?_
    exact J821 σK σM' (vp_updL ov 0 (r).toInt64) H locs ls cells slots (lv_sub hl [2, 3, 4, 5, 6] rfl) hL (by omega) (by omega) hI
  · refine lv_aload_n hx hb dL_law_654 rfl (lv_at hl 1 rfl) ?_
    refine lv_aload_n hx hb dL_law_655 rfl (lv_at hl 0 rfl) ?_
    refine lv_iload hx hb dL_law_656 (lv_at hl 4 rfl) ?_
    refine lv_iconst (v := 1) hx hb dL_law_658 rfl ?_
    refine lv_iadd hx hb dL_law_659 ?_
    refine k_sld (v := xs (n + 1)) hX hbl hL hx hb (k_sin 1 rfl (by omega) (by omega)) (k_sval 1 rfl (by omega)) dL_law_660 ?_
    refine lv_aload_n hx hb dL_law_661 rfl (lv_at hl 3 rfl) ?_
    refine k_lcallT (k_runSW (n := 3) (As := [.ref (ad 0), .int (xs (n + 1)), .ref ao]) (rest := []) hcf (gL_written_3 l hfl D cs ad ao N σK ov (xs (n + 1)) hf1) kc_656 (kw_51 htk) (kw_655 htk) (kw_654 htk) ⟨by decide, by decide, by decide +kernel⟩ rfl rfl ⟨Nat.le_of_ble_eq_true rfl, Nat.le_of_ble_eq_true rfl⟩ ⟨k_lblindH, k_lpreH hap hE hL⟩ rfl rfl hl.1 rfl (lv_room (Nat.le_of_ble_eq_true rfl)) dL_law_662 ⟨by show _ ≤ 623897; omega, by show _ ≤ 7224412; omega⟩) hL (fun H locs hL => ?_)
    refine lv_istore hx hb dL_law_665 hl (Nat.le_of_ble_eq_true rfl) rfl (fun ls (hl : lv_has ls 8 [(5, .int (1 : Int32)), (0, .ref b), (1, .ref (ad 0)), (2, .ref (am 0)), (3, .ref ao), (4, .int (nI n))]) => ?_)
    refine lv_aload_n hx hb dL_law_667 rfl (lv_at hl 3 rfl) ?_
    refine lv_aload_n hx hb dL_law_668 rfl (lv_at hl 1 rfl) ?_
    refine lv_iload hx hb dL_law_669 (lv_at hl 5 rfl) ?_
    refine lv_iconst (v := 1) hx hb dL_law_671 rfl ?_
    refine lv_iadd hx hb dL_law_672 ?_
    refine k_sld (v := xs (n + 1)) hX hbl hL hx hb (k_sin 1 rfl (by omega) (by omega)) (k_sval 1 rfl (by omega)) dL_law_673 ?_
    refine k_lcallM hap (va_runV (As := [.int (xs (n + 1))]) (rest := []) hcf (mX6_written l D cs am N σM (xs (n + 1)) yb σM' hf2) (kcX6_written htk (kw_954 htk) ⟨Nat.le_of_ble_eq_true rfl, Nat.le_of_ble_eq_true rfl⟩) ⟨k_blind, va_recv (ci := 6) (q0 := 0) (k_tM hE.1) hL.2.1 rfl rfl, k_lpreM hap hE hL⟩ rfl rfl hl.1 rfl (lv_room (Nat.le_of_ble_eq_true rfl)) dL_law_674 ⟨by show _ ≤ 623897; omega, by show _ ≤ 7224412; omega⟩) hL (fun H locs hL => ?_)
    refine lv_istore hx hb dL_law_677 hl (Nat.le_of_ble_eq_true rfl) rfl (fun ls (hl : lv_has ls 8 [(6, .int yb), (5, .int (1 : Int32)), (0, .ref b), (1, .ref (ad 0)), (2, .ref (am 0)), (3, .ref ao), (4, .int (nI n))]) => ?_)
    refine lv_aload_n hx hb dL_law_679 rfl (lv_at hl 4 rfl) ?_
    refine k_lcallP (va_runV (As := []) (rest := []) hcf (mX6_thrown l D cs am N σM' (σM'.1 0) rfl) (kcX6_thrown htk (kw_773 htk) ⟨Nat.le_of_ble_eq_true rfl, Nat.le_of_ble_eq_true rfl⟩) ⟨k_blind, va_recv (ci := 6) (q0 := 0) (k_tM hE.1) hL.2.1 rfl rfl, k_lpreM hap hE hL⟩ rfl rfl hl.1 rfl (lv_room (Nat.le_of_ble_eq_true rfl)) dL_law_680 ⟨by show _ ≤ 623897; omega, by show _ ≤ 7224412; omega⟩) ?_
    refine lv_iload hx hb dL_law_683 (lv_at hl 1 rfl) ?_
    refine lv_icmp_eq (tgt := 690) hx hb dL_law_685 (by decide) (fun c1 => ?_) (fun c1 => absurd hth c1)
    refine lv_iload hx hb dL_law_690 (lv_at hl 1 rfl) ?_
    refine lv_if_ne (tgt := 707) hx hb dL_law_692 (by decide) (fun c2 => ?_) (fun c2 => absurd c2 (by decide))
    refine lv_goto (tgt := 821) hx hb dL_law_707 (by decide) ?_
    exact J821 σK σM' ov H locs ls (cells + 1) (slots + 6) (lv_sub hl [2, 3, 4, 5, 6] rfl) hL (by omega) (by omega) hI
set_option maxRecDepth 100000 in
set_option maxHeartbeats 1000000 in
theorem law_14 {p : Program} {l : Launch} {e : Env} {s : State} {m : MethodId} {args : Array Value} {below : List Frame} {meth : Method} {c : Code} {Q : State → Prop} {D : va_G} {cs : Nat → ClassId} {ad am : Nat → Nat} {ao b L N n : Nat} {xs : Nat → Int32} {I : vS → vS → Prop} {σK σM : vS} {ov : Nat → Int64} {H : Heap} {locs : List Loc} {ls : Array Slot} {cells slots c1 s1 : Nat} (hcf : CallFix p m c cL_law 8 s args kws RL) (hfl : l.flags = flags0) (hE : k_EN D cs s) (hap : k_AP cs ad am ao s.heap.size) (hX : va_X b L xs s s.heap) (hbl : b < s.heap.size) (hn : n + 6 ≤ L) (hL2 : L ≤ 3072) (hc1 : cells + 1 ≤ c1) (hs1 : slots + 6 ≤ s1) (hc2 : c1 ≤ 600000) (hs2 : s1 ≤ 7000000)
    (J821 : ∀ (σK σM : vS) (ov : Nat → Int64) (H : Heap) (locs : List Loc) (ls : Array Slot) (cells slots : Nat), lv_has ls 8 [(0, .ref b), (1, .ref (ad 0)), (2, .ref (am 0)), (3, .ref ao), (4, .int (nI n))] → k_L D cs ad am ao s σK σM ov H locs → cells ≤ c1 → slots ≤ s1 → I σK σM → W p l e room_1 s m args below meth c H locs cells slots Q (F0 m 821 ls []))
    (hs : st_14 N I σK σM xs n) (hl : lv_has ls 8 [(0, .ref b), (1, .ref (ad 0)), (2, .ref (am 0)), (3, .ref ao), (4, .int (nI n))]) (hL : k_L D cs ad am ao s σK σM ov H locs) : W p l e room_1 s m args below meth c H locs cells slots Q (F0 m 710 ls []) := by
  have hx := hcf.1
  have hb := hcf.2.1
  have htk := hcf.2.2.2.2
  have hown := hcf.2.2.2.1
  rcases hs with ⟨r, σM', hf1, hf2, hth, hI⟩ | ⟨yb, σM', hf1, hf2, hth, hI⟩
  · refine lv_aload_n hx hb dL_law_710 rfl (lv_at hl 1 rfl) ?_
    refine lv_aload_n hx hb dL_law_711 rfl (lv_at hl 0 rfl) ?_
    refine lv_iload hx hb dL_law_712 (lv_at hl 4 rfl) ?_
    refine lv_iconst (v := 1) hx hb dL_law_714 rfl ?_
    refine lv_iadd hx hb dL_law_715 ?_
    refine k_sld (v := xs (n + 1)) hX hbl hL hx hb (k_sin 1 rfl (by omega) (by omega)) (k_sval 1 rfl (by omega)) dL_law_716 ?_
    refine lv_aload_n hx hb dL_law_717 rfl (lv_at hl 0 rfl) ?_
    refine lv_iload hx hb dL_law_718 (lv_at hl 4 rfl) ?_
    refine lv_iconst (v := 2) hx hb dL_law_720 rfl ?_
    refine lv_iadd hx hb dL_law_721 ?_
    refine k_sld (v := xs (n + 2)) hX hbl hL hx hb (k_sin 2 rfl (by omega) (by omega)) (k_sval 2 rfl (by omega)) dL_law_722 ?_
    refine lv_aload_n hx hb dL_law_723 rfl (lv_at hl 0 rfl) ?_
    refine lv_iload hx hb dL_law_724 (lv_at hl 4 rfl) ?_
    refine lv_iconst (v := 3) hx hb dL_law_726 rfl ?_
    refine lv_iadd hx hb dL_law_727 ?_
    refine k_sld (v := xs (n + 3)) hX hbl hL hx hb (k_sin 3 rfl (by omega) (by omega)) (k_sval 3 rfl (by omega)) dL_law_728 ?_
    refine lv_aload_n hx hb dL_law_729 rfl (lv_at hl 0 rfl) ?_
    refine lv_iload hx hb dL_law_730 (lv_at hl 4 rfl) ?_
    refine lv_iconst (v := 4) hx hb dL_law_732 rfl ?_
    refine lv_iadd hx hb dL_law_733 ?_
    refine k_sld (v := xs (n + 4)) hX hbl hL hx hb (k_sin 4 rfl (by omega) (by omega)) (k_sval 4 rfl (by omega)) dL_law_734 ?_
    refine lv_aload_n hx hb dL_law_735 rfl (lv_at hl 0 rfl) ?_
    refine lv_iload hx hb dL_law_736 (lv_at hl 4 rfl) ?_
    refine lv_iconst (v := 5) hx hb dL_law_738 rfl ?_
    refine lv_iadd hx hb dL_law_739 ?_
    refine k_sld (v := xs (n + 5)) hX hbl hL hx hb (k_sin 5 rfl (by omega) (by omega)) (k_sval 5 rfl (by omega)) dL_law_740 ?_
    refine lv_aload_n hx hb dL_law_741 rfl (lv_at hl 3 rfl) ?_
    refine k_lcallH hap (k_runSW (n := 7) (As := [.ref (ad 0), .int (xs (n + 1)), .int (xs (n + 2)), .int (xs (n + 3)), .int (xs (n + 4)), .int (xs (n + 5)), .ref ao]) (rest := []) hcf (hL_solves l D cs ad ao N σK ov (xs (n + 1)) (xs (n + 2)) (xs (n + 3)) (xs (n + 4)) (xs (n + 5)) r hf1) kc_667 (kw_51 htk) (kw_666 htk) (kw_665 htk) ⟨by decide, by decide, by decide +kernel⟩ rfl rfl ⟨Nat.le_of_ble_eq_true rfl, Nat.le_of_ble_eq_true rfl⟩ ⟨k_lblindH, k_lpreH hap hE hL⟩ rfl rfl hl.1 rfl (lv_room (Nat.le_of_ble_eq_true rfl)) dL_law_742 ⟨by show _ ≤ 623897; omega, by show _ ≤ 7224412; omega⟩) hL (fun H locs hL => ?_)
    refine lv_istore hx hb dL_law_745 hl (Nat.le_of_ble_eq_true rfl) rfl (fun ls (hl : lv_has ls 8 [(5, .int (0 : Int32)), (0, .ref b), (1, .ref (ad 0)), (2, .ref (am 0)), (3, .ref ao), (4, .int (nI n))]) => ?_)
    refine lv_aload_n hx hb dL_law_747 rfl (lv_at hl 3 rfl) ?_
    refine lv_aload_n hx hb dL_law_748 rfl (lv_at hl 1 rfl) ?_
    refine lv_iload hx hb dL_law_749 (lv_at hl 5 rfl) ?_
    refine lv_iconst (v := 1) hx hb dL_law_751 rfl ?_
    refine lv_iadd hx hb dL_law_752 ?_
    refine k_sld (v := xs (n + 1)) hX hbl hL hx hb (k_sin 1 rfl (by omega) (by omega)) (k_sval 1 rfl (by omega)) dL_law_753 ?_
    refine lv_aload_n hx hb dL_law_754 rfl (lv_at hl 1 rfl) ?_
    refine lv_iload hx hb dL_law_755 (lv_at hl 5 rfl) ?_
    refine lv_iconst (v := 2) hx hb dL_law_757 rfl ?_
    refine lv_iadd hx hb dL_law_758 ?_
    refine k_sld (v := xs (n + 2)) hX hbl hL hx hb (k_sin 2 rfl (by omega) (by omega)) (k_sval 2 rfl (by omega)) dL_law_759 ?_
    refine lv_aload_n hx hb dL_law_760 rfl (lv_at hl 1 rfl) ?_
    refine lv_iload hx hb dL_law_761 (lv_at hl 5 rfl) ?_
    refine lv_iconst (v := 3) hx hb dL_law_763 rfl ?_
    refine lv_iadd hx hb dL_law_764 ?_
    refine k_sld (v := xs (n + 3)) hX hbl hL hx hb (k_sin 3 rfl (by omega) (by omega)) (k_sval 3 rfl (by omega)) dL_law_765 ?_
    refine lv_aload_n hx hb dL_law_766 rfl (lv_at hl 1 rfl) ?_
    refine lv_iload hx hb dL_law_767 (lv_at hl 5 rfl) ?_
    refine lv_iconst (v := 4) hx hb dL_law_769 rfl ?_
    refine lv_iadd hx hb dL_law_770 ?_
    refine k_sld (v := xs (n + 4)) hX hbl hL hx hb (k_sin 4 rfl (by omega) (by omega)) (k_sval 4 rfl (by omega)) dL_law_771 ?_
    refine lv_aload_n hx hb dL_law_772 rfl (lv_at hl 1 rfl) ?_
    refine lv_iload hx hb dL_law_773 (lv_at hl 5 rfl) ?_
    refine lv_iconst (v := 5) hx hb dL_law_775 rfl ?_
    refine lv_iadd hx hb dL_law_776 ?_
    refine k_sld (v := xs (n + 5)) hX hbl hL hx hb (k_sin 5 rfl (by omega) (by omega)) (k_sval 5 rfl (by omega)) dL_law_777 ?_
    refine k_lcallM hap (va_runV (As := [.int (xs (n + 1)), .int (xs (n + 2)), .int (xs (n + 3)), .int (xs (n + 4)), .int (xs (n + 5))]) (rest := []) hcf (mX6_solves l D cs am N σM (xs (n + 1)) (xs (n + 2)) (xs (n + 3)) (xs (n + 4)) (xs (n + 5)) r σM' hf2) (kcX6_solves htk (kw_958 htk) ⟨Nat.le_of_ble_eq_true rfl, Nat.le_of_ble_eq_true rfl⟩) ⟨k_blind, va_recv (ci := 6) (q0 := 0) (k_tM hE.1) hL.2.1 rfl rfl, k_lpreM hap hE hL⟩ rfl rfl hl.1 rfl (lv_room (Nat.le_of_ble_eq_true rfl)) dL_law_778 ⟨by show _ ≤ 623897; omega, by show _ ≤ 7224412; omega⟩) hL (fun H locs hL => ?_)
    refine lv_istore hx hb dL_law_781 hl (Nat.le_of_ble_eq_true rfl) rfl (fun ls (hl : lv_has ls 8 [(6, .int r), (5, .int (0 : Int32)), (0, .ref b), (1, .ref (ad 0)), (2, .ref (am 0)), (3, .ref ao), (4, .int (nI n))]) => ?_)
    refine lv_aload_n hx hb dL_law_783 rfl (lv_at hl 4 rfl) ?_
    refine k_lcallP (va_runV (As := []) (rest := []) hcf (mX6_thrown l D cs am N σM' (σM'.1 0) rfl) (kcX6_thrown htk (kw_773 htk) ⟨Nat.le_of_ble_eq_true rfl, Nat.le_of_ble_eq_true rfl⟩) ⟨k_blind, va_recv (ci := 6) (q0 := 0) (k_tM hE.1) hL.2.1 rfl rfl, k_lpreM hap hE hL⟩ rfl rfl hl.1 rfl (lv_room (Nat.le_of_ble_eq_true rfl)) dL_law_784 ⟨by show _ ≤ 623897; omega, by show _ ≤ 7224412; omega⟩) ?_
    refine lv_iload hx hb dL_law_787 (lv_at hl 1 rfl) ?_
    refine lv_icmp_eq (tgt := 794) hx hb dL_law_789 (by decide) (fun c1 => ?_) (fun c1 => absurd hth c1)
    refine lv_iload hx hb dL_law_794 (lv_at hl 1 rfl) ?_
    refine lv_if_ne (tgt := 818) hx hb dL_law_796 (by decide) (fun c2 => absurd rfl c2) (fun c2 => ?_)
    refine lv_aload_n hx hb dL_law_799 rfl (lv_at hl 5 rfl) ?_
    refine lv_iconst (v := 0) hx hb dL_law_800 rfl ?_
    refine k_ldout (v := (k_b2l r)) hE hL rfl hx hb dL_law_801 ?_
    refine lv_iload hx hb dL_law_802 (lv_at hl 0 rfl) ?_
    refine lv_if_eq (tgt := 811) hx hb dL_law_804 (by decide) (fun c4 => ?_) (fun c4 => ?_)
    · refine lv_lconst (v := 0) hx hb dL_law_811 rfl ?_
      refine W.lcmp hx hb dL_law_812 ?_
      refine lv_if_eq (tgt := 818) hx hb dL_law_813 (by decide) (fun c3 => ?_) (fun c3 => absurd ((lg_cmp_eq _ _).mpr (if_pos c4)) c3)
      refine lv_goto (tgt := 821) hx hb dL_law_818 (by decide) ?_
      exact J821 σK σM' (vp_updL ov 0 (k_b2l r)) H locs ls cells slots (lv_sub hl [2, 3, 4, 5, 6] rfl) hL (by omega) (by omega) hI
    · refine lv_lconst (v := 1) hx hb dL_law_807 rfl ?_
      refine lv_goto (tgt := 812) hx hb dL_law_808 (by decide) ?_
      refine W.lcmp hx hb dL_law_812 ?_
      refine lv_if_eq (tgt := 818) hx hb dL_law_813 (by decide) (fun c3 => ?_) (fun c3 => absurd ((lg_cmp_eq _ _).mpr (if_neg c4)) c3)
      refine lv_goto (tgt := 821) hx hb dL_law_818 (by decide) ?_
      exact J821 σK σM' (vp_updL ov 0 (k_b2l r)) H locs ls cells slots (lv_sub hl [2, 3, 4, 5, 6] rfl) hL (by omega) (by omega) hI
  · refine lv_aload_n hx hb dL_law_710 rfl (lv_at hl 1 rfl) ?_
    refine lv_aload_n hx hb dL_law_711 rfl (lv_at hl 0 rfl) ?_
    refine lv_iload hx hb dL_law_712 (lv_at hl 4 rfl) ?_
    refine lv_iconst (v := 1) hx hb dL_law_714 rfl ?_
    refine lv_iadd hx hb dL_law_715 ?_
    refine k_sld (v := xs (n + 1)) hX hbl hL hx hb (k_sin 1 rfl (by omega) (by omega)) (k_sval 1 rfl (by omega)) dL_law_716 ?_
    refine lv_aload_n hx hb dL_law_717 rfl (lv_at hl 0 rfl) ?_
    refine lv_iload hx hb dL_law_718 (lv_at hl 4 rfl) ?_
    refine lv_iconst (v := 2) hx hb dL_law_720 rfl ?_
    refine lv_iadd hx hb dL_law_721 ?_
    refine k_sld (v := xs (n + 2)) hX hbl hL hx hb (k_sin 2 rfl (by omega) (by omega)) (k_sval 2 rfl (by omega)) dL_law_722 ?_
    refine lv_aload_n hx hb dL_law_723 rfl (lv_at hl 0 rfl) ?_
    refine lv_iload hx hb dL_law_724 (lv_at hl 4 rfl) ?_
    refine lv_iconst (v := 3) hx hb dL_law_726 rfl ?_
    refine lv_iadd hx hb dL_law_727 ?_
    refine k_sld (v := xs (n + 3)) hX hbl hL hx hb (k_sin 3 rfl (by omega) (by omega)) (k_sval 3 rfl (by omega)) dL_law_728 ?_
    refine lv_aload_n hx hb dL_law_729 rfl (lv_at hl 0 rfl) ?_
    refine lv_iload hx hb dL_law_730 (lv_at hl 4 rfl) ?_
    refine lv_iconst (v := 4) hx hb dL_law_732 rfl ?_
    refine lv_iadd hx hb dL_law_733 ?_
    refine k_sld (v := xs (n + 4)) hX hbl hL hx hb (k_sin 4 rfl (by omega) (by omega)) (k_sval 4 rfl (by omega)) dL_law_734 ?_
    refine lv_aload_n hx hb dL_law_735 rfl (lv_at hl 0 rfl) ?_
    refine lv_iload hx hb dL_law_736 (lv_at hl 4 rfl) ?_
    refine lv_iconst (v := 5) hx hb dL_law_738 rfl ?_
    refine lv_iadd hx hb dL_law_739 ?_
    refine k_sld (v := xs (n + 5)) hX hbl hL hx hb (k_sin 5 rfl (by omega) (by omega)) (k_sval 5 rfl (by omega)) dL_law_740 ?_
    refine lv_aload_n hx hb dL_law_741 rfl (lv_at hl 3 rfl) ?_
    refine k_lcallT (k_runSW (n := 7) (As := [.ref (ad 0), .int (xs (n + 1)), .int (xs (n + 2)), .int (xs (n + 3)), .int (xs (n + 4)), .int (xs (n + 5)), .ref ao]) (rest := []) hcf (gL_solves_3 l hfl D cs ad ao N σK ov (xs (n + 1)) (xs (n + 2)) (xs (n + 3)) (xs (n + 4)) (xs (n + 5)) hf1) kc_667 (kw_51 htk) (kw_666 htk) (kw_665 htk) ⟨by decide, by decide, by decide +kernel⟩ rfl rfl ⟨Nat.le_of_ble_eq_true rfl, Nat.le_of_ble_eq_true rfl⟩ ⟨k_lblindH, k_lpreH hap hE hL⟩ rfl rfl hl.1 rfl (lv_room (Nat.le_of_ble_eq_true rfl)) dL_law_742 ⟨by show _ ≤ 623897; omega, by show _ ≤ 7224412; omega⟩) hL (fun H locs hL => ?_)
    refine lv_istore hx hb dL_law_745 hl (Nat.le_of_ble_eq_true rfl) rfl (fun ls (hl : lv_has ls 8 [(5, .int (1 : Int32)), (0, .ref b), (1, .ref (ad 0)), (2, .ref (am 0)), (3, .ref ao), (4, .int (nI n))]) => ?_)
    refine lv_aload_n hx hb dL_law_747 rfl (lv_at hl 3 rfl) ?_
    refine lv_aload_n hx hb dL_law_748 rfl (lv_at hl 1 rfl) ?_
    refine lv_iload hx hb dL_law_749 (lv_at hl 5 rfl) ?_
    refine lv_iconst (v := 1) hx hb dL_law_751 rfl ?_
    refine lv_iadd hx hb dL_law_752 ?_
    refine k_sld (v := xs (n + 1)) hX hbl hL hx hb (k_sin 1 rfl (by omega) (by omega)) (k_sval 1 rfl (by omega)) dL_law_753 ?_
    refine lv_aload_n hx hb dL_law_754 rfl (lv_at hl 1 rfl) ?_
    refine lv_iload hx hb dL_law_755 (lv_at hl 5 rfl) ?_
    refine lv_iconst (v := 2) hx hb dL_law_757 rfl ?_
    refine lv_iadd hx hb dL_law_758 ?_
    refine k_sld (v := xs (n + 2)) hX hbl hL hx hb (k_sin 2 rfl (by omega) (by omega)) (k_sval 2 rfl (by omega)) dL_law_759 ?_
    refine lv_aload_n hx hb dL_law_760 rfl (lv_at hl 1 rfl) ?_
    refine lv_iload hx hb dL_law_761 (lv_at hl 5 rfl) ?_
    refine lv_iconst (v := 3) hx hb dL_law_763 rfl ?_
    refine lv_iadd hx hb dL_law_764 ?_
    refine k_sld (v := xs (n + 3)) hX hbl hL hx hb (k_sin 3 rfl (by omega) (by omega)) (k_sval 3 rfl (by omega)) dL_law_765 ?_
    refine lv_aload_n hx hb dL_law_766 rfl (lv_at hl 1 rfl) ?_
    refine lv_iload hx hb dL_law_767 (lv_at hl 5 rfl) ?_
    refine lv_iconst (v := 4) hx hb dL_law_769 rfl ?_
    refine lv_iadd hx hb dL_law_770 ?_
    refine k_sld (v := xs (n + 4)) hX hbl hL hx hb (k_sin 4 rfl (by omega) (by omega)) (k_sval 4 rfl (by omega)) dL_law_771 ?_
    refine lv_aload_n hx hb dL_law_772 rfl (lv_at hl 1 rfl) ?_
    refine lv_iload hx hb dL_law_773 (lv_at hl 5 rfl) ?_
    refine lv_iconst (v := 5) hx hb dL_law_775 rfl ?_
    refine lv_iadd hx hb dL_law_776 ?_
    refine k_sld (v := xs (n + 5)) hX hbl hL hx hb (k_sin 5 rfl (by omega) (by omega)) (k_sval 5 rfl (by omega)) dL_law_777 ?_
    refine k_lcallM hap (va_runV (As := [.int (xs (n + 1)), .int (xs (n + 2)), .int (xs (n + 3)), .int (xs (n + 4)), .int (xs (n + 5))]) (rest := []) hcf (mX6_solves l D cs am N σM (xs (n + 1)) (xs (n + 2)) (xs (n + 3)) (xs (n + 4)) (xs (n + 5)) yb σM' hf2) (kcX6_solves htk (kw_958 htk) ⟨Nat.le_of_ble_eq_true rfl, Nat.le_of_ble_eq_true rfl⟩) ⟨k_blind, va_recv (ci := 6) (q0 := 0) (k_tM hE.1) hL.2.1 rfl rfl, k_lpreM hap hE hL⟩ rfl rfl hl.1 rfl (lv_room (Nat.le_of_ble_eq_true rfl)) dL_law_778 ⟨by show _ ≤ 623897; omega, by show _ ≤ 7224412; omega⟩) hL (fun H locs hL => ?_)
    refine lv_istore hx hb dL_law_781 hl (Nat.le_of_ble_eq_true rfl) rfl (fun ls (hl : lv_has ls 8 [(6, .int yb), (5, .int (1 : Int32)), (0, .ref b), (1, .ref (ad 0)), (2, .ref (am 0)), (3, .ref ao), (4, .int (nI n))]) => ?_)
    refine lv_aload_n hx hb dL_law_783 rfl (lv_at hl 4 rfl) ?_
    refine k_lcallP (va_runV (As := []) (rest := []) hcf (mX6_thrown l D cs am N σM' (σM'.1 0) rfl) (kcX6_thrown htk (kw_773 htk) ⟨Nat.le_of_ble_eq_true rfl, Nat.le_of_ble_eq_true rfl⟩) ⟨k_blind, va_recv (ci := 6) (q0 := 0) (k_tM hE.1) hL.2.1 rfl rfl, k_lpreM hap hE hL⟩ rfl rfl hl.1 rfl (lv_room (Nat.le_of_ble_eq_true rfl)) dL_law_784 ⟨by show _ ≤ 623897; omega, by show _ ≤ 7224412; omega⟩) ?_
    refine lv_iload hx hb dL_law_787 (lv_at hl 1 rfl) ?_
    refine lv_icmp_eq (tgt := 794) hx hb dL_law_789 (by decide) (fun c1 => ?_) (fun c1 => absurd hth c1)
    refine lv_iload hx hb dL_law_794 (lv_at hl 1 rfl) ?_
    refine lv_if_ne (tgt := 818) hx hb dL_law_796 (by decide) (fun c2 => ?_) (fun c2 => absurd c2 (by decide))
    refine lv_goto (tgt := 821) hx hb dL_law_818 (by decide) ?_
    exact J821 σK σM' ov H locs ls (cells + 1) (slots + 6) (lv_sub hl [2, 3, 4, 5, 6] rfl) hL (by omega) (by omega) hI
