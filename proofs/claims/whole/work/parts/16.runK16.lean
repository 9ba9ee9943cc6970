def jX3_readElement_79 (N : Nat) (σj79 : vS) (v4j79 : Int32) : Option (vS) :=
  if ((σj79.1 8) < 0 ∨ 4 ≤ ((σj79.1 8)).toNatClampNeg) then none else
  if (v4j79 < 0 ∨ 5 ≤ (v4j79).toNatClampNeg) then none else
  bd2 (fX3_readNumber N σj79) fun r6 σ6 =>
  if (v4j79 < 0 ∨ 5 ≤ (v4j79).toNatClampNeg) then none else
  some (p_b σ6 (1 + ((σj79.1 8)).toNatClampNeg) ((v4j79).toNatClampNeg) ((σj79.2.2.2 (1 + ((σj79.1 8)).toNatClampNeg) ((v4j79).toNatClampNeg)) + (r6).toInt64))
def jX3_readElement_38 (N : Nat) (σj38 : vS) (v3j38 : Int32) (v4j38 : Int32) : Option (vS) :=
  if (v4j38 = (-1 : Int32)) then (
    bd1 (fX3_meet N σj38 (-5 : Int32) (σj38.1 1)) fun σ9 =>
    some σ9
  ) else (
    if (v3j38 = 0) then (
      jX3_readElement_79 N (p_i σj38 1 ((σj38.1 1) + (1 : Int32))) v4j38
    ) else (
      jX3_readElement_79 N (p_i σj38 1 ((σj38.1 1) + (2 : Int32))) v4j38
    )
  )
def fX3_readElement (N : Nat) (σ : vS) (p1 : Int32) : Option (vS) :=
  bd1 (fX4_ahead N σ (1 : Int32)) fun r1 =>
  bd1 (fX5_isSmall N σ r1) fun r2 =>
  if (r2 = 0) then (
    bd2 (fX1_elementKind N σ p1) fun r3 σ3 =>
    jX3_readElement_38 N σ3 r2 r3
  ) else (
    bd2 (fX1_elementKind N σ (p1 + ((256 : Int32) * r1))) fun r11 σ11 =>
    jX3_readElement_38 N σ11 r2 r11
  )
abbrev rmX3_readElement : Room := { frames := 2, cells := 0, slots := 0, locals := 46 }
abbrev wsX3_readElement : List Cond := .code yX3_readElement cX3_readElement 5 none :: kws
theorem kcX3_readElement {R : Room} {s : State} {args : Array Value} {own : String} {index : Nat} (htk : ∀ w ∈ kws, w.before args s = true) (hl : (Cond.methodLink own index yX3_readElement).before args s = true) (hR : rmX3_readElement.frames + 1 ≤ R.frames ∧ 8 + (5 + 11) + rmX3_readElement.locals ≤ R.locals) : CallW R s args own RX3 index yX3_readElement cX3_readElement 5 none wsX3_readElement rmX3_readElement 0 0 1 :=
  ⟨callB_of 1 htk (k_good kc_313) rfl rfl rfl (kw_53 htk) hl (by decide +kernel) hR, (kw_312 htk), (kw_6 htk)⟩
set_option maxRecDepth 100000 in
set_option maxHeartbeats 4000000 in
theorem mX3_readElement (l : Launch) (D : va_G) (cs : Nat → ClassId) (ad : Nat → Nat) (N : Nat) (σ : vS) (p1 : Int32) (σ' : vS) (hf : fX3_readElement N σ p1 = some σ') : k_Met l yX3_readElement wsX3_readElement rmX3_readElement D (tK cs) (wK cs ad) (k_A 41 ad) [.ref (ad 1), .int p1] σ none σ' := by
  refine k_of (cc := cX3_readElement) (maxL := 5) (ret := none) (by decide) rfl (Nat.le_of_ble_eq_true rfl) ?_
  intro p e s m args below meth c ls H locs hcf hr hlk hK hZ hl hw
  generalize hQ0 : MQ below _ args s 0 0 _ = Q0
  obtain ⟨T0, hE0⟩ : ∃ T, T = fX3_readElement N σ p1 := ⟨_, rfl⟩
  have hR := hE0.trans hf
  have hN0 : T0 ≠ none := by rw [hR]; exact fun h => nomatch h
  have hx := hcf.1
  have hb := hcf.2.1
  have htk := hcf.2.2.2.2
  have hown := hcf.2.2.2.1
  unfold fX3_readElement at hE0
  replace hl : lv_has ls 5 [(0, .ref (ad 1)), (1, .int p1)] := hl
  have J79 : ∀ (v4j79 : Int32) (σj79 : vS) (H : Heap) (locs : List Loc) (ls : Array Slot), lv_has ls 5 [(0, .ref (ad 1)), (4, .int v4j79)] → k_H D (wK cs ad) (k_A 41 ad) σj79 s.heap H locs → T0 = jX3_readElement_79 N σj79 v4j79 → W p l e rmX3_readElement s m args below meth c H locs 0 0 Q0 (F0 m 79 ls []) := by
    intro v4j79 σj79 H locs ls hl hw hE0
    unfold jX3_readElement_79 at hE0
    refine lv_aload_n hx hb dX3_readElement_79 rfl (lv_at hl 0 rfl) ?_
    refine kg_X3_sums hcf hK (kw_158 htk) dX3_readElement_80 hw ?_
    refine lv_aload_n hx hb dX3_readElement_83 rfl (lv_at hl 0 rfl) ?_
    refine kg_X3_depth hcf hK (kw_160 htk) (x := (σj79.1 8)) dX3_readElement_84 hw rfl ?_
    obtain ⟨g4, hE0⟩ := gd_e hE0 hN0
    refine kaald_sums hcf hK dX3_readElement_87 rfl g4 hw ?_
    refine lv_iload hx hb dX3_readElement_88 (lv_at hl 1 rfl) ?_
    refine lv_dup2_11 hx hb dX3_readElement_90 rfl rfl ?_
    obtain ⟨g5, hE0⟩ := gd_e hE0 hN0
    refine kald_sums hcf hK (x := (σj79.2.2.2 (1 + ((σj79.1 8)).toNatClampNeg) ((v4j79).toNatClampNeg))) dX3_readElement_91 g4 g5 hw rfl ?_
    refine lv_aload_n hx hb dX3_readElement_92 rfl (lv_at hl 0 rfl) ?_
    obtain ⟨r6, σ6, k6, hE0⟩ := bd2_e hE0 hN0
    refine k_call (va_runV (As := []) (rest := [.long (σj79.2.2.2 (1 + ((σj79.1 8)).toNatClampNeg) ((v4j79).toNatClampNeg)), .int v4j79, .ref (ad (25 + (1 + ((σj79.1 8)).toNatClampNeg)))]) hcf (mX3_readNumber l D cs ad N σj79 r6 σ6 k6) (kcX3_readNumber htk (kw_296 htk) ⟨Nat.le_of_ble_eq_true rfl, Nat.le_of_ble_eq_true rfl⟩) ⟨k_blind, va_recv (ci := 3) (q0 := 1) hK hw.1 rfl rfl, k_pre hK hZ hw⟩ rfl rfl hl.1 rfl (lv_room (Nat.le_of_ble_eq_true rfl)) dX3_readElement_93 ⟨Nat.zero_le _, Nat.zero_le _⟩) hw (fun H locs hw => ?_)
    refine lv_i2l hx hb dX3_readElement_96 rfl ?_
    refine lv_ladd hx hb dX3_readElement_97 ?_
    obtain ⟨g7, hE0⟩ := gd_e hE0 hN0
    refine kast_sums hcf hK dX3_readElement_98 g4 g7 hw (fun H locs hw => ?_)
    exact kret_v hcf hr hlk hK hw (rt1 hR hE0) hQ0 dX3_readElement_99
  have J38 : ∀ (v3j38 : Int32) (v4j38 : Int32) (σj38 : vS) (H : Heap) (locs : List Loc) (ls : Array Slot), lv_has ls 5 [(0, .ref (ad 1)), (3, .int v3j38), (4, .int v4j38)] → k_H D (wK cs ad) (k_A 41 ad) σj38 s.heap H locs → T0 = jX3_readElement_38 N σj38 v3j38 v4j38 → W p l e rmX3_readElement s m args below meth c H locs 0 0 Q0 (F0 m 38 ls []) := by
    intro v3j38 v4j38 σj38 H locs ls hl hw hE0
    unfold jX3_readElement_38 at hE0
    refine lv_iload hx hb dX3_readElement_38 (lv_at hl 2 rfl) ?_
    refine lv_iconst (v := -1) hx hb dX3_readElement_40 rfl ?_
    refine lv_icmp_ne (tgt := 58) hx hb dX3_readElement_41 (by decide) (fun c10 => ?_) (fun c10 => ?_)
    · have hE0 := ite_f hE0 c10
      refine lv_aload_n hx hb dX3_readElement_58 rfl (lv_at hl 0 rfl) ?_
      refine kg_X3_text hcf hK (kw_150 htk) dX3_readElement_59 hw ?_
      refine lv_dup hx hb dX3_readElement_62 rfl ?_
      refine kg_X4_place hcf hK (kw_93 htk) (x := (σj38.1 1)) dX3_readElement_63 hw rfl ?_
      refine lv_iload_n hx hb dX3_readElement_66 rfl (lv_at hl 1 rfl) ?_
      refine lv_if_eq (tgt := 74) hx hb dX3_readElement_67 (by decide) (fun c8 => ?_) (fun c8 => ?_)
      · have hE0 := ite_t hE0 c8
        refine lv_iconst (v := 1) hx hb dX3_readElement_74 rfl ?_
        refine lv_iadd hx hb dX3_readElement_75 ?_
        refine kp_X4_place hcf hK (kw_93 htk) dX3_readElement_76 hw (fun H locs hw => ?_)
        exact J79 v4j38 (p_i σj38 1 ((σj38.1 1) + (1 : Int32))) H locs ls (lv_sub hl [0, 2] rfl) hw hE0
      · have hE0 := ite_f hE0 c8
        refine lv_iconst (v := 2) hx hb dX3_readElement_70 rfl ?_
        refine lv_goto (tgt := 75) hx hb dX3_readElement_71 (by decide) ?_
        refine lv_iadd hx hb dX3_readElement_75 ?_
        refine kp_X4_place hcf hK (kw_93 htk) dX3_readElement_76 hw (fun H locs hw => ?_)
        exact J79 v4j38 (p_i σj38 1 ((σj38.1 1) + (2 : Int32))) H locs ls (lv_sub hl [0, 2] rfl) hw hE0
    · have hE0 := ite_t hE0 c10
      refine lv_aload_n hx hb dX3_readElement_44 rfl (lv_at hl 0 rfl) ?_
      refine lv_bipush (v := -5) hx hb dX3_readElement_45 rfl ?_
      refine lv_aload_n hx hb dX3_readElement_47 rfl (lv_at hl 0 rfl) ?_
      refine kg_X3_text hcf hK (kw_150 htk) dX3_readElement_48 hw ?_
      refine kg_X4_place hcf hK (kw_93 htk) (x := (σj38.1 1)) dX3_readElement_51 hw rfl ?_
      obtain ⟨σ9, k9, hE0⟩ := bd1_e hE0 hN0
      refine k_call (va_runV (As := [.int (-5 : Int32), .int (σj38.1 1)]) (rest := []) hcf (mX3_meet l D cs ad N σj38 (-5 : Int32) (σj38.1 1) σ9 k9) (kcX3_meet htk (kw_272 htk) ⟨Nat.le_of_ble_eq_true rfl, Nat.le_of_ble_eq_true rfl⟩) ⟨k_blind, va_recv (ci := 3) (q0 := 1) hK hw.1 rfl rfl, k_pre hK hZ hw⟩ rfl rfl hl.1 rfl (lv_room (Nat.le_of_ble_eq_true rfl)) dX3_readElement_54 ⟨Nat.zero_le _, Nat.zero_le _⟩) hw (fun H locs hw => ?_)
      exact kret_v hcf hr hlk hK hw (rt1 hR hE0) hQ0 dX3_readElement_57
  refine lv_aload_n hx hb dX3_readElement_0 rfl (lv_at hl 0 rfl) ?_
  refine kg_X3_text hcf hK (kw_150 htk) dX3_readElement_1 hw ?_
  refine lv_iconst (v := 1) hx hb dX3_readElement_4 rfl ?_
  obtain ⟨r1, k1, hE0⟩ := bd1_e hE0 hN0
  refine k_callP (va_runV (As := [.int (1 : Int32)]) (rest := []) hcf (mX4_ahead l D cs ad N σ (1 : Int32) r1 k1) (kcX4_ahead htk (kw_284 htk) ⟨Nat.le_of_ble_eq_true rfl, Nat.le_of_ble_eq_true rfl⟩) ⟨k_blind, va_recv (ci := 4) (q0 := 4) hK hw.1 rfl rfl, k_pre hK hZ hw⟩ rfl rfl hl.1 rfl (lv_room (Nat.le_of_ble_eq_true rfl)) dX3_readElement_5 ⟨Nat.zero_le _, Nat.zero_le _⟩) ?_
  refine lv_istore_n hx hb dX3_readElement_8 rfl hl (Nat.le_of_ble_eq_true rfl) rfl (fun ls (hl : lv_has ls 5 [(2, .int r1), (0, .ref (ad 1)), (1, .int p1)]) => ?_)
  refine lv_iload_n hx hb dX3_readElement_9 rfl (lv_at hl 0 rfl) ?_
  obtain ⟨r2, k2, hE0⟩ := bd1_e hE0 hN0
  refine k_callP (va_runSN (As := [.int r1]) (rest := []) hcf (mX5_isSmall l D cs ad N σ r1 r2 k2) (kcX5_isSmall htk (kn_7 hZ) ⟨Nat.le_of_ble_eq_true rfl, Nat.le_of_ble_eq_true rfl⟩) ⟨k_blind, k_pre hK hZ hw⟩ rfl rfl hl.1 rfl (lv_room (Nat.le_of_ble_eq_true rfl)) dX3_readElement_10 ⟨Nat.zero_le _, Nat.zero_le _⟩) ?_
  refine lv_istore_n hx hb dX3_readElement_13 rfl hl (Nat.le_of_ble_eq_true rfl) rfl (fun ls (hl : lv_has ls 5 [(3, .int r2), (2, .int r1), (0, .ref (ad 1)), (1, .int p1)]) => ?_)
  refine lv_aload_n hx hb dX3_readElement_14 rfl (lv_at hl 2 rfl) ?_
  refine kg_X3_equation hcf hK (kw_152 htk) dX3_readElement_15 hw ?_
  refine lv_iload_n hx hb dX3_readElement_18 rfl (lv_at hl 0 rfl) ?_
  refine lv_if_eq (tgt := 32) hx hb dX3_readElement_19 (by decide) (fun c12 => ?_) (fun c12 => ?_)
  · have hE0 := ite_t hE0 c12
    refine lv_iload_n hx hb dX3_readElement_32 rfl (lv_at hl 3 rfl) ?_
    obtain ⟨r3, σ3, k3, hE0⟩ := bd2_e hE0 hN0
    refine k_call (va_runV (As := [.int p1]) (rest := []) hcf (mX1_elementKind l D cs ad N σ p1 r3 σ3 k3) (kcX1_elementKind htk (kw_317 htk) ⟨Nat.le_of_ble_eq_true rfl, Nat.le_of_ble_eq_true rfl⟩) ⟨k_blind, va_recv (ci := 1) (q0 := 5) hK hw.1 rfl rfl, k_pre hK hZ hw⟩ rfl rfl hl.1 rfl (lv_room (Nat.le_of_ble_eq_true rfl)) dX3_readElement_33 ⟨Nat.zero_le _, Nat.zero_le _⟩) hw (fun H locs hw => ?_)
    refine lv_istore hx hb dX3_readElement_36 hl (Nat.le_of_ble_eq_true rfl) rfl (fun ls (hl : lv_has ls 5 [(4, .int r3), (3, .int r2), (2, .int r1), (0, .ref (ad 1)), (1, .int p1)]) => ?_)
    exact J38 r2 r3 σ3 H locs ls (lv_sub hl [3, 1, 0] rfl) hw hE0
  · have hE0 := ite_f hE0 c12
    refine lv_iload_n hx hb dX3_readElement_22 rfl (lv_at hl 3 rfl) ?_
    refine lv_sipush (v := 256) hx hb dX3_readElement_23 rfl ?_
    refine lv_iload_n hx hb dX3_readElement_26 rfl (lv_at hl 1 rfl) ?_
    refine lv_imul hx hb dX3_readElement_27 ?_
    refine lv_iadd hx hb dX3_readElement_28 ?_
    refine lv_goto (tgt := 33) hx hb dX3_readElement_29 (by decide) ?_
    obtain ⟨r11, σ11, k11, hE0⟩ := bd2_e hE0 hN0
    refine k_call (va_runV (As := [.int (p1 + ((256 : Int32) * r1))]) (rest := []) hcf (mX1_elementKind l D cs ad N σ (p1 + ((256 : Int32) * r1)) r11 σ11 k11) (kcX1_elementKind htk (kw_317 htk) ⟨Nat.le_of_ble_eq_true rfl, Nat.le_of_ble_eq_true rfl⟩) ⟨k_blind, va_recv (ci := 1) (q0 := 5) hK hw.1 rfl rfl, k_pre hK hZ hw⟩ rfl rfl hl.1 rfl (lv_room (Nat.le_of_ble_eq_true rfl)) dX3_readElement_33 ⟨Nat.zero_le _, Nat.zero_le _⟩) hw (fun H locs hw => ?_)
    refine lv_istore hx hb dX3_readElement_36 hl (Nat.le_of_ble_eq_true rfl) rfl (fun ls (hl : lv_has ls 5 [(4, .int r11), (3, .int r2), (2, .int r1), (0, .ref (ad 1)), (1, .int p1)]) => ?_)
    exact J38 r2 r11 σ11 H locs ls (lv_sub hl [3, 1, 0] rfl) hw hE0
def jX3_openGroup_54 (N : Nat) (σj54 : vS) : Option (vS) :=
  if ((σj54.1 8) < 0 ∨ 4 ≤ ((σj54.1 8)).toNatClampNeg) then none else
  bd1 (fJ0_fill N σj54 (1 + ((σj54.1 8)).toNatClampNeg) (0 : Int64)) fun σ3 =>
  some (p_i σ3 1 ((σ3.1 1) + (1 : Int32)))
def fX3_openGroup (N : Nat) (σ : vS) (p1 : Int32) : Option (vS) :=
  if ((σ.1 8) < (3 : Int32)) then (
    if (p1 = (40 : Int32)) then (
      if (((σ.1 8) + (1 : Int32)) < 0 ∨ 4 ≤ (((σ.1 8) + (1 : Int32))).toNatClampNeg) then none else
      jX3_openGroup_54 N (p_a (p_i σ 8 ((σ.1 8) + (1 : Int32))) 5 ((((σ.1 8) + (1 : Int32))).toNatClampNeg) (vp_nar .char (41 : Int32)))
    ) else (
      if (((σ.1 8) + (1 : Int32)) < 0 ∨ 4 ≤ (((σ.1 8) + (1 : Int32))).toNatClampNeg) then none else
      jX3_openGroup_54 N (p_a (p_i σ 8 ((σ.1 8) + (1 : Int32))) 5 ((((σ.1 8) + (1 : Int32))).toNatClampNeg) (vp_nar .char (93 : Int32)))
    )
  ) else (
    bd1 (fX3_meet N σ (-4 : Int32) (σ.1 1)) fun σ6 =>
    some σ6
  )
abbrev rmX3_openGroup : Room := { frames := 1, cells := 0, slots := 0, locals := 24 }
abbrev wsX3_openGroup : List Cond := .code yX3_openGroup cX3_openGroup 2 none :: kws
theorem kcX3_openGroup {R : Room} {s : State} {args : Array Value} {own : String} {index : Nat} (htk : ∀ w ∈ kws, w.before args s = true) (hl : (Cond.methodLink own index yX3_openGroup).before args s = true) (hR : rmX3_openGroup.frames + 1 ≤ R.frames ∧ 8 + (2 + 11) + rmX3_openGroup.locals ≤ R.locals) : CallW R s args own RX3 index yX3_openGroup cX3_openGroup 2 none wsX3_openGroup rmX3_openGroup 0 0 1 :=
  ⟨callB_of 1 htk (k_good kc_328) rfl rfl rfl (kw_53 htk) hl (by decide +kernel) hR, (kw_327 htk), (kw_7 htk)⟩
set_option maxRecDepth 100000 in
set_option maxHeartbeats 4000000 in
theorem mX3_openGroup (l : Launch) (D : va_G) (cs : Nat → ClassId) (ad : Nat → Nat) (N : Nat) (σ : vS) (p1 : Int32) (σ' : vS) (hf : fX3_openGroup N σ p1 = some σ') : k_Met l yX3_openGroup wsX3_openGroup rmX3_openGroup D (tK cs) (wK cs ad) (k_A 41 ad) [.ref (ad 1), .int p1] σ none σ' := by
  refine k_of (cc := cX3_openGroup) (maxL := 2) (ret := none) (by decide) rfl (Nat.le_of_ble_eq_true rfl) ?_
  intro p e s m args below meth c ls H locs hcf hr hlk hK hZ hl hw
  generalize hQ0 : MQ below _ args s 0 0 _ = Q0
  obtain ⟨T0, hE0⟩ : ∃ T, T = fX3_openGroup N σ p1 := ⟨_, rfl⟩
  have hR := hE0.trans hf
  have hN0 : T0 ≠ none := by rw [hR]; exact fun h => nomatch h
  have hx := hcf.1
  have hb := hcf.2.1
  have htk := hcf.2.2.2.2
  have hown := hcf.2.2.2.1
  unfold fX3_openGroup at hE0
  replace hl : lv_has ls 2 [(0, .ref (ad 1)), (1, .int p1)] := hl
  have J54 : ∀ (σj54 : vS) (H : Heap) (locs : List Loc) (ls : Array Slot), lv_has ls 2 [(0, .ref (ad 1))] → k_H D (wK cs ad) (k_A 41 ad) σj54 s.heap H locs → T0 = jX3_openGroup_54 N σj54 → W p l e rmX3_openGroup s m args below meth c H locs 0 0 Q0 (F0 m 54 ls []) := by
    intro σj54 H locs ls hl hw hE0
    unfold jX3_openGroup_54 at hE0
    refine lv_aload_n hx hb dX3_openGroup_54 rfl (lv_at hl 0 rfl) ?_
    refine kg_X3_sums hcf hK (kw_158 htk) dX3_openGroup_55 hw ?_
    refine lv_aload_n hx hb dX3_openGroup_58 rfl (lv_at hl 0 rfl) ?_
    refine kg_X3_depth hcf hK (kw_160 htk) (x := (σj54.1 8)) dX3_openGroup_59 hw rfl ?_
    obtain ⟨g2, hE0⟩ := gd_e hE0 hN0
    refine kaald_sums hcf hK dX3_openGroup_62 rfl g2 hw ?_
    refine lv_lconst (v := 0) hx hb dX3_openGroup_63 rfl ?_
    obtain ⟨σ3, k3, hE0⟩ := bd1_e hE0 hN0
    refine k_call (va_runS (As := [.ref (ad (25 + (1 + ((σj54.1 8)).toNatClampNeg))), .long (0 : Int64)]) (rest := []) hcf (mJ0_fill l D cs ad N σj54 (1 + ((σj54.1 8)).toNatClampNeg) (0 : Int64) σ3 k3 (rng_sums g2)) (kcJ0_fill htk (kw_269 htk) ⟨Nat.le_of_ble_eq_true rfl, Nat.le_of_ble_eq_true rfl⟩) ⟨k_blind, k_pre hK hZ hw⟩ rfl rfl hl.1 rfl (lv_room (Nat.le_of_ble_eq_true rfl)) dX3_openGroup_64 ⟨Nat.zero_le _, Nat.zero_le _⟩) hw (fun H locs hw => ?_)
    refine lv_aload_n hx hb dX3_openGroup_67 rfl (lv_at hl 0 rfl) ?_
    refine kg_X3_text hcf hK (kw_150 htk) dX3_openGroup_68 hw ?_
    refine lv_dup hx hb dX3_openGroup_71 rfl ?_
    refine kg_X4_place hcf hK (kw_93 htk) (x := (σ3.1 1)) dX3_openGroup_72 hw rfl ?_
    refine lv_iconst (v := 1) hx hb dX3_openGroup_75 rfl ?_
    refine lv_iadd hx hb dX3_openGroup_76 ?_
    refine kp_X4_place hcf hK (kw_93 htk) dX3_openGroup_77 hw (fun H locs hw => ?_)
    exact kret_v hcf hr hlk hK hw (rt1 hR hE0) hQ0 dX3_openGroup_80
  refine lv_aload_n hx hb dX3_openGroup_0 rfl (lv_at hl 0 rfl) ?_
  refine kg_X3_depth hcf hK (kw_160 htk) (x := (σ.1 8)) dX3_openGroup_1 hw rfl ?_
  refine lv_iconst (v := 3) hx hb dX3_openGroup_4 rfl ?_
  refine lv_icmp_lt (tgt := 22) hx hb dX3_openGroup_5 (by decide) (fun c7 => ?_) (fun c7 => ?_)
  · have hE0 := ite_t hE0 c7
    refine lv_aload_n hx hb dX3_openGroup_22 rfl (lv_at hl 0 rfl) ?_
    refine lv_dup hx hb dX3_openGroup_23 rfl ?_
    refine kg_X3_depth hcf hK (kw_160 htk) (x := (σ.1 8)) dX3_openGroup_24 hw rfl ?_
    refine lv_iconst (v := 1) hx hb dX3_openGroup_27 rfl ?_
    refine lv_iadd hx hb dX3_openGroup_28 ?_
    refine kp_X3_depth hcf hK (kw_160 htk) dX3_openGroup_29 hw (fun H locs hw => ?_)
    refine lv_aload_n hx hb dX3_openGroup_32 rfl (lv_at hl 0 rfl) ?_
    refine kg_X3_closings hcf hK (kw_159 htk) dX3_openGroup_33 hw ?_
    refine lv_aload_n hx hb dX3_openGroup_36 rfl (lv_at hl 0 rfl) ?_
    refine kg_X3_depth hcf hK (kw_160 htk) (x := ((σ.1 8) + (1 : Int32))) dX3_openGroup_37 hw rfl ?_
    refine lv_iload_n hx hb dX3_openGroup_40 rfl (lv_at hl 1 rfl) ?_
    refine lv_bipush (v := 40) hx hb dX3_openGroup_41 rfl ?_
    refine lv_icmp_ne (tgt := 51) hx hb dX3_openGroup_43 (by decide) (fun c5 => ?_) (fun c5 => ?_)
    · have hE0 := ite_f hE0 c5
      refine lv_bipush (v := 93) hx hb dX3_openGroup_51 rfl ?_
      obtain ⟨g1, hE0⟩ := gd_e hE0 hN0
      refine kast_A5 hcf hK dX3_openGroup_53 g1 hw (fun H locs hw => ?_)
      exact J54 (p_a (p_i σ 8 ((σ.1 8) + (1 : Int32))) 5 ((((σ.1 8) + (1 : Int32))).toNatClampNeg) (vp_nar .char (93 : Int32))) H locs ls (lv_sub hl [0] rfl) hw hE0
    · have hE0 := ite_t hE0 c5
      refine lv_bipush (v := 41) hx hb dX3_openGroup_46 rfl ?_
      refine lv_goto (tgt := 53) hx hb dX3_openGroup_48 (by decide) ?_
      obtain ⟨g4, hE0⟩ := gd_e hE0 hN0
      refine kast_A5 hcf hK dX3_openGroup_53 g4 hw (fun H locs hw => ?_)
      exact J54 (p_a (p_i σ 8 ((σ.1 8) + (1 : Int32))) 5 ((((σ.1 8) + (1 : Int32))).toNatClampNeg) (vp_nar .char (41 : Int32))) H locs ls (lv_sub hl [0] rfl) hw hE0
  · have hE0 := ite_f hE0 c7
    refine lv_aload_n hx hb dX3_openGroup_8 rfl (lv_at hl 0 rfl) ?_
    refine lv_bipush (v := -4) hx hb dX3_openGroup_9 rfl ?_
    refine lv_aload_n hx hb dX3_openGroup_11 rfl (lv_at hl 0 rfl) ?_
    refine kg_X3_text hcf hK (kw_150 htk) dX3_openGroup_12 hw ?_
    refine kg_X4_place hcf hK (kw_93 htk) (x := (σ.1 1)) dX3_openGroup_15 hw rfl ?_
    obtain ⟨σ6, k6, hE0⟩ := bd1_e hE0 hN0
    refine k_call (va_runV (As := [.int (-4 : Int32), .int (σ.1 1)]) (rest := []) hcf (mX3_meet l D cs ad N σ (-4 : Int32) (σ.1 1) σ6 k6) (kcX3_meet htk (kw_272 htk) ⟨Nat.le_of_ble_eq_true rfl, Nat.le_of_ble_eq_true rfl⟩) ⟨k_blind, va_recv (ci := 3) (q0 := 1) hK hw.1 rfl rfl, k_pre hK hZ hw⟩ rfl rfl hl.1 rfl (lv_room (Nat.le_of_ble_eq_true rfl)) dX3_openGroup_18 ⟨Nat.zero_le _, Nat.zero_le _⟩) hw (fun H locs hw => ?_)
    exact kret_v hcf hr hlk hK hw (rt1 hR hE0) hQ0 dX3_openGroup_21
def jX3_addTimes_25 (N : Nat) (b0 : Nat) (b1 : Nat) (σj25 : vS) : Option (vS) :=
  some σj25
def bX3_addTimes_2 (N : Nat) (b0 : Nat) (b1 : Nat) (p2 : Int32) (v3h2 : Int32) (σh2 : vS) : Option ((Int32 × vS) ⊕ (vS)) :=
  if ((5 : Int32) ≤ v3h2) then (
    some (.inr σh2)
  ) else (
    if (v3h2 < 0 ∨ (k_len b0) ≤ (v3h2).toNatClampNeg) then none else
    if (v3h2 < 0 ∨ (k_len b1) ≤ (v3h2).toNatClampNeg) then none else
    if (v3h2 < 0 ∨ (k_len b0) ≤ (v3h2).toNatClampNeg) then none else
    k_lt (v3h2 + (1 : Int32)) fun x4 =>
    some (.inl (x4, (p_b σh2 b0 ((v3h2).toNatClampNeg) ((σh2.2.2.2 b0 ((v3h2).toNatClampNeg)) + ((p2).toInt64 * (σh2.2.2.2 b1 ((v3h2).toNatClampNeg)))))))
  )
def fX3_addTimes (N : Nat) (σ : vS) (b0 : Nat) (b1 : Nat) (p2 : Int32) : Option (vS) :=
  bd1 (k_itr (fun zz => bX3_addTimes_2 N b0 b1 p2 zz.1 zz.2) N ((0 : Int32), σ)) fun q => jX3_addTimes_25 N b0 b1 q
abbrev rmX3_addTimes : Room := { frames := 0, cells := 0, slots := 0, locals := 0 }
abbrev wsX3_addTimes : List Cond := .code yX3_addTimes cX3_addTimes 4 none :: kws
theorem kcX3_addTimes {R : Room} {s : State} {args : Array Value} {own : String} {index : Nat} (htk : ∀ w ∈ kws, w.before args s = true) (hl : (Cond.methodLink own index yX3_addTimes).before args s = true) (hR : rmX3_addTimes.frames + 1 ≤ R.frames ∧ 8 + (4 + 11) + rmX3_addTimes.locals ≤ R.locals) : CallB R s args own index yX3_addTimes cX3_addTimes 4 none wsX3_addTimes rmX3_addTimes 0 0 3 ∧ (Cond.static yX3_addTimes).before args s = true :=
  ⟨callB_of 3 htk (k_good kc_335) rfl rfl rfl (kw_53 htk) hl (by decide +kernel) hR, (kw_334 htk)⟩
set_option maxRecDepth 100000 in
set_option maxHeartbeats 4000000 in
theorem mX3_addTimes (l : Launch) (D : va_G) (cs : Nat → ClassId) (ad : Nat → Nat) (N : Nat) (σ : vS) (b0 : Nat) (b1 : Nat) (p2 : Int32) (σ' : vS) (hf : fX3_addTimes N σ b0 b1 p2 = some σ') (h_b0 : b0 < 16) (h_b1 : b1 < 16) : k_Met l yX3_addTimes wsX3_addTimes rmX3_addTimes D (tK cs) (wK cs ad) (k_A 41 ad) [.ref (ad (25 + b0)), .ref (ad (25 + b1)), .int p2] σ none σ' := by
  refine k_of (cc := cX3_addTimes) (maxL := 4) (ret := none) (by decide) rfl (Nat.le_of_ble_eq_true rfl) ?_
  intro p e s m args below meth c ls H locs hcf hr hlk hK hZ hl hw
  generalize hQ0 : MQ below _ args s 0 0 _ = Q0
  obtain ⟨T0, hE0⟩ : ∃ T, T = fX3_addTimes N σ b0 b1 p2 := ⟨_, rfl⟩
  have hR := hE0.trans hf
  have hN0 : T0 ≠ none := by rw [hR]; exact fun h => nomatch h
  have hx := hcf.1
  have hb := hcf.2.1
  have htk := hcf.2.2.2.2
  have hown := hcf.2.2.2.1
  unfold fX3_addTimes at hE0
  replace hl : lv_has ls 4 [(0, .ref (ad (25 + b0))), (1, .ref (ad (25 + b1))), (2, .int p2)] := hl
  have J25 : ∀ (σj25 : vS) (H : Heap) (locs : List Loc) (ls : Array Slot), lv_has ls 4 [] → k_H D (wK cs ad) (k_A 41 ad) σj25 s.heap H locs → T0 = jX3_addTimes_25 N b0 b1 σj25 → W p l e rmX3_addTimes s m args below meth c H locs 0 0 Q0 (F0 m 25 ls []) := by
    intro σj25 H locs ls hl hw hE0
    unfold jX3_addTimes_25 at hE0
    exact kret_v hcf hr hlk hK hw (rt1 hR hE0) hQ0 dX3_addTimes_25
  refine lv_iconst (v := 0) hx hb dX3_addTimes_0 rfl ?_
  refine lv_istore_n hx hb dX3_addTimes_1 rfl hl (Nat.le_of_ble_eq_true rfl) rfl (fun ls (hl : lv_has ls 4 [(3, .int (0 : Int32)), (0, .ref (ad (25 + b0))), (1, .ref (ad (25 + b1))), (2, .int p2)]) => ?_)
  obtain ⟨q, hq, hE0⟩ := bd1_e hE0 hN0
  refine k_ind (P := fun zz => ∀ (H : Heap) (locs : List Loc) (ls : Array Slot), lv_has ls 4 [(0, .ref (ad (25 + b0))), (1, .ref (ad (25 + b1))), (2, .int p2), (3, .int zz.1)] → k_H D (wK cs ad) (k_A 41 ad) zz.2 s.heap H locs → W p l e rmX3_addTimes s m args below meth c H locs 0 0 Q0 (F0 m 2 ls [])) ?_ N _ hq H locs ls (lv_sub hl [1, 2, 3, 0] rfl) hw
  intro sX T1 hE1 hN1 hC1 hX1
  obtain ⟨v3h2, σh2⟩ := sX
  replace hE1 : T1 = bX3_addTimes_2 N b0 b1 p2 v3h2 σh2 := hE1
  unfold bX3_addTimes_2 at hE1
  intro H locs ls hl hw
  replace hl : lv_has ls 4 [(0, .ref (ad (25 + b0))), (1, .ref (ad (25 + b1))), (2, .int p2), (3, .int v3h2)] := hl
  replace hw : k_H D (wK cs ad) (k_A 41 ad) σh2 s.heap H locs := hw
  refine lv_iload_n hx hb dX3_addTimes_2 rfl (lv_at hl 3 rfl) ?_
  refine lv_iconst (v := 5) hx hb dX3_addTimes_3 rfl ?_
  refine lv_icmp_ge (tgt := 25) hx hb dX3_addTimes_4 (by decide) (fun c5 => ?_) (fun c5 => ?_)
  · have hE1 := ite_t hE1 c5
    have hq := hX1 _ hE1
    subst hq
    exact J25 σh2 H locs ls (lv_sub hl [] rfl) hw hE0
  · have hE1 := ite_f hE1 c5
    refine lv_aload_n hx hb dX3_addTimes_7 rfl (lv_at hl 0 rfl) ?_
    refine lv_iload_n hx hb dX3_addTimes_8 rfl (lv_at hl 3 rfl) ?_
    refine lv_dup2_11 hx hb dX3_addTimes_9 rfl rfl ?_
    obtain ⟨g1, hE1⟩ := gd_e hE1 hN1
    refine kald_B hcf hK (x := (σh2.2.2.2 b0 ((v3h2).toNatClampNeg))) dX3_addTimes_10 h_b0 g1 hw rfl ?_
    refine lv_iload_n hx hb dX3_addTimes_11 rfl (lv_at hl 2 rfl) ?_
    refine lv_i2l hx hb dX3_addTimes_12 rfl ?_
    refine lv_aload_n hx hb dX3_addTimes_13 rfl (lv_at hl 1 rfl) ?_
    refine lv_iload_n hx hb dX3_addTimes_14 rfl (lv_at hl 3 rfl) ?_
    obtain ⟨g2, hE1⟩ := gd_e hE1 hN1
    refine kald_B hcf hK (x := (σh2.2.2.2 b1 ((v3h2).toNatClampNeg))) dX3_addTimes_15 h_b1 g2 hw rfl ?_
    refine lv_lmul hx hb dX3_addTimes_16 ?_
    refine lv_ladd hx hb dX3_addTimes_17 ?_
    obtain ⟨g3, hE1⟩ := gd_e hE1 hN1
    refine kast_B hcf hK dX3_addTimes_18 h_b0 g3 hw (fun H locs hw => ?_)
    obtain ⟨x4, e_x4, hE1⟩ := k_lte hE1
    refine lv_iinc (k := 3) (v := x4) hx hb dX3_addTimes_19 hl rfl (Eq.symm e_x4) (Nat.le_of_ble_eq_true rfl) rfl (fun ls (hl : lv_has ls 4 [(3, .int x4), (0, .ref (ad (25 + b0))), (1, .ref (ad (25 + b1))), (2, .int p2)]) => ?_)
    refine lv_goto (tgt := 2) hx hb dX3_addTimes_22 (by decide) ?_
    exact hC1 _ hE1 H locs ls (lv_sub hl [1, 2, 3, 0] rfl) hw
def fX3_closeGroup (N : Nat) (σ : vS) : Option (vS) :=
  bd2 (fX3_readNumber N (p_i σ 1 ((σ.1 1) + (1 : Int32)))) fun r1 σ1 =>
  if (((σ1.1 8) - (1 : Int32)) < 0 ∨ 4 ≤ (((σ1.1 8) - (1 : Int32))).toNatClampNeg) then none else
  if ((((σ1.1 8) - (1 : Int32)) + (1 : Int32)) < 0 ∨ 4 ≤ ((((σ1.1 8) - (1 : Int32)) + (1 : Int32))).toNatClampNeg) then none else
  bd1 (fX3_addTimes N (p_i σ1 8 ((σ1.1 8) - (1 : Int32))) (1 + (((σ1.1 8) - (1 : Int32))).toNatClampNeg) (1 + ((((σ1.1 8) - (1 : Int32)) + (1 : Int32))).toNatClampNeg) r1) fun σ4 =>
  some σ4
abbrev rmX3_closeGroup : Room := { frames := 2, cells := 0, slots := 0, locals := 46 }
abbrev wsX3_closeGroup : List Cond := .code yX3_closeGroup cX3_closeGroup 2 none :: kws
theorem kcX3_closeGroup {R : Room} {s : State} {args : Array Value} {own : String} {index : Nat} (htk : ∀ w ∈ kws, w.before args s = true) (hl : (Cond.methodLink own index yX3_closeGroup).before args s = true) (hR : rmX3_closeGroup.frames + 1 ≤ R.frames ∧ 8 + (2 + 11) + rmX3_closeGroup.locals ≤ R.locals) : CallW R s args own RX3 index yX3_closeGroup cX3_closeGroup 2 none wsX3_closeGroup rmX3_closeGroup 0 0 0 :=
  ⟨callB_of 0 htk (k_good kc_332) rfl rfl rfl (kw_53 htk) hl (by decide +kernel) hR, (kw_331 htk), (kw_8 htk)⟩
set_option maxRecDepth 100000 in
set_option maxHeartbeats 4000000 in
theorem mX3_closeGroup (l : Launch) (D : va_G) (cs : Nat → ClassId) (ad : Nat → Nat) (N : Nat) (σ : vS) (σ' : vS) (hf : fX3_closeGroup N σ = some σ') : k_Met l yX3_closeGroup wsX3_closeGroup rmX3_closeGroup D (tK cs) (wK cs ad) (k_A 41 ad) [.ref (ad 1)] σ none σ' := by
  refine k_of (cc := cX3_closeGroup) (maxL := 2) (ret := none) (by decide) rfl (Nat.le_of_ble_eq_true rfl) ?_
  intro p e s m args below meth c ls H locs hcf hr hlk hK hZ hl hw
  generalize hQ0 : MQ below _ args s 0 0 _ = Q0
  obtain ⟨T0, hE0⟩ : ∃ T, T = fX3_closeGroup N σ := ⟨_, rfl⟩
  have hR := hE0.trans hf
  have hN0 : T0 ≠ none := by rw [hR]; exact fun h => nomatch h
  have hx := hcf.1
  have hb := hcf.2.1
  have htk := hcf.2.2.2.2
  have hown := hcf.2.2.2.1
  unfold fX3_closeGroup at hE0
  replace hl : lv_has ls 2 [(0, .ref (ad 1))] := hl
  refine lv_aload_n hx hb dX3_closeGroup_0 rfl (lv_at hl 0 rfl) ?_
  refine kg_X3_text hcf hK (kw_150 htk) dX3_closeGroup_1 hw ?_
  refine lv_dup hx hb dX3_closeGroup_4 rfl ?_
  refine kg_X4_place hcf hK (kw_93 htk) (x := (σ.1 1)) dX3_closeGroup_5 hw rfl ?_
  refine lv_iconst (v := 1) hx hb dX3_closeGroup_8 rfl ?_
  refine lv_iadd hx hb dX3_closeGroup_9 ?_
  refine kp_X4_place hcf hK (kw_93 htk) dX3_closeGroup_10 hw (fun H locs hw => ?_)
  refine lv_aload_n hx hb dX3_closeGroup_13 rfl (lv_at hl 0 rfl) ?_
  obtain ⟨r1, σ1, k1, hE0⟩ := bd2_e hE0 hN0
  refine k_call (va_runV (As := []) (rest := []) hcf (mX3_readNumber l D cs ad N (p_i σ 1 ((σ.1 1) + (1 : Int32))) r1 σ1 k1) (kcX3_readNumber htk (kw_296 htk) ⟨Nat.le_of_ble_eq_true rfl, Nat.le_of_ble_eq_true rfl⟩) ⟨k_blind, va_recv (ci := 3) (q0 := 1) hK hw.1 rfl rfl, k_pre hK hZ hw⟩ rfl rfl hl.1 rfl (lv_room (Nat.le_of_ble_eq_true rfl)) dX3_closeGroup_14 ⟨Nat.zero_le _, Nat.zero_le _⟩) hw (fun H locs hw => ?_)
  refine lv_istore_n hx hb dX3_closeGroup_17 rfl hl (Nat.le_of_ble_eq_true rfl) rfl (fun ls (hl : lv_has ls 2 [(1, .int r1), (0, .ref (ad 1))]) => ?_)
  refine lv_aload_n hx hb dX3_closeGroup_18 rfl (lv_at hl 1 rfl) ?_
  refine lv_dup hx hb dX3_closeGroup_19 rfl ?_
  refine kg_X3_depth hcf hK (kw_160 htk) (x := (σ1.1 8)) dX3_closeGroup_20 hw rfl ?_
  refine lv_iconst (v := 1) hx hb dX3_closeGroup_23 rfl ?_
  refine lv_isub hx hb dX3_closeGroup_24 ?_
  refine kp_X3_depth hcf hK (kw_160 htk) dX3_closeGroup_25 hw (fun H locs hw => ?_)
  refine lv_aload_n hx hb dX3_closeGroup_28 rfl (lv_at hl 1 rfl) ?_
  refine kg_X3_sums hcf hK (kw_158 htk) dX3_closeGroup_29 hw ?_
  refine lv_aload_n hx hb dX3_closeGroup_32 rfl (lv_at hl 1 rfl) ?_
  refine kg_X3_depth hcf hK (kw_160 htk) (x := ((σ1.1 8) - (1 : Int32))) dX3_closeGroup_33 hw rfl ?_
  obtain ⟨g2, hE0⟩ := gd_e hE0 hN0
  refine kaald_sums hcf hK dX3_closeGroup_36 rfl g2 hw ?_
  refine lv_aload_n hx hb dX3_closeGroup_37 rfl (lv_at hl 1 rfl) ?_
  refine kg_X3_sums hcf hK (kw_158 htk) dX3_closeGroup_38 hw ?_
  refine lv_aload_n hx hb dX3_closeGroup_41 rfl (lv_at hl 1 rfl) ?_
  refine kg_X3_depth hcf hK (kw_160 htk) (x := ((σ1.1 8) - (1 : Int32))) dX3_closeGroup_42 hw rfl ?_
  refine lv_iconst (v := 1) hx hb dX3_closeGroup_45 rfl ?_
  refine lv_iadd hx hb dX3_closeGroup_46 ?_
  obtain ⟨g3, hE0⟩ := gd_e hE0 hN0
  refine kaald_sums hcf hK dX3_closeGroup_47 rfl g3 hw ?_
  refine lv_iload_n hx hb dX3_closeGroup_48 rfl (lv_at hl 0 rfl) ?_
  obtain ⟨σ4, k4, hE0⟩ := bd1_e hE0 hN0
  refine k_call (va_runS (As := [.ref (ad (25 + (1 + (((σ1.1 8) - (1 : Int32))).toNatClampNeg))), .ref (ad (25 + (1 + ((((σ1.1 8) - (1 : Int32)) + (1 : Int32))).toNatClampNeg))), .int r1]) (rest := []) hcf (mX3_addTimes l D cs ad N (p_i σ1 8 ((σ1.1 8) - (1 : Int32))) (1 + (((σ1.1 8) - (1 : Int32))).toNatClampNeg) (1 + ((((σ1.1 8) - (1 : Int32)) + (1 : Int32))).toNatClampNeg) r1 σ4 k4 (rng_sums g2) (rng_sums g3)) (kcX3_addTimes htk (kw_333 htk) ⟨Nat.le_of_ble_eq_true rfl, Nat.le_of_ble_eq_true rfl⟩) ⟨k_blind, k_pre hK hZ hw⟩ rfl rfl hl.1 rfl (lv_room (Nat.le_of_ble_eq_true rfl)) dX3_closeGroup_49 ⟨Nat.zero_le _, Nat.zero_le _⟩) hw (fun H locs hw => ?_)
  exact kret_v hcf hr hlk hK hw (rt1 hR hE0) hQ0 dX3_closeGroup_52
def jX3_readUnits_141 (N : Nat) (σj141 : vS) (v1j141 : Int32) : Option (vS) :=
  if ((σj141.1 6) = 0) then (
    if (v1j141 = 0) then (
      if ((σj141.1 8) ≤ 0) then (
        some σj141
      ) else (
        bd1 (fX3_meet N σj141 (-2 : Int32) (σj141.1 1)) fun σ3 =>
        some σ3
      )
    ) else (
      bd1 (fX3_meet N σj141 (-2 : Int32) (σj141.1 1)) fun σ2 =>
      some σ2
    )
  ) else (
    some σj141
  )
def jX3_readUnits_118_21 (N : Nat) (σj118 : vS) (v1j118 : Int32) (v2j118 : Int32) (v3j118 : Int32) : Option ((Int32 × Int32 × Int32 × vS) ⊕ (Int32 × vS)) :=
  if (v2j118 = 0) then (
    k_lt (v3j118 + (1 : Int32)) fun x10 =>
    some (.inl (v1j118, (0 : Int32), x10, σj118))
  ) else (
    if ((σj118.1 6) = 0) then (
      k_lt (v3j118 + (1 : Int32)) fun x12 =>
      some (.inl (v1j118, (1 : Int32), x12, σj118))
    ) else (
      k_lt (v3j118 + (1 : Int32)) fun x11 =>
      some (.inl (v1j118, (0 : Int32), x11, σj118))
    )
  )
def jX3_readUnits_73_21 (N : Nat) (σj73 : vS) (v2j73 : Int32) (v3j73 : Int32) (v4j73 : Int32) : Option ((Int32 × Int32 × Int32 × vS) ⊕ (Int32 × vS)) :=
  bd1 (fX3_openGroup N σj73 v4j73) fun σ9 =>
  jX3_readUnits_118_21 N σ9 (1 : Int32) v2j73 v3j73
def jX3_readUnits_116_21 (N : Nat) (σj116 : vS) (v1j116 : Int32) (v3j116 : Int32) : Option ((Int32 × Int32 × Int32 × vS) ⊕ (Int32 × vS)) :=
  jX3_readUnits_118_21 N σj116 v1j116 (0 : Int32) v3j116
def bX3_readUnits_21 (N : Nat) (v1h21 : Int32) (v2h21 : Int32) (v3h21 : Int32) (σh21 : vS) : Option ((Int32 × Int32 × Int32 × vS) ⊕ (Int32 × vS)) :=
  if ((100 : Int32) ≤ v3h21) then (
    some (.inr (v1h21, σh21))
  ) else (
    if (v2h21 = 0) then (
      some (.inr (v1h21, σh21))
    ) else (
      bd1 (fX4_here N σh21) fun r7 =>
      bd1 (fX5_isCapital N σh21 r7) fun r8 =>
      if (r8 = 0) then (
        if (r7 = (40 : Int32)) then (
          jX3_readUnits_73_21 N σh21 v2h21 v3h21 r7
        ) else (
          if (r7 = (91 : Int32)) then (
            jX3_readUnits_73_21 N σh21 v2h21 v3h21 r7
          ) else (
            if ((σh21.1 8) ≤ 0) then (
              jX3_readUnits_116_21 N σh21 v1h21 v3h21
            ) else (
              if ((σh21.1 8) < 0 ∨ 4 ≤ ((σh21.1 8)).toNatClampNeg) then none else
              if (r7 = (σh21.2.1 5 (((σh21.1 8)).toNatClampNeg))) then (
                if (v1h21 = 0) then (
                  bd1 (fX3_closeGroup N σh21) fun σ16 =>
                  jX3_readUnits_118_21 N σ16 v1h21 v2h21 v3h21
                ) else (
                  jX3_readUnits_116_21 N σh21 v1h21 v3h21
                )
              ) else (
                jX3_readUnits_116_21 N σh21 v1h21 v3h21
              )
            )
          )
        )
      ) else (
        bd1 (fX3_readElement N σh21 r7) fun σ22 =>
        jX3_readUnits_118_21 N σ22 (0 : Int32) v2h21 v3h21
      )
    )
  )
def fX3_readUnits (N : Nat) (σ : vS) : Option (vS) :=
  bd1 (fJ0_fill N (p_i σ 8 (0 : Int32)) 1 (0 : Int64)) fun σ1 =>
  bd1 (k_itr (fun zz => bX3_readUnits_21 N zz.1 zz.2.1 zz.2.2.1 zz.2.2.2) N ((1 : Int32), (1 : Int32), (0 : Int32), σ1)) fun q => jX3_readUnits_141 N q.2 q.1
abbrev rmX3_readUnits : Room := { frames := 3, cells := 0, slots := 0, locals := 70 }
abbrev wsX3_readUnits : List Cond := .code yX3_readUnits cX3_readUnits 5 none :: kws
theorem kcX3_readUnits {R : Room} {s : State} {args : Array Value} {own : String} {index : Nat} (htk : ∀ w ∈ kws, w.before args s = true) (hl : (Cond.methodLink own index yX3_readUnits).before args s = true) (hR : rmX3_readUnits.frames + 1 ≤ R.frames ∧ 8 + (5 + 11) + rmX3_readUnits.locals ≤ R.locals) : CallW R s args own RX3 index yX3_readUnits cX3_readUnits 5 none wsX3_readUnits rmX3_readUnits 0 0 0 :=
  ⟨callB_of 0 htk (k_good kc_306) rfl rfl rfl (kw_53 htk) hl (by decide +kernel) hR, (kw_305 htk), (kw_5 htk)⟩
set_option maxRecDepth 100000 in
set_option maxHeartbeats 4000000 in
theorem mX3_readUnits (l : Launch) (D : va_G) (cs : Nat → ClassId) (ad : Nat → Nat) (N : Nat) (σ : vS) (σ' : vS) (hf : fX3_readUnits N σ = some σ') : k_Met l yX3_readUnits wsX3_readUnits rmX3_readUnits D (tK cs) (wK cs ad) (k_A 41 ad) [.ref (ad 1)] σ none σ' := by
  refine k_of (cc := cX3_readUnits) (maxL := 5) (ret := none) (by decide) rfl (Nat.le_of_ble_eq_true rfl) ?_
  intro p e s m args below meth c ls H locs hcf hr hlk hK hZ hl hw
  generalize hQ0 : MQ below _ args s 0 0 _ = Q0
  obtain ⟨T0, hE0⟩ : ∃ T, T = fX3_readUnits N σ := ⟨_, rfl⟩
  have hR := hE0.trans hf
  have hN0 : T0 ≠ none := by rw [hR]; exact fun h => nomatch h
  have hx := hcf.1
  have hb := hcf.2.1
  have htk := hcf.2.2.2.2
  have hown := hcf.2.2.2.1
  unfold fX3_readUnits at hE0
  replace hl : lv_has ls 5 [(0, .ref (ad 1))] := hl
  have J141 : ∀ (v1j141 : Int32) (σj141 : vS) (H : Heap) (locs : List Loc) (ls : Array Slot), lv_has ls 5 [(0, .ref (ad 1)), (1, .int v1j141)] → k_H D (wK cs ad) (k_A 41 ad) σj141 s.heap H locs → T0 = jX3_readUnits_141 N σj141 v1j141 → W p l e rmX3_readUnits s m args below meth c H locs 0 0 Q0 (F0 m 141 ls []) := by
    intro v1j141 σj141 H locs ls hl hw hE0
    unfold jX3_readUnits_141 at hE0
    refine lv_aload_n hx hb dX3_readUnits_141 rfl (lv_at hl 0 rfl) ?_
    refine kg_X3_fault hcf hK (kw_154 htk) (x := (σj141.1 6)) dX3_readUnits_142 hw rfl ?_
    refine lv_if_ne (tgt := 172) hx hb dX3_readUnits_145 (by decide) (fun c6 => ?_) (fun c6 => ?_)
    · have hE0 := ite_f hE0 c6
      exact kret_v hcf hr hlk hK hw (rt1 hR hE0) hQ0 dX3_readUnits_172
    · have hE0 := ite_t hE0 c6
      refine lv_iload_n hx hb dX3_readUnits_148 rfl (lv_at hl 1 rfl) ?_
      refine lv_if_ne (tgt := 159) hx hb dX3_readUnits_149 (by decide) (fun c5 => ?_) (fun c5 => ?_)
      · have hE0 := ite_f hE0 c5
        refine lv_aload_n hx hb dX3_readUnits_159 rfl (lv_at hl 0 rfl) ?_
        refine lv_bipush (v := -2) hx hb dX3_readUnits_160 rfl ?_
        refine lv_aload_n hx hb dX3_readUnits_162 rfl (lv_at hl 0 rfl) ?_
        refine kg_X3_text hcf hK (kw_150 htk) dX3_readUnits_163 hw ?_
        refine kg_X4_place hcf hK (kw_93 htk) (x := (σj141.1 1)) dX3_readUnits_166 hw rfl ?_
        obtain ⟨σ2, k2, hE0⟩ := bd1_e hE0 hN0
        refine k_call (va_runV (As := [.int (-2 : Int32), .int (σj141.1 1)]) (rest := []) hcf (mX3_meet l D cs ad N σj141 (-2 : Int32) (σj141.1 1) σ2 k2) (kcX3_meet htk (kw_272 htk) ⟨Nat.le_of_ble_eq_true rfl, Nat.le_of_ble_eq_true rfl⟩) ⟨k_blind, va_recv (ci := 3) (q0 := 1) hK hw.1 rfl rfl, k_pre hK hZ hw⟩ rfl rfl hl.1 rfl (lv_room (Nat.le_of_ble_eq_true rfl)) dX3_readUnits_169 ⟨Nat.zero_le _, Nat.zero_le _⟩) hw (fun H locs hw => ?_)
        exact kret_v hcf hr hlk hK hw (rt1 hR hE0) hQ0 dX3_readUnits_172
      · have hE0 := ite_t hE0 c5
        refine lv_aload_n hx hb dX3_readUnits_152 rfl (lv_at hl 0 rfl) ?_
        refine kg_X3_depth hcf hK (kw_160 htk) (x := (σj141.1 8)) dX3_readUnits_153 hw rfl ?_
        refine lv_if_le (tgt := 172) hx hb dX3_readUnits_156 (by decide) (fun c4 => ?_) (fun c4 => ?_)
        · have hE0 := ite_t hE0 c4
          exact kret_v hcf hr hlk hK hw (rt1 hR hE0) hQ0 dX3_readUnits_172
        · have hE0 := ite_f hE0 c4
          refine lv_aload_n hx hb dX3_readUnits_159 rfl (lv_at hl 0 rfl) ?_
          refine lv_bipush (v := -2) hx hb dX3_readUnits_160 rfl ?_
          refine lv_aload_n hx hb dX3_readUnits_162 rfl (lv_at hl 0 rfl) ?_
          refine kg_X3_text hcf hK (kw_150 htk) dX3_readUnits_163 hw ?_
          refine kg_X4_place hcf hK (kw_93 htk) (x := (σj141.1 1)) dX3_readUnits_166 hw rfl ?_
          obtain ⟨σ3, k3, hE0⟩ := bd1_e hE0 hN0
          refine k_call (va_runV (As := [.int (-2 : Int32), .int (σj141.1 1)]) (rest := []) hcf (mX3_meet l D cs ad N σj141 (-2 : Int32) (σj141.1 1) σ3 k3) (kcX3_meet htk (kw_272 htk) ⟨Nat.le_of_ble_eq_true rfl, Nat.le_of_ble_eq_true rfl⟩) ⟨k_blind, va_recv (ci := 3) (q0 := 1) hK hw.1 rfl rfl, k_pre hK hZ hw⟩ rfl rfl hl.1 rfl (lv_room (Nat.le_of_ble_eq_true rfl)) dX3_readUnits_169 ⟨Nat.zero_le _, Nat.zero_le _⟩) hw (fun H locs hw => ?_)
          exact kret_v hcf hr hlk hK hw (rt1 hR hE0) hQ0 dX3_readUnits_172
  refine lv_aload_n hx hb dX3_readUnits_0 rfl (lv_at hl 0 rfl) ?_
  refine lv_iconst (v := 0) hx hb dX3_readUnits_1 rfl ?_
  refine kp_X3_depth hcf hK (kw_160 htk) dX3_readUnits_2 hw (fun H locs hw => ?_)
  refine lv_aload_n hx hb dX3_readUnits_5 rfl (lv_at hl 0 rfl) ?_
  refine kg_X3_sums hcf hK (kw_158 htk) dX3_readUnits_6 hw ?_
  refine lv_iconst (v := 0) hx hb dX3_readUnits_9 rfl ?_
  refine kaald_sums hcf hK (k := 26) dX3_readUnits_10 (by decide) (by decide) hw ?_
  refine lv_lconst (v := 0) hx hb dX3_readUnits_11 rfl ?_
  obtain ⟨σ1, k1, hE0⟩ := bd1_e hE0 hN0
  refine k_call (va_runS (As := [.ref (ad 26), .long (0 : Int64)]) (rest := []) hcf (mJ0_fill l D cs ad N (p_i σ 8 (0 : Int32)) 1 (0 : Int64) σ1 k1 (by decide)) (kcJ0_fill htk (kw_269 htk) ⟨Nat.le_of_ble_eq_true rfl, Nat.le_of_ble_eq_true rfl⟩) ⟨k_blind, k_pre hK hZ hw⟩ rfl rfl hl.1 rfl (lv_room (Nat.le_of_ble_eq_true rfl)) dX3_readUnits_12 ⟨Nat.zero_le _, Nat.zero_le _⟩) hw (fun H locs hw => ?_)
  refine lv_iconst (v := 1) hx hb dX3_readUnits_15 rfl ?_
  refine lv_istore_n hx hb dX3_readUnits_16 rfl hl (Nat.le_of_ble_eq_true rfl) rfl (fun ls (hl : lv_has ls 5 [(1, .int (1 : Int32)), (0, .ref (ad 1))]) => ?_)
  refine lv_iconst (v := 1) hx hb dX3_readUnits_17 rfl ?_
  refine lv_istore_n hx hb dX3_readUnits_18 rfl hl (Nat.le_of_ble_eq_true rfl) rfl (fun ls (hl : lv_has ls 5 [(2, .int (1 : Int32)), (1, .int (1 : Int32)), (0, .ref (ad 1))]) => ?_)
  refine lv_iconst (v := 0) hx hb dX3_readUnits_19 rfl ?_
  refine lv_istore_n hx hb dX3_readUnits_20 rfl hl (Nat.le_of_ble_eq_true rfl) rfl (fun ls (hl : lv_has ls 5 [(3, .int (0 : Int32)), (2, .int (1 : Int32)), (1, .int (1 : Int32)), (0, .ref (ad 1))]) => ?_)
  obtain ⟨q, hq, hE0⟩ := bd1_e hE0 hN0
  refine k_ind (P := fun zz => ∀ (H : Heap) (locs : List Loc) (ls : Array Slot), lv_has ls 5 [(0, .ref (ad 1)), (1, .int zz.1), (2, .int zz.2.1), (3, .int zz.2.2.1)] → k_H D (wK cs ad) (k_A 41 ad) zz.2.2.2 s.heap H locs → W p l e rmX3_readUnits s m args below meth c H locs 0 0 Q0 (F0 m 21 ls [])) ?_ N _ hq H locs ls (lv_sub hl [3, 2, 1, 0] rfl) hw
  intro sX T1 hE1 hN1 hC1 hX1
  obtain ⟨v1h21, v2h21, v3h21, σh21⟩ := sX
  replace hE1 : T1 = bX3_readUnits_21 N v1h21 v2h21 v3h21 σh21 := hE1
  unfold bX3_readUnits_21 at hE1
  have J118_21 : ∀ (v1j118 : Int32) (v2j118 : Int32) (v3j118 : Int32) (σj118 : vS) (H : Heap) (locs : List Loc) (ls : Array Slot), lv_has ls 5 [(0, .ref (ad 1)), (1, .int v1j118), (2, .int v2j118), (3, .int v3j118)] → k_H D (wK cs ad) (k_A 41 ad) σj118 s.heap H locs → T1 = jX3_readUnits_118_21 N σj118 v1j118 v2j118 v3j118 → W p l e rmX3_readUnits s m args below meth c H locs 0 0 Q0 (F0 m 118 ls []) := by
    intro v1j118 v2j118 v3j118 σj118 H locs ls hl hw hE1
    unfold jX3_readUnits_118_21 at hE1
    refine lv_iload_n hx hb dX3_readUnits_118 rfl (lv_at hl 2 rfl) ?_
    refine lv_if_eq (tgt := 133) hx hb dX3_readUnits_119 (by decide) (fun c14 => ?_) (fun c14 => ?_)
    · have hE1 := ite_t hE1 c14
      refine lv_iconst (v := 0) hx hb dX3_readUnits_133 rfl ?_
      refine lv_istore_n hx hb dX3_readUnits_134 rfl hl (Nat.le_of_ble_eq_true rfl) rfl (fun ls (hl : lv_has ls 5 [(2, .int (0 : Int32)), (0, .ref (ad 1)), (1, .int v1j118), (3, .int v3j118)]) => ?_)
      obtain ⟨x10, e_x10, hE1⟩ := k_lte hE1
      refine lv_iinc (k := 3) (v := x10) hx hb dX3_readUnits_135 hl rfl (Eq.symm e_x10) (Nat.le_of_ble_eq_true rfl) rfl (fun ls (hl : lv_has ls 5 [(3, .int x10), (2, .int (0 : Int32)), (0, .ref (ad 1)), (1, .int v1j118)]) => ?_)
      refine lv_goto (tgt := 21) hx hb dX3_readUnits_138 (by decide) ?_
      exact hC1 _ hE1 H locs ls (lv_sub hl [2, 3, 1, 0] rfl) hw
    · have hE1 := ite_f hE1 c14
      refine lv_aload_n hx hb dX3_readUnits_122 rfl (lv_at hl 0 rfl) ?_
      refine kg_X3_fault hcf hK (kw_154 htk) (x := (σj118.1 6)) dX3_readUnits_123 hw rfl ?_
      refine lv_if_ne (tgt := 133) hx hb dX3_readUnits_126 (by decide) (fun c13 => ?_) (fun c13 => ?_)
      · have hE1 := ite_f hE1 c13
        refine lv_iconst (v := 0) hx hb dX3_readUnits_133 rfl ?_
        refine lv_istore_n hx hb dX3_readUnits_134 rfl hl (Nat.le_of_ble_eq_true rfl) rfl (fun ls (hl : lv_has ls 5 [(2, .int (0 : Int32)), (0, .ref (ad 1)), (1, .int v1j118), (3, .int v3j118)]) => ?_)
        obtain ⟨x11, e_x11, hE1⟩ := k_lte hE1
        refine lv_iinc (k := 3) (v := x11) hx hb dX3_readUnits_135 hl rfl (Eq.symm e_x11) (Nat.le_of_ble_eq_true rfl) rfl (fun ls (hl : lv_has ls 5 [(3, .int x11), (2, .int (0 : Int32)), (0, .ref (ad 1)), (1, .int v1j118)]) => ?_)
        refine lv_goto (tgt := 21) hx hb dX3_readUnits_138 (by decide) ?_
        exact hC1 _ hE1 H locs ls (lv_sub hl [2, 3, 1, 0] rfl) hw
      · have hE1 := ite_t hE1 c13
        refine lv_iconst (v := 1) hx hb dX3_readUnits_129 rfl ?_
        refine lv_goto (tgt := 134) hx hb dX3_readUnits_130 (by decide) ?_
        refine lv_istore_n hx hb dX3_readUnits_134 rfl hl (Nat.le_of_ble_eq_true rfl) rfl (fun ls (hl : lv_has ls 5 [(2, .int (1 : Int32)), (0, .ref (ad 1)), (1, .int v1j118), (3, .int v3j118)]) => ?_)
        obtain ⟨x12, e_x12, hE1⟩ := k_lte hE1
        refine lv_iinc (k := 3) (v := x12) hx hb dX3_readUnits_135 hl rfl (Eq.symm e_x12) (Nat.le_of_ble_eq_true rfl) rfl (fun ls (hl : lv_has ls 5 [(3, .int x12), (2, .int (1 : Int32)), (0, .ref (ad 1)), (1, .int v1j118)]) => ?_)
        refine lv_goto (tgt := 21) hx hb dX3_readUnits_138 (by decide) ?_
        exact hC1 _ hE1 H locs ls (lv_sub hl [2, 3, 1, 0] rfl) hw
  have J73_21 : ∀ (v2j73 : Int32) (v3j73 : Int32) (v4j73 : Int32) (σj73 : vS) (H : Heap) (locs : List Loc) (ls : Array Slot), lv_has ls 5 [(0, .ref (ad 1)), (2, .int v2j73), (3, .int v3j73), (4, .int v4j73)] → k_H D (wK cs ad) (k_A 41 ad) σj73 s.heap H locs → T1 = jX3_readUnits_73_21 N σj73 v2j73 v3j73 v4j73 → W p l e rmX3_readUnits s m args below meth c H locs 0 0 Q0 (F0 m 73 ls []) := by
    intro v2j73 v3j73 v4j73 σj73 H locs ls hl hw hE1
    unfold jX3_readUnits_73_21 at hE1
    refine lv_aload_n hx hb dX3_readUnits_73 rfl (lv_at hl 0 rfl) ?_
    refine lv_iload hx hb dX3_readUnits_74 (lv_at hl 3 rfl) ?_
    obtain ⟨σ9, k9, hE1⟩ := bd1_e hE1 hN1
    refine k_call (va_runV (As := [.int v4j73]) (rest := []) hcf (mX3_openGroup l D cs ad N σj73 v4j73 σ9 k9) (kcX3_openGroup htk (kw_325 htk) ⟨Nat.le_of_ble_eq_true rfl, Nat.le_of_ble_eq_true rfl⟩) ⟨k_blind, va_recv (ci := 3) (q0 := 1) hK hw.1 rfl rfl, k_pre hK hZ hw⟩ rfl rfl hl.1 rfl (lv_room (Nat.le_of_ble_eq_true rfl)) dX3_readUnits_76 ⟨Nat.zero_le _, Nat.zero_le _⟩) hw (fun H locs hw => ?_)
    refine lv_iconst (v := 1) hx hb dX3_readUnits_79 rfl ?_
    refine lv_istore_n hx hb dX3_readUnits_80 rfl hl (Nat.le_of_ble_eq_true rfl) rfl (fun ls (hl : lv_has ls 5 [(1, .int (1 : Int32)), (0, .ref (ad 1)), (2, .int v2j73), (3, .int v3j73), (4, .int v4j73)]) => ?_)
    refine lv_goto (tgt := 118) hx hb dX3_readUnits_81 (by decide) ?_
    exact J118_21 (1 : Int32) v2j73 v3j73 σ9 H locs ls (lv_sub hl [1, 0, 2, 3] rfl) hw hE1
  have J116_21 : ∀ (v1j116 : Int32) (v3j116 : Int32) (σj116 : vS) (H : Heap) (locs : List Loc) (ls : Array Slot), lv_has ls 5 [(0, .ref (ad 1)), (1, .int v1j116), (3, .int v3j116)] → k_H D (wK cs ad) (k_A 41 ad) σj116 s.heap H locs → T1 = jX3_readUnits_116_21 N σj116 v1j116 v3j116 → W p l e rmX3_readUnits s m args below meth c H locs 0 0 Q0 (F0 m 116 ls []) := by
    intro v1j116 v3j116 σj116 H locs ls hl hw hE1
    unfold jX3_readUnits_116_21 at hE1
    refine lv_iconst (v := 0) hx hb dX3_readUnits_116 rfl ?_
    refine lv_istore_n hx hb dX3_readUnits_117 rfl hl (Nat.le_of_ble_eq_true rfl) rfl (fun ls (hl : lv_has ls 5 [(2, .int (0 : Int32)), (0, .ref (ad 1)), (1, .int v1j116), (3, .int v3j116)]) => ?_)
    exact J118_21 v1j116 (0 : Int32) v3j116 σj116 H locs ls (lv_sub hl [1, 2, 0, 3] rfl) hw hE1
  intro H locs ls hl hw
  replace hl : lv_has ls 5 [(0, .ref (ad 1)), (1, .int v1h21), (2, .int v2h21), (3, .int v3h21)] := hl
  replace hw : k_H D (wK cs ad) (k_A 41 ad) σh21 s.heap H locs := hw
  refine lv_iload_n hx hb dX3_readUnits_21 rfl (lv_at hl 3 rfl) ?_
  refine lv_bipush (v := 100) hx hb dX3_readUnits_22 rfl ?_
  refine lv_icmp_ge (tgt := 141) hx hb dX3_readUnits_24 (by decide) (fun c25 => ?_) (fun c25 => ?_)
  · have hE1 := ite_t hE1 c25
    have hq := hX1 _ hE1
    subst hq
    exact J141 v1h21 σh21 H locs ls (lv_sub hl [0, 1] rfl) hw hE0
  · have hE1 := ite_f hE1 c25
    refine lv_iload_n hx hb dX3_readUnits_27 rfl (lv_at hl 2 rfl) ?_
    refine lv_if_eq (tgt := 141) hx hb dX3_readUnits_28 (by decide) (fun c24 => ?_) (fun c24 => ?_)
    · have hE1 := ite_t hE1 c24
      have hq := hX1 _ hE1
      subst hq
      exact J141 v1h21 σh21 H locs ls (lv_sub hl [0, 1] rfl) hw hE0
    · have hE1 := ite_f hE1 c24
      refine lv_aload_n hx hb dX3_readUnits_31 rfl (lv_at hl 0 rfl) ?_
      refine kg_X3_text hcf hK (kw_150 htk) dX3_readUnits_32 hw ?_
      obtain ⟨r7, k7, hE1⟩ := bd1_e hE1 hN1
      refine k_callP (va_runV (As := []) (rest := []) hcf (mX4_here l D cs ad N σh21 r7 k7) (kcX4_here htk (kw_276 htk) ⟨Nat.le_of_ble_eq_true rfl, Nat.le_of_ble_eq_true rfl⟩) ⟨k_blind, va_recv (ci := 4) (q0 := 4) hK hw.1 rfl rfl, k_pre hK hZ hw⟩ rfl rfl hl.1 rfl (lv_room (Nat.le_of_ble_eq_true rfl)) dX3_readUnits_35 ⟨Nat.zero_le _, Nat.zero_le _⟩) ?_
      refine lv_istore hx hb dX3_readUnits_38 hl (Nat.le_of_ble_eq_true rfl) rfl (fun ls (hl : lv_has ls 5 [(4, .int r7), (0, .ref (ad 1)), (1, .int v1h21), (2, .int v2h21), (3, .int v3h21)]) => ?_)
      refine lv_iload hx hb dX3_readUnits_40 (lv_at hl 0 rfl) ?_
      obtain ⟨r8, k8, hE1⟩ := bd1_e hE1 hN1
      refine k_callP (va_runSN (As := [.int r7]) (rest := []) hcf (mX5_isCapital l D cs ad N σh21 r7 r8 k8) (kcX5_isCapital htk (kn_6 hZ) ⟨Nat.le_of_ble_eq_true rfl, Nat.le_of_ble_eq_true rfl⟩) ⟨k_blind, k_pre hK hZ hw⟩ rfl rfl hl.1 rfl (lv_room (Nat.le_of_ble_eq_true rfl)) dX3_readUnits_42 ⟨Nat.zero_le _, Nat.zero_le _⟩) ?_
      refine lv_if_eq (tgt := 59) hx hb dX3_readUnits_45 (by decide) (fun c23 => ?_) (fun c23 => ?_)
      · have hE1 := ite_t hE1 c23
        refine lv_iload hx hb dX3_readUnits_59 (lv_at hl 0 rfl) ?_
        refine lv_bipush (v := 40) hx hb dX3_readUnits_61 rfl ?_
        refine lv_icmp_eq (tgt := 73) hx hb dX3_readUnits_63 (by decide) (fun c21 => ?_) (fun c21 => ?_)
        · have hE1 := ite_t hE1 c21
          exact J73_21 v2h21 v3h21 r7 σh21 H locs ls (lv_sub hl [1, 3, 4, 0] rfl) hw hE1
        · have hE1 := ite_f hE1 c21
          refine lv_iload hx hb dX3_readUnits_66 (lv_at hl 0 rfl) ?_
          refine lv_bipush (v := 91) hx hb dX3_readUnits_68 rfl ?_
          refine lv_icmp_ne (tgt := 84) hx hb dX3_readUnits_70 (by decide) (fun c20 => ?_) (fun c20 => ?_)
          · have hE1 := ite_f hE1 c20
            refine lv_aload_n hx hb dX3_readUnits_84 rfl (lv_at hl 1 rfl) ?_
            refine kg_X3_depth hcf hK (kw_160 htk) (x := (σh21.1 8)) dX3_readUnits_85 hw rfl ?_
            refine lv_if_le (tgt := 116) hx hb dX3_readUnits_88 (by decide) (fun c19 => ?_) (fun c19 => ?_)
            · have hE1 := ite_t hE1 c19
              exact J116_21 v1h21 v3h21 σh21 H locs ls (lv_sub hl [1, 2, 4] rfl) hw hE1
            · have hE1 := ite_f hE1 c19
              refine lv_iload hx hb dX3_readUnits_91 (lv_at hl 0 rfl) ?_
              refine lv_aload_n hx hb dX3_readUnits_93 rfl (lv_at hl 1 rfl) ?_
              refine kg_X3_closings hcf hK (kw_159 htk) dX3_readUnits_94 hw ?_
              refine lv_aload_n hx hb dX3_readUnits_97 rfl (lv_at hl 1 rfl) ?_
              refine kg_X3_depth hcf hK (kw_160 htk) (x := (σh21.1 8)) dX3_readUnits_98 hw rfl ?_
              obtain ⟨g15, hE1⟩ := gd_e hE1 hN1
              refine kald_A5 hcf hK (x := (σh21.2.1 5 (((σh21.1 8)).toNatClampNeg))) dX3_readUnits_101 g15 hw rfl ?_
              refine lv_icmp_ne (tgt := 116) hx hb dX3_readUnits_102 (by decide) (fun c18 => ?_) (fun c18 => ?_)
              · have hE1 := ite_f hE1 c18
                exact J116_21 v1h21 v3h21 σh21 H locs ls (lv_sub hl [1, 2, 4] rfl) hw hE1
              · have hE1 := ite_t hE1 c18
                refine lv_iload_n hx hb dX3_readUnits_105 rfl (lv_at hl 2 rfl) ?_
                refine lv_if_ne (tgt := 116) hx hb dX3_readUnits_106 (by decide) (fun c17 => ?_) (fun c17 => ?_)
                · have hE1 := ite_f hE1 c17
                  exact J116_21 v1h21 v3h21 σh21 H locs ls (lv_sub hl [1, 2, 4] rfl) hw hE1
                · have hE1 := ite_t hE1 c17
                  refine lv_aload_n hx hb dX3_readUnits_109 rfl (lv_at hl 1 rfl) ?_
                  obtain ⟨σ16, k16, hE1⟩ := bd1_e hE1 hN1
                  refine k_call (va_runV (As := []) (rest := []) hcf (mX3_closeGroup l D cs ad N σh21 σ16 k16) (kcX3_closeGroup htk (kw_329 htk) ⟨Nat.le_of_ble_eq_true rfl, Nat.le_of_ble_eq_true rfl⟩) ⟨k_blind, va_recv (ci := 3) (q0 := 1) hK hw.1 rfl rfl, k_pre hK hZ hw⟩ rfl rfl hl.1 rfl (lv_room (Nat.le_of_ble_eq_true rfl)) dX3_readUnits_110 ⟨Nat.zero_le _, Nat.zero_le _⟩) hw (fun H locs hw => ?_)
                  refine lv_goto (tgt := 118) hx hb dX3_readUnits_113 (by decide) ?_
                  exact J118_21 v1h21 v2h21 v3h21 σ16 H locs ls (lv_sub hl [1, 2, 3, 4] rfl) hw hE1
          · have hE1 := ite_t hE1 c20
            exact J73_21 v2h21 v3h21 r7 σh21 H locs ls (lv_sub hl [1, 3, 4, 0] rfl) hw hE1
      · have hE1 := ite_f hE1 c23
        refine lv_aload_n hx hb dX3_readUnits_48 rfl (lv_at hl 1 rfl) ?_
        refine lv_iload hx hb dX3_readUnits_49 (lv_at hl 0 rfl) ?_
        obtain ⟨σ22, k22, hE1⟩ := bd1_e hE1 hN1
        refine k_call (va_runV (As := [.int r7]) (rest := []) hcf (mX3_readElement l D cs ad N σh21 r7 σ22 k22) (kcX3_readElement htk (kw_310 htk) ⟨Nat.le_of_ble_eq_true rfl, Nat.le_of_ble_eq_true rfl⟩) ⟨k_blind, va_recv (ci := 3) (q0 := 1) hK hw.1 rfl rfl, k_pre hK hZ hw⟩ rfl rfl hl.1 rfl (lv_room (Nat.le_of_ble_eq_true rfl)) dX3_readUnits_51 ⟨Nat.zero_le _, Nat.zero_le _⟩) hw (fun H locs hw => ?_)
        refine lv_iconst (v := 0) hx hb dX3_readUnits_54 rfl ?_
        refine lv_istore_n hx hb dX3_readUnits_55 rfl hl (Nat.le_of_ble_eq_true rfl) rfl (fun ls (hl : lv_has ls 5 [(1, .int (0 : Int32)), (4, .int r7), (0, .ref (ad 1)), (2, .int v2h21), (3, .int v3h21)]) => ?_)
        refine lv_goto (tgt := 118) hx hb dX3_readUnits_56 (by decide) ?_
        exact J118_21 (0 : Int32) v2h21 v3h21 σ22 H locs ls (lv_sub hl [2, 0, 3, 4] rfl) hw hE1
def jX3_readCharge_84 (N : Nat) (σj84 : vS) (v1j84 : Int32) (v2j84 : Int32) : Option (vS) :=
  if (v2j84 = (43 : Int32)) then (
    some (p_i (p_i σj84 9 v1j84) 1 ((σj84.1 1) + (1 : Int32)))
  ) else (
    some (p_i (p_i σj84 9 (-v1j84)) 1 ((σj84.1 1) + (1 : Int32)))
  )
def fX3_readCharge (N : Nat) (σ : vS) : Option (vS) :=
  bd2 (fX1_admitCharge N σ) fun r1 σ1 =>
  if (r1 = 0) then (
    bd1 (fX3_meet N σ1 (-5 : Int32) (σ1.1 1)) fun σ9 =>
    some σ9
  ) else (
    bd2 (fX3_readNumber N (p_i σ1 1 ((σ1.1 1) + (1 : Int32)))) fun r2 σ2 =>
    if ((σ2.1 6) = 0) then (
      bd1 (fX4_here N σ2) fun r3 =>
      if (r3 = (43 : Int32)) then (
        jX3_readCharge_84 N σ2 r2 r3
      ) else (
        if (r3 = (45 : Int32)) then (
          jX3_readCharge_84 N σ2 r2 r3
        ) else (
          bd1 (fX3_meet N σ2 (-2 : Int32) (σ2.1 1)) fun σ5 =>
          some σ5
        )
      )
    ) else (
      some σ2
    )
  )
abbrev rmX3_readCharge : Room := { frames := 2, cells := 0, slots := 0, locals := 46 }
abbrev wsX3_readCharge : List Cond := .code yX3_readCharge cX3_readCharge 3 none :: kws
theorem kcX3_readCharge {R : Room} {s : State} {args : Array Value} {own : String} {index : Nat} (htk : ∀ w ∈ kws, w.before args s = true) (hl : (Cond.methodLink own index yX3_readCharge).before args s = true) (hR : rmX3_readCharge.frames + 1 ≤ R.frames ∧ 8 + (3 + 11) + rmX3_readCharge.locals ≤ R.locals) : CallW R s args own RX3 index yX3_readCharge cX3_readCharge 3 none wsX3_readCharge rmX3_readCharge 0 0 0 :=
  ⟨callB_of 0 htk (k_good kc_339) rfl rfl rfl (kw_53 htk) hl (by decide +kernel) hR, (kw_338 htk), (kw_9 htk)⟩
set_option maxRecDepth 100000 in
set_option maxHeartbeats 4000000 in
theorem mX3_readCharge (l : Launch) (D : va_G) (cs : Nat → ClassId) (ad : Nat → Nat) (N : Nat) (σ : vS) (σ' : vS) (hf : fX3_readCharge N σ = some σ') : k_Met l yX3_readCharge wsX3_readCharge rmX3_readCharge D (tK cs) (wK cs ad) (k_A 41 ad) [.ref (ad 1)] σ none σ' := by
  refine k_of (cc := cX3_readCharge) (maxL := 3) (ret := none) (by decide) rfl (Nat.le_of_ble_eq_true rfl) ?_
  intro p e s m args below meth c ls H locs hcf hr hlk hK hZ hl hw
  generalize hQ0 : MQ below _ args s 0 0 _ = Q0
  obtain ⟨T0, hE0⟩ : ∃ T, T = fX3_readCharge N σ := ⟨_, rfl⟩
  have hR := hE0.trans hf
  have hN0 : T0 ≠ none := by rw [hR]; exact fun h => nomatch h
  have hx := hcf.1
  have hb := hcf.2.1
  have htk := hcf.2.2.2.2
  have hown := hcf.2.2.2.1
  unfold fX3_readCharge at hE0
  replace hl : lv_has ls 3 [(0, .ref (ad 1))] := hl
  have J84 : ∀ (v1j84 : Int32) (v2j84 : Int32) (σj84 : vS) (H : Heap) (locs : List Loc) (ls : Array Slot), lv_has ls 3 [(0, .ref (ad 1)), (1, .int v1j84), (2, .int v2j84)] → k_H D (wK cs ad) (k_A 41 ad) σj84 s.heap H locs → T0 = jX3_readCharge_84 N σj84 v1j84 v2j84 → W p l e rmX3_readCharge s m args below meth c H locs 0 0 Q0 (F0 m 84 ls []) := by
    intro v1j84 v2j84 σj84 H locs ls hl hw hE0
    unfold jX3_readCharge_84 at hE0
    refine lv_aload_n hx hb dX3_readCharge_84 rfl (lv_at hl 0 rfl) ?_
    refine lv_iload_n hx hb dX3_readCharge_85 rfl (lv_at hl 2 rfl) ?_
    refine lv_bipush (v := 43) hx hb dX3_readCharge_86 rfl ?_
    refine lv_icmp_ne (tgt := 95) hx hb dX3_readCharge_88 (by decide) (fun c4 => ?_) (fun c4 => ?_)
    · have hE0 := ite_f hE0 c4
      refine lv_iload_n hx hb dX3_readCharge_95 rfl (lv_at hl 1 rfl) ?_
      refine lv_ineg hx hb dX3_readCharge_96 ?_
      refine kp_X3_charge hcf hK (kw_162 htk) dX3_readCharge_97 hw (fun H locs hw => ?_)
      refine lv_aload_n hx hb dX3_readCharge_100 rfl (lv_at hl 0 rfl) ?_
      refine kg_X3_text hcf hK (kw_150 htk) dX3_readCharge_101 hw ?_
      refine lv_dup hx hb dX3_readCharge_104 rfl ?_
      refine kg_X4_place hcf hK (kw_93 htk) (x := (σj84.1 1)) dX3_readCharge_105 hw rfl ?_
      refine lv_iconst (v := 1) hx hb dX3_readCharge_108 rfl ?_
      refine lv_iadd hx hb dX3_readCharge_109 ?_
      refine kp_X4_place hcf hK (kw_93 htk) dX3_readCharge_110 hw (fun H locs hw => ?_)
      exact kret_v hcf hr hlk hK hw (rt1 hR hE0) hQ0 dX3_readCharge_113
    · have hE0 := ite_t hE0 c4
      refine lv_iload_n hx hb dX3_readCharge_91 rfl (lv_at hl 1 rfl) ?_
      refine lv_goto (tgt := 97) hx hb dX3_readCharge_92 (by decide) ?_
      refine kp_X3_charge hcf hK (kw_162 htk) dX3_readCharge_97 hw (fun H locs hw => ?_)
      refine lv_aload_n hx hb dX3_readCharge_100 rfl (lv_at hl 0 rfl) ?_
      refine kg_X3_text hcf hK (kw_150 htk) dX3_readCharge_101 hw ?_
      refine lv_dup hx hb dX3_readCharge_104 rfl ?_
      refine kg_X4_place hcf hK (kw_93 htk) (x := (σj84.1 1)) dX3_readCharge_105 hw rfl ?_
      refine lv_iconst (v := 1) hx hb dX3_readCharge_108 rfl ?_
      refine lv_iadd hx hb dX3_readCharge_109 ?_
      refine kp_X4_place hcf hK (kw_93 htk) dX3_readCharge_110 hw (fun H locs hw => ?_)
      exact kret_v hcf hr hlk hK hw (rt1 hR hE0) hQ0 dX3_readCharge_113
  refine lv_aload_n hx hb dX3_readCharge_0 rfl (lv_at hl 0 rfl) ?_
  refine kg_X3_equation hcf hK (kw_152 htk) dX3_readCharge_1 hw ?_
  obtain ⟨r1, σ1, k1, hE0⟩ := bd2_e hE0 hN0
  refine k_call (va_runV (As := []) (rest := []) hcf (mX1_admitCharge l D cs ad N σ r1 σ1 k1) (kcX1_admitCharge htk (kw_288 htk) ⟨Nat.le_of_ble_eq_true rfl, Nat.le_of_ble_eq_true rfl⟩) ⟨k_blind, va_recv (ci := 1) (q0 := 5) hK hw.1 rfl rfl, k_pre hK hZ hw⟩ rfl rfl hl.1 rfl (lv_room (Nat.le_of_ble_eq_true rfl)) dX3_readCharge_4 ⟨Nat.zero_le _, Nat.zero_le _⟩) hw (fun H locs hw => ?_)
  refine lv_if_ne (tgt := 24) hx hb dX3_readCharge_7 (by decide) (fun c10 => ?_) (fun c10 => ?_)
  · have hE0 := ite_f hE0 c10
    refine lv_aload_n hx hb dX3_readCharge_24 rfl (lv_at hl 0 rfl) ?_
    refine kg_X3_text hcf hK (kw_150 htk) dX3_readCharge_25 hw ?_
    refine lv_dup hx hb dX3_readCharge_28 rfl ?_
    refine kg_X4_place hcf hK (kw_93 htk) (x := (σ1.1 1)) dX3_readCharge_29 hw rfl ?_
    refine lv_iconst (v := 1) hx hb dX3_readCharge_32 rfl ?_
    refine lv_iadd hx hb dX3_readCharge_33 ?_
    refine kp_X4_place hcf hK (kw_93 htk) dX3_readCharge_34 hw (fun H locs hw => ?_)
    refine lv_aload_n hx hb dX3_readCharge_37 rfl (lv_at hl 0 rfl) ?_
    obtain ⟨r2, σ2, k2, hE0⟩ := bd2_e hE0 hN0
    refine k_call (va_runV (As := []) (rest := []) hcf (mX3_readNumber l D cs ad N (p_i σ1 1 ((σ1.1 1) + (1 : Int32))) r2 σ2 k2) (kcX3_readNumber htk (kw_296 htk) ⟨Nat.le_of_ble_eq_true rfl, Nat.le_of_ble_eq_true rfl⟩) ⟨k_blind, va_recv (ci := 3) (q0 := 1) hK hw.1 rfl rfl, k_pre hK hZ hw⟩ rfl rfl hl.1 rfl (lv_room (Nat.le_of_ble_eq_true rfl)) dX3_readCharge_38 ⟨Nat.zero_le _, Nat.zero_le _⟩) hw (fun H locs hw => ?_)
    refine lv_istore_n hx hb dX3_readCharge_41 rfl hl (Nat.le_of_ble_eq_true rfl) rfl (fun ls (hl : lv_has ls 3 [(1, .int r2), (0, .ref (ad 1))]) => ?_)
    refine lv_aload_n hx hb dX3_readCharge_42 rfl (lv_at hl 1 rfl) ?_
    refine kg_X3_fault hcf hK (kw_154 htk) (x := (σ2.1 6)) dX3_readCharge_43 hw rfl ?_
    refine lv_if_eq (tgt := 50) hx hb dX3_readCharge_46 (by decide) (fun c8 => ?_) (fun c8 => ?_)
    · have hE0 := ite_t hE0 c8
      refine lv_aload_n hx hb dX3_readCharge_50 rfl (lv_at hl 1 rfl) ?_
      refine kg_X3_text hcf hK (kw_150 htk) dX3_readCharge_51 hw ?_
      obtain ⟨r3, k3, hE0⟩ := bd1_e hE0 hN0
      refine k_callP (va_runV (As := []) (rest := []) hcf (mX4_here l D cs ad N σ2 r3 k3) (kcX4_here htk (kw_276 htk) ⟨Nat.le_of_ble_eq_true rfl, Nat.le_of_ble_eq_true rfl⟩) ⟨k_blind, va_recv (ci := 4) (q0 := 4) hK hw.1 rfl rfl, k_pre hK hZ hw⟩ rfl rfl hl.1 rfl (lv_room (Nat.le_of_ble_eq_true rfl)) dX3_readCharge_54 ⟨Nat.zero_le _, Nat.zero_le _⟩) ?_
      refine lv_istore_n hx hb dX3_readCharge_57 rfl hl (Nat.le_of_ble_eq_true rfl) rfl (fun ls (hl : lv_has ls 3 [(2, .int r3), (1, .int r2), (0, .ref (ad 1))]) => ?_)
      refine lv_iload_n hx hb dX3_readCharge_58 rfl (lv_at hl 0 rfl) ?_
      refine lv_bipush (v := 43) hx hb dX3_readCharge_59 rfl ?_
      refine lv_icmp_eq (tgt := 84) hx hb dX3_readCharge_61 (by decide) (fun c7 => ?_) (fun c7 => ?_)
      · have hE0 := ite_t hE0 c7
        exact J84 r2 r3 σ2 H locs ls (lv_sub hl [2, 1, 0] rfl) hw hE0
      · have hE0 := ite_f hE0 c7
        refine lv_iload_n hx hb dX3_readCharge_64 rfl (lv_at hl 0 rfl) ?_
        refine lv_bipush (v := 45) hx hb dX3_readCharge_65 rfl ?_
        refine lv_icmp_eq (tgt := 84) hx hb dX3_readCharge_67 (by decide) (fun c6 => ?_) (fun c6 => ?_)
        · have hE0 := ite_t hE0 c6
          exact J84 r2 r3 σ2 H locs ls (lv_sub hl [2, 1, 0] rfl) hw hE0
        · have hE0 := ite_f hE0 c6
          refine lv_aload_n hx hb dX3_readCharge_70 rfl (lv_at hl 2 rfl) ?_
          refine lv_bipush (v := -2) hx hb dX3_readCharge_71 rfl ?_
          refine lv_aload_n hx hb dX3_readCharge_73 rfl (lv_at hl 2 rfl) ?_
          refine kg_X3_text hcf hK (kw_150 htk) dX3_readCharge_74 hw ?_
          refine kg_X4_place hcf hK (kw_93 htk) (x := (σ2.1 1)) dX3_readCharge_77 hw rfl ?_
          obtain ⟨σ5, k5, hE0⟩ := bd1_e hE0 hN0
          refine k_call (va_runV (As := [.int (-2 : Int32), .int (σ2.1 1)]) (rest := []) hcf (mX3_meet l D cs ad N σ2 (-2 : Int32) (σ2.1 1) σ5 k5) (kcX3_meet htk (kw_272 htk) ⟨Nat.le_of_ble_eq_true rfl, Nat.le_of_ble_eq_true rfl⟩) ⟨k_blind, va_recv (ci := 3) (q0 := 1) hK hw.1 rfl rfl, k_pre hK hZ hw⟩ rfl rfl hl.1 rfl (lv_room (Nat.le_of_ble_eq_true rfl)) dX3_readCharge_80 ⟨Nat.zero_le _, Nat.zero_le _⟩) hw (fun H locs hw => ?_)
          exact kret_v hcf hr hlk hK hw (rt1 hR hE0) hQ0 dX3_readCharge_83
    · have hE0 := ite_f hE0 c8
      exact kret_v hcf hr hlk hK hw (rt1 hR hE0) hQ0 dX3_readCharge_49
  · have hE0 := ite_t hE0 c10
    refine lv_aload_n hx hb dX3_readCharge_10 rfl (lv_at hl 0 rfl) ?_
    refine lv_bipush (v := -5) hx hb dX3_readCharge_11 rfl ?_
    refine lv_aload_n hx hb dX3_readCharge_13 rfl (lv_at hl 0 rfl) ?_
    refine kg_X3_text hcf hK (kw_150 htk) dX3_readCharge_14 hw ?_
    refine kg_X4_place hcf hK (kw_93 htk) (x := (σ1.1 1)) dX3_readCharge_17 hw rfl ?_
    obtain ⟨σ9, k9, hE0⟩ := bd1_e hE0 hN0
    refine k_call (va_runV (As := [.int (-5 : Int32), .int (σ1.1 1)]) (rest := []) hcf (mX3_meet l D cs ad N σ1 (-5 : Int32) (σ1.1 1) σ9 k9) (kcX3_meet htk (kw_272 htk) ⟨Nat.le_of_ble_eq_true rfl, Nat.le_of_ble_eq_true rfl⟩) ⟨k_blind, va_recv (ci := 3) (q0 := 1) hK hw.1 rfl rfl, k_pre hK hZ hw⟩ rfl rfl hl.1 rfl (lv_room (Nat.le_of_ble_eq_true rfl)) dX3_readCharge_20 ⟨Nat.zero_le _, Nat.zero_le _⟩) hw (fun H locs hw => ?_)
    exact kret_v hcf hr hlk hK hw (rt1 hR hE0) hQ0 dX3_readCharge_23
def jX3_readFormula_92 (N : Nat) (σj92 : vS) : Option (vS) :=
  if ((σj92.1 6) = 0) then (
    bd1 (fX4_here N σj92) fun r1 =>
    if (r1 = (94 : Int32)) then (
      bd1 (fX3_readCharge N σj92) fun σ2 =>
      some σ2
    ) else (
      some σj92
    )
  ) else (
    some σj92
  )
def jX3_readFormula_69_4 (N : Nat) (σj69 : vS) (v1j69 : Int32) (v2j69 : Int32) : Option ((Int32 × Int32 × vS) ⊕ (vS)) :=
  if (v1j69 = 0) then (
    k_lt (v2j69 + (1 : Int32)) fun x6 =>
    some (.inl (v1j69, x6, σj69))
  ) else (
    k_lt (v2j69 + (1 : Int32)) fun x7 =>
    some (.inl (v1j69, x7, (p_i σj69 1 ((σj69.1 1) + (1 : Int32)))))
  )
def jX3_readFormula_67_4 (N : Nat) (σj67 : vS) (v2j67 : Int32) : Option ((Int32 × Int32 × vS) ⊕ (vS)) :=
  jX3_readFormula_69_4 N σj67 (0 : Int32) v2j67
def jX3_readFormula_44_4 (N : Nat) (σj44 : vS) (v2j44 : Int32) : Option ((Int32 × Int32 × vS) ⊕ (vS)) :=
  if ((σj44.1 6) = 0) then (
    bd1 (fX4_here N σj44) fun r9 =>
    if (r9 = (46 : Int32)) then (
      jX3_readFormula_69_4 N σj44 (1 : Int32) v2j44
    ) else (
      jX3_readFormula_67_4 N σj44 v2j44
    )
  ) else (
    jX3_readFormula_67_4 N σj44 v2j44
  )
def bX3_readFormula_4 (N : Nat) (v1h4 : Int32) (v2h4 : Int32) (σh4 : vS) : Option ((Int32 × Int32 × vS) ⊕ (vS)) :=
  if ((100 : Int32) ≤ v2h4) then (
    some (.inr σh4)
  ) else (
    if (v1h4 = 0) then (
      some (.inr σh4)
    ) else (
      bd2 (fX3_readNumber N σh4) fun r5 σ5 =>
      if ((σ5.1 6) = 0) then (
        bd1 (fX3_readUnits N σ5) fun σ12 =>
        bd1 (fX3_addTimes N σ12 0 1 r5) fun σ13 =>
        jX3_readFormula_44_4 N σ13 v2h4
      ) else (
        jX3_readFormula_44_4 N σ5 v2h4
      )
    )
  )
def fX3_readFormula (N : Nat) (σ : vS) : Option (vS) :=
  bd1 (k_itr (fun zz => bX3_readFormula_4 N zz.1 zz.2.1 zz.2.2) N ((1 : Int32), (0 : Int32), σ)) fun q => jX3_readFormula_92 N q
abbrev rmX3_readFormula : Room := { frames := 4, cells := 0, slots := 0, locals := 94 }
abbrev wsX3_readFormula : List Cond := .code yX3_readFormula cX3_readFormula 4 none :: kws
theorem kcX3_readFormula {R : Room} {s : State} {args : Array Value} {own : String} {index : Nat} (htk : ∀ w ∈ kws, w.before args s = true) (hl : (Cond.methodLink own index yX3_readFormula).before args s = true) (hR : rmX3_readFormula.frames + 1 ≤ R.frames ∧ 8 + (4 + 11) + rmX3_readFormula.locals ≤ R.locals) : CallW R s args own RX3 index yX3_readFormula cX3_readFormula 4 none wsX3_readFormula rmX3_readFormula 0 0 0 :=
  ⟨callB_of 0 htk (k_good kc_295) rfl rfl rfl (kw_53 htk) hl (by decide +kernel) hR, (kw_294 htk), (kw_3 htk)⟩
set_option maxRecDepth 100000 in
set_option maxHeartbeats 4000000 in
theorem mX3_readFormula (l : Launch) (D : va_G) (cs : Nat → ClassId) (ad : Nat → Nat) (N : Nat) (σ : vS) (σ' : vS) (hf : fX3_readFormula N σ = some σ') : k_Met l yX3_readFormula wsX3_readFormula rmX3_readFormula D (tK cs) (wK cs ad) (k_A 41 ad) [.ref (ad 1)] σ none σ' := by
  refine k_of (cc := cX3_readFormula) (maxL := 4) (ret := none) (by decide) rfl (Nat.le_of_ble_eq_true rfl) ?_
  intro p e s m args below meth c ls H locs hcf hr hlk hK hZ hl hw
  generalize hQ0 : MQ below _ args s 0 0 _ = Q0
  obtain ⟨T0, hE0⟩ : ∃ T, T = fX3_readFormula N σ := ⟨_, rfl⟩
  have hR := hE0.trans hf
  have hN0 : T0 ≠ none := by rw [hR]; exact fun h => nomatch h
  have hx := hcf.1
  have hb := hcf.2.1
  have htk := hcf.2.2.2.2
  have hown := hcf.2.2.2.1
  unfold fX3_readFormula at hE0
  replace hl : lv_has ls 4 [(0, .ref (ad 1))] := hl
  have J92 : ∀ (σj92 : vS) (H : Heap) (locs : List Loc) (ls : Array Slot), lv_has ls 4 [(0, .ref (ad 1))] → k_H D (wK cs ad) (k_A 41 ad) σj92 s.heap H locs → T0 = jX3_readFormula_92 N σj92 → W p l e rmX3_readFormula s m args below meth c H locs 0 0 Q0 (F0 m 92 ls []) := by
    intro σj92 H locs ls hl hw hE0
    unfold jX3_readFormula_92 at hE0
    refine lv_aload_n hx hb dX3_readFormula_92 rfl (lv_at hl 0 rfl) ?_
    refine kg_X3_fault hcf hK (kw_154 htk) (x := (σj92.1 6)) dX3_readFormula_93 hw rfl ?_
    refine lv_if_ne (tgt := 115) hx hb dX3_readFormula_96 (by decide) (fun c4 => ?_) (fun c4 => ?_)
    · have hE0 := ite_f hE0 c4
      exact kret_v hcf hr hlk hK hw (rt1 hR hE0) hQ0 dX3_readFormula_115
    · have hE0 := ite_t hE0 c4
      refine lv_aload_n hx hb dX3_readFormula_99 rfl (lv_at hl 0 rfl) ?_
      refine kg_X3_text hcf hK (kw_150 htk) dX3_readFormula_100 hw ?_
      obtain ⟨r1, k1, hE0⟩ := bd1_e hE0 hN0
      refine k_callP (va_runV (As := []) (rest := []) hcf (mX4_here l D cs ad N σj92 r1 k1) (kcX4_here htk (kw_276 htk) ⟨Nat.le_of_ble_eq_true rfl, Nat.le_of_ble_eq_true rfl⟩) ⟨k_blind, va_recv (ci := 4) (q0 := 4) hK hw.1 rfl rfl, k_pre hK hZ hw⟩ rfl rfl hl.1 rfl (lv_room (Nat.le_of_ble_eq_true rfl)) dX3_readFormula_103 ⟨Nat.zero_le _, Nat.zero_le _⟩) ?_
      refine lv_bipush (v := 94) hx hb dX3_readFormula_106 rfl ?_
      refine lv_icmp_ne (tgt := 115) hx hb dX3_readFormula_108 (by decide) (fun c3 => ?_) (fun c3 => ?_)
      · have hE0 := ite_f hE0 c3
        exact kret_v hcf hr hlk hK hw (rt1 hR hE0) hQ0 dX3_readFormula_115
      · have hE0 := ite_t hE0 c3
        refine lv_aload_n hx hb dX3_readFormula_111 rfl (lv_at hl 0 rfl) ?_
        obtain ⟨σ2, k2, hE0⟩ := bd1_e hE0 hN0
        refine k_call (va_runV (As := []) (rest := []) hcf (mX3_readCharge l D cs ad N σj92 σ2 k2) (kcX3_readCharge htk (kw_336 htk) ⟨Nat.le_of_ble_eq_true rfl, Nat.le_of_ble_eq_true rfl⟩) ⟨k_blind, va_recv (ci := 3) (q0 := 1) hK hw.1 rfl rfl, k_pre hK hZ hw⟩ rfl rfl hl.1 rfl (lv_room (Nat.le_of_ble_eq_true rfl)) dX3_readFormula_112 ⟨Nat.zero_le _, Nat.zero_le _⟩) hw (fun H locs hw => ?_)
        exact kret_v hcf hr hlk hK hw (rt1 hR hE0) hQ0 dX3_readFormula_115
  refine lv_iconst (v := 1) hx hb dX3_readFormula_0 rfl ?_
  refine lv_istore_n hx hb dX3_readFormula_1 rfl hl (Nat.le_of_ble_eq_true rfl) rfl (fun ls (hl : lv_has ls 4 [(1, .int (1 : Int32)), (0, .ref (ad 1))]) => ?_)
  refine lv_iconst (v := 0) hx hb dX3_readFormula_2 rfl ?_
  refine lv_istore_n hx hb dX3_readFormula_3 rfl hl (Nat.le_of_ble_eq_true rfl) rfl (fun ls (hl : lv_has ls 4 [(2, .int (0 : Int32)), (1, .int (1 : Int32)), (0, .ref (ad 1))]) => ?_)
  obtain ⟨q, hq, hE0⟩ := bd1_e hE0 hN0
  refine k_ind (P := fun zz => ∀ (H : Heap) (locs : List Loc) (ls : Array Slot), lv_has ls 4 [(0, .ref (ad 1)), (1, .int zz.1), (2, .int zz.2.1)] → k_H D (wK cs ad) (k_A 41 ad) zz.2.2 s.heap H locs → W p l e rmX3_readFormula s m args below meth c H locs 0 0 Q0 (F0 m 4 ls [])) ?_ N _ hq H locs ls (lv_sub hl [2, 1, 0] rfl) hw
  intro sX T1 hE1 hN1 hC1 hX1
  obtain ⟨v1h4, v2h4, σh4⟩ := sX
  replace hE1 : T1 = bX3_readFormula_4 N v1h4 v2h4 σh4 := hE1
  unfold bX3_readFormula_4 at hE1
  have J69_4 : ∀ (v1j69 : Int32) (v2j69 : Int32) (σj69 : vS) (H : Heap) (locs : List Loc) (ls : Array Slot), lv_has ls 4 [(0, .ref (ad 1)), (1, .int v1j69), (2, .int v2j69)] → k_H D (wK cs ad) (k_A 41 ad) σj69 s.heap H locs → T1 = jX3_readFormula_69_4 N σj69 v1j69 v2j69 → W p l e rmX3_readFormula s m args below meth c H locs 0 0 Q0 (F0 m 69 ls []) := by
    intro v1j69 v2j69 σj69 H locs ls hl hw hE1
    unfold jX3_readFormula_69_4 at hE1
    refine lv_iload_n hx hb dX3_readFormula_69 rfl (lv_at hl 1 rfl) ?_
    refine lv_if_eq (tgt := 86) hx hb dX3_readFormula_70 (by decide) (fun c8 => ?_) (fun c8 => ?_)
    · have hE1 := ite_t hE1 c8
      obtain ⟨x6, e_x6, hE1⟩ := k_lte hE1
      refine lv_iinc (k := 2) (v := x6) hx hb dX3_readFormula_86 hl rfl (Eq.symm e_x6) (Nat.le_of_ble_eq_true rfl) rfl (fun ls (hl : lv_has ls 4 [(2, .int x6), (0, .ref (ad 1)), (1, .int v1j69)]) => ?_)
      refine lv_goto (tgt := 4) hx hb dX3_readFormula_89 (by decide) ?_
      exact hC1 _ hE1 H locs ls (lv_sub hl [1, 2, 0] rfl) hw
    · have hE1 := ite_f hE1 c8
      refine lv_aload_n hx hb dX3_readFormula_73 rfl (lv_at hl 0 rfl) ?_
      refine kg_X3_text hcf hK (kw_150 htk) dX3_readFormula_74 hw ?_
      refine lv_dup hx hb dX3_readFormula_77 rfl ?_
      refine kg_X4_place hcf hK (kw_93 htk) (x := (σj69.1 1)) dX3_readFormula_78 hw rfl ?_
      refine lv_iconst (v := 1) hx hb dX3_readFormula_81 rfl ?_
      refine lv_iadd hx hb dX3_readFormula_82 ?_
      refine kp_X4_place hcf hK (kw_93 htk) dX3_readFormula_83 hw (fun H locs hw => ?_)
      obtain ⟨x7, e_x7, hE1⟩ := k_lte hE1
      refine lv_iinc (k := 2) (v := x7) hx hb dX3_readFormula_86 hl rfl (Eq.symm e_x7) (Nat.le_of_ble_eq_true rfl) rfl (fun ls (hl : lv_has ls 4 [(2, .int x7), (0, .ref (ad 1)), (1, .int v1j69)]) => ?_)
      refine lv_goto (tgt := 4) hx hb dX3_readFormula_89 (by decide) ?_
      exact hC1 _ hE1 H locs ls (lv_sub hl [1, 2, 0] rfl) hw
  have J67_4 : ∀ (v2j67 : Int32) (σj67 : vS) (H : Heap) (locs : List Loc) (ls : Array Slot), lv_has ls 4 [(0, .ref (ad 1)), (2, .int v2j67)] → k_H D (wK cs ad) (k_A 41 ad) σj67 s.heap H locs → T1 = jX3_readFormula_67_4 N σj67 v2j67 → W p l e rmX3_readFormula s m args below meth c H locs 0 0 Q0 (F0 m 67 ls []) := by
    intro v2j67 σj67 H locs ls hl hw hE1
    unfold jX3_readFormula_67_4 at hE1
    refine lv_iconst (v := 0) hx hb dX3_readFormula_67 rfl ?_
    refine lv_istore_n hx hb dX3_readFormula_68 rfl hl (Nat.le_of_ble_eq_true rfl) rfl (fun ls (hl : lv_has ls 4 [(1, .int (0 : Int32)), (0, .ref (ad 1)), (2, .int v2j67)]) => ?_)
    exact J69_4 (0 : Int32) v2j67 σj67 H locs ls (lv_sub hl [1, 0, 2] rfl) hw hE1
  have J44_4 : ∀ (v2j44 : Int32) (σj44 : vS) (H : Heap) (locs : List Loc) (ls : Array Slot), lv_has ls 4 [(0, .ref (ad 1)), (2, .int v2j44)] → k_H D (wK cs ad) (k_A 41 ad) σj44 s.heap H locs → T1 = jX3_readFormula_44_4 N σj44 v2j44 → W p l e rmX3_readFormula s m args below meth c H locs 0 0 Q0 (F0 m 44 ls []) := by
    intro v2j44 σj44 H locs ls hl hw hE1
    unfold jX3_readFormula_44_4 at hE1
    refine lv_aload_n hx hb dX3_readFormula_44 rfl (lv_at hl 0 rfl) ?_
    refine kg_X3_fault hcf hK (kw_154 htk) (x := (σj44.1 6)) dX3_readFormula_45 hw rfl ?_
    refine lv_if_ne (tgt := 67) hx hb dX3_readFormula_48 (by decide) (fun c11 => ?_) (fun c11 => ?_)
    · have hE1 := ite_f hE1 c11
      exact J67_4 v2j44 σj44 H locs ls (lv_sub hl [0, 1] rfl) hw hE1
    · have hE1 := ite_t hE1 c11
      refine lv_aload_n hx hb dX3_readFormula_51 rfl (lv_at hl 0 rfl) ?_
      refine kg_X3_text hcf hK (kw_150 htk) dX3_readFormula_52 hw ?_
      obtain ⟨r9, k9, hE1⟩ := bd1_e hE1 hN1
      refine k_callP (va_runV (As := []) (rest := []) hcf (mX4_here l D cs ad N σj44 r9 k9) (kcX4_here htk (kw_276 htk) ⟨Nat.le_of_ble_eq_true rfl, Nat.le_of_ble_eq_true rfl⟩) ⟨k_blind, va_recv (ci := 4) (q0 := 4) hK hw.1 rfl rfl, k_pre hK hZ hw⟩ rfl rfl hl.1 rfl (lv_room (Nat.le_of_ble_eq_true rfl)) dX3_readFormula_55 ⟨Nat.zero_le _, Nat.zero_le _⟩) ?_
      refine lv_bipush (v := 46) hx hb dX3_readFormula_58 rfl ?_
      refine lv_icmp_ne (tgt := 67) hx hb dX3_readFormula_60 (by decide) (fun c10 => ?_) (fun c10 => ?_)
      · have hE1 := ite_f hE1 c10
        exact J67_4 v2j44 σj44 H locs ls (lv_sub hl [0, 1] rfl) hw hE1
      · have hE1 := ite_t hE1 c10
        refine lv_iconst (v := 1) hx hb dX3_readFormula_63 rfl ?_
        refine lv_goto (tgt := 68) hx hb dX3_readFormula_64 (by decide) ?_
        refine lv_istore_n hx hb dX3_readFormula_68 rfl hl (Nat.le_of_ble_eq_true rfl) rfl (fun ls (hl : lv_has ls 4 [(1, .int (1 : Int32)), (0, .ref (ad 1)), (2, .int v2j44)]) => ?_)
        exact J69_4 (1 : Int32) v2j44 σj44 H locs ls (lv_sub hl [1, 0, 2] rfl) hw hE1
  intro H locs ls hl hw
  replace hl : lv_has ls 4 [(0, .ref (ad 1)), (1, .int v1h4), (2, .int v2h4)] := hl
  replace hw : k_H D (wK cs ad) (k_A 41 ad) σh4 s.heap H locs := hw
  refine lv_iload_n hx hb dX3_readFormula_4 rfl (lv_at hl 2 rfl) ?_
  refine lv_bipush (v := 100) hx hb dX3_readFormula_5 rfl ?_
  refine lv_icmp_ge (tgt := 92) hx hb dX3_readFormula_7 (by decide) (fun c16 => ?_) (fun c16 => ?_)
  · have hE1 := ite_t hE1 c16
    have hq := hX1 _ hE1
    subst hq
    exact J92 σh4 H locs ls (lv_sub hl [0] rfl) hw hE0
  · have hE1 := ite_f hE1 c16
    refine lv_iload_n hx hb dX3_readFormula_10 rfl (lv_at hl 1 rfl) ?_
    refine lv_if_eq (tgt := 92) hx hb dX3_readFormula_11 (by decide) (fun c15 => ?_) (fun c15 => ?_)
    · have hE1 := ite_t hE1 c15
      have hq := hX1 _ hE1
      subst hq
      exact J92 σh4 H locs ls (lv_sub hl [0] rfl) hw hE0
    · have hE1 := ite_f hE1 c15
      refine lv_aload_n hx hb dX3_readFormula_14 rfl (lv_at hl 0 rfl) ?_
      obtain ⟨r5, σ5, k5, hE1⟩ := bd2_e hE1 hN1
      refine k_call (va_runV (As := []) (rest := []) hcf (mX3_readNumber l D cs ad N σh4 r5 σ5 k5) (kcX3_readNumber htk (kw_296 htk) ⟨Nat.le_of_ble_eq_true rfl, Nat.le_of_ble_eq_true rfl⟩) ⟨k_blind, va_recv (ci := 3) (q0 := 1) hK hw.1 rfl rfl, k_pre hK hZ hw⟩ rfl rfl hl.1 rfl (lv_room (Nat.le_of_ble_eq_true rfl)) dX3_readFormula_15 ⟨Nat.zero_le _, Nat.zero_le _⟩) hw (fun H locs hw => ?_)
      refine lv_istore_n hx hb dX3_readFormula_18 rfl hl (Nat.le_of_ble_eq_true rfl) rfl (fun ls (hl : lv_has ls 4 [(3, .int r5), (0, .ref (ad 1)), (1, .int v1h4), (2, .int v2h4)]) => ?_)
      refine lv_aload_n hx hb dX3_readFormula_19 rfl (lv_at hl 1 rfl) ?_
      refine kg_X3_fault hcf hK (kw_154 htk) (x := (σ5.1 6)) dX3_readFormula_20 hw rfl ?_
      refine lv_if_ne (tgt := 44) hx hb dX3_readFormula_23 (by decide) (fun c14 => ?_) (fun c14 => ?_)
      · have hE1 := ite_f hE1 c14
        exact J44_4 v2h4 σ5 H locs ls (lv_sub hl [1, 3] rfl) hw hE1
      · have hE1 := ite_t hE1 c14
        refine lv_aload_n hx hb dX3_readFormula_26 rfl (lv_at hl 1 rfl) ?_
        obtain ⟨σ12, k12, hE1⟩ := bd1_e hE1 hN1
        refine k_call (va_runV (As := []) (rest := []) hcf (mX3_readUnits l D cs ad N σ5 σ12 k12) (kcX3_readUnits htk (kw_303 htk) ⟨Nat.le_of_ble_eq_true rfl, Nat.le_of_ble_eq_true rfl⟩) ⟨k_blind, va_recv (ci := 3) (q0 := 1) hK hw.1 rfl rfl, k_pre hK hZ hw⟩ rfl rfl hl.1 rfl (lv_room (Nat.le_of_ble_eq_true rfl)) dX3_readFormula_27 ⟨Nat.zero_le _, Nat.zero_le _⟩) hw (fun H locs hw => ?_)
        refine lv_aload_n hx hb dX3_readFormula_30 rfl (lv_at hl 1 rfl) ?_
        refine kg_X3_totals hcf hK (kw_161 htk) dX3_readFormula_31 hw ?_
        refine lv_aload_n hx hb dX3_readFormula_34 rfl (lv_at hl 1 rfl) ?_
        refine kg_X3_sums hcf hK (kw_158 htk) dX3_readFormula_35 hw ?_
        refine lv_iconst (v := 0) hx hb dX3_readFormula_38 rfl ?_
        refine kaald_sums hcf hK (k := 26) dX3_readFormula_39 (by decide) (by decide) hw ?_
        refine lv_iload_n hx hb dX3_readFormula_40 rfl (lv_at hl 0 rfl) ?_
        obtain ⟨σ13, k13, hE1⟩ := bd1_e hE1 hN1
        refine k_call (va_runS (As := [.ref (ad 25), .ref (ad 26), .int r5]) (rest := []) hcf (mX3_addTimes l D cs ad N σ12 0 1 r5 σ13 k13 (by decide) (by decide)) (kcX3_addTimes htk (kw_333 htk) ⟨Nat.le_of_ble_eq_true rfl, Nat.le_of_ble_eq_true rfl⟩) ⟨k_blind, k_pre hK hZ hw⟩ rfl rfl hl.1 rfl (lv_room (Nat.le_of_ble_eq_true rfl)) dX3_readFormula_41 ⟨Nat.zero_le _, Nat.zero_le _⟩) hw (fun H locs hw => ?_)
        exact J44_4 v2h4 σ13 H locs ls (lv_sub hl [1, 3] rfl) hw hE1
def jX3_isTooMuch_28 (N : Nat) (σ : vS) : Option (Int32) :=
  if ((40 : Int32) < (σ.1 9)) then (
    some (1 : Int32)
  ) else (
    if ((-40 : Int32) ≤ (σ.1 9)) then (
      some (0 : Int32)
    ) else (
      some (1 : Int32)
    )
  )
def bX3_isTooMuch_2 (N : Nat) (σ : vS) (v1h2 : Int32) : Option ((Int32) ⊕ ((Unit) ⊕ (Int32))) :=
  if ((5 : Int32) ≤ v1h2) then (
    some (.inr (.inl ()))
  ) else (
    if (v1h2 < 0 ∨ 5 ≤ (v1h2).toNatClampNeg) then none else
    if ((lg_cmp (σ.2.2.2 0 ((v1h2).toNatClampNeg)) (40 : Int64)) ≤ 0) then (
      k_lt (v1h2 + (1 : Int32)) fun x4 =>
      some (.inl x4)
    ) else (
      some (.inr (.inr (1 : Int32)))
    )
  )
def fX3_isTooMuch (N : Nat) (σ : vS) : Option (Int32) :=
  bds (k_itr (fun zz => bX3_isTooMuch_2 N σ zz) N (0 : Int32)) fun _ => jX3_isTooMuch_28 N σ
abbrev rmX3_isTooMuch : Room := { frames := 0, cells := 0, slots := 0, locals := 0 }
abbrev wsX3_isTooMuch : List Cond := .code yX3_isTooMuch cX3_isTooMuch 2 (some .boolean) :: kws
theorem kcX3_isTooMuch {R : Room} {s : State} {args : Array Value} {own : String} {index : Nat} (htk : ∀ w ∈ kws, w.before args s = true) (hl : (Cond.methodLink own index yX3_isTooMuch).before args s = true) (hR : rmX3_isTooMuch.frames + 1 ≤ R.frames ∧ 8 + (2 + 11) + rmX3_isTooMuch.locals ≤ R.locals) : CallW R s args own RX3 index yX3_isTooMuch cX3_isTooMuch 2 (some .boolean) wsX3_isTooMuch rmX3_isTooMuch 0 0 0 :=
  ⟨callB_of 0 htk (k_good kc_347) rfl rfl rfl (kw_53 htk) hl (by decide +kernel) hR, (kw_346 htk), (kw_11 htk)⟩
set_option maxRecDepth 100000 in
set_option maxHeartbeats 4000000 in
theorem mX3_isTooMuch (l : Launch) (D : va_G) (cs : Nat → ClassId) (ad : Nat → Nat) (N : Nat) (σ : vS) (r : Int32) (hf : fX3_isTooMuch N σ = some r) : k_MP l yX3_isTooMuch wsX3_isTooMuch rmX3_isTooMuch D (tK cs) (wK cs ad) [.ref (ad 1)] σ (.int r) := by
  refine k_ofP (cc := cX3_isTooMuch) (maxL := 2) (ret := (some .boolean)) (by decide) rfl (Nat.le_of_ble_eq_true rfl) ?_
  intro p e s m args below meth c ls hcf hr hlk hK hZ hl hw
  generalize hQ0 : MQ below _ args s 0 0 _ = Q0
  obtain ⟨T0, hE0⟩ : ∃ T, T = fX3_isTooMuch N σ := ⟨_, rfl⟩
  have hR := hE0.trans hf
  have hN0 : T0 ≠ none := by rw [hR]; exact fun h => nomatch h
  have hx := hcf.1
  have hb := hcf.2.1
  have htk := hcf.2.2.2.2
  have hown := hcf.2.2.2.1
  unfold fX3_isTooMuch at hE0
  replace hl : lv_has ls 2 [(0, .ref (ad 1))] := hl
  have J28 : ∀ (ls : Array Slot), lv_has ls 2 [(0, .ref (ad 1))] → T0 = jX3_isTooMuch_28 N σ → W p l e rmX3_isTooMuch s m args below meth c s.heap [] 0 0 Q0 (F0 m 28 ls []) := by
    intro ls hl hE0
    unfold jX3_isTooMuch_28 at hE0
    refine lv_aload_n hx hb dX3_isTooMuch_28 rfl (lv_at hl 0 rfl) ?_
    refine kg_X3_charge hcf hK (kw_162 htk) (x := (σ.1 9)) dX3_isTooMuch_29 hw rfl ?_
    refine lv_bipush (v := 40) hx hb dX3_isTooMuch_32 rfl ?_
    refine lv_icmp_gt (tgt := 46) hx hb dX3_isTooMuch_34 (by decide) (fun c2 => ?_) (fun c2 => ?_)
    · have hE0 := ite_t hE0 c2
      refine lv_iconst (v := 1) hx hb dX3_isTooMuch_46 rfl ?_
      refine lv_goto (tgt := 51) hx hb dX3_isTooMuch_47 (by decide) ?_
      exact kretP_z hcf hr hlk hK hw (rt1 hR hE0) hQ0 rfl dX3_isTooMuch_51
    · have hE0 := ite_f hE0 c2
      refine lv_aload_n hx hb dX3_isTooMuch_37 rfl (lv_at hl 0 rfl) ?_
      refine kg_X3_charge hcf hK (kw_162 htk) (x := (σ.1 9)) dX3_isTooMuch_38 hw rfl ?_
      refine lv_bipush (v := -40) hx hb dX3_isTooMuch_41 rfl ?_
      refine lv_icmp_ge (tgt := 50) hx hb dX3_isTooMuch_43 (by decide) (fun c1 => ?_) (fun c1 => ?_)
      · have hE0 := ite_t hE0 c1
        refine lv_iconst (v := 0) hx hb dX3_isTooMuch_50 rfl ?_
        exact kretP_z hcf hr hlk hK hw (rt1 hR hE0) hQ0 rfl dX3_isTooMuch_51
      · have hE0 := ite_f hE0 c1
        refine lv_iconst (v := 1) hx hb dX3_isTooMuch_46 rfl ?_
        refine lv_goto (tgt := 51) hx hb dX3_isTooMuch_47 (by decide) ?_
        exact kretP_z hcf hr hlk hK hw (rt1 hR hE0) hQ0 rfl dX3_isTooMuch_51
  refine lv_iconst (v := 0) hx hb dX3_isTooMuch_0 rfl ?_
  refine lv_istore_n hx hb dX3_isTooMuch_1 rfl hl (Nat.le_of_ble_eq_true rfl) rfl (fun ls (hl : lv_has ls 2 [(1, .int (0 : Int32)), (0, .ref (ad 1))]) => ?_)
  obtain ⟨q, hq, hE0, hT0⟩ := bds_e hE0 hN0
  refine k_ind (P := fun zz => ∀ (ls : Array Slot), lv_has ls 2 [(0, .ref (ad 1)), (1, .int zz)] → W p l e rmX3_isTooMuch s m args below meth c s.heap [] 0 0 Q0 (F0 m 2 ls [])) ?_ N _ hq ls (lv_sub hl [1, 0] rfl)
  intro sX T1 hE1 hN1 hC1 hX1
  obtain ⟨v1h2, hsg⟩ : ∃ z, z = sX := ⟨_, rfl⟩
  subst hsg
  replace hE1 : T1 = bX3_isTooMuch_2 N σ v1h2 := hE1
  unfold bX3_isTooMuch_2 at hE1
  intro ls hl
  replace hl : lv_has ls 2 [(0, .ref (ad 1)), (1, .int v1h2)] := hl
  refine lv_iload_n hx hb dX3_isTooMuch_2 rfl (lv_at hl 1 rfl) ?_
  refine lv_iconst (v := 5) hx hb dX3_isTooMuch_3 rfl ?_
  refine lv_icmp_ge (tgt := 28) hx hb dX3_isTooMuch_4 (by decide) (fun c6 => ?_) (fun c6 => ?_)
  · have hE1 := ite_t hE1 c6
    have hq := hX1 _ hE1
    subst hq
    exact J28 ls (lv_sub hl [0] rfl) (hE0 _ rfl)
  · have hE1 := ite_f hE1 c6
    refine lv_aload_n hx hb dX3_isTooMuch_7 rfl (lv_at hl 0 rfl) ?_
    refine kg_X3_totals hcf hK (kw_161 htk) dX3_isTooMuch_8 hw ?_
    refine lv_iload_n hx hb dX3_isTooMuch_11 rfl (lv_at hl 1 rfl) ?_
    obtain ⟨g3, hE1⟩ := gd_e hE1 hN1
    refine kald_B0 hcf hK (x := (σ.2.2.2 0 ((v1h2).toNatClampNeg))) dX3_isTooMuch_12 g3 hw rfl ?_
    refine lv_ldc2 hx hb hown (kw_348 htk) dX3_isTooMuch_13 ?_
    refine W.lcmp hx hb dX3_isTooMuch_16 ?_
    refine lv_if_le (tgt := 22) hx hb dX3_isTooMuch_17 (by decide) (fun c5 => ?_) (fun c5 => ?_)
    · have hE1 := ite_t hE1 c5
      obtain ⟨x4, e_x4, hE1⟩ := k_lte hE1
      refine lv_iinc (k := 1) (v := x4) hx hb dX3_isTooMuch_22 hl rfl (Eq.symm e_x4) (Nat.le_of_ble_eq_true rfl) rfl (fun ls (hl : lv_has ls 2 [(1, .int x4), (0, .ref (ad 1))]) => ?_)
      refine lv_goto (tgt := 2) hx hb dX3_isTooMuch_25 (by decide) ?_
      exact hC1 _ hE1 ls (lv_sub hl [1, 0] rfl)
    · have hE1 := ite_f hE1 c5
      refine lv_iconst (v := 1) hx hb dX3_isTooMuch_20 rfl ?_
      have hq := hX1 _ hE1
      subst hq
      exact kretP_z hcf hr hlk hK hw (rt1 hR (hT0 _ rfl)) hQ0 rfl dX3_isTooMuch_21
