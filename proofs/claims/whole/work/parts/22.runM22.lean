def jX6_readCharge_70 (N : Nat) (σj70 : vS) (v1j70 : Int64) (v3j70 : Int32) : Option (vS) :=
  if (v3j70 = (43 : Int32)) then (
    if ((σj70.1 8) < 0 ∨ 6 ≤ ((σj70.1 8)).toNatClampNeg) then none else
    some (p_i (p_b σj70 0 (((σj70.1 8)).toNatClampNeg) v1j70) 3 ((σj70.1 3) + (1 : Int32)))
  ) else (
    if ((σj70.1 8) < 0 ∨ 6 ≤ ((σj70.1 8)).toNatClampNeg) then none else
    some (p_i (p_b σj70 0 (((σj70.1 8)).toNatClampNeg) (-v1j70)) 3 ((σj70.1 3) + (1 : Int32)))
  )
def jX6_readCharge_34 (N : Nat) (σj34 : vS) (v1j34 : Int64) : Option (vS) :=
  bd1 (fX6_charAt N σj34 (σj34.1 3)) fun r2 =>
  if (r2 = (43 : Int32)) then (
    bd1 (fX6_failIf N σj34 (0 : Int32) (-2 : Int32) (σj34.1 3)) fun σ3 =>
    jX6_readCharge_70 N σ3 v1j34 r2
  ) else (
    if (r2 = (45 : Int32)) then (
      bd1 (fX6_failIf N σj34 (0 : Int32) (-2 : Int32) (σj34.1 3)) fun σ7 =>
      jX6_readCharge_70 N σ7 v1j34 r2
    ) else (
      bd1 (fX6_failIf N σj34 (1 : Int32) (-2 : Int32) (σj34.1 3)) fun σ8 =>
      jX6_readCharge_70 N σ8 v1j34 r2
    )
  )
def fX6_readCharge (N : Nat) (σ : vS) : Option (vS) :=
  bd1 (fX6_noteCharge N σ (σ.1 3)) fun σ1 =>
  if ((σ1.1 4) = 0) then (
    bd2 (fX6_number0 N (p_i σ1 3 ((σ1.1 3) + (1 : Int32)))) fun r11 σ11 =>
    jX6_readCharge_34 N σ11 r11
  ) else (
    jX6_readCharge_34 N (p_i σ1 3 ((σ1.1 3) + (1 : Int32))) (0 : Int64)
  )
abbrev rmX6_readCharge : Room := { frames := 3, cells := 0, slots := 0, locals := 67 }
abbrev wsX6_readCharge : List Cond := .code yX6_readCharge cX6_readCharge 4 none :: kws
theorem kcX6_readCharge {R : Room} {s : State} {args : Array Value} {own : String} {index : Nat} (htk : ∀ w ∈ kws, w.before args s = true) (hl : (Cond.methodLink own index yX6_readCharge).before args s = true) (hR : rmX6_readCharge.frames + 1 ≤ R.frames ∧ 8 + (4 + 11) + rmX6_readCharge.locals ≤ R.locals) : CallW R s args own RX6 index yX6_readCharge cX6_readCharge 4 none wsX6_readCharge rmX6_readCharge 0 0 0 :=
  ⟨callB_of 0 htk (k_good kc_846) rfl rfl rfl (kw_58 htk) hl (by decide +kernel) hR, (kw_845 htk), (kw_37 htk)⟩
set_option maxRecDepth 100000 in
set_option maxHeartbeats 4000000 in
theorem mX6_readCharge (l : Launch) (D : va_G) (cs : Nat → ClassId) (ad : Nat → Nat) (N : Nat) (σ : vS) (σ' : vS) (hf : fX6_readCharge N σ = some σ') : k_Met l yX6_readCharge wsX6_readCharge rmX6_readCharge D (tM cs) (wM cs ad) (k_A 17 ad) [.ref (ad 0)] σ none σ' := by
  refine k_of (cc := cX6_readCharge) (maxL := 4) (ret := none) (by decide) rfl (Nat.le_of_ble_eq_true rfl) ?_
  intro p e s m args below meth c ls H locs hcf hr hlk hK hZ hl hw
  generalize hQ0 : MQ below _ args s 0 0 _ = Q0
  obtain ⟨T0, hE0⟩ : ∃ T, T = fX6_readCharge N σ := ⟨_, rfl⟩
  have hR := hE0.trans hf
  have hN0 : T0 ≠ none := by rw [hR]; exact fun h => nomatch h
  have hx := hcf.1
  have hb := hcf.2.1
  have htk := hcf.2.2.2.2
  have hown := hcf.2.2.2.1
  unfold fX6_readCharge at hE0
  replace hl : lv_has ls 4 [(0, .ref (ad 0))] := hl
  have J70 : ∀ (v1j70 : Int64) (v3j70 : Int32) (σj70 : vS) (H : Heap) (locs : List Loc) (ls : Array Slot), lv_has ls 4 [(0, .ref (ad 0)), (1, .long v1j70), (3, .int v3j70)] → k_H D (wM cs ad) (k_A 17 ad) σj70 s.heap H locs → T0 = jX6_readCharge_70 N σj70 v1j70 v3j70 → W p l e rmX6_readCharge s m args below meth c H locs 0 0 Q0 (F0 m 70 ls []) := by
    intro v1j70 v3j70 σj70 H locs ls hl hw hE0
    unfold jX6_readCharge_70 at hE0
    refine lv_aload_n hx hb dX6_readCharge_70 rfl (lv_at hl 0 rfl) ?_
    refine kg_X6_charges hcf hK (kw_693 htk) dX6_readCharge_71 hw ?_
    refine lv_aload_n hx hb dX6_readCharge_74 rfl (lv_at hl 0 rfl) ?_
    refine kg_X6_count hcf hK (kw_689 htk) (x := (σj70.1 8)) dX6_readCharge_75 hw rfl ?_
    refine lv_iload_n hx hb dX6_readCharge_78 rfl (lv_at hl 2 rfl) ?_
    refine lv_bipush (v := 43) hx hb dX6_readCharge_79 rfl ?_
    refine lv_icmp_ne (tgt := 88) hx hb dX6_readCharge_81 (by decide) (fun c6 => ?_) (fun c6 => ?_)
    · have hE0 := ite_f hE0 c6
      refine lv_lload_n hx hb dX6_readCharge_88 rfl (lv_at hl 1 rfl) ?_
      refine lv_lneg hx hb dX6_readCharge_89 ?_
      obtain ⟨g4, hE0⟩ := gd_e hE0 hN0
      refine mast_B0 hcf hK dX6_readCharge_90 g4 hw (fun H locs hw => ?_)
      refine lv_aload_n hx hb dX6_readCharge_91 rfl (lv_at hl 0 rfl) ?_
      refine lv_dup hx hb dX6_readCharge_92 rfl ?_
      refine kg_X6_pos hcf hK (kw_684 htk) (x := (σj70.1 3)) dX6_readCharge_93 hw rfl ?_
      refine lv_iconst (v := 1) hx hb dX6_readCharge_96 rfl ?_
      refine lv_iadd hx hb dX6_readCharge_97 ?_
      refine kp_X6_pos hcf hK (kw_684 htk) dX6_readCharge_98 hw (fun H locs hw => ?_)
      exact kret_v hcf hr hlk hK hw (rt1 hR hE0) hQ0 dX6_readCharge_101
    · have hE0 := ite_t hE0 c6
      refine lv_lload_n hx hb dX6_readCharge_84 rfl (lv_at hl 1 rfl) ?_
      refine lv_goto (tgt := 90) hx hb dX6_readCharge_85 (by decide) ?_
      obtain ⟨g5, hE0⟩ := gd_e hE0 hN0
      refine mast_B0 hcf hK dX6_readCharge_90 g5 hw (fun H locs hw => ?_)
      refine lv_aload_n hx hb dX6_readCharge_91 rfl (lv_at hl 0 rfl) ?_
      refine lv_dup hx hb dX6_readCharge_92 rfl ?_
      refine kg_X6_pos hcf hK (kw_684 htk) (x := (σj70.1 3)) dX6_readCharge_93 hw rfl ?_
      refine lv_iconst (v := 1) hx hb dX6_readCharge_96 rfl ?_
      refine lv_iadd hx hb dX6_readCharge_97 ?_
      refine kp_X6_pos hcf hK (kw_684 htk) dX6_readCharge_98 hw (fun H locs hw => ?_)
      exact kret_v hcf hr hlk hK hw (rt1 hR hE0) hQ0 dX6_readCharge_101
  have J34 : ∀ (v1j34 : Int64) (σj34 : vS) (H : Heap) (locs : List Loc) (ls : Array Slot), lv_has ls 4 [(0, .ref (ad 0)), (1, .long v1j34)] → k_H D (wM cs ad) (k_A 17 ad) σj34 s.heap H locs → T0 = jX6_readCharge_34 N σj34 v1j34 → W p l e rmX6_readCharge s m args below meth c H locs 0 0 Q0 (F0 m 34 ls []) := by
    intro v1j34 σj34 H locs ls hl hw hE0
    unfold jX6_readCharge_34 at hE0
    refine lv_aload_n hx hb dX6_readCharge_34 rfl (lv_at hl 0 rfl) ?_
    refine lv_aload_n hx hb dX6_readCharge_35 rfl (lv_at hl 0 rfl) ?_
    refine kg_X6_pos hcf hK (kw_684 htk) (x := (σj34.1 3)) dX6_readCharge_36 hw rfl ?_
    obtain ⟨r2, k2, hE0⟩ := bd1_e hE0 hN0
    refine k_callP (va_runV (As := [.int (σj34.1 3)]) (rest := []) hcf (mX6_charAt l D cs ad N σj34 (σj34.1 3) r2 k2) (kcX6_charAt htk (kw_796 htk) ⟨Nat.le_of_ble_eq_true rfl, Nat.le_of_ble_eq_true rfl⟩) ⟨k_blind, va_recv (ci := 6) (q0 := 0) hK hw.1 rfl rfl, k_pre hK hZ hw⟩ rfl rfl hl.1 rfl (lv_room (Nat.le_of_ble_eq_true rfl)) dX6_readCharge_39 ⟨Nat.zero_le _, Nat.zero_le _⟩) ?_
    refine lv_istore_n hx hb dX6_readCharge_42 rfl hl (Nat.le_of_ble_eq_true rfl) rfl (fun ls (hl : lv_has ls 4 [(3, .int r2), (0, .ref (ad 0)), (1, .long v1j34)]) => ?_)
    refine lv_aload_n hx hb dX6_readCharge_43 rfl (lv_at hl 1 rfl) ?_
    refine lv_iload_n hx hb dX6_readCharge_44 rfl (lv_at hl 0 rfl) ?_
    refine lv_bipush (v := 43) hx hb dX6_readCharge_45 rfl ?_
    refine lv_icmp_eq (tgt := 60) hx hb dX6_readCharge_47 (by decide) (fun c10 => ?_) (fun c10 => ?_)
    · have hE0 := ite_t hE0 c10
      refine lv_iconst (v := 0) hx hb dX6_readCharge_60 rfl ?_
      refine lv_bipush (v := -2) hx hb dX6_readCharge_61 rfl ?_
      refine lv_aload_n hx hb dX6_readCharge_63 rfl (lv_at hl 1 rfl) ?_
      refine kg_X6_pos hcf hK (kw_684 htk) (x := (σj34.1 3)) dX6_readCharge_64 hw rfl ?_
      obtain ⟨σ3, k3, hE0⟩ := bd1_e hE0 hN0
      refine k_call (va_runV (As := [.int (0 : Int32), .int (-2 : Int32), .int (σj34.1 3)]) (rest := []) hcf (mX6_failIf l D cs ad N σj34 (0 : Int32) (-2 : Int32) (σj34.1 3) σ3 k3) (kcX6_failIf htk (kw_800 htk) ⟨Nat.le_of_ble_eq_true rfl, Nat.le_of_ble_eq_true rfl⟩) ⟨k_blind, va_recv (ci := 6) (q0 := 0) hK hw.1 rfl rfl, k_pre hK hZ hw⟩ rfl rfl hl.1 rfl (lv_room (Nat.le_of_ble_eq_true rfl)) dX6_readCharge_67 ⟨Nat.zero_le _, Nat.zero_le _⟩) hw (fun H locs hw => ?_)
      exact J70 v1j34 r2 σ3 H locs ls (lv_sub hl [1, 2, 0] rfl) hw hE0
    · have hE0 := ite_f hE0 c10
      refine lv_iload_n hx hb dX6_readCharge_50 rfl (lv_at hl 0 rfl) ?_
      refine lv_bipush (v := 45) hx hb dX6_readCharge_51 rfl ?_
      refine lv_icmp_eq (tgt := 60) hx hb dX6_readCharge_53 (by decide) (fun c9 => ?_) (fun c9 => ?_)
      · have hE0 := ite_t hE0 c9
        refine lv_iconst (v := 0) hx hb dX6_readCharge_60 rfl ?_
        refine lv_bipush (v := -2) hx hb dX6_readCharge_61 rfl ?_
        refine lv_aload_n hx hb dX6_readCharge_63 rfl (lv_at hl 1 rfl) ?_
        refine kg_X6_pos hcf hK (kw_684 htk) (x := (σj34.1 3)) dX6_readCharge_64 hw rfl ?_
        obtain ⟨σ7, k7, hE0⟩ := bd1_e hE0 hN0
        refine k_call (va_runV (As := [.int (0 : Int32), .int (-2 : Int32), .int (σj34.1 3)]) (rest := []) hcf (mX6_failIf l D cs ad N σj34 (0 : Int32) (-2 : Int32) (σj34.1 3) σ7 k7) (kcX6_failIf htk (kw_800 htk) ⟨Nat.le_of_ble_eq_true rfl, Nat.le_of_ble_eq_true rfl⟩) ⟨k_blind, va_recv (ci := 6) (q0 := 0) hK hw.1 rfl rfl, k_pre hK hZ hw⟩ rfl rfl hl.1 rfl (lv_room (Nat.le_of_ble_eq_true rfl)) dX6_readCharge_67 ⟨Nat.zero_le _, Nat.zero_le _⟩) hw (fun H locs hw => ?_)
        exact J70 v1j34 r2 σ7 H locs ls (lv_sub hl [1, 2, 0] rfl) hw hE0
      · have hE0 := ite_f hE0 c9
        refine lv_iconst (v := 1) hx hb dX6_readCharge_56 rfl ?_
        refine lv_goto (tgt := 61) hx hb dX6_readCharge_57 (by decide) ?_
        refine lv_bipush (v := -2) hx hb dX6_readCharge_61 rfl ?_
        refine lv_aload_n hx hb dX6_readCharge_63 rfl (lv_at hl 1 rfl) ?_
        refine kg_X6_pos hcf hK (kw_684 htk) (x := (σj34.1 3)) dX6_readCharge_64 hw rfl ?_
        obtain ⟨σ8, k8, hE0⟩ := bd1_e hE0 hN0
        refine k_call (va_runV (As := [.int (1 : Int32), .int (-2 : Int32), .int (σj34.1 3)]) (rest := []) hcf (mX6_failIf l D cs ad N σj34 (1 : Int32) (-2 : Int32) (σj34.1 3) σ8 k8) (kcX6_failIf htk (kw_800 htk) ⟨Nat.le_of_ble_eq_true rfl, Nat.le_of_ble_eq_true rfl⟩) ⟨k_blind, va_recv (ci := 6) (q0 := 0) hK hw.1 rfl rfl, k_pre hK hZ hw⟩ rfl rfl hl.1 rfl (lv_room (Nat.le_of_ble_eq_true rfl)) dX6_readCharge_67 ⟨Nat.zero_le _, Nat.zero_le _⟩) hw (fun H locs hw => ?_)
        exact J70 v1j34 r2 σ8 H locs ls (lv_sub hl [1, 2, 0] rfl) hw hE0
  refine lv_aload_n hx hb dX6_readCharge_0 rfl (lv_at hl 0 rfl) ?_
  refine lv_aload_n hx hb dX6_readCharge_1 rfl (lv_at hl 0 rfl) ?_
  refine kg_X6_pos hcf hK (kw_684 htk) (x := (σ.1 3)) dX6_readCharge_2 hw rfl ?_
  obtain ⟨σ1, k1, hE0⟩ := bd1_e hE0 hN0
  refine k_call (va_runV (As := [.int (σ.1 3)]) (rest := []) hcf (mX6_noteCharge l D cs ad N σ (σ.1 3) σ1 k1) (kcX6_noteCharge htk (kw_812 htk) ⟨Nat.le_of_ble_eq_true rfl, Nat.le_of_ble_eq_true rfl⟩) ⟨k_blind, va_recv (ci := 6) (q0 := 0) hK hw.1 rfl rfl, k_pre hK hZ hw⟩ rfl rfl hl.1 rfl (lv_room (Nat.le_of_ble_eq_true rfl)) dX6_readCharge_5 ⟨Nat.zero_le _, Nat.zero_le _⟩) hw (fun H locs hw => ?_)
  refine lv_aload_n hx hb dX6_readCharge_8 rfl (lv_at hl 0 rfl) ?_
  refine lv_dup hx hb dX6_readCharge_9 rfl ?_
  refine kg_X6_pos hcf hK (kw_684 htk) (x := (σ1.1 3)) dX6_readCharge_10 hw rfl ?_
  refine lv_iconst (v := 1) hx hb dX6_readCharge_13 rfl ?_
  refine lv_iadd hx hb dX6_readCharge_14 ?_
  refine kp_X6_pos hcf hK (kw_684 htk) dX6_readCharge_15 hw (fun H locs hw => ?_)
  refine lv_aload_n hx hb dX6_readCharge_18 rfl (lv_at hl 0 rfl) ?_
  refine kg_X6_fault hcf hK (kw_685 htk) (x := (σ1.1 4)) dX6_readCharge_19 hw rfl ?_
  refine lv_if_ne (tgt := 32) hx hb dX6_readCharge_22 (by decide) (fun c12 => ?_) (fun c12 => ?_)
  · have hE0 := ite_f hE0 c12
    refine lv_lconst (v := 0) hx hb dX6_readCharge_32 rfl ?_
    refine lv_lstore_n hx hb dX6_readCharge_33 rfl hl (Nat.le_of_ble_eq_true rfl) rfl (fun ls (hl : lv_has ls 4 [(1, .long (0 : Int64)), (0, .ref (ad 0))]) => ?_)
    exact J34 (0 : Int64) (p_i σ1 3 ((σ1.1 3) + (1 : Int32))) H locs ls (lv_sub hl [1, 0] rfl) hw hE0
  · have hE0 := ite_t hE0 c12
    refine lv_aload_n hx hb dX6_readCharge_25 rfl (lv_at hl 0 rfl) ?_
    obtain ⟨r11, σ11, k11, hE0⟩ := bd2_e hE0 hN0
    refine k_call (va_runV (As := []) (rest := []) hcf (mX6_number0 l D cs ad N (p_i σ1 3 ((σ1.1 3) + (1 : Int32))) r11 σ11 k11) (kcX6_number0 htk (kw_821 htk) ⟨Nat.le_of_ble_eq_true rfl, Nat.le_of_ble_eq_true rfl⟩) ⟨k_blind, va_recv (ci := 6) (q0 := 0) hK hw.1 rfl rfl, k_pre hK hZ hw⟩ rfl rfl hl.1 rfl (lv_room (Nat.le_of_ble_eq_true rfl)) dX6_readCharge_26 ⟨Nat.zero_le _, Nat.zero_le _⟩) hw (fun H locs hw => ?_)
    refine lv_goto (tgt := 33) hx hb dX6_readCharge_29 (by decide) ?_
    refine lv_lstore_n hx hb dX6_readCharge_33 rfl hl (Nat.le_of_ble_eq_true rfl) rfl (fun ls (hl : lv_has ls 4 [(1, .long r11), (0, .ref (ad 0))]) => ?_)
    exact J34 r11 σ11 H locs ls (lv_sub hl [1, 0] rfl) hw hE0
def jX6_readFormula_310 (N : Nat) (σj310 : vS) (v2j310 : Int32) : Option (vS) :=
  if ((σj310.1 8) < 0 ∨ 6 ≤ ((σj310.1 8)).toNatClampNeg) then none else
  bd1 (fX6_failIf N σj310 v2j310 (-6 : Int32) (σj310.2.1 2 (((σj310.1 8)).toNatClampNeg))) fun σ9 =>
  some (p_i σ9 8 ((σ9.1 8) + (1 : Int32)))
def bX6_readFormula_269 (N : Nat) (σj267 : vS) (v2h269 : Int32) (v3h269 : Int32) : Option ((Int32 × Int32) ⊕ (Int32)) :=
  if ((5 : Int32) ≤ v3h269) then (
    some (.inr v2h269)
  ) else (
    if (v2h269 = 0) then (
      if ((((5 : Int32) * (σj267.1 8)) + v3h269) < 0 ∨ 30 ≤ ((((5 : Int32) * (σj267.1 8)) + v3h269)).toNatClampNeg) then none else
      if ((lg_cmp (σj267.2.2.2 1 (((((5 : Int32) * (σj267.1 8)) + v3h269)).toNatClampNeg)) (40 : Int64)) ≤ 0) then (
        k_lt (v3h269 + (1 : Int32)) fun x12 =>
        some (.inl ((0 : Int32), x12))
      ) else (
        k_lt (v3h269 + (1 : Int32)) fun x13 =>
        some (.inl ((1 : Int32), x13))
      )
    ) else (
      k_lt (v3h269 + (1 : Int32)) fun x10 =>
      some (.inl ((1 : Int32), x10))
    )
  )
def jX6_readFormula_267 (N : Nat) (σj267 : vS) (v2j267 : Int32) : Option (vS) :=
  bd1 (k_itr (fun zz => bX6_readFormula_269 N σj267 zz.1 zz.2) N (v2j267, (0 : Int32))) fun q => jX6_readFormula_310 N σj267 q
def jX6_readFormula_261 (N : Nat) (σj261 : vS) : Option (vS) :=
  jX6_readFormula_267 N σj261 (1 : Int32)
def jX6_readFormula_216 (N : Nat) (σj216 : vS) : Option (vS) :=
  if ((σj216.1 8) < 0 ∨ 6 ≤ ((σj216.1 8)).toNatClampNeg) then none else
  if ((σj216.1 8) < 0 ∨ 6 ≤ ((σj216.1 8)).toNatClampNeg) then none else
  if (0 < (lg_cmp (σj216.2.2.2 0 (((σj216.1 8)).toNatClampNeg)) (40 : Int64))) then (
    jX6_readFormula_261 N (p_a σj216 3 (((σj216.1 8)).toNatClampNeg) (σj216.1 3))
  ) else (
    if ((σj216.1 8) < 0 ∨ 6 ≤ ((σj216.1 8)).toNatClampNeg) then none else
    if (0 ≤ (lg_cmp (σj216.2.2.2 0 (((σj216.1 8)).toNatClampNeg)) (-40 : Int64))) then (
      jX6_readFormula_267 N (p_a σj216 3 (((σj216.1 8)).toNatClampNeg) (σj216.1 3)) (0 : Int32)
    ) else (
      jX6_readFormula_261 N (p_a σj216 3 (((σj216.1 8)).toNatClampNeg) (σj216.1 3))
    )
  )
def jX6_readFormula_192 (N : Nat) (σj192 : vS) : Option (vS) :=
  if ((σj192.1 4) = 0) then (
    bd1 (fX6_charAt N σj192 (σj192.1 3)) fun r20 =>
    if (r20 = (94 : Int32)) then (
      bd1 (fX6_readCharge N σj192) fun σ21 =>
      jX6_readFormula_216 N σ21
    ) else (
      jX6_readFormula_216 N σj192
    )
  ) else (
    jX6_readFormula_216 N σj192
  )
def bX6_readFormula_155 (N : Nat) (σh155 : vS) : Option ((vS) ⊕ (vS)) :=
  if ((σh155.1 4) = 0) then (
    bd1 (fX6_charAt N σh155 (σh155.1 3)) fun r24 =>
    if (r24 = (46 : Int32)) then (
      bd1 (fX6_readPart N (p_i σh155 3 ((σh155.1 3) + (1 : Int32)))) fun σ25 =>
      some (.inl σ25)
    ) else (
      some (.inr σh155)
    )
  ) else (
    some (.inr σh155)
  )
def jX6_readFormula_118 (N : Nat) (σj118 : vS) : Option (vS) :=
  bd1 (fX6_noteCharge N σj118 (σj118.1 3)) fun σ30 =>
  if ((σ30.1 8) < 0 ∨ 6 ≤ ((σ30.1 8)).toNatClampNeg) then none else
  jX6_readFormula_216 N (p_i (p_b σ30 0 (((σ30.1 8)).toNatClampNeg) (-1 : Int64)) 3 ((σ30.1 3) + (3 : Int32)))
def jX6_readFormula_60 (N : Nat) (σj60 : vS) : Option (vS) :=
  bd1 (fX6_charAt N σj60 (σj60.1 3)) fun r4 =>
  if (r4 = (101 : Int32)) then (
    bd1 (fX6_charAt N σj60 ((σj60.1 3) + (1 : Int32))) fun r28 =>
    if (r28 = (94 : Int32)) then (
      bd1 (fX6_charAt N σj60 ((σj60.1 3) + (2 : Int32))) fun r32 =>
      if (r32 = (45 : Int32)) then (
        bd1 (fX6_failIf N σj60 (0 : Int32) (-2 : Int32) (σj60.1 3)) fun σ33 =>
        jX6_readFormula_118 N σ33
      ) else (
        bd1 (fX6_failIf N σj60 (1 : Int32) (-2 : Int32) (σj60.1 3)) fun σ34 =>
        jX6_readFormula_118 N σ34
      )
    ) else (
      bd1 (fX6_failIf N σj60 (1 : Int32) (-2 : Int32) (σj60.1 3)) fun σ29 =>
      jX6_readFormula_118 N σ29
    )
  ) else (
    bd1 (fX6_readPart N σj60) fun σ5 =>
    bd1 (k_itr (fun zz => bX6_readFormula_155 N zz) N σ5) fun q => jX6_readFormula_192 N q
  )
def bX6_readFormula_35 (N : Nat) (v2h35 : Int32) (σh35 : vS) : Option ((Int32 × vS) ⊕ (vS)) :=
  if ((5 : Int32) ≤ v2h35) then (
    some (.inr σh35)
  ) else (
    if ((((5 : Int32) * (σh35.1 8)) + v2h35) < 0 ∨ 30 ≤ ((((5 : Int32) * (σh35.1 8)) + v2h35)).toNatClampNeg) then none else
    k_lt (v2h35 + (1 : Int32)) fun x39 =>
    some (.inl (x39, (p_b σh35 1 (((((5 : Int32) * (σh35.1 8)) + v2h35)).toNatClampNeg) (0 : Int64))))
  )
def fX6_readFormula (N : Nat) (σ : vS) (p1 : Int32) : Option (vS) :=
  if ((σ.1 8) < 0 ∨ 6 ≤ ((σ.1 8)).toNatClampNeg) then none else
  if ((σ.1 8) < 0 ∨ 6 ≤ ((σ.1 8)).toNatClampNeg) then none else
  if ((σ.1 8) < 0 ∨ 6 ≤ ((σ.1 8)).toNatClampNeg) then none else
  bd1 (k_itr (fun zz => bX6_readFormula_35 N zz.1 zz.2) N ((0 : Int32), (p_b (p_a (p_a σ 2 (((σ.1 8)).toNatClampNeg) (σ.1 3)) 4 (((σ.1 8)).toNatClampNeg) (vp_nar .boolean p1)) 0 (((σ.1 8)).toNatClampNeg) (0 : Int64)))) fun q => jX6_readFormula_60 N q
abbrev rmX6_readFormula : Room := { frames := 5, cells := 0, slots := 0, locals := 119 }
abbrev wsX6_readFormula : List Cond := .code yX6_readFormula cX6_readFormula 4 none :: kws
theorem kcX6_readFormula {R : Room} {s : State} {args : Array Value} {own : String} {index : Nat} (htk : ∀ w ∈ kws, w.before args s = true) (hl : (Cond.methodLink own index yX6_readFormula).before args s = true) (hR : rmX6_readFormula.frames + 1 ≤ R.frames ∧ 8 + (4 + 11) + rmX6_readFormula.locals ≤ R.locals) : CallW R s args own RX6 index yX6_readFormula cX6_readFormula 4 none wsX6_readFormula rmX6_readFormula 0 0 1 :=
  ⟨callB_of 1 htk (k_good kc_811) rfl rfl rfl (kw_58 htk) hl (by decide +kernel) hR, (kw_810 htk), (kw_30 htk)⟩
set_option maxRecDepth 100000 in
set_option maxHeartbeats 4000000 in
theorem mX6_readFormula (l : Launch) (D : va_G) (cs : Nat → ClassId) (ad : Nat → Nat) (N : Nat) (σ : vS) (p1 : Int32) (σ' : vS) (hf : fX6_readFormula N σ p1 = some σ') : k_Met l yX6_readFormula wsX6_readFormula rmX6_readFormula D (tM cs) (wM cs ad) (k_A 17 ad) [.ref (ad 0), .int p1] σ none σ' := by
  refine k_of (cc := cX6_readFormula) (maxL := 4) (ret := none) (by decide) rfl (Nat.le_of_ble_eq_true rfl) ?_
  intro p e s m args below meth c ls H locs hcf hr hlk hK hZ hl hw
  generalize hQ0 : MQ below _ args s 0 0 _ = Q0
  obtain ⟨T0, hE0⟩ : ∃ T, T = fX6_readFormula N σ p1 := ⟨_, rfl⟩
  have hR := hE0.trans hf
  have hN0 : T0 ≠ none := by rw [hR]; exact fun h => nomatch h
  have hx := hcf.1
  have hb := hcf.2.1
  have htk := hcf.2.2.2.2
  have hown := hcf.2.2.2.1
  unfold fX6_readFormula at hE0
  replace hl : lv_has ls 4 [(0, .ref (ad 0)), (1, .int p1)] := hl
  have J310 : ∀ (v2j310 : Int32) (σj310 : vS) (H : Heap) (locs : List Loc) (ls : Array Slot), lv_has ls 4 [(0, .ref (ad 0)), (2, .int v2j310)] → k_H D (wM cs ad) (k_A 17 ad) σj310 s.heap H locs → T0 = jX6_readFormula_310 N σj310 v2j310 → W p l e rmX6_readFormula s m args below meth c H locs 0 0 Q0 (F0 m 310 ls []) := by
    intro v2j310 σj310 H locs ls hl hw hE0
    unfold jX6_readFormula_310 at hE0
    refine lv_aload_n hx hb dX6_readFormula_310 rfl (lv_at hl 0 rfl) ?_
    refine lv_iload_n hx hb dX6_readFormula_311 rfl (lv_at hl 1 rfl) ?_
    refine lv_bipush (v := -6) hx hb dX6_readFormula_312 rfl ?_
    refine lv_aload_n hx hb dX6_readFormula_314 rfl (lv_at hl 0 rfl) ?_
    refine kg_X6_begins hcf hK (kw_690 htk) dX6_readFormula_315 hw ?_
    refine lv_aload_n hx hb dX6_readFormula_318 rfl (lv_at hl 0 rfl) ?_
    refine kg_X6_count hcf hK (kw_689 htk) (x := (σj310.1 8)) dX6_readFormula_319 hw rfl ?_
    obtain ⟨g8, hE0⟩ := gd_e hE0 hN0
    refine mald_A2 hcf hK (x := (σj310.2.1 2 (((σj310.1 8)).toNatClampNeg))) dX6_readFormula_322 g8 hw rfl ?_
    obtain ⟨σ9, k9, hE0⟩ := bd1_e hE0 hN0
    refine k_call (va_runV (As := [.int v2j310, .int (-6 : Int32), .int (σj310.2.1 2 (((σj310.1 8)).toNatClampNeg))]) (rest := []) hcf (mX6_failIf l D cs ad N σj310 v2j310 (-6 : Int32) (σj310.2.1 2 (((σj310.1 8)).toNatClampNeg)) σ9 k9) (kcX6_failIf htk (kw_800 htk) ⟨Nat.le_of_ble_eq_true rfl, Nat.le_of_ble_eq_true rfl⟩) ⟨k_blind, va_recv (ci := 6) (q0 := 0) hK hw.1 rfl rfl, k_pre hK hZ hw⟩ rfl rfl hl.1 rfl (lv_room (Nat.le_of_ble_eq_true rfl)) dX6_readFormula_323 ⟨Nat.zero_le _, Nat.zero_le _⟩) hw (fun H locs hw => ?_)
    refine lv_aload_n hx hb dX6_readFormula_326 rfl (lv_at hl 0 rfl) ?_
    refine lv_dup hx hb dX6_readFormula_327 rfl ?_
    refine kg_X6_count hcf hK (kw_689 htk) (x := (σ9.1 8)) dX6_readFormula_328 hw rfl ?_
    refine lv_iconst (v := 1) hx hb dX6_readFormula_331 rfl ?_
    refine lv_iadd hx hb dX6_readFormula_332 ?_
    refine kp_X6_count hcf hK (kw_689 htk) dX6_readFormula_333 hw (fun H locs hw => ?_)
    exact kret_v hcf hr hlk hK hw (rt1 hR hE0) hQ0 dX6_readFormula_336
  have J267 : ∀ (v2j267 : Int32) (σj267 : vS) (H : Heap) (locs : List Loc) (ls : Array Slot), lv_has ls 4 [(0, .ref (ad 0)), (2, .int v2j267)] → k_H D (wM cs ad) (k_A 17 ad) σj267 s.heap H locs → T0 = jX6_readFormula_267 N σj267 v2j267 → W p l e rmX6_readFormula s m args below meth c H locs 0 0 Q0 (F0 m 267 ls []) := by
    intro v2j267 σj267 H locs ls hl hw hE0
    unfold jX6_readFormula_267 at hE0
    refine lv_iconst (v := 0) hx hb dX6_readFormula_267 rfl ?_
    refine lv_istore_n hx hb dX6_readFormula_268 rfl hl (Nat.le_of_ble_eq_true rfl) rfl (fun ls (hl : lv_has ls 4 [(3, .int (0 : Int32)), (0, .ref (ad 0)), (2, .int v2j267)]) => ?_)
    obtain ⟨q, hq, hE0⟩ := bd1_e hE0 hN0
    refine k_ind (P := fun zz => ∀ (ls : Array Slot), lv_has ls 4 [(0, .ref (ad 0)), (2, .int zz.1), (3, .int zz.2)] → W p l e rmX6_readFormula s m args below meth c H locs 0 0 Q0 (F0 m 269 ls [])) ?_ N _ hq ls (lv_sub hl [1, 2, 0] rfl)
    intro sX T1 hE1 hN1 hC1 hX1
    obtain ⟨v2h269, v3h269⟩ := sX
    replace hE1 : T1 = bX6_readFormula_269 N σj267 v2h269 v3h269 := hE1
    unfold bX6_readFormula_269 at hE1
    intro ls hl
    replace hl : lv_has ls 4 [(0, .ref (ad 0)), (2, .int v2h269), (3, .int v3h269)] := hl
    refine lv_iload_n hx hb dX6_readFormula_269 rfl (lv_at hl 2 rfl) ?_
    refine lv_iconst (v := 5) hx hb dX6_readFormula_270 rfl ?_
    refine lv_icmp_ge (tgt := 310) hx hb dX6_readFormula_271 (by decide) (fun c16 => ?_) (fun c16 => ?_)
    · have hE1 := ite_t hE1 c16
      have hq := hX1 _ hE1
      subst hq
      exact J310 v2h269 σj267 H locs ls (lv_sub hl [0, 1] rfl) hw hE0
    · have hE1 := ite_f hE1 c16
      refine lv_iload_n hx hb dX6_readFormula_274 rfl (lv_at hl 1 rfl) ?_
      refine lv_if_ne (tgt := 298) hx hb dX6_readFormula_275 (by decide) (fun c15 => ?_) (fun c15 => ?_)
      · have hE1 := ite_f hE1 c15
        refine lv_iconst (v := 1) hx hb dX6_readFormula_298 rfl ?_
        refine lv_goto (tgt := 303) hx hb dX6_readFormula_299 (by decide) ?_
        refine lv_istore_n hx hb dX6_readFormula_303 rfl hl (Nat.le_of_ble_eq_true rfl) rfl (fun ls (hl : lv_has ls 4 [(2, .int (1 : Int32)), (0, .ref (ad 0)), (3, .int v3h269)]) => ?_)
        obtain ⟨x10, e_x10, hE1⟩ := k_lte hE1
        refine lv_iinc (k := 2) (v := x10) hx hb dX6_readFormula_304 hl rfl (Eq.symm e_x10) (Nat.le_of_ble_eq_true rfl) rfl (fun ls (hl : lv_has ls 4 [(3, .int x10), (2, .int (1 : Int32)), (0, .ref (ad 0))]) => ?_)
        refine lv_goto (tgt := 269) hx hb dX6_readFormula_307 (by decide) ?_
        exact hC1 _ hE1 ls (lv_sub hl [2, 1, 0] rfl)
      · have hE1 := ite_t hE1 c15
        refine lv_aload_n hx hb dX6_readFormula_278 rfl (lv_at hl 0 rfl) ?_
        refine kg_X6_has hcf hK (kw_694 htk) dX6_readFormula_279 hw ?_
        refine lv_iconst (v := 5) hx hb dX6_readFormula_282 rfl ?_
        refine lv_aload_n hx hb dX6_readFormula_283 rfl (lv_at hl 0 rfl) ?_
        refine kg_X6_count hcf hK (kw_689 htk) (x := (σj267.1 8)) dX6_readFormula_284 hw rfl ?_
        refine lv_imul hx hb dX6_readFormula_287 ?_
        refine lv_iload_n hx hb dX6_readFormula_288 rfl (lv_at hl 2 rfl) ?_
        refine lv_iadd hx hb dX6_readFormula_289 ?_
        obtain ⟨g11, hE1⟩ := gd_e hE1 hN1
        refine mald_B1 hcf hK (x := (σj267.2.2.2 1 (((((5 : Int32) * (σj267.1 8)) + v3h269)).toNatClampNeg))) dX6_readFormula_290 g11 hw rfl ?_
        refine lv_ldc2 hx hb hown (kw_847 htk) dX6_readFormula_291 ?_
        refine W.lcmp hx hb dX6_readFormula_294 ?_
        refine lv_if_le (tgt := 302) hx hb dX6_readFormula_295 (by decide) (fun c14 => ?_) (fun c14 => ?_)
        · have hE1 := ite_t hE1 c14
          refine lv_iconst (v := 0) hx hb dX6_readFormula_302 rfl ?_
          refine lv_istore_n hx hb dX6_readFormula_303 rfl hl (Nat.le_of_ble_eq_true rfl) rfl (fun ls (hl : lv_has ls 4 [(2, .int (0 : Int32)), (0, .ref (ad 0)), (3, .int v3h269)]) => ?_)
          obtain ⟨x12, e_x12, hE1⟩ := k_lte hE1
          refine lv_iinc (k := 2) (v := x12) hx hb dX6_readFormula_304 hl rfl (Eq.symm e_x12) (Nat.le_of_ble_eq_true rfl) rfl (fun ls (hl : lv_has ls 4 [(3, .int x12), (2, .int (0 : Int32)), (0, .ref (ad 0))]) => ?_)
          refine lv_goto (tgt := 269) hx hb dX6_readFormula_307 (by decide) ?_
          exact hC1 _ hE1 ls (lv_sub hl [2, 1, 0] rfl)
        · have hE1 := ite_f hE1 c14
          refine lv_iconst (v := 1) hx hb dX6_readFormula_298 rfl ?_
          refine lv_goto (tgt := 303) hx hb dX6_readFormula_299 (by decide) ?_
          refine lv_istore_n hx hb dX6_readFormula_303 rfl hl (Nat.le_of_ble_eq_true rfl) rfl (fun ls (hl : lv_has ls 4 [(2, .int (1 : Int32)), (0, .ref (ad 0)), (3, .int v3h269)]) => ?_)
          obtain ⟨x13, e_x13, hE1⟩ := k_lte hE1
          refine lv_iinc (k := 2) (v := x13) hx hb dX6_readFormula_304 hl rfl (Eq.symm e_x13) (Nat.le_of_ble_eq_true rfl) rfl (fun ls (hl : lv_has ls 4 [(3, .int x13), (2, .int (1 : Int32)), (0, .ref (ad 0))]) => ?_)
          refine lv_goto (tgt := 269) hx hb dX6_readFormula_307 (by decide) ?_
          exact hC1 _ hE1 ls (lv_sub hl [2, 1, 0] rfl)
  have J261 : ∀ (σj261 : vS) (H : Heap) (locs : List Loc) (ls : Array Slot), lv_has ls 4 [(0, .ref (ad 0))] → k_H D (wM cs ad) (k_A 17 ad) σj261 s.heap H locs → T0 = jX6_readFormula_261 N σj261 → W p l e rmX6_readFormula s m args below meth c H locs 0 0 Q0 (F0 m 261 ls []) := by
    intro σj261 H locs ls hl hw hE0
    unfold jX6_readFormula_261 at hE0
    refine lv_iconst (v := 1) hx hb dX6_readFormula_261 rfl ?_
    refine lv_goto (tgt := 266) hx hb dX6_readFormula_262 (by decide) ?_
    refine lv_istore_n hx hb dX6_readFormula_266 rfl hl (Nat.le_of_ble_eq_true rfl) rfl (fun ls (hl : lv_has ls 4 [(2, .int (1 : Int32)), (0, .ref (ad 0))]) => ?_)
    exact J267 (1 : Int32) σj261 H locs ls (lv_sub hl [1, 0] rfl) hw hE0
  have J216 : ∀ (σj216 : vS) (H : Heap) (locs : List Loc) (ls : Array Slot), lv_has ls 4 [(0, .ref (ad 0))] → k_H D (wM cs ad) (k_A 17 ad) σj216 s.heap H locs → T0 = jX6_readFormula_216 N σj216 → W p l e rmX6_readFormula s m args below meth c H locs 0 0 Q0 (F0 m 216 ls []) := by
    intro σj216 H locs ls hl hw hE0
    unfold jX6_readFormula_216 at hE0
    refine lv_aload_n hx hb dX6_readFormula_216 rfl (lv_at hl 0 rfl) ?_
    refine kg_X6_ends hcf hK (kw_691 htk) dX6_readFormula_217 hw ?_
    refine lv_aload_n hx hb dX6_readFormula_220 rfl (lv_at hl 0 rfl) ?_
    refine kg_X6_count hcf hK (kw_689 htk) (x := (σj216.1 8)) dX6_readFormula_221 hw rfl ?_
    refine lv_aload_n hx hb dX6_readFormula_224 rfl (lv_at hl 0 rfl) ?_
    refine kg_X6_pos hcf hK (kw_684 htk) (x := (σj216.1 3)) dX6_readFormula_225 hw rfl ?_
    obtain ⟨g6, hE0⟩ := gd_e hE0 hN0
    refine mast_A3 hcf hK dX6_readFormula_228 g6 hw (fun H locs hw => ?_)
    refine lv_aload_n hx hb dX6_readFormula_229 rfl (lv_at hl 0 rfl) ?_
    refine kg_X6_charges hcf hK (kw_693 htk) dX6_readFormula_230 hw ?_
    refine lv_aload_n hx hb dX6_readFormula_233 rfl (lv_at hl 0 rfl) ?_
    refine kg_X6_count hcf hK (kw_689 htk) (x := (σj216.1 8)) dX6_readFormula_234 hw rfl ?_
    obtain ⟨g7, hE0⟩ := gd_e hE0 hN0
    refine mald_B0 hcf hK (x := (σj216.2.2.2 0 (((σj216.1 8)).toNatClampNeg))) dX6_readFormula_237 g7 hw rfl ?_
    refine lv_ldc2 hx hb hown (kw_847 htk) dX6_readFormula_238 ?_
    refine W.lcmp hx hb dX6_readFormula_241 ?_
    refine lv_if_gt (tgt := 261) hx hb dX6_readFormula_242 (by decide) (fun c19 => ?_) (fun c19 => ?_)
    · have hE0 := ite_t hE0 c19
      exact J261 (p_a σj216 3 (((σj216.1 8)).toNatClampNeg) (σj216.1 3)) H locs ls (lv_sub hl [0] rfl) hw hE0
    · have hE0 := ite_f hE0 c19
      refine lv_aload_n hx hb dX6_readFormula_245 rfl (lv_at hl 0 rfl) ?_
      refine kg_X6_charges hcf hK (kw_693 htk) dX6_readFormula_246 hw ?_
      refine lv_aload_n hx hb dX6_readFormula_249 rfl (lv_at hl 0 rfl) ?_
      refine kg_X6_count hcf hK (kw_689 htk) (x := (σj216.1 8)) dX6_readFormula_250 hw rfl ?_
      obtain ⟨g17, hE0⟩ := gd_e hE0 hN0
      refine mald_B0 hcf hK (x := (σj216.2.2.2 0 (((σj216.1 8)).toNatClampNeg))) dX6_readFormula_253 g17 hw rfl ?_
      refine lv_ldc2 hx hb hown (kw_848 htk) dX6_readFormula_254 ?_
      refine W.lcmp hx hb dX6_readFormula_257 ?_
      refine lv_if_ge (tgt := 265) hx hb dX6_readFormula_258 (by decide) (fun c18 => ?_) (fun c18 => ?_)
      · have hE0 := ite_t hE0 c18
        refine lv_iconst (v := 0) hx hb dX6_readFormula_265 rfl ?_
        refine lv_istore_n hx hb dX6_readFormula_266 rfl hl (Nat.le_of_ble_eq_true rfl) rfl (fun ls (hl : lv_has ls 4 [(2, .int (0 : Int32)), (0, .ref (ad 0))]) => ?_)
        exact J267 (0 : Int32) (p_a σj216 3 (((σj216.1 8)).toNatClampNeg) (σj216.1 3)) H locs ls (lv_sub hl [1, 0] rfl) hw hE0
      · have hE0 := ite_f hE0 c18
        exact J261 (p_a σj216 3 (((σj216.1 8)).toNatClampNeg) (σj216.1 3)) H locs ls (lv_sub hl [0] rfl) hw hE0
  have J192 : ∀ (σj192 : vS) (H : Heap) (locs : List Loc) (ls : Array Slot), lv_has ls 4 [(0, .ref (ad 0))] → k_H D (wM cs ad) (k_A 17 ad) σj192 s.heap H locs → T0 = jX6_readFormula_192 N σj192 → W p l e rmX6_readFormula s m args below meth c H locs 0 0 Q0 (F0 m 192 ls []) := by
    intro σj192 H locs ls hl hw hE0
    unfold jX6_readFormula_192 at hE0
    refine lv_aload_n hx hb dX6_readFormula_192 rfl (lv_at hl 0 rfl) ?_
    refine kg_X6_fault hcf hK (kw_685 htk) (x := (σj192.1 4)) dX6_readFormula_193 hw rfl ?_
    refine lv_if_ne (tgt := 216) hx hb dX6_readFormula_196 (by decide) (fun c23 => ?_) (fun c23 => ?_)
    · have hE0 := ite_f hE0 c23
      exact J216 σj192 H locs ls (lv_sub hl [0] rfl) hw hE0
    · have hE0 := ite_t hE0 c23
      refine lv_aload_n hx hb dX6_readFormula_199 rfl (lv_at hl 0 rfl) ?_
      refine lv_aload_n hx hb dX6_readFormula_200 rfl (lv_at hl 0 rfl) ?_
      refine kg_X6_pos hcf hK (kw_684 htk) (x := (σj192.1 3)) dX6_readFormula_201 hw rfl ?_
      obtain ⟨r20, k20, hE0⟩ := bd1_e hE0 hN0
      refine k_callP (va_runV (As := [.int (σj192.1 3)]) (rest := []) hcf (mX6_charAt l D cs ad N σj192 (σj192.1 3) r20 k20) (kcX6_charAt htk (kw_796 htk) ⟨Nat.le_of_ble_eq_true rfl, Nat.le_of_ble_eq_true rfl⟩) ⟨k_blind, va_recv (ci := 6) (q0 := 0) hK hw.1 rfl rfl, k_pre hK hZ hw⟩ rfl rfl hl.1 rfl (lv_room (Nat.le_of_ble_eq_true rfl)) dX6_readFormula_204 ⟨Nat.zero_le _, Nat.zero_le _⟩) ?_
      refine lv_bipush (v := 94) hx hb dX6_readFormula_207 rfl ?_
      refine lv_icmp_ne (tgt := 216) hx hb dX6_readFormula_209 (by decide) (fun c22 => ?_) (fun c22 => ?_)
      · have hE0 := ite_f hE0 c22
        exact J216 σj192 H locs ls (lv_sub hl [0] rfl) hw hE0
      · have hE0 := ite_t hE0 c22
        refine lv_aload_n hx hb dX6_readFormula_212 rfl (lv_at hl 0 rfl) ?_
        obtain ⟨σ21, k21, hE0⟩ := bd1_e hE0 hN0
        refine k_call (va_runV (As := []) (rest := []) hcf (mX6_readCharge l D cs ad N σj192 σ21 k21) (kcX6_readCharge htk (kw_843 htk) ⟨Nat.le_of_ble_eq_true rfl, Nat.le_of_ble_eq_true rfl⟩) ⟨k_blind, va_recv (ci := 6) (q0 := 0) hK hw.1 rfl rfl, k_pre hK hZ hw⟩ rfl rfl hl.1 rfl (lv_room (Nat.le_of_ble_eq_true rfl)) dX6_readFormula_213 ⟨Nat.zero_le _, Nat.zero_le _⟩) hw (fun H locs hw => ?_)
        exact J216 σ21 H locs ls (lv_sub hl [0] rfl) hw hE0
  have J118 : ∀ (σj118 : vS) (H : Heap) (locs : List Loc) (ls : Array Slot), lv_has ls 4 [(0, .ref (ad 0))] → k_H D (wM cs ad) (k_A 17 ad) σj118 s.heap H locs → T0 = jX6_readFormula_118 N σj118 → W p l e rmX6_readFormula s m args below meth c H locs 0 0 Q0 (F0 m 118 ls []) := by
    intro σj118 H locs ls hl hw hE0
    unfold jX6_readFormula_118 at hE0
    refine lv_aload_n hx hb dX6_readFormula_118 rfl (lv_at hl 0 rfl) ?_
    refine lv_aload_n hx hb dX6_readFormula_119 rfl (lv_at hl 0 rfl) ?_
    refine kg_X6_pos hcf hK (kw_684 htk) (x := (σj118.1 3)) dX6_readFormula_120 hw rfl ?_
    obtain ⟨σ30, k30, hE0⟩ := bd1_e hE0 hN0
    refine k_call (va_runV (As := [.int (σj118.1 3)]) (rest := []) hcf (mX6_noteCharge l D cs ad N σj118 (σj118.1 3) σ30 k30) (kcX6_noteCharge htk (kw_812 htk) ⟨Nat.le_of_ble_eq_true rfl, Nat.le_of_ble_eq_true rfl⟩) ⟨k_blind, va_recv (ci := 6) (q0 := 0) hK hw.1 rfl rfl, k_pre hK hZ hw⟩ rfl rfl hl.1 rfl (lv_room (Nat.le_of_ble_eq_true rfl)) dX6_readFormula_123 ⟨Nat.zero_le _, Nat.zero_le _⟩) hw (fun H locs hw => ?_)
    refine lv_aload_n hx hb dX6_readFormula_126 rfl (lv_at hl 0 rfl) ?_
    refine kg_X6_charges hcf hK (kw_693 htk) dX6_readFormula_127 hw ?_
    refine lv_aload_n hx hb dX6_readFormula_130 rfl (lv_at hl 0 rfl) ?_
    refine kg_X6_count hcf hK (kw_689 htk) (x := (σ30.1 8)) dX6_readFormula_131 hw rfl ?_
    refine lv_ldc2 hx hb hown (kw_816 htk) dX6_readFormula_134 ?_
    obtain ⟨g31, hE0⟩ := gd_e hE0 hN0
    refine mast_B0 hcf hK dX6_readFormula_137 g31 hw (fun H locs hw => ?_)
    refine lv_aload_n hx hb dX6_readFormula_138 rfl (lv_at hl 0 rfl) ?_
    refine lv_dup hx hb dX6_readFormula_139 rfl ?_
    refine kg_X6_pos hcf hK (kw_684 htk) (x := (σ30.1 3)) dX6_readFormula_140 hw rfl ?_
    refine lv_iconst (v := 3) hx hb dX6_readFormula_143 rfl ?_
    refine lv_iadd hx hb dX6_readFormula_144 ?_
    refine kp_X6_pos hcf hK (kw_684 htk) dX6_readFormula_145 hw (fun H locs hw => ?_)
    refine lv_goto (tgt := 216) hx hb dX6_readFormula_148 (by decide) ?_
    exact J216 (p_i (p_b σ30 0 (((σ30.1 8)).toNatClampNeg) (-1 : Int64)) 3 ((σ30.1 3) + (3 : Int32))) H locs ls (lv_sub hl [0] rfl) hw hE0
  have J60 : ∀ (σj60 : vS) (H : Heap) (locs : List Loc) (ls : Array Slot), lv_has ls 4 [(0, .ref (ad 0))] → k_H D (wM cs ad) (k_A 17 ad) σj60 s.heap H locs → T0 = jX6_readFormula_60 N σj60 → W p l e rmX6_readFormula s m args below meth c H locs 0 0 Q0 (F0 m 60 ls []) := by
    intro σj60 H locs ls hl hw hE0
    unfold jX6_readFormula_60 at hE0
    refine lv_aload_n hx hb dX6_readFormula_60 rfl (lv_at hl 0 rfl) ?_
    refine lv_aload_n hx hb dX6_readFormula_61 rfl (lv_at hl 0 rfl) ?_
    refine kg_X6_pos hcf hK (kw_684 htk) (x := (σj60.1 3)) dX6_readFormula_62 hw rfl ?_
    obtain ⟨r4, k4, hE0⟩ := bd1_e hE0 hN0
    refine k_callP (va_runV (As := [.int (σj60.1 3)]) (rest := []) hcf (mX6_charAt l D cs ad N σj60 (σj60.1 3) r4 k4) (kcX6_charAt htk (kw_796 htk) ⟨Nat.le_of_ble_eq_true rfl, Nat.le_of_ble_eq_true rfl⟩) ⟨k_blind, va_recv (ci := 6) (q0 := 0) hK hw.1 rfl rfl, k_pre hK hZ hw⟩ rfl rfl hl.1 rfl (lv_room (Nat.le_of_ble_eq_true rfl)) dX6_readFormula_65 ⟨Nat.zero_le _, Nat.zero_le _⟩) ?_
    refine lv_bipush (v := 101) hx hb dX6_readFormula_68 rfl ?_
    refine lv_icmp_ne (tgt := 151) hx hb dX6_readFormula_70 (by decide) (fun c37 => ?_) (fun c37 => ?_)
    · have hE0 := ite_f hE0 c37
      refine lv_aload_n hx hb dX6_readFormula_151 rfl (lv_at hl 0 rfl) ?_
      obtain ⟨σ5, k5, hE0⟩ := bd1_e hE0 hN0
      refine k_call (va_runV (As := []) (rest := []) hcf (mX6_readPart l D cs ad N σj60 σ5 k5) (kcX6_readPart htk (kw_817 htk) ⟨Nat.le_of_ble_eq_true rfl, Nat.le_of_ble_eq_true rfl⟩) ⟨k_blind, va_recv (ci := 6) (q0 := 0) hK hw.1 rfl rfl, k_pre hK hZ hw⟩ rfl rfl hl.1 rfl (lv_room (Nat.le_of_ble_eq_true rfl)) dX6_readFormula_152 ⟨Nat.zero_le _, Nat.zero_le _⟩) hw (fun H locs hw => ?_)
      obtain ⟨q, hq, hE0⟩ := bd1_e hE0 hN0
      refine k_ind (P := fun zz => ∀ (H : Heap) (locs : List Loc) (ls : Array Slot), lv_has ls 4 [(0, .ref (ad 0))] → k_H D (wM cs ad) (k_A 17 ad) zz s.heap H locs → W p l e rmX6_readFormula s m args below meth c H locs 0 0 Q0 (F0 m 155 ls [])) ?_ N _ hq H locs ls (lv_sub hl [0] rfl) hw
      intro sX T1 hE1 hN1 hC1 hX1
      obtain ⟨σh155, hsg⟩ : ∃ z, z = sX := ⟨_, rfl⟩
      subst hsg
      replace hE1 : T1 = bX6_readFormula_155 N σh155 := hE1
      unfold bX6_readFormula_155 at hE1
      intro H locs ls hl hw
      replace hl : lv_has ls 4 [(0, .ref (ad 0))] := hl
      replace hw : k_H D (wM cs ad) (k_A 17 ad) σh155 s.heap H locs := hw
      refine lv_aload_n hx hb dX6_readFormula_155 rfl (lv_at hl 0 rfl) ?_
      refine kg_X6_fault hcf hK (kw_685 htk) (x := (σh155.1 4)) dX6_readFormula_156 hw rfl ?_
      refine lv_if_ne (tgt := 192) hx hb dX6_readFormula_159 (by decide) (fun c27 => ?_) (fun c27 => ?_)
      · have hE1 := ite_f hE1 c27
        have hq := hX1 _ hE1
        subst hq
        exact J192 σh155 H locs ls (lv_sub hl [0] rfl) hw hE0
      · have hE1 := ite_t hE1 c27
        refine lv_aload_n hx hb dX6_readFormula_162 rfl (lv_at hl 0 rfl) ?_
        refine lv_aload_n hx hb dX6_readFormula_163 rfl (lv_at hl 0 rfl) ?_
        refine kg_X6_pos hcf hK (kw_684 htk) (x := (σh155.1 3)) dX6_readFormula_164 hw rfl ?_
        obtain ⟨r24, k24, hE1⟩ := bd1_e hE1 hN1
        refine k_callP (va_runV (As := [.int (σh155.1 3)]) (rest := []) hcf (mX6_charAt l D cs ad N σh155 (σh155.1 3) r24 k24) (kcX6_charAt htk (kw_796 htk) ⟨Nat.le_of_ble_eq_true rfl, Nat.le_of_ble_eq_true rfl⟩) ⟨k_blind, va_recv (ci := 6) (q0 := 0) hK hw.1 rfl rfl, k_pre hK hZ hw⟩ rfl rfl hl.1 rfl (lv_room (Nat.le_of_ble_eq_true rfl)) dX6_readFormula_167 ⟨Nat.zero_le _, Nat.zero_le _⟩) ?_
        refine lv_bipush (v := 46) hx hb dX6_readFormula_170 rfl ?_
        refine lv_icmp_ne (tgt := 192) hx hb dX6_readFormula_172 (by decide) (fun c26 => ?_) (fun c26 => ?_)
        · have hE1 := ite_f hE1 c26
          have hq := hX1 _ hE1
          subst hq
          exact J192 σh155 H locs ls (lv_sub hl [0] rfl) hw hE0
        · have hE1 := ite_t hE1 c26
          refine lv_aload_n hx hb dX6_readFormula_175 rfl (lv_at hl 0 rfl) ?_
          refine lv_dup hx hb dX6_readFormula_176 rfl ?_
          refine kg_X6_pos hcf hK (kw_684 htk) (x := (σh155.1 3)) dX6_readFormula_177 hw rfl ?_
          refine lv_iconst (v := 1) hx hb dX6_readFormula_180 rfl ?_
          refine lv_iadd hx hb dX6_readFormula_181 ?_
          refine kp_X6_pos hcf hK (kw_684 htk) dX6_readFormula_182 hw (fun H locs hw => ?_)
          refine lv_aload_n hx hb dX6_readFormula_185 rfl (lv_at hl 0 rfl) ?_
          obtain ⟨σ25, k25, hE1⟩ := bd1_e hE1 hN1
          refine k_call (va_runV (As := []) (rest := []) hcf (mX6_readPart l D cs ad N (p_i σh155 3 ((σh155.1 3) + (1 : Int32))) σ25 k25) (kcX6_readPart htk (kw_817 htk) ⟨Nat.le_of_ble_eq_true rfl, Nat.le_of_ble_eq_true rfl⟩) ⟨k_blind, va_recv (ci := 6) (q0 := 0) hK hw.1 rfl rfl, k_pre hK hZ hw⟩ rfl rfl hl.1 rfl (lv_room (Nat.le_of_ble_eq_true rfl)) dX6_readFormula_186 ⟨Nat.zero_le _, Nat.zero_le _⟩) hw (fun H locs hw => ?_)
          refine lv_goto (tgt := 155) hx hb dX6_readFormula_189 (by decide) ?_
          exact hC1 _ hE1 H locs ls (lv_sub hl [0] rfl) hw
    · have hE0 := ite_t hE0 c37
      refine lv_aload_n hx hb dX6_readFormula_73 rfl (lv_at hl 0 rfl) ?_
      refine lv_aload_n hx hb dX6_readFormula_74 rfl (lv_at hl 0 rfl) ?_
      refine lv_aload_n hx hb dX6_readFormula_75 rfl (lv_at hl 0 rfl) ?_
      refine kg_X6_pos hcf hK (kw_684 htk) (x := (σj60.1 3)) dX6_readFormula_76 hw rfl ?_
      refine lv_iconst (v := 1) hx hb dX6_readFormula_79 rfl ?_
      refine lv_iadd hx hb dX6_readFormula_80 ?_
      obtain ⟨r28, k28, hE0⟩ := bd1_e hE0 hN0
      refine k_callP (va_runV (As := [.int ((σj60.1 3) + (1 : Int32))]) (rest := [.ref (ad 0)]) hcf (mX6_charAt l D cs ad N σj60 ((σj60.1 3) + (1 : Int32)) r28 k28) (kcX6_charAt htk (kw_796 htk) ⟨Nat.le_of_ble_eq_true rfl, Nat.le_of_ble_eq_true rfl⟩) ⟨k_blind, va_recv (ci := 6) (q0 := 0) hK hw.1 rfl rfl, k_pre hK hZ hw⟩ rfl rfl hl.1 rfl (lv_room (Nat.le_of_ble_eq_true rfl)) dX6_readFormula_81 ⟨Nat.zero_le _, Nat.zero_le _⟩) ?_
      refine lv_bipush (v := 94) hx hb dX6_readFormula_84 rfl ?_
      refine lv_icmp_ne (tgt := 104) hx hb dX6_readFormula_86 (by decide) (fun c36 => ?_) (fun c36 => ?_)
      · have hE0 := ite_f hE0 c36
        refine lv_iconst (v := 1) hx hb dX6_readFormula_104 rfl ?_
        refine lv_goto (tgt := 109) hx hb dX6_readFormula_105 (by decide) ?_
        refine lv_bipush (v := -2) hx hb dX6_readFormula_109 rfl ?_
        refine lv_aload_n hx hb dX6_readFormula_111 rfl (lv_at hl 0 rfl) ?_
        refine kg_X6_pos hcf hK (kw_684 htk) (x := (σj60.1 3)) dX6_readFormula_112 hw rfl ?_
        obtain ⟨σ29, k29, hE0⟩ := bd1_e hE0 hN0
        refine k_call (va_runV (As := [.int (1 : Int32), .int (-2 : Int32), .int (σj60.1 3)]) (rest := []) hcf (mX6_failIf l D cs ad N σj60 (1 : Int32) (-2 : Int32) (σj60.1 3) σ29 k29) (kcX6_failIf htk (kw_800 htk) ⟨Nat.le_of_ble_eq_true rfl, Nat.le_of_ble_eq_true rfl⟩) ⟨k_blind, va_recv (ci := 6) (q0 := 0) hK hw.1 rfl rfl, k_pre hK hZ hw⟩ rfl rfl hl.1 rfl (lv_room (Nat.le_of_ble_eq_true rfl)) dX6_readFormula_115 ⟨Nat.zero_le _, Nat.zero_le _⟩) hw (fun H locs hw => ?_)
        exact J118 σ29 H locs ls (lv_sub hl [0] rfl) hw hE0
      · have hE0 := ite_t hE0 c36
        refine lv_aload_n hx hb dX6_readFormula_89 rfl (lv_at hl 0 rfl) ?_
        refine lv_aload_n hx hb dX6_readFormula_90 rfl (lv_at hl 0 rfl) ?_
        refine kg_X6_pos hcf hK (kw_684 htk) (x := (σj60.1 3)) dX6_readFormula_91 hw rfl ?_
        refine lv_iconst (v := 2) hx hb dX6_readFormula_94 rfl ?_
        refine lv_iadd hx hb dX6_readFormula_95 ?_
        obtain ⟨r32, k32, hE0⟩ := bd1_e hE0 hN0
        refine k_callP (va_runV (As := [.int ((σj60.1 3) + (2 : Int32))]) (rest := [.ref (ad 0)]) hcf (mX6_charAt l D cs ad N σj60 ((σj60.1 3) + (2 : Int32)) r32 k32) (kcX6_charAt htk (kw_796 htk) ⟨Nat.le_of_ble_eq_true rfl, Nat.le_of_ble_eq_true rfl⟩) ⟨k_blind, va_recv (ci := 6) (q0 := 0) hK hw.1 rfl rfl, k_pre hK hZ hw⟩ rfl rfl hl.1 rfl (lv_room (Nat.le_of_ble_eq_true rfl)) dX6_readFormula_96 ⟨Nat.zero_le _, Nat.zero_le _⟩) ?_
        refine lv_bipush (v := 45) hx hb dX6_readFormula_99 rfl ?_
        refine lv_icmp_eq (tgt := 108) hx hb dX6_readFormula_101 (by decide) (fun c35 => ?_) (fun c35 => ?_)
        · have hE0 := ite_t hE0 c35
          refine lv_iconst (v := 0) hx hb dX6_readFormula_108 rfl ?_
          refine lv_bipush (v := -2) hx hb dX6_readFormula_109 rfl ?_
          refine lv_aload_n hx hb dX6_readFormula_111 rfl (lv_at hl 0 rfl) ?_
          refine kg_X6_pos hcf hK (kw_684 htk) (x := (σj60.1 3)) dX6_readFormula_112 hw rfl ?_
          obtain ⟨σ33, k33, hE0⟩ := bd1_e hE0 hN0
          refine k_call (va_runV (As := [.int (0 : Int32), .int (-2 : Int32), .int (σj60.1 3)]) (rest := []) hcf (mX6_failIf l D cs ad N σj60 (0 : Int32) (-2 : Int32) (σj60.1 3) σ33 k33) (kcX6_failIf htk (kw_800 htk) ⟨Nat.le_of_ble_eq_true rfl, Nat.le_of_ble_eq_true rfl⟩) ⟨k_blind, va_recv (ci := 6) (q0 := 0) hK hw.1 rfl rfl, k_pre hK hZ hw⟩ rfl rfl hl.1 rfl (lv_room (Nat.le_of_ble_eq_true rfl)) dX6_readFormula_115 ⟨Nat.zero_le _, Nat.zero_le _⟩) hw (fun H locs hw => ?_)
          exact J118 σ33 H locs ls (lv_sub hl [0] rfl) hw hE0
        · have hE0 := ite_f hE0 c35
          refine lv_iconst (v := 1) hx hb dX6_readFormula_104 rfl ?_
          refine lv_goto (tgt := 109) hx hb dX6_readFormula_105 (by decide) ?_
          refine lv_bipush (v := -2) hx hb dX6_readFormula_109 rfl ?_
          refine lv_aload_n hx hb dX6_readFormula_111 rfl (lv_at hl 0 rfl) ?_
          refine kg_X6_pos hcf hK (kw_684 htk) (x := (σj60.1 3)) dX6_readFormula_112 hw rfl ?_
          obtain ⟨σ34, k34, hE0⟩ := bd1_e hE0 hN0
          refine k_call (va_runV (As := [.int (1 : Int32), .int (-2 : Int32), .int (σj60.1 3)]) (rest := []) hcf (mX6_failIf l D cs ad N σj60 (1 : Int32) (-2 : Int32) (σj60.1 3) σ34 k34) (kcX6_failIf htk (kw_800 htk) ⟨Nat.le_of_ble_eq_true rfl, Nat.le_of_ble_eq_true rfl⟩) ⟨k_blind, va_recv (ci := 6) (q0 := 0) hK hw.1 rfl rfl, k_pre hK hZ hw⟩ rfl rfl hl.1 rfl (lv_room (Nat.le_of_ble_eq_true rfl)) dX6_readFormula_115 ⟨Nat.zero_le _, Nat.zero_le _⟩) hw (fun H locs hw => ?_)
          exact J118 σ34 H locs ls (lv_sub hl [0] rfl) hw hE0
  refine lv_aload_n hx hb dX6_readFormula_0 rfl (lv_at hl 0 rfl) ?_
  refine kg_X6_begins hcf hK (kw_690 htk) dX6_readFormula_1 hw ?_
  refine lv_aload_n hx hb dX6_readFormula_4 rfl (lv_at hl 0 rfl) ?_
  refine kg_X6_count hcf hK (kw_689 htk) (x := (σ.1 8)) dX6_readFormula_5 hw rfl ?_
  refine lv_aload_n hx hb dX6_readFormula_8 rfl (lv_at hl 0 rfl) ?_
  refine kg_X6_pos hcf hK (kw_684 htk) (x := (σ.1 3)) dX6_readFormula_9 hw rfl ?_
  obtain ⟨g1, hE0⟩ := gd_e hE0 hN0
  refine mast_A2 hcf hK dX6_readFormula_12 g1 hw (fun H locs hw => ?_)
  refine lv_aload_n hx hb dX6_readFormula_13 rfl (lv_at hl 0 rfl) ?_
  refine kg_X6_right hcf hK (kw_692 htk) dX6_readFormula_14 hw ?_
  refine lv_aload_n hx hb dX6_readFormula_17 rfl (lv_at hl 0 rfl) ?_
  refine kg_X6_count hcf hK (kw_689 htk) (x := (σ.1 8)) dX6_readFormula_18 hw rfl ?_
  refine lv_iload_n hx hb dX6_readFormula_21 rfl (lv_at hl 1 rfl) ?_
  obtain ⟨g2, hE0⟩ := gd_e hE0 hN0
  refine mast_A4 hcf hK dX6_readFormula_22 g2 hw (fun H locs hw => ?_)
  refine lv_aload_n hx hb dX6_readFormula_23 rfl (lv_at hl 0 rfl) ?_
  refine kg_X6_charges hcf hK (kw_693 htk) dX6_readFormula_24 hw ?_
  refine lv_aload_n hx hb dX6_readFormula_27 rfl (lv_at hl 0 rfl) ?_
  refine kg_X6_count hcf hK (kw_689 htk) (x := (σ.1 8)) dX6_readFormula_28 hw rfl ?_
  refine lv_lconst (v := 0) hx hb dX6_readFormula_31 rfl ?_
  obtain ⟨g3, hE0⟩ := gd_e hE0 hN0
  refine mast_B0 hcf hK dX6_readFormula_32 g3 hw (fun H locs hw => ?_)
  refine lv_iconst (v := 0) hx hb dX6_readFormula_33 rfl ?_
  refine lv_istore_n hx hb dX6_readFormula_34 rfl hl (Nat.le_of_ble_eq_true rfl) rfl (fun ls (hl : lv_has ls 4 [(2, .int (0 : Int32)), (0, .ref (ad 0)), (1, .int p1)]) => ?_)
  obtain ⟨q, hq, hE0⟩ := bd1_e hE0 hN0
  refine k_ind (P := fun zz => ∀ (H : Heap) (locs : List Loc) (ls : Array Slot), lv_has ls 4 [(0, .ref (ad 0)), (2, .int zz.1)] → k_H D (wM cs ad) (k_A 17 ad) zz.2 s.heap H locs → W p l e rmX6_readFormula s m args below meth c H locs 0 0 Q0 (F0 m 35 ls [])) ?_ N _ hq H locs ls (lv_sub hl [1, 0] rfl) hw
  intro sX T1 hE1 hN1 hC1 hX1
  obtain ⟨v2h35, σh35⟩ := sX
  replace hE1 : T1 = bX6_readFormula_35 N v2h35 σh35 := hE1
  unfold bX6_readFormula_35 at hE1
  intro H locs ls hl hw
  replace hl : lv_has ls 4 [(0, .ref (ad 0)), (2, .int v2h35)] := hl
  replace hw : k_H D (wM cs ad) (k_A 17 ad) σh35 s.heap H locs := hw
  refine lv_iload_n hx hb dX6_readFormula_35 rfl (lv_at hl 1 rfl) ?_
  refine lv_iconst (v := 5) hx hb dX6_readFormula_36 rfl ?_
  refine lv_icmp_ge (tgt := 60) hx hb dX6_readFormula_37 (by decide) (fun c40 => ?_) (fun c40 => ?_)
  · have hE1 := ite_t hE1 c40
    have hq := hX1 _ hE1
    subst hq
    exact J60 σh35 H locs ls (lv_sub hl [0] rfl) hw hE0
  · have hE1 := ite_f hE1 c40
    refine lv_aload_n hx hb dX6_readFormula_40 rfl (lv_at hl 0 rfl) ?_
    refine kg_X6_has hcf hK (kw_694 htk) dX6_readFormula_41 hw ?_
    refine lv_iconst (v := 5) hx hb dX6_readFormula_44 rfl ?_
    refine lv_aload_n hx hb dX6_readFormula_45 rfl (lv_at hl 0 rfl) ?_
    refine kg_X6_count hcf hK (kw_689 htk) (x := (σh35.1 8)) dX6_readFormula_46 hw rfl ?_
    refine lv_imul hx hb dX6_readFormula_49 ?_
    refine lv_iload_n hx hb dX6_readFormula_50 rfl (lv_at hl 1 rfl) ?_
    refine lv_iadd hx hb dX6_readFormula_51 ?_
    refine lv_lconst (v := 0) hx hb dX6_readFormula_52 rfl ?_
    obtain ⟨g38, hE1⟩ := gd_e hE1 hN1
    refine mast_B1 hcf hK dX6_readFormula_53 g38 hw (fun H locs hw => ?_)
    obtain ⟨x39, e_x39, hE1⟩ := k_lte hE1
    refine lv_iinc (k := 1) (v := x39) hx hb dX6_readFormula_54 hl rfl (Eq.symm e_x39) (Nat.le_of_ble_eq_true rfl) rfl (fun ls (hl : lv_has ls 4 [(2, .int x39), (0, .ref (ad 0))]) => ?_)
    refine lv_goto (tgt := 35) hx hb dX6_readFormula_57 (by decide) ?_
    exact hC1 _ hE1 H locs ls (lv_sub hl [1, 0] rfl) hw
def jX6_readSide_104 (N : Nat) (σj104 : vS) : Option (vS) :=
  some σj104
def jX6_readSide_83_2 (N : Nat) (σj83 : vS) (p1 : Int32) (v2j83 : Int32) : Option ((Int32 × vS) ⊕ (vS)) :=
  if (v2j83 = 0) then (
    some (.inl (v2j83, (p_i σj83 3 ((σj83.1 3) + (0 : Int32)))))
  ) else (
    some (.inl (v2j83, (p_i σj83 3 ((σj83.1 3) + (1 : Int32)))))
  )
def jX6_readSide_81_2 (N : Nat) (σj81 : vS) (p1 : Int32) : Option ((Int32 × vS) ⊕ (vS)) :=
  jX6_readSide_83_2 N σj81 p1 (0 : Int32)
def jX6_readSide_53_2 (N : Nat) (σj53 : vS) (p1 : Int32) : Option ((Int32 × vS) ⊕ (vS)) :=
  bd1 (fX6_skip N σj53) fun σ3 =>
  if ((σ3.1 4) = 0) then (
    bd1 (fX6_charAt N σ3 (σ3.1 3)) fun r5 =>
    if (r5 = (43 : Int32)) then (
      jX6_readSide_83_2 N σ3 p1 (1 : Int32)
    ) else (
      jX6_readSide_81_2 N σ3 p1
    )
  ) else (
    jX6_readSide_81_2 N σ3 p1
  )
def jX6_readSide_41_2 (N : Nat) (σj41 : vS) (p1 : Int32) : Option ((Int32 × vS) ⊕ (vS)) :=
  if ((σj41.1 4) = 0) then (
    bd1 (fX6_readFormula N σj41 p1) fun σ8 =>
    jX6_readSide_53_2 N σ8 p1
  ) else (
    jX6_readSide_53_2 N σj41 p1
  )
def bX6_readSide_2 (N : Nat) (p1 : Int32) (v2h2 : Int32) (σh2 : vS) : Option ((Int32 × vS) ⊕ (vS)) :=
  if (v2h2 = 0) then (
    some (.inr σh2)
  ) else (
    if ((σh2.1 4) = 0) then (
      bd1 (fX6_skip N σh2) fun σ1 =>
      if ((σ1.1 8) = (6 : Int32)) then (
        bd1 (fX6_failIf N σ1 (1 : Int32) (-5 : Int32) (σ1.1 3)) fun σ10 =>
        jX6_readSide_41_2 N σ10 p1
      ) else (
        bd1 (fX6_failIf N σ1 (0 : Int32) (-5 : Int32) (σ1.1 3)) fun σ2 =>
        jX6_readSide_41_2 N σ2 p1
      )
    ) else (
      some (.inr σh2)
    )
  )
def fX6_readSide (N : Nat) (σ : vS) (p1 : Int32) : Option (vS) :=
  bd1 (k_itr (fun zz => bX6_readSide_2 N p1 zz.1 zz.2) N ((1 : Int32), σ)) fun q => jX6_readSide_104 N q
abbrev rmX6_readSide : Room := { frames := 6, cells := 0, slots := 0, locals := 142 }
abbrev wsX6_readSide : List Cond := .code yX6_readSide cX6_readSide 3 none :: kws
theorem kcX6_readSide {R : Room} {s : State} {args : Array Value} {own : String} {index : Nat} (htk : ∀ w ∈ kws, w.before args s = true) (hl : (Cond.methodLink own index yX6_readSide).before args s = true) (hR : rmX6_readSide.frames + 1 ≤ R.frames ∧ 8 + (3 + 11) + rmX6_readSide.locals ≤ R.locals) : CallW R s args own RX6 index yX6_readSide cX6_readSide 3 none wsX6_readSide rmX6_readSide 0 0 1 :=
  ⟨callB_of 1 htk (k_good kc_791) rfl rfl rfl (kw_58 htk) hl (by decide +kernel) hR, (kw_790 htk), (kw_25 htk)⟩
set_option maxRecDepth 100000 in
set_option maxHeartbeats 4000000 in
theorem mX6_readSide (l : Launch) (D : va_G) (cs : Nat → ClassId) (ad : Nat → Nat) (N : Nat) (σ : vS) (p1 : Int32) (σ' : vS) (hf : fX6_readSide N σ p1 = some σ') : k_Met l yX6_readSide wsX6_readSide rmX6_readSide D (tM cs) (wM cs ad) (k_A 17 ad) [.ref (ad 0), .int p1] σ none σ' := by
  refine k_of (cc := cX6_readSide) (maxL := 3) (ret := none) (by decide) rfl (Nat.le_of_ble_eq_true rfl) ?_
  intro p e s m args below meth c ls H locs hcf hr hlk hK hZ hl hw
  generalize hQ0 : MQ below _ args s 0 0 _ = Q0
  obtain ⟨T0, hE0⟩ : ∃ T, T = fX6_readSide N σ p1 := ⟨_, rfl⟩
  have hR := hE0.trans hf
  have hN0 : T0 ≠ none := by rw [hR]; exact fun h => nomatch h
  have hx := hcf.1
  have hb := hcf.2.1
  have htk := hcf.2.2.2.2
  have hown := hcf.2.2.2.1
  unfold fX6_readSide at hE0
  replace hl : lv_has ls 3 [(0, .ref (ad 0)), (1, .int p1)] := hl
  have J104 : ∀ (σj104 : vS) (H : Heap) (locs : List Loc) (ls : Array Slot), lv_has ls 3 [] → k_H D (wM cs ad) (k_A 17 ad) σj104 s.heap H locs → T0 = jX6_readSide_104 N σj104 → W p l e rmX6_readSide s m args below meth c H locs 0 0 Q0 (F0 m 104 ls []) := by
    intro σj104 H locs ls hl hw hE0
    unfold jX6_readSide_104 at hE0
    exact kret_v hcf hr hlk hK hw (rt1 hR hE0) hQ0 dX6_readSide_104
  refine lv_iconst (v := 1) hx hb dX6_readSide_0 rfl ?_
  refine lv_istore_n hx hb dX6_readSide_1 rfl hl (Nat.le_of_ble_eq_true rfl) rfl (fun ls (hl : lv_has ls 3 [(2, .int (1 : Int32)), (0, .ref (ad 0)), (1, .int p1)]) => ?_)
  obtain ⟨q, hq, hE0⟩ := bd1_e hE0 hN0
  refine k_ind (P := fun zz => ∀ (H : Heap) (locs : List Loc) (ls : Array Slot), lv_has ls 3 [(0, .ref (ad 0)), (1, .int p1), (2, .int zz.1)] → k_H D (wM cs ad) (k_A 17 ad) zz.2 s.heap H locs → W p l e rmX6_readSide s m args below meth c H locs 0 0 Q0 (F0 m 2 ls [])) ?_ N _ hq H locs ls (lv_sub hl [1, 2, 0] rfl) hw
  intro sX T1 hE1 hN1 hC1 hX1
  obtain ⟨v2h2, σh2⟩ := sX
  replace hE1 : T1 = bX6_readSide_2 N p1 v2h2 σh2 := hE1
  unfold bX6_readSide_2 at hE1
  have J83_2 : ∀ (v2j83 : Int32) (σj83 : vS) (H : Heap) (locs : List Loc) (ls : Array Slot), lv_has ls 3 [(0, .ref (ad 0)), (1, .int p1), (2, .int v2j83)] → k_H D (wM cs ad) (k_A 17 ad) σj83 s.heap H locs → T1 = jX6_readSide_83_2 N σj83 p1 v2j83 → W p l e rmX6_readSide s m args below meth c H locs 0 0 Q0 (F0 m 83 ls []) := by
    intro v2j83 σj83 H locs ls hl hw hE1
    unfold jX6_readSide_83_2 at hE1
    refine lv_aload_n hx hb dX6_readSide_83 rfl (lv_at hl 0 rfl) ?_
    refine lv_dup hx hb dX6_readSide_84 rfl ?_
    refine kg_X6_pos hcf hK (kw_684 htk) (x := (σj83.1 3)) dX6_readSide_85 hw rfl ?_
    refine lv_iload_n hx hb dX6_readSide_88 rfl (lv_at hl 2 rfl) ?_
    refine lv_if_eq (tgt := 96) hx hb dX6_readSide_89 (by decide) (fun c4 => ?_) (fun c4 => ?_)
    · have hE1 := ite_t hE1 c4
      refine lv_iconst (v := 0) hx hb dX6_readSide_96 rfl ?_
      refine lv_iadd hx hb dX6_readSide_97 ?_
      refine kp_X6_pos hcf hK (kw_684 htk) dX6_readSide_98 hw (fun H locs hw => ?_)
      refine lv_goto (tgt := 2) hx hb dX6_readSide_101 (by decide) ?_
      exact hC1 _ hE1 H locs ls (lv_sub hl [0, 1, 2] rfl) hw
    · have hE1 := ite_f hE1 c4
      refine lv_iconst (v := 1) hx hb dX6_readSide_92 rfl ?_
      refine lv_goto (tgt := 97) hx hb dX6_readSide_93 (by decide) ?_
      refine lv_iadd hx hb dX6_readSide_97 ?_
      refine kp_X6_pos hcf hK (kw_684 htk) dX6_readSide_98 hw (fun H locs hw => ?_)
      refine lv_goto (tgt := 2) hx hb dX6_readSide_101 (by decide) ?_
      exact hC1 _ hE1 H locs ls (lv_sub hl [0, 1, 2] rfl) hw
  have J81_2 : ∀ (σj81 : vS) (H : Heap) (locs : List Loc) (ls : Array Slot), lv_has ls 3 [(0, .ref (ad 0)), (1, .int p1)] → k_H D (wM cs ad) (k_A 17 ad) σj81 s.heap H locs → T1 = jX6_readSide_81_2 N σj81 p1 → W p l e rmX6_readSide s m args below meth c H locs 0 0 Q0 (F0 m 81 ls []) := by
    intro σj81 H locs ls hl hw hE1
    unfold jX6_readSide_81_2 at hE1
    refine lv_iconst (v := 0) hx hb dX6_readSide_81 rfl ?_
    refine lv_istore_n hx hb dX6_readSide_82 rfl hl (Nat.le_of_ble_eq_true rfl) rfl (fun ls (hl : lv_has ls 3 [(2, .int (0 : Int32)), (0, .ref (ad 0)), (1, .int p1)]) => ?_)
    exact J83_2 (0 : Int32) σj81 H locs ls (lv_sub hl [1, 2, 0] rfl) hw hE1
  have J53_2 : ∀ (σj53 : vS) (H : Heap) (locs : List Loc) (ls : Array Slot), lv_has ls 3 [(0, .ref (ad 0)), (1, .int p1)] → k_H D (wM cs ad) (k_A 17 ad) σj53 s.heap H locs → T1 = jX6_readSide_53_2 N σj53 p1 → W p l e rmX6_readSide s m args below meth c H locs 0 0 Q0 (F0 m 53 ls []) := by
    intro σj53 H locs ls hl hw hE1
    unfold jX6_readSide_53_2 at hE1
    refine lv_aload_n hx hb dX6_readSide_53 rfl (lv_at hl 0 rfl) ?_
    obtain ⟨σ3, k3, hE1⟩ := bd1_e hE1 hN1
    refine k_call (va_runV (As := []) (rest := []) hcf (mX6_skip l D cs ad N σj53 σ3 k3) (kcX6_skip htk (kw_792 htk) ⟨Nat.le_of_ble_eq_true rfl, Nat.le_of_ble_eq_true rfl⟩) ⟨k_blind, va_recv (ci := 6) (q0 := 0) hK hw.1 rfl rfl, k_pre hK hZ hw⟩ rfl rfl hl.1 rfl (lv_room (Nat.le_of_ble_eq_true rfl)) dX6_readSide_54 ⟨Nat.zero_le _, Nat.zero_le _⟩) hw (fun H locs hw => ?_)
    refine lv_aload_n hx hb dX6_readSide_57 rfl (lv_at hl 0 rfl) ?_
    refine kg_X6_fault hcf hK (kw_685 htk) (x := (σ3.1 4)) dX6_readSide_58 hw rfl ?_
    refine lv_if_ne (tgt := 81) hx hb dX6_readSide_61 (by decide) (fun c7 => ?_) (fun c7 => ?_)
    · have hE1 := ite_f hE1 c7
      exact J81_2 σ3 H locs ls (lv_sub hl [0, 1] rfl) hw hE1
    · have hE1 := ite_t hE1 c7
      refine lv_aload_n hx hb dX6_readSide_64 rfl (lv_at hl 0 rfl) ?_
      refine lv_aload_n hx hb dX6_readSide_65 rfl (lv_at hl 0 rfl) ?_
      refine kg_X6_pos hcf hK (kw_684 htk) (x := (σ3.1 3)) dX6_readSide_66 hw rfl ?_
      obtain ⟨r5, k5, hE1⟩ := bd1_e hE1 hN1
      refine k_callP (va_runV (As := [.int (σ3.1 3)]) (rest := []) hcf (mX6_charAt l D cs ad N σ3 (σ3.1 3) r5 k5) (kcX6_charAt htk (kw_796 htk) ⟨Nat.le_of_ble_eq_true rfl, Nat.le_of_ble_eq_true rfl⟩) ⟨k_blind, va_recv (ci := 6) (q0 := 0) hK hw.1 rfl rfl, k_pre hK hZ hw⟩ rfl rfl hl.1 rfl (lv_room (Nat.le_of_ble_eq_true rfl)) dX6_readSide_69 ⟨Nat.zero_le _, Nat.zero_le _⟩) ?_
      refine lv_bipush (v := 43) hx hb dX6_readSide_72 rfl ?_
      refine lv_icmp_ne (tgt := 81) hx hb dX6_readSide_74 (by decide) (fun c6 => ?_) (fun c6 => ?_)
      · have hE1 := ite_f hE1 c6
        exact J81_2 σ3 H locs ls (lv_sub hl [0, 1] rfl) hw hE1
      · have hE1 := ite_t hE1 c6
        refine lv_iconst (v := 1) hx hb dX6_readSide_77 rfl ?_
        refine lv_goto (tgt := 82) hx hb dX6_readSide_78 (by decide) ?_
        refine lv_istore_n hx hb dX6_readSide_82 rfl hl (Nat.le_of_ble_eq_true rfl) rfl (fun ls (hl : lv_has ls 3 [(2, .int (1 : Int32)), (0, .ref (ad 0)), (1, .int p1)]) => ?_)
        exact J83_2 (1 : Int32) σ3 H locs ls (lv_sub hl [1, 2, 0] rfl) hw hE1
  have J41_2 : ∀ (σj41 : vS) (H : Heap) (locs : List Loc) (ls : Array Slot), lv_has ls 3 [(0, .ref (ad 0)), (1, .int p1)] → k_H D (wM cs ad) (k_A 17 ad) σj41 s.heap H locs → T1 = jX6_readSide_41_2 N σj41 p1 → W p l e rmX6_readSide s m args below meth c H locs 0 0 Q0 (F0 m 41 ls []) := by
    intro σj41 H locs ls hl hw hE1
    unfold jX6_readSide_41_2 at hE1
    refine lv_aload_n hx hb dX6_readSide_41 rfl (lv_at hl 0 rfl) ?_
    refine kg_X6_fault hcf hK (kw_685 htk) (x := (σj41.1 4)) dX6_readSide_42 hw rfl ?_
    refine lv_if_ne (tgt := 53) hx hb dX6_readSide_45 (by decide) (fun c9 => ?_) (fun c9 => ?_)
    · have hE1 := ite_f hE1 c9
      exact J53_2 σj41 H locs ls (lv_sub hl [0, 1] rfl) hw hE1
    · have hE1 := ite_t hE1 c9
      refine lv_aload_n hx hb dX6_readSide_48 rfl (lv_at hl 0 rfl) ?_
      refine lv_iload_n hx hb dX6_readSide_49 rfl (lv_at hl 1 rfl) ?_
      obtain ⟨σ8, k8, hE1⟩ := bd1_e hE1 hN1
      refine k_call (va_runV (As := [.int p1]) (rest := []) hcf (mX6_readFormula l D cs ad N σj41 p1 σ8 k8) (kcX6_readFormula htk (kw_808 htk) ⟨Nat.le_of_ble_eq_true rfl, Nat.le_of_ble_eq_true rfl⟩) ⟨k_blind, va_recv (ci := 6) (q0 := 0) hK hw.1 rfl rfl, k_pre hK hZ hw⟩ rfl rfl hl.1 rfl (lv_room (Nat.le_of_ble_eq_true rfl)) dX6_readSide_50 ⟨Nat.zero_le _, Nat.zero_le _⟩) hw (fun H locs hw => ?_)
      exact J53_2 σ8 H locs ls (lv_sub hl [0, 1] rfl) hw hE1
  intro H locs ls hl hw
  replace hl : lv_has ls 3 [(0, .ref (ad 0)), (1, .int p1), (2, .int v2h2)] := hl
  replace hw : k_H D (wM cs ad) (k_A 17 ad) σh2 s.heap H locs := hw
  refine lv_iload_n hx hb dX6_readSide_2 rfl (lv_at hl 2 rfl) ?_
  refine lv_if_eq (tgt := 104) hx hb dX6_readSide_3 (by decide) (fun c13 => ?_) (fun c13 => ?_)
  · have hE1 := ite_t hE1 c13
    have hq := hX1 _ hE1
    subst hq
    exact J104 σh2 H locs ls (lv_sub hl [] rfl) hw hE0
  · have hE1 := ite_f hE1 c13
    refine lv_aload_n hx hb dX6_readSide_6 rfl (lv_at hl 0 rfl) ?_
    refine kg_X6_fault hcf hK (kw_685 htk) (x := (σh2.1 4)) dX6_readSide_7 hw rfl ?_
    refine lv_if_ne (tgt := 104) hx hb dX6_readSide_10 (by decide) (fun c12 => ?_) (fun c12 => ?_)
    · have hE1 := ite_f hE1 c12
      have hq := hX1 _ hE1
      subst hq
      exact J104 σh2 H locs ls (lv_sub hl [] rfl) hw hE0
    · have hE1 := ite_t hE1 c12
      refine lv_aload_n hx hb dX6_readSide_13 rfl (lv_at hl 0 rfl) ?_
      obtain ⟨σ1, k1, hE1⟩ := bd1_e hE1 hN1
      refine k_call (va_runV (As := []) (rest := []) hcf (mX6_skip l D cs ad N σh2 σ1 k1) (kcX6_skip htk (kw_792 htk) ⟨Nat.le_of_ble_eq_true rfl, Nat.le_of_ble_eq_true rfl⟩) ⟨k_blind, va_recv (ci := 6) (q0 := 0) hK hw.1 rfl rfl, k_pre hK hZ hw⟩ rfl rfl hl.1 rfl (lv_room (Nat.le_of_ble_eq_true rfl)) dX6_readSide_14 ⟨Nat.zero_le _, Nat.zero_le _⟩) hw (fun H locs hw => ?_)
      refine lv_aload_n hx hb dX6_readSide_17 rfl (lv_at hl 0 rfl) ?_
      refine lv_aload_n hx hb dX6_readSide_18 rfl (lv_at hl 0 rfl) ?_
      refine kg_X6_count hcf hK (kw_689 htk) (x := (σ1.1 8)) dX6_readSide_19 hw rfl ?_
      refine lv_bipush (v := 6) hx hb dX6_readSide_22 rfl ?_
      refine lv_icmp_ne (tgt := 31) hx hb dX6_readSide_24 (by decide) (fun c11 => ?_) (fun c11 => ?_)
      · have hE1 := ite_f hE1 c11
        refine lv_iconst (v := 0) hx hb dX6_readSide_31 rfl ?_
        refine lv_bipush (v := -5) hx hb dX6_readSide_32 rfl ?_
        refine lv_aload_n hx hb dX6_readSide_34 rfl (lv_at hl 0 rfl) ?_
        refine kg_X6_pos hcf hK (kw_684 htk) (x := (σ1.1 3)) dX6_readSide_35 hw rfl ?_
        obtain ⟨σ2, k2, hE1⟩ := bd1_e hE1 hN1
        refine k_call (va_runV (As := [.int (0 : Int32), .int (-5 : Int32), .int (σ1.1 3)]) (rest := []) hcf (mX6_failIf l D cs ad N σ1 (0 : Int32) (-5 : Int32) (σ1.1 3) σ2 k2) (kcX6_failIf htk (kw_800 htk) ⟨Nat.le_of_ble_eq_true rfl, Nat.le_of_ble_eq_true rfl⟩) ⟨k_blind, va_recv (ci := 6) (q0 := 0) hK hw.1 rfl rfl, k_pre hK hZ hw⟩ rfl rfl hl.1 rfl (lv_room (Nat.le_of_ble_eq_true rfl)) dX6_readSide_38 ⟨Nat.zero_le _, Nat.zero_le _⟩) hw (fun H locs hw => ?_)
        exact J41_2 σ2 H locs ls (lv_sub hl [0, 1] rfl) hw hE1
      · have hE1 := ite_t hE1 c11
        refine lv_iconst (v := 1) hx hb dX6_readSide_27 rfl ?_
        refine lv_goto (tgt := 32) hx hb dX6_readSide_28 (by decide) ?_
        refine lv_bipush (v := -5) hx hb dX6_readSide_32 rfl ?_
        refine lv_aload_n hx hb dX6_readSide_34 rfl (lv_at hl 0 rfl) ?_
        refine kg_X6_pos hcf hK (kw_684 htk) (x := (σ1.1 3)) dX6_readSide_35 hw rfl ?_
        obtain ⟨σ10, k10, hE1⟩ := bd1_e hE1 hN1
        refine k_call (va_runV (As := [.int (1 : Int32), .int (-5 : Int32), .int (σ1.1 3)]) (rest := []) hcf (mX6_failIf l D cs ad N σ1 (1 : Int32) (-5 : Int32) (σ1.1 3) σ10 k10) (kcX6_failIf htk (kw_800 htk) ⟨Nat.le_of_ble_eq_true rfl, Nat.le_of_ble_eq_true rfl⟩) ⟨k_blind, va_recv (ci := 6) (q0 := 0) hK hw.1 rfl rfl, k_pre hK hZ hw⟩ rfl rfl hl.1 rfl (lv_room (Nat.le_of_ble_eq_true rfl)) dX6_readSide_38 ⟨Nat.zero_le _, Nat.zero_le _⟩) hw (fun H locs hw => ?_)
        exact J41_2 σ10 H locs ls (lv_sub hl [0, 1] rfl) hw hE1
