def jX1_addFormula_41 (N : Nat) (σj41 : vS) (v1j41 : Int32) (v2j41 : Int32) (v4j41 : Int32) : Option (vS) :=
  if ((σj41.1 2) < 0 ∨ 6 ≤ ((σj41.1 2)).toNatClampNeg) then none else
  if ((σj41.1 2) < 0 ∨ 6 ≤ ((σj41.1 2)).toNatClampNeg) then none else
  if ((σj41.1 2) < 0 ∨ 6 ≤ ((σj41.1 2)).toNatClampNeg) then none else
  some (p_i (p_a (p_a (p_a σj41 2 (((σj41.1 2)).toNatClampNeg) v4j41) 3 (((σj41.1 2)).toNatClampNeg) v1j41) 4 (((σj41.1 2)).toNatClampNeg) v2j41) 2 ((σj41.1 2) + (1 : Int32)))
def bX1_addFormula_12 (N : Nat) (p1 : Int32) (p2 : Int32) (p4 : Int32) (v5h12 : Int32) (σh12 : vS) : Option ((Int32 × vS) ⊕ (vS)) :=
  if ((5 : Int32) ≤ v5h12) then (
    some (.inr σh12)
  ) else (
    if ((σh12.1 2) < 0 ∨ 6 ≤ ((σh12.1 2)).toNatClampNeg) then none else
    if (v5h12 < 0 ∨ 5 ≤ (v5h12).toNatClampNeg) then none else
    if (v5h12 < 0 ∨ 5 ≤ (v5h12).toNatClampNeg) then none else
    k_lt (v5h12 + (1 : Int32)) fun x7 =>
    some (.inl (x7, (p_a σh12 (9 + ((σh12.1 2)).toNatClampNeg) ((v5h12).toNatClampNeg) (((σh12.2.2.2 0 ((v5h12).toNatClampNeg))).toInt32))))
  )
def fX1_addFormula (N : Nat) (σ : vS) (p1 : Int32) (p2 : Int32) (p4 : Int32) : Option (vS) :=
  if ((6 : Int32) ≤ (σ.1 2)) then (
    some σ
  ) else (
    bd1 (k_itr (fun zz => bX1_addFormula_12 N p1 p2 p4 zz.1 zz.2) N ((0 : Int32), σ)) fun q => jX1_addFormula_41 N q p1 p2 p4
  )
abbrev rmX1_addFormula : Room := { frames := 0, cells := 0, slots := 0, locals := 0 }
abbrev wsX1_addFormula : List Cond := .code yX1_addFormula cX1_addFormula 6 none :: kws
theorem kcX1_addFormula {R : Room} {s : State} {args : Array Value} {own : String} {index : Nat} (htk : ∀ w ∈ kws, w.before args s = true) (hl : (Cond.methodLink own index yX1_addFormula).before args s = true) (hR : rmX1_addFormula.frames + 1 ≤ R.frames ∧ 8 + (6 + 11) + rmX1_addFormula.locals ≤ R.locals) : CallW R s args own RX1 index yX1_addFormula cX1_addFormula 6 none wsX1_addFormula rmX1_addFormula 0 0 4 :=
  ⟨callB_of 4 htk (k_good kc_352) rfl rfl rfl (kw_55 htk) hl (by decide +kernel) hR, (kw_350 htk), (kw_351 htk)⟩
set_option maxRecDepth 100000 in
set_option maxHeartbeats 4000000 in
theorem mX1_addFormula (l : Launch) (D : va_G) (cs : Nat → ClassId) (ad : Nat → Nat) (N : Nat) (σ : vS) (p1 : Int32) (p2 : Int32) (p4 : Int32) (σ' : vS) (hf : fX1_addFormula N σ p1 p2 p4 = some σ') : k_Met l yX1_addFormula wsX1_addFormula rmX1_addFormula D (tK cs) (wK cs ad) (k_A 41 ad) [.ref (ad 5), .int p1, .int p2, .ref (ad 25), .int p4] σ none σ' := by
  refine k_of (cc := cX1_addFormula) (maxL := 6) (ret := none) (by decide) rfl (Nat.le_of_ble_eq_true rfl) ?_
  intro p e s m args below meth c ls H locs hcf hr hlk hK hZ hl hw
  generalize hQ0 : MQ below _ args s 0 0 _ = Q0
  obtain ⟨T0, hE0⟩ : ∃ T, T = fX1_addFormula N σ p1 p2 p4 := ⟨_, rfl⟩
  have hR := hE0.trans hf
  have hN0 : T0 ≠ none := by rw [hR]; exact fun h => nomatch h
  have hx := hcf.1
  have hb := hcf.2.1
  have htk := hcf.2.2.2.2
  have hown := hcf.2.2.2.1
  unfold fX1_addFormula at hE0
  replace hl : lv_has ls 6 [(0, .ref (ad 5)), (1, .int p1), (2, .int p2), (3, .ref (ad 25)), (4, .int p4)] := hl
  have J41 : ∀ (v1j41 : Int32) (v2j41 : Int32) (v4j41 : Int32) (σj41 : vS) (H : Heap) (locs : List Loc) (ls : Array Slot), lv_has ls 6 [(0, .ref (ad 5)), (1, .int v1j41), (2, .int v2j41), (4, .int v4j41)] → k_H D (wK cs ad) (k_A 41 ad) σj41 s.heap H locs → T0 = jX1_addFormula_41 N σj41 v1j41 v2j41 v4j41 → W p l e rmX1_addFormula s m args below meth c H locs 0 0 Q0 (F0 m 41 ls []) := by
    intro v1j41 v2j41 v4j41 σj41 H locs ls hl hw hE0
    unfold jX1_addFormula_41 at hE0
    refine lv_aload_n hx hb dX1_addFormula_41 rfl (lv_at hl 0 rfl) ?_
    refine kg_X1_charges hcf hK (kw_112 htk) dX1_addFormula_42 hw ?_
    refine lv_aload_n hx hb dX1_addFormula_45 rfl (lv_at hl 0 rfl) ?_
    refine kg_X1_formulaCount hcf hK (kw_117 htk) (x := (σj41.1 2)) dX1_addFormula_46 hw rfl ?_
    refine lv_iload hx hb dX1_addFormula_49 (lv_at hl 3 rfl) ?_
    obtain ⟨g1, hE0⟩ := gd_e hE0 hN0
    refine kast_A2 hcf hK dX1_addFormula_51 g1 hw (fun H locs hw => ?_)
    refine lv_aload_n hx hb dX1_addFormula_52 rfl (lv_at hl 0 rfl) ?_
    refine kg_X1_begins hcf hK (kw_113 htk) dX1_addFormula_53 hw ?_
    refine lv_aload_n hx hb dX1_addFormula_56 rfl (lv_at hl 0 rfl) ?_
    refine kg_X1_formulaCount hcf hK (kw_117 htk) (x := (σj41.1 2)) dX1_addFormula_57 hw rfl ?_
    refine lv_iload_n hx hb dX1_addFormula_60 rfl (lv_at hl 1 rfl) ?_
    obtain ⟨g2, hE0⟩ := gd_e hE0 hN0
    refine kast_A3 hcf hK dX1_addFormula_61 g2 hw (fun H locs hw => ?_)
    refine lv_aload_n hx hb dX1_addFormula_62 rfl (lv_at hl 0 rfl) ?_
    refine kg_X1_ends hcf hK (kw_115 htk) dX1_addFormula_63 hw ?_
    refine lv_aload_n hx hb dX1_addFormula_66 rfl (lv_at hl 0 rfl) ?_
    refine kg_X1_formulaCount hcf hK (kw_117 htk) (x := (σj41.1 2)) dX1_addFormula_67 hw rfl ?_
    refine lv_iload_n hx hb dX1_addFormula_70 rfl (lv_at hl 2 rfl) ?_
    obtain ⟨g3, hE0⟩ := gd_e hE0 hN0
    refine kast_A4 hcf hK dX1_addFormula_71 g3 hw (fun H locs hw => ?_)
    refine lv_aload_n hx hb dX1_addFormula_72 rfl (lv_at hl 0 rfl) ?_
    refine lv_dup hx hb dX1_addFormula_73 rfl ?_
    refine kg_X1_formulaCount hcf hK (kw_117 htk) (x := (σj41.1 2)) dX1_addFormula_74 hw rfl ?_
    refine lv_iconst (v := 1) hx hb dX1_addFormula_77 rfl ?_
    refine lv_iadd hx hb dX1_addFormula_78 ?_
    refine kp_X1_formulaCount hcf hK (kw_117 htk) dX1_addFormula_79 hw (fun H locs hw => ?_)
    exact kret_v hcf hr hlk hK hw (rt1 hR hE0) hQ0 dX1_addFormula_82
  refine lv_aload_n hx hb dX1_addFormula_0 rfl (lv_at hl 0 rfl) ?_
  refine kg_X1_formulaCount hcf hK (kw_117 htk) (x := (σ.1 2)) dX1_addFormula_1 hw rfl ?_
  refine lv_bipush (v := 6) hx hb dX1_addFormula_4 rfl ?_
  refine lv_icmp_ge (tgt := 82) hx hb dX1_addFormula_6 (by decide) (fun c9 => ?_) (fun c9 => ?_)
  · have hE0 := ite_t hE0 c9
    exact kret_v hcf hr hlk hK hw (rt1 hR hE0) hQ0 dX1_addFormula_82
  · have hE0 := ite_f hE0 c9
    refine lv_iconst (v := 0) hx hb dX1_addFormula_9 rfl ?_
    refine lv_istore hx hb dX1_addFormula_10 hl (Nat.le_of_ble_eq_true rfl) rfl (fun ls (hl : lv_has ls 6 [(5, .int (0 : Int32)), (0, .ref (ad 5)), (1, .int p1), (2, .int p2), (3, .ref (ad 25)), (4, .int p4)]) => ?_)
    obtain ⟨q, hq, hE0⟩ := bd1_e hE0 hN0
    refine k_ind (P := fun zz => ∀ (H : Heap) (locs : List Loc) (ls : Array Slot), lv_has ls 6 [(0, .ref (ad 5)), (1, .int p1), (2, .int p2), (3, .ref (ad 25)), (4, .int p4), (5, .int zz.1)] → k_H D (wK cs ad) (k_A 41 ad) zz.2 s.heap H locs → W p l e rmX1_addFormula s m args below meth c H locs 0 0 Q0 (F0 m 12 ls [])) ?_ N _ hq H locs ls (lv_sub hl [1, 2, 3, 4, 5, 0] rfl) hw
    intro sX T1 hE1 hN1 hC1 hX1
    obtain ⟨v5h12, σh12⟩ := sX
    replace hE1 : T1 = bX1_addFormula_12 N p1 p2 p4 v5h12 σh12 := hE1
    unfold bX1_addFormula_12 at hE1
    intro H locs ls hl hw
    replace hl : lv_has ls 6 [(0, .ref (ad 5)), (1, .int p1), (2, .int p2), (3, .ref (ad 25)), (4, .int p4), (5, .int v5h12)] := hl
    replace hw : k_H D (wK cs ad) (k_A 41 ad) σh12 s.heap H locs := hw
    refine lv_iload hx hb dX1_addFormula_12 (lv_at hl 5 rfl) ?_
    refine lv_iconst (v := 5) hx hb dX1_addFormula_14 rfl ?_
    refine lv_icmp_ge (tgt := 41) hx hb dX1_addFormula_15 (by decide) (fun c8 => ?_) (fun c8 => ?_)
    · have hE1 := ite_t hE1 c8
      have hq := hX1 _ hE1
      subst hq
      exact J41 p1 p2 p4 σh12 H locs ls (lv_sub hl [0, 1, 2, 4] rfl) hw hE0
    · have hE1 := ite_f hE1 c8
      refine lv_aload_n hx hb dX1_addFormula_18 rfl (lv_at hl 0 rfl) ?_
      refine kg_X1_amounts hcf hK (kw_111 htk) dX1_addFormula_19 hw ?_
      refine lv_aload_n hx hb dX1_addFormula_22 rfl (lv_at hl 0 rfl) ?_
      refine kg_X1_formulaCount hcf hK (kw_117 htk) (x := (σh12.1 2)) dX1_addFormula_23 hw rfl ?_
      obtain ⟨g4, hE1⟩ := gd_e hE1 hN1
      refine kaald_amounts hcf hK dX1_addFormula_26 rfl g4 hw ?_
      refine lv_iload hx hb dX1_addFormula_27 (lv_at hl 5 rfl) ?_
      refine lv_aload_n hx hb dX1_addFormula_29 rfl (lv_at hl 3 rfl) ?_
      refine lv_iload hx hb dX1_addFormula_30 (lv_at hl 5 rfl) ?_
      obtain ⟨g5, hE1⟩ := gd_e hE1 hN1
      refine kald_B0 hcf hK (x := (σh12.2.2.2 0 ((v5h12).toNatClampNeg))) dX1_addFormula_32 g5 hw rfl ?_
      refine lv_l2i hx hb dX1_addFormula_33 rfl ?_
      obtain ⟨g6, hE1⟩ := gd_e hE1 hN1
      refine kast_amounts hcf hK dX1_addFormula_34 g4 g6 hw (fun H locs hw => ?_)
      obtain ⟨x7, e_x7, hE1⟩ := k_lte hE1
      refine lv_iinc (k := 5) (v := x7) hx hb dX1_addFormula_35 hl rfl (Eq.symm e_x7) (Nat.le_of_ble_eq_true rfl) rfl (fun ls (hl : lv_has ls 6 [(5, .int x7), (0, .ref (ad 5)), (1, .int p1), (2, .int p2), (3, .ref (ad 25)), (4, .int p4)]) => ?_)
      refine lv_goto (tgt := 12) hx hb dX1_addFormula_38 (by decide) ?_
      exact hC1 _ hE1 H locs ls (lv_sub hl [1, 2, 3, 4, 5, 0] rfl) hw
def jX3_endFormula_21 (N : Nat) (σj21 : vS) (v1j21 : Int32) : Option (vS) :=
  if ((σj21.1 6) = 0) then (
    bd1 (fX1_addFormula N σj21 v1j21 (σj21.1 1) (σj21.1 9)) fun σ1 =>
    some σ1
  ) else (
    some σj21
  )
def fX3_endFormula (N : Nat) (σ : vS) (p1 : Int32) : Option (vS) :=
  if ((σ.1 6) = 0) then (
    bd1 (fX3_isTooMuch N σ) fun r3 =>
    if (r3 = 0) then (
      jX3_endFormula_21 N σ p1
    ) else (
      bd1 (fX3_meet N σ (-6 : Int32) p1) fun σ4 =>
      jX3_endFormula_21 N σ4 p1
    )
  ) else (
    jX3_endFormula_21 N σ p1
  )
abbrev rmX3_endFormula : Room := { frames := 1, cells := 0, slots := 0, locals := 25 }
abbrev wsX3_endFormula : List Cond := .code yX3_endFormula cX3_endFormula 2 none :: kws
theorem kcX3_endFormula {R : Room} {s : State} {args : Array Value} {own : String} {index : Nat} (htk : ∀ w ∈ kws, w.before args s = true) (hl : (Cond.methodLink own index yX3_endFormula).before args s = true) (hR : rmX3_endFormula.frames + 1 ≤ R.frames ∧ 8 + (2 + 11) + rmX3_endFormula.locals ≤ R.locals) : CallW R s args own RX3 index yX3_endFormula cX3_endFormula 2 none wsX3_endFormula rmX3_endFormula 0 0 1 :=
  ⟨callB_of 1 htk (k_good kc_343) rfl rfl rfl (kw_53 htk) hl (by decide +kernel) hR, (kw_342 htk), (kw_10 htk)⟩
set_option maxRecDepth 100000 in
set_option maxHeartbeats 4000000 in
theorem mX3_endFormula (l : Launch) (D : va_G) (cs : Nat → ClassId) (ad : Nat → Nat) (N : Nat) (σ : vS) (p1 : Int32) (σ' : vS) (hf : fX3_endFormula N σ p1 = some σ') : k_Met l yX3_endFormula wsX3_endFormula rmX3_endFormula D (tK cs) (wK cs ad) (k_A 41 ad) [.ref (ad 1), .int p1] σ none σ' := by
  refine k_of (cc := cX3_endFormula) (maxL := 2) (ret := none) (by decide) rfl (Nat.le_of_ble_eq_true rfl) ?_
  intro p e s m args below meth c ls H locs hcf hr hlk hK hZ hl hw
  generalize hQ0 : MQ below _ args s 0 0 _ = Q0
  obtain ⟨T0, hE0⟩ : ∃ T, T = fX3_endFormula N σ p1 := ⟨_, rfl⟩
  have hR := hE0.trans hf
  have hN0 : T0 ≠ none := by rw [hR]; exact fun h => nomatch h
  have hx := hcf.1
  have hb := hcf.2.1
  have htk := hcf.2.2.2.2
  have hown := hcf.2.2.2.1
  unfold fX3_endFormula at hE0
  replace hl : lv_has ls 2 [(0, .ref (ad 1)), (1, .int p1)] := hl
  have J21 : ∀ (v1j21 : Int32) (σj21 : vS) (H : Heap) (locs : List Loc) (ls : Array Slot), lv_has ls 2 [(0, .ref (ad 1)), (1, .int v1j21)] → k_H D (wK cs ad) (k_A 41 ad) σj21 s.heap H locs → T0 = jX3_endFormula_21 N σj21 v1j21 → W p l e rmX3_endFormula s m args below meth c H locs 0 0 Q0 (F0 m 21 ls []) := by
    intro v1j21 σj21 H locs ls hl hw hE0
    unfold jX3_endFormula_21 at hE0
    refine lv_aload_n hx hb dX3_endFormula_21 rfl (lv_at hl 0 rfl) ?_
    refine kg_X3_fault hcf hK (kw_154 htk) (x := (σj21.1 6)) dX3_endFormula_22 hw rfl ?_
    refine lv_if_ne (tgt := 51) hx hb dX3_endFormula_25 (by decide) (fun c2 => ?_) (fun c2 => ?_)
    · have hE0 := ite_f hE0 c2
      exact kret_v hcf hr hlk hK hw (rt1 hR hE0) hQ0 dX3_endFormula_51
    · have hE0 := ite_t hE0 c2
      refine lv_aload_n hx hb dX3_endFormula_28 rfl (lv_at hl 0 rfl) ?_
      refine kg_X3_equation hcf hK (kw_152 htk) dX3_endFormula_29 hw ?_
      refine lv_iload_n hx hb dX3_endFormula_32 rfl (lv_at hl 1 rfl) ?_
      refine lv_aload_n hx hb dX3_endFormula_33 rfl (lv_at hl 0 rfl) ?_
      refine kg_X3_text hcf hK (kw_150 htk) dX3_endFormula_34 hw ?_
      refine kg_X4_place hcf hK (kw_93 htk) (x := (σj21.1 1)) dX3_endFormula_37 hw rfl ?_
      refine lv_aload_n hx hb dX3_endFormula_40 rfl (lv_at hl 0 rfl) ?_
      refine kg_X3_totals hcf hK (kw_161 htk) dX3_endFormula_41 hw ?_
      refine lv_aload_n hx hb dX3_endFormula_44 rfl (lv_at hl 0 rfl) ?_
      refine kg_X3_charge hcf hK (kw_162 htk) (x := (σj21.1 9)) dX3_endFormula_45 hw rfl ?_
      obtain ⟨σ1, k1, hE0⟩ := bd1_e hE0 hN0
      refine k_call (va_runV (As := [.int v1j21, .int (σj21.1 1), .ref (ad 25), .int (σj21.1 9)]) (rest := []) hcf (mX1_addFormula l D cs ad N σj21 v1j21 (σj21.1 1) (σj21.1 9) σ1 k1) (kcX1_addFormula htk (kw_349 htk) ⟨Nat.le_of_ble_eq_true rfl, Nat.le_of_ble_eq_true rfl⟩) ⟨k_blind, va_recv (ci := 1) (q0 := 5) hK hw.1 rfl rfl, k_pre hK hZ hw⟩ rfl rfl hl.1 rfl (lv_room (Nat.le_of_ble_eq_true rfl)) dX3_endFormula_48 ⟨Nat.zero_le _, Nat.zero_le _⟩) hw (fun H locs hw => ?_)
      exact kret_v hcf hr hlk hK hw (rt1 hR hE0) hQ0 dX3_endFormula_51
  refine lv_aload_n hx hb dX3_endFormula_0 rfl (lv_at hl 0 rfl) ?_
  refine kg_X3_fault hcf hK (kw_154 htk) (x := (σ.1 6)) dX3_endFormula_1 hw rfl ?_
  refine lv_if_ne (tgt := 21) hx hb dX3_endFormula_4 (by decide) (fun c6 => ?_) (fun c6 => ?_)
  · have hE0 := ite_f hE0 c6
    exact J21 p1 σ H locs ls (lv_sub hl [0, 1] rfl) hw hE0
  · have hE0 := ite_t hE0 c6
    refine lv_aload_n hx hb dX3_endFormula_7 rfl (lv_at hl 0 rfl) ?_
    obtain ⟨r3, k3, hE0⟩ := bd1_e hE0 hN0
    refine k_callP (va_runV (As := []) (rest := []) hcf (mX3_isTooMuch l D cs ad N σ r3 k3) (kcX3_isTooMuch htk (kw_344 htk) ⟨Nat.le_of_ble_eq_true rfl, Nat.le_of_ble_eq_true rfl⟩) ⟨k_blind, va_recv (ci := 3) (q0 := 1) hK hw.1 rfl rfl, k_pre hK hZ hw⟩ rfl rfl hl.1 rfl (lv_room (Nat.le_of_ble_eq_true rfl)) dX3_endFormula_8 ⟨Nat.zero_le _, Nat.zero_le _⟩) ?_
    refine lv_if_eq (tgt := 21) hx hb dX3_endFormula_11 (by decide) (fun c5 => ?_) (fun c5 => ?_)
    · have hE0 := ite_t hE0 c5
      exact J21 p1 σ H locs ls (lv_sub hl [0, 1] rfl) hw hE0
    · have hE0 := ite_f hE0 c5
      refine lv_aload_n hx hb dX3_endFormula_14 rfl (lv_at hl 0 rfl) ?_
      refine lv_bipush (v := -6) hx hb dX3_endFormula_15 rfl ?_
      refine lv_iload_n hx hb dX3_endFormula_17 rfl (lv_at hl 1 rfl) ?_
      obtain ⟨σ4, k4, hE0⟩ := bd1_e hE0 hN0
      refine k_call (va_runV (As := [.int (-6 : Int32), .int p1]) (rest := []) hcf (mX3_meet l D cs ad N σ (-6 : Int32) p1 σ4 k4) (kcX3_meet htk (kw_272 htk) ⟨Nat.le_of_ble_eq_true rfl, Nat.le_of_ble_eq_true rfl⟩) ⟨k_blind, va_recv (ci := 3) (q0 := 1) hK hw.1 rfl rfl, k_pre hK hZ hw⟩ rfl rfl hl.1 rfl (lv_room (Nat.le_of_ble_eq_true rfl)) dX3_endFormula_18 ⟨Nat.zero_le _, Nat.zero_le _⟩) hw (fun H locs hw => ?_)
      exact J21 p1 σ4 H locs ls (lv_sub hl [0, 1] rfl) hw hE0
def jX3_readSign_89 (N : Nat) (σj89 : vS) : Option (Int32 × vS) :=
  some ((1 : Int32), (p_i σj89 1 ((σj89.1 1) + (1 : Int32))))
def jX3_readSign_68 (N : Nat) (σj68 : vS) (v1j68 : Int32) : Option (Int32 × vS) :=
  if (v1j68 = (43 : Int32)) then (
    jX3_readSign_89 N σj68
  ) else (
    bd1 (fX3_meet N σj68 (-2 : Int32) (σj68.1 1)) fun σ3 =>
    some ((0 : Int32), σ3)
  )
def jX3_readSign_41 (N : Nat) (σj41 : vS) (v1j41 : Int32) (v2j41 : Int32) : Option (Int32 × vS) :=
  if (v1j41 = (61 : Int32)) then (
    if (v2j41 = 0) then (
      jX3_readSign_89 N (p_i σj41 3 (σj41.1 2))
    ) else (
      jX3_readSign_68 N σj41 v1j41
    )
  ) else (
    jX3_readSign_68 N σj41 v1j41
  )
def jX3_readSign_31 (N : Nat) (σj31 : vS) (v1j31 : Int32) (v2j31 : Int32) : Option (Int32 × vS) :=
  if (v1j31 = 0) then (
    if (v2j31 = 0) then (
      jX3_readSign_41 N σj31 v1j31 v2j31
    ) else (
      some ((0 : Int32), σj31)
    )
  ) else (
    jX3_readSign_41 N σj31 v1j31 v2j31
  )
def fX3_readSign (N : Nat) (σ : vS) : Option (Int32 × vS) :=
  bd1 (fX4_skipBlanks N σ) fun σ1 =>
  bd1 (fX4_here N σ1) fun r2 =>
  if ((σ1.1 3) ≤ 0) then (
    jX3_readSign_31 N σ1 r2 (0 : Int32)
  ) else (
    jX3_readSign_31 N σ1 r2 (1 : Int32)
  )
abbrev rmX3_readSign : Room := { frames := 1, cells := 0, slots := 0, locals := 22 }
abbrev wsX3_readSign : List Cond := .code yX3_readSign cX3_readSign 3 (some .boolean) :: kws
theorem kcX3_readSign {R : Room} {s : State} {args : Array Value} {own : String} {index : Nat} (htk : ∀ w ∈ kws, w.before args s = true) (hl : (Cond.methodLink own index yX3_readSign).before args s = true) (hR : rmX3_readSign.frames + 1 ≤ R.frames ∧ 8 + (3 + 11) + rmX3_readSign.locals ≤ R.locals) : CallW R s args own RX3 index yX3_readSign cX3_readSign 3 (some .boolean) wsX3_readSign rmX3_readSign 0 0 0 :=
  ⟨callB_of 0 htk (k_good kc_356) rfl rfl rfl (kw_53 htk) hl (by decide +kernel) hR, (kw_355 htk), (kw_12 htk)⟩
set_option maxRecDepth 100000 in
set_option maxHeartbeats 4000000 in
theorem mX3_readSign (l : Launch) (D : va_G) (cs : Nat → ClassId) (ad : Nat → Nat) (N : Nat) (σ : vS) (r : Int32) (σ' : vS) (hf : fX3_readSign N σ = some (r, σ')) : k_Met l yX3_readSign wsX3_readSign rmX3_readSign D (tK cs) (wK cs ad) (k_A 41 ad) [.ref (ad 1)] σ (some (.int r)) σ' := by
  refine k_of (cc := cX3_readSign) (maxL := 3) (ret := (some .boolean)) (by decide) rfl (Nat.le_of_ble_eq_true rfl) ?_
  intro p e s m args below meth c ls H locs hcf hr hlk hK hZ hl hw
  generalize hQ0 : MQ below _ args s 0 0 _ = Q0
  obtain ⟨T0, hE0⟩ : ∃ T, T = fX3_readSign N σ := ⟨_, rfl⟩
  have hR := hE0.trans hf
  have hN0 : T0 ≠ none := by rw [hR]; exact fun h => nomatch h
  have hx := hcf.1
  have hb := hcf.2.1
  have htk := hcf.2.2.2.2
  have hown := hcf.2.2.2.1
  unfold fX3_readSign at hE0
  replace hl : lv_has ls 3 [(0, .ref (ad 1))] := hl
  have J89 : ∀ (σj89 : vS) (H : Heap) (locs : List Loc) (ls : Array Slot), lv_has ls 3 [(0, .ref (ad 1))] → k_H D (wK cs ad) (k_A 41 ad) σj89 s.heap H locs → T0 = jX3_readSign_89 N σj89 → W p l e rmX3_readSign s m args below meth c H locs 0 0 Q0 (F0 m 89 ls []) := by
    intro σj89 H locs ls hl hw hE0
    unfold jX3_readSign_89 at hE0
    refine lv_aload_n hx hb dX3_readSign_89 rfl (lv_at hl 0 rfl) ?_
    refine kg_X3_text hcf hK (kw_150 htk) dX3_readSign_90 hw ?_
    refine lv_dup hx hb dX3_readSign_93 rfl ?_
    refine kg_X4_place hcf hK (kw_93 htk) (x := (σj89.1 1)) dX3_readSign_94 hw rfl ?_
    refine lv_iconst (v := 1) hx hb dX3_readSign_97 rfl ?_
    refine lv_iadd hx hb dX3_readSign_98 ?_
    refine kp_X4_place hcf hK (kw_93 htk) dX3_readSign_99 hw (fun H locs hw => ?_)
    refine lv_iconst (v := 1) hx hb dX3_readSign_102 rfl ?_
    exact kret_z hcf hr hlk hK hw (rt2 hR hE0) hQ0 rfl dX3_readSign_103
  have J68 : ∀ (v1j68 : Int32) (σj68 : vS) (H : Heap) (locs : List Loc) (ls : Array Slot), lv_has ls 3 [(0, .ref (ad 1)), (1, .int v1j68)] → k_H D (wK cs ad) (k_A 41 ad) σj68 s.heap H locs → T0 = jX3_readSign_68 N σj68 v1j68 → W p l e rmX3_readSign s m args below meth c H locs 0 0 Q0 (F0 m 68 ls []) := by
    intro v1j68 σj68 H locs ls hl hw hE0
    unfold jX3_readSign_68 at hE0
    refine lv_iload_n hx hb dX3_readSign_68 rfl (lv_at hl 1 rfl) ?_
    refine lv_bipush (v := 43) hx hb dX3_readSign_69 rfl ?_
    refine lv_icmp_eq (tgt := 89) hx hb dX3_readSign_71 (by decide) (fun c4 => ?_) (fun c4 => ?_)
    · have hE0 := ite_t hE0 c4
      exact J89 σj68 H locs ls (lv_sub hl [0] rfl) hw hE0
    · have hE0 := ite_f hE0 c4
      refine lv_aload_n hx hb dX3_readSign_74 rfl (lv_at hl 0 rfl) ?_
      refine lv_bipush (v := -2) hx hb dX3_readSign_75 rfl ?_
      refine lv_aload_n hx hb dX3_readSign_77 rfl (lv_at hl 0 rfl) ?_
      refine kg_X3_text hcf hK (kw_150 htk) dX3_readSign_78 hw ?_
      refine kg_X4_place hcf hK (kw_93 htk) (x := (σj68.1 1)) dX3_readSign_81 hw rfl ?_
      obtain ⟨σ3, k3, hE0⟩ := bd1_e hE0 hN0
      refine k_call (va_runV (As := [.int (-2 : Int32), .int (σj68.1 1)]) (rest := []) hcf (mX3_meet l D cs ad N σj68 (-2 : Int32) (σj68.1 1) σ3 k3) (kcX3_meet htk (kw_272 htk) ⟨Nat.le_of_ble_eq_true rfl, Nat.le_of_ble_eq_true rfl⟩) ⟨k_blind, va_recv (ci := 3) (q0 := 1) hK hw.1 rfl rfl, k_pre hK hZ hw⟩ rfl rfl hl.1 rfl (lv_room (Nat.le_of_ble_eq_true rfl)) dX3_readSign_84 ⟨Nat.zero_le _, Nat.zero_le _⟩) hw (fun H locs hw => ?_)
      refine lv_iconst (v := 0) hx hb dX3_readSign_87 rfl ?_
      exact kret_z hcf hr hlk hK hw (rt2 hR hE0) hQ0 rfl dX3_readSign_88
  have J41 : ∀ (v1j41 : Int32) (v2j41 : Int32) (σj41 : vS) (H : Heap) (locs : List Loc) (ls : Array Slot), lv_has ls 3 [(0, .ref (ad 1)), (1, .int v1j41), (2, .int v2j41)] → k_H D (wK cs ad) (k_A 41 ad) σj41 s.heap H locs → T0 = jX3_readSign_41 N σj41 v1j41 v2j41 → W p l e rmX3_readSign s m args below meth c H locs 0 0 Q0 (F0 m 41 ls []) := by
    intro v1j41 v2j41 σj41 H locs ls hl hw hE0
    unfold jX3_readSign_41 at hE0
    refine lv_iload_n hx hb dX3_readSign_41 rfl (lv_at hl 1 rfl) ?_
    refine lv_bipush (v := 61) hx hb dX3_readSign_42 rfl ?_
    refine lv_icmp_ne (tgt := 68) hx hb dX3_readSign_44 (by decide) (fun c6 => ?_) (fun c6 => ?_)
    · have hE0 := ite_f hE0 c6
      exact J68 v1j41 σj41 H locs ls (lv_sub hl [0, 1] rfl) hw hE0
    · have hE0 := ite_t hE0 c6
      refine lv_iload_n hx hb dX3_readSign_47 rfl (lv_at hl 2 rfl) ?_
      refine lv_if_ne (tgt := 68) hx hb dX3_readSign_48 (by decide) (fun c5 => ?_) (fun c5 => ?_)
      · have hE0 := ite_f hE0 c5
        exact J68 v1j41 σj41 H locs ls (lv_sub hl [0, 1] rfl) hw hE0
      · have hE0 := ite_t hE0 c5
        refine lv_aload_n hx hb dX3_readSign_51 rfl (lv_at hl 0 rfl) ?_
        refine kg_X3_equation hcf hK (kw_152 htk) dX3_readSign_52 hw ?_
        refine lv_aload_n hx hb dX3_readSign_55 rfl (lv_at hl 0 rfl) ?_
        refine kg_X3_equation hcf hK (kw_152 htk) dX3_readSign_56 hw ?_
        refine kg_X1_formulaCount hcf hK (kw_118 htk) (x := (σj41.1 2)) dX3_readSign_59 hw rfl ?_
        refine kp_X1_reactantCount hcf hK (kw_124 htk) dX3_readSign_62 hw (fun H locs hw => ?_)
        refine lv_goto (tgt := 89) hx hb dX3_readSign_65 (by decide) ?_
        exact J89 (p_i σj41 3 (σj41.1 2)) H locs ls (lv_sub hl [0] rfl) hw hE0
  have J31 : ∀ (v1j31 : Int32) (v2j31 : Int32) (σj31 : vS) (H : Heap) (locs : List Loc) (ls : Array Slot), lv_has ls 3 [(0, .ref (ad 1)), (1, .int v1j31), (2, .int v2j31)] → k_H D (wK cs ad) (k_A 41 ad) σj31 s.heap H locs → T0 = jX3_readSign_31 N σj31 v1j31 v2j31 → W p l e rmX3_readSign s m args below meth c H locs 0 0 Q0 (F0 m 31 ls []) := by
    intro v1j31 v2j31 σj31 H locs ls hl hw hE0
    unfold jX3_readSign_31 at hE0
    refine lv_iload_n hx hb dX3_readSign_31 rfl (lv_at hl 1 rfl) ?_
    refine lv_if_ne (tgt := 41) hx hb dX3_readSign_32 (by decide) (fun c8 => ?_) (fun c8 => ?_)
    · have hE0 := ite_f hE0 c8
      exact J41 v1j31 v2j31 σj31 H locs ls (lv_sub hl [0, 1, 2] rfl) hw hE0
    · have hE0 := ite_t hE0 c8
      refine lv_iload_n hx hb dX3_readSign_35 rfl (lv_at hl 2 rfl) ?_
      refine lv_if_eq (tgt := 41) hx hb dX3_readSign_36 (by decide) (fun c7 => ?_) (fun c7 => ?_)
      · have hE0 := ite_t hE0 c7
        exact J41 v1j31 v2j31 σj31 H locs ls (lv_sub hl [0, 1, 2] rfl) hw hE0
      · have hE0 := ite_f hE0 c7
        refine lv_iconst (v := 0) hx hb dX3_readSign_39 rfl ?_
        exact kret_z hcf hr hlk hK hw (rt2 hR hE0) hQ0 rfl dX3_readSign_40
  refine lv_aload_n hx hb dX3_readSign_0 rfl (lv_at hl 0 rfl) ?_
  refine kg_X3_text hcf hK (kw_150 htk) dX3_readSign_1 hw ?_
  obtain ⟨σ1, k1, hE0⟩ := bd1_e hE0 hN0
  refine k_call (va_runV (As := []) (rest := []) hcf (mX4_skipBlanks l D cs ad N σ σ1 k1) (kcX4_skipBlanks htk (kw_261 htk) ⟨Nat.le_of_ble_eq_true rfl, Nat.le_of_ble_eq_true rfl⟩) ⟨k_blind, va_recv (ci := 4) (q0 := 4) hK hw.1 rfl rfl, k_pre hK hZ hw⟩ rfl rfl hl.1 rfl (lv_room (Nat.le_of_ble_eq_true rfl)) dX3_readSign_4 ⟨Nat.zero_le _, Nat.zero_le _⟩) hw (fun H locs hw => ?_)
  refine lv_aload_n hx hb dX3_readSign_7 rfl (lv_at hl 0 rfl) ?_
  refine kg_X3_text hcf hK (kw_150 htk) dX3_readSign_8 hw ?_
  obtain ⟨r2, k2, hE0⟩ := bd1_e hE0 hN0
  refine k_callP (va_runV (As := []) (rest := []) hcf (mX4_here l D cs ad N σ1 r2 k2) (kcX4_here htk (kw_276 htk) ⟨Nat.le_of_ble_eq_true rfl, Nat.le_of_ble_eq_true rfl⟩) ⟨k_blind, va_recv (ci := 4) (q0 := 4) hK hw.1 rfl rfl, k_pre hK hZ hw⟩ rfl rfl hl.1 rfl (lv_room (Nat.le_of_ble_eq_true rfl)) dX3_readSign_11 ⟨Nat.zero_le _, Nat.zero_le _⟩) ?_
  refine lv_istore_n hx hb dX3_readSign_14 rfl hl (Nat.le_of_ble_eq_true rfl) rfl (fun ls (hl : lv_has ls 3 [(1, .int r2), (0, .ref (ad 1))]) => ?_)
  refine lv_aload_n hx hb dX3_readSign_15 rfl (lv_at hl 1 rfl) ?_
  refine kg_X3_equation hcf hK (kw_152 htk) dX3_readSign_16 hw ?_
  refine kg_X1_reactantCount hcf hK (kw_124 htk) (x := (σ1.1 3)) dX3_readSign_19 hw rfl ?_
  refine lv_if_le (tgt := 29) hx hb dX3_readSign_22 (by decide) (fun c9 => ?_) (fun c9 => ?_)
  · have hE0 := ite_t hE0 c9
    refine lv_iconst (v := 0) hx hb dX3_readSign_29 rfl ?_
    refine lv_istore_n hx hb dX3_readSign_30 rfl hl (Nat.le_of_ble_eq_true rfl) rfl (fun ls (hl : lv_has ls 3 [(2, .int (0 : Int32)), (1, .int r2), (0, .ref (ad 1))]) => ?_)
    exact J31 r2 (0 : Int32) σ1 H locs ls (lv_sub hl [2, 1, 0] rfl) hw hE0
  · have hE0 := ite_f hE0 c9
    refine lv_iconst (v := 1) hx hb dX3_readSign_25 rfl ?_
    refine lv_goto (tgt := 30) hx hb dX3_readSign_26 (by decide) ?_
    refine lv_istore_n hx hb dX3_readSign_30 rfl hl (Nat.le_of_ble_eq_true rfl) rfl (fun ls (hl : lv_has ls 3 [(2, .int (1 : Int32)), (1, .int r2), (0, .ref (ad 1))]) => ?_)
    exact J31 r2 (1 : Int32) σ1 H locs ls (lv_sub hl [2, 1, 0] rfl) hw hE0
def jX3_readEquation_134 (N : Nat) (σj134 : vS) : Option (vS) :=
  some σj134
def jX3_readEquation_103_29 (N : Nat) (σj103 : vS) (v2j103 : Int32) (v3j103 : Int32) : Option ((Int32 × Int32 × vS) ⊕ (vS)) :=
  bd1 (fX3_endFormula N σj103 v3j103) fun σ7 =>
  if ((σ7.1 6) = 0) then (
    bd2 (fX3_readSign N σ7) fun r9 σ9 =>
    if (r9 = 0) then (
      k_lt (v2j103 + (1 : Int32)) fun x10 =>
      some (.inl ((0 : Int32), x10, σ9))
    ) else (
      k_lt (v2j103 + (1 : Int32)) fun x11 =>
      some (.inl ((1 : Int32), x11, σ9))
    )
  ) else (
    k_lt (v2j103 + (1 : Int32)) fun x8 =>
    some (.inl ((0 : Int32), x8, σ7))
  )
def bX3_readEquation_29 (N : Nat) (v1h29 : Int32) (v2h29 : Int32) (σh29 : vS) : Option ((Int32 × Int32 × vS) ⊕ (vS)) :=
  if ((6 : Int32) < v2h29) then (
    some (.inr σh29)
  ) else (
    if (v1h29 = 0) then (
      some (.inr σh29)
    ) else (
      bd1 (fX4_skipBlanks N σh29) fun σ2 =>
      k_lt (σ2.1 1) fun x3 =>
      bd1 (fX3_beginFormula N σ2) fun σ4 =>
      if ((σ4.1 2) < (6 : Int32)) then (
        bd1 (fX4_here N σ4) fun r5 =>
        if (r5 = (101 : Int32)) then (
          bd1 (fX3_readElectron N σ4) fun σ14 =>
          jX3_readEquation_103_29 N σ14 v2h29 x3
        ) else (
          bd1 (fX3_readFormula N σ4) fun σ6 =>
          jX3_readEquation_103_29 N σ6 v2h29 x3
        )
      ) else (
        bd1 (fX3_meet N σ4 (-5 : Int32) x3) fun σ16 =>
        jX3_readEquation_103_29 N σ16 v2h29 x3
      )
    )
  )
def fX3_readEquation (N : Nat) (σ : vS) : Option (vS) :=
  bd1 (fX1_clear N (p_i (p_i (p_i σ 6 (0 : Int32)) 7 (-1 : Int32)) 1 (0 : Int32))) fun σ1 =>
  bd1 (k_itr (fun zz => bX3_readEquation_29 N zz.1 zz.2.1 zz.2.2) N ((1 : Int32), (0 : Int32), σ1)) fun q => jX3_readEquation_134 N q
abbrev rmX3_readEquation : Room := { frames := 5, cells := 0, slots := 0, locals := 117 }
abbrev wsX3_readEquation : List Cond := .code yX3_readEquation cX3_readEquation 4 none :: kws
theorem kcX3_readEquation {R : Room} {s : State} {args : Array Value} {own : String} {index : Nat} (htk : ∀ w ∈ kws, w.before args s = true) (hl : (Cond.methodLink own index yX3_readEquation).before args s = true) (hR : rmX3_readEquation.frames + 1 ≤ R.frames ∧ 8 + (4 + 11) + rmX3_readEquation.locals ≤ R.locals) : CallW R s args own RX3 index yX3_readEquation cX3_readEquation 4 none wsX3_readEquation rmX3_readEquation 0 0 0 :=
  ⟨callB_of 0 htk (k_good kc_256) rfl rfl rfl (kw_53 htk) hl (by decide +kernel) hR, (kw_254 htk), (kw_255 htk)⟩
set_option maxRecDepth 100000 in
set_option maxHeartbeats 4000000 in
theorem mX3_readEquation (l : Launch) (D : va_G) (cs : Nat → ClassId) (ad : Nat → Nat) (N : Nat) (σ : vS) (σ' : vS) (hf : fX3_readEquation N σ = some σ') : k_Met l yX3_readEquation wsX3_readEquation rmX3_readEquation D (tK cs) (wK cs ad) (k_A 41 ad) [.ref (ad 1)] σ none σ' := by
  refine k_of (cc := cX3_readEquation) (maxL := 4) (ret := none) (by decide) rfl (Nat.le_of_ble_eq_true rfl) ?_
  intro p e s m args below meth c ls H locs hcf hr hlk hK hZ hl hw
  generalize hQ0 : MQ below _ args s 0 0 _ = Q0
  obtain ⟨T0, hE0⟩ : ∃ T, T = fX3_readEquation N σ := ⟨_, rfl⟩
  have hR := hE0.trans hf
  have hN0 : T0 ≠ none := by rw [hR]; exact fun h => nomatch h
  have hx := hcf.1
  have hb := hcf.2.1
  have htk := hcf.2.2.2.2
  have hown := hcf.2.2.2.1
  unfold fX3_readEquation at hE0
  replace hl : lv_has ls 4 [(0, .ref (ad 1))] := hl
  have J134 : ∀ (σj134 : vS) (H : Heap) (locs : List Loc) (ls : Array Slot), lv_has ls 4 [] → k_H D (wK cs ad) (k_A 41 ad) σj134 s.heap H locs → T0 = jX3_readEquation_134 N σj134 → W p l e rmX3_readEquation s m args below meth c H locs 0 0 Q0 (F0 m 134 ls []) := by
    intro σj134 H locs ls hl hw hE0
    unfold jX3_readEquation_134 at hE0
    exact kret_v hcf hr hlk hK hw (rt1 hR hE0) hQ0 dX3_readEquation_134
  refine lv_aload_n hx hb dX3_readEquation_0 rfl (lv_at hl 0 rfl) ?_
  refine lv_iconst (v := 0) hx hb dX3_readEquation_1 rfl ?_
  refine kp_X3_fault hcf hK (kw_154 htk) dX3_readEquation_2 hw (fun H locs hw => ?_)
  refine lv_aload_n hx hb dX3_readEquation_5 rfl (lv_at hl 0 rfl) ?_
  refine lv_iconst (v := -1) hx hb dX3_readEquation_6 rfl ?_
  refine kp_X3_faultPlace hcf hK (kw_156 htk) dX3_readEquation_7 hw (fun H locs hw => ?_)
  refine lv_aload_n hx hb dX3_readEquation_10 rfl (lv_at hl 0 rfl) ?_
  refine kg_X3_text hcf hK (kw_150 htk) dX3_readEquation_11 hw ?_
  refine lv_iconst (v := 0) hx hb dX3_readEquation_14 rfl ?_
  refine kp_X4_place hcf hK (kw_93 htk) dX3_readEquation_15 hw (fun H locs hw => ?_)
  refine lv_aload_n hx hb dX3_readEquation_18 rfl (lv_at hl 0 rfl) ?_
  refine kg_X3_equation hcf hK (kw_152 htk) dX3_readEquation_19 hw ?_
  obtain ⟨σ1, k1, hE0⟩ := bd1_e hE0 hN0
  refine k_call (va_runV (As := []) (rest := []) hcf (mX1_clear l D cs ad N (p_i (p_i (p_i σ 6 (0 : Int32)) 7 (-1 : Int32)) 1 (0 : Int32)) σ1 k1) (kcX1_clear htk (kw_257 htk) ⟨Nat.le_of_ble_eq_true rfl, Nat.le_of_ble_eq_true rfl⟩) ⟨k_blind, va_recv (ci := 1) (q0 := 5) hK hw.1 rfl rfl, k_pre hK hZ hw⟩ rfl rfl hl.1 rfl (lv_room (Nat.le_of_ble_eq_true rfl)) dX3_readEquation_22 ⟨Nat.zero_le _, Nat.zero_le _⟩) hw (fun H locs hw => ?_)
  refine lv_iconst (v := 1) hx hb dX3_readEquation_25 rfl ?_
  refine lv_istore_n hx hb dX3_readEquation_26 rfl hl (Nat.le_of_ble_eq_true rfl) rfl (fun ls (hl : lv_has ls 4 [(1, .int (1 : Int32)), (0, .ref (ad 1))]) => ?_)
  refine lv_iconst (v := 0) hx hb dX3_readEquation_27 rfl ?_
  refine lv_istore_n hx hb dX3_readEquation_28 rfl hl (Nat.le_of_ble_eq_true rfl) rfl (fun ls (hl : lv_has ls 4 [(2, .int (0 : Int32)), (1, .int (1 : Int32)), (0, .ref (ad 1))]) => ?_)
  obtain ⟨q, hq, hE0⟩ := bd1_e hE0 hN0
  refine k_ind (P := fun zz => ∀ (H : Heap) (locs : List Loc) (ls : Array Slot), lv_has ls 4 [(0, .ref (ad 1)), (1, .int zz.1), (2, .int zz.2.1)] → k_H D (wK cs ad) (k_A 41 ad) zz.2.2 s.heap H locs → W p l e rmX3_readEquation s m args below meth c H locs 0 0 Q0 (F0 m 29 ls [])) ?_ N _ hq H locs ls (lv_sub hl [2, 1, 0] rfl) hw
  intro sX T1 hE1 hN1 hC1 hX1
  obtain ⟨v1h29, v2h29, σh29⟩ := sX
  replace hE1 : T1 = bX3_readEquation_29 N v1h29 v2h29 σh29 := hE1
  unfold bX3_readEquation_29 at hE1
  have J103_29 : ∀ (v2j103 : Int32) (v3j103 : Int32) (σj103 : vS) (H : Heap) (locs : List Loc) (ls : Array Slot), lv_has ls 4 [(0, .ref (ad 1)), (2, .int v2j103), (3, .int v3j103)] → k_H D (wK cs ad) (k_A 41 ad) σj103 s.heap H locs → T1 = jX3_readEquation_103_29 N σj103 v2j103 v3j103 → W p l e rmX3_readEquation s m args below meth c H locs 0 0 Q0 (F0 m 103 ls []) := by
    intro v2j103 v3j103 σj103 H locs ls hl hw hE1
    unfold jX3_readEquation_103_29 at hE1
    refine lv_aload_n hx hb dX3_readEquation_103 rfl (lv_at hl 0 rfl) ?_
    refine lv_iload_n hx hb dX3_readEquation_104 rfl (lv_at hl 2 rfl) ?_
    obtain ⟨σ7, k7, hE1⟩ := bd1_e hE1 hN1
    refine k_call (va_runV (As := [.int v3j103]) (rest := []) hcf (mX3_endFormula l D cs ad N σj103 v3j103 σ7 k7) (kcX3_endFormula htk (kw_340 htk) ⟨Nat.le_of_ble_eq_true rfl, Nat.le_of_ble_eq_true rfl⟩) ⟨k_blind, va_recv (ci := 3) (q0 := 1) hK hw.1 rfl rfl, k_pre hK hZ hw⟩ rfl rfl hl.1 rfl (lv_room (Nat.le_of_ble_eq_true rfl)) dX3_readEquation_105 ⟨Nat.zero_le _, Nat.zero_le _⟩) hw (fun H locs hw => ?_)
    refine lv_aload_n hx hb dX3_readEquation_108 rfl (lv_at hl 0 rfl) ?_
    refine kg_X3_fault hcf hK (kw_154 htk) (x := (σ7.1 6)) dX3_readEquation_109 hw rfl ?_
    refine lv_if_ne (tgt := 126) hx hb dX3_readEquation_112 (by decide) (fun c13 => ?_) (fun c13 => ?_)
    · have hE1 := ite_f hE1 c13
      refine lv_iconst (v := 0) hx hb dX3_readEquation_126 rfl ?_
      refine lv_istore_n hx hb dX3_readEquation_127 rfl hl (Nat.le_of_ble_eq_true rfl) rfl (fun ls (hl : lv_has ls 4 [(1, .int (0 : Int32)), (0, .ref (ad 1)), (2, .int v2j103), (3, .int v3j103)]) => ?_)
      obtain ⟨x8, e_x8, hE1⟩ := k_lte hE1
      refine lv_iinc (k := 2) (v := x8) hx hb dX3_readEquation_128 hl rfl (Eq.symm e_x8) (Nat.le_of_ble_eq_true rfl) rfl (fun ls (hl : lv_has ls 4 [(2, .int x8), (1, .int (0 : Int32)), (0, .ref (ad 1)), (3, .int v3j103)]) => ?_)
      refine lv_goto (tgt := 29) hx hb dX3_readEquation_131 (by decide) ?_
      exact hC1 _ hE1 H locs ls (lv_sub hl [2, 1, 0] rfl) hw
    · have hE1 := ite_t hE1 c13
      refine lv_aload_n hx hb dX3_readEquation_115 rfl (lv_at hl 0 rfl) ?_
      obtain ⟨r9, σ9, k9, hE1⟩ := bd2_e hE1 hN1
      refine k_call (va_runV (As := []) (rest := []) hcf (mX3_readSign l D cs ad N σ7 r9 σ9 k9) (kcX3_readSign htk (kw_353 htk) ⟨Nat.le_of_ble_eq_true rfl, Nat.le_of_ble_eq_true rfl⟩) ⟨k_blind, va_recv (ci := 3) (q0 := 1) hK hw.1 rfl rfl, k_pre hK hZ hw⟩ rfl rfl hl.1 rfl (lv_room (Nat.le_of_ble_eq_true rfl)) dX3_readEquation_116 ⟨Nat.zero_le _, Nat.zero_le _⟩) hw (fun H locs hw => ?_)
      refine lv_if_eq (tgt := 126) hx hb dX3_readEquation_119 (by decide) (fun c12 => ?_) (fun c12 => ?_)
      · have hE1 := ite_t hE1 c12
        refine lv_iconst (v := 0) hx hb dX3_readEquation_126 rfl ?_
        refine lv_istore_n hx hb dX3_readEquation_127 rfl hl (Nat.le_of_ble_eq_true rfl) rfl (fun ls (hl : lv_has ls 4 [(1, .int (0 : Int32)), (0, .ref (ad 1)), (2, .int v2j103), (3, .int v3j103)]) => ?_)
        obtain ⟨x10, e_x10, hE1⟩ := k_lte hE1
        refine lv_iinc (k := 2) (v := x10) hx hb dX3_readEquation_128 hl rfl (Eq.symm e_x10) (Nat.le_of_ble_eq_true rfl) rfl (fun ls (hl : lv_has ls 4 [(2, .int x10), (1, .int (0 : Int32)), (0, .ref (ad 1)), (3, .int v3j103)]) => ?_)
        refine lv_goto (tgt := 29) hx hb dX3_readEquation_131 (by decide) ?_
        exact hC1 _ hE1 H locs ls (lv_sub hl [2, 1, 0] rfl) hw
      · have hE1 := ite_f hE1 c12
        refine lv_iconst (v := 1) hx hb dX3_readEquation_122 rfl ?_
        refine lv_goto (tgt := 127) hx hb dX3_readEquation_123 (by decide) ?_
        refine lv_istore_n hx hb dX3_readEquation_127 rfl hl (Nat.le_of_ble_eq_true rfl) rfl (fun ls (hl : lv_has ls 4 [(1, .int (1 : Int32)), (0, .ref (ad 1)), (2, .int v2j103), (3, .int v3j103)]) => ?_)
        obtain ⟨x11, e_x11, hE1⟩ := k_lte hE1
        refine lv_iinc (k := 2) (v := x11) hx hb dX3_readEquation_128 hl rfl (Eq.symm e_x11) (Nat.le_of_ble_eq_true rfl) rfl (fun ls (hl : lv_has ls 4 [(2, .int x11), (1, .int (1 : Int32)), (0, .ref (ad 1)), (3, .int v3j103)]) => ?_)
        refine lv_goto (tgt := 29) hx hb dX3_readEquation_131 (by decide) ?_
        exact hC1 _ hE1 H locs ls (lv_sub hl [2, 1, 0] rfl) hw
  intro H locs ls hl hw
  replace hl : lv_has ls 4 [(0, .ref (ad 1)), (1, .int v1h29), (2, .int v2h29)] := hl
  replace hw : k_H D (wK cs ad) (k_A 41 ad) σh29 s.heap H locs := hw
  refine lv_iload_n hx hb dX3_readEquation_29 rfl (lv_at hl 2 rfl) ?_
  refine lv_bipush (v := 6) hx hb dX3_readEquation_30 rfl ?_
  refine lv_icmp_gt (tgt := 134) hx hb dX3_readEquation_32 (by decide) (fun c19 => ?_) (fun c19 => ?_)
  · have hE1 := ite_t hE1 c19
    have hq := hX1 _ hE1
    subst hq
    exact J134 σh29 H locs ls (lv_sub hl [] rfl) hw hE0
  · have hE1 := ite_f hE1 c19
    refine lv_iload_n hx hb dX3_readEquation_35 rfl (lv_at hl 1 rfl) ?_
    refine lv_if_eq (tgt := 134) hx hb dX3_readEquation_36 (by decide) (fun c18 => ?_) (fun c18 => ?_)
    · have hE1 := ite_t hE1 c18
      have hq := hX1 _ hE1
      subst hq
      exact J134 σh29 H locs ls (lv_sub hl [] rfl) hw hE0
    · have hE1 := ite_f hE1 c18
      refine lv_aload_n hx hb dX3_readEquation_39 rfl (lv_at hl 0 rfl) ?_
      refine kg_X3_text hcf hK (kw_150 htk) dX3_readEquation_40 hw ?_
      obtain ⟨σ2, k2, hE1⟩ := bd1_e hE1 hN1
      refine k_call (va_runV (As := []) (rest := []) hcf (mX4_skipBlanks l D cs ad N σh29 σ2 k2) (kcX4_skipBlanks htk (kw_261 htk) ⟨Nat.le_of_ble_eq_true rfl, Nat.le_of_ble_eq_true rfl⟩) ⟨k_blind, va_recv (ci := 4) (q0 := 4) hK hw.1 rfl rfl, k_pre hK hZ hw⟩ rfl rfl hl.1 rfl (lv_room (Nat.le_of_ble_eq_true rfl)) dX3_readEquation_43 ⟨Nat.zero_le _, Nat.zero_le _⟩) hw (fun H locs hw => ?_)
      refine lv_aload_n hx hb dX3_readEquation_46 rfl (lv_at hl 0 rfl) ?_
      refine kg_X3_text hcf hK (kw_150 htk) dX3_readEquation_47 hw ?_
      refine kg_X4_place hcf hK (kw_93 htk) (x := (σ2.1 1)) dX3_readEquation_50 hw rfl ?_
      refine lv_topi (fun x3 e_x3 => ?_)
      have hE1 := k_lts hE1 e_x3
      refine lv_istore_n hx hb dX3_readEquation_53 rfl hl (Nat.le_of_ble_eq_true rfl) rfl (fun ls (hl : lv_has ls 4 [(3, .int x3), (0, .ref (ad 1)), (1, .int v1h29), (2, .int v2h29)]) => ?_)
      refine lv_aload_n hx hb dX3_readEquation_54 rfl (lv_at hl 1 rfl) ?_
      obtain ⟨σ4, k4, hE1⟩ := bd1_e hE1 hN1
      refine k_call (va_runV (As := []) (rest := []) hcf (mX3_beginFormula l D cs ad N σ2 σ4 k4) (kcX3_beginFormula htk (kw_265 htk) ⟨Nat.le_of_ble_eq_true rfl, Nat.le_of_ble_eq_true rfl⟩) ⟨k_blind, va_recv (ci := 3) (q0 := 1) hK hw.1 rfl rfl, k_pre hK hZ hw⟩ rfl rfl hl.1 rfl (lv_room (Nat.le_of_ble_eq_true rfl)) dX3_readEquation_55 ⟨Nat.zero_le _, Nat.zero_le _⟩) hw (fun H locs hw => ?_)
      refine lv_aload_n hx hb dX3_readEquation_58 rfl (lv_at hl 1 rfl) ?_
      refine kg_X3_equation hcf hK (kw_152 htk) dX3_readEquation_59 hw ?_
      refine kg_X1_formulaCount hcf hK (kw_118 htk) (x := (σ4.1 2)) dX3_readEquation_62 hw rfl ?_
      refine lv_bipush (v := 6) hx hb dX3_readEquation_65 rfl ?_
      refine lv_icmp_lt (tgt := 80) hx hb dX3_readEquation_67 (by decide) (fun c17 => ?_) (fun c17 => ?_)
      · have hE1 := ite_t hE1 c17
        refine lv_aload_n hx hb dX3_readEquation_80 rfl (lv_at hl 1 rfl) ?_
        refine kg_X3_text hcf hK (kw_150 htk) dX3_readEquation_81 hw ?_
        obtain ⟨r5, k5, hE1⟩ := bd1_e hE1 hN1
        refine k_callP (va_runV (As := []) (rest := []) hcf (mX4_here l D cs ad N σ4 r5 k5) (kcX4_here htk (kw_276 htk) ⟨Nat.le_of_ble_eq_true rfl, Nat.le_of_ble_eq_true rfl⟩) ⟨k_blind, va_recv (ci := 4) (q0 := 4) hK hw.1 rfl rfl, k_pre hK hZ hw⟩ rfl rfl hl.1 rfl (lv_room (Nat.le_of_ble_eq_true rfl)) dX3_readEquation_84 ⟨Nat.zero_le _, Nat.zero_le _⟩) ?_
        refine lv_bipush (v := 101) hx hb dX3_readEquation_87 rfl ?_
        refine lv_icmp_ne (tgt := 99) hx hb dX3_readEquation_89 (by decide) (fun c15 => ?_) (fun c15 => ?_)
        · have hE1 := ite_f hE1 c15
          refine lv_aload_n hx hb dX3_readEquation_99 rfl (lv_at hl 1 rfl) ?_
          obtain ⟨σ6, k6, hE1⟩ := bd1_e hE1 hN1
          refine k_call (va_runV (As := []) (rest := []) hcf (mX3_readFormula l D cs ad N σ4 σ6 k6) (kcX3_readFormula htk (kw_292 htk) ⟨Nat.le_of_ble_eq_true rfl, Nat.le_of_ble_eq_true rfl⟩) ⟨k_blind, va_recv (ci := 3) (q0 := 1) hK hw.1 rfl rfl, k_pre hK hZ hw⟩ rfl rfl hl.1 rfl (lv_room (Nat.le_of_ble_eq_true rfl)) dX3_readEquation_100 ⟨Nat.zero_le _, Nat.zero_le _⟩) hw (fun H locs hw => ?_)
          exact J103_29 v2h29 x3 σ6 H locs ls (lv_sub hl [1, 3, 0] rfl) hw hE1
        · have hE1 := ite_t hE1 c15
          refine lv_aload_n hx hb dX3_readEquation_92 rfl (lv_at hl 1 rfl) ?_
          obtain ⟨σ14, k14, hE1⟩ := bd1_e hE1 hN1
          refine k_call (va_runV (As := []) (rest := []) hcf (mX3_readElectron l D cs ad N σ4 σ14 k14) (kcX3_readElectron htk (kw_280 htk) ⟨Nat.le_of_ble_eq_true rfl, Nat.le_of_ble_eq_true rfl⟩) ⟨k_blind, va_recv (ci := 3) (q0 := 1) hK hw.1 rfl rfl, k_pre hK hZ hw⟩ rfl rfl hl.1 rfl (lv_room (Nat.le_of_ble_eq_true rfl)) dX3_readEquation_93 ⟨Nat.zero_le _, Nat.zero_le _⟩) hw (fun H locs hw => ?_)
          refine lv_goto (tgt := 103) hx hb dX3_readEquation_96 (by decide) ?_
          exact J103_29 v2h29 x3 σ14 H locs ls (lv_sub hl [1, 3, 0] rfl) hw hE1
      · have hE1 := ite_f hE1 c17
        refine lv_aload_n hx hb dX3_readEquation_70 rfl (lv_at hl 1 rfl) ?_
        refine lv_bipush (v := -5) hx hb dX3_readEquation_71 rfl ?_
        refine lv_iload_n hx hb dX3_readEquation_73 rfl (lv_at hl 0 rfl) ?_
        obtain ⟨σ16, k16, hE1⟩ := bd1_e hE1 hN1
        refine k_call (va_runV (As := [.int (-5 : Int32), .int x3]) (rest := []) hcf (mX3_meet l D cs ad N σ4 (-5 : Int32) x3 σ16 k16) (kcX3_meet htk (kw_272 htk) ⟨Nat.le_of_ble_eq_true rfl, Nat.le_of_ble_eq_true rfl⟩) ⟨k_blind, va_recv (ci := 3) (q0 := 1) hK hw.1 rfl rfl, k_pre hK hZ hw⟩ rfl rfl hl.1 rfl (lv_room (Nat.le_of_ble_eq_true rfl)) dX3_readEquation_74 ⟨Nat.zero_le _, Nat.zero_le _⟩) hw (fun H locs hw => ?_)
        refine lv_goto (tgt := 103) hx hb dX3_readEquation_77 (by decide) ?_
        exact J103_29 v2h29 x3 σ16 H locs ls (lv_sub hl [1, 3, 0] rfl) hw hE1
def fX1_containsFormula (N : Nat) (σ : vS) (p1 : Int32) : Option (Int32) :=
  if (p1 < 0) then (
    some (0 : Int32)
  ) else (
    if ((σ.1 2) ≤ p1) then (
      some (0 : Int32)
    ) else (
      some (1 : Int32)
    )
  )
abbrev rmX1_containsFormula : Room := { frames := 0, cells := 0, slots := 0, locals := 0 }
abbrev wsX1_containsFormula : List Cond := .code yX1_containsFormula cX1_containsFormula 2 (some .boolean) :: kws
theorem kcX1_containsFormula {R : Room} {s : State} {args : Array Value} {own : String} {index : Nat} (htk : ∀ w ∈ kws, w.before args s = true) (hl : (Cond.methodLink own index yX1_containsFormula).before args s = true) (hR : rmX1_containsFormula.frames + 1 ≤ R.frames ∧ 8 + (2 + 11) + rmX1_containsFormula.locals ≤ R.locals) : CallW R s args own RX1 index yX1_containsFormula cX1_containsFormula 2 (some .boolean) wsX1_containsFormula rmX1_containsFormula 0 0 1 :=
  ⟨callB_of 1 htk (k_good kc_373) rfl rfl rfl (kw_55 htk) hl (by decide +kernel) hR, (kw_371 htk), (kw_372 htk)⟩
set_option maxRecDepth 100000 in
set_option maxHeartbeats 4000000 in
theorem mX1_containsFormula (l : Launch) (D : va_G) (cs : Nat → ClassId) (ad : Nat → Nat) (N : Nat) (σ : vS) (p1 : Int32) (r : Int32) (hf : fX1_containsFormula N σ p1 = some r) : k_MP l yX1_containsFormula wsX1_containsFormula rmX1_containsFormula D (tK cs) (wK cs ad) [.ref (ad 5), .int p1] σ (.int r) := by
  refine k_ofP (cc := cX1_containsFormula) (maxL := 2) (ret := (some .boolean)) (by decide) rfl (Nat.le_of_ble_eq_true rfl) ?_
  intro p e s m args below meth c ls hcf hr hlk hK hZ hl hw
  generalize hQ0 : MQ below _ args s 0 0 _ = Q0
  obtain ⟨T0, hE0⟩ : ∃ T, T = fX1_containsFormula N σ p1 := ⟨_, rfl⟩
  have hR := hE0.trans hf
  have hN0 : T0 ≠ none := by rw [hR]; exact fun h => nomatch h
  have hx := hcf.1
  have hb := hcf.2.1
  have htk := hcf.2.2.2.2
  have hown := hcf.2.2.2.1
  unfold fX1_containsFormula at hE0
  replace hl : lv_has ls 2 [(0, .ref (ad 5)), (1, .int p1)] := hl
  refine lv_iload_n hx hb dX1_containsFormula_0 rfl (lv_at hl 1 rfl) ?_
  refine lv_if_lt (tgt := 16) hx hb dX1_containsFormula_1 (by decide) (fun c2 => ?_) (fun c2 => ?_)
  · have hE0 := ite_t hE0 c2
    refine lv_iconst (v := 0) hx hb dX1_containsFormula_16 rfl ?_
    exact kretP_z hcf hr hlk hK hw (rt1 hR hE0) hQ0 rfl dX1_containsFormula_17
  · have hE0 := ite_f hE0 c2
    refine lv_iload_n hx hb dX1_containsFormula_4 rfl (lv_at hl 1 rfl) ?_
    refine lv_aload_n hx hb dX1_containsFormula_5 rfl (lv_at hl 0 rfl) ?_
    refine kg_X1_formulaCount hcf hK (kw_117 htk) (x := (σ.1 2)) dX1_containsFormula_6 hw rfl ?_
    refine lv_icmp_ge (tgt := 16) hx hb dX1_containsFormula_9 (by decide) (fun c1 => ?_) (fun c1 => ?_)
    · have hE0 := ite_t hE0 c1
      refine lv_iconst (v := 0) hx hb dX1_containsFormula_16 rfl ?_
      exact kretP_z hcf hr hlk hK hw (rt1 hR hE0) hQ0 rfl dX1_containsFormula_17
    · have hE0 := ite_f hE0 c1
      refine lv_iconst (v := 1) hx hb dX1_containsFormula_12 rfl ?_
      refine lv_goto (tgt := 17) hx hb dX1_containsFormula_13 (by decide) ?_
      exact kretP_z hcf hr hlk hK hw (rt1 hR hE0) hQ0 rfl dX1_containsFormula_17
def fX1_amount (N : Nat) (σ : vS) (p1 : Int32) (p2 : Int32) : Option (Int32) :=
  if ((σ.1 4) ≤ p2) then (
    if (p1 < 0 ∨ 6 ≤ (p1).toNatClampNeg) then none else
    some (σ.2.1 2 ((p1).toNatClampNeg))
  ) else (
    if (p1 < 0 ∨ 6 ≤ (p1).toNatClampNeg) then none else
    if (p2 < 0 ∨ 5 ≤ (p2).toNatClampNeg) then none else
    some (σ.2.1 (9 + (p1).toNatClampNeg) ((p2).toNatClampNeg))
  )
abbrev rmX1_amount : Room := { frames := 0, cells := 0, slots := 0, locals := 0 }
abbrev wsX1_amount : List Cond := .code yX1_amount cX1_amount 3 (some .int) :: kws
theorem kcX1_amount {R : Room} {s : State} {args : Array Value} {own : String} {index : Nat} (htk : ∀ w ∈ kws, w.before args s = true) (hl : (Cond.methodLink own index yX1_amount).before args s = true) (hR : rmX1_amount.frames + 1 ≤ R.frames ∧ 8 + (3 + 11) + rmX1_amount.locals ≤ R.locals) : CallW R s args own RX1 index yX1_amount cX1_amount 3 (some .int) wsX1_amount rmX1_amount 0 0 2 :=
  ⟨callB_of 2 htk (k_good kc_377) rfl rfl rfl (kw_55 htk) hl (by decide +kernel) hR, (kw_375 htk), (kw_376 htk)⟩
set_option maxRecDepth 100000 in
set_option maxHeartbeats 4000000 in
theorem mX1_amount (l : Launch) (D : va_G) (cs : Nat → ClassId) (ad : Nat → Nat) (N : Nat) (σ : vS) (p1 : Int32) (p2 : Int32) (r : Int32) (hf : fX1_amount N σ p1 p2 = some r) : k_MP l yX1_amount wsX1_amount rmX1_amount D (tK cs) (wK cs ad) [.ref (ad 5), .int p1, .int p2] σ (.int r) := by
  refine k_ofP (cc := cX1_amount) (maxL := 3) (ret := (some .int)) (by decide) rfl (Nat.le_of_ble_eq_true rfl) ?_
  intro p e s m args below meth c ls hcf hr hlk hK hZ hl hw
  generalize hQ0 : MQ below _ args s 0 0 _ = Q0
  obtain ⟨T0, hE0⟩ : ∃ T, T = fX1_amount N σ p1 p2 := ⟨_, rfl⟩
  have hR := hE0.trans hf
  have hN0 : T0 ≠ none := by rw [hR]; exact fun h => nomatch h
  have hx := hcf.1
  have hb := hcf.2.1
  have htk := hcf.2.2.2.2
  have hown := hcf.2.2.2.1
  unfold fX1_amount at hE0
  replace hl : lv_has ls 3 [(0, .ref (ad 5)), (1, .int p1), (2, .int p2)] := hl
  refine lv_iload_n hx hb dX1_amount_0 rfl (lv_at hl 2 rfl) ?_
  refine lv_aload_n hx hb dX1_amount_1 rfl (lv_at hl 0 rfl) ?_
  refine kg_X1_elementCount hcf hK (kw_126 htk) (x := (σ.1 4)) dX1_amount_2 hw rfl ?_
  refine lv_icmp_ge (tgt := 19) hx hb dX1_amount_5 (by decide) (fun c4 => ?_) (fun c4 => ?_)
  · have hE0 := ite_t hE0 c4
    refine lv_aload_n hx hb dX1_amount_19 rfl (lv_at hl 0 rfl) ?_
    refine kg_X1_charges hcf hK (kw_112 htk) dX1_amount_20 hw ?_
    refine lv_iload_n hx hb dX1_amount_23 rfl (lv_at hl 1 rfl) ?_
    obtain ⟨g1, hE0⟩ := gd_e hE0 hN0
    refine kald_A2 hcf hK (x := (σ.2.1 2 ((p1).toNatClampNeg))) dX1_amount_24 g1 hw rfl ?_
    exact kretP_i hcf hr hlk hK hw (rt1 hR hE0) hQ0 dX1_amount_25
  · have hE0 := ite_f hE0 c4
    refine lv_aload_n hx hb dX1_amount_8 rfl (lv_at hl 0 rfl) ?_
    refine kg_X1_amounts hcf hK (kw_111 htk) dX1_amount_9 hw ?_
    refine lv_iload_n hx hb dX1_amount_12 rfl (lv_at hl 1 rfl) ?_
    obtain ⟨g2, hE0⟩ := gd_e hE0 hN0
    refine kaald_amounts hcf hK dX1_amount_13 rfl g2 hw ?_
    refine lv_iload_n hx hb dX1_amount_14 rfl (lv_at hl 2 rfl) ?_
    obtain ⟨g3, hE0⟩ := gd_e hE0 hN0
    refine kald_amounts hcf hK (x := (σ.2.1 (9 + (p1).toNatClampNeg) ((p2).toNatClampNeg))) dX1_amount_15 g2 g3 hw rfl ?_
    refine lv_goto (tgt := 25) hx hb dX1_amount_16 (by decide) ?_
    exact kretP_i hcf hr hlk hK hw (rt1 hR hE0) hQ0 dX1_amount_25
def fX1_isProduct (N : Nat) (σ : vS) (p1 : Int32) : Option (Int32) :=
  if (p1 < (σ.1 3)) then (
    some (0 : Int32)
  ) else (
    some (1 : Int32)
  )
abbrev rmX1_isProduct : Room := { frames := 0, cells := 0, slots := 0, locals := 0 }
abbrev wsX1_isProduct : List Cond := .code yX1_isProduct cX1_isProduct 2 (some .boolean) :: kws
theorem kcX1_isProduct {R : Room} {s : State} {args : Array Value} {own : String} {index : Nat} (htk : ∀ w ∈ kws, w.before args s = true) (hl : (Cond.methodLink own index yX1_isProduct).before args s = true) (hR : rmX1_isProduct.frames + 1 ≤ R.frames ∧ 8 + (2 + 11) + rmX1_isProduct.locals ≤ R.locals) : CallW R s args own RX1 index yX1_isProduct cX1_isProduct 2 (some .boolean) wsX1_isProduct rmX1_isProduct 0 0 1 :=
  ⟨callB_of 1 htk (k_good kc_381) rfl rfl rfl (kw_55 htk) hl (by decide +kernel) hR, (kw_379 htk), (kw_380 htk)⟩
set_option maxRecDepth 100000 in
set_option maxHeartbeats 4000000 in
theorem mX1_isProduct (l : Launch) (D : va_G) (cs : Nat → ClassId) (ad : Nat → Nat) (N : Nat) (σ : vS) (p1 : Int32) (r : Int32) (hf : fX1_isProduct N σ p1 = some r) : k_MP l yX1_isProduct wsX1_isProduct rmX1_isProduct D (tK cs) (wK cs ad) [.ref (ad 5), .int p1] σ (.int r) := by
  refine k_ofP (cc := cX1_isProduct) (maxL := 2) (ret := (some .boolean)) (by decide) rfl (Nat.le_of_ble_eq_true rfl) ?_
  intro p e s m args below meth c ls hcf hr hlk hK hZ hl hw
  generalize hQ0 : MQ below _ args s 0 0 _ = Q0
  obtain ⟨T0, hE0⟩ : ∃ T, T = fX1_isProduct N σ p1 := ⟨_, rfl⟩
  have hR := hE0.trans hf
  have hN0 : T0 ≠ none := by rw [hR]; exact fun h => nomatch h
  have hx := hcf.1
  have hb := hcf.2.1
  have htk := hcf.2.2.2.2
  have hown := hcf.2.2.2.1
  unfold fX1_isProduct at hE0
  replace hl : lv_has ls 2 [(0, .ref (ad 5)), (1, .int p1)] := hl
  refine lv_iload_n hx hb dX1_isProduct_0 rfl (lv_at hl 1 rfl) ?_
  refine lv_aload_n hx hb dX1_isProduct_1 rfl (lv_at hl 0 rfl) ?_
  refine kg_X1_reactantCount hcf hK (kw_122 htk) (x := (σ.1 3)) dX1_isProduct_2 hw rfl ?_
  refine lv_icmp_lt (tgt := 12) hx hb dX1_isProduct_5 (by decide) (fun c1 => ?_) (fun c1 => ?_)
  · have hE0 := ite_t hE0 c1
    refine lv_iconst (v := 0) hx hb dX1_isProduct_12 rfl ?_
    exact kretP_z hcf hr hlk hK hw (rt1 hR hE0) hQ0 rfl dX1_isProduct_13
  · have hE0 := ite_f hE0 c1
    refine lv_iconst (v := 1) hx hb dX1_isProduct_8 rfl ?_
    refine lv_goto (tgt := 13) hx hb dX1_isProduct_9 (by decide) ?_
    exact kretP_z hcf hr hlk hK hw (rt1 hR hE0) hQ0 rfl dX1_isProduct_13
def fX1_share (N : Nat) (σ : vS) (p1 : Int32) (p2 : Int32) (p3 : Int64) : Option (Int64) :=
  bd1 (fX1_containsFormula N σ p1) fun r1 =>
  if (r1 = 0) then (
    some (0 : Int64)
  ) else (
    bd1 (fX1_amount N σ p1 p2) fun r2 =>
    k_lt (p3 * (r2).toInt64) fun x3 =>
    bd1 (fX1_isProduct N σ p1) fun r4 =>
    if (r4 = 0) then (
      some x3
    ) else (
      some (-x3)
    )
  )
abbrev rmX1_share : Room := { frames := 1, cells := 0, slots := 0, locals := 22 }
abbrev wsX1_share : List Cond := .code yX1_share cX1_share 7 (some .long) :: kws
theorem kcX1_share {R : Room} {s : State} {args : Array Value} {own : String} {index : Nat} (htk : ∀ w ∈ kws, w.before args s = true) (hl : (Cond.methodLink own index yX1_share).before args s = true) (hR : rmX1_share.frames + 1 ≤ R.frames ∧ 8 + (7 + 11) + rmX1_share.locals ≤ R.locals) : CallW R s args own RX1 index yX1_share cX1_share 7 (some .long) wsX1_share rmX1_share 0 0 3 :=
  ⟨callB_of 3 htk (k_good kc_369) rfl rfl rfl (kw_55 htk) hl (by decide +kernel) hR, (kw_367 htk), (kw_368 htk)⟩
set_option maxRecDepth 100000 in
set_option maxHeartbeats 4000000 in
theorem mX1_share (l : Launch) (D : va_G) (cs : Nat → ClassId) (ad : Nat → Nat) (N : Nat) (σ : vS) (p1 : Int32) (p2 : Int32) (p3 : Int64) (r : Int64) (hf : fX1_share N σ p1 p2 p3 = some r) : k_MP l yX1_share wsX1_share rmX1_share D (tK cs) (wK cs ad) [.ref (ad 5), .int p1, .int p2, .long p3] σ (.long r) := by
  refine k_ofP (cc := cX1_share) (maxL := 7) (ret := (some .long)) (by decide) rfl (Nat.le_of_ble_eq_true rfl) ?_
  intro p e s m args below meth c ls hcf hr hlk hK hZ hl hw
  generalize hQ0 : MQ below _ args s 0 0 _ = Q0
  obtain ⟨T0, hE0⟩ : ∃ T, T = fX1_share N σ p1 p2 p3 := ⟨_, rfl⟩
  have hR := hE0.trans hf
  have hN0 : T0 ≠ none := by rw [hR]; exact fun h => nomatch h
  have hx := hcf.1
  have hb := hcf.2.1
  have htk := hcf.2.2.2.2
  have hown := hcf.2.2.2.1
  unfold fX1_share at hE0
  replace hl : lv_has ls 7 [(0, .ref (ad 5)), (1, .int p1), (2, .int p2), (3, .long p3)] := hl
  refine lv_aload_n hx hb dX1_share_0 rfl (lv_at hl 0 rfl) ?_
  refine lv_iload_n hx hb dX1_share_1 rfl (lv_at hl 1 rfl) ?_
  obtain ⟨r1, k1, hE0⟩ := bd1_e hE0 hN0
  refine k_callP (va_runV (As := [.int p1]) (rest := []) hcf (mX1_containsFormula l D cs ad N σ p1 r1 k1) (kcX1_containsFormula htk (kw_370 htk) ⟨Nat.le_of_ble_eq_true rfl, Nat.le_of_ble_eq_true rfl⟩) ⟨k_blind, va_recv (ci := 1) (q0 := 5) hK hw.1 rfl rfl, k_pre hK hZ hw⟩ rfl rfl hl.1 rfl (lv_room (Nat.le_of_ble_eq_true rfl)) dX1_share_2 ⟨Nat.zero_le _, Nat.zero_le _⟩) ?_
  refine lv_if_ne (tgt := 10) hx hb dX1_share_5 (by decide) (fun c6 => ?_) (fun c6 => ?_)
  · have hE0 := ite_f hE0 c6
    refine lv_lload_n hx hb dX1_share_10 rfl (lv_at hl 3 rfl) ?_
    refine lv_aload_n hx hb dX1_share_11 rfl (lv_at hl 0 rfl) ?_
    refine lv_iload_n hx hb dX1_share_12 rfl (lv_at hl 1 rfl) ?_
    refine lv_iload_n hx hb dX1_share_13 rfl (lv_at hl 2 rfl) ?_
    obtain ⟨r2, k2, hE0⟩ := bd1_e hE0 hN0
    refine k_callP (va_runV (As := [.int p1, .int p2]) (rest := [.long p3]) hcf (mX1_amount l D cs ad N σ p1 p2 r2 k2) (kcX1_amount htk (kw_374 htk) ⟨Nat.le_of_ble_eq_true rfl, Nat.le_of_ble_eq_true rfl⟩) ⟨k_blind, va_recv (ci := 1) (q0 := 5) hK hw.1 rfl rfl, k_pre hK hZ hw⟩ rfl rfl hl.1 rfl (lv_room (Nat.le_of_ble_eq_true rfl)) dX1_share_14 ⟨Nat.zero_le _, Nat.zero_le _⟩) ?_
    refine lv_i2l hx hb dX1_share_17 rfl ?_
    refine lv_lmul hx hb dX1_share_18 ?_
    refine lv_topl (fun x3 e_x3 => ?_)
    have hE0 := k_lts hE0 e_x3
    refine lv_lstore hx hb dX1_share_19 hl (Nat.le_of_ble_eq_true rfl) rfl (fun ls (hl : lv_has ls 7 [(5, .long x3), (0, .ref (ad 5)), (1, .int p1), (2, .int p2), (3, .long p3)]) => ?_)
    refine lv_aload_n hx hb dX1_share_21 rfl (lv_at hl 1 rfl) ?_
    refine lv_iload_n hx hb dX1_share_22 rfl (lv_at hl 2 rfl) ?_
    obtain ⟨r4, k4, hE0⟩ := bd1_e hE0 hN0
    refine k_callP (va_runV (As := [.int p1]) (rest := []) hcf (mX1_isProduct l D cs ad N σ p1 r4 k4) (kcX1_isProduct htk (kw_378 htk) ⟨Nat.le_of_ble_eq_true rfl, Nat.le_of_ble_eq_true rfl⟩) ⟨k_blind, va_recv (ci := 1) (q0 := 5) hK hw.1 rfl rfl, k_pre hK hZ hw⟩ rfl rfl hl.1 rfl (lv_room (Nat.le_of_ble_eq_true rfl)) dX1_share_23 ⟨Nat.zero_le _, Nat.zero_le _⟩) ?_
    refine lv_if_eq (tgt := 35) hx hb dX1_share_26 (by decide) (fun c5 => ?_) (fun c5 => ?_)
    · have hE0 := ite_t hE0 c5
      refine lv_lload hx hb dX1_share_35 (lv_at hl 0 rfl) ?_
      exact kretP_l hcf hr hlk hK hw (rt1 hR hE0) hQ0 dX1_share_37
    · have hE0 := ite_f hE0 c5
      refine lv_lload hx hb dX1_share_29 (lv_at hl 0 rfl) ?_
      refine lv_lneg hx hb dX1_share_31 ?_
      refine lv_goto (tgt := 37) hx hb dX1_share_32 (by decide) ?_
      exact kretP_l hcf hr hlk hK hw (rt1 hR hE0) hQ0 dX1_share_37
  · have hE0 := ite_t hE0 c6
    refine lv_lconst (v := 0) hx hb dX1_share_8 rfl ?_
    exact kretP_l hcf hr hlk hK hw (rt1 hR hE0) hQ0 dX1_share_9
