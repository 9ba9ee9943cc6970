def jX0_takeRows_63 (N : Nat) (σj63 : vS) : Option (vS) :=
  some σj63
def jX0_takeRows_57_18 (N : Nat) (σj57 : vS) (v2j57 : Int32) : Option ((Int32 × vS) ⊕ (vS)) :=
  k_lt (v2j57 + (1 : Int32)) fun x2 =>
  some (.inl (x2, σj57))
def bX0_takeRows_28 (N : Nat) (v2h18 : Int32) (v3h28 : Int32) (σh28 : vS) : Option ((Int32 × vS) ⊕ (vS)) :=
  if ((σh28.1 14) ≤ v3h28) then (
    some (.inr σh28)
  ) else (
    if (v2h18 < 0 ∨ 5 ≤ (v2h18).toNatClampNeg) then none else
    bd1 (fX1_share N σh28 v3h28 v2h18 (1 : Int64)) fun r4 =>
    if (v3h28 < 0 ∨ 6 ≤ (v3h28).toNatClampNeg) then none else
    k_lt (v3h28 + (1 : Int32)) fun x6 =>
    some (.inl (x6, (p_b σh28 (11 + (v2h18).toNatClampNeg) ((v3h28).toNatClampNeg) r4)))
  )
def bX0_takeRows_18 (N : Nat) (v2h18 : Int32) (σh18 : vS) : Option ((Int32 × vS) ⊕ (vS)) :=
  if ((σh18.1 13) ≤ v2h18) then (
    some (.inr σh18)
  ) else (
    bd1 (k_itr (fun zz => bX0_takeRows_28 N v2h18 zz.1 zz.2) N ((0 : Int32), σh18)) fun q => jX0_takeRows_57_18 N q v2h18
  )
def fX0_takeRows (N : Nat) (σ : vS) : Option (vS) :=
  bd1 (fX1_kindCount N σ) fun r1 =>
  bd1 (k_itr (fun zz => bX0_takeRows_18 N zz.1 zz.2) N ((0 : Int32), (p_i (p_i σ 13 r1) 14 (σ.1 2)))) fun q => jX0_takeRows_63 N q
abbrev rmX0_takeRows : Room := { frames := 2, cells := 0, slots := 0, locals := 48 }
abbrev wsX0_takeRows : List Cond := .code yX0_takeRows cX0_takeRows 4 none :: kws
theorem kcX0_takeRows {R : Room} {s : State} {args : Array Value} {own : String} {index : Nat} (htk : ∀ w ∈ kws, w.before args s = true) (hl : (Cond.methodLink own index yX0_takeRows).before args s = true) (hR : rmX0_takeRows.frames + 1 ≤ R.frames ∧ 8 + (4 + 11) + rmX0_takeRows.locals ≤ R.locals) : CallW R s args own RX0 index yX0_takeRows cX0_takeRows 4 none wsX0_takeRows rmX0_takeRows 0 0 1 :=
  ⟨callB_of 1 htk (k_good kc_364) rfl rfl rfl (kw_56 htk) hl (by decide +kernel) hR, (kw_363 htk), (kw_13 htk)⟩
set_option maxRecDepth 100000 in
set_option maxHeartbeats 4000000 in
theorem mX0_takeRows (l : Launch) (D : va_G) (cs : Nat → ClassId) (ad : Nat → Nat) (N : Nat) (σ : vS) (σ' : vS) (hf : fX0_takeRows N σ = some σ') : k_Met l yX0_takeRows wsX0_takeRows rmX0_takeRows D (tK cs) (wK cs ad) (k_A 41 ad) [.ref (ad 2), .ref (ad 5)] σ none σ' := by
  refine k_of (cc := cX0_takeRows) (maxL := 4) (ret := none) (by decide) rfl (Nat.le_of_ble_eq_true rfl) ?_
  intro p e s m args below meth c ls H locs hcf hr hlk hK hZ hl hw
  generalize hQ0 : MQ below _ args s 0 0 _ = Q0
  obtain ⟨T0, hE0⟩ : ∃ T, T = fX0_takeRows N σ := ⟨_, rfl⟩
  have hR := hE0.trans hf
  have hN0 : T0 ≠ none := by rw [hR]; exact fun h => nomatch h
  have hx := hcf.1
  have hb := hcf.2.1
  have htk := hcf.2.2.2.2
  have hown := hcf.2.2.2.1
  unfold fX0_takeRows at hE0
  replace hl : lv_has ls 4 [(0, .ref (ad 2)), (1, .ref (ad 5))] := hl
  have J63 : ∀ (σj63 : vS) (H : Heap) (locs : List Loc) (ls : Array Slot), lv_has ls 4 [] → k_H D (wK cs ad) (k_A 41 ad) σj63 s.heap H locs → T0 = jX0_takeRows_63 N σj63 → W p l e rmX0_takeRows s m args below meth c H locs 0 0 Q0 (F0 m 63 ls []) := by
    intro σj63 H locs ls hl hw hE0
    unfold jX0_takeRows_63 at hE0
    exact kret_v hcf hr hlk hK hw (rt1 hR hE0) hQ0 dX0_takeRows_63
  refine lv_aload_n hx hb dX0_takeRows_0 rfl (lv_at hl 0 rfl) ?_
  refine lv_aload_n hx hb dX0_takeRows_1 rfl (lv_at hl 1 rfl) ?_
  obtain ⟨r1, k1, hE0⟩ := bd1_e hE0 hN0
  refine k_callP (va_runV (As := []) (rest := [.ref (ad 2)]) hcf (mX1_kindCount l D cs ad N σ r1 k1) (kcX1_kindCount htk (kw_365 htk) ⟨Nat.le_of_ble_eq_true rfl, Nat.le_of_ble_eq_true rfl⟩) ⟨k_blind, va_recv (ci := 1) (q0 := 5) hK hw.1 rfl rfl, k_pre hK hZ hw⟩ rfl rfl hl.1 rfl (lv_room (Nat.le_of_ble_eq_true rfl)) dX0_takeRows_2 ⟨Nat.zero_le _, Nat.zero_le _⟩) ?_
  refine kp_X0_height hcf hK (kw_201 htk) dX0_takeRows_5 hw (fun H locs hw => ?_)
  refine lv_aload_n hx hb dX0_takeRows_8 rfl (lv_at hl 0 rfl) ?_
  refine lv_aload_n hx hb dX0_takeRows_9 rfl (lv_at hl 1 rfl) ?_
  refine kg_X1_formulaCount hcf hK (kw_121 htk) (x := (σ.1 2)) dX0_takeRows_10 hw rfl ?_
  refine kp_X0_width hcf hK (kw_202 htk) dX0_takeRows_13 hw (fun H locs hw => ?_)
  refine lv_iconst (v := 0) hx hb dX0_takeRows_16 rfl ?_
  refine lv_istore_n hx hb dX0_takeRows_17 rfl hl (Nat.le_of_ble_eq_true rfl) rfl (fun ls (hl : lv_has ls 4 [(2, .int (0 : Int32)), (0, .ref (ad 2)), (1, .ref (ad 5))]) => ?_)
  obtain ⟨q, hq, hE0⟩ := bd1_e hE0 hN0
  refine k_ind (P := fun zz => ∀ (H : Heap) (locs : List Loc) (ls : Array Slot), lv_has ls 4 [(0, .ref (ad 2)), (1, .ref (ad 5)), (2, .int zz.1)] → k_H D (wK cs ad) (k_A 41 ad) zz.2 s.heap H locs → W p l e rmX0_takeRows s m args below meth c H locs 0 0 Q0 (F0 m 18 ls [])) ?_ N _ hq H locs ls (lv_sub hl [1, 2, 0] rfl) hw
  intro sX T1 hE1 hN1 hC1 hX1
  obtain ⟨v2h18, σh18⟩ := sX
  replace hE1 : T1 = bX0_takeRows_18 N v2h18 σh18 := hE1
  unfold bX0_takeRows_18 at hE1
  have J57_18 : ∀ (v2j57 : Int32) (σj57 : vS) (H : Heap) (locs : List Loc) (ls : Array Slot), lv_has ls 4 [(0, .ref (ad 2)), (1, .ref (ad 5)), (2, .int v2j57)] → k_H D (wK cs ad) (k_A 41 ad) σj57 s.heap H locs → T1 = jX0_takeRows_57_18 N σj57 v2j57 → W p l e rmX0_takeRows s m args below meth c H locs 0 0 Q0 (F0 m 57 ls []) := by
    intro v2j57 σj57 H locs ls hl hw hE1
    unfold jX0_takeRows_57_18 at hE1
    obtain ⟨x2, e_x2, hE1⟩ := k_lte hE1
    refine lv_iinc (k := 2) (v := x2) hx hb dX0_takeRows_57 hl rfl (Eq.symm e_x2) (Nat.le_of_ble_eq_true rfl) rfl (fun ls (hl : lv_has ls 4 [(2, .int x2), (0, .ref (ad 2)), (1, .ref (ad 5))]) => ?_)
    refine lv_goto (tgt := 18) hx hb dX0_takeRows_60 (by decide) ?_
    exact hC1 _ hE1 H locs ls (lv_sub hl [1, 2, 0] rfl) hw
  intro H locs ls hl hw
  replace hl : lv_has ls 4 [(0, .ref (ad 2)), (1, .ref (ad 5)), (2, .int v2h18)] := hl
  replace hw : k_H D (wK cs ad) (k_A 41 ad) σh18 s.heap H locs := hw
  refine lv_iload_n hx hb dX0_takeRows_18 rfl (lv_at hl 2 rfl) ?_
  refine lv_aload_n hx hb dX0_takeRows_19 rfl (lv_at hl 0 rfl) ?_
  refine kg_X0_height hcf hK (kw_201 htk) (x := (σh18.1 13)) dX0_takeRows_20 hw rfl ?_
  refine lv_icmp_ge (tgt := 63) hx hb dX0_takeRows_23 (by decide) (fun c8 => ?_) (fun c8 => ?_)
  · have hE1 := ite_t hE1 c8
    have hq := hX1 _ hE1
    subst hq
    exact J63 σh18 H locs ls (lv_sub hl [] rfl) hw hE0
  · have hE1 := ite_f hE1 c8
    refine lv_iconst (v := 0) hx hb dX0_takeRows_26 rfl ?_
    refine lv_istore_n hx hb dX0_takeRows_27 rfl hl (Nat.le_of_ble_eq_true rfl) rfl (fun ls (hl : lv_has ls 4 [(3, .int (0 : Int32)), (0, .ref (ad 2)), (1, .ref (ad 5)), (2, .int v2h18)]) => ?_)
    obtain ⟨q, hq, hE1⟩ := bd1_e hE1 hN1
    refine k_ind (P := fun zz => ∀ (H : Heap) (locs : List Loc) (ls : Array Slot), lv_has ls 4 [(0, .ref (ad 2)), (1, .ref (ad 5)), (2, .int v2h18), (3, .int zz.1)] → k_H D (wK cs ad) (k_A 41 ad) zz.2 s.heap H locs → W p l e rmX0_takeRows s m args below meth c H locs 0 0 Q0 (F0 m 28 ls [])) ?_ N _ hq H locs ls (lv_sub hl [1, 2, 3, 0] rfl) hw
    intro sX T2 hE2 hN2 hC2 hX2
    obtain ⟨v3h28, σh28⟩ := sX
    replace hE2 : T2 = bX0_takeRows_28 N v2h18 v3h28 σh28 := hE2
    unfold bX0_takeRows_28 at hE2
    intro H locs ls hl hw
    replace hl : lv_has ls 4 [(0, .ref (ad 2)), (1, .ref (ad 5)), (2, .int v2h18), (3, .int v3h28)] := hl
    replace hw : k_H D (wK cs ad) (k_A 41 ad) σh28 s.heap H locs := hw
    refine lv_iload_n hx hb dX0_takeRows_28 rfl (lv_at hl 3 rfl) ?_
    refine lv_aload_n hx hb dX0_takeRows_29 rfl (lv_at hl 0 rfl) ?_
    refine kg_X0_width hcf hK (kw_202 htk) (x := (σh28.1 14)) dX0_takeRows_30 hw rfl ?_
    refine lv_icmp_ge (tgt := 57) hx hb dX0_takeRows_33 (by decide) (fun c7 => ?_) (fun c7 => ?_)
    · have hE2 := ite_t hE2 c7
      have hq := hX2 _ hE2
      subst hq
      exact J57_18 v2h18 σh28 H locs ls (lv_sub hl [0, 1, 2] rfl) hw hE1
    · have hE2 := ite_f hE2 c7
      refine lv_aload_n hx hb dX0_takeRows_36 rfl (lv_at hl 0 rfl) ?_
      refine kg_X0_rows hcf hK (kw_198 htk) dX0_takeRows_37 hw ?_
      refine lv_iload_n hx hb dX0_takeRows_40 rfl (lv_at hl 2 rfl) ?_
      obtain ⟨g3, hE2⟩ := gd_e hE2 hN2
      refine kaald_rows hcf hK dX0_takeRows_41 rfl g3 hw ?_
      refine lv_iload_n hx hb dX0_takeRows_42 rfl (lv_at hl 3 rfl) ?_
      refine lv_aload_n hx hb dX0_takeRows_43 rfl (lv_at hl 1 rfl) ?_
      refine lv_iload_n hx hb dX0_takeRows_44 rfl (lv_at hl 3 rfl) ?_
      refine lv_iload_n hx hb dX0_takeRows_45 rfl (lv_at hl 2 rfl) ?_
      refine lv_lconst (v := 1) hx hb dX0_takeRows_46 rfl ?_
      obtain ⟨r4, k4, hE2⟩ := bd1_e hE2 hN2
      refine k_callP (va_runV (As := [.int v3h28, .int v2h18, .long (1 : Int64)]) (rest := [.int v3h28, .ref (ad (25 + (11 + (v2h18).toNatClampNeg)))]) hcf (mX1_share l D cs ad N σh28 v3h28 v2h18 (1 : Int64) r4 k4) (kcX1_share htk (kw_366 htk) ⟨Nat.le_of_ble_eq_true rfl, Nat.le_of_ble_eq_true rfl⟩) ⟨k_blind, va_recv (ci := 1) (q0 := 5) hK hw.1 rfl rfl, k_pre hK hZ hw⟩ rfl rfl hl.1 rfl (lv_room (Nat.le_of_ble_eq_true rfl)) dX0_takeRows_47 ⟨Nat.zero_le _, Nat.zero_le _⟩) ?_
      obtain ⟨g5, hE2⟩ := gd_e hE2 hN2
      refine kast_rows hcf hK dX0_takeRows_50 g3 g5 hw (fun H locs hw => ?_)
      obtain ⟨x6, e_x6, hE2⟩ := k_lte hE2
      refine lv_iinc (k := 3) (v := x6) hx hb dX0_takeRows_51 hl rfl (Eq.symm e_x6) (Nat.le_of_ble_eq_true rfl) rfl (fun ls (hl : lv_has ls 4 [(3, .int x6), (0, .ref (ad 2)), (1, .ref (ad 5)), (2, .int v2h18)]) => ?_)
      refine lv_goto (tgt := 28) hx hb dX0_takeRows_54 (by decide) ?_
      exact hC2 _ hE2 H locs ls (lv_sub hl [1, 2, 3, 0] rfl) hw
def jX0_pivotRow_34 (N : Nat) (σ : vS) : Option (Int32) :=
  some (-1 : Int32)
def bX0_pivotRow_5 (N : Nat) (σ : vS) (p1 : Int32) (v2h5 : Int32) : Option ((Int32) ⊕ ((Unit) ⊕ (Int32))) :=
  if ((σ.1 13) ≤ v2h5) then (
    some (.inr (.inl ()))
  ) else (
    if (v2h5 < 0 ∨ 5 ≤ (v2h5).toNatClampNeg) then none else
    if (p1 < 0 ∨ 6 ≤ (p1).toNatClampNeg) then none else
    if ((lg_cmp (σ.2.2.2 (11 + (v2h5).toNatClampNeg) ((p1).toNatClampNeg)) (0 : Int64)) = 0) then (
      k_lt (v2h5 + (1 : Int32)) fun x4 =>
      some (.inl x4)
    ) else (
      some (.inr (.inr v2h5))
    )
  )
def fX0_pivotRow (N : Nat) (σ : vS) (p1 : Int32) : Option (Int32) :=
  k_lt (σ.1 12) fun x1 =>
  bds (k_itr (fun zz => bX0_pivotRow_5 N σ p1 zz) N x1) fun _ => jX0_pivotRow_34 N σ
abbrev rmX0_pivotRow : Room := { frames := 0, cells := 0, slots := 0, locals := 0 }
abbrev wsX0_pivotRow : List Cond := .code yX0_pivotRow cX0_pivotRow 3 (some .int) :: kws
theorem kcX0_pivotRow {R : Room} {s : State} {args : Array Value} {own : String} {index : Nat} (htk : ∀ w ∈ kws, w.before args s = true) (hl : (Cond.methodLink own index yX0_pivotRow).before args s = true) (hR : rmX0_pivotRow.frames + 1 ≤ R.frames ∧ 8 + (3 + 11) + rmX0_pivotRow.locals ≤ R.locals) : CallW R s args own RX0 index yX0_pivotRow cX0_pivotRow 3 (some .int) wsX0_pivotRow rmX0_pivotRow 0 0 1 :=
  ⟨callB_of 1 htk (k_good kc_389) rfl rfl rfl (kw_56 htk) hl (by decide +kernel) hR, (kw_388 htk), (kw_15 htk)⟩
set_option maxRecDepth 100000 in
set_option maxHeartbeats 4000000 in
theorem mX0_pivotRow (l : Launch) (D : va_G) (cs : Nat → ClassId) (ad : Nat → Nat) (N : Nat) (σ : vS) (p1 : Int32) (r : Int32) (hf : fX0_pivotRow N σ p1 = some r) : k_MP l yX0_pivotRow wsX0_pivotRow rmX0_pivotRow D (tK cs) (wK cs ad) [.ref (ad 2), .int p1] σ (.int r) := by
  refine k_ofP (cc := cX0_pivotRow) (maxL := 3) (ret := (some .int)) (by decide) rfl (Nat.le_of_ble_eq_true rfl) ?_
  intro p e s m args below meth c ls hcf hr hlk hK hZ hl hw
  generalize hQ0 : MQ below _ args s 0 0 _ = Q0
  obtain ⟨T0, hE0⟩ : ∃ T, T = fX0_pivotRow N σ p1 := ⟨_, rfl⟩
  have hR := hE0.trans hf
  have hN0 : T0 ≠ none := by rw [hR]; exact fun h => nomatch h
  have hx := hcf.1
  have hb := hcf.2.1
  have htk := hcf.2.2.2.2
  have hown := hcf.2.2.2.1
  unfold fX0_pivotRow at hE0
  replace hl : lv_has ls 3 [(0, .ref (ad 2)), (1, .int p1)] := hl
  have J34 : ∀ (ls : Array Slot), lv_has ls 3 [] → T0 = jX0_pivotRow_34 N σ → W p l e rmX0_pivotRow s m args below meth c s.heap [] 0 0 Q0 (F0 m 34 ls []) := by
    intro ls hl hE0
    unfold jX0_pivotRow_34 at hE0
    refine lv_iconst (v := -1) hx hb dX0_pivotRow_34 rfl ?_
    exact kretP_i hcf hr hlk hK hw (rt1 hR hE0) hQ0 dX0_pivotRow_35
  refine lv_aload_n hx hb dX0_pivotRow_0 rfl (lv_at hl 0 rfl) ?_
  refine kg_X0_rank hcf hK (kw_200 htk) (x := (σ.1 12)) dX0_pivotRow_1 hw rfl ?_
  refine lv_topi (fun x1 e_x1 => ?_)
  have hE0 := k_lts hE0 e_x1
  refine lv_istore_n hx hb dX0_pivotRow_4 rfl hl (Nat.le_of_ble_eq_true rfl) rfl (fun ls (hl : lv_has ls 3 [(2, .int x1), (0, .ref (ad 2)), (1, .int p1)]) => ?_)
  obtain ⟨q, hq, hE0, hT0⟩ := bds_e hE0 hN0
  refine k_ind (P := fun zz => ∀ (ls : Array Slot), lv_has ls 3 [(0, .ref (ad 2)), (1, .int p1), (2, .int zz)] → W p l e rmX0_pivotRow s m args below meth c s.heap [] 0 0 Q0 (F0 m 5 ls [])) ?_ N _ hq ls (lv_sub hl [1, 2, 0] rfl)
  intro sX T1 hE1 hN1 hC1 hX1
  obtain ⟨v2h5, hsg⟩ : ∃ z, z = sX := ⟨_, rfl⟩
  subst hsg
  replace hE1 : T1 = bX0_pivotRow_5 N σ p1 v2h5 := hE1
  unfold bX0_pivotRow_5 at hE1
  intro ls hl
  replace hl : lv_has ls 3 [(0, .ref (ad 2)), (1, .int p1), (2, .int v2h5)] := hl
  refine lv_iload_n hx hb dX0_pivotRow_5 rfl (lv_at hl 2 rfl) ?_
  refine lv_aload_n hx hb dX0_pivotRow_6 rfl (lv_at hl 0 rfl) ?_
  refine kg_X0_height hcf hK (kw_201 htk) (x := (σ.1 13)) dX0_pivotRow_7 hw rfl ?_
  refine lv_icmp_ge (tgt := 34) hx hb dX0_pivotRow_10 (by decide) (fun c6 => ?_) (fun c6 => ?_)
  · have hE1 := ite_t hE1 c6
    have hq := hX1 _ hE1
    subst hq
    exact J34 ls (lv_sub hl [] rfl) (hE0 _ rfl)
  · have hE1 := ite_f hE1 c6
    refine lv_aload_n hx hb dX0_pivotRow_13 rfl (lv_at hl 0 rfl) ?_
    refine kg_X0_rows hcf hK (kw_198 htk) dX0_pivotRow_14 hw ?_
    refine lv_iload_n hx hb dX0_pivotRow_17 rfl (lv_at hl 2 rfl) ?_
    obtain ⟨g2, hE1⟩ := gd_e hE1 hN1
    refine kaald_rows hcf hK dX0_pivotRow_18 rfl g2 hw ?_
    refine lv_iload_n hx hb dX0_pivotRow_19 rfl (lv_at hl 1 rfl) ?_
    obtain ⟨g3, hE1⟩ := gd_e hE1 hN1
    refine kald_rows hcf hK (x := (σ.2.2.2 (11 + (v2h5).toNatClampNeg) ((p1).toNatClampNeg))) dX0_pivotRow_20 g2 g3 hw rfl ?_
    refine lv_lconst (v := 0) hx hb dX0_pivotRow_21 rfl ?_
    refine W.lcmp hx hb dX0_pivotRow_22 ?_
    refine lv_if_eq (tgt := 28) hx hb dX0_pivotRow_23 (by decide) (fun c5 => ?_) (fun c5 => ?_)
    · have hE1 := ite_t hE1 c5
      obtain ⟨x4, e_x4, hE1⟩ := k_lte hE1
      refine lv_iinc (k := 2) (v := x4) hx hb dX0_pivotRow_28 hl rfl (Eq.symm e_x4) (Nat.le_of_ble_eq_true rfl) rfl (fun ls (hl : lv_has ls 3 [(2, .int x4), (0, .ref (ad 2)), (1, .int p1)]) => ?_)
      refine lv_goto (tgt := 5) hx hb dX0_pivotRow_31 (by decide) ?_
      exact hC1 _ hE1 ls (lv_sub hl [1, 2, 0] rfl)
    · have hE1 := ite_f hE1 c5
      refine lv_iload_n hx hb dX0_pivotRow_26 rfl (lv_at hl 2 rfl) ?_
      have hq := hX1 _ hE1
      subst hq
      exact kretP_i hcf hr hlk hK hw (rt1 hR (hT0 _ rfl)) hQ0 dX0_pivotRow_27
def jX0_swapRows_52 (N : Nat) (σj52 : vS) : Option (vS) :=
  some σj52
def bX0_swapRows_2 (N : Nat) (p1 : Int32) (p2 : Int32) (v3h2 : Int32) (σh2 : vS) : Option ((Int32 × vS) ⊕ (vS)) :=
  if ((σh2.1 14) ≤ v3h2) then (
    some (.inr σh2)
  ) else (
    if (p1 < 0 ∨ 5 ≤ (p1).toNatClampNeg) then none else
    if (v3h2 < 0 ∨ 6 ≤ (v3h2).toNatClampNeg) then none else
    k_lt (σh2.2.2.2 (11 + (p1).toNatClampNeg) ((v3h2).toNatClampNeg)) fun x3 =>
    if (p1 < 0 ∨ 5 ≤ (p1).toNatClampNeg) then none else
    if (p2 < 0 ∨ 5 ≤ (p2).toNatClampNeg) then none else
    if (v3h2 < 0 ∨ 6 ≤ (v3h2).toNatClampNeg) then none else
    if (v3h2 < 0 ∨ 6 ≤ (v3h2).toNatClampNeg) then none else
    if (p2 < 0 ∨ 5 ≤ (p2).toNatClampNeg) then none else
    if (v3h2 < 0 ∨ 6 ≤ (v3h2).toNatClampNeg) then none else
    k_lt (v3h2 + (1 : Int32)) fun x10 =>
    some (.inl (x10, (p_b (p_b σh2 (11 + (p1).toNatClampNeg) ((v3h2).toNatClampNeg) (σh2.2.2.2 (11 + (p2).toNatClampNeg) ((v3h2).toNatClampNeg))) (11 + (p2).toNatClampNeg) ((v3h2).toNatClampNeg) x3)))
  )
def fX0_swapRows (N : Nat) (σ : vS) (p1 : Int32) (p2 : Int32) : Option (vS) :=
  bd1 (k_itr (fun zz => bX0_swapRows_2 N p1 p2 zz.1 zz.2) N ((0 : Int32), σ)) fun q => jX0_swapRows_52 N q
abbrev rmX0_swapRows : Room := { frames := 0, cells := 0, slots := 0, locals := 0 }
abbrev wsX0_swapRows : List Cond := .code yX0_swapRows cX0_swapRows 6 none :: kws
theorem kcX0_swapRows {R : Room} {s : State} {args : Array Value} {own : String} {index : Nat} (htk : ∀ w ∈ kws, w.before args s = true) (hl : (Cond.methodLink own index yX0_swapRows).before args s = true) (hR : rmX0_swapRows.frames + 1 ≤ R.frames ∧ 8 + (6 + 11) + rmX0_swapRows.locals ≤ R.locals) : CallW R s args own RX0 index yX0_swapRows cX0_swapRows 6 none wsX0_swapRows rmX0_swapRows 0 0 2 :=
  ⟨callB_of 2 htk (k_good kc_393) rfl rfl rfl (kw_56 htk) hl (by decide +kernel) hR, (kw_392 htk), (kw_16 htk)⟩
set_option maxRecDepth 100000 in
set_option maxHeartbeats 4000000 in
theorem mX0_swapRows (l : Launch) (D : va_G) (cs : Nat → ClassId) (ad : Nat → Nat) (N : Nat) (σ : vS) (p1 : Int32) (p2 : Int32) (σ' : vS) (hf : fX0_swapRows N σ p1 p2 = some σ') : k_Met l yX0_swapRows wsX0_swapRows rmX0_swapRows D (tK cs) (wK cs ad) (k_A 41 ad) [.ref (ad 2), .int p1, .int p2] σ none σ' := by
  refine k_of (cc := cX0_swapRows) (maxL := 6) (ret := none) (by decide) rfl (Nat.le_of_ble_eq_true rfl) ?_
  intro p e s m args below meth c ls H locs hcf hr hlk hK hZ hl hw
  generalize hQ0 : MQ below _ args s 0 0 _ = Q0
  obtain ⟨T0, hE0⟩ : ∃ T, T = fX0_swapRows N σ p1 p2 := ⟨_, rfl⟩
  have hR := hE0.trans hf
  have hN0 : T0 ≠ none := by rw [hR]; exact fun h => nomatch h
  have hx := hcf.1
  have hb := hcf.2.1
  have htk := hcf.2.2.2.2
  have hown := hcf.2.2.2.1
  unfold fX0_swapRows at hE0
  replace hl : lv_has ls 6 [(0, .ref (ad 2)), (1, .int p1), (2, .int p2)] := hl
  have J52 : ∀ (σj52 : vS) (H : Heap) (locs : List Loc) (ls : Array Slot), lv_has ls 6 [] → k_H D (wK cs ad) (k_A 41 ad) σj52 s.heap H locs → T0 = jX0_swapRows_52 N σj52 → W p l e rmX0_swapRows s m args below meth c H locs 0 0 Q0 (F0 m 52 ls []) := by
    intro σj52 H locs ls hl hw hE0
    unfold jX0_swapRows_52 at hE0
    exact kret_v hcf hr hlk hK hw (rt1 hR hE0) hQ0 dX0_swapRows_52
  refine lv_iconst (v := 0) hx hb dX0_swapRows_0 rfl ?_
  refine lv_istore_n hx hb dX0_swapRows_1 rfl hl (Nat.le_of_ble_eq_true rfl) rfl (fun ls (hl : lv_has ls 6 [(3, .int (0 : Int32)), (0, .ref (ad 2)), (1, .int p1), (2, .int p2)]) => ?_)
  obtain ⟨q, hq, hE0⟩ := bd1_e hE0 hN0
  refine k_ind (P := fun zz => ∀ (H : Heap) (locs : List Loc) (ls : Array Slot), lv_has ls 6 [(0, .ref (ad 2)), (1, .int p1), (2, .int p2), (3, .int zz.1)] → k_H D (wK cs ad) (k_A 41 ad) zz.2 s.heap H locs → W p l e rmX0_swapRows s m args below meth c H locs 0 0 Q0 (F0 m 2 ls [])) ?_ N _ hq H locs ls (lv_sub hl [1, 2, 3, 0] rfl) hw
  intro sX T1 hE1 hN1 hC1 hX1
  obtain ⟨v3h2, σh2⟩ := sX
  replace hE1 : T1 = bX0_swapRows_2 N p1 p2 v3h2 σh2 := hE1
  unfold bX0_swapRows_2 at hE1
  intro H locs ls hl hw
  replace hl : lv_has ls 6 [(0, .ref (ad 2)), (1, .int p1), (2, .int p2), (3, .int v3h2)] := hl
  replace hw : k_H D (wK cs ad) (k_A 41 ad) σh2 s.heap H locs := hw
  refine lv_iload_n hx hb dX0_swapRows_2 rfl (lv_at hl 3 rfl) ?_
  refine lv_aload_n hx hb dX0_swapRows_3 rfl (lv_at hl 0 rfl) ?_
  refine kg_X0_width hcf hK (kw_202 htk) (x := (σh2.1 14)) dX0_swapRows_4 hw rfl ?_
  refine lv_icmp_ge (tgt := 52) hx hb dX0_swapRows_7 (by decide) (fun c11 => ?_) (fun c11 => ?_)
  · have hE1 := ite_t hE1 c11
    have hq := hX1 _ hE1
    subst hq
    exact J52 σh2 H locs ls (lv_sub hl [] rfl) hw hE0
  · have hE1 := ite_f hE1 c11
    refine lv_aload_n hx hb dX0_swapRows_10 rfl (lv_at hl 0 rfl) ?_
    refine kg_X0_rows hcf hK (kw_198 htk) dX0_swapRows_11 hw ?_
    refine lv_iload_n hx hb dX0_swapRows_14 rfl (lv_at hl 1 rfl) ?_
    obtain ⟨g1, hE1⟩ := gd_e hE1 hN1
    refine kaald_rows hcf hK dX0_swapRows_15 rfl g1 hw ?_
    refine lv_iload_n hx hb dX0_swapRows_16 rfl (lv_at hl 3 rfl) ?_
    obtain ⟨g2, hE1⟩ := gd_e hE1 hN1
    refine kald_rows hcf hK (x := (σh2.2.2.2 (11 + (p1).toNatClampNeg) ((v3h2).toNatClampNeg))) dX0_swapRows_17 g1 g2 hw rfl ?_
    refine lv_topl (fun x3 e_x3 => ?_)
    have hE1 := k_lts hE1 e_x3
    refine lv_lstore hx hb dX0_swapRows_18 hl (Nat.le_of_ble_eq_true rfl) rfl (fun ls (hl : lv_has ls 6 [(4, .long x3), (0, .ref (ad 2)), (1, .int p1), (2, .int p2), (3, .int v3h2)]) => ?_)
    refine lv_aload_n hx hb dX0_swapRows_20 rfl (lv_at hl 1 rfl) ?_
    refine kg_X0_rows hcf hK (kw_198 htk) dX0_swapRows_21 hw ?_
    refine lv_iload_n hx hb dX0_swapRows_24 rfl (lv_at hl 2 rfl) ?_
    obtain ⟨g4, hE1⟩ := gd_e hE1 hN1
    refine kaald_rows hcf hK dX0_swapRows_25 rfl g4 hw ?_
    refine lv_iload_n hx hb dX0_swapRows_26 rfl (lv_at hl 4 rfl) ?_
    refine lv_aload_n hx hb dX0_swapRows_27 rfl (lv_at hl 1 rfl) ?_
    refine kg_X0_rows hcf hK (kw_198 htk) dX0_swapRows_28 hw ?_
    refine lv_iload_n hx hb dX0_swapRows_31 rfl (lv_at hl 3 rfl) ?_
    obtain ⟨g5, hE1⟩ := gd_e hE1 hN1
    refine kaald_rows hcf hK dX0_swapRows_32 rfl g5 hw ?_
    refine lv_iload_n hx hb dX0_swapRows_33 rfl (lv_at hl 4 rfl) ?_
    obtain ⟨g6, hE1⟩ := gd_e hE1 hN1
    refine kald_rows hcf hK (x := (σh2.2.2.2 (11 + (p2).toNatClampNeg) ((v3h2).toNatClampNeg))) dX0_swapRows_34 g5 g6 hw rfl ?_
    obtain ⟨g7, hE1⟩ := gd_e hE1 hN1
    refine kast_rows hcf hK dX0_swapRows_35 g4 g7 hw (fun H locs hw => ?_)
    refine lv_aload_n hx hb dX0_swapRows_36 rfl (lv_at hl 1 rfl) ?_
    refine kg_X0_rows hcf hK (kw_198 htk) dX0_swapRows_37 hw ?_
    refine lv_iload_n hx hb dX0_swapRows_40 rfl (lv_at hl 3 rfl) ?_
    obtain ⟨g8, hE1⟩ := gd_e hE1 hN1
    refine kaald_rows hcf hK dX0_swapRows_41 rfl g8 hw ?_
    refine lv_iload_n hx hb dX0_swapRows_42 rfl (lv_at hl 4 rfl) ?_
    refine lv_lload hx hb dX0_swapRows_43 (lv_at hl 0 rfl) ?_
    obtain ⟨g9, hE1⟩ := gd_e hE1 hN1
    refine kast_rows hcf hK dX0_swapRows_45 g8 g9 hw (fun H locs hw => ?_)
    obtain ⟨x10, e_x10, hE1⟩ := k_lte hE1
    refine lv_iinc (k := 4) (v := x10) hx hb dX0_swapRows_46 hl rfl (Eq.symm e_x10) (Nat.le_of_ble_eq_true rfl) rfl (fun ls (hl : lv_has ls 6 [(3, .int x10), (4, .long x3), (0, .ref (ad 2)), (1, .int p1), (2, .int p2)]) => ?_)
    refine lv_goto (tgt := 2) hx hb dX0_swapRows_49 (by decide) ?_
    exact hC1 _ hE1 H locs ls (lv_sub hl [2, 3, 4, 0] rfl) hw
def fX0_quotient (N : Nat) (σ : vS) (p0 : Int64) (p2 : Int64) : Option (Int64) :=
  if ((lg_cmp p2 (0 : Int64)) = 0) then (
    some (0 : Int64)
  ) else (
    if (p2 = 0) then none else
    some (p0 / p2)
  )
abbrev rmX0_quotient : Room := { frames := 0, cells := 0, slots := 0, locals := 0 }
abbrev wsX0_quotient : List Cond := .code yX0_quotient cX0_quotient 4 (some .long) :: kws
theorem kcX0_quotient {R : Room} {s : State} {args : Array Value} {own : String} {index : Nat} (htk : ∀ w ∈ kws, w.before args s = true) (hl : (Cond.methodLink own index yX0_quotient).before args s = true) (hR : rmX0_quotient.frames + 1 ≤ R.frames ∧ 8 + (4 + 11) + rmX0_quotient.locals ≤ R.locals) : CallB R s args own index yX0_quotient cX0_quotient 4 (some .long) wsX0_quotient rmX0_quotient 0 0 2 ∧ (Cond.static yX0_quotient).before args s = true :=
  ⟨callB_of 2 htk (k_good kc_400) rfl rfl rfl (kw_56 htk) hl (by decide +kernel) hR, (kw_399 htk)⟩
set_option maxRecDepth 100000 in
set_option maxHeartbeats 4000000 in
theorem mX0_quotient (l : Launch) (D : va_G) (cs : Nat → ClassId) (ad : Nat → Nat) (N : Nat) (σ : vS) (p0 : Int64) (p2 : Int64) (r : Int64) (hf : fX0_quotient N σ p0 p2 = some r) : k_MP l yX0_quotient wsX0_quotient rmX0_quotient D (tK cs) (wK cs ad) [.long p0, .long p2] σ (.long r) := by
  refine k_ofP (cc := cX0_quotient) (maxL := 4) (ret := (some .long)) (by decide) rfl (Nat.le_of_ble_eq_true rfl) ?_
  intro p e s m args below meth c ls hcf hr hlk hK hZ hl hw
  generalize hQ0 : MQ below _ args s 0 0 _ = Q0
  obtain ⟨T0, hE0⟩ : ∃ T, T = fX0_quotient N σ p0 p2 := ⟨_, rfl⟩
  have hR := hE0.trans hf
  have hN0 : T0 ≠ none := by rw [hR]; exact fun h => nomatch h
  have hx := hcf.1
  have hb := hcf.2.1
  have htk := hcf.2.2.2.2
  have hown := hcf.2.2.2.1
  unfold fX0_quotient at hE0
  replace hl : lv_has ls 4 [(0, .long p0), (2, .long p2)] := hl
  refine lv_lload_n hx hb dX0_quotient_0 rfl (lv_at hl 1 rfl) ?_
  refine lv_lconst (v := 0) hx hb dX0_quotient_1 rfl ?_
  refine W.lcmp hx hb dX0_quotient_2 ?_
  refine lv_if_ne (tgt := 10) hx hb dX0_quotient_3 (by decide) (fun c2 => ?_) (fun c2 => ?_)
  · have hE0 := ite_f hE0 c2
    refine lv_lload_n hx hb dX0_quotient_10 rfl (lv_at hl 0 rfl) ?_
    refine lv_lload_n hx hb dX0_quotient_11 rfl (lv_at hl 1 rfl) ?_
    obtain ⟨g1, hE0⟩ := gd_e hE0 hN0
    refine lv_ldiv hx hb dX0_quotient_12 g1 ?_
    exact kretP_l hcf hr hlk hK hw (rt1 hR hE0) hQ0 dX0_quotient_13
  · have hE0 := ite_t hE0 c2
    refine lv_lconst (v := 0) hx hb dX0_quotient_6 rfl ?_
    refine lv_goto (tgt := 13) hx hb dX0_quotient_7 (by decide) ?_
    exact kretP_l hcf hr hlk hK hw (rt1 hR hE0) hQ0 dX0_quotient_13
def jX0_clearColumn_121 (N : Nat) (σj121 : vS) : Option (vS) :=
  some σj121
def jX0_clearColumn_115_23 (N : Nat) (σj115 : vS) (p1 : Int32) (x1 : Int64) (v4j115 : Int32) : Option ((Int32 × vS) ⊕ (vS)) :=
  k_lt (v4j115 + (1 : Int32)) fun x7 =>
  some (.inl (x7, σj115))
def bX0_clearColumn_46 (N : Nat) (p1 : Int32) (x1 : Int64) (v4h23 : Int32) (x6 : Int64) (v7h46 : Int32) (σh46 : vS) : Option ((Int32 × vS) ⊕ (vS)) :=
  if ((σh46.1 14) ≤ v7h46) then (
    some (.inr σh46)
  ) else (
    if (v4h23 = (σh46.1 12)) then (
      some (.inr σh46)
    ) else (
      if (v4h23 < 0 ∨ 5 ≤ (v4h23).toNatClampNeg) then none else
      if (v4h23 < 0 ∨ 5 ≤ (v4h23).toNatClampNeg) then none else
      if (v7h46 < 0 ∨ 6 ≤ (v7h46).toNatClampNeg) then none else
      if ((σh46.1 12) < 0 ∨ 5 ≤ ((σh46.1 12)).toNatClampNeg) then none else
      if (v7h46 < 0 ∨ 6 ≤ (v7h46).toNatClampNeg) then none else
      bd1 (fX0_quotient N σh46 (((σh46.2.2.1 0) * (σh46.2.2.2 (11 + (v4h23).toNatClampNeg) ((v7h46).toNatClampNeg))) - (x6 * (σh46.2.2.2 (11 + ((σh46.1 12)).toNatClampNeg) ((v7h46).toNatClampNeg)))) x1) fun r13 =>
      if (v7h46 < 0 ∨ 6 ≤ (v7h46).toNatClampNeg) then none else
      k_lt (v7h46 + (1 : Int32)) fun x15 =>
      some (.inl (x15, (p_b σh46 (11 + (v4h23).toNatClampNeg) ((v7h46).toNatClampNeg) r13)))
    )
  )
def bX0_clearColumn_23 (N : Nat) (p1 : Int32) (x1 : Int64) (v4h23 : Int32) (σh23 : vS) : Option ((Int32 × vS) ⊕ (vS)) :=
  if ((σh23.1 13) ≤ v4h23) then (
    some (.inr σh23)
  ) else (
    if (v4h23 < 0 ∨ 5 ≤ (v4h23).toNatClampNeg) then none else
    if (p1 < 0 ∨ 6 ≤ (p1).toNatClampNeg) then none else
    k_lt (σh23.2.2.2 (11 + (v4h23).toNatClampNeg) ((p1).toNatClampNeg)) fun x6 =>
    bd1 (k_itr (fun zz => bX0_clearColumn_46 N p1 x1 v4h23 x6 zz.1 zz.2) N ((0 : Int32), σh23)) fun q => jX0_clearColumn_115_23 N q p1 x1 v4h23
  )
def fX0_clearColumn (N : Nat) (σ : vS) (p1 : Int32) : Option (vS) :=
  k_lt (σ.2.2.1 0) fun x1 =>
  if ((σ.1 12) < 0 ∨ 5 ≤ ((σ.1 12)).toNatClampNeg) then none else
  if (p1 < 0 ∨ 6 ≤ (p1).toNatClampNeg) then none else
  bd1 (k_itr (fun zz => bX0_clearColumn_23 N p1 x1 zz.1 zz.2) N ((0 : Int32), (p_j σ 0 (σ.2.2.2 (11 + ((σ.1 12)).toNatClampNeg) ((p1).toNatClampNeg))))) fun q => jX0_clearColumn_121 N q
abbrev rmX0_clearColumn : Room := { frames := 1, cells := 0, slots := 0, locals := 23 }
abbrev wsX0_clearColumn : List Cond := .code yX0_clearColumn cX0_clearColumn 8 none :: kws
theorem kcX0_clearColumn {R : Room} {s : State} {args : Array Value} {own : String} {index : Nat} (htk : ∀ w ∈ kws, w.before args s = true) (hl : (Cond.methodLink own index yX0_clearColumn).before args s = true) (hR : rmX0_clearColumn.frames + 1 ≤ R.frames ∧ 8 + (8 + 11) + rmX0_clearColumn.locals ≤ R.locals) : CallW R s args own RX0 index yX0_clearColumn cX0_clearColumn 8 none wsX0_clearColumn rmX0_clearColumn 0 0 1 :=
  ⟨callB_of 1 htk (k_good kc_397) rfl rfl rfl (kw_56 htk) hl (by decide +kernel) hR, (kw_396 htk), (kw_17 htk)⟩
set_option maxRecDepth 100000 in
set_option maxHeartbeats 4000000 in
theorem mX0_clearColumn (l : Launch) (D : va_G) (cs : Nat → ClassId) (ad : Nat → Nat) (N : Nat) (σ : vS) (p1 : Int32) (σ' : vS) (hf : fX0_clearColumn N σ p1 = some σ') : k_Met l yX0_clearColumn wsX0_clearColumn rmX0_clearColumn D (tK cs) (wK cs ad) (k_A 41 ad) [.ref (ad 2), .int p1] σ none σ' := by
  refine k_of (cc := cX0_clearColumn) (maxL := 8) (ret := none) (by decide) rfl (Nat.le_of_ble_eq_true rfl) ?_
  intro p e s m args below meth c ls H locs hcf hr hlk hK hZ hl hw
  generalize hQ0 : MQ below _ args s 0 0 _ = Q0
  obtain ⟨T0, hE0⟩ : ∃ T, T = fX0_clearColumn N σ p1 := ⟨_, rfl⟩
  have hR := hE0.trans hf
  have hN0 : T0 ≠ none := by rw [hR]; exact fun h => nomatch h
  have hx := hcf.1
  have hb := hcf.2.1
  have htk := hcf.2.2.2.2
  have hown := hcf.2.2.2.1
  unfold fX0_clearColumn at hE0
  replace hl : lv_has ls 8 [(0, .ref (ad 2)), (1, .int p1)] := hl
  have J121 : ∀ (σj121 : vS) (H : Heap) (locs : List Loc) (ls : Array Slot), lv_has ls 8 [] → k_H D (wK cs ad) (k_A 41 ad) σj121 s.heap H locs → T0 = jX0_clearColumn_121 N σj121 → W p l e rmX0_clearColumn s m args below meth c H locs 0 0 Q0 (F0 m 121 ls []) := by
    intro σj121 H locs ls hl hw hE0
    unfold jX0_clearColumn_121 at hE0
    exact kret_v hcf hr hlk hK hw (rt1 hR hE0) hQ0 dX0_clearColumn_121
  refine lv_aload_n hx hb dX0_clearColumn_0 rfl (lv_at hl 0 rfl) ?_
  refine kg_X0_pivot hcf hK (kw_203 htk) (x := (σ.2.2.1 0)) dX0_clearColumn_1 hw rfl ?_
  refine lv_topl (fun x1 e_x1 => ?_)
  have hE0 := k_lts hE0 e_x1
  refine lv_lstore_n hx hb dX0_clearColumn_4 rfl hl (Nat.le_of_ble_eq_true rfl) rfl (fun ls (hl : lv_has ls 8 [(2, .long x1), (0, .ref (ad 2)), (1, .int p1)]) => ?_)
  refine lv_aload_n hx hb dX0_clearColumn_5 rfl (lv_at hl 1 rfl) ?_
  refine lv_aload_n hx hb dX0_clearColumn_6 rfl (lv_at hl 1 rfl) ?_
  refine kg_X0_rows hcf hK (kw_198 htk) dX0_clearColumn_7 hw ?_
  refine lv_aload_n hx hb dX0_clearColumn_10 rfl (lv_at hl 1 rfl) ?_
  refine kg_X0_rank hcf hK (kw_200 htk) (x := (σ.1 12)) dX0_clearColumn_11 hw rfl ?_
  obtain ⟨g2, hE0⟩ := gd_e hE0 hN0
  refine kaald_rows hcf hK dX0_clearColumn_14 rfl g2 hw ?_
  refine lv_iload_n hx hb dX0_clearColumn_15 rfl (lv_at hl 2 rfl) ?_
  obtain ⟨g3, hE0⟩ := gd_e hE0 hN0
  refine kald_rows hcf hK (x := (σ.2.2.2 (11 + ((σ.1 12)).toNatClampNeg) ((p1).toNatClampNeg))) dX0_clearColumn_16 g2 g3 hw rfl ?_
  refine kp_X0_pivot hcf hK (kw_203 htk) dX0_clearColumn_17 hw (fun H locs hw => ?_)
  refine lv_iconst (v := 0) hx hb dX0_clearColumn_20 rfl ?_
  refine lv_istore hx hb dX0_clearColumn_21 hl (Nat.le_of_ble_eq_true rfl) rfl (fun ls (hl : lv_has ls 8 [(4, .int (0 : Int32)), (2, .long x1), (0, .ref (ad 2)), (1, .int p1)]) => ?_)
  obtain ⟨q, hq, hE0⟩ := bd1_e hE0 hN0
  refine k_ind (P := fun zz => ∀ (H : Heap) (locs : List Loc) (ls : Array Slot), lv_has ls 8 [(0, .ref (ad 2)), (1, .int p1), (2, .long x1), (4, .int zz.1)] → k_H D (wK cs ad) (k_A 41 ad) zz.2 s.heap H locs → W p l e rmX0_clearColumn s m args below meth c H locs 0 0 Q0 (F0 m 23 ls [])) ?_ N _ hq H locs ls (lv_sub hl [2, 3, 1, 0] rfl) hw
  intro sX T1 hE1 hN1 hC1 hX1
  obtain ⟨v4h23, σh23⟩ := sX
  replace hE1 : T1 = bX0_clearColumn_23 N p1 x1 v4h23 σh23 := hE1
  unfold bX0_clearColumn_23 at hE1
  have J115_23 : ∀ (v4j115 : Int32) (σj115 : vS) (H : Heap) (locs : List Loc) (ls : Array Slot), lv_has ls 8 [(0, .ref (ad 2)), (1, .int p1), (2, .long x1), (4, .int v4j115)] → k_H D (wK cs ad) (k_A 41 ad) σj115 s.heap H locs → T1 = jX0_clearColumn_115_23 N σj115 p1 x1 v4j115 → W p l e rmX0_clearColumn s m args below meth c H locs 0 0 Q0 (F0 m 115 ls []) := by
    intro v4j115 σj115 H locs ls hl hw hE1
    unfold jX0_clearColumn_115_23 at hE1
    obtain ⟨x7, e_x7, hE1⟩ := k_lte hE1
    refine lv_iinc (k := 3) (v := x7) hx hb dX0_clearColumn_115 hl rfl (Eq.symm e_x7) (Nat.le_of_ble_eq_true rfl) rfl (fun ls (hl : lv_has ls 8 [(4, .int x7), (0, .ref (ad 2)), (1, .int p1), (2, .long x1)]) => ?_)
    refine lv_goto (tgt := 23) hx hb dX0_clearColumn_118 (by decide) ?_
    exact hC1 _ hE1 H locs ls (lv_sub hl [1, 2, 3, 0] rfl) hw
  intro H locs ls hl hw
  replace hl : lv_has ls 8 [(0, .ref (ad 2)), (1, .int p1), (2, .long x1), (4, .int v4h23)] := hl
  replace hw : k_H D (wK cs ad) (k_A 41 ad) σh23 s.heap H locs := hw
  refine lv_iload hx hb dX0_clearColumn_23 (lv_at hl 3 rfl) ?_
  refine lv_aload_n hx hb dX0_clearColumn_25 rfl (lv_at hl 0 rfl) ?_
  refine kg_X0_height hcf hK (kw_201 htk) (x := (σh23.1 13)) dX0_clearColumn_26 hw rfl ?_
  refine lv_icmp_ge (tgt := 121) hx hb dX0_clearColumn_29 (by decide) (fun c18 => ?_) (fun c18 => ?_)
  · have hE1 := ite_t hE1 c18
    have hq := hX1 _ hE1
    subst hq
    exact J121 σh23 H locs ls (lv_sub hl [] rfl) hw hE0
  · have hE1 := ite_f hE1 c18
    refine lv_aload_n hx hb dX0_clearColumn_32 rfl (lv_at hl 0 rfl) ?_
    refine kg_X0_rows hcf hK (kw_198 htk) dX0_clearColumn_33 hw ?_
    refine lv_iload hx hb dX0_clearColumn_36 (lv_at hl 3 rfl) ?_
    obtain ⟨g4, hE1⟩ := gd_e hE1 hN1
    refine kaald_rows hcf hK dX0_clearColumn_38 rfl g4 hw ?_
    refine lv_iload_n hx hb dX0_clearColumn_39 rfl (lv_at hl 1 rfl) ?_
    obtain ⟨g5, hE1⟩ := gd_e hE1 hN1
    refine kald_rows hcf hK (x := (σh23.2.2.2 (11 + (v4h23).toNatClampNeg) ((p1).toNatClampNeg))) dX0_clearColumn_40 g4 g5 hw rfl ?_
    refine lv_topl (fun x6 e_x6 => ?_)
    have hE1 := k_lts hE1 e_x6
    refine lv_lstore hx hb dX0_clearColumn_41 hl (Nat.le_of_ble_eq_true rfl) rfl (fun ls (hl : lv_has ls 8 [(5, .long x6), (0, .ref (ad 2)), (1, .int p1), (2, .long x1), (4, .int v4h23)]) => ?_)
    refine lv_iconst (v := 0) hx hb dX0_clearColumn_43 rfl ?_
    refine lv_istore hx hb dX0_clearColumn_44 hl (Nat.le_of_ble_eq_true rfl) rfl (fun ls (hl : lv_has ls 8 [(7, .int (0 : Int32)), (5, .long x6), (0, .ref (ad 2)), (1, .int p1), (2, .long x1), (4, .int v4h23)]) => ?_)
    obtain ⟨q, hq, hE1⟩ := bd1_e hE1 hN1
    refine k_ind (P := fun zz => ∀ (H : Heap) (locs : List Loc) (ls : Array Slot), lv_has ls 8 [(0, .ref (ad 2)), (1, .int p1), (2, .long x1), (4, .int v4h23), (5, .long x6), (7, .int zz.1)] → k_H D (wK cs ad) (k_A 41 ad) zz.2 s.heap H locs → W p l e rmX0_clearColumn s m args below meth c H locs 0 0 Q0 (F0 m 46 ls [])) ?_ N _ hq H locs ls (lv_sub hl [2, 3, 4, 5, 1, 0] rfl) hw
    intro sX T2 hE2 hN2 hC2 hX2
    obtain ⟨v7h46, σh46⟩ := sX
    replace hE2 : T2 = bX0_clearColumn_46 N p1 x1 v4h23 x6 v7h46 σh46 := hE2
    unfold bX0_clearColumn_46 at hE2
    intro H locs ls hl hw
    replace hl : lv_has ls 8 [(0, .ref (ad 2)), (1, .int p1), (2, .long x1), (4, .int v4h23), (5, .long x6), (7, .int v7h46)] := hl
    replace hw : k_H D (wK cs ad) (k_A 41 ad) σh46 s.heap H locs := hw
    refine lv_iload hx hb dX0_clearColumn_46 (lv_at hl 5 rfl) ?_
    refine lv_aload_n hx hb dX0_clearColumn_48 rfl (lv_at hl 0 rfl) ?_
    refine kg_X0_width hcf hK (kw_202 htk) (x := (σh46.1 14)) dX0_clearColumn_49 hw rfl ?_
    refine lv_icmp_ge (tgt := 115) hx hb dX0_clearColumn_52 (by decide) (fun c17 => ?_) (fun c17 => ?_)
    · have hE2 := ite_t hE2 c17
      have hq := hX2 _ hE2
      subst hq
      exact J115_23 v4h23 σh46 H locs ls (lv_sub hl [0, 1, 2, 3] rfl) hw hE1
    · have hE2 := ite_f hE2 c17
      refine lv_iload hx hb dX0_clearColumn_55 (lv_at hl 3 rfl) ?_
      refine lv_aload_n hx hb dX0_clearColumn_57 rfl (lv_at hl 0 rfl) ?_
      refine kg_X0_rank hcf hK (kw_200 htk) (x := (σh46.1 12)) dX0_clearColumn_58 hw rfl ?_
      refine lv_icmp_eq (tgt := 115) hx hb dX0_clearColumn_61 (by decide) (fun c16 => ?_) (fun c16 => ?_)
      · have hE2 := ite_t hE2 c16
        have hq := hX2 _ hE2
        subst hq
        exact J115_23 v4h23 σh46 H locs ls (lv_sub hl [0, 1, 2, 3] rfl) hw hE1
      · have hE2 := ite_f hE2 c16
        refine lv_aload_n hx hb dX0_clearColumn_64 rfl (lv_at hl 0 rfl) ?_
        refine kg_X0_rows hcf hK (kw_198 htk) dX0_clearColumn_65 hw ?_
        refine lv_iload hx hb dX0_clearColumn_68 (lv_at hl 3 rfl) ?_
        obtain ⟨g8, hE2⟩ := gd_e hE2 hN2
        refine kaald_rows hcf hK dX0_clearColumn_70 rfl g8 hw ?_
        refine lv_iload hx hb dX0_clearColumn_71 (lv_at hl 5 rfl) ?_
        refine lv_aload_n hx hb dX0_clearColumn_73 rfl (lv_at hl 0 rfl) ?_
        refine kg_X0_pivot hcf hK (kw_203 htk) (x := (σh46.2.2.1 0)) dX0_clearColumn_74 hw rfl ?_
        refine lv_aload_n hx hb dX0_clearColumn_77 rfl (lv_at hl 0 rfl) ?_
        refine kg_X0_rows hcf hK (kw_198 htk) dX0_clearColumn_78 hw ?_
        refine lv_iload hx hb dX0_clearColumn_81 (lv_at hl 3 rfl) ?_
        obtain ⟨g9, hE2⟩ := gd_e hE2 hN2
        refine kaald_rows hcf hK dX0_clearColumn_83 rfl g9 hw ?_
        refine lv_iload hx hb dX0_clearColumn_84 (lv_at hl 5 rfl) ?_
        obtain ⟨g10, hE2⟩ := gd_e hE2 hN2
        refine kald_rows hcf hK (x := (σh46.2.2.2 (11 + (v4h23).toNatClampNeg) ((v7h46).toNatClampNeg))) dX0_clearColumn_86 g9 g10 hw rfl ?_
        refine lv_lmul hx hb dX0_clearColumn_87 ?_
        refine lv_lload hx hb dX0_clearColumn_88 (lv_at hl 4 rfl) ?_
        refine lv_aload_n hx hb dX0_clearColumn_90 rfl (lv_at hl 0 rfl) ?_
        refine kg_X0_rows hcf hK (kw_198 htk) dX0_clearColumn_91 hw ?_
        refine lv_aload_n hx hb dX0_clearColumn_94 rfl (lv_at hl 0 rfl) ?_
        refine kg_X0_rank hcf hK (kw_200 htk) (x := (σh46.1 12)) dX0_clearColumn_95 hw rfl ?_
        obtain ⟨g11, hE2⟩ := gd_e hE2 hN2
        refine kaald_rows hcf hK dX0_clearColumn_98 rfl g11 hw ?_
        refine lv_iload hx hb dX0_clearColumn_99 (lv_at hl 5 rfl) ?_
        obtain ⟨g12, hE2⟩ := gd_e hE2 hN2
        refine kald_rows hcf hK (x := (σh46.2.2.2 (11 + ((σh46.1 12)).toNatClampNeg) ((v7h46).toNatClampNeg))) dX0_clearColumn_101 g11 g12 hw rfl ?_
        refine lv_lmul hx hb dX0_clearColumn_102 ?_
        refine lv_lsub hx hb dX0_clearColumn_103 ?_
        refine lv_lload_n hx hb dX0_clearColumn_104 rfl (lv_at hl 2 rfl) ?_
        obtain ⟨r13, k13, hE2⟩ := bd1_e hE2 hN2
        refine k_callP (va_runS (As := [.long (((σh46.2.2.1 0) * (σh46.2.2.2 (11 + (v4h23).toNatClampNeg) ((v7h46).toNatClampNeg))) - (x6 * (σh46.2.2.2 (11 + ((σh46.1 12)).toNatClampNeg) ((v7h46).toNatClampNeg)))), .long x1]) (rest := [.int v7h46, .ref (ad (25 + (11 + (v4h23).toNatClampNeg)))]) hcf (mX0_quotient l D cs ad N σh46 (((σh46.2.2.1 0) * (σh46.2.2.2 (11 + (v4h23).toNatClampNeg) ((v7h46).toNatClampNeg))) - (x6 * (σh46.2.2.2 (11 + ((σh46.1 12)).toNatClampNeg) ((v7h46).toNatClampNeg)))) x1 r13 k13) (kcX0_quotient htk (kw_398 htk) ⟨Nat.le_of_ble_eq_true rfl, Nat.le_of_ble_eq_true rfl⟩) ⟨k_blind, k_pre hK hZ hw⟩ rfl rfl hl.1 rfl (lv_room (Nat.le_of_ble_eq_true rfl)) dX0_clearColumn_105 ⟨Nat.zero_le _, Nat.zero_le _⟩) ?_
        obtain ⟨g14, hE2⟩ := gd_e hE2 hN2
        refine kast_rows hcf hK dX0_clearColumn_108 g8 g14 hw (fun H locs hw => ?_)
        obtain ⟨x15, e_x15, hE2⟩ := k_lte hE2
        refine lv_iinc (k := 5) (v := x15) hx hb dX0_clearColumn_109 hl rfl (Eq.symm e_x15) (Nat.le_of_ble_eq_true rfl) rfl (fun ls (hl : lv_has ls 8 [(7, .int x15), (0, .ref (ad 2)), (1, .int p1), (2, .long x1), (4, .int v4h23), (5, .long x6)]) => ?_)
        refine lv_goto (tgt := 46) hx hb dX0_clearColumn_112 (by decide) ?_
        exact hC2 _ hE2 H locs ls (lv_sub hl [1, 2, 3, 4, 5, 0] rfl) hw
def jX0_reduce_87 (N : Nat) (σj87 : vS) : Option (vS) :=
  some σj87
def jX0_reduce_42_12 (N : Nat) (σj42 : vS) (v1j42 : Int32) (v2j42 : Int32) : Option ((Int32 × vS) ⊕ (vS)) :=
  if (v2j42 = (-1 : Int32)) then (
    k_lt (v1j42 + (1 : Int32)) fun x3 =>
    some (.inl (x3, σj42))
  ) else (
    bd1 (fX0_swapRows N σj42 (σj42.1 12) v2j42) fun σ4 =>
    bd1 (fX0_clearColumn N σ4 v1j42) fun σ5 =>
    if ((σ5.1 12) < 0 ∨ 5 ≤ ((σ5.1 12)).toNatClampNeg) then none else
    k_lt (v1j42 + (1 : Int32)) fun x7 =>
    some (.inl (x7, (p_i (p_a σ5 7 (((σ5.1 12)).toNatClampNeg) v1j42) 12 ((σ5.1 12) + (1 : Int32)))))
  )
def bX0_reduce_12 (N : Nat) (v1h12 : Int32) (σh12 : vS) : Option ((Int32 × vS) ⊕ (vS)) :=
  if ((σh12.1 14) ≤ v1h12) then (
    some (.inr σh12)
  ) else (
    bd1 (fX0_pivotRow N σh12 v1h12) fun r1 =>
    if (r1 = (-1 : Int32)) then (
      if (v1h12 < 0 ∨ 6 ≤ (v1h12).toNatClampNeg) then none else
      jX0_reduce_42_12 N (p_a σh12 6 ((v1h12).toNatClampNeg) (vp_nar .boolean (1 : Int32))) v1h12 r1
    ) else (
      if (v1h12 < 0 ∨ 6 ≤ (v1h12).toNatClampNeg) then none else
      jX0_reduce_42_12 N (p_a σh12 6 ((v1h12).toNatClampNeg) (vp_nar .boolean (0 : Int32))) v1h12 r1
    )
  )
def fX0_reduce (N : Nat) (σ : vS) : Option (vS) :=
  bd1 (k_itr (fun zz => bX0_reduce_12 N zz.1 zz.2) N ((0 : Int32), (p_j (p_i σ 12 (0 : Int32)) 0 (1 : Int64)))) fun q => jX0_reduce_87 N q
abbrev rmX0_reduce : Room := { frames := 2, cells := 0, slots := 0, locals := 50 }
abbrev wsX0_reduce : List Cond := .code yX0_reduce cX0_reduce 3 none :: kws
theorem kcX0_reduce {R : Room} {s : State} {args : Array Value} {own : String} {index : Nat} (htk : ∀ w ∈ kws, w.before args s = true) (hl : (Cond.methodLink own index yX0_reduce).before args s = true) (hR : rmX0_reduce.frames + 1 ≤ R.frames ∧ 8 + (3 + 11) + rmX0_reduce.locals ≤ R.locals) : CallW R s args own RX0 index yX0_reduce cX0_reduce 3 none wsX0_reduce rmX0_reduce 0 0 0 :=
  ⟨callB_of 0 htk (k_good kc_385) rfl rfl rfl (kw_56 htk) hl (by decide +kernel) hR, (kw_384 htk), (kw_14 htk)⟩
set_option maxRecDepth 100000 in
set_option maxHeartbeats 4000000 in
theorem mX0_reduce (l : Launch) (D : va_G) (cs : Nat → ClassId) (ad : Nat → Nat) (N : Nat) (σ : vS) (σ' : vS) (hf : fX0_reduce N σ = some σ') : k_Met l yX0_reduce wsX0_reduce rmX0_reduce D (tK cs) (wK cs ad) (k_A 41 ad) [.ref (ad 2)] σ none σ' := by
  refine k_of (cc := cX0_reduce) (maxL := 3) (ret := none) (by decide) rfl (Nat.le_of_ble_eq_true rfl) ?_
  intro p e s m args below meth c ls H locs hcf hr hlk hK hZ hl hw
  generalize hQ0 : MQ below _ args s 0 0 _ = Q0
  obtain ⟨T0, hE0⟩ : ∃ T, T = fX0_reduce N σ := ⟨_, rfl⟩
  have hR := hE0.trans hf
  have hN0 : T0 ≠ none := by rw [hR]; exact fun h => nomatch h
  have hx := hcf.1
  have hb := hcf.2.1
  have htk := hcf.2.2.2.2
  have hown := hcf.2.2.2.1
  unfold fX0_reduce at hE0
  replace hl : lv_has ls 3 [(0, .ref (ad 2))] := hl
  have J87 : ∀ (σj87 : vS) (H : Heap) (locs : List Loc) (ls : Array Slot), lv_has ls 3 [] → k_H D (wK cs ad) (k_A 41 ad) σj87 s.heap H locs → T0 = jX0_reduce_87 N σj87 → W p l e rmX0_reduce s m args below meth c H locs 0 0 Q0 (F0 m 87 ls []) := by
    intro σj87 H locs ls hl hw hE0
    unfold jX0_reduce_87 at hE0
    exact kret_v hcf hr hlk hK hw (rt1 hR hE0) hQ0 dX0_reduce_87
  refine lv_aload_n hx hb dX0_reduce_0 rfl (lv_at hl 0 rfl) ?_
  refine lv_iconst (v := 0) hx hb dX0_reduce_1 rfl ?_
  refine kp_X0_rank hcf hK (kw_200 htk) dX0_reduce_2 hw (fun H locs hw => ?_)
  refine lv_aload_n hx hb dX0_reduce_5 rfl (lv_at hl 0 rfl) ?_
  refine lv_lconst (v := 1) hx hb dX0_reduce_6 rfl ?_
  refine kp_X0_pivot hcf hK (kw_203 htk) dX0_reduce_7 hw (fun H locs hw => ?_)
  refine lv_iconst (v := 0) hx hb dX0_reduce_10 rfl ?_
  refine lv_istore_n hx hb dX0_reduce_11 rfl hl (Nat.le_of_ble_eq_true rfl) rfl (fun ls (hl : lv_has ls 3 [(1, .int (0 : Int32)), (0, .ref (ad 2))]) => ?_)
  obtain ⟨q, hq, hE0⟩ := bd1_e hE0 hN0
  refine k_ind (P := fun zz => ∀ (H : Heap) (locs : List Loc) (ls : Array Slot), lv_has ls 3 [(0, .ref (ad 2)), (1, .int zz.1)] → k_H D (wK cs ad) (k_A 41 ad) zz.2 s.heap H locs → W p l e rmX0_reduce s m args below meth c H locs 0 0 Q0 (F0 m 12 ls [])) ?_ N _ hq H locs ls (lv_sub hl [1, 0] rfl) hw
  intro sX T1 hE1 hN1 hC1 hX1
  obtain ⟨v1h12, σh12⟩ := sX
  replace hE1 : T1 = bX0_reduce_12 N v1h12 σh12 := hE1
  unfold bX0_reduce_12 at hE1
  have J42_12 : ∀ (v1j42 : Int32) (v2j42 : Int32) (σj42 : vS) (H : Heap) (locs : List Loc) (ls : Array Slot), lv_has ls 3 [(0, .ref (ad 2)), (1, .int v1j42), (2, .int v2j42)] → k_H D (wK cs ad) (k_A 41 ad) σj42 s.heap H locs → T1 = jX0_reduce_42_12 N σj42 v1j42 v2j42 → W p l e rmX0_reduce s m args below meth c H locs 0 0 Q0 (F0 m 42 ls []) := by
    intro v1j42 v2j42 σj42 H locs ls hl hw hE1
    unfold jX0_reduce_42_12 at hE1
    refine lv_iload_n hx hb dX0_reduce_42 rfl (lv_at hl 2 rfl) ?_
    refine lv_iconst (v := -1) hx hb dX0_reduce_43 rfl ?_
    refine lv_icmp_eq (tgt := 81) hx hb dX0_reduce_44 (by decide) (fun c8 => ?_) (fun c8 => ?_)
    · have hE1 := ite_t hE1 c8
      obtain ⟨x3, e_x3, hE1⟩ := k_lte hE1
      refine lv_iinc (k := 1) (v := x3) hx hb dX0_reduce_81 hl rfl (Eq.symm e_x3) (Nat.le_of_ble_eq_true rfl) rfl (fun ls (hl : lv_has ls 3 [(1, .int x3), (0, .ref (ad 2)), (2, .int v2j42)]) => ?_)
      refine lv_goto (tgt := 12) hx hb dX0_reduce_84 (by decide) ?_
      exact hC1 _ hE1 H locs ls (lv_sub hl [1, 0] rfl) hw
    · have hE1 := ite_f hE1 c8
      refine lv_aload_n hx hb dX0_reduce_47 rfl (lv_at hl 0 rfl) ?_
      refine lv_aload_n hx hb dX0_reduce_48 rfl (lv_at hl 0 rfl) ?_
      refine kg_X0_rank hcf hK (kw_200 htk) (x := (σj42.1 12)) dX0_reduce_49 hw rfl ?_
      refine lv_iload_n hx hb dX0_reduce_52 rfl (lv_at hl 2 rfl) ?_
      obtain ⟨σ4, k4, hE1⟩ := bd1_e hE1 hN1
      refine k_call (va_runV (As := [.int (σj42.1 12), .int v2j42]) (rest := []) hcf (mX0_swapRows l D cs ad N σj42 (σj42.1 12) v2j42 σ4 k4) (kcX0_swapRows htk (kw_390 htk) ⟨Nat.le_of_ble_eq_true rfl, Nat.le_of_ble_eq_true rfl⟩) ⟨k_blind, va_recv (ci := 0) (q0 := 2) hK hw.1 rfl rfl, k_pre hK hZ hw⟩ rfl rfl hl.1 rfl (lv_room (Nat.le_of_ble_eq_true rfl)) dX0_reduce_53 ⟨Nat.zero_le _, Nat.zero_le _⟩) hw (fun H locs hw => ?_)
      refine lv_aload_n hx hb dX0_reduce_56 rfl (lv_at hl 0 rfl) ?_
      refine lv_iload_n hx hb dX0_reduce_57 rfl (lv_at hl 1 rfl) ?_
      obtain ⟨σ5, k5, hE1⟩ := bd1_e hE1 hN1
      refine k_call (va_runV (As := [.int v1j42]) (rest := []) hcf (mX0_clearColumn l D cs ad N σ4 v1j42 σ5 k5) (kcX0_clearColumn htk (kw_394 htk) ⟨Nat.le_of_ble_eq_true rfl, Nat.le_of_ble_eq_true rfl⟩) ⟨k_blind, va_recv (ci := 0) (q0 := 2) hK hw.1 rfl rfl, k_pre hK hZ hw⟩ rfl rfl hl.1 rfl (lv_room (Nat.le_of_ble_eq_true rfl)) dX0_reduce_58 ⟨Nat.zero_le _, Nat.zero_le _⟩) hw (fun H locs hw => ?_)
      refine lv_aload_n hx hb dX0_reduce_61 rfl (lv_at hl 0 rfl) ?_
      refine kg_X0_leading hcf hK (kw_199 htk) dX0_reduce_62 hw ?_
      refine lv_aload_n hx hb dX0_reduce_65 rfl (lv_at hl 0 rfl) ?_
      refine kg_X0_rank hcf hK (kw_200 htk) (x := (σ5.1 12)) dX0_reduce_66 hw rfl ?_
      refine lv_iload_n hx hb dX0_reduce_69 rfl (lv_at hl 1 rfl) ?_
      obtain ⟨g6, hE1⟩ := gd_e hE1 hN1
      refine kast_A7 hcf hK dX0_reduce_70 g6 hw (fun H locs hw => ?_)
      refine lv_aload_n hx hb dX0_reduce_71 rfl (lv_at hl 0 rfl) ?_
      refine lv_dup hx hb dX0_reduce_72 rfl ?_
      refine kg_X0_rank hcf hK (kw_200 htk) (x := (σ5.1 12)) dX0_reduce_73 hw rfl ?_
      refine lv_iconst (v := 1) hx hb dX0_reduce_76 rfl ?_
      refine lv_iadd hx hb dX0_reduce_77 ?_
      refine kp_X0_rank hcf hK (kw_200 htk) dX0_reduce_78 hw (fun H locs hw => ?_)
      obtain ⟨x7, e_x7, hE1⟩ := k_lte hE1
      refine lv_iinc (k := 1) (v := x7) hx hb dX0_reduce_81 hl rfl (Eq.symm e_x7) (Nat.le_of_ble_eq_true rfl) rfl (fun ls (hl : lv_has ls 3 [(1, .int x7), (0, .ref (ad 2)), (2, .int v2j42)]) => ?_)
      refine lv_goto (tgt := 12) hx hb dX0_reduce_84 (by decide) ?_
      exact hC1 _ hE1 H locs ls (lv_sub hl [1, 0] rfl) hw
  intro H locs ls hl hw
  replace hl : lv_has ls 3 [(0, .ref (ad 2)), (1, .int v1h12)] := hl
  replace hw : k_H D (wK cs ad) (k_A 41 ad) σh12 s.heap H locs := hw
  refine lv_iload_n hx hb dX0_reduce_12 rfl (lv_at hl 1 rfl) ?_
  refine lv_aload_n hx hb dX0_reduce_13 rfl (lv_at hl 0 rfl) ?_
  refine kg_X0_width hcf hK (kw_202 htk) (x := (σh12.1 14)) dX0_reduce_14 hw rfl ?_
  refine lv_icmp_ge (tgt := 87) hx hb dX0_reduce_17 (by decide) (fun c11 => ?_) (fun c11 => ?_)
  · have hE1 := ite_t hE1 c11
    have hq := hX1 _ hE1
    subst hq
    exact J87 σh12 H locs ls (lv_sub hl [] rfl) hw hE0
  · have hE1 := ite_f hE1 c11
    refine lv_aload_n hx hb dX0_reduce_20 rfl (lv_at hl 0 rfl) ?_
    refine lv_iload_n hx hb dX0_reduce_21 rfl (lv_at hl 1 rfl) ?_
    obtain ⟨r1, k1, hE1⟩ := bd1_e hE1 hN1
    refine k_callP (va_runV (As := [.int v1h12]) (rest := []) hcf (mX0_pivotRow l D cs ad N σh12 v1h12 r1 k1) (kcX0_pivotRow htk (kw_386 htk) ⟨Nat.le_of_ble_eq_true rfl, Nat.le_of_ble_eq_true rfl⟩) ⟨k_blind, va_recv (ci := 0) (q0 := 2) hK hw.1 rfl rfl, k_pre hK hZ hw⟩ rfl rfl hl.1 rfl (lv_room (Nat.le_of_ble_eq_true rfl)) dX0_reduce_22 ⟨Nat.zero_le _, Nat.zero_le _⟩) ?_
    refine lv_istore_n hx hb dX0_reduce_25 rfl hl (Nat.le_of_ble_eq_true rfl) rfl (fun ls (hl : lv_has ls 3 [(2, .int r1), (0, .ref (ad 2)), (1, .int v1h12)]) => ?_)
    refine lv_aload_n hx hb dX0_reduce_26 rfl (lv_at hl 1 rfl) ?_
    refine kg_X0_dependent hcf hK (kw_190 htk) dX0_reduce_27 hw ?_
    refine lv_iload_n hx hb dX0_reduce_30 rfl (lv_at hl 2 rfl) ?_
    refine lv_iload_n hx hb dX0_reduce_31 rfl (lv_at hl 0 rfl) ?_
    refine lv_iconst (v := -1) hx hb dX0_reduce_32 rfl ?_
    refine lv_icmp_ne (tgt := 40) hx hb dX0_reduce_33 (by decide) (fun c10 => ?_) (fun c10 => ?_)
    · have hE1 := ite_f hE1 c10
      refine lv_iconst (v := 0) hx hb dX0_reduce_40 rfl ?_
      obtain ⟨g2, hE1⟩ := gd_e hE1 hN1
      refine kast_A6 hcf hK dX0_reduce_41 g2 hw (fun H locs hw => ?_)
      exact J42_12 v1h12 r1 (p_a σh12 6 ((v1h12).toNatClampNeg) (vp_nar .boolean (0 : Int32))) H locs ls (lv_sub hl [1, 2, 0] rfl) hw hE1
    · have hE1 := ite_t hE1 c10
      refine lv_iconst (v := 1) hx hb dX0_reduce_36 rfl ?_
      refine lv_goto (tgt := 41) hx hb dX0_reduce_37 (by decide) ?_
      obtain ⟨g9, hE1⟩ := gd_e hE1 hN1
      refine kast_A6 hcf hK dX0_reduce_41 g9 hw (fun H locs hw => ?_)
      exact J42_12 v1h12 r1 (p_a σh12 6 ((v1h12).toNatClampNeg) (vp_nar .boolean (1 : Int32))) H locs ls (lv_sub hl [1, 2, 0] rfl) hw hE1
def jX0_commonDivisor_51 (N : Nat) (σ : vS) (v4j51 : Int64) : Option (Int64) :=
  some v4j51
def bX0_commonDivisor_15 (N : Nat) (σ : vS) (v4h15 : Int64) (v6h15 : Int64) (v8h15 : Int32) : Option ((Int64 × Int64 × Int32) ⊕ (Int64)) :=
  if ((200 : Int32) ≤ v8h15) then (
    some (.inr v4h15)
  ) else (
    if ((lg_cmp v6h15 (0 : Int64)) = 0) then (
      some (.inr v4h15)
    ) else (
      if (v6h15 = 0) then none else
      k_lt (v4h15 - v4h15 / v6h15 * v6h15) fun x4 =>
      k_lt (v8h15 + (1 : Int32)) fun x5 =>
      some (.inl (v6h15, x4, x5))
    )
  )
def fX0_commonDivisor (N : Nat) (σ : vS) (p0 : Int64) (p2 : Int64) : Option (Int64) :=
  k_lt (k_abs p0) fun x1 =>
  k_lt (k_abs p2) fun x2 =>
  bd1 (k_itr (fun zz => bX0_commonDivisor_15 N σ zz.1 zz.2.1 zz.2.2) N (x1, x2, (0 : Int32))) fun q => jX0_commonDivisor_51 N σ q
abbrev rmX0_commonDivisor : Room := { frames := 1, cells := 0, slots := 0, locals := 40 }
abbrev wsX0_commonDivisor : List Cond := .code yX0_commonDivisor cX0_commonDivisor 11 (some .long) :: kws
theorem kcX0_commonDivisor {R : Room} {s : State} {args : Array Value} {own : String} {index : Nat} (htk : ∀ w ∈ kws, w.before args s = true) (hl : (Cond.methodLink own index yX0_commonDivisor).before args s = true) (hR : rmX0_commonDivisor.frames + 1 ≤ R.frames ∧ 8 + (11 + 11) + rmX0_commonDivisor.locals ≤ R.locals) : CallB R s args own index yX0_commonDivisor cX0_commonDivisor 11 (some .long) wsX0_commonDivisor rmX0_commonDivisor 0 0 2 ∧ (Cond.static yX0_commonDivisor).before args s = true :=
  ⟨callB_of 2 htk (k_good kc_408) rfl rfl rfl (kw_56 htk) hl (by decide +kernel) hR, (kw_407 htk)⟩
set_option maxRecDepth 100000 in
set_option maxHeartbeats 4000000 in
theorem mX0_commonDivisor (l : Launch) (D : va_G) (cs : Nat → ClassId) (ad : Nat → Nat) (N : Nat) (σ : vS) (p0 : Int64) (p2 : Int64) (r : Int64) (hf : fX0_commonDivisor N σ p0 p2 = some r) : k_MP l yX0_commonDivisor wsX0_commonDivisor rmX0_commonDivisor D (tK cs) (wK cs ad) [.long p0, .long p2] σ (.long r) := by
  refine k_ofP (cc := cX0_commonDivisor) (maxL := 11) (ret := (some .long)) (by decide) rfl (Nat.le_of_ble_eq_true rfl) ?_
  intro p e s m args below meth c ls hcf hr hlk hK hZ hl hw
  generalize hQ0 : MQ below _ args s 0 0 _ = Q0
  obtain ⟨T0, hE0⟩ : ∃ T, T = fX0_commonDivisor N σ p0 p2 := ⟨_, rfl⟩
  have hR := hE0.trans hf
  have hN0 : T0 ≠ none := by rw [hR]; exact fun h => nomatch h
  have hx := hcf.1
  have hb := hcf.2.1
  have htk := hcf.2.2.2.2
  have hown := hcf.2.2.2.1
  unfold fX0_commonDivisor at hE0
  replace hl : lv_has ls 11 [(0, .long p0), (2, .long p2)] := hl
  have J51 : ∀ (v4j51 : Int64) (ls : Array Slot), lv_has ls 11 [(4, .long v4j51)] → T0 = jX0_commonDivisor_51 N σ v4j51 → W p l e rmX0_commonDivisor s m args below meth c s.heap [] 0 0 Q0 (F0 m 51 ls []) := by
    intro v4j51 ls hl hE0
    unfold jX0_commonDivisor_51 at hE0
    refine lv_lload hx hb dX0_commonDivisor_51 (lv_at hl 0 rfl) ?_
    exact kretP_l hcf hr hlk hK hw (rt1 hR hE0) hQ0 dX0_commonDivisor_53
  refine lv_lload_n hx hb dX0_commonDivisor_0 rfl (lv_at hl 0 rfl) ?_
  refine va_mabs_long hx hb (hcf.2.2.1.trans hl.1.symm) hown (kw_409 htk) (kw_410 htk) (kw_65 htk) (htk _ kc_411) (Nat.le_of_ble_eq_true rfl) (Nat.le_of_ble_eq_true rfl) (Nat.zero_le _) (Nat.zero_le _) dX0_commonDivisor_1 ?_
  refine lv_topl (fun x1 e_x1 => ?_)
  have hE0 := k_lts hE0 e_x1
  refine lv_lstore hx hb dX0_commonDivisor_4 hl (Nat.le_of_ble_eq_true rfl) rfl (fun ls (hl : lv_has ls 11 [(4, .long x1), (0, .long p0), (2, .long p2)]) => ?_)
  refine lv_lload_n hx hb dX0_commonDivisor_6 rfl (lv_at hl 2 rfl) ?_
  refine va_mabs_long hx hb (hcf.2.2.1.trans hl.1.symm) hown (kw_409 htk) (kw_410 htk) (kw_65 htk) (htk _ kc_411) (Nat.le_of_ble_eq_true rfl) (Nat.le_of_ble_eq_true rfl) (Nat.zero_le _) (Nat.zero_le _) dX0_commonDivisor_7 ?_
  refine lv_topl (fun x2 e_x2 => ?_)
  have hE0 := k_lts hE0 e_x2
  refine lv_lstore hx hb dX0_commonDivisor_10 hl (Nat.le_of_ble_eq_true rfl) rfl (fun ls (hl : lv_has ls 11 [(6, .long x2), (4, .long x1), (0, .long p0), (2, .long p2)]) => ?_)
  refine lv_iconst (v := 0) hx hb dX0_commonDivisor_12 rfl ?_
  refine lv_istore hx hb dX0_commonDivisor_13 hl (Nat.le_of_ble_eq_true rfl) rfl (fun ls (hl : lv_has ls 11 [(8, .int (0 : Int32)), (6, .long x2), (4, .long x1), (0, .long p0), (2, .long p2)]) => ?_)
  obtain ⟨q, hq, hE0⟩ := bd1_e hE0 hN0
  refine k_ind (P := fun zz => ∀ (ls : Array Slot), lv_has ls 11 [(4, .long zz.1), (6, .long zz.2.1), (8, .int zz.2.2)] → W p l e rmX0_commonDivisor s m args below meth c s.heap [] 0 0 Q0 (F0 m 15 ls [])) ?_ N _ hq ls (lv_sub hl [2, 1, 0] rfl)
  intro sX T1 hE1 hN1 hC1 hX1
  obtain ⟨v4h15, v6h15, v8h15⟩ := sX
  replace hE1 : T1 = bX0_commonDivisor_15 N σ v4h15 v6h15 v8h15 := hE1
  unfold bX0_commonDivisor_15 at hE1
  intro ls hl
  replace hl : lv_has ls 11 [(4, .long v4h15), (6, .long v6h15), (8, .int v8h15)] := hl
  refine lv_iload hx hb dX0_commonDivisor_15 (lv_at hl 2 rfl) ?_
  refine lv_sipush (v := 200) hx hb dX0_commonDivisor_17 rfl ?_
  refine lv_icmp_ge (tgt := 51) hx hb dX0_commonDivisor_20 (by decide) (fun c7 => ?_) (fun c7 => ?_)
  · have hE1 := ite_t hE1 c7
    have hq := hX1 _ hE1
    subst hq
    exact J51 v4h15 ls (lv_sub hl [0] rfl) hE0
  · have hE1 := ite_f hE1 c7
    refine lv_lload hx hb dX0_commonDivisor_23 (lv_at hl 1 rfl) ?_
    refine lv_lconst (v := 0) hx hb dX0_commonDivisor_25 rfl ?_
    refine W.lcmp hx hb dX0_commonDivisor_26 ?_
    refine lv_if_eq (tgt := 51) hx hb dX0_commonDivisor_27 (by decide) (fun c6 => ?_) (fun c6 => ?_)
    · have hE1 := ite_t hE1 c6
      have hq := hX1 _ hE1
      subst hq
      exact J51 v4h15 ls (lv_sub hl [0] rfl) hE0
    · have hE1 := ite_f hE1 c6
      refine lv_lload hx hb dX0_commonDivisor_30 (lv_at hl 0 rfl) ?_
      refine lv_lload hx hb dX0_commonDivisor_32 (lv_at hl 1 rfl) ?_
      obtain ⟨g3, hE1⟩ := gd_e hE1 hN1
      refine lv_lrem hx hb dX0_commonDivisor_34 g3 ?_
      refine lv_topl (fun x4 e_x4 => ?_)
      have hE1 := k_lts hE1 e_x4
      refine lv_lstore hx hb dX0_commonDivisor_35 hl (Nat.le_of_ble_eq_true rfl) rfl (fun ls (hl : lv_has ls 11 [(9, .long x4), (4, .long v4h15), (6, .long v6h15), (8, .int v8h15)]) => ?_)
      refine lv_lload hx hb dX0_commonDivisor_37 (lv_at hl 2 rfl) ?_
      refine lv_lstore hx hb dX0_commonDivisor_39 hl (Nat.le_of_ble_eq_true rfl) rfl (fun ls (hl : lv_has ls 11 [(4, .long v6h15), (9, .long x4), (6, .long v6h15), (8, .int v8h15)]) => ?_)
      refine lv_lload hx hb dX0_commonDivisor_41 (lv_at hl 1 rfl) ?_
      refine lv_lstore hx hb dX0_commonDivisor_43 hl (Nat.le_of_ble_eq_true rfl) rfl (fun ls (hl : lv_has ls 11 [(6, .long x4), (4, .long v6h15), (9, .long x4), (8, .int v8h15)]) => ?_)
      obtain ⟨x5, e_x5, hE1⟩ := k_lte hE1
      refine lv_iinc (k := 3) (v := x5) hx hb dX0_commonDivisor_45 hl rfl (Eq.symm e_x5) (Nat.le_of_ble_eq_true rfl) rfl (fun ls (hl : lv_has ls 11 [(8, .int x5), (6, .long x4), (4, .long v6h15), (9, .long x4)]) => ?_)
      refine lv_goto (tgt := 15) hx hb dX0_commonDivisor_48 (by decide) ?_
      exact hC1 _ hE1 ls (lv_sub hl [2, 1, 0] rfl)
def jX0_makeBase_122 (N : Nat) (b1 : Nat) (σj122 : vS) : Option (vS) :=
  some σj122
def bX0_makeBase_94 (N : Nat) (b1 : Nat) (v5j91 : Int64) (v7h94 : Int32) (σh94 : vS) : Option ((Int32 × vS) ⊕ (vS)) :=
  if ((σh94.1 14) ≤ v7h94) then (
    some (.inr σh94)
  ) else (
    if (v7h94 < 0 ∨ (k_len b1) ≤ (v7h94).toNatClampNeg) then none else
    bd1 (fX0_quotient N σh94 (σh94.2.2.2 b1 ((v7h94).toNatClampNeg)) v5j91) fun r4 =>
    if (v7h94 < 0 ∨ (k_len b1) ≤ (v7h94).toNatClampNeg) then none else
    k_lt (v7h94 + (1 : Int32)) fun x6 =>
    some (.inl (x6, (p_b σh94 b1 ((v7h94).toNatClampNeg) r4)))
  )
def jX0_makeBase_91 (N : Nat) (b1 : Nat) (σj91 : vS) (v5j91 : Int64) : Option (vS) :=
  bd1 (k_itr (fun zz => bX0_makeBase_94 N b1 v5j91 zz.1 zz.2) N ((0 : Int32), σj91)) fun q => jX0_makeBase_122 N b1 q
def jX0_makeBase_74 (N : Nat) (b1 : Nat) (σj74 : vS) (v3j74 : Int64) : Option (vS) :=
  if (0 ≤ (lg_cmp (σj74.2.2.1 0) (0 : Int64))) then (
    jX0_makeBase_91 N b1 σj74 v3j74
  ) else (
    k_lt (-v3j74) fun x8 =>
    jX0_makeBase_91 N b1 σj74 x8
  )
def bX0_makeBase_50 (N : Nat) (b1 : Nat) (σj45 : vS) (v3h50 : Int64) (v5h50 : Int32) : Option ((Int64 × Int32) ⊕ (Int64)) :=
  if ((σj45.1 14) ≤ v5h50) then (
    some (.inr v3h50)
  ) else (
    if (v5h50 < 0 ∨ (k_len b1) ≤ (v5h50).toNatClampNeg) then none else
    bd1 (fX0_commonDivisor N σj45 v3h50 (σj45.2.2.2 b1 ((v5h50).toNatClampNeg))) fun r11 =>
    k_lt (v5h50 + (1 : Int32)) fun x12 =>
    some (.inl (r11, x12))
  )
def jX0_makeBase_45 (N : Nat) (b1 : Nat) (σj45 : vS) : Option (vS) :=
  bd1 (k_itr (fun zz => bX0_makeBase_50 N b1 σj45 zz.1 zz.2) N ((0 : Int64), (0 : Int32))) fun q => jX0_makeBase_74 N b1 σj45 q
def bX0_makeBase_14 (N : Nat) (b1 : Nat) (p2 : Int32) (v3h14 : Int32) (σh14 : vS) : Option ((Int32 × vS) ⊕ (vS)) :=
  if ((σh14.1 12) ≤ v3h14) then (
    some (.inr σh14)
  ) else (
    if (v3h14 < 0 ∨ 5 ≤ (v3h14).toNatClampNeg) then none else
    if (v3h14 < 0 ∨ 5 ≤ (v3h14).toNatClampNeg) then none else
    if (p2 < 0 ∨ 6 ≤ (p2).toNatClampNeg) then none else
    if ((σh14.2.1 7 ((v3h14).toNatClampNeg)) < 0 ∨ (k_len b1) ≤ ((σh14.2.1 7 ((v3h14).toNatClampNeg))).toNatClampNeg) then none else
    k_lt (v3h14 + (1 : Int32)) fun x18 =>
    some (.inl (x18, (p_b σh14 b1 (((σh14.2.1 7 ((v3h14).toNatClampNeg))).toNatClampNeg) (-(σh14.2.2.2 (11 + (v3h14).toNatClampNeg) ((p2).toNatClampNeg))))))
  )
def fX0_makeBase (N : Nat) (σ : vS) (b1 : Nat) (p2 : Int32) : Option (vS) :=
  bd1 (fJ0_fill N σ b1 (0 : Int64)) fun σ1 =>
  if (p2 < 0 ∨ (k_len b1) ≤ (p2).toNatClampNeg) then none else
  bd1 (k_itr (fun zz => bX0_makeBase_14 N b1 p2 zz.1 zz.2) N ((0 : Int32), (p_b σ1 b1 ((p2).toNatClampNeg) (σ1.2.2.1 0)))) fun q => jX0_makeBase_45 N b1 q
abbrev rmX0_makeBase : Room := { frames := 2, cells := 0, slots := 0, locals := 70 }
abbrev wsX0_makeBase : List Cond := .code yX0_makeBase cX0_makeBase 8 none :: kws
theorem kcX0_makeBase {R : Room} {s : State} {args : Array Value} {own : String} {index : Nat} (htk : ∀ w ∈ kws, w.before args s = true) (hl : (Cond.methodLink own index yX0_makeBase).before args s = true) (hR : rmX0_makeBase.frames + 1 ≤ R.frames ∧ 8 + (8 + 11) + rmX0_makeBase.locals ≤ R.locals) : CallW R s args own RX0 index yX0_makeBase cX0_makeBase 8 none wsX0_makeBase rmX0_makeBase 0 0 2 :=
  ⟨callB_of 2 htk (k_good kc_404) rfl rfl rfl (kw_56 htk) hl (by decide +kernel) hR, (kw_403 htk), (kw_18 htk)⟩
set_option maxRecDepth 100000 in
set_option maxHeartbeats 4000000 in
theorem mX0_makeBase (l : Launch) (D : va_G) (cs : Nat → ClassId) (ad : Nat → Nat) (N : Nat) (σ : vS) (b1 : Nat) (p2 : Int32) (σ' : vS) (hf : fX0_makeBase N σ b1 p2 = some σ') (h_b1 : b1 < 16) : k_Met l yX0_makeBase wsX0_makeBase rmX0_makeBase D (tK cs) (wK cs ad) (k_A 41 ad) [.ref (ad 2), .ref (ad (25 + b1)), .int p2] σ none σ' := by
  refine k_of (cc := cX0_makeBase) (maxL := 8) (ret := none) (by decide) rfl (Nat.le_of_ble_eq_true rfl) ?_
  intro p e s m args below meth c ls H locs hcf hr hlk hK hZ hl hw
  generalize hQ0 : MQ below _ args s 0 0 _ = Q0
  obtain ⟨T0, hE0⟩ : ∃ T, T = fX0_makeBase N σ b1 p2 := ⟨_, rfl⟩
  have hR := hE0.trans hf
  have hN0 : T0 ≠ none := by rw [hR]; exact fun h => nomatch h
  have hx := hcf.1
  have hb := hcf.2.1
  have htk := hcf.2.2.2.2
  have hown := hcf.2.2.2.1
  unfold fX0_makeBase at hE0
  replace hl : lv_has ls 8 [(0, .ref (ad 2)), (1, .ref (ad (25 + b1))), (2, .int p2)] := hl
  have J122 : ∀ (σj122 : vS) (H : Heap) (locs : List Loc) (ls : Array Slot), lv_has ls 8 [] → k_H D (wK cs ad) (k_A 41 ad) σj122 s.heap H locs → T0 = jX0_makeBase_122 N b1 σj122 → W p l e rmX0_makeBase s m args below meth c H locs 0 0 Q0 (F0 m 122 ls []) := by
    intro σj122 H locs ls hl hw hE0
    unfold jX0_makeBase_122 at hE0
    exact kret_v hcf hr hlk hK hw (rt1 hR hE0) hQ0 dX0_makeBase_122
  have J91 : ∀ (v5j91 : Int64) (σj91 : vS) (H : Heap) (locs : List Loc) (ls : Array Slot), lv_has ls 8 [(0, .ref (ad 2)), (1, .ref (ad (25 + b1))), (5, .long v5j91)] → k_H D (wK cs ad) (k_A 41 ad) σj91 s.heap H locs → T0 = jX0_makeBase_91 N b1 σj91 v5j91 → W p l e rmX0_makeBase s m args below meth c H locs 0 0 Q0 (F0 m 91 ls []) := by
    intro v5j91 σj91 H locs ls hl hw hE0
    unfold jX0_makeBase_91 at hE0
    refine lv_iconst (v := 0) hx hb dX0_makeBase_91 rfl ?_
    refine lv_istore hx hb dX0_makeBase_92 hl (Nat.le_of_ble_eq_true rfl) rfl (fun ls (hl : lv_has ls 8 [(7, .int (0 : Int32)), (0, .ref (ad 2)), (1, .ref (ad (25 + b1))), (5, .long v5j91)]) => ?_)
    obtain ⟨q, hq, hE0⟩ := bd1_e hE0 hN0
    refine k_ind (P := fun zz => ∀ (H : Heap) (locs : List Loc) (ls : Array Slot), lv_has ls 8 [(0, .ref (ad 2)), (1, .ref (ad (25 + b1))), (5, .long v5j91), (7, .int zz.1)] → k_H D (wK cs ad) (k_A 41 ad) zz.2 s.heap H locs → W p l e rmX0_makeBase s m args below meth c H locs 0 0 Q0 (F0 m 94 ls [])) ?_ N _ hq H locs ls (lv_sub hl [1, 2, 3, 0] rfl) hw
    intro sX T1 hE1 hN1 hC1 hX1
    obtain ⟨v7h94, σh94⟩ := sX
    replace hE1 : T1 = bX0_makeBase_94 N b1 v5j91 v7h94 σh94 := hE1
    unfold bX0_makeBase_94 at hE1
    intro H locs ls hl hw
    replace hl : lv_has ls 8 [(0, .ref (ad 2)), (1, .ref (ad (25 + b1))), (5, .long v5j91), (7, .int v7h94)] := hl
    replace hw : k_H D (wK cs ad) (k_A 41 ad) σh94 s.heap H locs := hw
    refine lv_iload hx hb dX0_makeBase_94 (lv_at hl 3 rfl) ?_
    refine lv_aload_n hx hb dX0_makeBase_96 rfl (lv_at hl 0 rfl) ?_
    refine kg_X0_width hcf hK (kw_202 htk) (x := (σh94.1 14)) dX0_makeBase_97 hw rfl ?_
    refine lv_icmp_ge (tgt := 122) hx hb dX0_makeBase_100 (by decide) (fun c7 => ?_) (fun c7 => ?_)
    · have hE1 := ite_t hE1 c7
      have hq := hX1 _ hE1
      subst hq
      exact J122 σh94 H locs ls (lv_sub hl [] rfl) hw hE0
    · have hE1 := ite_f hE1 c7
      refine lv_aload_n hx hb dX0_makeBase_103 rfl (lv_at hl 1 rfl) ?_
      refine lv_iload hx hb dX0_makeBase_104 (lv_at hl 3 rfl) ?_
      refine lv_aload_n hx hb dX0_makeBase_106 rfl (lv_at hl 1 rfl) ?_
      refine lv_iload hx hb dX0_makeBase_107 (lv_at hl 3 rfl) ?_
      obtain ⟨g3, hE1⟩ := gd_e hE1 hN1
      refine kald_B hcf hK (x := (σh94.2.2.2 b1 ((v7h94).toNatClampNeg))) dX0_makeBase_109 h_b1 g3 hw rfl ?_
      refine lv_lload hx hb dX0_makeBase_110 (lv_at hl 2 rfl) ?_
      obtain ⟨r4, k4, hE1⟩ := bd1_e hE1 hN1
      refine k_callP (va_runS (As := [.long (σh94.2.2.2 b1 ((v7h94).toNatClampNeg)), .long v5j91]) (rest := [.int v7h94, .ref (ad (25 + b1))]) hcf (mX0_quotient l D cs ad N σh94 (σh94.2.2.2 b1 ((v7h94).toNatClampNeg)) v5j91 r4 k4) (kcX0_quotient htk (kw_398 htk) ⟨Nat.le_of_ble_eq_true rfl, Nat.le_of_ble_eq_true rfl⟩) ⟨k_blind, k_pre hK hZ hw⟩ rfl rfl hl.1 rfl (lv_room (Nat.le_of_ble_eq_true rfl)) dX0_makeBase_112 ⟨Nat.zero_le _, Nat.zero_le _⟩) ?_
      obtain ⟨g5, hE1⟩ := gd_e hE1 hN1
      refine kast_B hcf hK dX0_makeBase_115 h_b1 g5 hw (fun H locs hw => ?_)
      obtain ⟨x6, e_x6, hE1⟩ := k_lte hE1
      refine lv_iinc (k := 3) (v := x6) hx hb dX0_makeBase_116 hl rfl (Eq.symm e_x6) (Nat.le_of_ble_eq_true rfl) rfl (fun ls (hl : lv_has ls 8 [(7, .int x6), (0, .ref (ad 2)), (1, .ref (ad (25 + b1))), (5, .long v5j91)]) => ?_)
      refine lv_goto (tgt := 94) hx hb dX0_makeBase_119 (by decide) ?_
      exact hC1 _ hE1 H locs ls (lv_sub hl [1, 2, 3, 0] rfl) hw
  have J74 : ∀ (v3j74 : Int64) (σj74 : vS) (H : Heap) (locs : List Loc) (ls : Array Slot), lv_has ls 8 [(0, .ref (ad 2)), (1, .ref (ad (25 + b1))), (3, .long v3j74)] → k_H D (wK cs ad) (k_A 41 ad) σj74 s.heap H locs → T0 = jX0_makeBase_74 N b1 σj74 v3j74 → W p l e rmX0_makeBase s m args below meth c H locs 0 0 Q0 (F0 m 74 ls []) := by
    intro v3j74 σj74 H locs ls hl hw hE0
    unfold jX0_makeBase_74 at hE0
    refine lv_aload_n hx hb dX0_makeBase_74 rfl (lv_at hl 0 rfl) ?_
    refine kg_X0_pivot hcf hK (kw_203 htk) (x := (σj74.2.2.1 0)) dX0_makeBase_75 hw rfl ?_
    refine lv_lconst (v := 0) hx hb dX0_makeBase_78 rfl ?_
    refine W.lcmp hx hb dX0_makeBase_79 ?_
    refine lv_if_ge (tgt := 88) hx hb dX0_makeBase_80 (by decide) (fun c9 => ?_) (fun c9 => ?_)
    · have hE0 := ite_t hE0 c9
      refine lv_lload_n hx hb dX0_makeBase_88 rfl (lv_at hl 2 rfl) ?_
      refine lv_lstore hx hb dX0_makeBase_89 hl (Nat.le_of_ble_eq_true rfl) rfl (fun ls (hl : lv_has ls 8 [(5, .long v3j74), (0, .ref (ad 2)), (1, .ref (ad (25 + b1))), (3, .long v3j74)]) => ?_)
      exact J91 v3j74 σj74 H locs ls (lv_sub hl [1, 2, 0] rfl) hw hE0
    · have hE0 := ite_f hE0 c9
      refine lv_lload_n hx hb dX0_makeBase_83 rfl (lv_at hl 2 rfl) ?_
      refine lv_lneg hx hb dX0_makeBase_84 ?_
      refine lv_goto (tgt := 89) hx hb dX0_makeBase_85 (by decide) ?_
      refine lv_topl (fun x8 e_x8 => ?_)
      have hE0 := k_lts hE0 e_x8
      refine lv_lstore hx hb dX0_makeBase_89 hl (Nat.le_of_ble_eq_true rfl) rfl (fun ls (hl : lv_has ls 8 [(5, .long x8), (0, .ref (ad 2)), (1, .ref (ad (25 + b1))), (3, .long v3j74)]) => ?_)
      exact J91 x8 σj74 H locs ls (lv_sub hl [1, 2, 0] rfl) hw hE0
  have J45 : ∀ (σj45 : vS) (H : Heap) (locs : List Loc) (ls : Array Slot), lv_has ls 8 [(0, .ref (ad 2)), (1, .ref (ad (25 + b1)))] → k_H D (wK cs ad) (k_A 41 ad) σj45 s.heap H locs → T0 = jX0_makeBase_45 N b1 σj45 → W p l e rmX0_makeBase s m args below meth c H locs 0 0 Q0 (F0 m 45 ls []) := by
    intro σj45 H locs ls hl hw hE0
    unfold jX0_makeBase_45 at hE0
    refine lv_lconst (v := 0) hx hb dX0_makeBase_45 rfl ?_
    refine lv_lstore_n hx hb dX0_makeBase_46 rfl hl (Nat.le_of_ble_eq_true rfl) rfl (fun ls (hl : lv_has ls 8 [(3, .long (0 : Int64)), (0, .ref (ad 2)), (1, .ref (ad (25 + b1)))]) => ?_)
    refine lv_iconst (v := 0) hx hb dX0_makeBase_47 rfl ?_
    refine lv_istore hx hb dX0_makeBase_48 hl (Nat.le_of_ble_eq_true rfl) rfl (fun ls (hl : lv_has ls 8 [(5, .int (0 : Int32)), (3, .long (0 : Int64)), (0, .ref (ad 2)), (1, .ref (ad (25 + b1)))]) => ?_)
    obtain ⟨q, hq, hE0⟩ := bd1_e hE0 hN0
    refine k_ind (P := fun zz => ∀ (ls : Array Slot), lv_has ls 8 [(0, .ref (ad 2)), (1, .ref (ad (25 + b1))), (3, .long zz.1), (5, .int zz.2)] → W p l e rmX0_makeBase s m args below meth c H locs 0 0 Q0 (F0 m 50 ls [])) ?_ N _ hq ls (lv_sub hl [2, 3, 1, 0] rfl)
    intro sX T1 hE1 hN1 hC1 hX1
    obtain ⟨v3h50, v5h50⟩ := sX
    replace hE1 : T1 = bX0_makeBase_50 N b1 σj45 v3h50 v5h50 := hE1
    unfold bX0_makeBase_50 at hE1
    intro ls hl
    replace hl : lv_has ls 8 [(0, .ref (ad 2)), (1, .ref (ad (25 + b1))), (3, .long v3h50), (5, .int v5h50)] := hl
    refine lv_iload hx hb dX0_makeBase_50 (lv_at hl 3 rfl) ?_
    refine lv_aload_n hx hb dX0_makeBase_52 rfl (lv_at hl 0 rfl) ?_
    refine kg_X0_width hcf hK (kw_202 htk) (x := (σj45.1 14)) dX0_makeBase_53 hw rfl ?_
    refine lv_icmp_ge (tgt := 74) hx hb dX0_makeBase_56 (by decide) (fun c13 => ?_) (fun c13 => ?_)
    · have hE1 := ite_t hE1 c13
      have hq := hX1 _ hE1
      subst hq
      exact J74 v3h50 σj45 H locs ls (lv_sub hl [0, 1, 2] rfl) hw hE0
    · have hE1 := ite_f hE1 c13
      refine lv_lload_n hx hb dX0_makeBase_59 rfl (lv_at hl 2 rfl) ?_
      refine lv_aload_n hx hb dX0_makeBase_60 rfl (lv_at hl 1 rfl) ?_
      refine lv_iload hx hb dX0_makeBase_61 (lv_at hl 3 rfl) ?_
      obtain ⟨g10, hE1⟩ := gd_e hE1 hN1
      refine kald_B hcf hK (x := (σj45.2.2.2 b1 ((v5h50).toNatClampNeg))) dX0_makeBase_63 h_b1 g10 hw rfl ?_
      obtain ⟨r11, k11, hE1⟩ := bd1_e hE1 hN1
      refine k_callP (va_runS (As := [.long v3h50, .long (σj45.2.2.2 b1 ((v5h50).toNatClampNeg))]) (rest := []) hcf (mX0_commonDivisor l D cs ad N σj45 v3h50 (σj45.2.2.2 b1 ((v5h50).toNatClampNeg)) r11 k11) (kcX0_commonDivisor htk (kw_406 htk) ⟨Nat.le_of_ble_eq_true rfl, Nat.le_of_ble_eq_true rfl⟩) ⟨k_blind, k_pre hK hZ hw⟩ rfl rfl hl.1 rfl (lv_room (Nat.le_of_ble_eq_true rfl)) dX0_makeBase_64 ⟨Nat.zero_le _, Nat.zero_le _⟩) ?_
      refine lv_lstore_n hx hb dX0_makeBase_67 rfl hl (Nat.le_of_ble_eq_true rfl) rfl (fun ls (hl : lv_has ls 8 [(3, .long r11), (0, .ref (ad 2)), (1, .ref (ad (25 + b1))), (5, .int v5h50)]) => ?_)
      obtain ⟨x12, e_x12, hE1⟩ := k_lte hE1
      refine lv_iinc (k := 3) (v := x12) hx hb dX0_makeBase_68 hl rfl (Eq.symm e_x12) (Nat.le_of_ble_eq_true rfl) rfl (fun ls (hl : lv_has ls 8 [(5, .int x12), (3, .long r11), (0, .ref (ad 2)), (1, .ref (ad (25 + b1)))]) => ?_)
      refine lv_goto (tgt := 50) hx hb dX0_makeBase_71 (by decide) ?_
      exact hC1 _ hE1 ls (lv_sub hl [2, 3, 1, 0] rfl)
  refine lv_aload_n hx hb dX0_makeBase_0 rfl (lv_at hl 1 rfl) ?_
  refine lv_lconst (v := 0) hx hb dX0_makeBase_1 rfl ?_
  obtain ⟨σ1, k1, hE0⟩ := bd1_e hE0 hN0
  refine k_call (va_runS (As := [.ref (ad (25 + b1)), .long (0 : Int64)]) (rest := []) hcf (mJ0_fill l D cs ad N σ b1 (0 : Int64) σ1 k1 h_b1) (kcJ0_fill htk (kw_405 htk) ⟨Nat.le_of_ble_eq_true rfl, Nat.le_of_ble_eq_true rfl⟩) ⟨k_blind, k_pre hK hZ hw⟩ rfl rfl hl.1 rfl (lv_room (Nat.le_of_ble_eq_true rfl)) dX0_makeBase_2 ⟨Nat.zero_le _, Nat.zero_le _⟩) hw (fun H locs hw => ?_)
  refine lv_aload_n hx hb dX0_makeBase_5 rfl (lv_at hl 1 rfl) ?_
  refine lv_iload_n hx hb dX0_makeBase_6 rfl (lv_at hl 2 rfl) ?_
  refine lv_aload_n hx hb dX0_makeBase_7 rfl (lv_at hl 0 rfl) ?_
  refine kg_X0_pivot hcf hK (kw_203 htk) (x := (σ1.2.2.1 0)) dX0_makeBase_8 hw rfl ?_
  obtain ⟨g2, hE0⟩ := gd_e hE0 hN0
  refine kast_B hcf hK dX0_makeBase_11 h_b1 g2 hw (fun H locs hw => ?_)
  refine lv_iconst (v := 0) hx hb dX0_makeBase_12 rfl ?_
  refine lv_istore_n hx hb dX0_makeBase_13 rfl hl (Nat.le_of_ble_eq_true rfl) rfl (fun ls (hl : lv_has ls 8 [(3, .int (0 : Int32)), (0, .ref (ad 2)), (1, .ref (ad (25 + b1))), (2, .int p2)]) => ?_)
  obtain ⟨q, hq, hE0⟩ := bd1_e hE0 hN0
  refine k_ind (P := fun zz => ∀ (H : Heap) (locs : List Loc) (ls : Array Slot), lv_has ls 8 [(0, .ref (ad 2)), (1, .ref (ad (25 + b1))), (2, .int p2), (3, .int zz.1)] → k_H D (wK cs ad) (k_A 41 ad) zz.2 s.heap H locs → W p l e rmX0_makeBase s m args below meth c H locs 0 0 Q0 (F0 m 14 ls [])) ?_ N _ hq H locs ls (lv_sub hl [1, 2, 3, 0] rfl) hw
  intro sX T1 hE1 hN1 hC1 hX1
  obtain ⟨v3h14, σh14⟩ := sX
  replace hE1 : T1 = bX0_makeBase_14 N b1 p2 v3h14 σh14 := hE1
  unfold bX0_makeBase_14 at hE1
  intro H locs ls hl hw
  replace hl : lv_has ls 8 [(0, .ref (ad 2)), (1, .ref (ad (25 + b1))), (2, .int p2), (3, .int v3h14)] := hl
  replace hw : k_H D (wK cs ad) (k_A 41 ad) σh14 s.heap H locs := hw
  refine lv_iload_n hx hb dX0_makeBase_14 rfl (lv_at hl 3 rfl) ?_
  refine lv_aload_n hx hb dX0_makeBase_15 rfl (lv_at hl 0 rfl) ?_
  refine kg_X0_rank hcf hK (kw_200 htk) (x := (σh14.1 12)) dX0_makeBase_16 hw rfl ?_
  refine lv_icmp_ge (tgt := 45) hx hb dX0_makeBase_19 (by decide) (fun c19 => ?_) (fun c19 => ?_)
  · have hE1 := ite_t hE1 c19
    have hq := hX1 _ hE1
    subst hq
    exact J45 σh14 H locs ls (lv_sub hl [0, 1] rfl) hw hE0
  · have hE1 := ite_f hE1 c19
    refine lv_aload_n hx hb dX0_makeBase_22 rfl (lv_at hl 1 rfl) ?_
    refine lv_aload_n hx hb dX0_makeBase_23 rfl (lv_at hl 0 rfl) ?_
    refine kg_X0_leading hcf hK (kw_199 htk) dX0_makeBase_24 hw ?_
    refine lv_iload_n hx hb dX0_makeBase_27 rfl (lv_at hl 3 rfl) ?_
    obtain ⟨g14, hE1⟩ := gd_e hE1 hN1
    refine kald_A7 hcf hK (x := (σh14.2.1 7 ((v3h14).toNatClampNeg))) dX0_makeBase_28 g14 hw rfl ?_
    refine lv_aload_n hx hb dX0_makeBase_29 rfl (lv_at hl 0 rfl) ?_
    refine kg_X0_rows hcf hK (kw_198 htk) dX0_makeBase_30 hw ?_
    refine lv_iload_n hx hb dX0_makeBase_33 rfl (lv_at hl 3 rfl) ?_
    obtain ⟨g15, hE1⟩ := gd_e hE1 hN1
    refine kaald_rows hcf hK dX0_makeBase_34 rfl g15 hw ?_
    refine lv_iload_n hx hb dX0_makeBase_35 rfl (lv_at hl 2 rfl) ?_
    obtain ⟨g16, hE1⟩ := gd_e hE1 hN1
    refine kald_rows hcf hK (x := (σh14.2.2.2 (11 + (v3h14).toNatClampNeg) ((p2).toNatClampNeg))) dX0_makeBase_36 g15 g16 hw rfl ?_
    refine lv_lneg hx hb dX0_makeBase_37 ?_
    obtain ⟨g17, hE1⟩ := gd_e hE1 hN1
    refine kast_B hcf hK dX0_makeBase_38 h_b1 g17 hw (fun H locs hw => ?_)
    obtain ⟨x18, e_x18, hE1⟩ := k_lte hE1
    refine lv_iinc (k := 3) (v := x18) hx hb dX0_makeBase_39 hl rfl (Eq.symm e_x18) (Nat.le_of_ble_eq_true rfl) rfl (fun ls (hl : lv_has ls 8 [(3, .int x18), (0, .ref (ad 2)), (1, .ref (ad (25 + b1))), (2, .int p2)]) => ?_)
    refine lv_goto (tgt := 14) hx hb dX0_makeBase_42 (by decide) ?_
    exact hC1 _ hE1 H locs ls (lv_sub hl [1, 2, 3, 0] rfl) hw
