def fX4_add (N : Nat) (σ : vS) (p1 : Int32) : Option (vS) :=
  if ((100 : Int32) ≤ (σ.1 0)) then (
    some σ
  ) else (
    if ((σ.1 0) < 0 ∨ 100 ≤ ((σ.1 0)).toNatClampNeg) then none else
    some (p_i (p_a σ 0 (((σ.1 0)).toNatClampNeg) (vp_nar .char p1)) 0 ((σ.1 0) + (1 : Int32)))
  )
abbrev rmX4_add : Room := { frames := 0, cells := 0, slots := 0, locals := 0 }
abbrev wsX4_add : List Cond := .code yX4_add cX4_add 2 none :: kws
theorem kcX4_add {R : Room} {s : State} {args : Array Value} {own : String} {index : Nat} (htk : ∀ w ∈ kws, w.before args s = true) (hl : (Cond.methodLink own index yX4_add).before args s = true) (hR : rmX4_add.frames + 1 ≤ R.frames ∧ 8 + (2 + 11) + rmX4_add.locals ≤ R.locals) : CallW R s args own RX4 index yX4_add cX4_add 2 none wsX4_add rmX4_add 0 0 1 :=
  ⟨callB_of 1 htk (k_good kc_568) rfl rfl rfl (kw_54 htk) hl (by decide +kernel) hR, (kw_566 htk), (kw_567 htk)⟩
set_option maxRecDepth 100000 in
set_option maxHeartbeats 4000000 in
theorem mX4_add (l : Launch) (D : va_G) (cs : Nat → ClassId) (ad : Nat → Nat) (N : Nat) (σ : vS) (p1 : Int32) (σ' : vS) (hf : fX4_add N σ p1 = some σ') : k_Met l yX4_add wsX4_add rmX4_add D (tK cs) (wK cs ad) (k_A 41 ad) [.ref (ad 4), .int p1] σ none σ' := by
  refine k_of (cc := cX4_add) (maxL := 2) (ret := none) (by decide) rfl (Nat.le_of_ble_eq_true rfl) ?_
  intro p e s m args below meth c ls H locs hcf hr hlk hK hZ hl hw
  generalize hQ0 : MQ below _ args s 0 0 _ = Q0
  obtain ⟨T0, hE0⟩ : ∃ T, T = fX4_add N σ p1 := ⟨_, rfl⟩
  have hR := hE0.trans hf
  have hN0 : T0 ≠ none := by rw [hR]; exact fun h => nomatch h
  have hx := hcf.1
  have hb := hcf.2.1
  have htk := hcf.2.2.2.2
  have hown := hcf.2.2.2.1
  unfold fX4_add at hE0
  replace hl : lv_has ls 2 [(0, .ref (ad 4)), (1, .int p1)] := hl
  refine lv_aload_n hx hb dX4_add_0 rfl (lv_at hl 0 rfl) ?_
  refine kg_X4_length hcf hK (kw_90 htk) (x := (σ.1 0)) dX4_add_1 hw rfl ?_
  refine lv_bipush (v := 100) hx hb dX4_add_4 rfl ?_
  refine lv_icmp_ge (tgt := 29) hx hb dX4_add_6 (by decide) (fun c2 => ?_) (fun c2 => ?_)
  · have hE0 := ite_t hE0 c2
    exact kret_v hcf hr hlk hK hw (rt1 hR hE0) hQ0 dX4_add_29
  · have hE0 := ite_f hE0 c2
    refine lv_aload_n hx hb dX4_add_9 rfl (lv_at hl 0 rfl) ?_
    refine kg_X4_characters hcf hK (kw_88 htk) dX4_add_10 hw ?_
    refine lv_aload_n hx hb dX4_add_13 rfl (lv_at hl 0 rfl) ?_
    refine kg_X4_length hcf hK (kw_90 htk) (x := (σ.1 0)) dX4_add_14 hw rfl ?_
    refine lv_iload_n hx hb dX4_add_17 rfl (lv_at hl 1 rfl) ?_
    obtain ⟨g1, hE0⟩ := gd_e hE0 hN0
    refine kast_A0 hcf hK dX4_add_18 g1 hw (fun H locs hw => ?_)
    refine lv_aload_n hx hb dX4_add_19 rfl (lv_at hl 0 rfl) ?_
    refine lv_dup hx hb dX4_add_20 rfl ?_
    refine kg_X4_length hcf hK (kw_90 htk) (x := (σ.1 0)) dX4_add_21 hw rfl ?_
    refine lv_iconst (v := 1) hx hb dX4_add_24 rfl ?_
    refine lv_iadd hx hb dX4_add_25 ?_
    refine kp_X4_length hcf hK (kw_90 htk) dX4_add_26 hw (fun H locs hw => ?_)
    exact kret_v hcf hr hlk hK hw (rt1 hR hE0) hQ0 dX4_add_29
def jX4_skipBlanks_38 (N : Nat) (σj38 : vS) : Option (vS) :=
  some σj38
def bX4_skipBlanks_0 (N : Nat) (σh0 : vS) : Option ((vS) ⊕ (vS)) :=
  if ((σh0.1 0) ≤ (σh0.1 1)) then (
    some (.inr σh0)
  ) else (
    if ((σh0.1 1) < 0 ∨ 100 ≤ ((σh0.1 1)).toNatClampNeg) then none else
    if ((σh0.2.1 0 (((σh0.1 1)).toNatClampNeg)) = (32 : Int32)) then (
      some (.inl (p_i σh0 1 ((σh0.1 1) + (1 : Int32))))
    ) else (
      some (.inr σh0)
    )
  )
def fX4_skipBlanks (N : Nat) (σ : vS) : Option (vS) :=
  bd1 (k_itr (fun zz => bX4_skipBlanks_0 N zz) N σ) fun q => jX4_skipBlanks_38 N q
abbrev rmX4_skipBlanks : Room := { frames := 0, cells := 0, slots := 0, locals := 0 }
abbrev wsX4_skipBlanks : List Cond := .code yX4_skipBlanks cX4_skipBlanks 1 none :: kws
theorem kcX4_skipBlanks {R : Room} {s : State} {args : Array Value} {own : String} {index : Nat} (htk : ∀ w ∈ kws, w.before args s = true) (hl : (Cond.methodLink own index yX4_skipBlanks).before args s = true) (hR : rmX4_skipBlanks.frames + 1 ≤ R.frames ∧ 8 + (1 + 11) + rmX4_skipBlanks.locals ≤ R.locals) : CallW R s args own RX4 index yX4_skipBlanks cX4_skipBlanks 1 none wsX4_skipBlanks rmX4_skipBlanks 0 0 0 :=
  ⟨callB_of 0 htk (k_good kc_264) rfl rfl rfl (kw_54 htk) hl (by decide +kernel) hR, (kw_262 htk), (kw_263 htk)⟩
set_option maxRecDepth 100000 in
set_option maxHeartbeats 4000000 in
theorem mX4_skipBlanks (l : Launch) (D : va_G) (cs : Nat → ClassId) (ad : Nat → Nat) (N : Nat) (σ : vS) (σ' : vS) (hf : fX4_skipBlanks N σ = some σ') : k_Met l yX4_skipBlanks wsX4_skipBlanks rmX4_skipBlanks D (tK cs) (wK cs ad) (k_A 41 ad) [.ref (ad 4)] σ none σ' := by
  refine k_of (cc := cX4_skipBlanks) (maxL := 1) (ret := none) (by decide) rfl (Nat.le_of_ble_eq_true rfl) ?_
  intro p e s m args below meth c ls H locs hcf hr hlk hK hZ hl hw
  generalize hQ0 : MQ below _ args s 0 0 _ = Q0
  obtain ⟨T0, hE0⟩ : ∃ T, T = fX4_skipBlanks N σ := ⟨_, rfl⟩
  have hR := hE0.trans hf
  have hN0 : T0 ≠ none := by rw [hR]; exact fun h => nomatch h
  have hx := hcf.1
  have hb := hcf.2.1
  have htk := hcf.2.2.2.2
  have hown := hcf.2.2.2.1
  unfold fX4_skipBlanks at hE0
  replace hl : lv_has ls 1 [(0, .ref (ad 4))] := hl
  have J38 : ∀ (σj38 : vS) (H : Heap) (locs : List Loc) (ls : Array Slot), lv_has ls 1 [] → k_H D (wK cs ad) (k_A 41 ad) σj38 s.heap H locs → T0 = jX4_skipBlanks_38 N σj38 → W p l e rmX4_skipBlanks s m args below meth c H locs 0 0 Q0 (F0 m 38 ls []) := by
    intro σj38 H locs ls hl hw hE0
    unfold jX4_skipBlanks_38 at hE0
    exact kret_v hcf hr hlk hK hw (rt1 hR hE0) hQ0 dX4_skipBlanks_38
  obtain ⟨q, hq, hE0⟩ := bd1_e hE0 hN0
  refine k_ind (P := fun zz => ∀ (H : Heap) (locs : List Loc) (ls : Array Slot), lv_has ls 1 [(0, .ref (ad 4))] → k_H D (wK cs ad) (k_A 41 ad) zz s.heap H locs → W p l e rmX4_skipBlanks s m args below meth c H locs 0 0 Q0 (F0 m 0 ls [])) ?_ N _ hq H locs ls (lv_sub hl [0] rfl) hw
  intro sX T1 hE1 hN1 hC1 hX1
  obtain ⟨σh0, hsg⟩ : ∃ z, z = sX := ⟨_, rfl⟩
  subst hsg
  replace hE1 : T1 = bX4_skipBlanks_0 N σh0 := hE1
  unfold bX4_skipBlanks_0 at hE1
  intro H locs ls hl hw
  replace hl : lv_has ls 1 [(0, .ref (ad 4))] := hl
  replace hw : k_H D (wK cs ad) (k_A 41 ad) σh0 s.heap H locs := hw
  refine lv_aload_n hx hb dX4_skipBlanks_0 rfl (lv_at hl 0 rfl) ?_
  refine kg_X4_place hcf hK (kw_92 htk) (x := (σh0.1 1)) dX4_skipBlanks_1 hw rfl ?_
  refine lv_aload_n hx hb dX4_skipBlanks_4 rfl (lv_at hl 0 rfl) ?_
  refine kg_X4_length hcf hK (kw_90 htk) (x := (σh0.1 0)) dX4_skipBlanks_5 hw rfl ?_
  refine lv_icmp_ge (tgt := 38) hx hb dX4_skipBlanks_8 (by decide) (fun c3 => ?_) (fun c3 => ?_)
  · have hE1 := ite_t hE1 c3
    have hq := hX1 _ hE1
    subst hq
    exact J38 σh0 H locs ls (lv_sub hl [] rfl) hw hE0
  · have hE1 := ite_f hE1 c3
    refine lv_aload_n hx hb dX4_skipBlanks_11 rfl (lv_at hl 0 rfl) ?_
    refine kg_X4_characters hcf hK (kw_88 htk) dX4_skipBlanks_12 hw ?_
    refine lv_aload_n hx hb dX4_skipBlanks_15 rfl (lv_at hl 0 rfl) ?_
    refine kg_X4_place hcf hK (kw_92 htk) (x := (σh0.1 1)) dX4_skipBlanks_16 hw rfl ?_
    obtain ⟨g1, hE1⟩ := gd_e hE1 hN1
    refine kald_A0 hcf hK (x := (σh0.2.1 0 (((σh0.1 1)).toNatClampNeg))) dX4_skipBlanks_19 g1 hw rfl ?_
    refine lv_bipush (v := 32) hx hb dX4_skipBlanks_20 rfl ?_
    refine lv_icmp_ne (tgt := 38) hx hb dX4_skipBlanks_22 (by decide) (fun c2 => ?_) (fun c2 => ?_)
    · have hE1 := ite_f hE1 c2
      have hq := hX1 _ hE1
      subst hq
      exact J38 σh0 H locs ls (lv_sub hl [] rfl) hw hE0
    · have hE1 := ite_t hE1 c2
      refine lv_aload_n hx hb dX4_skipBlanks_25 rfl (lv_at hl 0 rfl) ?_
      refine lv_dup hx hb dX4_skipBlanks_26 rfl ?_
      refine kg_X4_place hcf hK (kw_92 htk) (x := (σh0.1 1)) dX4_skipBlanks_27 hw rfl ?_
      refine lv_iconst (v := 1) hx hb dX4_skipBlanks_30 rfl ?_
      refine lv_iadd hx hb dX4_skipBlanks_31 ?_
      refine kp_X4_place hcf hK (kw_92 htk) dX4_skipBlanks_32 hw (fun H locs hw => ?_)
      refine lv_goto (tgt := 0) hx hb dX4_skipBlanks_35 (by decide) ?_
      exact hC1 _ hE1 H locs ls (lv_sub hl [0] rfl) hw
def fX4_here (N : Nat) (σ : vS) : Option (Int32) :=
  if ((σ.1 1) < 0) then (
    some (0 : Int32)
  ) else (
    if ((σ.1 0) ≤ (σ.1 1)) then (
      some (0 : Int32)
    ) else (
      if ((σ.1 1) < 0 ∨ 100 ≤ ((σ.1 1)).toNatClampNeg) then none else
      if ¬ ((σ.2.1 0 (((σ.1 1)).toNatClampNeg)).toUInt32.toUInt16.toUInt32.toInt32 = (σ.2.1 0 (((σ.1 1)).toNatClampNeg))) then none else
      some (σ.2.1 0 (((σ.1 1)).toNatClampNeg))
    )
  )
abbrev rmX4_here : Room := { frames := 0, cells := 0, slots := 0, locals := 0 }
abbrev wsX4_here : List Cond := .code yX4_here cX4_here 1 (some .char) :: kws
theorem kcX4_here {R : Room} {s : State} {args : Array Value} {own : String} {index : Nat} (htk : ∀ w ∈ kws, w.before args s = true) (hl : (Cond.methodLink own index yX4_here).before args s = true) (hR : rmX4_here.frames + 1 ≤ R.frames ∧ 8 + (1 + 11) + rmX4_here.locals ≤ R.locals) : CallW R s args own RX4 index yX4_here cX4_here 1 (some .char) wsX4_here rmX4_here 0 0 0 :=
  ⟨callB_of 0 htk (k_good kc_279) rfl rfl rfl (kw_54 htk) hl (by decide +kernel) hR, (kw_277 htk), (kw_278 htk)⟩
set_option maxRecDepth 100000 in
set_option maxHeartbeats 4000000 in
theorem mX4_here (l : Launch) (D : va_G) (cs : Nat → ClassId) (ad : Nat → Nat) (N : Nat) (σ : vS) (r : Int32) (hf : fX4_here N σ = some r) : k_MP l yX4_here wsX4_here rmX4_here D (tK cs) (wK cs ad) [.ref (ad 4)] σ (.int r) := by
  refine k_ofP (cc := cX4_here) (maxL := 1) (ret := (some .char)) (by decide) rfl (Nat.le_of_ble_eq_true rfl) ?_
  intro p e s m args below meth c ls hcf hr hlk hK hZ hl hw
  generalize hQ0 : MQ below _ args s 0 0 _ = Q0
  obtain ⟨T0, hE0⟩ : ∃ T, T = fX4_here N σ := ⟨_, rfl⟩
  have hR := hE0.trans hf
  have hN0 : T0 ≠ none := by rw [hR]; exact fun h => nomatch h
  have hx := hcf.1
  have hb := hcf.2.1
  have htk := hcf.2.2.2.2
  have hown := hcf.2.2.2.1
  unfold fX4_here at hE0
  replace hl : lv_has ls 1 [(0, .ref (ad 4))] := hl
  refine lv_aload_n hx hb dX4_here_0 rfl (lv_at hl 0 rfl) ?_
  refine kg_X4_place hcf hK (kw_92 htk) (x := (σ.1 1)) dX4_here_1 hw rfl ?_
  refine lv_if_lt (tgt := 30) hx hb dX4_here_4 (by decide) (fun c4 => ?_) (fun c4 => ?_)
  · have hE0 := ite_t hE0 c4
    refine lv_iconst (v := 0) hx hb dX4_here_30 rfl ?_
    exact kretP_z hcf hr hlk hK hw (rt1 hR hE0) hQ0 rfl dX4_here_31
  · have hE0 := ite_f hE0 c4
    refine lv_aload_n hx hb dX4_here_7 rfl (lv_at hl 0 rfl) ?_
    refine kg_X4_place hcf hK (kw_92 htk) (x := (σ.1 1)) dX4_here_8 hw rfl ?_
    refine lv_aload_n hx hb dX4_here_11 rfl (lv_at hl 0 rfl) ?_
    refine kg_X4_length hcf hK (kw_90 htk) (x := (σ.1 0)) dX4_here_12 hw rfl ?_
    refine lv_icmp_ge (tgt := 30) hx hb dX4_here_15 (by decide) (fun c3 => ?_) (fun c3 => ?_)
    · have hE0 := ite_t hE0 c3
      refine lv_iconst (v := 0) hx hb dX4_here_30 rfl ?_
      exact kretP_z hcf hr hlk hK hw (rt1 hR hE0) hQ0 rfl dX4_here_31
    · have hE0 := ite_f hE0 c3
      refine lv_aload_n hx hb dX4_here_18 rfl (lv_at hl 0 rfl) ?_
      refine kg_X4_characters hcf hK (kw_88 htk) dX4_here_19 hw ?_
      refine lv_aload_n hx hb dX4_here_22 rfl (lv_at hl 0 rfl) ?_
      refine kg_X4_place hcf hK (kw_92 htk) (x := (σ.1 1)) dX4_here_23 hw rfl ?_
      obtain ⟨g1, hE0⟩ := gd_e hE0 hN0
      refine kald_A0 hcf hK (x := (σ.2.1 0 (((σ.1 1)).toNatClampNeg))) dX4_here_26 g1 hw rfl ?_
      refine lv_goto (tgt := 31) hx hb dX4_here_27 (by decide) ?_
      obtain ⟨g2, hE0⟩ := gd_e hE0 hN0
      exact kretP_z hcf hr hlk hK hw (rt1 hR hE0) hQ0 (nr_c g2) dX4_here_31
def fX4_ahead (N : Nat) (σ : vS) (p1 : Int32) : Option (Int32) :=
  k_lt ((σ.1 1) + p1) fun x1 =>
  if (x1 < 0) then (
    some (0 : Int32)
  ) else (
    if ((σ.1 0) ≤ x1) then (
      some (0 : Int32)
    ) else (
      if (x1 < 0 ∨ 100 ≤ (x1).toNatClampNeg) then none else
      if ¬ ((σ.2.1 0 ((x1).toNatClampNeg)).toUInt32.toUInt16.toUInt32.toInt32 = (σ.2.1 0 ((x1).toNatClampNeg))) then none else
      some (σ.2.1 0 ((x1).toNatClampNeg))
    )
  )
abbrev rmX4_ahead : Room := { frames := 0, cells := 0, slots := 0, locals := 0 }
abbrev wsX4_ahead : List Cond := .code yX4_ahead cX4_ahead 3 (some .char) :: kws
theorem kcX4_ahead {R : Room} {s : State} {args : Array Value} {own : String} {index : Nat} (htk : ∀ w ∈ kws, w.before args s = true) (hl : (Cond.methodLink own index yX4_ahead).before args s = true) (hR : rmX4_ahead.frames + 1 ≤ R.frames ∧ 8 + (3 + 11) + rmX4_ahead.locals ≤ R.locals) : CallW R s args own RX4 index yX4_ahead cX4_ahead 3 (some .char) wsX4_ahead rmX4_ahead 0 0 1 :=
  ⟨callB_of 1 htk (k_good kc_287) rfl rfl rfl (kw_54 htk) hl (by decide +kernel) hR, (kw_285 htk), (kw_286 htk)⟩
set_option maxRecDepth 100000 in
set_option maxHeartbeats 4000000 in
theorem mX4_ahead (l : Launch) (D : va_G) (cs : Nat → ClassId) (ad : Nat → Nat) (N : Nat) (σ : vS) (p1 : Int32) (r : Int32) (hf : fX4_ahead N σ p1 = some r) : k_MP l yX4_ahead wsX4_ahead rmX4_ahead D (tK cs) (wK cs ad) [.ref (ad 4), .int p1] σ (.int r) := by
  refine k_ofP (cc := cX4_ahead) (maxL := 3) (ret := (some .char)) (by decide) rfl (Nat.le_of_ble_eq_true rfl) ?_
  intro p e s m args below meth c ls hcf hr hlk hK hZ hl hw
  generalize hQ0 : MQ below _ args s 0 0 _ = Q0
  obtain ⟨T0, hE0⟩ : ∃ T, T = fX4_ahead N σ p1 := ⟨_, rfl⟩
  have hR := hE0.trans hf
  have hN0 : T0 ≠ none := by rw [hR]; exact fun h => nomatch h
  have hx := hcf.1
  have hb := hcf.2.1
  have htk := hcf.2.2.2.2
  have hown := hcf.2.2.2.1
  unfold fX4_ahead at hE0
  replace hl : lv_has ls 3 [(0, .ref (ad 4)), (1, .int p1)] := hl
  refine lv_aload_n hx hb dX4_ahead_0 rfl (lv_at hl 0 rfl) ?_
  refine kg_X4_place hcf hK (kw_92 htk) (x := (σ.1 1)) dX4_ahead_1 hw rfl ?_
  refine lv_iload_n hx hb dX4_ahead_4 rfl (lv_at hl 1 rfl) ?_
  refine lv_iadd hx hb dX4_ahead_5 ?_
  refine lv_topi (fun x1 e_x1 => ?_)
  have hE0 := k_lts hE0 e_x1
  refine lv_istore_n hx hb dX4_ahead_6 rfl hl (Nat.le_of_ble_eq_true rfl) rfl (fun ls (hl : lv_has ls 3 [(2, .int x1), (0, .ref (ad 4)), (1, .int p1)]) => ?_)
  refine lv_iload_n hx hb dX4_ahead_7 rfl (lv_at hl 0 rfl) ?_
  refine lv_if_lt (tgt := 28) hx hb dX4_ahead_8 (by decide) (fun c5 => ?_) (fun c5 => ?_)
  · have hE0 := ite_t hE0 c5
    refine lv_iconst (v := 0) hx hb dX4_ahead_28 rfl ?_
    exact kretP_z hcf hr hlk hK hw (rt1 hR hE0) hQ0 rfl dX4_ahead_29
  · have hE0 := ite_f hE0 c5
    refine lv_iload_n hx hb dX4_ahead_11 rfl (lv_at hl 0 rfl) ?_
    refine lv_aload_n hx hb dX4_ahead_12 rfl (lv_at hl 1 rfl) ?_
    refine kg_X4_length hcf hK (kw_90 htk) (x := (σ.1 0)) dX4_ahead_13 hw rfl ?_
    refine lv_icmp_ge (tgt := 28) hx hb dX4_ahead_16 (by decide) (fun c4 => ?_) (fun c4 => ?_)
    · have hE0 := ite_t hE0 c4
      refine lv_iconst (v := 0) hx hb dX4_ahead_28 rfl ?_
      exact kretP_z hcf hr hlk hK hw (rt1 hR hE0) hQ0 rfl dX4_ahead_29
    · have hE0 := ite_f hE0 c4
      refine lv_aload_n hx hb dX4_ahead_19 rfl (lv_at hl 1 rfl) ?_
      refine kg_X4_characters hcf hK (kw_88 htk) dX4_ahead_20 hw ?_
      refine lv_iload_n hx hb dX4_ahead_23 rfl (lv_at hl 0 rfl) ?_
      obtain ⟨g2, hE0⟩ := gd_e hE0 hN0
      refine kald_A0 hcf hK (x := (σ.2.1 0 ((x1).toNatClampNeg))) dX4_ahead_24 g2 hw rfl ?_
      refine lv_goto (tgt := 29) hx hb dX4_ahead_25 (by decide) ?_
      obtain ⟨g3, hE0⟩ := gd_e hE0 hN0
      exact kretP_z hcf hr hlk hK hw (rt1 hR hE0) hQ0 (nr_c g3) dX4_ahead_29
def fX4_clear (N : Nat) (σ : vS) : Option (vS) :=
  some (p_i (p_i σ 0 (0 : Int32)) 1 (0 : Int32))
abbrev rmX4_clear : Room := { frames := 0, cells := 0, slots := 0, locals := 0 }
abbrev wsX4_clear : List Cond := .code yX4_clear cX4_clear 1 none :: kws
theorem kcX4_clear {R : Room} {s : State} {args : Array Value} {own : String} {index : Nat} (htk : ∀ w ∈ kws, w.before args s = true) (hl : (Cond.methodLink own index yX4_clear).before args s = true) (hR : rmX4_clear.frames + 1 ≤ R.frames ∧ 8 + (1 + 11) + rmX4_clear.locals ≤ R.locals) : CallW R s args own RX4 index yX4_clear cX4_clear 1 none wsX4_clear rmX4_clear 0 0 0 :=
  ⟨callB_of 0 htk (k_good kc_446) rfl rfl rfl (kw_54 htk) hl (by decide +kernel) hR, (kw_444 htk), (kw_445 htk)⟩
set_option maxRecDepth 100000 in
set_option maxHeartbeats 4000000 in
theorem mX4_clear (l : Launch) (D : va_G) (cs : Nat → ClassId) (ad : Nat → Nat) (N : Nat) (σ : vS) (σ' : vS) (hf : fX4_clear N σ = some σ') : k_Met l yX4_clear wsX4_clear rmX4_clear D (tK cs) (wK cs ad) (k_A 41 ad) [.ref (ad 4)] σ none σ' := by
  refine k_of (cc := cX4_clear) (maxL := 1) (ret := none) (by decide) rfl (Nat.le_of_ble_eq_true rfl) ?_
  intro p e s m args below meth c ls H locs hcf hr hlk hK hZ hl hw
  generalize hQ0 : MQ below _ args s 0 0 _ = Q0
  obtain ⟨T0, hE0⟩ : ∃ T, T = fX4_clear N σ := ⟨_, rfl⟩
  have hR := hE0.trans hf
  have hN0 : T0 ≠ none := by rw [hR]; exact fun h => nomatch h
  have hx := hcf.1
  have hb := hcf.2.1
  have htk := hcf.2.2.2.2
  have hown := hcf.2.2.2.1
  unfold fX4_clear at hE0
  replace hl : lv_has ls 1 [(0, .ref (ad 4))] := hl
  refine lv_aload_n hx hb dX4_clear_0 rfl (lv_at hl 0 rfl) ?_
  refine lv_iconst (v := 0) hx hb dX4_clear_1 rfl ?_
  refine kp_X4_length hcf hK (kw_90 htk) dX4_clear_2 hw (fun H locs hw => ?_)
  refine lv_aload_n hx hb dX4_clear_5 rfl (lv_at hl 0 rfl) ?_
  refine lv_iconst (v := 0) hx hb dX4_clear_6 rfl ?_
  refine kp_X4_place hcf hK (kw_92 htk) dX4_clear_7 hw (fun H locs hw => ?_)
  exact kret_v hcf hr hlk hK hw (rt1 hR hE0) hQ0 dX4_clear_10
