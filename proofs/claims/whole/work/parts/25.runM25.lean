def fX6_put (N : Nat) (σ : vS) (p1 : Int32) : Option (vS) :=
  if ((σ.1 14) < 0 ∨ 240 ≤ ((σ.1 14)).toNatClampNeg) then none else
  some (p_i (p_a σ 10 (((σ.1 14)).toNatClampNeg) (vp_nar .char (((p1).toUInt32 % 65536).toInt32))) 14 ((σ.1 14) + (1 : Int32)))
abbrev rmX6_put : Room := { frames := 0, cells := 0, slots := 0, locals := 0 }
abbrev wsX6_put : List Cond := .code yX6_put cX6_put 2 none :: kws
theorem kcX6_put {R : Room} {s : State} {args : Array Value} {own : String} {index : Nat} (htk : ∀ w ∈ kws, w.before args s = true) (hl : (Cond.methodLink own index yX6_put).before args s = true) (hR : rmX6_put.frames + 1 ≤ R.frames ∧ 8 + (2 + 11) + rmX6_put.locals ≤ R.locals) : CallW R s args own RX6 index yX6_put cX6_put 2 none wsX6_put rmX6_put 0 0 1 :=
  ⟨callB_of 1 htk (k_good kc_894) rfl rfl rfl (kw_58 htk) hl (by decide +kernel) hR, (kw_893 htk), (kw_47 htk)⟩
set_option maxRecDepth 100000 in
set_option maxHeartbeats 4000000 in
theorem mX6_put (l : Launch) (D : va_G) (cs : Nat → ClassId) (ad : Nat → Nat) (N : Nat) (σ : vS) (p1 : Int32) (σ' : vS) (hf : fX6_put N σ p1 = some σ') : k_Met l yX6_put wsX6_put rmX6_put D (tM cs) (wM cs ad) (k_A 17 ad) [.ref (ad 0), .int p1] σ none σ' := by
  refine k_of (cc := cX6_put) (maxL := 2) (ret := none) (by decide) rfl (Nat.le_of_ble_eq_true rfl) ?_
  intro p e s m args below meth c ls H locs hcf hr hlk hK hZ hl hw
  generalize hQ0 : MQ below _ args s 0 0 _ = Q0
  obtain ⟨T0, hE0⟩ : ∃ T, T = fX6_put N σ p1 := ⟨_, rfl⟩
  have hR := hE0.trans hf
  have hN0 : T0 ≠ none := by rw [hR]; exact fun h => nomatch h
  have hx := hcf.1
  have hb := hcf.2.1
  have htk := hcf.2.2.2.2
  have hown := hcf.2.2.2.1
  unfold fX6_put at hE0
  replace hl : lv_has ls 2 [(0, .ref (ad 0)), (1, .int p1)] := hl
  refine lv_aload_n hx hb dX6_put_0 rfl (lv_at hl 0 rfl) ?_
  refine kg_X6_line hcf hK (kw_709 htk) dX6_put_1 hw ?_
  refine lv_aload_n hx hb dX6_put_4 rfl (lv_at hl 0 rfl) ?_
  refine kg_X6_lineSize hcf hK (kw_708 htk) (x := (σ.1 14)) dX6_put_5 hw rfl ?_
  refine lv_iload_n hx hb dX6_put_8 rfl (lv_at hl 1 rfl) ?_
  refine lv_i2c hx hb dX6_put_9 rfl ?_
  obtain ⟨g1, hE0⟩ := gd_e hE0 hN0
  refine mast_A10 hcf hK dX6_put_10 g1 hw (fun H locs hw => ?_)
  refine lv_aload_n hx hb dX6_put_11 rfl (lv_at hl 0 rfl) ?_
  refine lv_dup hx hb dX6_put_12 rfl ?_
  refine kg_X6_lineSize hcf hK (kw_708 htk) (x := (σ.1 14)) dX6_put_13 hw rfl ?_
  refine lv_iconst (v := 1) hx hb dX6_put_16 rfl ?_
  refine lv_iadd hx hb dX6_put_17 ?_
  refine kp_X6_lineSize hcf hK (kw_708 htk) dX6_put_18 hw (fun H locs hw => ?_)
  exact kret_v hcf hr hlk hK hw (rt1 hR hE0) hQ0 dX6_put_21
def jX6_putNumber_59 (N : Nat) (σj59 : vS) : Option (vS) :=
  some σj59
def bX6_putNumber_24 (N : Nat) (v1j21 : Int64) (v5h24 : Int64) (σh24 : vS) : Option ((Int64 × vS) ⊕ (vS)) :=
  if ((lg_cmp v5h24 (0 : Int64)) ≤ 0) then (
    some (.inr σh24)
  ) else (
    if (v5h24 = 0) then none else
    if ((10 : Int64) = 0) then none else
    bd1 (fX6_put N σh24 ((((48 : Int64) + ((v1j21 / v5h24) - (v1j21 / v5h24) / (10 : Int64) * (10 : Int64)))).toInt32)) fun σ3 =>
    if ((10 : Int64) = 0) then none else
    k_lt (v5h24 / (10 : Int64)) fun x5 =>
    some (.inl (x5, σ3))
  )
def jX6_putNumber_21 (N : Nat) (σ : vS) (v1j21 : Int64) (v3j21 : Int64) : Option (vS) :=
  bd1 (k_itr (fun zz => bX6_putNumber_24 N v1j21 zz.1 zz.2) N (v3j21, σ)) fun q => jX6_putNumber_59 N q
def bX6_putNumber_2 (N : Nat) (σ : vS) (p1 : Int64) (v3h2 : Int64) : Option ((Int64) ⊕ (Int64)) :=
  if (v3h2 = 0) then none else
  if ((lg_cmp (p1 / v3h2) (9 : Int64)) ≤ 0) then (
    some (.inr v3h2)
  ) else (
    k_lt ((10 : Int64) * v3h2) fun x8 =>
    some (.inl x8)
  )
def fX6_putNumber (N : Nat) (σ : vS) (p1 : Int64) : Option (vS) :=
  bd1 (k_itr (fun zz => bX6_putNumber_2 N σ p1 zz) N (1 : Int64)) fun q => jX6_putNumber_21 N σ p1 q
abbrev rmX6_putNumber : Room := { frames := 1, cells := 0, slots := 0, locals := 21 }
abbrev wsX6_putNumber : List Cond := .code yX6_putNumber cX6_putNumber 7 none :: kws
theorem kcX6_putNumber {R : Room} {s : State} {args : Array Value} {own : String} {index : Nat} (htk : ∀ w ∈ kws, w.before args s = true) (hl : (Cond.methodLink own index yX6_putNumber).before args s = true) (hR : rmX6_putNumber.frames + 1 ≤ R.frames ∧ 8 + (7 + 11) + rmX6_putNumber.locals ≤ R.locals) : CallW R s args own RX6 index yX6_putNumber cX6_putNumber 7 none wsX6_putNumber rmX6_putNumber 0 0 1 :=
  ⟨callB_of 1 htk (k_good kc_898) rfl rfl rfl (kw_58 htk) hl (by decide +kernel) hR, (kw_897 htk), (kw_48 htk)⟩
set_option maxRecDepth 100000 in
set_option maxHeartbeats 4000000 in
theorem mX6_putNumber (l : Launch) (D : va_G) (cs : Nat → ClassId) (ad : Nat → Nat) (N : Nat) (σ : vS) (p1 : Int64) (σ' : vS) (hf : fX6_putNumber N σ p1 = some σ') : k_Met l yX6_putNumber wsX6_putNumber rmX6_putNumber D (tM cs) (wM cs ad) (k_A 17 ad) [.ref (ad 0), .long p1] σ none σ' := by
  refine k_of (cc := cX6_putNumber) (maxL := 7) (ret := none) (by decide) rfl (Nat.le_of_ble_eq_true rfl) ?_
  intro p e s m args below meth c ls H locs hcf hr hlk hK hZ hl hw
  generalize hQ0 : MQ below _ args s 0 0 _ = Q0
  obtain ⟨T0, hE0⟩ : ∃ T, T = fX6_putNumber N σ p1 := ⟨_, rfl⟩
  have hR := hE0.trans hf
  have hN0 : T0 ≠ none := by rw [hR]; exact fun h => nomatch h
  have hx := hcf.1
  have hb := hcf.2.1
  have htk := hcf.2.2.2.2
  have hown := hcf.2.2.2.1
  unfold fX6_putNumber at hE0
  replace hl : lv_has ls 7 [(0, .ref (ad 0)), (1, .long p1)] := hl
  have J59 : ∀ (σj59 : vS) (H : Heap) (locs : List Loc) (ls : Array Slot), lv_has ls 7 [] → k_H D (wM cs ad) (k_A 17 ad) σj59 s.heap H locs → T0 = jX6_putNumber_59 N σj59 → W p l e rmX6_putNumber s m args below meth c H locs 0 0 Q0 (F0 m 59 ls []) := by
    intro σj59 H locs ls hl hw hE0
    unfold jX6_putNumber_59 at hE0
    exact kret_v hcf hr hlk hK hw (rt1 hR hE0) hQ0 dX6_putNumber_59
  have J21 : ∀ (v1j21 : Int64) (v3j21 : Int64) (ls : Array Slot), lv_has ls 7 [(0, .ref (ad 0)), (1, .long v1j21), (3, .long v3j21)] → T0 = jX6_putNumber_21 N σ v1j21 v3j21 → W p l e rmX6_putNumber s m args below meth c H locs 0 0 Q0 (F0 m 21 ls []) := by
    intro v1j21 v3j21 ls hl hE0
    unfold jX6_putNumber_21 at hE0
    refine lv_lload_n hx hb dX6_putNumber_21 rfl (lv_at hl 2 rfl) ?_
    refine lv_lstore hx hb dX6_putNumber_22 hl (Nat.le_of_ble_eq_true rfl) rfl (fun ls (hl : lv_has ls 7 [(5, .long v3j21), (0, .ref (ad 0)), (1, .long v1j21), (3, .long v3j21)]) => ?_)
    obtain ⟨q, hq, hE0⟩ := bd1_e hE0 hN0
    refine k_ind (P := fun zz => ∀ (H : Heap) (locs : List Loc) (ls : Array Slot), lv_has ls 7 [(0, .ref (ad 0)), (1, .long v1j21), (5, .long zz.1)] → k_H D (wM cs ad) (k_A 17 ad) zz.2 s.heap H locs → W p l e rmX6_putNumber s m args below meth c H locs 0 0 Q0 (F0 m 24 ls [])) ?_ N _ hq H locs ls (lv_sub hl [1, 2, 0] rfl) hw
    intro sX T1 hE1 hN1 hC1 hX1
    obtain ⟨v5h24, σh24⟩ := sX
    replace hE1 : T1 = bX6_putNumber_24 N v1j21 v5h24 σh24 := hE1
    unfold bX6_putNumber_24 at hE1
    intro H locs ls hl hw
    replace hl : lv_has ls 7 [(0, .ref (ad 0)), (1, .long v1j21), (5, .long v5h24)] := hl
    replace hw : k_H D (wM cs ad) (k_A 17 ad) σh24 s.heap H locs := hw
    refine lv_lload hx hb dX6_putNumber_24 (lv_at hl 2 rfl) ?_
    refine lv_lconst (v := 0) hx hb dX6_putNumber_26 rfl ?_
    refine W.lcmp hx hb dX6_putNumber_27 ?_
    refine lv_if_le (tgt := 59) hx hb dX6_putNumber_28 (by decide) (fun c6 => ?_) (fun c6 => ?_)
    · have hE1 := ite_t hE1 c6
      have hq := hX1 _ hE1
      subst hq
      exact J59 σh24 H locs ls (lv_sub hl [] rfl) hw hE0
    · have hE1 := ite_f hE1 c6
      refine lv_aload_n hx hb dX6_putNumber_31 rfl (lv_at hl 0 rfl) ?_
      refine lv_ldc2 hx hb hown (kw_901 htk) dX6_putNumber_32 ?_
      refine lv_lload_n hx hb dX6_putNumber_35 rfl (lv_at hl 1 rfl) ?_
      refine lv_lload hx hb dX6_putNumber_36 (lv_at hl 2 rfl) ?_
      obtain ⟨g1, hE1⟩ := gd_e hE1 hN1
      refine lv_ldiv hx hb dX6_putNumber_38 g1 ?_
      refine lv_ldc2 hx hb hown (kw_900 htk) dX6_putNumber_39 ?_
      obtain ⟨g2, hE1⟩ := gd_e hE1 hN1
      refine lv_lrem hx hb dX6_putNumber_42 g2 ?_
      refine lv_ladd hx hb dX6_putNumber_43 ?_
      refine lv_l2i hx hb dX6_putNumber_44 rfl ?_
      obtain ⟨σ3, k3, hE1⟩ := bd1_e hE1 hN1
      refine k_call (va_runV (As := [.int ((((48 : Int64) + ((v1j21 / v5h24) - (v1j21 / v5h24) / (10 : Int64) * (10 : Int64)))).toInt32)]) (rest := []) hcf (mX6_put l D cs ad N σh24 ((((48 : Int64) + ((v1j21 / v5h24) - (v1j21 / v5h24) / (10 : Int64) * (10 : Int64)))).toInt32) σ3 k3) (kcX6_put htk (kw_891 htk) ⟨Nat.le_of_ble_eq_true rfl, Nat.le_of_ble_eq_true rfl⟩) ⟨k_blind, va_recv (ci := 6) (q0 := 0) hK hw.1 rfl rfl, k_pre hK hZ hw⟩ rfl rfl hl.1 rfl (lv_room (Nat.le_of_ble_eq_true rfl)) dX6_putNumber_45 ⟨Nat.zero_le _, Nat.zero_le _⟩) hw (fun H locs hw => ?_)
      refine lv_lload hx hb dX6_putNumber_48 (lv_at hl 2 rfl) ?_
      refine lv_ldc2 hx hb hown (kw_900 htk) dX6_putNumber_50 ?_
      obtain ⟨g4, hE1⟩ := gd_e hE1 hN1
      refine lv_ldiv hx hb dX6_putNumber_53 g4 ?_
      refine lv_topl (fun x5 e_x5 => ?_)
      have hE1 := k_lts hE1 e_x5
      refine lv_lstore hx hb dX6_putNumber_54 hl (Nat.le_of_ble_eq_true rfl) rfl (fun ls (hl : lv_has ls 7 [(5, .long x5), (0, .ref (ad 0)), (1, .long v1j21)]) => ?_)
      refine lv_goto (tgt := 24) hx hb dX6_putNumber_56 (by decide) ?_
      exact hC1 _ hE1 H locs ls (lv_sub hl [1, 2, 0] rfl) hw
  refine lv_lconst (v := 1) hx hb dX6_putNumber_0 rfl ?_
  refine lv_lstore_n hx hb dX6_putNumber_1 rfl hl (Nat.le_of_ble_eq_true rfl) rfl (fun ls (hl : lv_has ls 7 [(3, .long (1 : Int64)), (0, .ref (ad 0)), (1, .long p1)]) => ?_)
  obtain ⟨q, hq, hE0⟩ := bd1_e hE0 hN0
  refine k_ind (P := fun zz => ∀ (ls : Array Slot), lv_has ls 7 [(0, .ref (ad 0)), (1, .long p1), (3, .long zz)] → W p l e rmX6_putNumber s m args below meth c H locs 0 0 Q0 (F0 m 2 ls [])) ?_ N _ hq ls (lv_sub hl [1, 2, 0] rfl)
  intro sX T1 hE1 hN1 hC1 hX1
  obtain ⟨v3h2, hsg⟩ : ∃ z, z = sX := ⟨_, rfl⟩
  subst hsg
  replace hE1 : T1 = bX6_putNumber_2 N σ p1 v3h2 := hE1
  unfold bX6_putNumber_2 at hE1
  intro ls hl
  replace hl : lv_has ls 7 [(0, .ref (ad 0)), (1, .long p1), (3, .long v3h2)] := hl
  refine lv_lload_n hx hb dX6_putNumber_2 rfl (lv_at hl 1 rfl) ?_
  refine lv_lload_n hx hb dX6_putNumber_3 rfl (lv_at hl 2 rfl) ?_
  obtain ⟨g7, hE1⟩ := gd_e hE1 hN1
  refine lv_ldiv hx hb dX6_putNumber_4 g7 ?_
  refine lv_ldc2 hx hb hown (kw_899 htk) dX6_putNumber_5 ?_
  refine W.lcmp hx hb dX6_putNumber_8 ?_
  refine lv_if_le (tgt := 21) hx hb dX6_putNumber_9 (by decide) (fun c9 => ?_) (fun c9 => ?_)
  · have hE1 := ite_t hE1 c9
    have hq := hX1 _ hE1
    subst hq
    exact J21 p1 v3h2 ls (lv_sub hl [0, 1, 2] rfl) hE0
  · have hE1 := ite_f hE1 c9
    refine lv_ldc2 hx hb hown (kw_900 htk) dX6_putNumber_12 ?_
    refine lv_lload_n hx hb dX6_putNumber_15 rfl (lv_at hl 2 rfl) ?_
    refine lv_lmul hx hb dX6_putNumber_16 ?_
    refine lv_topl (fun x8 e_x8 => ?_)
    have hE1 := k_lts hE1 e_x8
    refine lv_lstore_n hx hb dX6_putNumber_17 rfl hl (Nat.le_of_ble_eq_true rfl) rfl (fun ls (hl : lv_has ls 7 [(3, .long x8), (0, .ref (ad 0)), (1, .long p1)]) => ?_)
    refine lv_goto (tgt := 2) hx hb dX6_putNumber_18 (by decide) ?_
    exact hC1 _ hE1 ls (lv_sub hl [1, 2, 0] rfl)
def jX6_write_132 (N : Nat) (σj132 : vS) : Option (vS) :=
  some σj132
def jX6_write_126_7 (N : Nat) (σj126 : vS) (v1j126 : Int32) : Option ((Int32 × vS) ⊕ (vS)) :=
  k_lt (v1j126 + (1 : Int32)) fun x5 =>
  some (.inl (x5, σj126))
def bX6_write_100 (N : Nat) (v1j93 : Int32) (v2h100 : Int32) (σh100 : vS) : Option ((Int32 × vS) ⊕ (vS)) :=
  if (v1j93 < 0 ∨ 6 ≤ (v1j93).toNatClampNeg) then none else
  if ((σh100.2.1 3 ((v1j93).toNatClampNeg)) ≤ v2h100) then (
    some (.inr σh100)
  ) else (
    if (v2h100 < 0 ∨ 100 ≤ (v2h100).toNatClampNeg) then none else
    bd1 (fX6_put N σh100 (σh100.2.1 1 ((v2h100).toNatClampNeg))) fun σ8 =>
    k_lt (v2h100 + (1 : Int32)) fun x9 =>
    some (.inl (x9, σ8))
  )
def jX6_write_93_7 (N : Nat) (σj93 : vS) (v1j93 : Int32) : Option ((Int32 × vS) ⊕ (vS)) :=
  if (v1j93 < 0 ∨ 6 ≤ (v1j93).toNatClampNeg) then none else
  k_lt (σj93.2.1 2 ((v1j93).toNatClampNeg)) fun x4 =>
  bd1 (k_itr (fun zz => bX6_write_100 N v1j93 zz.1 zz.2) N (x4, σj93)) fun q => jX6_write_126_7 N q v1j93
def jX6_write_66_7 (N : Nat) (σj66 : vS) (v1j66 : Int32) : Option ((Int32 × vS) ⊕ (vS)) :=
  if (v1j66 < 0 ∨ 36 ≤ (v1j66).toNatClampNeg) then none else
  if ((lg_cmp (σj66.2.2.2 3 ((v1j66).toNatClampNeg)) (1 : Int64)) = 0) then (
    jX6_write_93_7 N σj66 v1j66
  ) else (
    if (v1j66 < 0 ∨ 36 ≤ (v1j66).toNatClampNeg) then none else
    bd1 (fX6_putNumber N σj66 (σj66.2.2.2 3 ((v1j66).toNatClampNeg))) fun σ12 =>
    bd1 (fX6_put N σ12 (32 : Int32)) fun σ13 =>
    jX6_write_93_7 N σ13 v1j66
  )
def jX6_write_60_7 (N : Nat) (σj60 : vS) (v1j60 : Int32) : Option ((Int32 × vS) ⊕ (vS)) :=
  bd1 (fX6_put N σj60 (32 : Int32)) fun σ19 =>
  jX6_write_66_7 N σ19 v1j60
def bX6_write_7 (N : Nat) (v1h7 : Int32) (σh7 : vS) : Option ((Int32 × vS) ⊕ (vS)) :=
  if ((σh7.1 8) ≤ v1h7) then (
    some (.inr σh7)
  ) else (
    bd1 (fX6_isBalanced N σh7) fun r1 =>
    if (r1 = 0) then (
      some (.inr σh7)
    ) else (
      if (v1h7 ≤ 0) then (
        jX6_write_66_7 N σh7 v1h7
      ) else (
        bd1 (fX6_put N σh7 (32 : Int32)) fun σ15 =>
        if (v1h7 < 0 ∨ 6 ≤ (v1h7).toNatClampNeg) then none else
        if ((v1h7 - (1 : Int32)) < 0 ∨ 6 ≤ ((v1h7 - (1 : Int32))).toNatClampNeg) then none else
        if ((σ15.2.1 4 ((v1h7).toNatClampNeg)) = (σ15.2.1 4 (((v1h7 - (1 : Int32))).toNatClampNeg))) then (
          bd1 (fX6_put N σ15 (43 : Int32)) fun σ18 =>
          jX6_write_60_7 N σ18 v1h7
        ) else (
          bd1 (fX6_put N σ15 (61 : Int32)) fun σ20 =>
          jX6_write_60_7 N σ20 v1h7
        )
      )
    )
  )
def fX6_write (N : Nat) (σ : vS) : Option (vS) :=
  bd1 (k_itr (fun zz => bX6_write_7 N zz.1 zz.2) N ((0 : Int32), (p_i σ 14 (0 : Int32)))) fun q => jX6_write_132 N q
abbrev rmX6_write : Room := { frames := 2, cells := 0, slots := 0, locals := 47 }
abbrev wsX6_write : List Cond := .code yX6_write cX6_write 3 none :: kws
theorem kcX6_write {R : Room} {s : State} {args : Array Value} {own : String} {index : Nat} (htk : ∀ w ∈ kws, w.before args s = true) (hl : (Cond.methodLink own index yX6_write).before args s = true) (hR : rmX6_write.frames + 1 ≤ R.frames ∧ 8 + (3 + 11) + rmX6_write.locals ≤ R.locals) : CallW R s args own RX6 index yX6_write cX6_write 3 none wsX6_write rmX6_write 0 0 0 :=
  ⟨callB_of 0 htk (k_good kc_886) rfl rfl rfl (kw_58 htk) hl (by decide +kernel) hR, (kw_885 htk), (kw_45 htk)⟩
set_option maxRecDepth 100000 in
set_option maxHeartbeats 4000000 in
theorem mX6_write (l : Launch) (D : va_G) (cs : Nat → ClassId) (ad : Nat → Nat) (N : Nat) (σ : vS) (σ' : vS) (hf : fX6_write N σ = some σ') : k_Met l yX6_write wsX6_write rmX6_write D (tM cs) (wM cs ad) (k_A 17 ad) [.ref (ad 0)] σ none σ' := by
  refine k_of (cc := cX6_write) (maxL := 3) (ret := none) (by decide) rfl (Nat.le_of_ble_eq_true rfl) ?_
  intro p e s m args below meth c ls H locs hcf hr hlk hK hZ hl hw
  generalize hQ0 : MQ below _ args s 0 0 _ = Q0
  obtain ⟨T0, hE0⟩ : ∃ T, T = fX6_write N σ := ⟨_, rfl⟩
  have hR := hE0.trans hf
  have hN0 : T0 ≠ none := by rw [hR]; exact fun h => nomatch h
  have hx := hcf.1
  have hb := hcf.2.1
  have htk := hcf.2.2.2.2
  have hown := hcf.2.2.2.1
  unfold fX6_write at hE0
  replace hl : lv_has ls 3 [(0, .ref (ad 0))] := hl
  have J132 : ∀ (σj132 : vS) (H : Heap) (locs : List Loc) (ls : Array Slot), lv_has ls 3 [] → k_H D (wM cs ad) (k_A 17 ad) σj132 s.heap H locs → T0 = jX6_write_132 N σj132 → W p l e rmX6_write s m args below meth c H locs 0 0 Q0 (F0 m 132 ls []) := by
    intro σj132 H locs ls hl hw hE0
    unfold jX6_write_132 at hE0
    exact kret_v hcf hr hlk hK hw (rt1 hR hE0) hQ0 dX6_write_132
  refine lv_aload_n hx hb dX6_write_0 rfl (lv_at hl 0 rfl) ?_
  refine lv_iconst (v := 0) hx hb dX6_write_1 rfl ?_
  refine kp_X6_lineSize hcf hK (kw_708 htk) dX6_write_2 hw (fun H locs hw => ?_)
  refine lv_iconst (v := 0) hx hb dX6_write_5 rfl ?_
  refine lv_istore_n hx hb dX6_write_6 rfl hl (Nat.le_of_ble_eq_true rfl) rfl (fun ls (hl : lv_has ls 3 [(1, .int (0 : Int32)), (0, .ref (ad 0))]) => ?_)
  obtain ⟨q, hq, hE0⟩ := bd1_e hE0 hN0
  refine k_ind (P := fun zz => ∀ (H : Heap) (locs : List Loc) (ls : Array Slot), lv_has ls 3 [(0, .ref (ad 0)), (1, .int zz.1)] → k_H D (wM cs ad) (k_A 17 ad) zz.2 s.heap H locs → W p l e rmX6_write s m args below meth c H locs 0 0 Q0 (F0 m 7 ls [])) ?_ N _ hq H locs ls (lv_sub hl [1, 0] rfl) hw
  intro sX T1 hE1 hN1 hC1 hX1
  obtain ⟨v1h7, σh7⟩ := sX
  replace hE1 : T1 = bX6_write_7 N v1h7 σh7 := hE1
  unfold bX6_write_7 at hE1
  have J126_7 : ∀ (v1j126 : Int32) (σj126 : vS) (H : Heap) (locs : List Loc) (ls : Array Slot), lv_has ls 3 [(0, .ref (ad 0)), (1, .int v1j126)] → k_H D (wM cs ad) (k_A 17 ad) σj126 s.heap H locs → T1 = jX6_write_126_7 N σj126 v1j126 → W p l e rmX6_write s m args below meth c H locs 0 0 Q0 (F0 m 126 ls []) := by
    intro v1j126 σj126 H locs ls hl hw hE1
    unfold jX6_write_126_7 at hE1
    obtain ⟨x5, e_x5, hE1⟩ := k_lte hE1
    refine lv_iinc (k := 1) (v := x5) hx hb dX6_write_126 hl rfl (Eq.symm e_x5) (Nat.le_of_ble_eq_true rfl) rfl (fun ls (hl : lv_has ls 3 [(1, .int x5), (0, .ref (ad 0))]) => ?_)
    refine lv_goto (tgt := 7) hx hb dX6_write_129 (by decide) ?_
    exact hC1 _ hE1 H locs ls (lv_sub hl [1, 0] rfl) hw
  have J93_7 : ∀ (v1j93 : Int32) (σj93 : vS) (H : Heap) (locs : List Loc) (ls : Array Slot), lv_has ls 3 [(0, .ref (ad 0)), (1, .int v1j93)] → k_H D (wM cs ad) (k_A 17 ad) σj93 s.heap H locs → T1 = jX6_write_93_7 N σj93 v1j93 → W p l e rmX6_write s m args below meth c H locs 0 0 Q0 (F0 m 93 ls []) := by
    intro v1j93 σj93 H locs ls hl hw hE1
    unfold jX6_write_93_7 at hE1
    refine lv_aload_n hx hb dX6_write_93 rfl (lv_at hl 0 rfl) ?_
    refine kg_X6_begins hcf hK (kw_690 htk) dX6_write_94 hw ?_
    refine lv_iload_n hx hb dX6_write_97 rfl (lv_at hl 1 rfl) ?_
    obtain ⟨g3, hE1⟩ := gd_e hE1 hN1
    refine mald_A2 hcf hK (x := (σj93.2.1 2 ((v1j93).toNatClampNeg))) dX6_write_98 g3 hw rfl ?_
    refine lv_topi (fun x4 e_x4 => ?_)
    have hE1 := k_lts hE1 e_x4
    refine lv_istore_n hx hb dX6_write_99 rfl hl (Nat.le_of_ble_eq_true rfl) rfl (fun ls (hl : lv_has ls 3 [(2, .int x4), (0, .ref (ad 0)), (1, .int v1j93)]) => ?_)
    obtain ⟨q, hq, hE1⟩ := bd1_e hE1 hN1
    refine k_ind (P := fun zz => ∀ (H : Heap) (locs : List Loc) (ls : Array Slot), lv_has ls 3 [(0, .ref (ad 0)), (1, .int v1j93), (2, .int zz.1)] → k_H D (wM cs ad) (k_A 17 ad) zz.2 s.heap H locs → W p l e rmX6_write s m args below meth c H locs 0 0 Q0 (F0 m 100 ls [])) ?_ N _ hq H locs ls (lv_sub hl [1, 2, 0] rfl) hw
    intro sX T2 hE2 hN2 hC2 hX2
    obtain ⟨v2h100, σh100⟩ := sX
    replace hE2 : T2 = bX6_write_100 N v1j93 v2h100 σh100 := hE2
    unfold bX6_write_100 at hE2
    intro H locs ls hl hw
    replace hl : lv_has ls 3 [(0, .ref (ad 0)), (1, .int v1j93), (2, .int v2h100)] := hl
    replace hw : k_H D (wM cs ad) (k_A 17 ad) σh100 s.heap H locs := hw
    refine lv_iload_n hx hb dX6_write_100 rfl (lv_at hl 2 rfl) ?_
    refine lv_aload_n hx hb dX6_write_101 rfl (lv_at hl 0 rfl) ?_
    refine kg_X6_ends hcf hK (kw_691 htk) dX6_write_102 hw ?_
    refine lv_iload_n hx hb dX6_write_105 rfl (lv_at hl 1 rfl) ?_
    obtain ⟨g6, hE2⟩ := gd_e hE2 hN2
    refine mald_A3 hcf hK (x := (σh100.2.1 3 ((v1j93).toNatClampNeg))) dX6_write_106 g6 hw rfl ?_
    refine lv_icmp_ge (tgt := 126) hx hb dX6_write_107 (by decide) (fun c10 => ?_) (fun c10 => ?_)
    · have hE2 := ite_t hE2 c10
      have hq := hX2 _ hE2
      subst hq
      exact J126_7 v1j93 σh100 H locs ls (lv_sub hl [0, 1] rfl) hw hE1
    · have hE2 := ite_f hE2 c10
      refine lv_aload_n hx hb dX6_write_110 rfl (lv_at hl 0 rfl) ?_
      refine lv_aload_n hx hb dX6_write_111 rfl (lv_at hl 0 rfl) ?_
      refine kg_X6_text hcf hK (kw_683 htk) dX6_write_112 hw ?_
      refine lv_iload_n hx hb dX6_write_115 rfl (lv_at hl 2 rfl) ?_
      obtain ⟨g7, hE2⟩ := gd_e hE2 hN2
      refine mald_A1 hcf hK (x := (σh100.2.1 1 ((v2h100).toNatClampNeg))) dX6_write_116 g7 hw rfl ?_
      obtain ⟨σ8, k8, hE2⟩ := bd1_e hE2 hN2
      refine k_call (va_runV (As := [.int (σh100.2.1 1 ((v2h100).toNatClampNeg))]) (rest := []) hcf (mX6_put l D cs ad N σh100 (σh100.2.1 1 ((v2h100).toNatClampNeg)) σ8 k8) (kcX6_put htk (kw_891 htk) ⟨Nat.le_of_ble_eq_true rfl, Nat.le_of_ble_eq_true rfl⟩) ⟨k_blind, va_recv (ci := 6) (q0 := 0) hK hw.1 rfl rfl, k_pre hK hZ hw⟩ rfl rfl hl.1 rfl (lv_room (Nat.le_of_ble_eq_true rfl)) dX6_write_117 ⟨Nat.zero_le _, Nat.zero_le _⟩) hw (fun H locs hw => ?_)
      obtain ⟨x9, e_x9, hE2⟩ := k_lte hE2
      refine lv_iinc (k := 2) (v := x9) hx hb dX6_write_120 hl rfl (Eq.symm e_x9) (Nat.le_of_ble_eq_true rfl) rfl (fun ls (hl : lv_has ls 3 [(2, .int x9), (0, .ref (ad 0)), (1, .int v1j93)]) => ?_)
      refine lv_goto (tgt := 100) hx hb dX6_write_123 (by decide) ?_
      exact hC2 _ hE2 H locs ls (lv_sub hl [1, 2, 0] rfl) hw
  have J66_7 : ∀ (v1j66 : Int32) (σj66 : vS) (H : Heap) (locs : List Loc) (ls : Array Slot), lv_has ls 3 [(0, .ref (ad 0)), (1, .int v1j66)] → k_H D (wM cs ad) (k_A 17 ad) σj66 s.heap H locs → T1 = jX6_write_66_7 N σj66 v1j66 → W p l e rmX6_write s m args below meth c H locs 0 0 Q0 (F0 m 66 ls []) := by
    intro v1j66 σj66 H locs ls hl hw hE1
    unfold jX6_write_66_7 at hE1
    refine lv_aload_n hx hb dX6_write_66 rfl (lv_at hl 0 rfl) ?_
    refine kg_X6_bases hcf hK (kw_705 htk) dX6_write_67 hw ?_
    refine lv_iload_n hx hb dX6_write_70 rfl (lv_at hl 1 rfl) ?_
    obtain ⟨g2, hE1⟩ := gd_e hE1 hN1
    refine mald_B3 hcf hK (x := (σj66.2.2.2 3 ((v1j66).toNatClampNeg))) dX6_write_71 g2 hw rfl ?_
    refine lv_lconst (v := 1) hx hb dX6_write_72 rfl ?_
    refine W.lcmp hx hb dX6_write_73 ?_
    refine lv_if_eq (tgt := 93) hx hb dX6_write_74 (by decide) (fun c14 => ?_) (fun c14 => ?_)
    · have hE1 := ite_t hE1 c14
      exact J93_7 v1j66 σj66 H locs ls (lv_sub hl [0, 1] rfl) hw hE1
    · have hE1 := ite_f hE1 c14
      refine lv_aload_n hx hb dX6_write_77 rfl (lv_at hl 0 rfl) ?_
      refine lv_aload_n hx hb dX6_write_78 rfl (lv_at hl 0 rfl) ?_
      refine kg_X6_bases hcf hK (kw_705 htk) dX6_write_79 hw ?_
      refine lv_iload_n hx hb dX6_write_82 rfl (lv_at hl 1 rfl) ?_
      obtain ⟨g11, hE1⟩ := gd_e hE1 hN1
      refine mald_B3 hcf hK (x := (σj66.2.2.2 3 ((v1j66).toNatClampNeg))) dX6_write_83 g11 hw rfl ?_
      obtain ⟨σ12, k12, hE1⟩ := bd1_e hE1 hN1
      refine k_call (va_runV (As := [.long (σj66.2.2.2 3 ((v1j66).toNatClampNeg))]) (rest := []) hcf (mX6_putNumber l D cs ad N σj66 (σj66.2.2.2 3 ((v1j66).toNatClampNeg)) σ12 k12) (kcX6_putNumber htk (kw_895 htk) ⟨Nat.le_of_ble_eq_true rfl, Nat.le_of_ble_eq_true rfl⟩) ⟨k_blind, va_recv (ci := 6) (q0 := 0) hK hw.1 rfl rfl, k_pre hK hZ hw⟩ rfl rfl hl.1 rfl (lv_room (Nat.le_of_ble_eq_true rfl)) dX6_write_84 ⟨Nat.zero_le _, Nat.zero_le _⟩) hw (fun H locs hw => ?_)
      refine lv_aload_n hx hb dX6_write_87 rfl (lv_at hl 0 rfl) ?_
      refine lv_bipush (v := 32) hx hb dX6_write_88 rfl ?_
      obtain ⟨σ13, k13, hE1⟩ := bd1_e hE1 hN1
      refine k_call (va_runV (As := [.int (32 : Int32)]) (rest := []) hcf (mX6_put l D cs ad N σ12 (32 : Int32) σ13 k13) (kcX6_put htk (kw_891 htk) ⟨Nat.le_of_ble_eq_true rfl, Nat.le_of_ble_eq_true rfl⟩) ⟨k_blind, va_recv (ci := 6) (q0 := 0) hK hw.1 rfl rfl, k_pre hK hZ hw⟩ rfl rfl hl.1 rfl (lv_room (Nat.le_of_ble_eq_true rfl)) dX6_write_90 ⟨Nat.zero_le _, Nat.zero_le _⟩) hw (fun H locs hw => ?_)
      exact J93_7 v1j66 σ13 H locs ls (lv_sub hl [0, 1] rfl) hw hE1
  have J60_7 : ∀ (v1j60 : Int32) (σj60 : vS) (H : Heap) (locs : List Loc) (ls : Array Slot), lv_has ls 3 [(0, .ref (ad 0)), (1, .int v1j60)] → k_H D (wM cs ad) (k_A 17 ad) σj60 s.heap H locs → T1 = jX6_write_60_7 N σj60 v1j60 → W p l e rmX6_write s m args below meth c H locs 0 0 Q0 (F0 m 60 ls []) := by
    intro v1j60 σj60 H locs ls hl hw hE1
    unfold jX6_write_60_7 at hE1
    refine lv_aload_n hx hb dX6_write_60 rfl (lv_at hl 0 rfl) ?_
    refine lv_bipush (v := 32) hx hb dX6_write_61 rfl ?_
    obtain ⟨σ19, k19, hE1⟩ := bd1_e hE1 hN1
    refine k_call (va_runV (As := [.int (32 : Int32)]) (rest := []) hcf (mX6_put l D cs ad N σj60 (32 : Int32) σ19 k19) (kcX6_put htk (kw_891 htk) ⟨Nat.le_of_ble_eq_true rfl, Nat.le_of_ble_eq_true rfl⟩) ⟨k_blind, va_recv (ci := 6) (q0 := 0) hK hw.1 rfl rfl, k_pre hK hZ hw⟩ rfl rfl hl.1 rfl (lv_room (Nat.le_of_ble_eq_true rfl)) dX6_write_63 ⟨Nat.zero_le _, Nat.zero_le _⟩) hw (fun H locs hw => ?_)
    exact J66_7 v1j60 σ19 H locs ls (lv_sub hl [0, 1] rfl) hw hE1
  intro H locs ls hl hw
  replace hl : lv_has ls 3 [(0, .ref (ad 0)), (1, .int v1h7)] := hl
  replace hw : k_H D (wM cs ad) (k_A 17 ad) σh7 s.heap H locs := hw
  refine lv_iload_n hx hb dX6_write_7 rfl (lv_at hl 1 rfl) ?_
  refine lv_aload_n hx hb dX6_write_8 rfl (lv_at hl 0 rfl) ?_
  refine kg_X6_count hcf hK (kw_689 htk) (x := (σh7.1 8)) dX6_write_9 hw rfl ?_
  refine lv_icmp_ge (tgt := 132) hx hb dX6_write_12 (by decide) (fun c24 => ?_) (fun c24 => ?_)
  · have hE1 := ite_t hE1 c24
    have hq := hX1 _ hE1
    subst hq
    exact J132 σh7 H locs ls (lv_sub hl [] rfl) hw hE0
  · have hE1 := ite_f hE1 c24
    refine lv_aload_n hx hb dX6_write_15 rfl (lv_at hl 0 rfl) ?_
    obtain ⟨r1, k1, hE1⟩ := bd1_e hE1 hN1
    refine k_callP (va_runV (As := []) (rest := []) hcf (mX6_isBalanced l D cs ad N σh7 r1 k1) (kcX6_isBalanced htk (kw_887 htk) ⟨Nat.le_of_ble_eq_true rfl, Nat.le_of_ble_eq_true rfl⟩) ⟨k_blind, va_recv (ci := 6) (q0 := 0) hK hw.1 rfl rfl, k_pre hK hZ hw⟩ rfl rfl hl.1 rfl (lv_room (Nat.le_of_ble_eq_true rfl)) dX6_write_16 ⟨Nat.zero_le _, Nat.zero_le _⟩) ?_
    refine lv_if_eq (tgt := 132) hx hb dX6_write_19 (by decide) (fun c23 => ?_) (fun c23 => ?_)
    · have hE1 := ite_t hE1 c23
      have hq := hX1 _ hE1
      subst hq
      exact J132 σh7 H locs ls (lv_sub hl [] rfl) hw hE0
    · have hE1 := ite_f hE1 c23
      refine lv_iload_n hx hb dX6_write_22 rfl (lv_at hl 1 rfl) ?_
      refine lv_if_le (tgt := 66) hx hb dX6_write_23 (by decide) (fun c22 => ?_) (fun c22 => ?_)
      · have hE1 := ite_t hE1 c22
        exact J66_7 v1h7 σh7 H locs ls (lv_sub hl [0, 1] rfl) hw hE1
      · have hE1 := ite_f hE1 c22
        refine lv_aload_n hx hb dX6_write_26 rfl (lv_at hl 0 rfl) ?_
        refine lv_bipush (v := 32) hx hb dX6_write_27 rfl ?_
        obtain ⟨σ15, k15, hE1⟩ := bd1_e hE1 hN1
        refine k_call (va_runV (As := [.int (32 : Int32)]) (rest := []) hcf (mX6_put l D cs ad N σh7 (32 : Int32) σ15 k15) (kcX6_put htk (kw_891 htk) ⟨Nat.le_of_ble_eq_true rfl, Nat.le_of_ble_eq_true rfl⟩) ⟨k_blind, va_recv (ci := 6) (q0 := 0) hK hw.1 rfl rfl, k_pre hK hZ hw⟩ rfl rfl hl.1 rfl (lv_room (Nat.le_of_ble_eq_true rfl)) dX6_write_29 ⟨Nat.zero_le _, Nat.zero_le _⟩) hw (fun H locs hw => ?_)
        refine lv_aload_n hx hb dX6_write_32 rfl (lv_at hl 0 rfl) ?_
        refine lv_aload_n hx hb dX6_write_33 rfl (lv_at hl 0 rfl) ?_
        refine kg_X6_right hcf hK (kw_692 htk) dX6_write_34 hw ?_
        refine lv_iload_n hx hb dX6_write_37 rfl (lv_at hl 1 rfl) ?_
        obtain ⟨g16, hE1⟩ := gd_e hE1 hN1
        refine mald_A4 hcf hK (x := (σ15.2.1 4 ((v1h7).toNatClampNeg))) dX6_write_38 g16 hw rfl ?_
        refine lv_aload_n hx hb dX6_write_39 rfl (lv_at hl 0 rfl) ?_
        refine kg_X6_right hcf hK (kw_692 htk) dX6_write_40 hw ?_
        refine lv_iload_n hx hb dX6_write_43 rfl (lv_at hl 1 rfl) ?_
        refine lv_iconst (v := 1) hx hb dX6_write_44 rfl ?_
        refine lv_isub hx hb dX6_write_45 ?_
        obtain ⟨g17, hE1⟩ := gd_e hE1 hN1
        refine mald_A4 hcf hK (x := (σ15.2.1 4 (((v1h7 - (1 : Int32))).toNatClampNeg))) dX6_write_46 g17 hw rfl ?_
        refine lv_icmp_eq (tgt := 55) hx hb dX6_write_47 (by decide) (fun c21 => ?_) (fun c21 => ?_)
        · have hE1 := ite_t hE1 c21
          refine lv_bipush (v := 43) hx hb dX6_write_55 rfl ?_
          obtain ⟨σ18, k18, hE1⟩ := bd1_e hE1 hN1
          refine k_call (va_runV (As := [.int (43 : Int32)]) (rest := []) hcf (mX6_put l D cs ad N σ15 (43 : Int32) σ18 k18) (kcX6_put htk (kw_891 htk) ⟨Nat.le_of_ble_eq_true rfl, Nat.le_of_ble_eq_true rfl⟩) ⟨k_blind, va_recv (ci := 6) (q0 := 0) hK hw.1 rfl rfl, k_pre hK hZ hw⟩ rfl rfl hl.1 rfl (lv_room (Nat.le_of_ble_eq_true rfl)) dX6_write_57 ⟨Nat.zero_le _, Nat.zero_le _⟩) hw (fun H locs hw => ?_)
          exact J60_7 v1h7 σ18 H locs ls (lv_sub hl [0, 1] rfl) hw hE1
        · have hE1 := ite_f hE1 c21
          refine lv_bipush (v := 61) hx hb dX6_write_50 rfl ?_
          refine lv_goto (tgt := 57) hx hb dX6_write_52 (by decide) ?_
          obtain ⟨σ20, k20, hE1⟩ := bd1_e hE1 hN1
          refine k_call (va_runV (As := [.int (61 : Int32)]) (rest := []) hcf (mX6_put l D cs ad N σ15 (61 : Int32) σ20 k20) (kcX6_put htk (kw_891 htk) ⟨Nat.le_of_ble_eq_true rfl, Nat.le_of_ble_eq_true rfl⟩) ⟨k_blind, va_recv (ci := 6) (q0 := 0) hK hw.1 rfl rfl, k_pre hK hZ hw⟩ rfl rfl hl.1 rfl (lv_room (Nat.le_of_ble_eq_true rfl)) dX6_write_57 ⟨Nat.zero_le _, Nat.zero_le _⟩) hw (fun H locs hw => ?_)
          exact J60_7 v1h7 σ20 H locs ls (lv_sub hl [0, 1] rfl) hw hE1
def jX6_read_187 (N : Nat) (σj187 : vS) : Option (Int32 × vS) :=
  if ((σj187.1 7) = 0) then (
    some ((σj187.1 4), σj187)
  ) else (
    bd1 (fX6_solve N σj187) fun σ4 =>
    bd1 (fX6_write N σ4) fun σ5 =>
    some ((σ5.1 8), σ5)
  )
def jX6_read_168 (N : Nat) (σj168 : vS) : Option (Int32 × vS) :=
  if ((σj168.1 7) = 0) then (
    jX6_read_187 N (p_i σj168 6 (σj168.1 5))
  ) else (
    jX6_read_187 N (p_i σj168 6 (-1 : Int32))
  )
def jX6_read_152 (N : Nat) (σj152 : vS) : Option (Int32 × vS) :=
  if ((σj152.1 4) = 0) then (
    jX6_read_168 N (p_i σj152 7 (1 : Int32))
  ) else (
    jX6_read_168 N (p_i σj152 7 (0 : Int32))
  )
def jX6_read_104 (N : Nat) (σj104 : vS) : Option (Int32 × vS) :=
  if ((σj104.1 4) = 0) then (
    bd1 (fX6_readSide N (p_i σj104 3 ((σj104.1 3) + (1 : Int32))) (1 : Int32)) fun σ9 =>
    if ((σ9.1 2) ≤ (σ9.1 3)) then (
      bd1 (fX6_failIf N σ9 (0 : Int32) (-2 : Int32) (σ9.1 3)) fun σ10 =>
      jX6_read_152 N σ10
    ) else (
      bd1 (fX6_failIf N σ9 (1 : Int32) (-2 : Int32) (σ9.1 3)) fun σ11 =>
      jX6_read_152 N σ11
    )
  ) else (
    jX6_read_152 N (p_i σj104 3 ((σj104.1 3) + (1 : Int32)))
  )
def jX6_read_41 (N : Nat) (σj41 : vS) : Option (Int32 × vS) :=
  bd1 (fX6_readSide N (p_i (p_i (p_i (p_i (p_i (p_i σj41 1 (0 : Int32)) 3 (0 : Int32)) 4 (0 : Int32)) 8 (0 : Int32)) 9 (0 : Int32)) 10 (0 : Int32)) (0 : Int32)) fun σ1 =>
  bd1 (fX6_charAt N σ1 (σ1.1 3)) fun r2 =>
  if (r2 = (61 : Int32)) then (
    bd1 (fX6_failIf N σ1 (0 : Int32) (-2 : Int32) (σ1.1 3)) fun σ3 =>
    jX6_read_104 N σ3
  ) else (
    bd1 (fX6_failIf N σ1 (1 : Int32) (-2 : Int32) (σ1.1 3)) fun σ14 =>
    jX6_read_104 N σ14
  )
def bX6_read_15 (N : Nat) (v1h15 : Int32) (σh15 : vS) : Option ((Int32 × vS) ⊕ (vS)) :=
  if ((σh15.1 2) ≤ v1h15) then (
    some (.inr σh15)
  ) else (
    if (v1h15 < 0 ∨ 100 ≤ (v1h15).toNatClampNeg) then none else
    if (v1h15 < 0 ∨ 100 ≤ (v1h15).toNatClampNeg) then none else
    k_lt (v1h15 + (1 : Int32)) fun x18 =>
    some (.inl (x18, (p_a σh15 1 ((v1h15).toNatClampNeg) (vp_nar .char (σh15.2.1 0 ((v1h15).toNatClampNeg))))))
  )
def fX6_read (N : Nat) (σ : vS) : Option (Int32 × vS) :=
  bd1 (k_itr (fun zz => bX6_read_15 N zz.1 zz.2) N ((0 : Int32), (p_i (p_i σ 0 (0 : Int32)) 2 (σ.1 1)))) fun q => jX6_read_41 N q
abbrev rmX6_read : Room := { frames := 7, cells := 0, slots := 0, locals := 164 }
abbrev wsX6_read : List Cond := .code yX6_read cX6_read 2 (some .int) :: kws
theorem kcX6_read {R : Room} {s : State} {args : Array Value} {own : String} {index : Nat} (htk : ∀ w ∈ kws, w.before args s = true) (hl : (Cond.methodLink own index yX6_read).before args s = true) (hR : rmX6_read.frames + 1 ≤ R.frames ∧ 8 + (2 + 11) + rmX6_read.locals ≤ R.locals) : CallW R s args own RX6 index yX6_read cX6_read 2 (some .int) wsX6_read rmX6_read 0 0 0 :=
  ⟨callB_of 0 htk (k_good kc_787) rfl rfl rfl (kw_58 htk) hl (by decide +kernel) hR, (kw_785 htk), (kw_786 htk)⟩
set_option maxRecDepth 100000 in
set_option maxHeartbeats 4000000 in
theorem mX6_read (l : Launch) (D : va_G) (cs : Nat → ClassId) (ad : Nat → Nat) (N : Nat) (σ : vS) (r : Int32) (σ' : vS) (hf : fX6_read N σ = some (r, σ')) : k_Met l yX6_read wsX6_read rmX6_read D (tM cs) (wM cs ad) (k_A 17 ad) [.ref (ad 0)] σ (some (.int r)) σ' := by
  refine k_of (cc := cX6_read) (maxL := 2) (ret := (some .int)) (by decide) rfl (Nat.le_of_ble_eq_true rfl) ?_
  intro p e s m args below meth c ls H locs hcf hr hlk hK hZ hl hw
  generalize hQ0 : MQ below _ args s 0 0 _ = Q0
  obtain ⟨T0, hE0⟩ : ∃ T, T = fX6_read N σ := ⟨_, rfl⟩
  have hR := hE0.trans hf
  have hN0 : T0 ≠ none := by rw [hR]; exact fun h => nomatch h
  have hx := hcf.1
  have hb := hcf.2.1
  have htk := hcf.2.2.2.2
  have hown := hcf.2.2.2.1
  unfold fX6_read at hE0
  replace hl : lv_has ls 2 [(0, .ref (ad 0))] := hl
  have J187 : ∀ (σj187 : vS) (H : Heap) (locs : List Loc) (ls : Array Slot), lv_has ls 2 [(0, .ref (ad 0))] → k_H D (wM cs ad) (k_A 17 ad) σj187 s.heap H locs → T0 = jX6_read_187 N σj187 → W p l e rmX6_read s m args below meth c H locs 0 0 Q0 (F0 m 187 ls []) := by
    intro σj187 H locs ls hl hw hE0
    unfold jX6_read_187 at hE0
    refine lv_aload_n hx hb dX6_read_187 rfl (lv_at hl 0 rfl) ?_
    refine kg_X6_there hcf hK (kw_688 htk) (x := (σj187.1 7)) dX6_read_188 hw rfl ?_
    refine lv_if_ne (tgt := 199) hx hb dX6_read_191 (by decide) (fun c6 => ?_) (fun c6 => ?_)
    · have hE0 := ite_f hE0 c6
      refine lv_aload_n hx hb dX6_read_199 rfl (lv_at hl 0 rfl) ?_
      obtain ⟨σ4, k4, hE0⟩ := bd1_e hE0 hN0
      refine k_call (va_runV (As := []) (rest := []) hcf (mX6_solve l D cs ad N σj187 σ4 k4) (kcX6_solve htk (kw_849 htk) ⟨Nat.le_of_ble_eq_true rfl, Nat.le_of_ble_eq_true rfl⟩) ⟨k_blind, va_recv (ci := 6) (q0 := 0) hK hw.1 rfl rfl, k_pre hK hZ hw⟩ rfl rfl hl.1 rfl (lv_room (Nat.le_of_ble_eq_true rfl)) dX6_read_200 ⟨Nat.zero_le _, Nat.zero_le _⟩) hw (fun H locs hw => ?_)
      refine lv_aload_n hx hb dX6_read_203 rfl (lv_at hl 0 rfl) ?_
      obtain ⟨σ5, k5, hE0⟩ := bd1_e hE0 hN0
      refine k_call (va_runV (As := []) (rest := []) hcf (mX6_write l D cs ad N σ4 σ5 k5) (kcX6_write htk (kw_883 htk) ⟨Nat.le_of_ble_eq_true rfl, Nat.le_of_ble_eq_true rfl⟩) ⟨k_blind, va_recv (ci := 6) (q0 := 0) hK hw.1 rfl rfl, k_pre hK hZ hw⟩ rfl rfl hl.1 rfl (lv_room (Nat.le_of_ble_eq_true rfl)) dX6_read_204 ⟨Nat.zero_le _, Nat.zero_le _⟩) hw (fun H locs hw => ?_)
      refine lv_aload_n hx hb dX6_read_207 rfl (lv_at hl 0 rfl) ?_
      refine kg_X6_count hcf hK (kw_689 htk) (x := (σ5.1 8)) dX6_read_208 hw rfl ?_
      exact kret_i hcf hr hlk hK hw (rt2 hR hE0) hQ0 dX6_read_211
    · have hE0 := ite_t hE0 c6
      refine lv_aload_n hx hb dX6_read_194 rfl (lv_at hl 0 rfl) ?_
      refine kg_X6_fault hcf hK (kw_685 htk) (x := (σj187.1 4)) dX6_read_195 hw rfl ?_
      exact kret_i hcf hr hlk hK hw (rt2 hR hE0) hQ0 dX6_read_198
  have J168 : ∀ (σj168 : vS) (H : Heap) (locs : List Loc) (ls : Array Slot), lv_has ls 2 [(0, .ref (ad 0))] → k_H D (wM cs ad) (k_A 17 ad) σj168 s.heap H locs → T0 = jX6_read_168 N σj168 → W p l e rmX6_read s m args below meth c H locs 0 0 Q0 (F0 m 168 ls []) := by
    intro σj168 H locs ls hl hw hE0
    unfold jX6_read_168 at hE0
    refine lv_aload_n hx hb dX6_read_168 rfl (lv_at hl 0 rfl) ?_
    refine lv_aload_n hx hb dX6_read_169 rfl (lv_at hl 0 rfl) ?_
    refine kg_X6_there hcf hK (kw_688 htk) (x := (σj168.1 7)) dX6_read_170 hw rfl ?_
    refine lv_if_eq (tgt := 180) hx hb dX6_read_173 (by decide) (fun c7 => ?_) (fun c7 => ?_)
    · have hE0 := ite_t hE0 c7
      refine lv_aload_n hx hb dX6_read_180 rfl (lv_at hl 0 rfl) ?_
      refine kg_X6_faultAt hcf hK (kw_686 htk) (x := (σj168.1 5)) dX6_read_181 hw rfl ?_
      refine kp_X6_told hcf hK (kw_687 htk) dX6_read_184 hw (fun H locs hw => ?_)
      exact J187 (p_i σj168 6 (σj168.1 5)) H locs ls (lv_sub hl [0] rfl) hw hE0
    · have hE0 := ite_f hE0 c7
      refine lv_iconst (v := -1) hx hb dX6_read_176 rfl ?_
      refine lv_goto (tgt := 184) hx hb dX6_read_177 (by decide) ?_
      refine kp_X6_told hcf hK (kw_687 htk) dX6_read_184 hw (fun H locs hw => ?_)
      exact J187 (p_i σj168 6 (-1 : Int32)) H locs ls (lv_sub hl [0] rfl) hw hE0
  have J152 : ∀ (σj152 : vS) (H : Heap) (locs : List Loc) (ls : Array Slot), lv_has ls 2 [(0, .ref (ad 0))] → k_H D (wM cs ad) (k_A 17 ad) σj152 s.heap H locs → T0 = jX6_read_152 N σj152 → W p l e rmX6_read s m args below meth c H locs 0 0 Q0 (F0 m 152 ls []) := by
    intro σj152 H locs ls hl hw hE0
    unfold jX6_read_152 at hE0
    refine lv_aload_n hx hb dX6_read_152 rfl (lv_at hl 0 rfl) ?_
    refine lv_aload_n hx hb dX6_read_153 rfl (lv_at hl 0 rfl) ?_
    refine kg_X6_fault hcf hK (kw_685 htk) (x := (σj152.1 4)) dX6_read_154 hw rfl ?_
    refine lv_if_ne (tgt := 164) hx hb dX6_read_157 (by decide) (fun c8 => ?_) (fun c8 => ?_)
    · have hE0 := ite_f hE0 c8
      refine lv_iconst (v := 0) hx hb dX6_read_164 rfl ?_
      refine kp_X6_there hcf hK (kw_688 htk) dX6_read_165 nz_0 hw (fun H locs hw => ?_)
      exact J168 (p_i σj152 7 (0 : Int32)) H locs ls (lv_sub hl [0] rfl) hw hE0
    · have hE0 := ite_t hE0 c8
      refine lv_iconst (v := 1) hx hb dX6_read_160 rfl ?_
      refine lv_goto (tgt := 165) hx hb dX6_read_161 (by decide) ?_
      refine kp_X6_there hcf hK (kw_688 htk) dX6_read_165 nz_1 hw (fun H locs hw => ?_)
      exact J168 (p_i σj152 7 (1 : Int32)) H locs ls (lv_sub hl [0] rfl) hw hE0
  have J104 : ∀ (σj104 : vS) (H : Heap) (locs : List Loc) (ls : Array Slot), lv_has ls 2 [(0, .ref (ad 0))] → k_H D (wM cs ad) (k_A 17 ad) σj104 s.heap H locs → T0 = jX6_read_104 N σj104 → W p l e rmX6_read s m args below meth c H locs 0 0 Q0 (F0 m 104 ls []) := by
    intro σj104 H locs ls hl hw hE0
    unfold jX6_read_104 at hE0
    refine lv_aload_n hx hb dX6_read_104 rfl (lv_at hl 0 rfl) ?_
    refine lv_dup hx hb dX6_read_105 rfl ?_
    refine kg_X6_pos hcf hK (kw_684 htk) (x := (σj104.1 3)) dX6_read_106 hw rfl ?_
    refine lv_iconst (v := 1) hx hb dX6_read_109 rfl ?_
    refine lv_iadd hx hb dX6_read_110 ?_
    refine kp_X6_pos hcf hK (kw_684 htk) dX6_read_111 hw (fun H locs hw => ?_)
    refine lv_aload_n hx hb dX6_read_114 rfl (lv_at hl 0 rfl) ?_
    refine kg_X6_fault hcf hK (kw_685 htk) (x := (σj104.1 4)) dX6_read_115 hw rfl ?_
    refine lv_if_ne (tgt := 152) hx hb dX6_read_118 (by decide) (fun c13 => ?_) (fun c13 => ?_)
    · have hE0 := ite_f hE0 c13
      exact J152 (p_i σj104 3 ((σj104.1 3) + (1 : Int32))) H locs ls (lv_sub hl [0] rfl) hw hE0
    · have hE0 := ite_t hE0 c13
      refine lv_aload_n hx hb dX6_read_121 rfl (lv_at hl 0 rfl) ?_
      refine lv_iconst (v := 1) hx hb dX6_read_122 rfl ?_
      obtain ⟨σ9, k9, hE0⟩ := bd1_e hE0 hN0
      refine k_call (va_runV (As := [.int (1 : Int32)]) (rest := []) hcf (mX6_readSide l D cs ad N (p_i σj104 3 ((σj104.1 3) + (1 : Int32))) (1 : Int32) σ9 k9) (kcX6_readSide htk (kw_788 htk) ⟨Nat.le_of_ble_eq_true rfl, Nat.le_of_ble_eq_true rfl⟩) ⟨k_blind, va_recv (ci := 6) (q0 := 0) hK hw.1 rfl rfl, k_pre hK hZ hw⟩ rfl rfl hl.1 rfl (lv_room (Nat.le_of_ble_eq_true rfl)) dX6_read_123 ⟨Nat.zero_le _, Nat.zero_le _⟩) hw (fun H locs hw => ?_)
      refine lv_aload_n hx hb dX6_read_126 rfl (lv_at hl 0 rfl) ?_
      refine lv_aload_n hx hb dX6_read_127 rfl (lv_at hl 0 rfl) ?_
      refine kg_X6_pos hcf hK (kw_684 htk) (x := (σ9.1 3)) dX6_read_128 hw rfl ?_
      refine lv_aload_n hx hb dX6_read_131 rfl (lv_at hl 0 rfl) ?_
      refine kg_X6_size hcf hK (kw_682 htk) (x := (σ9.1 2)) dX6_read_132 hw rfl ?_
      refine lv_icmp_ge (tgt := 142) hx hb dX6_read_135 (by decide) (fun c12 => ?_) (fun c12 => ?_)
      · have hE0 := ite_t hE0 c12
        refine lv_iconst (v := 0) hx hb dX6_read_142 rfl ?_
        refine lv_bipush (v := -2) hx hb dX6_read_143 rfl ?_
        refine lv_aload_n hx hb dX6_read_145 rfl (lv_at hl 0 rfl) ?_
        refine kg_X6_pos hcf hK (kw_684 htk) (x := (σ9.1 3)) dX6_read_146 hw rfl ?_
        obtain ⟨σ10, k10, hE0⟩ := bd1_e hE0 hN0
        refine k_call (va_runV (As := [.int (0 : Int32), .int (-2 : Int32), .int (σ9.1 3)]) (rest := []) hcf (mX6_failIf l D cs ad N σ9 (0 : Int32) (-2 : Int32) (σ9.1 3) σ10 k10) (kcX6_failIf htk (kw_800 htk) ⟨Nat.le_of_ble_eq_true rfl, Nat.le_of_ble_eq_true rfl⟩) ⟨k_blind, va_recv (ci := 6) (q0 := 0) hK hw.1 rfl rfl, k_pre hK hZ hw⟩ rfl rfl hl.1 rfl (lv_room (Nat.le_of_ble_eq_true rfl)) dX6_read_149 ⟨Nat.zero_le _, Nat.zero_le _⟩) hw (fun H locs hw => ?_)
        exact J152 σ10 H locs ls (lv_sub hl [0] rfl) hw hE0
      · have hE0 := ite_f hE0 c12
        refine lv_iconst (v := 1) hx hb dX6_read_138 rfl ?_
        refine lv_goto (tgt := 143) hx hb dX6_read_139 (by decide) ?_
        refine lv_bipush (v := -2) hx hb dX6_read_143 rfl ?_
        refine lv_aload_n hx hb dX6_read_145 rfl (lv_at hl 0 rfl) ?_
        refine kg_X6_pos hcf hK (kw_684 htk) (x := (σ9.1 3)) dX6_read_146 hw rfl ?_
        obtain ⟨σ11, k11, hE0⟩ := bd1_e hE0 hN0
        refine k_call (va_runV (As := [.int (1 : Int32), .int (-2 : Int32), .int (σ9.1 3)]) (rest := []) hcf (mX6_failIf l D cs ad N σ9 (1 : Int32) (-2 : Int32) (σ9.1 3) σ11 k11) (kcX6_failIf htk (kw_800 htk) ⟨Nat.le_of_ble_eq_true rfl, Nat.le_of_ble_eq_true rfl⟩) ⟨k_blind, va_recv (ci := 6) (q0 := 0) hK hw.1 rfl rfl, k_pre hK hZ hw⟩ rfl rfl hl.1 rfl (lv_room (Nat.le_of_ble_eq_true rfl)) dX6_read_149 ⟨Nat.zero_le _, Nat.zero_le _⟩) hw (fun H locs hw => ?_)
        exact J152 σ11 H locs ls (lv_sub hl [0] rfl) hw hE0
  have J41 : ∀ (σj41 : vS) (H : Heap) (locs : List Loc) (ls : Array Slot), lv_has ls 2 [(0, .ref (ad 0))] → k_H D (wM cs ad) (k_A 17 ad) σj41 s.heap H locs → T0 = jX6_read_41 N σj41 → W p l e rmX6_read s m args below meth c H locs 0 0 Q0 (F0 m 41 ls []) := by
    intro σj41 H locs ls hl hw hE0
    unfold jX6_read_41 at hE0
    refine lv_aload_n hx hb dX6_read_41 rfl (lv_at hl 0 rfl) ?_
    refine lv_iconst (v := 0) hx hb dX6_read_42 rfl ?_
    refine kp_X6_typed hcf hK (kw_680 htk) dX6_read_43 hw (fun H locs hw => ?_)
    refine lv_aload_n hx hb dX6_read_46 rfl (lv_at hl 0 rfl) ?_
    refine lv_iconst (v := 0) hx hb dX6_read_47 rfl ?_
    refine kp_X6_pos hcf hK (kw_684 htk) dX6_read_48 hw (fun H locs hw => ?_)
    refine lv_aload_n hx hb dX6_read_51 rfl (lv_at hl 0 rfl) ?_
    refine lv_iconst (v := 0) hx hb dX6_read_52 rfl ?_
    refine kp_X6_fault hcf hK (kw_685 htk) dX6_read_53 hw (fun H locs hw => ?_)
    refine lv_aload_n hx hb dX6_read_56 rfl (lv_at hl 0 rfl) ?_
    refine lv_iconst (v := 0) hx hb dX6_read_57 rfl ?_
    refine kp_X6_count hcf hK (kw_689 htk) dX6_read_58 hw (fun H locs hw => ?_)
    refine lv_aload_n hx hb dX6_read_61 rfl (lv_at hl 0 rfl) ?_
    refine lv_iconst (v := 0) hx hb dX6_read_62 rfl ?_
    refine kp_X6_elements hcf hK (kw_695 htk) dX6_read_63 hw (fun H locs hw => ?_)
    refine lv_aload_n hx hb dX6_read_66 rfl (lv_at hl 0 rfl) ?_
    refine lv_iconst (v := 0) hx hb dX6_read_67 rfl ?_
    refine kp_X6_charged hcf hK (kw_697 htk) dX6_read_68 nz_0 hw (fun H locs hw => ?_)
    refine lv_aload_n hx hb dX6_read_71 rfl (lv_at hl 0 rfl) ?_
    refine lv_iconst (v := 0) hx hb dX6_read_72 rfl ?_
    obtain ⟨σ1, k1, hE0⟩ := bd1_e hE0 hN0
    refine k_call (va_runV (As := [.int (0 : Int32)]) (rest := []) hcf (mX6_readSide l D cs ad N (p_i (p_i (p_i (p_i (p_i (p_i σj41 1 (0 : Int32)) 3 (0 : Int32)) 4 (0 : Int32)) 8 (0 : Int32)) 9 (0 : Int32)) 10 (0 : Int32)) (0 : Int32) σ1 k1) (kcX6_readSide htk (kw_788 htk) ⟨Nat.le_of_ble_eq_true rfl, Nat.le_of_ble_eq_true rfl⟩) ⟨k_blind, va_recv (ci := 6) (q0 := 0) hK hw.1 rfl rfl, k_pre hK hZ hw⟩ rfl rfl hl.1 rfl (lv_room (Nat.le_of_ble_eq_true rfl)) dX6_read_73 ⟨Nat.zero_le _, Nat.zero_le _⟩) hw (fun H locs hw => ?_)
    refine lv_aload_n hx hb dX6_read_76 rfl (lv_at hl 0 rfl) ?_
    refine lv_aload_n hx hb dX6_read_77 rfl (lv_at hl 0 rfl) ?_
    refine lv_aload_n hx hb dX6_read_78 rfl (lv_at hl 0 rfl) ?_
    refine kg_X6_pos hcf hK (kw_684 htk) (x := (σ1.1 3)) dX6_read_79 hw rfl ?_
    obtain ⟨r2, k2, hE0⟩ := bd1_e hE0 hN0
    refine k_callP (va_runV (As := [.int (σ1.1 3)]) (rest := [.ref (ad 0)]) hcf (mX6_charAt l D cs ad N σ1 (σ1.1 3) r2 k2) (kcX6_charAt htk (kw_796 htk) ⟨Nat.le_of_ble_eq_true rfl, Nat.le_of_ble_eq_true rfl⟩) ⟨k_blind, va_recv (ci := 6) (q0 := 0) hK hw.1 rfl rfl, k_pre hK hZ hw⟩ rfl rfl hl.1 rfl (lv_room (Nat.le_of_ble_eq_true rfl)) dX6_read_82 ⟨Nat.zero_le _, Nat.zero_le _⟩) ?_
    refine lv_bipush (v := 61) hx hb dX6_read_85 rfl ?_
    refine lv_icmp_eq (tgt := 94) hx hb dX6_read_87 (by decide) (fun c15 => ?_) (fun c15 => ?_)
    · have hE0 := ite_t hE0 c15
      refine lv_iconst (v := 0) hx hb dX6_read_94 rfl ?_
      refine lv_bipush (v := -2) hx hb dX6_read_95 rfl ?_
      refine lv_aload_n hx hb dX6_read_97 rfl (lv_at hl 0 rfl) ?_
      refine kg_X6_pos hcf hK (kw_684 htk) (x := (σ1.1 3)) dX6_read_98 hw rfl ?_
      obtain ⟨σ3, k3, hE0⟩ := bd1_e hE0 hN0
      refine k_call (va_runV (As := [.int (0 : Int32), .int (-2 : Int32), .int (σ1.1 3)]) (rest := []) hcf (mX6_failIf l D cs ad N σ1 (0 : Int32) (-2 : Int32) (σ1.1 3) σ3 k3) (kcX6_failIf htk (kw_800 htk) ⟨Nat.le_of_ble_eq_true rfl, Nat.le_of_ble_eq_true rfl⟩) ⟨k_blind, va_recv (ci := 6) (q0 := 0) hK hw.1 rfl rfl, k_pre hK hZ hw⟩ rfl rfl hl.1 rfl (lv_room (Nat.le_of_ble_eq_true rfl)) dX6_read_101 ⟨Nat.zero_le _, Nat.zero_le _⟩) hw (fun H locs hw => ?_)
      exact J104 σ3 H locs ls (lv_sub hl [0] rfl) hw hE0
    · have hE0 := ite_f hE0 c15
      refine lv_iconst (v := 1) hx hb dX6_read_90 rfl ?_
      refine lv_goto (tgt := 95) hx hb dX6_read_91 (by decide) ?_
      refine lv_bipush (v := -2) hx hb dX6_read_95 rfl ?_
      refine lv_aload_n hx hb dX6_read_97 rfl (lv_at hl 0 rfl) ?_
      refine kg_X6_pos hcf hK (kw_684 htk) (x := (σ1.1 3)) dX6_read_98 hw rfl ?_
      obtain ⟨σ14, k14, hE0⟩ := bd1_e hE0 hN0
      refine k_call (va_runV (As := [.int (1 : Int32), .int (-2 : Int32), .int (σ1.1 3)]) (rest := []) hcf (mX6_failIf l D cs ad N σ1 (1 : Int32) (-2 : Int32) (σ1.1 3) σ14 k14) (kcX6_failIf htk (kw_800 htk) ⟨Nat.le_of_ble_eq_true rfl, Nat.le_of_ble_eq_true rfl⟩) ⟨k_blind, va_recv (ci := 6) (q0 := 0) hK hw.1 rfl rfl, k_pre hK hZ hw⟩ rfl rfl hl.1 rfl (lv_room (Nat.le_of_ble_eq_true rfl)) dX6_read_101 ⟨Nat.zero_le _, Nat.zero_le _⟩) hw (fun H locs hw => ?_)
      exact J104 σ14 H locs ls (lv_sub hl [0] rfl) hw hE0
  refine lv_aload_n hx hb dX6_read_0 rfl (lv_at hl 0 rfl) ?_
  refine lv_iconst (v := 0) hx hb dX6_read_1 rfl ?_
  refine kp_X6_thrown hcf hK (kw_679 htk) dX6_read_2 hw (fun H locs hw => ?_)
  refine lv_aload_n hx hb dX6_read_5 rfl (lv_at hl 0 rfl) ?_
  refine lv_aload_n hx hb dX6_read_6 rfl (lv_at hl 0 rfl) ?_
  refine kg_X6_typed hcf hK (kw_680 htk) (x := (σ.1 1)) dX6_read_7 hw rfl ?_
  refine kp_X6_size hcf hK (kw_682 htk) dX6_read_10 hw (fun H locs hw => ?_)
  refine lv_iconst (v := 0) hx hb dX6_read_13 rfl ?_
  refine lv_istore_n hx hb dX6_read_14 rfl hl (Nat.le_of_ble_eq_true rfl) rfl (fun ls (hl : lv_has ls 2 [(1, .int (0 : Int32)), (0, .ref (ad 0))]) => ?_)
  obtain ⟨q, hq, hE0⟩ := bd1_e hE0 hN0
  refine k_ind (P := fun zz => ∀ (H : Heap) (locs : List Loc) (ls : Array Slot), lv_has ls 2 [(0, .ref (ad 0)), (1, .int zz.1)] → k_H D (wM cs ad) (k_A 17 ad) zz.2 s.heap H locs → W p l e rmX6_read s m args below meth c H locs 0 0 Q0 (F0 m 15 ls [])) ?_ N _ hq H locs ls (lv_sub hl [1, 0] rfl) hw
  intro sX T1 hE1 hN1 hC1 hX1
  obtain ⟨v1h15, σh15⟩ := sX
  replace hE1 : T1 = bX6_read_15 N v1h15 σh15 := hE1
  unfold bX6_read_15 at hE1
  intro H locs ls hl hw
  replace hl : lv_has ls 2 [(0, .ref (ad 0)), (1, .int v1h15)] := hl
  replace hw : k_H D (wM cs ad) (k_A 17 ad) σh15 s.heap H locs := hw
  refine lv_iload_n hx hb dX6_read_15 rfl (lv_at hl 1 rfl) ?_
  refine lv_aload_n hx hb dX6_read_16 rfl (lv_at hl 0 rfl) ?_
  refine kg_X6_size hcf hK (kw_682 htk) (x := (σh15.1 2)) dX6_read_17 hw rfl ?_
  refine lv_icmp_ge (tgt := 41) hx hb dX6_read_20 (by decide) (fun c19 => ?_) (fun c19 => ?_)
  · have hE1 := ite_t hE1 c19
    have hq := hX1 _ hE1
    subst hq
    exact J41 σh15 H locs ls (lv_sub hl [0] rfl) hw hE0
  · have hE1 := ite_f hE1 c19
    refine lv_aload_n hx hb dX6_read_23 rfl (lv_at hl 0 rfl) ?_
    refine kg_X6_text hcf hK (kw_683 htk) dX6_read_24 hw ?_
    refine lv_iload_n hx hb dX6_read_27 rfl (lv_at hl 1 rfl) ?_
    refine lv_aload_n hx hb dX6_read_28 rfl (lv_at hl 0 rfl) ?_
    refine kg_X6_draft hcf hK (kw_681 htk) dX6_read_29 hw ?_
    refine lv_iload_n hx hb dX6_read_32 rfl (lv_at hl 1 rfl) ?_
    obtain ⟨g16, hE1⟩ := gd_e hE1 hN1
    refine mald_A0 hcf hK (x := (σh15.2.1 0 ((v1h15).toNatClampNeg))) dX6_read_33 g16 hw rfl ?_
    obtain ⟨g17, hE1⟩ := gd_e hE1 hN1
    refine mast_A1 hcf hK dX6_read_34 g17 hw (fun H locs hw => ?_)
    obtain ⟨x18, e_x18, hE1⟩ := k_lte hE1
    refine lv_iinc (k := 1) (v := x18) hx hb dX6_read_35 hl rfl (Eq.symm e_x18) (Nat.le_of_ble_eq_true rfl) rfl (fun ls (hl : lv_has ls 2 [(1, .int x18), (0, .ref (ad 0))]) => ?_)
    refine lv_goto (tgt := 15) hx hb dX6_read_38 (by decide) ?_
    exact hC1 _ hE1 H locs ls (lv_sub hl [1, 0] rfl) hw
def fX6_at (N : Nat) (σ : vS) : Option (Int32 × vS) :=
  some ((σ.1 6), (p_i σ 0 (0 : Int32)))
abbrev rmX6_at : Room := { frames := 0, cells := 0, slots := 0, locals := 0 }
abbrev wsX6_at : List Cond := .code yX6_at cX6_at 1 (some .int) :: kws
theorem kcX6_at {R : Room} {s : State} {args : Array Value} {own : String} {index : Nat} (htk : ∀ w ∈ kws, w.before args s = true) (hl : (Cond.methodLink own index yX6_at).before args s = true) (hR : rmX6_at.frames + 1 ≤ R.frames ∧ 8 + (1 + 11) + rmX6_at.locals ≤ R.locals) : CallW R s args own RX6 index yX6_at cX6_at 1 (some .int) wsX6_at rmX6_at 0 0 0 :=
  ⟨callB_of 0 htk (k_good kc_905) rfl rfl rfl (kw_58 htk) hl (by decide +kernel) hR, (kw_903 htk), (kw_904 htk)⟩
set_option maxRecDepth 100000 in
set_option maxHeartbeats 4000000 in
theorem mX6_at (l : Launch) (D : va_G) (cs : Nat → ClassId) (ad : Nat → Nat) (N : Nat) (σ : vS) (r : Int32) (σ' : vS) (hf : fX6_at N σ = some (r, σ')) : k_Met l yX6_at wsX6_at rmX6_at D (tM cs) (wM cs ad) (k_A 17 ad) [.ref (ad 0)] σ (some (.int r)) σ' := by
  refine k_of (cc := cX6_at) (maxL := 1) (ret := (some .int)) (by decide) rfl (Nat.le_of_ble_eq_true rfl) ?_
  intro p e s m args below meth c ls H locs hcf hr hlk hK hZ hl hw
  generalize hQ0 : MQ below _ args s 0 0 _ = Q0
  obtain ⟨T0, hE0⟩ : ∃ T, T = fX6_at N σ := ⟨_, rfl⟩
  have hR := hE0.trans hf
  have hN0 : T0 ≠ none := by rw [hR]; exact fun h => nomatch h
  have hx := hcf.1
  have hb := hcf.2.1
  have htk := hcf.2.2.2.2
  have hown := hcf.2.2.2.1
  unfold fX6_at at hE0
  replace hl : lv_has ls 1 [(0, .ref (ad 0))] := hl
  refine lv_aload_n hx hb dX6_at_0 rfl (lv_at hl 0 rfl) ?_
  refine lv_iconst (v := 0) hx hb dX6_at_1 rfl ?_
  refine kp_X6_thrown hcf hK (kw_679 htk) dX6_at_2 hw (fun H locs hw => ?_)
  refine lv_aload_n hx hb dX6_at_5 rfl (lv_at hl 0 rfl) ?_
  refine kg_X6_told hcf hK (kw_687 htk) (x := (σ.1 6)) dX6_at_6 hw rfl ?_
  exact kret_i hcf hr hlk hK hw (rt2 hR hE0) hQ0 dX6_at_9
def fX6_state (N : Nat) (σ : vS) : Option (Int32 × vS) :=
  if ((σ.1 7) = 0) then (
    some ((-1 : Int32), (p_i σ 0 (0 : Int32)))
  ) else (
    if ((σ.1 13) = 0) then (
      some ((1 : Int32), (p_i σ 0 (0 : Int32)))
    ) else (
      if ((σ.1 13) ≤ (1 : Int32)) then (
        bd1 (fX6_isBalanced N (p_i σ 0 (0 : Int32))) fun r1 =>
        if (r1 = 0) then (
          some ((2 : Int32), (p_i σ 0 (0 : Int32)))
        ) else (
          some ((0 : Int32), (p_i σ 0 (0 : Int32)))
        )
      ) else (
        some ((3 : Int32), (p_i σ 0 (0 : Int32)))
      )
    )
  )
abbrev rmX6_state : Room := { frames := 1, cells := 0, slots := 0, locals := 22 }
abbrev wsX6_state : List Cond := .code yX6_state cX6_state 1 (some .int) :: kws
theorem kcX6_state {R : Room} {s : State} {args : Array Value} {own : String} {index : Nat} (htk : ∀ w ∈ kws, w.before args s = true) (hl : (Cond.methodLink own index yX6_state).before args s = true) (hR : rmX6_state.frames + 1 ≤ R.frames ∧ 8 + (1 + 11) + rmX6_state.locals ≤ R.locals) : CallW R s args own RX6 index yX6_state cX6_state 1 (some .int) wsX6_state rmX6_state 0 0 0 :=
  ⟨callB_of 0 htk (k_good kc_909) rfl rfl rfl (kw_58 htk) hl (by decide +kernel) hR, (kw_907 htk), (kw_908 htk)⟩
set_option maxRecDepth 100000 in
set_option maxHeartbeats 4000000 in
theorem mX6_state (l : Launch) (D : va_G) (cs : Nat → ClassId) (ad : Nat → Nat) (N : Nat) (σ : vS) (r : Int32) (σ' : vS) (hf : fX6_state N σ = some (r, σ')) : k_Met l yX6_state wsX6_state rmX6_state D (tM cs) (wM cs ad) (k_A 17 ad) [.ref (ad 0)] σ (some (.int r)) σ' := by
  refine k_of (cc := cX6_state) (maxL := 1) (ret := (some .int)) (by decide) rfl (Nat.le_of_ble_eq_true rfl) ?_
  intro p e s m args below meth c ls H locs hcf hr hlk hK hZ hl hw
  generalize hQ0 : MQ below _ args s 0 0 _ = Q0
  obtain ⟨T0, hE0⟩ : ∃ T, T = fX6_state N σ := ⟨_, rfl⟩
  have hR := hE0.trans hf
  have hN0 : T0 ≠ none := by rw [hR]; exact fun h => nomatch h
  have hx := hcf.1
  have hb := hcf.2.1
  have htk := hcf.2.2.2.2
  have hown := hcf.2.2.2.1
  unfold fX6_state at hE0
  replace hl : lv_has ls 1 [(0, .ref (ad 0))] := hl
  refine lv_aload_n hx hb dX6_state_0 rfl (lv_at hl 0 rfl) ?_
  refine lv_iconst (v := 0) hx hb dX6_state_1 rfl ?_
  refine kp_X6_thrown hcf hK (kw_679 htk) dX6_state_2 hw (fun H locs hw => ?_)
  refine lv_aload_n hx hb dX6_state_5 rfl (lv_at hl 0 rfl) ?_
  refine kg_X6_there hcf hK (kw_688 htk) (x := (σ.1 7)) dX6_state_6 hw rfl ?_
  refine lv_if_ne (tgt := 16) hx hb dX6_state_9 (by decide) (fun c5 => ?_) (fun c5 => ?_)
  · have hE0 := ite_f hE0 c5
    refine lv_aload_n hx hb dX6_state_16 rfl (lv_at hl 0 rfl) ?_
    refine kg_X6_free hcf hK (kw_704 htk) (x := (σ.1 13)) dX6_state_17 hw rfl ?_
    refine lv_if_ne (tgt := 27) hx hb dX6_state_20 (by decide) (fun c4 => ?_) (fun c4 => ?_)
    · have hE0 := ite_f hE0 c4
      refine lv_aload_n hx hb dX6_state_27 rfl (lv_at hl 0 rfl) ?_
      refine kg_X6_free hcf hK (kw_704 htk) (x := (σ.1 13)) dX6_state_28 hw rfl ?_
      refine lv_iconst (v := 1) hx hb dX6_state_31 rfl ?_
      refine lv_icmp_le (tgt := 39) hx hb dX6_state_32 (by decide) (fun c3 => ?_) (fun c3 => ?_)
      · have hE0 := ite_t hE0 c3
        refine lv_aload_n hx hb dX6_state_39 rfl (lv_at hl 0 rfl) ?_
        obtain ⟨r1, k1, hE0⟩ := bd1_e hE0 hN0
        refine k_callP (va_runV (As := []) (rest := []) hcf (mX6_isBalanced l D cs ad N (p_i σ 0 (0 : Int32)) r1 k1) (kcX6_isBalanced htk (kw_887 htk) ⟨Nat.le_of_ble_eq_true rfl, Nat.le_of_ble_eq_true rfl⟩) ⟨k_blind, va_recv (ci := 6) (q0 := 0) hK hw.1 rfl rfl, k_pre hK hZ hw⟩ rfl rfl hl.1 rfl (lv_room (Nat.le_of_ble_eq_true rfl)) dX6_state_40 ⟨Nat.zero_le _, Nat.zero_le _⟩) ?_
        refine lv_if_eq (tgt := 50) hx hb dX6_state_43 (by decide) (fun c2 => ?_) (fun c2 => ?_)
        · have hE0 := ite_t hE0 c2
          refine lv_iconst (v := 2) hx hb dX6_state_50 rfl ?_
          exact kret_i hcf hr hlk hK hw (rt2 hR hE0) hQ0 dX6_state_51
        · have hE0 := ite_f hE0 c2
          refine lv_iconst (v := 0) hx hb dX6_state_46 rfl ?_
          refine lv_goto (tgt := 51) hx hb dX6_state_47 (by decide) ?_
          exact kret_i hcf hr hlk hK hw (rt2 hR hE0) hQ0 dX6_state_51
      · have hE0 := ite_f hE0 c3
        refine lv_iconst (v := 3) hx hb dX6_state_35 rfl ?_
        refine lv_goto (tgt := 51) hx hb dX6_state_36 (by decide) ?_
        exact kret_i hcf hr hlk hK hw (rt2 hR hE0) hQ0 dX6_state_51
    · have hE0 := ite_t hE0 c4
      refine lv_iconst (v := 1) hx hb dX6_state_23 rfl ?_
      refine lv_goto (tgt := 51) hx hb dX6_state_24 (by decide) ?_
      exact kret_i hcf hr hlk hK hw (rt2 hR hE0) hQ0 dX6_state_51
  · have hE0 := ite_t hE0 c5
    refine lv_iconst (v := -1) hx hb dX6_state_12 rfl ?_
    refine lv_goto (tgt := 51) hx hb dX6_state_13 (by decide) ?_
    exact kret_i hcf hr hlk hK hw (rt2 hR hE0) hQ0 dX6_state_51
def fX6_freedom (N : Nat) (σ : vS) : Option (Int32 × vS) :=
  if ((σ.1 7) = 0) then (
    some ((-1 : Int32), (p_i σ 0 (0 : Int32)))
  ) else (
    some ((σ.1 13), (p_i σ 0 (0 : Int32)))
  )
abbrev rmX6_freedom : Room := { frames := 0, cells := 0, slots := 0, locals := 0 }
abbrev wsX6_freedom : List Cond := .code yX6_freedom cX6_freedom 1 (some .int) :: kws
theorem kcX6_freedom {R : Room} {s : State} {args : Array Value} {own : String} {index : Nat} (htk : ∀ w ∈ kws, w.before args s = true) (hl : (Cond.methodLink own index yX6_freedom).before args s = true) (hR : rmX6_freedom.frames + 1 ≤ R.frames ∧ 8 + (1 + 11) + rmX6_freedom.locals ≤ R.locals) : CallW R s args own RX6 index yX6_freedom cX6_freedom 1 (some .int) wsX6_freedom rmX6_freedom 0 0 0 :=
  ⟨callB_of 0 htk (k_good kc_913) rfl rfl rfl (kw_58 htk) hl (by decide +kernel) hR, (kw_911 htk), (kw_912 htk)⟩
set_option maxRecDepth 100000 in
set_option maxHeartbeats 4000000 in
theorem mX6_freedom (l : Launch) (D : va_G) (cs : Nat → ClassId) (ad : Nat → Nat) (N : Nat) (σ : vS) (r : Int32) (σ' : vS) (hf : fX6_freedom N σ = some (r, σ')) : k_Met l yX6_freedom wsX6_freedom rmX6_freedom D (tM cs) (wM cs ad) (k_A 17 ad) [.ref (ad 0)] σ (some (.int r)) σ' := by
  refine k_of (cc := cX6_freedom) (maxL := 1) (ret := (some .int)) (by decide) rfl (Nat.le_of_ble_eq_true rfl) ?_
  intro p e s m args below meth c ls H locs hcf hr hlk hK hZ hl hw
  generalize hQ0 : MQ below _ args s 0 0 _ = Q0
  obtain ⟨T0, hE0⟩ : ∃ T, T = fX6_freedom N σ := ⟨_, rfl⟩
  have hR := hE0.trans hf
  have hN0 : T0 ≠ none := by rw [hR]; exact fun h => nomatch h
  have hx := hcf.1
  have hb := hcf.2.1
  have htk := hcf.2.2.2.2
  have hown := hcf.2.2.2.1
  unfold fX6_freedom at hE0
  replace hl : lv_has ls 1 [(0, .ref (ad 0))] := hl
  refine lv_aload_n hx hb dX6_freedom_0 rfl (lv_at hl 0 rfl) ?_
  refine lv_iconst (v := 0) hx hb dX6_freedom_1 rfl ?_
  refine kp_X6_thrown hcf hK (kw_679 htk) dX6_freedom_2 hw (fun H locs hw => ?_)
  refine lv_aload_n hx hb dX6_freedom_5 rfl (lv_at hl 0 rfl) ?_
  refine kg_X6_there hcf hK (kw_688 htk) (x := (σ.1 7)) dX6_freedom_6 hw rfl ?_
  refine lv_if_eq (tgt := 19) hx hb dX6_freedom_9 (by decide) (fun c1 => ?_) (fun c1 => ?_)
  · have hE0 := ite_t hE0 c1
    refine lv_iconst (v := -1) hx hb dX6_freedom_19 rfl ?_
    exact kret_i hcf hr hlk hK hw (rt2 hR hE0) hQ0 dX6_freedom_20
  · have hE0 := ite_f hE0 c1
    refine lv_aload_n hx hb dX6_freedom_12 rfl (lv_at hl 0 rfl) ?_
    refine kg_X6_free hcf hK (kw_704 htk) (x := (σ.1 13)) dX6_freedom_13 hw rfl ?_
    refine lv_goto (tgt := 20) hx hb dX6_freedom_16 (by decide) ?_
    exact kret_i hcf hr hlk hK hw (rt2 hR hE0) hQ0 dX6_freedom_20
def fX6_formulas (N : Nat) (σ : vS) : Option (Int32 × vS) :=
  if ((σ.1 7) = 0) then (
    some ((0 : Int32), (p_i σ 0 (0 : Int32)))
  ) else (
    some ((σ.1 8), (p_i σ 0 (0 : Int32)))
  )
abbrev rmX6_formulas : Room := { frames := 0, cells := 0, slots := 0, locals := 0 }
abbrev wsX6_formulas : List Cond := .code yX6_formulas cX6_formulas 1 (some .int) :: kws
theorem kcX6_formulas {R : Room} {s : State} {args : Array Value} {own : String} {index : Nat} (htk : ∀ w ∈ kws, w.before args s = true) (hl : (Cond.methodLink own index yX6_formulas).before args s = true) (hR : rmX6_formulas.frames + 1 ≤ R.frames ∧ 8 + (1 + 11) + rmX6_formulas.locals ≤ R.locals) : CallW R s args own RX6 index yX6_formulas cX6_formulas 1 (some .int) wsX6_formulas rmX6_formulas 0 0 0 :=
  ⟨callB_of 0 htk (k_good kc_917) rfl rfl rfl (kw_58 htk) hl (by decide +kernel) hR, (kw_915 htk), (kw_916 htk)⟩
set_option maxRecDepth 100000 in
set_option maxHeartbeats 4000000 in
theorem mX6_formulas (l : Launch) (D : va_G) (cs : Nat → ClassId) (ad : Nat → Nat) (N : Nat) (σ : vS) (r : Int32) (σ' : vS) (hf : fX6_formulas N σ = some (r, σ')) : k_Met l yX6_formulas wsX6_formulas rmX6_formulas D (tM cs) (wM cs ad) (k_A 17 ad) [.ref (ad 0)] σ (some (.int r)) σ' := by
  refine k_of (cc := cX6_formulas) (maxL := 1) (ret := (some .int)) (by decide) rfl (Nat.le_of_ble_eq_true rfl) ?_
  intro p e s m args below meth c ls H locs hcf hr hlk hK hZ hl hw
  generalize hQ0 : MQ below _ args s 0 0 _ = Q0
  obtain ⟨T0, hE0⟩ : ∃ T, T = fX6_formulas N σ := ⟨_, rfl⟩
  have hR := hE0.trans hf
  have hN0 : T0 ≠ none := by rw [hR]; exact fun h => nomatch h
  have hx := hcf.1
  have hb := hcf.2.1
  have htk := hcf.2.2.2.2
  have hown := hcf.2.2.2.1
  unfold fX6_formulas at hE0
  replace hl : lv_has ls 1 [(0, .ref (ad 0))] := hl
  refine lv_aload_n hx hb dX6_formulas_0 rfl (lv_at hl 0 rfl) ?_
  refine lv_iconst (v := 0) hx hb dX6_formulas_1 rfl ?_
  refine kp_X6_thrown hcf hK (kw_679 htk) dX6_formulas_2 hw (fun H locs hw => ?_)
  refine lv_aload_n hx hb dX6_formulas_5 rfl (lv_at hl 0 rfl) ?_
  refine kg_X6_there hcf hK (kw_688 htk) (x := (σ.1 7)) dX6_formulas_6 hw rfl ?_
  refine lv_if_eq (tgt := 19) hx hb dX6_formulas_9 (by decide) (fun c1 => ?_) (fun c1 => ?_)
  · have hE0 := ite_t hE0 c1
    refine lv_iconst (v := 0) hx hb dX6_formulas_19 rfl ?_
    exact kret_i hcf hr hlk hK hw (rt2 hR hE0) hQ0 dX6_formulas_20
  · have hE0 := ite_f hE0 c1
    refine lv_aload_n hx hb dX6_formulas_12 rfl (lv_at hl 0 rfl) ?_
    refine kg_X6_count hcf hK (kw_689 htk) (x := (σ.1 8)) dX6_formulas_13 hw rfl ?_
    refine lv_goto (tgt := 20) hx hb dX6_formulas_16 (by decide) ?_
    exact kret_i hcf hr hlk hK hw (rt2 hR hE0) hQ0 dX6_formulas_20
