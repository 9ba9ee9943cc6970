def fX5_byteOf (N : Nat) (σ : vS) (p0 : Int64) (p2 : Int32) : Option (Int32) :=
  some (((p0.toUInt64 >>> (((8 : Int32) * p2).toInt64.toUInt64 &&& Int64.toUInt64 63)).toInt64).toInt32 &&& (255 : Int32))
abbrev rmX5_byteOf : Room := { frames := 0, cells := 0, slots := 0, locals := 0 }
abbrev wsX5_byteOf : List Cond := .code yX5_byteOf cX5_byteOf 3 (some .int) :: kws
theorem kcX5_byteOf {R : Room} {s : State} {args : Array Value} {own : String} {index : Nat} (htk : ∀ w ∈ kws, w.before args s = true) (hl : (Cond.methodLink own index yX5_byteOf).before args s = true) (hR : rmX5_byteOf.frames + 1 ≤ R.frames ∧ 8 + (3 + 11) + rmX5_byteOf.locals ≤ R.locals) : CallB R s args own index yX5_byteOf cX5_byteOf 3 (some .int) wsX5_byteOf rmX5_byteOf 0 0 2 ∧ (Cond.static yX5_byteOf).before args s = true :=
  ⟨callB_of 2 htk (k_good kc_482) rfl rfl rfl (kw_52 htk) hl (by decide +kernel) hR, (kw_481 htk)⟩
set_option maxRecDepth 100000 in
set_option maxHeartbeats 4000000 in
theorem mX5_byteOf (l : Launch) (D : va_G) (cs : Nat → ClassId) (ad : Nat → Nat) (N : Nat) (σ : vS) (p0 : Int64) (p2 : Int32) (r : Int32) (hf : fX5_byteOf N σ p0 p2 = some r) : k_MP l yX5_byteOf wsX5_byteOf rmX5_byteOf D (tK cs) (wK cs ad) [.long p0, .int p2] σ (.int r) := by
  refine k_ofP (cc := cX5_byteOf) (maxL := 3) (ret := (some .int)) (by decide) rfl (Nat.le_of_ble_eq_true rfl) ?_
  intro p e s m args below meth c ls hcf hr hlk hK hZ hl hw
  generalize hQ0 : MQ below _ args s 0 0 _ = Q0
  obtain ⟨T0, hE0⟩ : ∃ T, T = fX5_byteOf N σ p0 p2 := ⟨_, rfl⟩
  have hR := hE0.trans hf
  have hN0 : T0 ≠ none := by rw [hR]; exact fun h => nomatch h
  have hx := hcf.1
  have hb := hcf.2.1
  have htk := hcf.2.2.2.2
  have hown := hcf.2.2.2.1
  unfold fX5_byteOf at hE0
  replace hl : lv_has ls 3 [(0, .long p0), (2, .int p2)] := hl
  refine lv_lload_n hx hb dX5_byteOf_0 rfl (lv_at hl 0 rfl) ?_
  refine lv_bipush (v := 8) hx hb dX5_byteOf_1 rfl ?_
  refine lv_iload_n hx hb dX5_byteOf_3 rfl (lv_at hl 1 rfl) ?_
  refine lv_imul hx hb dX5_byteOf_4 ?_
  refine lv_lushr hx hb dX5_byteOf_5 rfl ?_
  refine lv_l2i hx hb dX5_byteOf_6 rfl ?_
  refine lv_sipush (v := 255) hx hb dX5_byteOf_7 rfl ?_
  refine lv_iand hx hb dX5_byteOf_10 ?_
  exact kretP_i hcf hr hlk hK hw (rt1 hR hE0) hQ0 dX5_byteOf_11
def jX5_charactersIn_22 (N : Nat) (σ : vS) (v2j22 : Int32) : Option (Int32) :=
  some v2j22
def bX5_charactersIn_2 (N : Nat) (σ : vS) (p0 : Int64) (v2h2 : Int32) : Option ((Int32) ⊕ (Int32)) :=
  if ((8 : Int32) ≤ v2h2) then (
    some (.inr v2h2)
  ) else (
    bd1 (fX5_byteOf N σ p0 v2h2) fun r1 =>
    if (r1 = 0) then (
      some (.inr v2h2)
    ) else (
      k_lt (v2h2 + (1 : Int32)) fun x2 =>
      some (.inl x2)
    )
  )
def fX5_charactersIn (N : Nat) (σ : vS) (p0 : Int64) : Option (Int32) :=
  bd1 (k_itr (fun zz => bX5_charactersIn_2 N σ p0 zz) N (0 : Int32)) fun q => jX5_charactersIn_22 N σ q
abbrev rmX5_charactersIn : Room := { frames := 1, cells := 0, slots := 0, locals := 22 }
abbrev wsX5_charactersIn : List Cond := .code yX5_charactersIn cX5_charactersIn 3 (some .int) :: kws
theorem kcX5_charactersIn {R : Room} {s : State} {args : Array Value} {own : String} {index : Nat} (htk : ∀ w ∈ kws, w.before args s = true) (hl : (Cond.methodLink own index yX5_charactersIn).before args s = true) (hR : rmX5_charactersIn.frames + 1 ≤ R.frames ∧ 8 + (3 + 11) + rmX5_charactersIn.locals ≤ R.locals) : CallB R s args own index yX5_charactersIn cX5_charactersIn 3 (some .int) wsX5_charactersIn rmX5_charactersIn 0 0 1 ∧ (Cond.static yX5_charactersIn).before args s = true :=
  ⟨callB_of 1 htk (k_good kc_479) rfl rfl rfl (kw_52 htk) hl (by decide +kernel) hR, (kw_478 htk)⟩
set_option maxRecDepth 100000 in
set_option maxHeartbeats 4000000 in
theorem mX5_charactersIn (l : Launch) (D : va_G) (cs : Nat → ClassId) (ad : Nat → Nat) (N : Nat) (σ : vS) (p0 : Int64) (r : Int32) (hf : fX5_charactersIn N σ p0 = some r) : k_MP l yX5_charactersIn wsX5_charactersIn rmX5_charactersIn D (tK cs) (wK cs ad) [.long p0] σ (.int r) := by
  refine k_ofP (cc := cX5_charactersIn) (maxL := 3) (ret := (some .int)) (by decide) rfl (Nat.le_of_ble_eq_true rfl) ?_
  intro p e s m args below meth c ls hcf hr hlk hK hZ hl hw
  generalize hQ0 : MQ below _ args s 0 0 _ = Q0
  obtain ⟨T0, hE0⟩ : ∃ T, T = fX5_charactersIn N σ p0 := ⟨_, rfl⟩
  have hR := hE0.trans hf
  have hN0 : T0 ≠ none := by rw [hR]; exact fun h => nomatch h
  have hx := hcf.1
  have hb := hcf.2.1
  have htk := hcf.2.2.2.2
  have hown := hcf.2.2.2.1
  unfold fX5_charactersIn at hE0
  replace hl : lv_has ls 3 [(0, .long p0)] := hl
  have J22 : ∀ (v2j22 : Int32) (ls : Array Slot), lv_has ls 3 [(2, .int v2j22)] → T0 = jX5_charactersIn_22 N σ v2j22 → W p l e rmX5_charactersIn s m args below meth c s.heap [] 0 0 Q0 (F0 m 22 ls []) := by
    intro v2j22 ls hl hE0
    unfold jX5_charactersIn_22 at hE0
    refine lv_iload_n hx hb dX5_charactersIn_22 rfl (lv_at hl 0 rfl) ?_
    exact kretP_i hcf hr hlk hK hw (rt1 hR hE0) hQ0 dX5_charactersIn_23
  refine lv_iconst (v := 0) hx hb dX5_charactersIn_0 rfl ?_
  refine lv_istore_n hx hb dX5_charactersIn_1 rfl hl (Nat.le_of_ble_eq_true rfl) rfl (fun ls (hl : lv_has ls 3 [(2, .int (0 : Int32)), (0, .long p0)]) => ?_)
  obtain ⟨q, hq, hE0⟩ := bd1_e hE0 hN0
  refine k_ind (P := fun zz => ∀ (ls : Array Slot), lv_has ls 3 [(0, .long p0), (2, .int zz)] → W p l e rmX5_charactersIn s m args below meth c s.heap [] 0 0 Q0 (F0 m 2 ls [])) ?_ N _ hq ls (lv_sub hl [1, 0] rfl)
  intro sX T1 hE1 hN1 hC1 hX1
  obtain ⟨v2h2, hsg⟩ : ∃ z, z = sX := ⟨_, rfl⟩
  subst hsg
  replace hE1 : T1 = bX5_charactersIn_2 N σ p0 v2h2 := hE1
  unfold bX5_charactersIn_2 at hE1
  intro ls hl
  replace hl : lv_has ls 3 [(0, .long p0), (2, .int v2h2)] := hl
  refine lv_iload_n hx hb dX5_charactersIn_2 rfl (lv_at hl 1 rfl) ?_
  refine lv_bipush (v := 8) hx hb dX5_charactersIn_3 rfl ?_
  refine lv_icmp_ge (tgt := 22) hx hb dX5_charactersIn_5 (by decide) (fun c4 => ?_) (fun c4 => ?_)
  · have hE1 := ite_t hE1 c4
    have hq := hX1 _ hE1
    subst hq
    exact J22 v2h2 ls (lv_sub hl [1] rfl) hE0
  · have hE1 := ite_f hE1 c4
    refine lv_lload_n hx hb dX5_charactersIn_8 rfl (lv_at hl 0 rfl) ?_
    refine lv_iload_n hx hb dX5_charactersIn_9 rfl (lv_at hl 1 rfl) ?_
    obtain ⟨r1, k1, hE1⟩ := bd1_e hE1 hN1
    refine k_callP (va_runS (As := [.long p0, .int v2h2]) (rest := []) hcf (mX5_byteOf l D cs ad N σ p0 v2h2 r1 k1) (kcX5_byteOf htk (kw_480 htk) ⟨Nat.le_of_ble_eq_true rfl, Nat.le_of_ble_eq_true rfl⟩) ⟨k_blind, k_pre hK hZ hw⟩ rfl rfl hl.1 rfl (lv_room (Nat.le_of_ble_eq_true rfl)) dX5_charactersIn_10 ⟨Nat.zero_le _, Nat.zero_le _⟩) ?_
    refine lv_if_eq (tgt := 22) hx hb dX5_charactersIn_13 (by decide) (fun c3 => ?_) (fun c3 => ?_)
    · have hE1 := ite_t hE1 c3
      have hq := hX1 _ hE1
      subst hq
      exact J22 v2h2 ls (lv_sub hl [1] rfl) hE0
    · have hE1 := ite_f hE1 c3
      obtain ⟨x2, e_x2, hE1⟩ := k_lte hE1
      refine lv_iinc (k := 1) (v := x2) hx hb dX5_charactersIn_16 hl rfl (Eq.symm e_x2) (Nat.le_of_ble_eq_true rfl) rfl (fun ls (hl : lv_has ls 3 [(2, .int x2), (0, .long p0)]) => ?_)
      refine lv_goto (tgt := 2) hx hb dX5_charactersIn_19 (by decide) ?_
      exact hC1 _ hE1 ls (lv_sub hl [1, 0] rfl)
def fX5_isPrintable (N : Nat) (σ : vS) (p0 : Int32) : Option (Int32) :=
  if (p0 < (32 : Int32)) then (
    some (0 : Int32)
  ) else (
    if ((126 : Int32) < p0) then (
      some (0 : Int32)
    ) else (
      some (1 : Int32)
    )
  )
abbrev rmX5_isPrintable : Room := { frames := 0, cells := 0, slots := 0, locals := 0 }
abbrev wsX5_isPrintable : List Cond := .code yX5_isPrintable cX5_isPrintable 1 (some .boolean) :: kws
theorem kcX5_isPrintable {R : Room} {s : State} {args : Array Value} {own : String} {index : Nat} (htk : ∀ w ∈ kws, w.before args s = true) (hl : (Cond.methodLink own index yX5_isPrintable).before args s = true) (hR : rmX5_isPrintable.frames + 1 ≤ R.frames ∧ 8 + (1 + 11) + rmX5_isPrintable.locals ≤ R.locals) : CallB R s args own index yX5_isPrintable cX5_isPrintable 1 (some .boolean) wsX5_isPrintable rmX5_isPrintable 0 0 1 ∧ (Cond.static yX5_isPrintable).before args s = true :=
  ⟨callB_of 1 htk (k_good kc_485) rfl rfl rfl (kw_52 htk) hl (by decide +kernel) hR, (kw_484 htk)⟩
set_option maxRecDepth 100000 in
set_option maxHeartbeats 4000000 in
theorem mX5_isPrintable (l : Launch) (D : va_G) (cs : Nat → ClassId) (ad : Nat → Nat) (N : Nat) (σ : vS) (p0 : Int32) (r : Int32) (hf : fX5_isPrintable N σ p0 = some r) : k_MP l yX5_isPrintable wsX5_isPrintable rmX5_isPrintable D (tK cs) (wK cs ad) [.int p0] σ (.int r) := by
  refine k_ofP (cc := cX5_isPrintable) (maxL := 1) (ret := (some .boolean)) (by decide) rfl (Nat.le_of_ble_eq_true rfl) ?_
  intro p e s m args below meth c ls hcf hr hlk hK hZ hl hw
  generalize hQ0 : MQ below _ args s 0 0 _ = Q0
  obtain ⟨T0, hE0⟩ : ∃ T, T = fX5_isPrintable N σ p0 := ⟨_, rfl⟩
  have hR := hE0.trans hf
  have hN0 : T0 ≠ none := by rw [hR]; exact fun h => nomatch h
  have hx := hcf.1
  have hb := hcf.2.1
  have htk := hcf.2.2.2.2
  have hown := hcf.2.2.2.1
  unfold fX5_isPrintable at hE0
  replace hl : lv_has ls 1 [(0, .int p0)] := hl
  refine lv_iload_n hx hb dX5_isPrintable_0 rfl (lv_at hl 0 rfl) ?_
  refine lv_bipush (v := 32) hx hb dX5_isPrintable_1 rfl ?_
  refine lv_icmp_lt (tgt := 16) hx hb dX5_isPrintable_3 (by decide) (fun c2 => ?_) (fun c2 => ?_)
  · have hE0 := ite_t hE0 c2
    refine lv_iconst (v := 0) hx hb dX5_isPrintable_16 rfl ?_
    exact kretP_z hcf hr hlk hK hw (rt1 hR hE0) hQ0 rfl dX5_isPrintable_17
  · have hE0 := ite_f hE0 c2
    refine lv_iload_n hx hb dX5_isPrintable_6 rfl (lv_at hl 0 rfl) ?_
    refine lv_bipush (v := 126) hx hb dX5_isPrintable_7 rfl ?_
    refine lv_icmp_gt (tgt := 16) hx hb dX5_isPrintable_9 (by decide) (fun c1 => ?_) (fun c1 => ?_)
    · have hE0 := ite_t hE0 c1
      refine lv_iconst (v := 0) hx hb dX5_isPrintable_16 rfl ?_
      exact kretP_z hcf hr hlk hK hw (rt1 hR hE0) hQ0 rfl dX5_isPrintable_17
    · have hE0 := ite_f hE0 c1
      refine lv_iconst (v := 1) hx hb dX5_isPrintable_12 rfl ?_
      refine lv_goto (tgt := 17) hx hb dX5_isPrintable_13 (by decide) ?_
      exact kretP_z hcf hr hlk hK hw (rt1 hR hE0) hQ0 rfl dX5_isPrintable_17
def fX4_add (N : Nat) (σ : vS) (p1 : Int32) : Option (vS) :=
  if ((100 : Int32) ≤ (σ.1 0)) then (
    some σ
  ) else (
    if ((σ.1 0) < 0 ∨ 100 ≤ ((σ.1 0)).toNatClampNeg) then none else
    some (p_i (p_a σ 0 (((σ.1 0)).toNatClampNeg) (vp_nar .char p1)) 0 ((σ.1 0) + (1 : Int32)))
  )
abbrev rmX4_add : Room := { frames := 0, cells := 0, slots := 0, locals := 0 }
abbrev wsX4_add : List Cond := .code yX4_add cX4_add 2 none :: kws
theorem kcX4_add {R : Room} {s : State} {args : Array Value} {own : String} {index : Nat} (htk : ∀ w ∈ kws, w.before args s = true) (hl : (Cond.methodLink own index yX4_add).before args s = true) (hR : rmX4_add.frames + 1 ≤ R.frames ∧ 8 + (2 + 11) + rmX4_add.locals ≤ R.locals) : CallW R s args own RX4 index yX4_add cX4_add 2 none wsX4_add rmX4_add 0 0 1 :=
  ⟨callB_of 1 htk (k_good kc_568) rfl rfl rfl (kw_54 htk) hl (by decide +kernel) hR, (kw_566 htk), (kw_567 htk)⟩
set_option maxRecDepth 100000 in
set_option maxHeartbeats 4000000 in
theorem mX4_add (l : Launch) (D : va_G) (cs : Nat → ClassId) (ad : Nat → Nat) (N : Nat) (σ : vS) (p1 : Int32) (σ' : vS) (hf : fX4_add N σ p1 = some σ') : k_Met l yX4_add wsX4_add rmX4_add D (tK cs) (wK cs ad) (k_A 41 ad) [.ref (ad 4), .int p1] σ none σ' := by
  refine k_of (cc := cX4_add) (maxL := 2) (ret := none) (by decide) rfl (Nat.le_of_ble_eq_true rfl) ?_
  intro p e s m args below meth c ls H locs hcf hr hlk hK hZ hl hw
  generalize hQ0 : MQ below _ args s 0 0 _ = Q0
  obtain ⟨T0, hE0⟩ : ∃ T, T = fX4_add N σ p1 := ⟨_, rfl⟩
  have hR := hE0.trans hf
  have hN0 : T0 ≠ none := by rw [hR]; exact fun h => nomatch h
  have hx := hcf.1
  have hb := hcf.2.1
  have htk := hcf.2.2.2.2
  have hown := hcf.2.2.2.1
  unfold fX4_add at hE0
  replace hl : lv_has ls 2 [(0, .ref (ad 4)), (1, .int p1)] := hl
  refine lv_aload_n hx hb dX4_add_0 rfl (lv_at hl 0 rfl) ?_
  refine kg_X4_length hcf hK (kw_90 htk) (x := (σ.1 0)) dX4_add_1 hw rfl ?_
  refine lv_bipush (v := 100) hx hb dX4_add_4 rfl ?_
  refine lv_icmp_ge (tgt := 29) hx hb dX4_add_6 (by decide) (fun c2 => ?_) (fun c2 => ?_)
  · have hE0 := ite_t hE0 c2
    exact kret_v hcf hr hlk hK hw (rt1 hR hE0) hQ0 dX4_add_29
  · have hE0 := ite_f hE0 c2
    refine lv_aload_n hx hb dX4_add_9 rfl (lv_at hl 0 rfl) ?_
    refine kg_X4_characters hcf hK (kw_88 htk) dX4_add_10 hw ?_
    refine lv_aload_n hx hb dX4_add_13 rfl (lv_at hl 0 rfl) ?_
    refine kg_X4_length hcf hK (kw_90 htk) (x := (σ.1 0)) dX4_add_14 hw rfl ?_
    refine lv_iload_n hx hb dX4_add_17 rfl (lv_at hl 1 rfl) ?_
    obtain ⟨g1, hE0⟩ := gd_e hE0 hN0
    refine kast_A0 hcf hK dX4_add_18 g1 hw (fun H locs hw => ?_)
    refine lv_aload_n hx hb dX4_add_19 rfl (lv_at hl 0 rfl) ?_
    refine lv_dup hx hb dX4_add_20 rfl ?_
    refine kg_X4_length hcf hK (kw_90 htk) (x := (σ.1 0)) dX4_add_21 hw rfl ?_
    refine lv_iconst (v := 1) hx hb dX4_add_24 rfl ?_
    refine lv_iadd hx hb dX4_add_25 ?_
    refine kp_X4_length hcf hK (kw_90 htk) dX4_add_26 hw (fun H locs hw => ?_)
    exact kret_v hcf hr hlk hK hw (rt1 hR hE0) hQ0 dX4_add_29
def fX1_clear (N : Nat) (σ : vS) : Option (vS) :=
  some (p_i (p_i (p_i (p_i σ 2 (0 : Int32)) 3 (0 : Int32)) 4 (0 : Int32)) 5 (0 : Int32))
abbrev rmX1_clear : Room := { frames := 0, cells := 0, slots := 0, locals := 0 }
abbrev wsX1_clear : List Cond := .code yX1_clear cX1_clear 1 none :: kws
theorem kcX1_clear {R : Room} {s : State} {args : Array Value} {own : String} {index : Nat} (htk : ∀ w ∈ kws, w.before args s = true) (hl : (Cond.methodLink own index yX1_clear).before args s = true) (hR : rmX1_clear.frames + 1 ≤ R.frames ∧ 8 + (1 + 11) + rmX1_clear.locals ≤ R.locals) : CallW R s args own RX1 index yX1_clear cX1_clear 1 none wsX1_clear rmX1_clear 0 0 0 :=
  ⟨callB_of 0 htk (k_good kc_260) rfl rfl rfl (kw_55 htk) hl (by decide +kernel) hR, (kw_258 htk), (kw_259 htk)⟩
set_option maxRecDepth 100000 in
set_option maxHeartbeats 4000000 in
theorem mX1_clear (l : Launch) (D : va_G) (cs : Nat → ClassId) (ad : Nat → Nat) (N : Nat) (σ : vS) (σ' : vS) (hf : fX1_clear N σ = some σ') : k_Met l yX1_clear wsX1_clear rmX1_clear D (tK cs) (wK cs ad) (k_A 41 ad) [.ref (ad 5)] σ none σ' := by
  refine k_of (cc := cX1_clear) (maxL := 1) (ret := none) (by decide) rfl (Nat.le_of_ble_eq_true rfl) ?_
  intro p e s m args below meth c ls H locs hcf hr hlk hK hZ hl hw
  generalize hQ0 : MQ below _ args s 0 0 _ = Q0
  obtain ⟨T0, hE0⟩ : ∃ T, T = fX1_clear N σ := ⟨_, rfl⟩
  have hR := hE0.trans hf
  have hN0 : T0 ≠ none := by rw [hR]; exact fun h => nomatch h
  have hx := hcf.1
  have hb := hcf.2.1
  have htk := hcf.2.2.2.2
  have hown := hcf.2.2.2.1
  unfold fX1_clear at hE0
  replace hl : lv_has ls 1 [(0, .ref (ad 5))] := hl
  refine lv_aload_n hx hb dX1_clear_0 rfl (lv_at hl 0 rfl) ?_
  refine lv_iconst (v := 0) hx hb dX1_clear_1 rfl ?_
  refine kp_X1_formulaCount hcf hK (kw_117 htk) dX1_clear_2 hw (fun H locs hw => ?_)
  refine lv_aload_n hx hb dX1_clear_5 rfl (lv_at hl 0 rfl) ?_
  refine lv_iconst (v := 0) hx hb dX1_clear_6 rfl ?_
  refine kp_X1_reactantCount hcf hK (kw_122 htk) dX1_clear_7 hw (fun H locs hw => ?_)
  refine lv_aload_n hx hb dX1_clear_10 rfl (lv_at hl 0 rfl) ?_
  refine lv_iconst (v := 0) hx hb dX1_clear_11 rfl ?_
  refine kp_X1_elementCount hcf hK (kw_126 htk) dX1_clear_12 hw (fun H locs hw => ?_)
  refine lv_aload_n hx hb dX1_clear_15 rfl (lv_at hl 0 rfl) ?_
  refine lv_iconst (v := 0) hx hb dX1_clear_16 rfl ?_
  refine kp_X1_charged hcf hK (kw_127 htk) dX1_clear_17 nz_0 hw (fun H locs hw => ?_)
  exact kret_v hcf hr hlk hK hw (rt1 hR hE0) hQ0 dX1_clear_20
def jX4_skipBlanks_38 (N : Nat) (σj38 : vS) : Option (vS) :=
  some σj38
def bX4_skipBlanks_0 (N : Nat) (σh0 : vS) : Option ((vS) ⊕ (vS)) :=
  if ((σh0.1 0) ≤ (σh0.1 1)) then (
    some (.inr σh0)
  ) else (
    if ((σh0.1 1) < 0 ∨ 100 ≤ ((σh0.1 1)).toNatClampNeg) then none else
    if ((σh0.2.1 0 (((σh0.1 1)).toNatClampNeg)) = (32 : Int32)) then (
      some (.inl (p_i σh0 1 ((σh0.1 1) + (1 : Int32))))
    ) else (
      some (.inr σh0)
    )
  )
def fX4_skipBlanks (N : Nat) (σ : vS) : Option (vS) :=
  bd1 (k_itr (fun zz => bX4_skipBlanks_0 N zz) N σ) fun q => jX4_skipBlanks_38 N q
abbrev rmX4_skipBlanks : Room := { frames := 0, cells := 0, slots := 0, locals := 0 }
abbrev wsX4_skipBlanks : List Cond := .code yX4_skipBlanks cX4_skipBlanks 1 none :: kws
theorem kcX4_skipBlanks {R : Room} {s : State} {args : Array Value} {own : String} {index : Nat} (htk : ∀ w ∈ kws, w.before args s = true) (hl : (Cond.methodLink own index yX4_skipBlanks).before args s = true) (hR : rmX4_skipBlanks.frames + 1 ≤ R.frames ∧ 8 + (1 + 11) + rmX4_skipBlanks.locals ≤ R.locals) : CallW R s args own RX4 index yX4_skipBlanks cX4_skipBlanks 1 none wsX4_skipBlanks rmX4_skipBlanks 0 0 0 :=
  ⟨callB_of 0 htk (k_good kc_264) rfl rfl rfl (kw_54 htk) hl (by decide +kernel) hR, (kw_262 htk), (kw_263 htk)⟩
set_option maxRecDepth 100000 in
set_option maxHeartbeats 4000000 in
theorem mX4_skipBlanks (l : Launch) (D : va_G) (cs : Nat → ClassId) (ad : Nat → Nat) (N : Nat) (σ : vS) (σ' : vS) (hf : fX4_skipBlanks N σ = some σ') : k_Met l yX4_skipBlanks wsX4_skipBlanks rmX4_skipBlanks D (tK cs) (wK cs ad) (k_A 41 ad) [.ref (ad 4)] σ none σ' := by
  refine k_of (cc := cX4_skipBlanks) (maxL := 1) (ret := none) (by decide) rfl (Nat.le_of_ble_eq_true rfl) ?_
  intro p e s m args below meth c ls H locs hcf hr hlk hK hZ hl hw
  generalize hQ0 : MQ below _ args s 0 0 _ = Q0
  obtain ⟨T0, hE0⟩ : ∃ T, T = fX4_skipBlanks N σ := ⟨_, rfl⟩
  have hR := hE0.trans hf
  have hN0 : T0 ≠ none := by rw [hR]; exact fun h => nomatch h
  have hx := hcf.1
  have hb := hcf.2.1
  have htk := hcf.2.2.2.2
  have hown := hcf.2.2.2.1
  unfold fX4_skipBlanks at hE0
  replace hl : lv_has ls 1 [(0, .ref (ad 4))] := hl
  have J38 : ∀ (σj38 : vS) (H : Heap) (locs : List Loc) (ls : Array Slot), lv_has ls 1 [] → k_H D (wK cs ad) (k_A 41 ad) σj38 s.heap H locs → T0 = jX4_skipBlanks_38 N σj38 → W p l e rmX4_skipBlanks s m args below meth c H locs 0 0 Q0 (F0 m 38 ls []) := by
    intro σj38 H locs ls hl hw hE0
    unfold jX4_skipBlanks_38 at hE0
    exact kret_v hcf hr hlk hK hw (rt1 hR hE0) hQ0 dX4_skipBlanks_38
  obtain ⟨q, hq, hE0⟩ := bd1_e hE0 hN0
  refine k_ind (P := fun zz => ∀ (H : Heap) (locs : List Loc) (ls : Array Slot), lv_has ls 1 [(0, .ref (ad 4))] → k_H D (wK cs ad) (k_A 41 ad) zz s.heap H locs → W p l e rmX4_skipBlanks s m args below meth c H locs 0 0 Q0 (F0 m 0 ls [])) ?_ N _ hq H locs ls (lv_sub hl [0] rfl) hw
  intro sX T1 hE1 hN1 hC1 hX1
  obtain ⟨σh0, hsg⟩ : ∃ z, z = sX := ⟨_, rfl⟩
  subst hsg
  replace hE1 : T1 = bX4_skipBlanks_0 N σh0 := hE1
  unfold bX4_skipBlanks_0 at hE1
  intro H locs ls hl hw
  replace hl : lv_has ls 1 [(0, .ref (ad 4))] := hl
  replace hw : k_H D (wK cs ad) (k_A 41 ad) σh0 s.heap H locs := hw
  refine lv_aload_n hx hb dX4_skipBlanks_0 rfl (lv_at hl 0 rfl) ?_
  refine kg_X4_place hcf hK (kw_92 htk) (x := (σh0.1 1)) dX4_skipBlanks_1 hw rfl ?_
  refine lv_aload_n hx hb dX4_skipBlanks_4 rfl (lv_at hl 0 rfl) ?_
  refine kg_X4_length hcf hK (kw_90 htk) (x := (σh0.1 0)) dX4_skipBlanks_5 hw rfl ?_
  refine lv_icmp_ge (tgt := 38) hx hb dX4_skipBlanks_8 (by decide) (fun c3 => ?_) (fun c3 => ?_)
  · have hE1 := ite_t hE1 c3
    have hq := hX1 _ hE1
    subst hq
    exact J38 σh0 H locs ls (lv_sub hl [] rfl) hw hE0
  · have hE1 := ite_f hE1 c3
    refine lv_aload_n hx hb dX4_skipBlanks_11 rfl (lv_at hl 0 rfl) ?_
    refine kg_X4_characters hcf hK (kw_88 htk) dX4_skipBlanks_12 hw ?_
    refine lv_aload_n hx hb dX4_skipBlanks_15 rfl (lv_at hl 0 rfl) ?_
    refine kg_X4_place hcf hK (kw_92 htk) (x := (σh0.1 1)) dX4_skipBlanks_16 hw rfl ?_
    obtain ⟨g1, hE1⟩ := gd_e hE1 hN1
    refine kald_A0 hcf hK (x := (σh0.2.1 0 (((σh0.1 1)).toNatClampNeg))) dX4_skipBlanks_19 g1 hw rfl ?_
    refine lv_bipush (v := 32) hx hb dX4_skipBlanks_20 rfl ?_
    refine lv_icmp_ne (tgt := 38) hx hb dX4_skipBlanks_22 (by decide) (fun c2 => ?_) (fun c2 => ?_)
    · have hE1 := ite_f hE1 c2
      have hq := hX1 _ hE1
      subst hq
      exact J38 σh0 H locs ls (lv_sub hl [] rfl) hw hE0
    · have hE1 := ite_t hE1 c2
      refine lv_aload_n hx hb dX4_skipBlanks_25 rfl (lv_at hl 0 rfl) ?_
      refine lv_dup hx hb dX4_skipBlanks_26 rfl ?_
      refine kg_X4_place hcf hK (kw_92 htk) (x := (σh0.1 1)) dX4_skipBlanks_27 hw rfl ?_
      refine lv_iconst (v := 1) hx hb dX4_skipBlanks_30 rfl ?_
      refine lv_iadd hx hb dX4_skipBlanks_31 ?_
      refine kp_X4_place hcf hK (kw_92 htk) dX4_skipBlanks_32 hw (fun H locs hw => ?_)
      refine lv_goto (tgt := 0) hx hb dX4_skipBlanks_35 (by decide) ?_
      exact hC1 _ hE1 H locs ls (lv_sub hl [0] rfl) hw
def jJ0_fill_22 (N : Nat) (b0 : Nat) (σj22 : vS) : Option (vS) :=
  some σj22
def bJ0_fill_6 (N : Nat) (b0 : Nat) (p1 : Int64) (x1 : Int32) (v3h6 : Int32) (σh6 : vS) : Option ((Int32 × vS) ⊕ (vS)) :=
  if (x1 ≤ v3h6) then (
    some (.inr σh6)
  ) else (
    if (v3h6 < 0 ∨ (k_len b0) ≤ (v3h6).toNatClampNeg) then none else
    k_lt (v3h6 + (1 : Int32)) fun x3 =>
    some (.inl (x3, (p_b σh6 b0 ((v3h6).toNatClampNeg) p1)))
  )
def fJ0_fill (N : Nat) (σ : vS) (b0 : Nat) (p1 : Int64) : Option (vS) :=
  k_lt (Int32.ofNat (k_len b0)) fun x1 =>
  bd1 (k_itr (fun zz => bJ0_fill_6 N b0 p1 x1 zz.1 zz.2) N ((0 : Int32), σ)) fun q => jJ0_fill_22 N b0 q
abbrev rmJ0_fill : Room := { frames := 0, cells := 0, slots := 0, locals := 0 }
abbrev wsJ0_fill : List Cond := .code yJ0_fill cJ0_fill 5 none :: kws
theorem kcJ0_fill {R : Room} {s : State} {args : Array Value} {own : String} {index : Nat} (htk : ∀ w ∈ kws, w.before args s = true) (hl : (Cond.methodLink own index yJ0_fill).before args s = true) (hR : rmJ0_fill.frames + 1 ≤ R.frames ∧ 8 + (5 + 11) + rmJ0_fill.locals ≤ R.locals) : CallB R s args own index yJ0_fill cJ0_fill 5 none wsJ0_fill rmJ0_fill 0 0 2 ∧ (Cond.static yJ0_fill).before args s = true :=
  ⟨callB_of 2 htk (k_good kc_271) rfl rfl rfl (kw_64 htk) hl (by decide +kernel) hR, (kw_270 htk)⟩
set_option maxRecDepth 100000 in
set_option maxHeartbeats 4000000 in
theorem mJ0_fill (l : Launch) (D : va_G) (cs : Nat → ClassId) (ad : Nat → Nat) (N : Nat) (σ : vS) (b0 : Nat) (p1 : Int64) (σ' : vS) (hf : fJ0_fill N σ b0 p1 = some σ') (h_b0 : b0 < 16) : k_Met l yJ0_fill wsJ0_fill rmJ0_fill D (tK cs) (wK cs ad) (k_A 41 ad) [.ref (ad (25 + b0)), .long p1] σ none σ' := by
  refine k_of (cc := cJ0_fill) (maxL := 5) (ret := none) (by decide) rfl (Nat.le_of_ble_eq_true rfl) ?_
  intro p e s m args below meth c ls H locs hcf hr hlk hK hZ hl hw
  generalize hQ0 : MQ below _ args s 0 0 _ = Q0
  obtain ⟨T0, hE0⟩ : ∃ T, T = fJ0_fill N σ b0 p1 := ⟨_, rfl⟩
  have hR := hE0.trans hf
  have hN0 : T0 ≠ none := by rw [hR]; exact fun h => nomatch h
  have hx := hcf.1
  have hb := hcf.2.1
  have htk := hcf.2.2.2.2
  have hown := hcf.2.2.2.1
  unfold fJ0_fill at hE0
  replace hl : lv_has ls 5 [(0, .ref (ad (25 + b0))), (1, .long p1)] := hl
  have J22 : ∀ (σj22 : vS) (H : Heap) (locs : List Loc) (ls : Array Slot), lv_has ls 5 [] → k_H D (wK cs ad) (k_A 41 ad) σj22 s.heap H locs → T0 = jJ0_fill_22 N b0 σj22 → W p l e rmJ0_fill s m args below meth c H locs 0 0 Q0 (F0 m 22 ls []) := by
    intro σj22 H locs ls hl hw hE0
    unfold jJ0_fill_22 at hE0
    exact kret_v hcf hr hlk hK hw (rt1 hR hE0) hQ0 dJ0_fill_22
  refine lv_iconst (v := 0) hx hb dJ0_fill_0 rfl ?_
  refine lv_istore_n hx hb dJ0_fill_1 rfl hl (Nat.le_of_ble_eq_true rfl) rfl (fun ls (hl : lv_has ls 5 [(3, .int (0 : Int32)), (0, .ref (ad (25 + b0))), (1, .long p1)]) => ?_)
  refine lv_aload_n hx hb dJ0_fill_2 rfl (lv_at hl 1 rfl) ?_
  refine klen_B hcf hK dJ0_fill_3 h_b0 hw ?_
  refine lv_topi (fun x1 e_x1 => ?_)
  have hE0 := k_lts hE0 e_x1
  refine lv_istore hx hb dJ0_fill_4 hl (Nat.le_of_ble_eq_true rfl) rfl (fun ls (hl : lv_has ls 5 [(4, .int x1), (3, .int (0 : Int32)), (0, .ref (ad (25 + b0))), (1, .long p1)]) => ?_)
  obtain ⟨q, hq, hE0⟩ := bd1_e hE0 hN0
  refine k_ind (P := fun zz => ∀ (H : Heap) (locs : List Loc) (ls : Array Slot), lv_has ls 5 [(0, .ref (ad (25 + b0))), (1, .long p1), (3, .int zz.1), (4, .int x1)] → k_H D (wK cs ad) (k_A 41 ad) zz.2 s.heap H locs → W p l e rmJ0_fill s m args below meth c H locs 0 0 Q0 (F0 m 6 ls [])) ?_ N _ hq H locs ls (lv_sub hl [2, 3, 1, 0] rfl) hw
  intro sX T1 hE1 hN1 hC1 hX1
  obtain ⟨v3h6, σh6⟩ := sX
  replace hE1 : T1 = bJ0_fill_6 N b0 p1 x1 v3h6 σh6 := hE1
  unfold bJ0_fill_6 at hE1
  intro H locs ls hl hw
  replace hl : lv_has ls 5 [(0, .ref (ad (25 + b0))), (1, .long p1), (3, .int v3h6), (4, .int x1)] := hl
  replace hw : k_H D (wK cs ad) (k_A 41 ad) σh6 s.heap H locs := hw
  refine lv_iload_n hx hb dJ0_fill_6 rfl (lv_at hl 2 rfl) ?_
  refine lv_iload hx hb dJ0_fill_7 (lv_at hl 3 rfl) ?_
  refine lv_icmp_ge (tgt := 22) hx hb dJ0_fill_9 (by decide) (fun c4 => ?_) (fun c4 => ?_)
  · have hE1 := ite_t hE1 c4
    have hq := hX1 _ hE1
    subst hq
    exact J22 σh6 H locs ls (lv_sub hl [] rfl) hw hE0
  · have hE1 := ite_f hE1 c4
    refine lv_aload_n hx hb dJ0_fill_12 rfl (lv_at hl 0 rfl) ?_
    refine lv_iload_n hx hb dJ0_fill_13 rfl (lv_at hl 2 rfl) ?_
    refine lv_lload_n hx hb dJ0_fill_14 rfl (lv_at hl 1 rfl) ?_
    obtain ⟨g2, hE1⟩ := gd_e hE1 hN1
    refine kast_B hcf hK dJ0_fill_15 h_b0 g2 hw (fun H locs hw => ?_)
    obtain ⟨x3, e_x3, hE1⟩ := k_lte hE1
    refine lv_iinc (k := 2) (v := x3) hx hb dJ0_fill_16 hl rfl (Eq.symm e_x3) (Nat.le_of_ble_eq_true rfl) rfl (fun ls (hl : lv_has ls 5 [(3, .int x3), (0, .ref (ad (25 + b0))), (1, .long p1), (4, .int x1)]) => ?_)
    refine lv_goto (tgt := 6) hx hb dJ0_fill_19 (by decide) ?_
    exact hC1 _ hE1 H locs ls (lv_sub hl [1, 2, 0, 3] rfl) hw
def fX3_beginFormula (N : Nat) (σ : vS) : Option (vS) :=
  bd1 (fJ0_fill N σ 0 (0 : Int64)) fun σ1 =>
  some (p_i σ1 9 (0 : Int32))
abbrev rmX3_beginFormula : Room := { frames := 1, cells := 0, slots := 0, locals := 24 }
abbrev wsX3_beginFormula : List Cond := .code yX3_beginFormula cX3_beginFormula 1 none :: kws
theorem kcX3_beginFormula {R : Room} {s : State} {args : Array Value} {own : String} {index : Nat} (htk : ∀ w ∈ kws, w.before args s = true) (hl : (Cond.methodLink own index yX3_beginFormula).before args s = true) (hR : rmX3_beginFormula.frames + 1 ≤ R.frames ∧ 8 + (1 + 11) + rmX3_beginFormula.locals ≤ R.locals) : CallW R s args own RX3 index yX3_beginFormula cX3_beginFormula 1 none wsX3_beginFormula rmX3_beginFormula 0 0 0 :=
  ⟨callB_of 0 htk (k_good kc_268) rfl rfl rfl (kw_53 htk) hl (by decide +kernel) hR, (kw_267 htk), (kw_0 htk)⟩
set_option maxRecDepth 100000 in
set_option maxHeartbeats 4000000 in
theorem mX3_beginFormula (l : Launch) (D : va_G) (cs : Nat → ClassId) (ad : Nat → Nat) (N : Nat) (σ : vS) (σ' : vS) (hf : fX3_beginFormula N σ = some σ') : k_Met l yX3_beginFormula wsX3_beginFormula rmX3_beginFormula D (tK cs) (wK cs ad) (k_A 41 ad) [.ref (ad 1)] σ none σ' := by
  refine k_of (cc := cX3_beginFormula) (maxL := 1) (ret := none) (by decide) rfl (Nat.le_of_ble_eq_true rfl) ?_
  intro p e s m args below meth c ls H locs hcf hr hlk hK hZ hl hw
  generalize hQ0 : MQ below _ args s 0 0 _ = Q0
  obtain ⟨T0, hE0⟩ : ∃ T, T = fX3_beginFormula N σ := ⟨_, rfl⟩
  have hR := hE0.trans hf
  have hN0 : T0 ≠ none := by rw [hR]; exact fun h => nomatch h
  have hx := hcf.1
  have hb := hcf.2.1
  have htk := hcf.2.2.2.2
  have hown := hcf.2.2.2.1
  unfold fX3_beginFormula at hE0
  replace hl : lv_has ls 1 [(0, .ref (ad 1))] := hl
  refine lv_aload_n hx hb dX3_beginFormula_0 rfl (lv_at hl 0 rfl) ?_
  refine kg_X3_totals hcf hK (kw_161 htk) dX3_beginFormula_1 hw ?_
  refine lv_lconst (v := 0) hx hb dX3_beginFormula_4 rfl ?_
  obtain ⟨σ1, k1, hE0⟩ := bd1_e hE0 hN0
  refine k_call (va_runS (As := [.ref (ad 25), .long (0 : Int64)]) (rest := []) hcf (mJ0_fill l D cs ad N σ 0 (0 : Int64) σ1 k1 (by decide)) (kcJ0_fill htk (kw_269 htk) ⟨Nat.le_of_ble_eq_true rfl, Nat.le_of_ble_eq_true rfl⟩) ⟨k_blind, k_pre hK hZ hw⟩ rfl rfl hl.1 rfl (lv_room (Nat.le_of_ble_eq_true rfl)) dX3_beginFormula_5 ⟨Nat.zero_le _, Nat.zero_le _⟩) hw (fun H locs hw => ?_)
  refine lv_aload_n hx hb dX3_beginFormula_8 rfl (lv_at hl 0 rfl) ?_
  refine lv_iconst (v := 0) hx hb dX3_beginFormula_9 rfl ?_
  refine kp_X3_charge hcf hK (kw_162 htk) dX3_beginFormula_10 hw (fun H locs hw => ?_)
  exact kret_v hcf hr hlk hK hw (rt1 hR hE0) hQ0 dX3_beginFormula_13
def fX3_meet (N : Nat) (σ : vS) (p1 : Int32) (p2 : Int32) : Option (vS) :=
  some (p_i (p_i σ 6 p1) 7 p2)
abbrev rmX3_meet : Room := { frames := 0, cells := 0, slots := 0, locals := 0 }
abbrev wsX3_meet : List Cond := .code yX3_meet cX3_meet 3 none :: kws
theorem kcX3_meet {R : Room} {s : State} {args : Array Value} {own : String} {index : Nat} (htk : ∀ w ∈ kws, w.before args s = true) (hl : (Cond.methodLink own index yX3_meet).before args s = true) (hR : rmX3_meet.frames + 1 ≤ R.frames ∧ 8 + (3 + 11) + rmX3_meet.locals ≤ R.locals) : CallW R s args own RX3 index yX3_meet cX3_meet 3 none wsX3_meet rmX3_meet 0 0 2 :=
  ⟨callB_of 2 htk (k_good kc_275) rfl rfl rfl (kw_53 htk) hl (by decide +kernel) hR, (kw_274 htk), (kw_1 htk)⟩
set_option maxRecDepth 100000 in
set_option maxHeartbeats 4000000 in
theorem mX3_meet (l : Launch) (D : va_G) (cs : Nat → ClassId) (ad : Nat → Nat) (N : Nat) (σ : vS) (p1 : Int32) (p2 : Int32) (σ' : vS) (hf : fX3_meet N σ p1 p2 = some σ') : k_Met l yX3_meet wsX3_meet rmX3_meet D (tK cs) (wK cs ad) (k_A 41 ad) [.ref (ad 1), .int p1, .int p2] σ none σ' := by
  refine k_of (cc := cX3_meet) (maxL := 3) (ret := none) (by decide) rfl (Nat.le_of_ble_eq_true rfl) ?_
  intro p e s m args below meth c ls H locs hcf hr hlk hK hZ hl hw
  generalize hQ0 : MQ below _ args s 0 0 _ = Q0
  obtain ⟨T0, hE0⟩ : ∃ T, T = fX3_meet N σ p1 p2 := ⟨_, rfl⟩
  have hR := hE0.trans hf
  have hN0 : T0 ≠ none := by rw [hR]; exact fun h => nomatch h
  have hx := hcf.1
  have hb := hcf.2.1
  have htk := hcf.2.2.2.2
  have hown := hcf.2.2.2.1
  unfold fX3_meet at hE0
  replace hl : lv_has ls 3 [(0, .ref (ad 1)), (1, .int p1), (2, .int p2)] := hl
  refine lv_aload_n hx hb dX3_meet_0 rfl (lv_at hl 0 rfl) ?_
  refine lv_iload_n hx hb dX3_meet_1 rfl (lv_at hl 1 rfl) ?_
  refine kp_X3_fault hcf hK (kw_154 htk) dX3_meet_2 hw (fun H locs hw => ?_)
  refine lv_aload_n hx hb dX3_meet_5 rfl (lv_at hl 0 rfl) ?_
  refine lv_iload_n hx hb dX3_meet_6 rfl (lv_at hl 2 rfl) ?_
  refine kp_X3_faultPlace hcf hK (kw_156 htk) dX3_meet_7 hw (fun H locs hw => ?_)
  exact kret_v hcf hr hlk hK hw (rt1 hR hE0) hQ0 dX3_meet_10
def fX4_here (N : Nat) (σ : vS) : Option (Int32) :=
  if ((σ.1 1) < 0) then (
    some (0 : Int32)
  ) else (
    if ((σ.1 0) ≤ (σ.1 1)) then (
      some (0 : Int32)
    ) else (
      if ((σ.1 1) < 0 ∨ 100 ≤ ((σ.1 1)).toNatClampNeg) then none else
      if ¬ ((σ.2.1 0 (((σ.1 1)).toNatClampNeg)).toUInt32.toUInt16.toUInt32.toInt32 = (σ.2.1 0 (((σ.1 1)).toNatClampNeg))) then none else
      some (σ.2.1 0 (((σ.1 1)).toNatClampNeg))
    )
  )
abbrev rmX4_here : Room := { frames := 0, cells := 0, slots := 0, locals := 0 }
abbrev wsX4_here : List Cond := .code yX4_here cX4_here 1 (some .char) :: kws
theorem kcX4_here {R : Room} {s : State} {args : Array Value} {own : String} {index : Nat} (htk : ∀ w ∈ kws, w.before args s = true) (hl : (Cond.methodLink own index yX4_here).before args s = true) (hR : rmX4_here.frames + 1 ≤ R.frames ∧ 8 + (1 + 11) + rmX4_here.locals ≤ R.locals) : CallW R s args own RX4 index yX4_here cX4_here 1 (some .char) wsX4_here rmX4_here 0 0 0 :=
  ⟨callB_of 0 htk (k_good kc_279) rfl rfl rfl (kw_54 htk) hl (by decide +kernel) hR, (kw_277 htk), (kw_278 htk)⟩
set_option maxRecDepth 100000 in
set_option maxHeartbeats 4000000 in
theorem mX4_here (l : Launch) (D : va_G) (cs : Nat → ClassId) (ad : Nat → Nat) (N : Nat) (σ : vS) (r : Int32) (hf : fX4_here N σ = some r) : k_MP l yX4_here wsX4_here rmX4_here D (tK cs) (wK cs ad) [.ref (ad 4)] σ (.int r) := by
  refine k_ofP (cc := cX4_here) (maxL := 1) (ret := (some .char)) (by decide) rfl (Nat.le_of_ble_eq_true rfl) ?_
  intro p e s m args below meth c ls hcf hr hlk hK hZ hl hw
  generalize hQ0 : MQ below _ args s 0 0 _ = Q0
  obtain ⟨T0, hE0⟩ : ∃ T, T = fX4_here N σ := ⟨_, rfl⟩
  have hR := hE0.trans hf
  have hN0 : T0 ≠ none := by rw [hR]; exact fun h => nomatch h
  have hx := hcf.1
  have hb := hcf.2.1
  have htk := hcf.2.2.2.2
  have hown := hcf.2.2.2.1
  unfold fX4_here at hE0
  replace hl : lv_has ls 1 [(0, .ref (ad 4))] := hl
  refine lv_aload_n hx hb dX4_here_0 rfl (lv_at hl 0 rfl) ?_
  refine kg_X4_place hcf hK (kw_92 htk) (x := (σ.1 1)) dX4_here_1 hw rfl ?_
  refine lv_if_lt (tgt := 30) hx hb dX4_here_4 (by decide) (fun c4 => ?_) (fun c4 => ?_)
  · have hE0 := ite_t hE0 c4
    refine lv_iconst (v := 0) hx hb dX4_here_30 rfl ?_
    exact kretP_z hcf hr hlk hK hw (rt1 hR hE0) hQ0 rfl dX4_here_31
  · have hE0 := ite_f hE0 c4
    refine lv_aload_n hx hb dX4_here_7 rfl (lv_at hl 0 rfl) ?_
    refine kg_X4_place hcf hK (kw_92 htk) (x := (σ.1 1)) dX4_here_8 hw rfl ?_
    refine lv_aload_n hx hb dX4_here_11 rfl (lv_at hl 0 rfl) ?_
    refine kg_X4_length hcf hK (kw_90 htk) (x := (σ.1 0)) dX4_here_12 hw rfl ?_
    refine lv_icmp_ge (tgt := 30) hx hb dX4_here_15 (by decide) (fun c3 => ?_) (fun c3 => ?_)
    · have hE0 := ite_t hE0 c3
      refine lv_iconst (v := 0) hx hb dX4_here_30 rfl ?_
      exact kretP_z hcf hr hlk hK hw (rt1 hR hE0) hQ0 rfl dX4_here_31
    · have hE0 := ite_f hE0 c3
      refine lv_aload_n hx hb dX4_here_18 rfl (lv_at hl 0 rfl) ?_
      refine kg_X4_characters hcf hK (kw_88 htk) dX4_here_19 hw ?_
      refine lv_aload_n hx hb dX4_here_22 rfl (lv_at hl 0 rfl) ?_
      refine kg_X4_place hcf hK (kw_92 htk) (x := (σ.1 1)) dX4_here_23 hw rfl ?_
      obtain ⟨g1, hE0⟩ := gd_e hE0 hN0
      refine kald_A0 hcf hK (x := (σ.2.1 0 (((σ.1 1)).toNatClampNeg))) dX4_here_26 g1 hw rfl ?_
      refine lv_goto (tgt := 31) hx hb dX4_here_27 (by decide) ?_
      obtain ⟨g2, hE0⟩ := gd_e hE0 hN0
      exact kretP_z hcf hr hlk hK hw (rt1 hR hE0) hQ0 (nr_c g2) dX4_here_31
def fX4_ahead (N : Nat) (σ : vS) (p1 : Int32) : Option (Int32) :=
  k_lt ((σ.1 1) + p1) fun x1 =>
  if (x1 < 0) then (
    some (0 : Int32)
  ) else (
    if ((σ.1 0) ≤ x1) then (
      some (0 : Int32)
    ) else (
      if (x1 < 0 ∨ 100 ≤ (x1).toNatClampNeg) then none else
      if ¬ ((σ.2.1 0 ((x1).toNatClampNeg)).toUInt32.toUInt16.toUInt32.toInt32 = (σ.2.1 0 ((x1).toNatClampNeg))) then none else
      some (σ.2.1 0 ((x1).toNatClampNeg))
    )
  )
abbrev rmX4_ahead : Room := { frames := 0, cells := 0, slots := 0, locals := 0 }
abbrev wsX4_ahead : List Cond := .code yX4_ahead cX4_ahead 3 (some .char) :: kws
theorem kcX4_ahead {R : Room} {s : State} {args : Array Value} {own : String} {index : Nat} (htk : ∀ w ∈ kws, w.before args s = true) (hl : (Cond.methodLink own index yX4_ahead).before args s = true) (hR : rmX4_ahead.frames + 1 ≤ R.frames ∧ 8 + (3 + 11) + rmX4_ahead.locals ≤ R.locals) : CallW R s args own RX4 index yX4_ahead cX4_ahead 3 (some .char) wsX4_ahead rmX4_ahead 0 0 1 :=
  ⟨callB_of 1 htk (k_good kc_287) rfl rfl rfl (kw_54 htk) hl (by decide +kernel) hR, (kw_285 htk), (kw_286 htk)⟩
set_option maxRecDepth 100000 in
set_option maxHeartbeats 4000000 in
theorem mX4_ahead (l : Launch) (D : va_G) (cs : Nat → ClassId) (ad : Nat → Nat) (N : Nat) (σ : vS) (p1 : Int32) (r : Int32) (hf : fX4_ahead N σ p1 = some r) : k_MP l yX4_ahead wsX4_ahead rmX4_ahead D (tK cs) (wK cs ad) [.ref (ad 4), .int p1] σ (.int r) := by
  refine k_ofP (cc := cX4_ahead) (maxL := 3) (ret := (some .char)) (by decide) rfl (Nat.le_of_ble_eq_true rfl) ?_
  intro p e s m args below meth c ls hcf hr hlk hK hZ hl hw
  generalize hQ0 : MQ below _ args s 0 0 _ = Q0
  obtain ⟨T0, hE0⟩ : ∃ T, T = fX4_ahead N σ p1 := ⟨_, rfl⟩
  have hR := hE0.trans hf
  have hN0 : T0 ≠ none := by rw [hR]; exact fun h => nomatch h
  have hx := hcf.1
  have hb := hcf.2.1
  have htk := hcf.2.2.2.2
  have hown := hcf.2.2.2.1
  unfold fX4_ahead at hE0
  replace hl : lv_has ls 3 [(0, .ref (ad 4)), (1, .int p1)] := hl
  refine lv_aload_n hx hb dX4_ahead_0 rfl (lv_at hl 0 rfl) ?_
  refine kg_X4_place hcf hK (kw_92 htk) (x := (σ.1 1)) dX4_ahead_1 hw rfl ?_
  refine lv_iload_n hx hb dX4_ahead_4 rfl (lv_at hl 1 rfl) ?_
  refine lv_iadd hx hb dX4_ahead_5 ?_
  refine lv_topi (fun x1 e_x1 => ?_)
  have hE0 := k_lts hE0 e_x1
  refine lv_istore_n hx hb dX4_ahead_6 rfl hl (Nat.le_of_ble_eq_true rfl) rfl (fun ls (hl : lv_has ls 3 [(2, .int x1), (0, .ref (ad 4)), (1, .int p1)]) => ?_)
  refine lv_iload_n hx hb dX4_ahead_7 rfl (lv_at hl 0 rfl) ?_
  refine lv_if_lt (tgt := 28) hx hb dX4_ahead_8 (by decide) (fun c5 => ?_) (fun c5 => ?_)
  · have hE0 := ite_t hE0 c5
    refine lv_iconst (v := 0) hx hb dX4_ahead_28 rfl ?_
    exact kretP_z hcf hr hlk hK hw (rt1 hR hE0) hQ0 rfl dX4_ahead_29
  · have hE0 := ite_f hE0 c5
    refine lv_iload_n hx hb dX4_ahead_11 rfl (lv_at hl 0 rfl) ?_
    refine lv_aload_n hx hb dX4_ahead_12 rfl (lv_at hl 1 rfl) ?_
    refine kg_X4_length hcf hK (kw_90 htk) (x := (σ.1 0)) dX4_ahead_13 hw rfl ?_
    refine lv_icmp_ge (tgt := 28) hx hb dX4_ahead_16 (by decide) (fun c4 => ?_) (fun c4 => ?_)
    · have hE0 := ite_t hE0 c4
      refine lv_iconst (v := 0) hx hb dX4_ahead_28 rfl ?_
      exact kretP_z hcf hr hlk hK hw (rt1 hR hE0) hQ0 rfl dX4_ahead_29
    · have hE0 := ite_f hE0 c4
      refine lv_aload_n hx hb dX4_ahead_19 rfl (lv_at hl 1 rfl) ?_
      refine kg_X4_characters hcf hK (kw_88 htk) dX4_ahead_20 hw ?_
      refine lv_iload_n hx hb dX4_ahead_23 rfl (lv_at hl 0 rfl) ?_
      obtain ⟨g2, hE0⟩ := gd_e hE0 hN0
      refine kald_A0 hcf hK (x := (σ.2.1 0 ((x1).toNatClampNeg))) dX4_ahead_24 g2 hw rfl ?_
      refine lv_goto (tgt := 29) hx hb dX4_ahead_25 (by decide) ?_
      obtain ⟨g3, hE0⟩ := gd_e hE0 hN0
      exact kretP_z hcf hr hlk hK hw (rt1 hR hE0) hQ0 (nr_c g3) dX4_ahead_29
def fX1_admitCharge (N : Nat) (σ : vS) : Option (Int32 × vS) :=
  if ((σ.1 5) = 0) then (
    if ((5 : Int32) ≤ (σ.1 4)) then (
      some ((0 : Int32), (p_i σ 5 (0 : Int32)))
    ) else (
      some ((1 : Int32), (p_i σ 5 (1 : Int32)))
    )
  ) else (
    some ((1 : Int32), (p_i σ 5 (1 : Int32)))
  )
abbrev rmX1_admitCharge : Room := { frames := 0, cells := 0, slots := 0, locals := 0 }
abbrev wsX1_admitCharge : List Cond := .code yX1_admitCharge cX1_admitCharge 1 (some .boolean) :: kws
theorem kcX1_admitCharge {R : Room} {s : State} {args : Array Value} {own : String} {index : Nat} (htk : ∀ w ∈ kws, w.before args s = true) (hl : (Cond.methodLink own index yX1_admitCharge).before args s = true) (hR : rmX1_admitCharge.frames + 1 ≤ R.frames ∧ 8 + (1 + 11) + rmX1_admitCharge.locals ≤ R.locals) : CallW R s args own RX1 index yX1_admitCharge cX1_admitCharge 1 (some .boolean) wsX1_admitCharge rmX1_admitCharge 0 0 0 :=
  ⟨callB_of 0 htk (k_good kc_291) rfl rfl rfl (kw_55 htk) hl (by decide +kernel) hR, (kw_289 htk), (kw_290 htk)⟩
set_option maxRecDepth 100000 in
set_option maxHeartbeats 4000000 in
theorem mX1_admitCharge (l : Launch) (D : va_G) (cs : Nat → ClassId) (ad : Nat → Nat) (N : Nat) (σ : vS) (r : Int32) (σ' : vS) (hf : fX1_admitCharge N σ = some (r, σ')) : k_Met l yX1_admitCharge wsX1_admitCharge rmX1_admitCharge D (tK cs) (wK cs ad) (k_A 41 ad) [.ref (ad 5)] σ (some (.int r)) σ' := by
  refine k_of (cc := cX1_admitCharge) (maxL := 1) (ret := (some .boolean)) (by decide) rfl (Nat.le_of_ble_eq_true rfl) ?_
  intro p e s m args below meth c ls H locs hcf hr hlk hK hZ hl hw
  generalize hQ0 : MQ below _ args s 0 0 _ = Q0
  obtain ⟨T0, hE0⟩ : ∃ T, T = fX1_admitCharge N σ := ⟨_, rfl⟩
  have hR := hE0.trans hf
  have hN0 : T0 ≠ none := by rw [hR]; exact fun h => nomatch h
  have hx := hcf.1
  have hb := hcf.2.1
  have htk := hcf.2.2.2.2
  have hown := hcf.2.2.2.1
  unfold fX1_admitCharge at hE0
  replace hl : lv_has ls 1 [(0, .ref (ad 5))] := hl
  refine lv_aload_n hx hb dX1_admitCharge_0 rfl (lv_at hl 0 rfl) ?_
  refine lv_aload_n hx hb dX1_admitCharge_1 rfl (lv_at hl 0 rfl) ?_
  refine kg_X1_charged hcf hK (kw_127 htk) (x := (σ.1 5)) dX1_admitCharge_2 hw rfl ?_
  refine lv_if_ne (tgt := 16) hx hb dX1_admitCharge_5 (by decide) (fun c2 => ?_) (fun c2 => ?_)
  · have hE0 := ite_f hE0 c2
    refine lv_iconst (v := 1) hx hb dX1_admitCharge_16 rfl ?_
    refine lv_goto (tgt := 21) hx hb dX1_admitCharge_17 (by decide) ?_
    refine kp_X1_charged hcf hK (kw_127 htk) dX1_admitCharge_21 nz_1 hw (fun H locs hw => ?_)
    refine lv_aload_n hx hb dX1_admitCharge_24 rfl (lv_at hl 0 rfl) ?_
    refine kg_X1_charged hcf hK (kw_127 htk) (x := (1 : Int32)) dX1_admitCharge_25 hw rfl ?_
    exact kret_z hcf hr hlk hK hw (rt2 hR hE0) hQ0 rfl dX1_admitCharge_28
  · have hE0 := ite_t hE0 c2
    refine lv_aload_n hx hb dX1_admitCharge_8 rfl (lv_at hl 0 rfl) ?_
    refine kg_X1_elementCount hcf hK (kw_126 htk) (x := (σ.1 4)) dX1_admitCharge_9 hw rfl ?_
    refine lv_iconst (v := 5) hx hb dX1_admitCharge_12 rfl ?_
    refine lv_icmp_ge (tgt := 20) hx hb dX1_admitCharge_13 (by decide) (fun c1 => ?_) (fun c1 => ?_)
    · have hE0 := ite_t hE0 c1
      refine lv_iconst (v := 0) hx hb dX1_admitCharge_20 rfl ?_
      refine kp_X1_charged hcf hK (kw_127 htk) dX1_admitCharge_21 nz_0 hw (fun H locs hw => ?_)
      refine lv_aload_n hx hb dX1_admitCharge_24 rfl (lv_at hl 0 rfl) ?_
      refine kg_X1_charged hcf hK (kw_127 htk) (x := (0 : Int32)) dX1_admitCharge_25 hw rfl ?_
      exact kret_z hcf hr hlk hK hw (rt2 hR hE0) hQ0 rfl dX1_admitCharge_28
    · have hE0 := ite_f hE0 c1
      refine lv_iconst (v := 1) hx hb dX1_admitCharge_16 rfl ?_
      refine lv_goto (tgt := 21) hx hb dX1_admitCharge_17 (by decide) ?_
      refine kp_X1_charged hcf hK (kw_127 htk) dX1_admitCharge_21 nz_1 hw (fun H locs hw => ?_)
      refine lv_aload_n hx hb dX1_admitCharge_24 rfl (lv_at hl 0 rfl) ?_
      refine kg_X1_charged hcf hK (kw_127 htk) (x := (1 : Int32)) dX1_admitCharge_25 hw rfl ?_
      exact kret_z hcf hr hlk hK hw (rt2 hR hE0) hQ0 rfl dX1_admitCharge_28
def fX3_readElectron (N : Nat) (σ : vS) : Option (vS) :=
  bd1 (fX4_ahead N σ (1 : Int32)) fun r1 =>
  if (r1 = (94 : Int32)) then (
    bd1 (fX4_ahead N σ (2 : Int32)) fun r3 =>
    if (r3 = (45 : Int32)) then (
      bd2 (fX1_admitCharge N σ) fun r4 σ4 =>
      if (r4 = 0) then (
        bd1 (fX3_meet N σ4 (-5 : Int32) (σ4.1 1)) fun σ5 =>
        some σ5
      ) else (
        some (p_i (p_i σ4 9 (-1 : Int32)) 1 ((σ4.1 1) + (3 : Int32)))
      )
    ) else (
      bd1 (fX3_meet N σ (-2 : Int32) (σ.1 1)) fun σ7 =>
      some σ7
    )
  ) else (
    bd1 (fX3_meet N σ (-2 : Int32) (σ.1 1)) fun σ2 =>
    some σ2
  )
abbrev rmX3_readElectron : Room := { frames := 1, cells := 0, slots := 0, locals := 22 }
abbrev wsX3_readElectron : List Cond := .code yX3_readElectron cX3_readElectron 1 none :: kws
theorem kcX3_readElectron {R : Room} {s : State} {args : Array Value} {own : String} {index : Nat} (htk : ∀ w ∈ kws, w.before args s = true) (hl : (Cond.methodLink own index yX3_readElectron).before args s = true) (hR : rmX3_readElectron.frames + 1 ≤ R.frames ∧ 8 + (1 + 11) + rmX3_readElectron.locals ≤ R.locals) : CallW R s args own RX3 index yX3_readElectron cX3_readElectron 1 none wsX3_readElectron rmX3_readElectron 0 0 0 :=
  ⟨callB_of 0 htk (k_good kc_283) rfl rfl rfl (kw_53 htk) hl (by decide +kernel) hR, (kw_282 htk), (kw_2 htk)⟩
set_option maxRecDepth 100000 in
set_option maxHeartbeats 4000000 in
theorem mX3_readElectron (l : Launch) (D : va_G) (cs : Nat → ClassId) (ad : Nat → Nat) (N : Nat) (σ : vS) (σ' : vS) (hf : fX3_readElectron N σ = some σ') : k_Met l yX3_readElectron wsX3_readElectron rmX3_readElectron D (tK cs) (wK cs ad) (k_A 41 ad) [.ref (ad 1)] σ none σ' := by
  refine k_of (cc := cX3_readElectron) (maxL := 1) (ret := none) (by decide) rfl (Nat.le_of_ble_eq_true rfl) ?_
  intro p e s m args below meth c ls H locs hcf hr hlk hK hZ hl hw
  generalize hQ0 : MQ below _ args s 0 0 _ = Q0
  obtain ⟨T0, hE0⟩ : ∃ T, T = fX3_readElectron N σ := ⟨_, rfl⟩
  have hR := hE0.trans hf
  have hN0 : T0 ≠ none := by rw [hR]; exact fun h => nomatch h
  have hx := hcf.1
  have hb := hcf.2.1
  have htk := hcf.2.2.2.2
  have hown := hcf.2.2.2.1
  unfold fX3_readElectron at hE0
  replace hl : lv_has ls 1 [(0, .ref (ad 1))] := hl
  refine lv_aload_n hx hb dX3_readElectron_0 rfl (lv_at hl 0 rfl) ?_
  refine kg_X3_text hcf hK (kw_150 htk) dX3_readElectron_1 hw ?_
  refine lv_iconst (v := 1) hx hb dX3_readElectron_4 rfl ?_
  obtain ⟨r1, k1, hE0⟩ := bd1_e hE0 hN0
  refine k_callP (va_runV (As := [.int (1 : Int32)]) (rest := []) hcf (mX4_ahead l D cs ad N σ (1 : Int32) r1 k1) (kcX4_ahead htk (kw_284 htk) ⟨Nat.le_of_ble_eq_true rfl, Nat.le_of_ble_eq_true rfl⟩) ⟨k_blind, va_recv (ci := 4) (q0 := 4) hK hw.1 rfl rfl, k_pre hK hZ hw⟩ rfl rfl hl.1 rfl (lv_room (Nat.le_of_ble_eq_true rfl)) dX3_readElectron_5 ⟨Nat.zero_le _, Nat.zero_le _⟩) ?_
  refine lv_bipush (v := 94) hx hb dX3_readElectron_8 rfl ?_
  refine lv_icmp_ne (tgt := 26) hx hb dX3_readElectron_10 (by decide) (fun c9 => ?_) (fun c9 => ?_)
  · have hE0 := ite_f hE0 c9
    refine lv_aload_n hx hb dX3_readElectron_26 rfl (lv_at hl 0 rfl) ?_
    refine lv_bipush (v := -2) hx hb dX3_readElectron_27 rfl ?_
    refine lv_aload_n hx hb dX3_readElectron_29 rfl (lv_at hl 0 rfl) ?_
    refine kg_X3_text hcf hK (kw_150 htk) dX3_readElectron_30 hw ?_
    refine kg_X4_place hcf hK (kw_93 htk) (x := (σ.1 1)) dX3_readElectron_33 hw rfl ?_
    obtain ⟨σ2, k2, hE0⟩ := bd1_e hE0 hN0
    refine k_call (va_runV (As := [.int (-2 : Int32), .int (σ.1 1)]) (rest := []) hcf (mX3_meet l D cs ad N σ (-2 : Int32) (σ.1 1) σ2 k2) (kcX3_meet htk (kw_272 htk) ⟨Nat.le_of_ble_eq_true rfl, Nat.le_of_ble_eq_true rfl⟩) ⟨k_blind, va_recv (ci := 3) (q0 := 1) hK hw.1 rfl rfl, k_pre hK hZ hw⟩ rfl rfl hl.1 rfl (lv_room (Nat.le_of_ble_eq_true rfl)) dX3_readElectron_36 ⟨Nat.zero_le _, Nat.zero_le _⟩) hw (fun H locs hw => ?_)
    refine lv_goto (tgt := 86) hx hb dX3_readElectron_39 (by decide) ?_
    exact kret_v hcf hr hlk hK hw (rt1 hR hE0) hQ0 dX3_readElectron_86
  · have hE0 := ite_t hE0 c9
    refine lv_aload_n hx hb dX3_readElectron_13 rfl (lv_at hl 0 rfl) ?_
    refine kg_X3_text hcf hK (kw_150 htk) dX3_readElectron_14 hw ?_
    refine lv_iconst (v := 2) hx hb dX3_readElectron_17 rfl ?_
    obtain ⟨r3, k3, hE0⟩ := bd1_e hE0 hN0
    refine k_callP (va_runV (As := [.int (2 : Int32)]) (rest := []) hcf (mX4_ahead l D cs ad N σ (2 : Int32) r3 k3) (kcX4_ahead htk (kw_284 htk) ⟨Nat.le_of_ble_eq_true rfl, Nat.le_of_ble_eq_true rfl⟩) ⟨k_blind, va_recv (ci := 4) (q0 := 4) hK hw.1 rfl rfl, k_pre hK hZ hw⟩ rfl rfl hl.1 rfl (lv_room (Nat.le_of_ble_eq_true rfl)) dX3_readElectron_18 ⟨Nat.zero_le _, Nat.zero_le _⟩) ?_
    refine lv_bipush (v := 45) hx hb dX3_readElectron_21 rfl ?_
    refine lv_icmp_eq (tgt := 42) hx hb dX3_readElectron_23 (by decide) (fun c8 => ?_) (fun c8 => ?_)
    · have hE0 := ite_t hE0 c8
      refine lv_aload_n hx hb dX3_readElectron_42 rfl (lv_at hl 0 rfl) ?_
      refine kg_X3_equation hcf hK (kw_152 htk) dX3_readElectron_43 hw ?_
      obtain ⟨r4, σ4, k4, hE0⟩ := bd2_e hE0 hN0
      refine k_call (va_runV (As := []) (rest := []) hcf (mX1_admitCharge l D cs ad N σ r4 σ4 k4) (kcX1_admitCharge htk (kw_288 htk) ⟨Nat.le_of_ble_eq_true rfl, Nat.le_of_ble_eq_true rfl⟩) ⟨k_blind, va_recv (ci := 1) (q0 := 5) hK hw.1 rfl rfl, k_pre hK hZ hw⟩ rfl rfl hl.1 rfl (lv_room (Nat.le_of_ble_eq_true rfl)) dX3_readElectron_46 ⟨Nat.zero_le _, Nat.zero_le _⟩) hw (fun H locs hw => ?_)
      refine lv_if_ne (tgt := 68) hx hb dX3_readElectron_49 (by decide) (fun c6 => ?_) (fun c6 => ?_)
      · have hE0 := ite_f hE0 c6
        refine lv_aload_n hx hb dX3_readElectron_68 rfl (lv_at hl 0 rfl) ?_
        refine lv_iconst (v := -1) hx hb dX3_readElectron_69 rfl ?_
        refine kp_X3_charge hcf hK (kw_162 htk) dX3_readElectron_70 hw (fun H locs hw => ?_)
        refine lv_aload_n hx hb dX3_readElectron_73 rfl (lv_at hl 0 rfl) ?_
        refine kg_X3_text hcf hK (kw_150 htk) dX3_readElectron_74 hw ?_
        refine lv_dup hx hb dX3_readElectron_77 rfl ?_
        refine kg_X4_place hcf hK (kw_93 htk) (x := (σ4.1 1)) dX3_readElectron_78 hw rfl ?_
        refine lv_iconst (v := 3) hx hb dX3_readElectron_81 rfl ?_
        refine lv_iadd hx hb dX3_readElectron_82 ?_
        refine kp_X4_place hcf hK (kw_93 htk) dX3_readElectron_83 hw (fun H locs hw => ?_)
        exact kret_v hcf hr hlk hK hw (rt1 hR hE0) hQ0 dX3_readElectron_86
      · have hE0 := ite_t hE0 c6
        refine lv_aload_n hx hb dX3_readElectron_52 rfl (lv_at hl 0 rfl) ?_
        refine lv_bipush (v := -5) hx hb dX3_readElectron_53 rfl ?_
        refine lv_aload_n hx hb dX3_readElectron_55 rfl (lv_at hl 0 rfl) ?_
        refine kg_X3_text hcf hK (kw_150 htk) dX3_readElectron_56 hw ?_
        refine kg_X4_place hcf hK (kw_93 htk) (x := (σ4.1 1)) dX3_readElectron_59 hw rfl ?_
        obtain ⟨σ5, k5, hE0⟩ := bd1_e hE0 hN0
        refine k_call (va_runV (As := [.int (-5 : Int32), .int (σ4.1 1)]) (rest := []) hcf (mX3_meet l D cs ad N σ4 (-5 : Int32) (σ4.1 1) σ5 k5) (kcX3_meet htk (kw_272 htk) ⟨Nat.le_of_ble_eq_true rfl, Nat.le_of_ble_eq_true rfl⟩) ⟨k_blind, va_recv (ci := 3) (q0 := 1) hK hw.1 rfl rfl, k_pre hK hZ hw⟩ rfl rfl hl.1 rfl (lv_room (Nat.le_of_ble_eq_true rfl)) dX3_readElectron_62 ⟨Nat.zero_le _, Nat.zero_le _⟩) hw (fun H locs hw => ?_)
        refine lv_goto (tgt := 86) hx hb dX3_readElectron_65 (by decide) ?_
        exact kret_v hcf hr hlk hK hw (rt1 hR hE0) hQ0 dX3_readElectron_86
    · have hE0 := ite_f hE0 c8
      refine lv_aload_n hx hb dX3_readElectron_26 rfl (lv_at hl 0 rfl) ?_
      refine lv_bipush (v := -2) hx hb dX3_readElectron_27 rfl ?_
      refine lv_aload_n hx hb dX3_readElectron_29 rfl (lv_at hl 0 rfl) ?_
      refine kg_X3_text hcf hK (kw_150 htk) dX3_readElectron_30 hw ?_
      refine kg_X4_place hcf hK (kw_93 htk) (x := (σ.1 1)) dX3_readElectron_33 hw rfl ?_
      obtain ⟨σ7, k7, hE0⟩ := bd1_e hE0 hN0
      refine k_call (va_runV (As := [.int (-2 : Int32), .int (σ.1 1)]) (rest := []) hcf (mX3_meet l D cs ad N σ (-2 : Int32) (σ.1 1) σ7 k7) (kcX3_meet htk (kw_272 htk) ⟨Nat.le_of_ble_eq_true rfl, Nat.le_of_ble_eq_true rfl⟩) ⟨k_blind, va_recv (ci := 3) (q0 := 1) hK hw.1 rfl rfl, k_pre hK hZ hw⟩ rfl rfl hl.1 rfl (lv_room (Nat.le_of_ble_eq_true rfl)) dX3_readElectron_36 ⟨Nat.zero_le _, Nat.zero_le _⟩) hw (fun H locs hw => ?_)
      refine lv_goto (tgt := 86) hx hb dX3_readElectron_39 (by decide) ?_
      exact kret_v hcf hr hlk hK hw (rt1 hR hE0) hQ0 dX3_readElectron_86
def fX5_isDigit (N : Nat) (σ : vS) (p0 : Int32) : Option (Int32) :=
  if (p0 < (48 : Int32)) then (
    some (0 : Int32)
  ) else (
    if ((57 : Int32) < p0) then (
      some (0 : Int32)
    ) else (
      some (1 : Int32)
    )
  )
abbrev rmX5_isDigit : Room := { frames := 0, cells := 0, slots := 0, locals := 0 }
abbrev wsX5_isDigit : List Cond := .code yX5_isDigit cX5_isDigit 1 (some .boolean) :: kws
theorem kcX5_isDigit {R : Room} {s : State} {args : Array Value} {own : String} {index : Nat} (htk : ∀ w ∈ kws, w.before args s = true) (hl : va_Nw (.methodLinkNest own index yX5_isDigit RX5) s) (hR : rmX5_isDigit.frames + 1 ≤ R.frames ∧ 8 + (1 + 11) + rmX5_isDigit.locals ≤ R.locals) : va_CN R s args own index yX5_isDigit RX5 cX5_isDigit 1 (some .boolean) wsX5_isDigit rmX5_isDigit 0 0 1 ∧ (Cond.static yX5_isDigit).before args s = true ∧ True :=
  ⟨va_cnB 1 htk (k_good kc_302) rfl rfl rfl hl (kw_52 htk) (by decide +kernel) hR, (kw_301 htk), trivial⟩
set_option maxRecDepth 100000 in
set_option maxHeartbeats 4000000 in
theorem mX5_isDigit (l : Launch) (D : va_G) (cs : Nat → ClassId) (ad : Nat → Nat) (N : Nat) (σ : vS) (p0 : Int32) (r : Int32) (hf : fX5_isDigit N σ p0 = some r) : k_MP l yX5_isDigit wsX5_isDigit rmX5_isDigit D (tK cs) (wK cs ad) [.int p0] σ (.int r) := by
  refine k_ofP (cc := cX5_isDigit) (maxL := 1) (ret := (some .boolean)) (by decide) rfl (Nat.le_of_ble_eq_true rfl) ?_
  intro p e s m args below meth c ls hcf hr hlk hK hZ hl hw
  generalize hQ0 : MQ below _ args s 0 0 _ = Q0
  obtain ⟨T0, hE0⟩ : ∃ T, T = fX5_isDigit N σ p0 := ⟨_, rfl⟩
  have hR := hE0.trans hf
  have hN0 : T0 ≠ none := by rw [hR]; exact fun h => nomatch h
  have hx := hcf.1
  have hb := hcf.2.1
  have htk := hcf.2.2.2.2
  have hown := hcf.2.2.2.1
  unfold fX5_isDigit at hE0
  replace hl : lv_has ls 1 [(0, .int p0)] := hl
  refine lv_iload_n hx hb dX5_isDigit_0 rfl (lv_at hl 0 rfl) ?_
  refine lv_bipush (v := 48) hx hb dX5_isDigit_1 rfl ?_
  refine lv_icmp_lt (tgt := 16) hx hb dX5_isDigit_3 (by decide) (fun c2 => ?_) (fun c2 => ?_)
  · have hE0 := ite_t hE0 c2
    refine lv_iconst (v := 0) hx hb dX5_isDigit_16 rfl ?_
    exact kretP_z hcf hr hlk hK hw (rt1 hR hE0) hQ0 rfl dX5_isDigit_17
  · have hE0 := ite_f hE0 c2
    refine lv_iload_n hx hb dX5_isDigit_6 rfl (lv_at hl 0 rfl) ?_
    refine lv_bipush (v := 57) hx hb dX5_isDigit_7 rfl ?_
    refine lv_icmp_gt (tgt := 16) hx hb dX5_isDigit_9 (by decide) (fun c1 => ?_) (fun c1 => ?_)
    · have hE0 := ite_t hE0 c1
      refine lv_iconst (v := 0) hx hb dX5_isDigit_16 rfl ?_
      exact kretP_z hcf hr hlk hK hw (rt1 hR hE0) hQ0 rfl dX5_isDigit_17
    · have hE0 := ite_f hE0 c1
      refine lv_iconst (v := 1) hx hb dX5_isDigit_12 rfl ?_
      refine lv_goto (tgt := 17) hx hb dX5_isDigit_13 (by decide) ?_
      exact kretP_z hcf hr hlk hK hw (rt1 hR hE0) hQ0 rfl dX5_isDigit_17
def jX3_readNumber_107 (N : Nat) (σj107 : vS) (v1j107 : Int32) (v3j107 : Int32) (v4j107 : Int32) : Option (Int32 × vS) :=
  bd1 (fX3_meet N σj107 (-3 : Int32) v1j107) fun σ4 =>
  if (v4j107 = 0) then (
    some ((1 : Int32), σ4)
  ) else (
    some (v3j107, σ4)
  )
def jX3_readNumber_86 (N : Nat) (σj86 : vS) (v1j86 : Int32) (v2j86 : Int32) (v3j86 : Int32) : Option (Int32 × vS) :=
  k_lt ((σj86.1 1) - v1j86) fun x3 =>
  if (v2j86 = 0) then (
    if (x3 ≤ (2 : Int32)) then (
      if (x3 = 0) then (
        some ((1 : Int32), σj86)
      ) else (
        some (v3j86, σj86)
      )
    ) else (
      jX3_readNumber_107 N σj86 v1j86 v3j86 x3
    )
  ) else (
    jX3_readNumber_107 N σj86 v1j86 v3j86 x3
  )
def bX3_readNumber_31 (N : Nat) (v1j26 : Int32) (v2j26 : Int32) (v3h31 : Int32) (v4h31 : Int32) (σh31 : vS) : Option ((Int32 × Int32 × vS) ⊕ (Int32 × vS)) :=
  if ((100 : Int32) ≤ v4h31) then (
    some (.inr (v3h31, σh31))
  ) else (
    bd1 (fX4_here N σh31) fun r9 =>
    bd1 (fX5_isDigit N σh31 r9) fun r10 =>
    if (r10 = 0) then (
      some (.inr (v3h31, σh31))
    ) else (
      bd1 (fX4_here N σh31) fun r11 =>
      k_lt (((10 : Int32) * v3h31) + (r11 - (48 : Int32))) fun x12 =>
      k_lt (v4h31 + (1 : Int32)) fun x13 =>
      some (.inl (x12, x13, (p_i σh31 1 ((σh31.1 1) + (1 : Int32)))))
    )
  )
def jX3_readNumber_26 (N : Nat) (σ : vS) (v1j26 : Int32) (v2j26 : Int32) : Option (Int32 × vS) :=
  bd1 (k_itr (fun zz => bX3_readNumber_31 N v1j26 v2j26 zz.1 zz.2.1 zz.2.2) N ((0 : Int32), (0 : Int32), σ)) fun q => jX3_readNumber_86 N q.2 v1j26 v2j26 q.1
def fX3_readNumber (N : Nat) (σ : vS) : Option (Int32 × vS) :=
  k_lt (σ.1 1) fun x1 =>
  bd1 (fX4_here N σ) fun r2 =>
  if (r2 = (48 : Int32)) then (
    jX3_readNumber_26 N σ x1 (1 : Int32)
  ) else (
    jX3_readNumber_26 N σ x1 (0 : Int32)
  )
abbrev rmX3_readNumber : Room := { frames := 1, cells := 0, slots := 0, locals := 22 }
abbrev wsX3_readNumber : List Cond := .code yX3_readNumber cX3_readNumber 5 (some .int) :: kws
theorem kcX3_readNumber {R : Room} {s : State} {args : Array Value} {own : String} {index : Nat} (htk : ∀ w ∈ kws, w.before args s = true) (hl : (Cond.methodLink own index yX3_readNumber).before args s = true) (hR : rmX3_readNumber.frames + 1 ≤ R.frames ∧ 8 + (5 + 11) + rmX3_readNumber.locals ≤ R.locals) : CallW R s args own RX3 index yX3_readNumber cX3_readNumber 5 (some .int) wsX3_readNumber rmX3_readNumber 0 0 0 :=
  ⟨callB_of 0 htk (k_good kc_299) rfl rfl rfl (kw_53 htk) hl (by decide +kernel) hR, (kw_298 htk), (kw_4 htk)⟩
set_option maxRecDepth 100000 in
set_option maxHeartbeats 4000000 in
theorem mX3_readNumber (l : Launch) (D : va_G) (cs : Nat → ClassId) (ad : Nat → Nat) (N : Nat) (σ : vS) (r : Int32) (σ' : vS) (hf : fX3_readNumber N σ = some (r, σ')) : k_Met l yX3_readNumber wsX3_readNumber rmX3_readNumber D (tK cs) (wK cs ad) (k_A 41 ad) [.ref (ad 1)] σ (some (.int r)) σ' := by
  refine k_of (cc := cX3_readNumber) (maxL := 5) (ret := (some .int)) (by decide) rfl (Nat.le_of_ble_eq_true rfl) ?_
  intro p e s m args below meth c ls H locs hcf hr hlk hK hZ hl hw
  generalize hQ0 : MQ below _ args s 0 0 _ = Q0
  obtain ⟨T0, hE0⟩ : ∃ T, T = fX3_readNumber N σ := ⟨_, rfl⟩
  have hR := hE0.trans hf
  have hN0 : T0 ≠ none := by rw [hR]; exact fun h => nomatch h
  have hx := hcf.1
  have hb := hcf.2.1
  have htk := hcf.2.2.2.2
  have hown := hcf.2.2.2.1
  unfold fX3_readNumber at hE0
  replace hl : lv_has ls 5 [(0, .ref (ad 1))] := hl
  have J107 : ∀ (v1j107 : Int32) (v3j107 : Int32) (v4j107 : Int32) (σj107 : vS) (H : Heap) (locs : List Loc) (ls : Array Slot), lv_has ls 5 [(0, .ref (ad 1)), (1, .int v1j107), (3, .int v3j107), (4, .int v4j107)] → k_H D (wK cs ad) (k_A 41 ad) σj107 s.heap H locs → T0 = jX3_readNumber_107 N σj107 v1j107 v3j107 v4j107 → W p l e rmX3_readNumber s m args below meth c H locs 0 0 Q0 (F0 m 107 ls []) := by
    intro v1j107 v3j107 v4j107 σj107 H locs ls hl hw hE0
    unfold jX3_readNumber_107 at hE0
    refine lv_aload_n hx hb dX3_readNumber_107 rfl (lv_at hl 0 rfl) ?_
    refine lv_bipush (v := -3) hx hb dX3_readNumber_108 rfl ?_
    refine lv_iload_n hx hb dX3_readNumber_110 rfl (lv_at hl 1 rfl) ?_
    obtain ⟨σ4, k4, hE0⟩ := bd1_e hE0 hN0
    refine k_call (va_runV (As := [.int (-3 : Int32), .int v1j107]) (rest := []) hcf (mX3_meet l D cs ad N σj107 (-3 : Int32) v1j107 σ4 k4) (kcX3_meet htk (kw_272 htk) ⟨Nat.le_of_ble_eq_true rfl, Nat.le_of_ble_eq_true rfl⟩) ⟨k_blind, va_recv (ci := 3) (q0 := 1) hK hw.1 rfl rfl, k_pre hK hZ hw⟩ rfl rfl hl.1 rfl (lv_room (Nat.le_of_ble_eq_true rfl)) dX3_readNumber_111 ⟨Nat.zero_le _, Nat.zero_le _⟩) hw (fun H locs hw => ?_)
    refine lv_iload hx hb dX3_readNumber_114 (lv_at hl 3 rfl) ?_
    refine lv_if_ne (tgt := 123) hx hb dX3_readNumber_116 (by decide) (fun c5 => ?_) (fun c5 => ?_)
    · have hE0 := ite_f hE0 c5
      refine lv_iload_n hx hb dX3_readNumber_123 rfl (lv_at hl 2 rfl) ?_
      exact kret_i hcf hr hlk hK hw (rt2 hR hE0) hQ0 dX3_readNumber_124
    · have hE0 := ite_t hE0 c5
      refine lv_iconst (v := 1) hx hb dX3_readNumber_119 rfl ?_
      refine lv_goto (tgt := 124) hx hb dX3_readNumber_120 (by decide) ?_
      exact kret_i hcf hr hlk hK hw (rt2 hR hE0) hQ0 dX3_readNumber_124
  have J86 : ∀ (v1j86 : Int32) (v2j86 : Int32) (v3j86 : Int32) (σj86 : vS) (H : Heap) (locs : List Loc) (ls : Array Slot), lv_has ls 5 [(0, .ref (ad 1)), (1, .int v1j86), (2, .int v2j86), (3, .int v3j86)] → k_H D (wK cs ad) (k_A 41 ad) σj86 s.heap H locs → T0 = jX3_readNumber_86 N σj86 v1j86 v2j86 v3j86 → W p l e rmX3_readNumber s m args below meth c H locs 0 0 Q0 (F0 m 86 ls []) := by
    intro v1j86 v2j86 v3j86 σj86 H locs ls hl hw hE0
    unfold jX3_readNumber_86 at hE0
    refine lv_aload_n hx hb dX3_readNumber_86 rfl (lv_at hl 0 rfl) ?_
    refine kg_X3_text hcf hK (kw_150 htk) dX3_readNumber_87 hw ?_
    refine kg_X4_place hcf hK (kw_93 htk) (x := (σj86.1 1)) dX3_readNumber_90 hw rfl ?_
    refine lv_iload_n hx hb dX3_readNumber_93 rfl (lv_at hl 1 rfl) ?_
    refine lv_isub hx hb dX3_readNumber_94 ?_
    refine lv_topi (fun x3 e_x3 => ?_)
    have hE0 := k_lts hE0 e_x3
    refine lv_istore hx hb dX3_readNumber_95 hl (Nat.le_of_ble_eq_true rfl) rfl (fun ls (hl : lv_has ls 5 [(4, .int x3), (0, .ref (ad 1)), (1, .int v1j86), (2, .int v2j86), (3, .int v3j86)]) => ?_)
    refine lv_iload_n hx hb dX3_readNumber_97 rfl (lv_at hl 3 rfl) ?_
    refine lv_if_ne (tgt := 107) hx hb dX3_readNumber_98 (by decide) (fun c8 => ?_) (fun c8 => ?_)
    · have hE0 := ite_f hE0 c8
      exact J107 v1j86 v3j86 x3 σj86 H locs ls (lv_sub hl [1, 2, 4, 0] rfl) hw hE0
    · have hE0 := ite_t hE0 c8
      refine lv_iload hx hb dX3_readNumber_101 (lv_at hl 0 rfl) ?_
      refine lv_iconst (v := 2) hx hb dX3_readNumber_103 rfl ?_
      refine lv_icmp_le (tgt := 114) hx hb dX3_readNumber_104 (by decide) (fun c7 => ?_) (fun c7 => ?_)
      · have hE0 := ite_t hE0 c7
        refine lv_iload hx hb dX3_readNumber_114 (lv_at hl 0 rfl) ?_
        refine lv_if_ne (tgt := 123) hx hb dX3_readNumber_116 (by decide) (fun c6 => ?_) (fun c6 => ?_)
        · have hE0 := ite_f hE0 c6
          refine lv_iload_n hx hb dX3_readNumber_123 rfl (lv_at hl 4 rfl) ?_
          exact kret_i hcf hr hlk hK hw (rt2 hR hE0) hQ0 dX3_readNumber_124
        · have hE0 := ite_t hE0 c6
          refine lv_iconst (v := 1) hx hb dX3_readNumber_119 rfl ?_
          refine lv_goto (tgt := 124) hx hb dX3_readNumber_120 (by decide) ?_
          exact kret_i hcf hr hlk hK hw (rt2 hR hE0) hQ0 dX3_readNumber_124
      · have hE0 := ite_f hE0 c7
        exact J107 v1j86 v3j86 x3 σj86 H locs ls (lv_sub hl [1, 2, 4, 0] rfl) hw hE0
  have J26 : ∀ (v1j26 : Int32) (v2j26 : Int32) (ls : Array Slot), lv_has ls 5 [(0, .ref (ad 1)), (1, .int v1j26), (2, .int v2j26)] → T0 = jX3_readNumber_26 N σ v1j26 v2j26 → W p l e rmX3_readNumber s m args below meth c H locs 0 0 Q0 (F0 m 26 ls []) := by
    intro v1j26 v2j26 ls hl hE0
    unfold jX3_readNumber_26 at hE0
    refine lv_iconst (v := 0) hx hb dX3_readNumber_26 rfl ?_
    refine lv_istore_n hx hb dX3_readNumber_27 rfl hl (Nat.le_of_ble_eq_true rfl) rfl (fun ls (hl : lv_has ls 5 [(3, .int (0 : Int32)), (0, .ref (ad 1)), (1, .int v1j26), (2, .int v2j26)]) => ?_)
    refine lv_iconst (v := 0) hx hb dX3_readNumber_28 rfl ?_
    refine lv_istore hx hb dX3_readNumber_29 hl (Nat.le_of_ble_eq_true rfl) rfl (fun ls (hl : lv_has ls 5 [(4, .int (0 : Int32)), (3, .int (0 : Int32)), (0, .ref (ad 1)), (1, .int v1j26), (2, .int v2j26)]) => ?_)
    obtain ⟨q, hq, hE0⟩ := bd1_e hE0 hN0
    refine k_ind (P := fun zz => ∀ (H : Heap) (locs : List Loc) (ls : Array Slot), lv_has ls 5 [(0, .ref (ad 1)), (1, .int v1j26), (2, .int v2j26), (3, .int zz.1), (4, .int zz.2.1)] → k_H D (wK cs ad) (k_A 41 ad) zz.2.2 s.heap H locs → W p l e rmX3_readNumber s m args below meth c H locs 0 0 Q0 (F0 m 31 ls [])) ?_ N _ hq H locs ls (lv_sub hl [2, 3, 4, 1, 0] rfl) hw
    intro sX T1 hE1 hN1 hC1 hX1
    obtain ⟨v3h31, v4h31, σh31⟩ := sX
    replace hE1 : T1 = bX3_readNumber_31 N v1j26 v2j26 v3h31 v4h31 σh31 := hE1
    unfold bX3_readNumber_31 at hE1
    intro H locs ls hl hw
    replace hl : lv_has ls 5 [(0, .ref (ad 1)), (1, .int v1j26), (2, .int v2j26), (3, .int v3h31), (4, .int v4h31)] := hl
    replace hw : k_H D (wK cs ad) (k_A 41 ad) σh31 s.heap H locs := hw
    refine lv_iload hx hb dX3_readNumber_31 (lv_at hl 4 rfl) ?_
    refine lv_bipush (v := 100) hx hb dX3_readNumber_33 rfl ?_
    refine lv_icmp_ge (tgt := 86) hx hb dX3_readNumber_35 (by decide) (fun c15 => ?_) (fun c15 => ?_)
    · have hE1 := ite_t hE1 c15
      have hq := hX1 _ hE1
      subst hq
      exact J86 v1j26 v2j26 v3h31 σh31 H locs ls (lv_sub hl [0, 1, 2, 3] rfl) hw hE0
    · have hE1 := ite_f hE1 c15
      refine lv_aload_n hx hb dX3_readNumber_38 rfl (lv_at hl 0 rfl) ?_
      refine kg_X3_text hcf hK (kw_150 htk) dX3_readNumber_39 hw ?_
      obtain ⟨r9, k9, hE1⟩ := bd1_e hE1 hN1
      refine k_callP (va_runV (As := []) (rest := []) hcf (mX4_here l D cs ad N σh31 r9 k9) (kcX4_here htk (kw_276 htk) ⟨Nat.le_of_ble_eq_true rfl, Nat.le_of_ble_eq_true rfl⟩) ⟨k_blind, va_recv (ci := 4) (q0 := 4) hK hw.1 rfl rfl, k_pre hK hZ hw⟩ rfl rfl hl.1 rfl (lv_room (Nat.le_of_ble_eq_true rfl)) dX3_readNumber_42 ⟨Nat.zero_le _, Nat.zero_le _⟩) ?_
      obtain ⟨r10, k10, hE1⟩ := bd1_e hE1 hN1
      refine k_callP (va_runSN (As := [.int r9]) (rest := []) hcf (mX5_isDigit l D cs ad N σh31 r9 r10 k10) (kcX5_isDigit htk (kn_5 hZ) ⟨Nat.le_of_ble_eq_true rfl, Nat.le_of_ble_eq_true rfl⟩) ⟨k_blind, k_pre hK hZ hw⟩ rfl rfl hl.1 rfl (lv_room (Nat.le_of_ble_eq_true rfl)) dX3_readNumber_45 ⟨Nat.zero_le _, Nat.zero_le _⟩) ?_
      refine lv_if_eq (tgt := 86) hx hb dX3_readNumber_48 (by decide) (fun c14 => ?_) (fun c14 => ?_)
      · have hE1 := ite_t hE1 c14
        have hq := hX1 _ hE1
        subst hq
        exact J86 v1j26 v2j26 v3h31 σh31 H locs ls (lv_sub hl [0, 1, 2, 3] rfl) hw hE0
      · have hE1 := ite_f hE1 c14
        refine lv_bipush (v := 10) hx hb dX3_readNumber_51 rfl ?_
        refine lv_iload_n hx hb dX3_readNumber_53 rfl (lv_at hl 3 rfl) ?_
        refine lv_imul hx hb dX3_readNumber_54 ?_
        refine lv_aload_n hx hb dX3_readNumber_55 rfl (lv_at hl 0 rfl) ?_
        refine kg_X3_text hcf hK (kw_150 htk) dX3_readNumber_56 hw ?_
        obtain ⟨r11, k11, hE1⟩ := bd1_e hE1 hN1
        refine k_callP (va_runV (As := []) (rest := [.int ((10 : Int32) * v3h31)]) hcf (mX4_here l D cs ad N σh31 r11 k11) (kcX4_here htk (kw_276 htk) ⟨Nat.le_of_ble_eq_true rfl, Nat.le_of_ble_eq_true rfl⟩) ⟨k_blind, va_recv (ci := 4) (q0 := 4) hK hw.1 rfl rfl, k_pre hK hZ hw⟩ rfl rfl hl.1 rfl (lv_room (Nat.le_of_ble_eq_true rfl)) dX3_readNumber_59 ⟨Nat.zero_le _, Nat.zero_le _⟩) ?_
        refine lv_bipush (v := 48) hx hb dX3_readNumber_62 rfl ?_
        refine lv_isub hx hb dX3_readNumber_64 ?_
        refine lv_iadd hx hb dX3_readNumber_65 ?_
        refine lv_topi (fun x12 e_x12 => ?_)
        have hE1 := k_lts hE1 e_x12
        refine lv_istore_n hx hb dX3_readNumber_66 rfl hl (Nat.le_of_ble_eq_true rfl) rfl (fun ls (hl : lv_has ls 5 [(3, .int x12), (0, .ref (ad 1)), (1, .int v1j26), (2, .int v2j26), (4, .int v4h31)]) => ?_)
        refine lv_aload_n hx hb dX3_readNumber_67 rfl (lv_at hl 1 rfl) ?_
        refine kg_X3_text hcf hK (kw_150 htk) dX3_readNumber_68 hw ?_
        refine lv_dup hx hb dX3_readNumber_71 rfl ?_
        refine kg_X4_place hcf hK (kw_93 htk) (x := (σh31.1 1)) dX3_readNumber_72 hw rfl ?_
        refine lv_iconst (v := 1) hx hb dX3_readNumber_75 rfl ?_
        refine lv_iadd hx hb dX3_readNumber_76 ?_
        refine kp_X4_place hcf hK (kw_93 htk) dX3_readNumber_77 hw (fun H locs hw => ?_)
        obtain ⟨x13, e_x13, hE1⟩ := k_lte hE1
        refine lv_iinc (k := 4) (v := x13) hx hb dX3_readNumber_80 hl rfl (Eq.symm e_x13) (Nat.le_of_ble_eq_true rfl) rfl (fun ls (hl : lv_has ls 5 [(4, .int x13), (3, .int x12), (0, .ref (ad 1)), (1, .int v1j26), (2, .int v2j26)]) => ?_)
        refine lv_goto (tgt := 31) hx hb dX3_readNumber_83 (by decide) ?_
        exact hC1 _ hE1 H locs ls (lv_sub hl [2, 3, 4, 1, 0] rfl) hw
  refine lv_aload_n hx hb dX3_readNumber_0 rfl (lv_at hl 0 rfl) ?_
  refine kg_X3_text hcf hK (kw_150 htk) dX3_readNumber_1 hw ?_
  refine kg_X4_place hcf hK (kw_93 htk) (x := (σ.1 1)) dX3_readNumber_4 hw rfl ?_
  refine lv_topi (fun x1 e_x1 => ?_)
  have hE0 := k_lts hE0 e_x1
  refine lv_istore_n hx hb dX3_readNumber_7 rfl hl (Nat.le_of_ble_eq_true rfl) rfl (fun ls (hl : lv_has ls 5 [(1, .int x1), (0, .ref (ad 1))]) => ?_)
  refine lv_aload_n hx hb dX3_readNumber_8 rfl (lv_at hl 1 rfl) ?_
  refine kg_X3_text hcf hK (kw_150 htk) dX3_readNumber_9 hw ?_
  obtain ⟨r2, k2, hE0⟩ := bd1_e hE0 hN0
  refine k_callP (va_runV (As := []) (rest := []) hcf (mX4_here l D cs ad N σ r2 k2) (kcX4_here htk (kw_276 htk) ⟨Nat.le_of_ble_eq_true rfl, Nat.le_of_ble_eq_true rfl⟩) ⟨k_blind, va_recv (ci := 4) (q0 := 4) hK hw.1 rfl rfl, k_pre hK hZ hw⟩ rfl rfl hl.1 rfl (lv_room (Nat.le_of_ble_eq_true rfl)) dX3_readNumber_12 ⟨Nat.zero_le _, Nat.zero_le _⟩) ?_
  refine lv_bipush (v := 48) hx hb dX3_readNumber_15 rfl ?_
  refine lv_icmp_ne (tgt := 24) hx hb dX3_readNumber_17 (by decide) (fun c16 => ?_) (fun c16 => ?_)
  · have hE0 := ite_f hE0 c16
    refine lv_iconst (v := 0) hx hb dX3_readNumber_24 rfl ?_
    refine lv_istore_n hx hb dX3_readNumber_25 rfl hl (Nat.le_of_ble_eq_true rfl) rfl (fun ls (hl : lv_has ls 5 [(2, .int (0 : Int32)), (1, .int x1), (0, .ref (ad 1))]) => ?_)
    exact J26 x1 (0 : Int32) ls (lv_sub hl [2, 1, 0] rfl) hE0
  · have hE0 := ite_t hE0 c16
    refine lv_iconst (v := 1) hx hb dX3_readNumber_20 rfl ?_
    refine lv_goto (tgt := 25) hx hb dX3_readNumber_21 (by decide) ?_
    refine lv_istore_n hx hb dX3_readNumber_25 rfl hl (Nat.le_of_ble_eq_true rfl) rfl (fun ls (hl : lv_has ls 5 [(2, .int (1 : Int32)), (1, .int x1), (0, .ref (ad 1))]) => ?_)
    exact J26 x1 (1 : Int32) ls (lv_sub hl [2, 1, 0] rfl) hE0
def fX5_isCapital (N : Nat) (σ : vS) (p0 : Int32) : Option (Int32) :=
  if (p0 < (65 : Int32)) then (
    some (0 : Int32)
  ) else (
    if ((90 : Int32) < p0) then (
      some (0 : Int32)
    ) else (
      some (1 : Int32)
    )
  )
abbrev rmX5_isCapital : Room := { frames := 0, cells := 0, slots := 0, locals := 0 }
abbrev wsX5_isCapital : List Cond := .code yX5_isCapital cX5_isCapital 1 (some .boolean) :: kws
theorem kcX5_isCapital {R : Room} {s : State} {args : Array Value} {own : String} {index : Nat} (htk : ∀ w ∈ kws, w.before args s = true) (hl : va_Nw (.methodLinkNest own index yX5_isCapital RX5) s) (hR : rmX5_isCapital.frames + 1 ≤ R.frames ∧ 8 + (1 + 11) + rmX5_isCapital.locals ≤ R.locals) : va_CN R s args own index yX5_isCapital RX5 cX5_isCapital 1 (some .boolean) wsX5_isCapital rmX5_isCapital 0 0 1 ∧ (Cond.static yX5_isCapital).before args s = true ∧ True :=
  ⟨va_cnB 1 htk (k_good kc_309) rfl rfl rfl hl (kw_52 htk) (by decide +kernel) hR, (kw_308 htk), trivial⟩
set_option maxRecDepth 100000 in
set_option maxHeartbeats 4000000 in
theorem mX5_isCapital (l : Launch) (D : va_G) (cs : Nat → ClassId) (ad : Nat → Nat) (N : Nat) (σ : vS) (p0 : Int32) (r : Int32) (hf : fX5_isCapital N σ p0 = some r) : k_MP l yX5_isCapital wsX5_isCapital rmX5_isCapital D (tK cs) (wK cs ad) [.int p0] σ (.int r) := by
  refine k_ofP (cc := cX5_isCapital) (maxL := 1) (ret := (some .boolean)) (by decide) rfl (Nat.le_of_ble_eq_true rfl) ?_
  intro p e s m args below meth c ls hcf hr hlk hK hZ hl hw
  generalize hQ0 : MQ below _ args s 0 0 _ = Q0
  obtain ⟨T0, hE0⟩ : ∃ T, T = fX5_isCapital N σ p0 := ⟨_, rfl⟩
  have hR := hE0.trans hf
  have hN0 : T0 ≠ none := by rw [hR]; exact fun h => nomatch h
  have hx := hcf.1
  have hb := hcf.2.1
  have htk := hcf.2.2.2.2
  have hown := hcf.2.2.2.1
  unfold fX5_isCapital at hE0
  replace hl : lv_has ls 1 [(0, .int p0)] := hl
  refine lv_iload_n hx hb dX5_isCapital_0 rfl (lv_at hl 0 rfl) ?_
  refine lv_bipush (v := 65) hx hb dX5_isCapital_1 rfl ?_
  refine lv_icmp_lt (tgt := 16) hx hb dX5_isCapital_3 (by decide) (fun c2 => ?_) (fun c2 => ?_)
  · have hE0 := ite_t hE0 c2
    refine lv_iconst (v := 0) hx hb dX5_isCapital_16 rfl ?_
    exact kretP_z hcf hr hlk hK hw (rt1 hR hE0) hQ0 rfl dX5_isCapital_17
  · have hE0 := ite_f hE0 c2
    refine lv_iload_n hx hb dX5_isCapital_6 rfl (lv_at hl 0 rfl) ?_
    refine lv_bipush (v := 90) hx hb dX5_isCapital_7 rfl ?_
    refine lv_icmp_gt (tgt := 16) hx hb dX5_isCapital_9 (by decide) (fun c1 => ?_) (fun c1 => ?_)
    · have hE0 := ite_t hE0 c1
      refine lv_iconst (v := 0) hx hb dX5_isCapital_16 rfl ?_
      exact kretP_z hcf hr hlk hK hw (rt1 hR hE0) hQ0 rfl dX5_isCapital_17
    · have hE0 := ite_f hE0 c1
      refine lv_iconst (v := 1) hx hb dX5_isCapital_12 rfl ?_
      refine lv_goto (tgt := 17) hx hb dX5_isCapital_13 (by decide) ?_
      exact kretP_z hcf hr hlk hK hw (rt1 hR hE0) hQ0 rfl dX5_isCapital_17
def fX5_isSmall (N : Nat) (σ : vS) (p0 : Int32) : Option (Int32) :=
  if (p0 < (97 : Int32)) then (
    some (0 : Int32)
  ) else (
    if ((122 : Int32) < p0) then (
      some (0 : Int32)
    ) else (
      some (1 : Int32)
    )
  )
abbrev rmX5_isSmall : Room := { frames := 0, cells := 0, slots := 0, locals := 0 }
abbrev wsX5_isSmall : List Cond := .code yX5_isSmall cX5_isSmall 1 (some .boolean) :: kws
theorem kcX5_isSmall {R : Room} {s : State} {args : Array Value} {own : String} {index : Nat} (htk : ∀ w ∈ kws, w.before args s = true) (hl : va_Nw (.methodLinkNest own index yX5_isSmall RX5) s) (hR : rmX5_isSmall.frames + 1 ≤ R.frames ∧ 8 + (1 + 11) + rmX5_isSmall.locals ≤ R.locals) : va_CN R s args own index yX5_isSmall RX5 cX5_isSmall 1 (some .boolean) wsX5_isSmall rmX5_isSmall 0 0 1 ∧ (Cond.static yX5_isSmall).before args s = true ∧ True :=
  ⟨va_cnB 1 htk (k_good kc_316) rfl rfl rfl hl (kw_52 htk) (by decide +kernel) hR, (kw_315 htk), trivial⟩
set_option maxRecDepth 100000 in
set_option maxHeartbeats 4000000 in
theorem mX5_isSmall (l : Launch) (D : va_G) (cs : Nat → ClassId) (ad : Nat → Nat) (N : Nat) (σ : vS) (p0 : Int32) (r : Int32) (hf : fX5_isSmall N σ p0 = some r) : k_MP l yX5_isSmall wsX5_isSmall rmX5_isSmall D (tK cs) (wK cs ad) [.int p0] σ (.int r) := by
  refine k_ofP (cc := cX5_isSmall) (maxL := 1) (ret := (some .boolean)) (by decide) rfl (Nat.le_of_ble_eq_true rfl) ?_
  intro p e s m args below meth c ls hcf hr hlk hK hZ hl hw
  generalize hQ0 : MQ below _ args s 0 0 _ = Q0
  obtain ⟨T0, hE0⟩ : ∃ T, T = fX5_isSmall N σ p0 := ⟨_, rfl⟩
  have hR := hE0.trans hf
  have hN0 : T0 ≠ none := by rw [hR]; exact fun h => nomatch h
  have hx := hcf.1
  have hb := hcf.2.1
  have htk := hcf.2.2.2.2
  have hown := hcf.2.2.2.1
  unfold fX5_isSmall at hE0
  replace hl : lv_has ls 1 [(0, .int p0)] := hl
  refine lv_iload_n hx hb dX5_isSmall_0 rfl (lv_at hl 0 rfl) ?_
  refine lv_bipush (v := 97) hx hb dX5_isSmall_1 rfl ?_
  refine lv_icmp_lt (tgt := 16) hx hb dX5_isSmall_3 (by decide) (fun c2 => ?_) (fun c2 => ?_)
  · have hE0 := ite_t hE0 c2
    refine lv_iconst (v := 0) hx hb dX5_isSmall_16 rfl ?_
    exact kretP_z hcf hr hlk hK hw (rt1 hR hE0) hQ0 rfl dX5_isSmall_17
  · have hE0 := ite_f hE0 c2
    refine lv_iload_n hx hb dX5_isSmall_6 rfl (lv_at hl 0 rfl) ?_
    refine lv_bipush (v := 122) hx hb dX5_isSmall_7 rfl ?_
    refine lv_icmp_gt (tgt := 16) hx hb dX5_isSmall_9 (by decide) (fun c1 => ?_) (fun c1 => ?_)
    · have hE0 := ite_t hE0 c1
      refine lv_iconst (v := 0) hx hb dX5_isSmall_16 rfl ?_
      exact kretP_z hcf hr hlk hK hw (rt1 hR hE0) hQ0 rfl dX5_isSmall_17
    · have hE0 := ite_f hE0 c1
      refine lv_iconst (v := 1) hx hb dX5_isSmall_12 rfl ?_
      refine lv_goto (tgt := 17) hx hb dX5_isSmall_13 (by decide) ?_
      exact kretP_z hcf hr hlk hK hw (rt1 hR hE0) hQ0 rfl dX5_isSmall_17
def fX1_kindCount (N : Nat) (σ : vS) : Option (Int32) :=
  if ((σ.1 5) = 0) then (
    some (σ.1 4)
  ) else (
    some ((σ.1 4) + (1 : Int32))
  )
abbrev rmX1_kindCount : Room := { frames := 0, cells := 0, slots := 0, locals := 0 }
abbrev wsX1_kindCount : List Cond := .code yX1_kindCount cX1_kindCount 1 (some .int) :: kws
theorem kcX1_kindCount {R : Room} {s : State} {args : Array Value} {own : String} {index : Nat} (htk : ∀ w ∈ kws, w.before args s = true) (hl : (Cond.methodLink own index yX1_kindCount).before args s = true) (hR : rmX1_kindCount.frames + 1 ≤ R.frames ∧ 8 + (1 + 11) + rmX1_kindCount.locals ≤ R.locals) : CallW R s args own RX1 index yX1_kindCount cX1_kindCount 1 (some .int) wsX1_kindCount rmX1_kindCount 0 0 0 :=
  ⟨callB_of 0 htk (k_good kc_324) rfl rfl rfl (kw_55 htk) hl (by decide +kernel) hR, (kw_322 htk), (kw_323 htk)⟩
set_option maxRecDepth 100000 in
set_option maxHeartbeats 4000000 in
theorem mX1_kindCount (l : Launch) (D : va_G) (cs : Nat → ClassId) (ad : Nat → Nat) (N : Nat) (σ : vS) (r : Int32) (hf : fX1_kindCount N σ = some r) : k_MP l yX1_kindCount wsX1_kindCount rmX1_kindCount D (tK cs) (wK cs ad) [.ref (ad 5)] σ (.int r) := by
  refine k_ofP (cc := cX1_kindCount) (maxL := 1) (ret := (some .int)) (by decide) rfl (Nat.le_of_ble_eq_true rfl) ?_
  intro p e s m args below meth c ls hcf hr hlk hK hZ hl hw
  generalize hQ0 : MQ below _ args s 0 0 _ = Q0
  obtain ⟨T0, hE0⟩ : ∃ T, T = fX1_kindCount N σ := ⟨_, rfl⟩
  have hR := hE0.trans hf
  have hN0 : T0 ≠ none := by rw [hR]; exact fun h => nomatch h
  have hx := hcf.1
  have hb := hcf.2.1
  have htk := hcf.2.2.2.2
  have hown := hcf.2.2.2.1
  unfold fX1_kindCount at hE0
  replace hl : lv_has ls 1 [(0, .ref (ad 5))] := hl
  refine lv_aload_n hx hb dX1_kindCount_0 rfl (lv_at hl 0 rfl) ?_
  refine kg_X1_charged hcf hK (kw_127 htk) (x := (σ.1 5)) dX1_kindCount_1 hw rfl ?_
  refine lv_if_eq (tgt := 16) hx hb dX1_kindCount_4 (by decide) (fun c1 => ?_) (fun c1 => ?_)
  · have hE0 := ite_t hE0 c1
    refine lv_aload_n hx hb dX1_kindCount_16 rfl (lv_at hl 0 rfl) ?_
    refine kg_X1_elementCount hcf hK (kw_126 htk) (x := (σ.1 4)) dX1_kindCount_17 hw rfl ?_
    exact kretP_i hcf hr hlk hK hw (rt1 hR hE0) hQ0 dX1_kindCount_20
  · have hE0 := ite_f hE0 c1
    refine lv_aload_n hx hb dX1_kindCount_7 rfl (lv_at hl 0 rfl) ?_
    refine kg_X1_elementCount hcf hK (kw_126 htk) (x := (σ.1 4)) dX1_kindCount_8 hw rfl ?_
    refine lv_iconst (v := 1) hx hb dX1_kindCount_11 rfl ?_
    refine lv_iadd hx hb dX1_kindCount_12 ?_
    refine lv_goto (tgt := 20) hx hb dX1_kindCount_13 (by decide) ?_
    exact kretP_i hcf hr hlk hK hw (rt1 hR hE0) hQ0 dX1_kindCount_20
def jX1_elementKind_28 (N : Nat) (σ : vS) (v1j28 : Int32) : Option (Int32 × vS) :=
  bd1 (fX1_kindCount N σ) fun r1 =>
  if (r1 < (5 : Int32)) then (
    if ((σ.1 4) < 0 ∨ 5 ≤ ((σ.1 4)).toNatClampNeg) then none else
    some ((((σ.1 4) + (1 : Int32)) - (1 : Int32)), (p_i (p_a σ 1 (((σ.1 4)).toNatClampNeg) v1j28) 4 ((σ.1 4) + (1 : Int32))))
  ) else (
    some ((-1 : Int32), σ)
  )
def bX1_elementKind_2 (N : Nat) (σ : vS) (p1 : Int32) (v2h2 : Int32) : Option ((Int32) ⊕ ((Unit) ⊕ (Int32 × vS))) :=
  if ((σ.1 4) ≤ v2h2) then (
    some (.inr (.inl ()))
  ) else (
    if (v2h2 < 0 ∨ 5 ≤ (v2h2).toNatClampNeg) then none else
    if ((σ.2.1 1 ((v2h2).toNatClampNeg)) = p1) then (
      some (.inr (.inr (v2h2, σ)))
    ) else (
      k_lt (v2h2 + (1 : Int32)) fun x5 =>
      some (.inl x5)
    )
  )
def fX1_elementKind (N : Nat) (σ : vS) (p1 : Int32) : Option (Int32 × vS) :=
  bds (k_itr (fun zz => bX1_elementKind_2 N σ p1 zz) N (0 : Int32)) fun _ => jX1_elementKind_28 N σ p1
abbrev rmX1_elementKind : Room := { frames := 1, cells := 0, slots := 0, locals := 20 }
abbrev wsX1_elementKind : List Cond := .code yX1_elementKind cX1_elementKind 3 (some .int) :: kws
theorem kcX1_elementKind {R : Room} {s : State} {args : Array Value} {own : String} {index : Nat} (htk : ∀ w ∈ kws, w.before args s = true) (hl : (Cond.methodLink own index yX1_elementKind).before args s = true) (hR : rmX1_elementKind.frames + 1 ≤ R.frames ∧ 8 + (3 + 11) + rmX1_elementKind.locals ≤ R.locals) : CallW R s args own RX1 index yX1_elementKind cX1_elementKind 3 (some .int) wsX1_elementKind rmX1_elementKind 0 0 1 :=
  ⟨callB_of 1 htk (k_good kc_320) rfl rfl rfl (kw_55 htk) hl (by decide +kernel) hR, (kw_318 htk), (kw_319 htk)⟩
set_option maxRecDepth 100000 in
set_option maxHeartbeats 4000000 in
theorem mX1_elementKind (l : Launch) (D : va_G) (cs : Nat → ClassId) (ad : Nat → Nat) (N : Nat) (σ : vS) (p1 : Int32) (r : Int32) (σ' : vS) (hf : fX1_elementKind N σ p1 = some (r, σ')) : k_Met l yX1_elementKind wsX1_elementKind rmX1_elementKind D (tK cs) (wK cs ad) (k_A 41 ad) [.ref (ad 5), .int p1] σ (some (.int r)) σ' := by
  refine k_of (cc := cX1_elementKind) (maxL := 3) (ret := (some .int)) (by decide) rfl (Nat.le_of_ble_eq_true rfl) ?_
  intro p e s m args below meth c ls H locs hcf hr hlk hK hZ hl hw
  generalize hQ0 : MQ below _ args s 0 0 _ = Q0
  obtain ⟨T0, hE0⟩ : ∃ T, T = fX1_elementKind N σ p1 := ⟨_, rfl⟩
  have hR := hE0.trans hf
  have hN0 : T0 ≠ none := by rw [hR]; exact fun h => nomatch h
  have hx := hcf.1
  have hb := hcf.2.1
  have htk := hcf.2.2.2.2
  have hown := hcf.2.2.2.1
  unfold fX1_elementKind at hE0
  replace hl : lv_has ls 3 [(0, .ref (ad 5)), (1, .int p1)] := hl
  have J28 : ∀ (v1j28 : Int32) (ls : Array Slot), lv_has ls 3 [(0, .ref (ad 5)), (1, .int v1j28)] → T0 = jX1_elementKind_28 N σ v1j28 → W p l e rmX1_elementKind s m args below meth c H locs 0 0 Q0 (F0 m 28 ls []) := by
    intro v1j28 ls hl hE0
    unfold jX1_elementKind_28 at hE0
    refine lv_aload_n hx hb dX1_elementKind_28 rfl (lv_at hl 0 rfl) ?_
    obtain ⟨r1, k1, hE0⟩ := bd1_e hE0 hN0
    refine k_callP (va_runV (As := []) (rest := []) hcf (mX1_kindCount l D cs ad N σ r1 k1) (kcX1_kindCount htk (kw_321 htk) ⟨Nat.le_of_ble_eq_true rfl, Nat.le_of_ble_eq_true rfl⟩) ⟨k_blind, va_recv (ci := 1) (q0 := 5) hK hw.1 rfl rfl, k_pre hK hZ hw⟩ rfl rfl hl.1 rfl (lv_room (Nat.le_of_ble_eq_true rfl)) dX1_elementKind_29 ⟨Nat.zero_le _, Nat.zero_le _⟩) ?_
    refine lv_iconst (v := 5) hx hb dX1_elementKind_32 rfl ?_
    refine lv_icmp_lt (tgt := 38) hx hb dX1_elementKind_33 (by decide) (fun c3 => ?_) (fun c3 => ?_)
    · have hE0 := ite_t hE0 c3
      refine lv_aload_n hx hb dX1_elementKind_38 rfl (lv_at hl 0 rfl) ?_
      refine kg_X1_elementNames hcf hK (kw_110 htk) dX1_elementKind_39 hw ?_
      refine lv_aload_n hx hb dX1_elementKind_42 rfl (lv_at hl 0 rfl) ?_
      refine kg_X1_elementCount hcf hK (kw_126 htk) (x := (σ.1 4)) dX1_elementKind_43 hw rfl ?_
      refine lv_iload_n hx hb dX1_elementKind_46 rfl (lv_at hl 1 rfl) ?_
      obtain ⟨g2, hE0⟩ := gd_e hE0 hN0
      refine kast_A1 hcf hK dX1_elementKind_47 g2 hw (fun H locs hw => ?_)
      refine lv_aload_n hx hb dX1_elementKind_48 rfl (lv_at hl 0 rfl) ?_
      refine lv_dup hx hb dX1_elementKind_49 rfl ?_
      refine kg_X1_elementCount hcf hK (kw_126 htk) (x := (σ.1 4)) dX1_elementKind_50 hw rfl ?_
      refine lv_iconst (v := 1) hx hb dX1_elementKind_53 rfl ?_
      refine lv_iadd hx hb dX1_elementKind_54 ?_
      refine kp_X1_elementCount hcf hK (kw_126 htk) dX1_elementKind_55 hw (fun H locs hw => ?_)
      refine lv_aload_n hx hb dX1_elementKind_58 rfl (lv_at hl 0 rfl) ?_
      refine kg_X1_elementCount hcf hK (kw_126 htk) (x := ((σ.1 4) + (1 : Int32))) dX1_elementKind_59 hw rfl ?_
      refine lv_iconst (v := 1) hx hb dX1_elementKind_62 rfl ?_
      refine lv_isub hx hb dX1_elementKind_63 ?_
      exact kret_i hcf hr hlk hK hw (rt2 hR hE0) hQ0 dX1_elementKind_64
    · have hE0 := ite_f hE0 c3
      refine lv_iconst (v := -1) hx hb dX1_elementKind_36 rfl ?_
      exact kret_i hcf hr hlk hK hw (rt2 hR hE0) hQ0 dX1_elementKind_37
  refine lv_iconst (v := 0) hx hb dX1_elementKind_0 rfl ?_
  refine lv_istore_n hx hb dX1_elementKind_1 rfl hl (Nat.le_of_ble_eq_true rfl) rfl (fun ls (hl : lv_has ls 3 [(2, .int (0 : Int32)), (0, .ref (ad 5)), (1, .int p1)]) => ?_)
  obtain ⟨q, hq, hE0, hT0⟩ := bds_e hE0 hN0
  refine k_ind (P := fun zz => ∀ (ls : Array Slot), lv_has ls 3 [(0, .ref (ad 5)), (1, .int p1), (2, .int zz)] → W p l e rmX1_elementKind s m args below meth c H locs 0 0 Q0 (F0 m 2 ls [])) ?_ N _ hq ls (lv_sub hl [1, 2, 0] rfl)
  intro sX T1 hE1 hN1 hC1 hX1
  obtain ⟨v2h2, hsg⟩ : ∃ z, z = sX := ⟨_, rfl⟩
  subst hsg
  replace hE1 : T1 = bX1_elementKind_2 N σ p1 v2h2 := hE1
  unfold bX1_elementKind_2 at hE1
  intro ls hl
  replace hl : lv_has ls 3 [(0, .ref (ad 5)), (1, .int p1), (2, .int v2h2)] := hl
  refine lv_iload_n hx hb dX1_elementKind_2 rfl (lv_at hl 2 rfl) ?_
  refine lv_aload_n hx hb dX1_elementKind_3 rfl (lv_at hl 0 rfl) ?_
  refine kg_X1_elementCount hcf hK (kw_126 htk) (x := (σ.1 4)) dX1_elementKind_4 hw rfl ?_
  refine lv_icmp_ge (tgt := 28) hx hb dX1_elementKind_7 (by decide) (fun c7 => ?_) (fun c7 => ?_)
  · have hE1 := ite_t hE1 c7
    have hq := hX1 _ hE1
    subst hq
    exact J28 p1 ls (lv_sub hl [0, 1] rfl) (hE0 _ rfl)
  · have hE1 := ite_f hE1 c7
    refine lv_aload_n hx hb dX1_elementKind_10 rfl (lv_at hl 0 rfl) ?_
    refine kg_X1_elementNames hcf hK (kw_110 htk) dX1_elementKind_11 hw ?_
    refine lv_iload_n hx hb dX1_elementKind_14 rfl (lv_at hl 2 rfl) ?_
    obtain ⟨g4, hE1⟩ := gd_e hE1 hN1
    refine kald_A1 hcf hK (x := (σ.2.1 1 ((v2h2).toNatClampNeg))) dX1_elementKind_15 g4 hw rfl ?_
    refine lv_iload_n hx hb dX1_elementKind_16 rfl (lv_at hl 1 rfl) ?_
    refine lv_icmp_ne (tgt := 22) hx hb dX1_elementKind_17 (by decide) (fun c6 => ?_) (fun c6 => ?_)
    · have hE1 := ite_f hE1 c6
      obtain ⟨x5, e_x5, hE1⟩ := k_lte hE1
      refine lv_iinc (k := 2) (v := x5) hx hb dX1_elementKind_22 hl rfl (Eq.symm e_x5) (Nat.le_of_ble_eq_true rfl) rfl (fun ls (hl : lv_has ls 3 [(2, .int x5), (0, .ref (ad 5)), (1, .int p1)]) => ?_)
      refine lv_goto (tgt := 2) hx hb dX1_elementKind_25 (by decide) ?_
      exact hC1 _ hE1 ls (lv_sub hl [1, 2, 0] rfl)
    · have hE1 := ite_t hE1 c6
      refine lv_iload_n hx hb dX1_elementKind_20 rfl (lv_at hl 2 rfl) ?_
      have hq := hX1 _ hE1
      subst hq
      exact kret_i hcf hr hlk hK hw (rt2 hR (hT0 _ rfl)) hQ0 dX1_elementKind_21
