def jX6_rowsFor_39 (N : Nat) (σj39 : vS) : Option (Int32 × vS) :=
  some ((-1 : Int32), σj39)
def bX6_rowsFor_2 (N : Nat) (p1 : Int32) (v2h2 : Int32) (σh2 : vS) : Option ((Int32 × vS) ⊕ ((vS) ⊕ (Int32 × vS))) :=
  bd1 (fX6_kindCount N σh2) fun r1 =>
  if (((1 : Int32) <<< (r1 &&& 31)) ≤ v2h2) then (
    some (.inr (.inl σh2))
  ) else (
    bd1 (fX6_sizeOf N σh2 v2h2) fun r2 =>
    if (r2 = p1) then (
      bd2 (fX6_determinant N σh2 p1 v2h2) fun r4 σ4 =>
      if ((lg_cmp r4 (0 : Int64)) = 0) then (
        k_lt (v2h2 + (1 : Int32)) fun x5 =>
        some (.inl (x5, σ4))
      ) else (
        some (.inr (.inr (v2h2, σ4)))
      )
    ) else (
      k_lt (v2h2 + (1 : Int32)) fun x3 =>
      some (.inl (x3, σh2))
    )
  )
def fX6_rowsFor (N : Nat) (σ : vS) (p1 : Int32) : Option (Int32 × vS) :=
  bds (k_itr (fun zz => bX6_rowsFor_2 N p1 zz.1 zz.2) N ((0 : Int32), σ)) fun q => jX6_rowsFor_39 N q
abbrev rmX6_rowsFor : Room := { frames := 2, cells := 0, slots := 0, locals := 54 }
abbrev wsX6_rowsFor : List Cond := .code yX6_rowsFor cX6_rowsFor 3 (some .int) :: kws
theorem kcX6_rowsFor {R : Room} {s : State} {args : Array Value} {own : String} {index : Nat} (htk : ∀ w ∈ kws, w.before args s = true) (hl : (Cond.methodLink own index yX6_rowsFor).before args s = true) (hR : rmX6_rowsFor.frames + 1 ≤ R.frames ∧ 8 + (3 + 11) + rmX6_rowsFor.locals ≤ R.locals) : CallW R s args own RX6 index yX6_rowsFor cX6_rowsFor 3 (some .int) wsX6_rowsFor rmX6_rowsFor 0 0 1 :=
  ⟨callB_of 1 htk (k_good kc_864) rfl rfl rfl (kw_58 htk) hl (by decide +kernel) hR, (kw_863 htk), (kw_41 htk)⟩
set_option maxRecDepth 100000 in
set_option maxHeartbeats 4000000 in
theorem mX6_rowsFor (l : Launch) (D : va_G) (cs : Nat → ClassId) (ad : Nat → Nat) (N : Nat) (σ : vS) (p1 : Int32) (r : Int32) (σ' : vS) (hf : fX6_rowsFor N σ p1 = some (r, σ')) : k_Met l yX6_rowsFor wsX6_rowsFor rmX6_rowsFor D (tM cs) (wM cs ad) (k_A 17 ad) [.ref (ad 0), .int p1] σ (some (.int r)) σ' := by
  refine k_of (cc := cX6_rowsFor) (maxL := 3) (ret := (some .int)) (by decide) rfl (Nat.le_of_ble_eq_true rfl) ?_
  intro p e s m args below meth c ls H locs hcf hr hlk hK hZ hl hw
  generalize hQ0 : MQ below _ args s 0 0 _ = Q0
  obtain ⟨T0, hE0⟩ : ∃ T, T = fX6_rowsFor N σ p1 := ⟨_, rfl⟩
  have hR := hE0.trans hf
  have hN0 : T0 ≠ none := by rw [hR]; exact fun h => nomatch h
  have hx := hcf.1
  have hb := hcf.2.1
  have htk := hcf.2.2.2.2
  have hown := hcf.2.2.2.1
  unfold fX6_rowsFor at hE0
  replace hl : lv_has ls 3 [(0, .ref (ad 0)), (1, .int p1)] := hl
  have J39 : ∀ (σj39 : vS) (H : Heap) (locs : List Loc) (ls : Array Slot), lv_has ls 3 [] → k_H D (wM cs ad) (k_A 17 ad) σj39 s.heap H locs → T0 = jX6_rowsFor_39 N σj39 → W p l e rmX6_rowsFor s m args below meth c H locs 0 0 Q0 (F0 m 39 ls []) := by
    intro σj39 H locs ls hl hw hE0
    unfold jX6_rowsFor_39 at hE0
    refine lv_iconst (v := -1) hx hb dX6_rowsFor_39 rfl ?_
    exact kret_i hcf hr hlk hK hw (rt2 hR hE0) hQ0 dX6_rowsFor_40
  refine lv_iconst (v := 0) hx hb dX6_rowsFor_0 rfl ?_
  refine lv_istore_n hx hb dX6_rowsFor_1 rfl hl (Nat.le_of_ble_eq_true rfl) rfl (fun ls (hl : lv_has ls 3 [(2, .int (0 : Int32)), (0, .ref (ad 0)), (1, .int p1)]) => ?_)
  obtain ⟨q, hq, hE0, hT0⟩ := bds_e hE0 hN0
  refine k_ind (P := fun zz => ∀ (H : Heap) (locs : List Loc) (ls : Array Slot), lv_has ls 3 [(0, .ref (ad 0)), (1, .int p1), (2, .int zz.1)] → k_H D (wM cs ad) (k_A 17 ad) zz.2 s.heap H locs → W p l e rmX6_rowsFor s m args below meth c H locs 0 0 Q0 (F0 m 2 ls [])) ?_ N _ hq H locs ls (lv_sub hl [1, 2, 0] rfl) hw
  intro sX T1 hE1 hN1 hC1 hX1
  obtain ⟨v2h2, σh2⟩ := sX
  replace hE1 : T1 = bX6_rowsFor_2 N p1 v2h2 σh2 := hE1
  unfold bX6_rowsFor_2 at hE1
  intro H locs ls hl hw
  replace hl : lv_has ls 3 [(0, .ref (ad 0)), (1, .int p1), (2, .int v2h2)] := hl
  replace hw : k_H D (wM cs ad) (k_A 17 ad) σh2 s.heap H locs := hw
  refine lv_iload_n hx hb dX6_rowsFor_2 rfl (lv_at hl 2 rfl) ?_
  refine lv_iconst (v := 1) hx hb dX6_rowsFor_3 rfl ?_
  refine lv_aload_n hx hb dX6_rowsFor_4 rfl (lv_at hl 0 rfl) ?_
  obtain ⟨r1, k1, hE1⟩ := bd1_e hE1 hN1
  refine k_callP (va_runV (As := []) (rest := [.int (1 : Int32), .int v2h2]) hcf (mX6_kindCount l D cs ad N σh2 r1 k1) (kcX6_kindCount htk (kw_857 htk) ⟨Nat.le_of_ble_eq_true rfl, Nat.le_of_ble_eq_true rfl⟩) ⟨k_blind, va_recv (ci := 6) (q0 := 0) hK hw.1 rfl rfl, k_pre hK hZ hw⟩ rfl rfl hl.1 rfl (lv_room (Nat.le_of_ble_eq_true rfl)) dX6_rowsFor_5 ⟨Nat.zero_le _, Nat.zero_le _⟩) ?_
  refine lv_ishl hx hb dX6_rowsFor_8 ?_
  refine lv_icmp_ge (tgt := 39) hx hb dX6_rowsFor_9 (by decide) (fun c8 => ?_) (fun c8 => ?_)
  · have hE1 := ite_t hE1 c8
    have hq := hX1 _ hE1
    subst hq
    exact J39 σh2 H locs ls (lv_sub hl [] rfl) hw (hE0 _ rfl)
  · have hE1 := ite_f hE1 c8
    refine lv_iload_n hx hb dX6_rowsFor_12 rfl (lv_at hl 2 rfl) ?_
    obtain ⟨r2, k2, hE1⟩ := bd1_e hE1 hN1
    refine k_callP (va_runS (As := [.int v2h2]) (rest := []) hcf (mX6_sizeOf l D cs ad N σh2 v2h2 r2 k2) (kcX6_sizeOf htk (kw_865 htk) ⟨Nat.le_of_ble_eq_true rfl, Nat.le_of_ble_eq_true rfl⟩) ⟨k_blind, k_pre hK hZ hw⟩ rfl rfl hl.1 rfl (lv_room (Nat.le_of_ble_eq_true rfl)) dX6_rowsFor_13 ⟨Nat.zero_le _, Nat.zero_le _⟩) ?_
    refine lv_iload_n hx hb dX6_rowsFor_16 rfl (lv_at hl 1 rfl) ?_
    refine lv_icmp_ne (tgt := 33) hx hb dX6_rowsFor_17 (by decide) (fun c7 => ?_) (fun c7 => ?_)
    · have hE1 := ite_f hE1 c7
      obtain ⟨x3, e_x3, hE1⟩ := k_lte hE1
      refine lv_iinc (k := 2) (v := x3) hx hb dX6_rowsFor_33 hl rfl (Eq.symm e_x3) (Nat.le_of_ble_eq_true rfl) rfl (fun ls (hl : lv_has ls 3 [(2, .int x3), (0, .ref (ad 0)), (1, .int p1)]) => ?_)
      refine lv_goto (tgt := 2) hx hb dX6_rowsFor_36 (by decide) ?_
      exact hC1 _ hE1 H locs ls (lv_sub hl [1, 2, 0] rfl) hw
    · have hE1 := ite_t hE1 c7
      refine lv_aload_n hx hb dX6_rowsFor_20 rfl (lv_at hl 0 rfl) ?_
      refine lv_iload_n hx hb dX6_rowsFor_21 rfl (lv_at hl 1 rfl) ?_
      refine lv_iload_n hx hb dX6_rowsFor_22 rfl (lv_at hl 2 rfl) ?_
      obtain ⟨r4, σ4, k4, hE1⟩ := bd2_e hE1 hN1
      refine k_call (va_runV (As := [.int p1, .int v2h2]) (rest := []) hcf (mX6_determinant l D cs ad N σh2 p1 v2h2 r4 σ4 k4) (kcX6_determinant htk (kw_868 htk) ⟨Nat.le_of_ble_eq_true rfl, Nat.le_of_ble_eq_true rfl⟩) ⟨k_blind, va_recv (ci := 6) (q0 := 0) hK hw.1 rfl rfl, k_pre hK hZ hw⟩ rfl rfl hl.1 rfl (lv_room (Nat.le_of_ble_eq_true rfl)) dX6_rowsFor_23 ⟨Nat.zero_le _, Nat.zero_le _⟩) hw (fun H locs hw => ?_)
      refine lv_lconst (v := 0) hx hb dX6_rowsFor_26 rfl ?_
      refine W.lcmp hx hb dX6_rowsFor_27 ?_
      refine lv_if_eq (tgt := 33) hx hb dX6_rowsFor_28 (by decide) (fun c6 => ?_) (fun c6 => ?_)
      · have hE1 := ite_t hE1 c6
        obtain ⟨x5, e_x5, hE1⟩ := k_lte hE1
        refine lv_iinc (k := 2) (v := x5) hx hb dX6_rowsFor_33 hl rfl (Eq.symm e_x5) (Nat.le_of_ble_eq_true rfl) rfl (fun ls (hl : lv_has ls 3 [(2, .int x5), (0, .ref (ad 0)), (1, .int p1)]) => ?_)
        refine lv_goto (tgt := 2) hx hb dX6_rowsFor_36 (by decide) ?_
        exact hC1 _ hE1 H locs ls (lv_sub hl [1, 2, 0] rfl) hw
      · have hE1 := ite_f hE1 c6
        refine lv_iload_n hx hb dX6_rowsFor_31 rfl (lv_at hl 2 rfl) ?_
        have hq := hX1 _ hE1
        subst hq
        exact kret_i hcf hr hlk hK hw (rt2 hR (hT0 _ rfl)) hQ0 dX6_rowsFor_32
def jX6_common_53 (N : Nat) (σ : vS) (v4j53 : Int64) : Option (Int64) :=
  some v4j53
def bX6_common_28 (N : Nat) (σ : vS) (v4h28 : Int64) (v6h28 : Int64) : Option ((Int64 × Int64) ⊕ (Int64)) :=
  if ((lg_cmp v6h28 (0 : Int64)) = 0) then (
    some (.inr v4h28)
  ) else (
    if (v6h28 = 0) then none else
    k_lt (v4h28 - v4h28 / v6h28 * v6h28) fun x2 =>
    some (.inl (v6h28, x2))
  )
def jX6_common_28 (N : Nat) (σ : vS) (v4j28 : Int64) (v6j28 : Int64) : Option (Int64) :=
  bd1 (k_itr (fun zz => bX6_common_28 N σ zz.1 zz.2) N (v4j28, v6j28)) fun q => jX6_common_53 N σ q
def jX6_common_14 (N : Nat) (σ : vS) (v2j14 : Int64) (v4j14 : Int64) : Option (Int64) :=
  if (0 ≤ (lg_cmp v2j14 (0 : Int64))) then (
    jX6_common_28 N σ v4j14 v2j14
  ) else (
    k_lt (-v2j14) fun x4 =>
    jX6_common_28 N σ v4j14 x4
  )
def fX6_common (N : Nat) (σ : vS) (p0 : Int64) (p2 : Int64) : Option (Int64) :=
  if (0 ≤ (lg_cmp p0 (0 : Int64))) then (
    jX6_common_14 N σ p2 p0
  ) else (
    k_lt (-p0) fun x6 =>
    jX6_common_14 N σ p2 x6
  )
abbrev rmX6_common : Room := { frames := 0, cells := 0, slots := 0, locals := 0 }
abbrev wsX6_common : List Cond := .code yX6_common cX6_common 10 (some .long) :: kws
theorem kcX6_common {R : Room} {s : State} {args : Array Value} {own : String} {index : Nat} (htk : ∀ w ∈ kws, w.before args s = true) (hl : (Cond.methodLink own index yX6_common).before args s = true) (hR : rmX6_common.frames + 1 ≤ R.frames ∧ 8 + (10 + 11) + rmX6_common.locals ≤ R.locals) : CallB R s args own index yX6_common cX6_common 10 (some .long) wsX6_common rmX6_common 0 0 2 ∧ (Cond.static yX6_common).before args s = true :=
  ⟨callB_of 2 htk (k_good kc_882) rfl rfl rfl (kw_58 htk) hl (by decide +kernel) hR, (kw_881 htk)⟩
set_option maxRecDepth 100000 in
set_option maxHeartbeats 4000000 in
theorem mX6_common (l : Launch) (D : va_G) (cs : Nat → ClassId) (ad : Nat → Nat) (N : Nat) (σ : vS) (p0 : Int64) (p2 : Int64) (r : Int64) (hf : fX6_common N σ p0 p2 = some r) : k_MP l yX6_common wsX6_common rmX6_common D (tM cs) (wM cs ad) [.long p0, .long p2] σ (.long r) := by
  refine k_ofP (cc := cX6_common) (maxL := 10) (ret := (some .long)) (by decide) rfl (Nat.le_of_ble_eq_true rfl) ?_
  intro p e s m args below meth c ls hcf hr hlk hK hZ hl hw
  generalize hQ0 : MQ below _ args s 0 0 _ = Q0
  obtain ⟨T0, hE0⟩ : ∃ T, T = fX6_common N σ p0 p2 := ⟨_, rfl⟩
  have hR := hE0.trans hf
  have hN0 : T0 ≠ none := by rw [hR]; exact fun h => nomatch h
  have hx := hcf.1
  have hb := hcf.2.1
  have htk := hcf.2.2.2.2
  have hown := hcf.2.2.2.1
  unfold fX6_common at hE0
  replace hl : lv_has ls 10 [(0, .long p0), (2, .long p2)] := hl
  have J53 : ∀ (v4j53 : Int64) (ls : Array Slot), lv_has ls 10 [(4, .long v4j53)] → T0 = jX6_common_53 N σ v4j53 → W p l e rmX6_common s m args below meth c s.heap [] 0 0 Q0 (F0 m 53 ls []) := by
    intro v4j53 ls hl hE0
    unfold jX6_common_53 at hE0
    refine lv_lload hx hb dX6_common_53 (lv_at hl 0 rfl) ?_
    exact kretP_l hcf hr hlk hK hw (rt1 hR hE0) hQ0 dX6_common_55
  have J28 : ∀ (v4j28 : Int64) (v6j28 : Int64) (ls : Array Slot), lv_has ls 10 [(4, .long v4j28), (6, .long v6j28)] → T0 = jX6_common_28 N σ v4j28 v6j28 → W p l e rmX6_common s m args below meth c s.heap [] 0 0 Q0 (F0 m 28 ls []) := by
    intro v4j28 v6j28 ls hl hE0
    unfold jX6_common_28 at hE0
    obtain ⟨q, hq, hE0⟩ := bd1_e hE0 hN0
    refine k_ind (P := fun zz => ∀ (ls : Array Slot), lv_has ls 10 [(4, .long zz.1), (6, .long zz.2)] → W p l e rmX6_common s m args below meth c s.heap [] 0 0 Q0 (F0 m 28 ls [])) ?_ N _ hq ls (lv_sub hl [0, 1] rfl)
    intro sX T1 hE1 hN1 hC1 hX1
    obtain ⟨v4h28, v6h28⟩ := sX
    replace hE1 : T1 = bX6_common_28 N σ v4h28 v6h28 := hE1
    unfold bX6_common_28 at hE1
    intro ls hl
    replace hl : lv_has ls 10 [(4, .long v4h28), (6, .long v6h28)] := hl
    refine lv_lload hx hb dX6_common_28 (lv_at hl 1 rfl) ?_
    refine lv_lconst (v := 0) hx hb dX6_common_30 rfl ?_
    refine W.lcmp hx hb dX6_common_31 ?_
    refine lv_if_eq (tgt := 53) hx hb dX6_common_32 (by decide) (fun c3 => ?_) (fun c3 => ?_)
    · have hE1 := ite_t hE1 c3
      have hq := hX1 _ hE1
      subst hq
      exact J53 v4h28 ls (lv_sub hl [0] rfl) hE0
    · have hE1 := ite_f hE1 c3
      refine lv_lload hx hb dX6_common_35 (lv_at hl 0 rfl) ?_
      refine lv_lload hx hb dX6_common_37 (lv_at hl 1 rfl) ?_
      obtain ⟨g1, hE1⟩ := gd_e hE1 hN1
      refine lv_lrem hx hb dX6_common_39 g1 ?_
      refine lv_topl (fun x2 e_x2 => ?_)
      have hE1 := k_lts hE1 e_x2
      refine lv_lstore hx hb dX6_common_40 hl (Nat.le_of_ble_eq_true rfl) rfl (fun ls (hl : lv_has ls 10 [(8, .long x2), (4, .long v4h28), (6, .long v6h28)]) => ?_)
      refine lv_lload hx hb dX6_common_42 (lv_at hl 2 rfl) ?_
      refine lv_lstore hx hb dX6_common_44 hl (Nat.le_of_ble_eq_true rfl) rfl (fun ls (hl : lv_has ls 10 [(4, .long v6h28), (8, .long x2), (6, .long v6h28)]) => ?_)
      refine lv_lload hx hb dX6_common_46 (lv_at hl 1 rfl) ?_
      refine lv_lstore hx hb dX6_common_48 hl (Nat.le_of_ble_eq_true rfl) rfl (fun ls (hl : lv_has ls 10 [(6, .long x2), (4, .long v6h28), (8, .long x2)]) => ?_)
      refine lv_goto (tgt := 28) hx hb dX6_common_50 (by decide) ?_
      exact hC1 _ hE1 ls (lv_sub hl [1, 0] rfl)
  have J14 : ∀ (v2j14 : Int64) (v4j14 : Int64) (ls : Array Slot), lv_has ls 10 [(2, .long v2j14), (4, .long v4j14)] → T0 = jX6_common_14 N σ v2j14 v4j14 → W p l e rmX6_common s m args below meth c s.heap [] 0 0 Q0 (F0 m 14 ls []) := by
    intro v2j14 v4j14 ls hl hE0
    unfold jX6_common_14 at hE0
    refine lv_lload_n hx hb dX6_common_14 rfl (lv_at hl 0 rfl) ?_
    refine lv_lconst (v := 0) hx hb dX6_common_15 rfl ?_
    refine W.lcmp hx hb dX6_common_16 ?_
    refine lv_if_ge (tgt := 25) hx hb dX6_common_17 (by decide) (fun c5 => ?_) (fun c5 => ?_)
    · have hE0 := ite_t hE0 c5
      refine lv_lload_n hx hb dX6_common_25 rfl (lv_at hl 0 rfl) ?_
      refine lv_lstore hx hb dX6_common_26 hl (Nat.le_of_ble_eq_true rfl) rfl (fun ls (hl : lv_has ls 10 [(6, .long v2j14), (2, .long v2j14), (4, .long v4j14)]) => ?_)
      exact J28 v4j14 v2j14 ls (lv_sub hl [2, 0] rfl) hE0
    · have hE0 := ite_f hE0 c5
      refine lv_lload_n hx hb dX6_common_20 rfl (lv_at hl 0 rfl) ?_
      refine lv_lneg hx hb dX6_common_21 ?_
      refine lv_goto (tgt := 26) hx hb dX6_common_22 (by decide) ?_
      refine lv_topl (fun x4 e_x4 => ?_)
      have hE0 := k_lts hE0 e_x4
      refine lv_lstore hx hb dX6_common_26 hl (Nat.le_of_ble_eq_true rfl) rfl (fun ls (hl : lv_has ls 10 [(6, .long x4), (2, .long v2j14), (4, .long v4j14)]) => ?_)
      exact J28 v4j14 x4 ls (lv_sub hl [2, 0] rfl) hE0
  refine lv_lload_n hx hb dX6_common_0 rfl (lv_at hl 0 rfl) ?_
  refine lv_lconst (v := 0) hx hb dX6_common_1 rfl ?_
  refine W.lcmp hx hb dX6_common_2 ?_
  refine lv_if_ge (tgt := 11) hx hb dX6_common_3 (by decide) (fun c7 => ?_) (fun c7 => ?_)
  · have hE0 := ite_t hE0 c7
    refine lv_lload_n hx hb dX6_common_11 rfl (lv_at hl 0 rfl) ?_
    refine lv_lstore hx hb dX6_common_12 hl (Nat.le_of_ble_eq_true rfl) rfl (fun ls (hl : lv_has ls 10 [(4, .long p0), (0, .long p0), (2, .long p2)]) => ?_)
    exact J14 p2 p0 ls (lv_sub hl [2, 0] rfl) hE0
  · have hE0 := ite_f hE0 c7
    refine lv_lload_n hx hb dX6_common_6 rfl (lv_at hl 0 rfl) ?_
    refine lv_lneg hx hb dX6_common_7 ?_
    refine lv_goto (tgt := 12) hx hb dX6_common_8 (by decide) ?_
    refine lv_topl (fun x6 e_x6 => ?_)
    have hE0 := k_lts hE0 e_x6
    refine lv_lstore hx hb dX6_common_12 hl (Nat.le_of_ble_eq_true rfl) rfl (fun ls (hl : lv_has ls 10 [(4, .long x6), (0, .long p0), (2, .long p2)]) => ?_)
    exact J14 p2 x6 ls (lv_sub hl [2, 0] rfl) hE0
def jX6_makeBase_213 (N : Nat) (σj213 : vS) : Option (vS) :=
  some (p_i σj213 13 ((σj213.1 13) + (1 : Int32)))
def bX6_makeBase_155 (N : Nat) (v3j143 : Int64) (r5 : Int64) (v7h155 : Int32) (σh155 : vS) : Option ((Int32 × vS) ⊕ (vS)) :=
  if ((6 : Int32) ≤ v7h155) then (
    some (.inr σh155)
  ) else (
    if ((((6 : Int32) * (σh155.1 13)) + v7h155) < 0 ∨ 36 ≤ ((((6 : Int32) * (σh155.1 13)) + v7h155)).toNatClampNeg) then none else
    if (0 ≤ (lg_cmp v3j143 (0 : Int64))) then (
      if (r5 = 0) then none else
      if ((((6 : Int32) * (σh155.1 13)) + v7h155) < 0 ∨ 36 ≤ ((((6 : Int32) * (σh155.1 13)) + v7h155)).toNatClampNeg) then none else
      k_lt (v7h155 + (1 : Int32)) fun x9 =>
      some (.inl (x9, (p_b σh155 3 (((((6 : Int32) * (σh155.1 13)) + v7h155)).toNatClampNeg) ((σh155.2.2.2 3 (((((6 : Int32) * (σh155.1 13)) + v7h155)).toNatClampNeg)) / r5))))
    ) else (
      if ((-r5) = 0) then none else
      if ((((6 : Int32) * (σh155.1 13)) + v7h155) < 0 ∨ 36 ≤ ((((6 : Int32) * (σh155.1 13)) + v7h155)).toNatClampNeg) then none else
      k_lt (v7h155 + (1 : Int32)) fun x12 =>
      some (.inl (x12, (p_b σh155 3 (((((6 : Int32) * (σh155.1 13)) + v7h155)).toNatClampNeg) ((σh155.2.2.2 3 (((((6 : Int32) * (σh155.1 13)) + v7h155)).toNatClampNeg)) / (-r5)))))
    )
  )
def jX6_makeBase_143 (N : Nat) (σj143 : vS) (v3j143 : Int64) (v5j143 : Int64) : Option (vS) :=
  bd1 (fX6_common N σj143 v5j143 v5j143) fun r5 =>
  bd1 (k_itr (fun zz => bX6_makeBase_155 N v3j143 r5 zz.1 zz.2) N ((0 : Int32), σj143)) fun q => jX6_makeBase_213 N q
def bX6_makeBase_73 (N : Nat) (v1j29 : Int32) (r2 : Int32) (r3 : Int64) (v5h73 : Int64) (v7h73 : Int32) (σh73 : vS) : Option ((Int64 × Int32 × vS) ⊕ (Int64 × vS)) :=
  if ((σh73.1 12) ≤ v7h73) then (
    some (.inr (v5h73, σh73))
  ) else (
    bd1 (fX6_noteLeads N σh73) fun σ15 =>
    if (v7h73 < 0 ∨ 6 ≤ (v7h73).toNatClampNeg) then none else
    bd2 (fX6_determinant N (p_a σ15 9 ((v7h73).toNatClampNeg) v1j29) (σ15.1 12) r2) fun r17 σ17 =>
    k_lt (-r17) fun x18 =>
    if (v7h73 < 0 ∨ 6 ≤ (v7h73).toNatClampNeg) then none else
    if ((((6 : Int32) * (σ17.1 13)) + (σ17.2.1 7 ((v7h73).toNatClampNeg))) < 0 ∨ 36 ≤ ((((6 : Int32) * (σ17.1 13)) + (σ17.2.1 7 ((v7h73).toNatClampNeg)))).toNatClampNeg) then none else
    bd1 (fX6_common N (p_b σ17 3 (((((6 : Int32) * (σ17.1 13)) + (σ17.2.1 7 ((v7h73).toNatClampNeg)))).toNatClampNeg) x18) v5h73 x18) fun r21 =>
    k_lt (v7h73 + (1 : Int32)) fun x22 =>
    some (.inl (r21, x22, (p_b σ17 3 (((((6 : Int32) * (σ17.1 13)) + (σ17.2.1 7 ((v7h73).toNatClampNeg)))).toNatClampNeg) x18)))
  )
def jX6_makeBase_29 (N : Nat) (σj29 : vS) (v1j29 : Int32) : Option (vS) :=
  bd1 (fX6_noteLeads N σj29) fun σ1 =>
  bd2 (fX6_rowsFor N σ1 (σ1.1 12)) fun r2 σ2 =>
  bd2 (fX6_determinant N σ2 (σ2.1 12) r2) fun r3 σ3 =>
  if ((((6 : Int32) * (σ3.1 13)) + v1j29) < 0 ∨ 36 ≤ ((((6 : Int32) * (σ3.1 13)) + v1j29)).toNatClampNeg) then none else
  bd1 (k_itr (fun zz => bX6_makeBase_73 N v1j29 r2 r3 zz.1 zz.2.1 zz.2.2) N (r3, (0 : Int32), (p_b σ3 3 (((((6 : Int32) * (σ3.1 13)) + v1j29)).toNatClampNeg) r3))) fun q => jX6_makeBase_143 N q.2 r3 q.1
def bX6_makeBase_2 (N : Nat) (p1 : Int32) (v2h2 : Int32) (σh2 : vS) : Option ((Int32 × vS) ⊕ (vS)) :=
  if ((6 : Int32) ≤ v2h2) then (
    some (.inr σh2)
  ) else (
    if ((((6 : Int32) * (σh2.1 13)) + v2h2) < 0 ∨ 36 ≤ ((((6 : Int32) * (σh2.1 13)) + v2h2)).toNatClampNeg) then none else
    k_lt (v2h2 + (1 : Int32)) fun x25 =>
    some (.inl (x25, (p_b σh2 3 (((((6 : Int32) * (σh2.1 13)) + v2h2)).toNatClampNeg) (0 : Int64))))
  )
def fX6_makeBase (N : Nat) (σ : vS) (p1 : Int32) : Option (vS) :=
  bd1 (k_itr (fun zz => bX6_makeBase_2 N p1 zz.1 zz.2) N ((0 : Int32), σ)) fun q => jX6_makeBase_29 N q p1
abbrev rmX6_makeBase : Room := { frames := 3, cells := 0, slots := 0, locals := 76 }
abbrev wsX6_makeBase : List Cond := .code yX6_makeBase cX6_makeBase 10 none :: kws
theorem kcX6_makeBase {R : Room} {s : State} {args : Array Value} {own : String} {index : Nat} (htk : ∀ w ∈ kws, w.before args s = true) (hl : (Cond.methodLink own index yX6_makeBase).before args s = true) (hR : rmX6_makeBase.frames + 1 ≤ R.frames ∧ 8 + (10 + 11) + rmX6_makeBase.locals ≤ R.locals) : CallW R s args own RX6 index yX6_makeBase cX6_makeBase 10 none wsX6_makeBase rmX6_makeBase 0 0 1 :=
  ⟨callB_of 1 htk (k_good kc_879) rfl rfl rfl (kw_58 htk) hl (by decide +kernel) hR, (kw_878 htk), (kw_44 htk)⟩
set_option maxRecDepth 100000 in
set_option maxHeartbeats 4000000 in
theorem mX6_makeBase (l : Launch) (D : va_G) (cs : Nat → ClassId) (ad : Nat → Nat) (N : Nat) (σ : vS) (p1 : Int32) (σ' : vS) (hf : fX6_makeBase N σ p1 = some σ') : k_Met l yX6_makeBase wsX6_makeBase rmX6_makeBase D (tM cs) (wM cs ad) (k_A 17 ad) [.ref (ad 0), .int p1] σ none σ' := by
  refine k_of (cc := cX6_makeBase) (maxL := 10) (ret := none) (by decide) rfl (Nat.le_of_ble_eq_true rfl) ?_
  intro p e s m args below meth c ls H locs hcf hr hlk hK hZ hl hw
  generalize hQ0 : MQ below _ args s 0 0 _ = Q0
  obtain ⟨T0, hE0⟩ : ∃ T, T = fX6_makeBase N σ p1 := ⟨_, rfl⟩
  have hR := hE0.trans hf
  have hN0 : T0 ≠ none := by rw [hR]; exact fun h => nomatch h
  have hx := hcf.1
  have hb := hcf.2.1
  have htk := hcf.2.2.2.2
  have hown := hcf.2.2.2.1
  unfold fX6_makeBase at hE0
  replace hl : lv_has ls 10 [(0, .ref (ad 0)), (1, .int p1)] := hl
  have J213 : ∀ (σj213 : vS) (H : Heap) (locs : List Loc) (ls : Array Slot), lv_has ls 10 [(0, .ref (ad 0))] → k_H D (wM cs ad) (k_A 17 ad) σj213 s.heap H locs → T0 = jX6_makeBase_213 N σj213 → W p l e rmX6_makeBase s m args below meth c H locs 0 0 Q0 (F0 m 213 ls []) := by
    intro σj213 H locs ls hl hw hE0
    unfold jX6_makeBase_213 at hE0
    refine lv_aload_n hx hb dX6_makeBase_213 rfl (lv_at hl 0 rfl) ?_
    refine lv_dup hx hb dX6_makeBase_214 rfl ?_
    refine kg_X6_free hcf hK (kw_704 htk) (x := (σj213.1 13)) dX6_makeBase_215 hw rfl ?_
    refine lv_iconst (v := 1) hx hb dX6_makeBase_218 rfl ?_
    refine lv_iadd hx hb dX6_makeBase_219 ?_
    refine kp_X6_free hcf hK (kw_704 htk) dX6_makeBase_220 hw (fun H locs hw => ?_)
    exact kret_v hcf hr hlk hK hw (rt1 hR hE0) hQ0 dX6_makeBase_223
  have J143 : ∀ (v3j143 : Int64) (v5j143 : Int64) (σj143 : vS) (H : Heap) (locs : List Loc) (ls : Array Slot), lv_has ls 10 [(0, .ref (ad 0)), (3, .long v3j143), (5, .long v5j143)] → k_H D (wM cs ad) (k_A 17 ad) σj143 s.heap H locs → T0 = jX6_makeBase_143 N σj143 v3j143 v5j143 → W p l e rmX6_makeBase s m args below meth c H locs 0 0 Q0 (F0 m 143 ls []) := by
    intro v3j143 v5j143 σj143 H locs ls hl hw hE0
    unfold jX6_makeBase_143 at hE0
    refine lv_lload hx hb dX6_makeBase_143 (lv_at hl 2 rfl) ?_
    refine lv_lload hx hb dX6_makeBase_145 (lv_at hl 2 rfl) ?_
    obtain ⟨r5, k5, hE0⟩ := bd1_e hE0 hN0
    refine k_callP (va_runS (As := [.long v5j143, .long v5j143]) (rest := []) hcf (mX6_common l D cs ad N σj143 v5j143 v5j143 r5 k5) (kcX6_common htk (kw_880 htk) ⟨Nat.le_of_ble_eq_true rfl, Nat.le_of_ble_eq_true rfl⟩) ⟨k_blind, k_pre hK hZ hw⟩ rfl rfl hl.1 rfl (lv_room (Nat.le_of_ble_eq_true rfl)) dX6_makeBase_147 ⟨Nat.zero_le _, Nat.zero_le _⟩) ?_
    refine lv_lstore hx hb dX6_makeBase_150 hl (Nat.le_of_ble_eq_true rfl) rfl (fun ls (hl : lv_has ls 10 [(5, .long r5), (0, .ref (ad 0)), (3, .long v3j143)]) => ?_)
    refine lv_iconst (v := 0) hx hb dX6_makeBase_152 rfl ?_
    refine lv_istore hx hb dX6_makeBase_153 hl (Nat.le_of_ble_eq_true rfl) rfl (fun ls (hl : lv_has ls 10 [(7, .int (0 : Int32)), (5, .long r5), (0, .ref (ad 0)), (3, .long v3j143)]) => ?_)
    obtain ⟨q, hq, hE0⟩ := bd1_e hE0 hN0
    refine k_ind (P := fun zz => ∀ (H : Heap) (locs : List Loc) (ls : Array Slot), lv_has ls 10 [(0, .ref (ad 0)), (3, .long v3j143), (5, .long r5), (7, .int zz.1)] → k_H D (wM cs ad) (k_A 17 ad) zz.2 s.heap H locs → W p l e rmX6_makeBase s m args below meth c H locs 0 0 Q0 (F0 m 155 ls [])) ?_ N _ hq H locs ls (lv_sub hl [2, 3, 1, 0] rfl) hw
    intro sX T1 hE1 hN1 hC1 hX1
    obtain ⟨v7h155, σh155⟩ := sX
    replace hE1 : T1 = bX6_makeBase_155 N v3j143 r5 v7h155 σh155 := hE1
    unfold bX6_makeBase_155 at hE1
    intro H locs ls hl hw
    replace hl : lv_has ls 10 [(0, .ref (ad 0)), (3, .long v3j143), (5, .long r5), (7, .int v7h155)] := hl
    replace hw : k_H D (wM cs ad) (k_A 17 ad) σh155 s.heap H locs := hw
    refine lv_iload hx hb dX6_makeBase_155 (lv_at hl 3 rfl) ?_
    refine lv_bipush (v := 6) hx hb dX6_makeBase_157 rfl ?_
    refine lv_icmp_ge (tgt := 213) hx hb dX6_makeBase_159 (by decide) (fun c14 => ?_) (fun c14 => ?_)
    · have hE1 := ite_t hE1 c14
      have hq := hX1 _ hE1
      subst hq
      exact J213 σh155 H locs ls (lv_sub hl [0] rfl) hw hE0
    · have hE1 := ite_f hE1 c14
      refine lv_aload_n hx hb dX6_makeBase_162 rfl (lv_at hl 0 rfl) ?_
      refine kg_X6_bases hcf hK (kw_705 htk) dX6_makeBase_163 hw ?_
      refine lv_bipush (v := 6) hx hb dX6_makeBase_166 rfl ?_
      refine lv_aload_n hx hb dX6_makeBase_168 rfl (lv_at hl 0 rfl) ?_
      refine kg_X6_free hcf hK (kw_704 htk) (x := (σh155.1 13)) dX6_makeBase_169 hw rfl ?_
      refine lv_imul hx hb dX6_makeBase_172 ?_
      refine lv_iload hx hb dX6_makeBase_173 (lv_at hl 3 rfl) ?_
      refine lv_iadd hx hb dX6_makeBase_175 ?_
      refine lv_aload_n hx hb dX6_makeBase_176 rfl (lv_at hl 0 rfl) ?_
      refine kg_X6_bases hcf hK (kw_705 htk) dX6_makeBase_177 hw ?_
      refine lv_bipush (v := 6) hx hb dX6_makeBase_180 rfl ?_
      refine lv_aload_n hx hb dX6_makeBase_182 rfl (lv_at hl 0 rfl) ?_
      refine kg_X6_free hcf hK (kw_704 htk) (x := (σh155.1 13)) dX6_makeBase_183 hw rfl ?_
      refine lv_imul hx hb dX6_makeBase_186 ?_
      refine lv_iload hx hb dX6_makeBase_187 (lv_at hl 3 rfl) ?_
      refine lv_iadd hx hb dX6_makeBase_189 ?_
      obtain ⟨g6, hE1⟩ := gd_e hE1 hN1
      refine mald_B3 hcf hK (x := (σh155.2.2.2 3 (((((6 : Int32) * (σh155.1 13)) + v7h155)).toNatClampNeg))) dX6_makeBase_190 g6 hw rfl ?_
      refine lv_lload_n hx hb dX6_makeBase_191 rfl (lv_at hl 1 rfl) ?_
      refine lv_lconst (v := 0) hx hb dX6_makeBase_192 rfl ?_
      refine W.lcmp hx hb dX6_makeBase_193 ?_
      refine lv_if_ge (tgt := 203) hx hb dX6_makeBase_194 (by decide) (fun c13 => ?_) (fun c13 => ?_)
      · have hE1 := ite_t hE1 c13
        refine lv_lload hx hb dX6_makeBase_203 (lv_at hl 2 rfl) ?_
        obtain ⟨g7, hE1⟩ := gd_e hE1 hN1
        refine lv_ldiv hx hb dX6_makeBase_205 g7 ?_
        obtain ⟨g8, hE1⟩ := gd_e hE1 hN1
        refine mast_B3 hcf hK dX6_makeBase_206 g8 hw (fun H locs hw => ?_)
        obtain ⟨x9, e_x9, hE1⟩ := k_lte hE1
        refine lv_iinc (k := 3) (v := x9) hx hb dX6_makeBase_207 hl rfl (Eq.symm e_x9) (Nat.le_of_ble_eq_true rfl) rfl (fun ls (hl : lv_has ls 10 [(7, .int x9), (0, .ref (ad 0)), (3, .long v3j143), (5, .long r5)]) => ?_)
        refine lv_goto (tgt := 155) hx hb dX6_makeBase_210 (by decide) ?_
        exact hC1 _ hE1 H locs ls (lv_sub hl [1, 2, 3, 0] rfl) hw
      · have hE1 := ite_f hE1 c13
        refine lv_lload hx hb dX6_makeBase_197 (lv_at hl 2 rfl) ?_
        refine lv_lneg hx hb dX6_makeBase_199 ?_
        refine lv_goto (tgt := 205) hx hb dX6_makeBase_200 (by decide) ?_
        obtain ⟨g10, hE1⟩ := gd_e hE1 hN1
        refine lv_ldiv hx hb dX6_makeBase_205 g10 ?_
        obtain ⟨g11, hE1⟩ := gd_e hE1 hN1
        refine mast_B3 hcf hK dX6_makeBase_206 g11 hw (fun H locs hw => ?_)
        obtain ⟨x12, e_x12, hE1⟩ := k_lte hE1
        refine lv_iinc (k := 3) (v := x12) hx hb dX6_makeBase_207 hl rfl (Eq.symm e_x12) (Nat.le_of_ble_eq_true rfl) rfl (fun ls (hl : lv_has ls 10 [(7, .int x12), (0, .ref (ad 0)), (3, .long v3j143), (5, .long r5)]) => ?_)
        refine lv_goto (tgt := 155) hx hb dX6_makeBase_210 (by decide) ?_
        exact hC1 _ hE1 H locs ls (lv_sub hl [1, 2, 3, 0] rfl) hw
  have J29 : ∀ (v1j29 : Int32) (σj29 : vS) (H : Heap) (locs : List Loc) (ls : Array Slot), lv_has ls 10 [(0, .ref (ad 0)), (1, .int v1j29)] → k_H D (wM cs ad) (k_A 17 ad) σj29 s.heap H locs → T0 = jX6_makeBase_29 N σj29 v1j29 → W p l e rmX6_makeBase s m args below meth c H locs 0 0 Q0 (F0 m 29 ls []) := by
    intro v1j29 σj29 H locs ls hl hw hE0
    unfold jX6_makeBase_29 at hE0
    refine lv_aload_n hx hb dX6_makeBase_29 rfl (lv_at hl 0 rfl) ?_
    obtain ⟨σ1, k1, hE0⟩ := bd1_e hE0 hN0
    refine k_call (va_runV (As := []) (rest := []) hcf (mX6_noteLeads l D cs ad N σj29 σ1 k1) (kcX6_noteLeads htk (kw_853 htk) ⟨Nat.le_of_ble_eq_true rfl, Nat.le_of_ble_eq_true rfl⟩) ⟨k_blind, va_recv (ci := 6) (q0 := 0) hK hw.1 rfl rfl, k_pre hK hZ hw⟩ rfl rfl hl.1 rfl (lv_room (Nat.le_of_ble_eq_true rfl)) dX6_makeBase_30 ⟨Nat.zero_le _, Nat.zero_le _⟩) hw (fun H locs hw => ?_)
    refine lv_aload_n hx hb dX6_makeBase_33 rfl (lv_at hl 0 rfl) ?_
    refine lv_aload_n hx hb dX6_makeBase_34 rfl (lv_at hl 0 rfl) ?_
    refine kg_X6_leads hcf hK (kw_701 htk) (x := (σ1.1 12)) dX6_makeBase_35 hw rfl ?_
    obtain ⟨r2, σ2, k2, hE0⟩ := bd2_e hE0 hN0
    refine k_call (va_runV (As := [.int (σ1.1 12)]) (rest := []) hcf (mX6_rowsFor l D cs ad N σ1 (σ1.1 12) r2 σ2 k2) (kcX6_rowsFor htk (kw_861 htk) ⟨Nat.le_of_ble_eq_true rfl, Nat.le_of_ble_eq_true rfl⟩) ⟨k_blind, va_recv (ci := 6) (q0 := 0) hK hw.1 rfl rfl, k_pre hK hZ hw⟩ rfl rfl hl.1 rfl (lv_room (Nat.le_of_ble_eq_true rfl)) dX6_makeBase_38 ⟨Nat.zero_le _, Nat.zero_le _⟩) hw (fun H locs hw => ?_)
    refine lv_istore_n hx hb dX6_makeBase_41 rfl hl (Nat.le_of_ble_eq_true rfl) rfl (fun ls (hl : lv_has ls 10 [(2, .int r2), (0, .ref (ad 0)), (1, .int v1j29)]) => ?_)
    refine lv_aload_n hx hb dX6_makeBase_42 rfl (lv_at hl 1 rfl) ?_
    refine lv_aload_n hx hb dX6_makeBase_43 rfl (lv_at hl 1 rfl) ?_
    refine kg_X6_leads hcf hK (kw_701 htk) (x := (σ2.1 12)) dX6_makeBase_44 hw rfl ?_
    refine lv_iload_n hx hb dX6_makeBase_47 rfl (lv_at hl 0 rfl) ?_
    obtain ⟨r3, σ3, k3, hE0⟩ := bd2_e hE0 hN0
    refine k_call (va_runV (As := [.int (σ2.1 12), .int r2]) (rest := []) hcf (mX6_determinant l D cs ad N σ2 (σ2.1 12) r2 r3 σ3 k3) (kcX6_determinant htk (kw_868 htk) ⟨Nat.le_of_ble_eq_true rfl, Nat.le_of_ble_eq_true rfl⟩) ⟨k_blind, va_recv (ci := 6) (q0 := 0) hK hw.1 rfl rfl, k_pre hK hZ hw⟩ rfl rfl hl.1 rfl (lv_room (Nat.le_of_ble_eq_true rfl)) dX6_makeBase_48 ⟨Nat.zero_le _, Nat.zero_le _⟩) hw (fun H locs hw => ?_)
    refine lv_lstore_n hx hb dX6_makeBase_51 rfl hl (Nat.le_of_ble_eq_true rfl) rfl (fun ls (hl : lv_has ls 10 [(3, .long r3), (2, .int r2), (0, .ref (ad 0)), (1, .int v1j29)]) => ?_)
    refine lv_lload_n hx hb dX6_makeBase_52 rfl (lv_at hl 0 rfl) ?_
    refine lv_lstore hx hb dX6_makeBase_53 hl (Nat.le_of_ble_eq_true rfl) rfl (fun ls (hl : lv_has ls 10 [(5, .long r3), (3, .long r3), (2, .int r2), (0, .ref (ad 0)), (1, .int v1j29)]) => ?_)
    refine lv_aload_n hx hb dX6_makeBase_55 rfl (lv_at hl 3 rfl) ?_
    refine kg_X6_bases hcf hK (kw_705 htk) dX6_makeBase_56 hw ?_
    refine lv_bipush (v := 6) hx hb dX6_makeBase_59 rfl ?_
    refine lv_aload_n hx hb dX6_makeBase_61 rfl (lv_at hl 3 rfl) ?_
    refine kg_X6_free hcf hK (kw_704 htk) (x := (σ3.1 13)) dX6_makeBase_62 hw rfl ?_
    refine lv_imul hx hb dX6_makeBase_65 ?_
    refine lv_iload_n hx hb dX6_makeBase_66 rfl (lv_at hl 4 rfl) ?_
    refine lv_iadd hx hb dX6_makeBase_67 ?_
    refine lv_lload_n hx hb dX6_makeBase_68 rfl (lv_at hl 1 rfl) ?_
    obtain ⟨g4, hE0⟩ := gd_e hE0 hN0
    refine mast_B3 hcf hK dX6_makeBase_69 g4 hw (fun H locs hw => ?_)
    refine lv_iconst (v := 0) hx hb dX6_makeBase_70 rfl ?_
    refine lv_istore hx hb dX6_makeBase_71 hl (Nat.le_of_ble_eq_true rfl) rfl (fun ls (hl : lv_has ls 10 [(7, .int (0 : Int32)), (5, .long r3), (3, .long r3), (2, .int r2), (0, .ref (ad 0)), (1, .int v1j29)]) => ?_)
    obtain ⟨q, hq, hE0⟩ := bd1_e hE0 hN0
    refine k_ind (P := fun zz => ∀ (H : Heap) (locs : List Loc) (ls : Array Slot), lv_has ls 10 [(0, .ref (ad 0)), (1, .int v1j29), (2, .int r2), (3, .long r3), (5, .long zz.1), (7, .int zz.2.1)] → k_H D (wM cs ad) (k_A 17 ad) zz.2.2 s.heap H locs → W p l e rmX6_makeBase s m args below meth c H locs 0 0 Q0 (F0 m 73 ls [])) ?_ N _ hq H locs ls (lv_sub hl [4, 5, 3, 2, 1, 0] rfl) hw
    intro sX T1 hE1 hN1 hC1 hX1
    obtain ⟨v5h73, v7h73, σh73⟩ := sX
    replace hE1 : T1 = bX6_makeBase_73 N v1j29 r2 r3 v5h73 v7h73 σh73 := hE1
    unfold bX6_makeBase_73 at hE1
    intro H locs ls hl hw
    replace hl : lv_has ls 10 [(0, .ref (ad 0)), (1, .int v1j29), (2, .int r2), (3, .long r3), (5, .long v5h73), (7, .int v7h73)] := hl
    replace hw : k_H D (wM cs ad) (k_A 17 ad) σh73 s.heap H locs := hw
    refine lv_iload hx hb dX6_makeBase_73 (lv_at hl 5 rfl) ?_
    refine lv_aload_n hx hb dX6_makeBase_75 rfl (lv_at hl 0 rfl) ?_
    refine kg_X6_leads hcf hK (kw_701 htk) (x := (σh73.1 12)) dX6_makeBase_76 hw rfl ?_
    refine lv_icmp_ge (tgt := 143) hx hb dX6_makeBase_79 (by decide) (fun c23 => ?_) (fun c23 => ?_)
    · have hE1 := ite_t hE1 c23
      have hq := hX1 _ hE1
      subst hq
      exact J143 r3 v5h73 σh73 H locs ls (lv_sub hl [0, 3, 4] rfl) hw hE0
    · have hE1 := ite_f hE1 c23
      refine lv_aload_n hx hb dX6_makeBase_82 rfl (lv_at hl 0 rfl) ?_
      obtain ⟨σ15, k15, hE1⟩ := bd1_e hE1 hN1
      refine k_call (va_runV (As := []) (rest := []) hcf (mX6_noteLeads l D cs ad N σh73 σ15 k15) (kcX6_noteLeads htk (kw_853 htk) ⟨Nat.le_of_ble_eq_true rfl, Nat.le_of_ble_eq_true rfl⟩) ⟨k_blind, va_recv (ci := 6) (q0 := 0) hK hw.1 rfl rfl, k_pre hK hZ hw⟩ rfl rfl hl.1 rfl (lv_room (Nat.le_of_ble_eq_true rfl)) dX6_makeBase_83 ⟨Nat.zero_le _, Nat.zero_le _⟩) hw (fun H locs hw => ?_)
      refine lv_aload_n hx hb dX6_makeBase_86 rfl (lv_at hl 0 rfl) ?_
      refine kg_X6_column hcf hK (kw_706 htk) dX6_makeBase_87 hw ?_
      refine lv_iload hx hb dX6_makeBase_90 (lv_at hl 5 rfl) ?_
      refine lv_iload_n hx hb dX6_makeBase_92 rfl (lv_at hl 1 rfl) ?_
      obtain ⟨g16, hE1⟩ := gd_e hE1 hN1
      refine mast_A9 hcf hK dX6_makeBase_93 g16 hw (fun H locs hw => ?_)
      refine lv_aload_n hx hb dX6_makeBase_94 rfl (lv_at hl 0 rfl) ?_
      refine lv_aload_n hx hb dX6_makeBase_95 rfl (lv_at hl 0 rfl) ?_
      refine kg_X6_leads hcf hK (kw_701 htk) (x := (σ15.1 12)) dX6_makeBase_96 hw rfl ?_
      refine lv_iload_n hx hb dX6_makeBase_99 rfl (lv_at hl 2 rfl) ?_
      obtain ⟨r17, σ17, k17, hE1⟩ := bd2_e hE1 hN1
      refine k_call (va_runV (As := [.int (σ15.1 12), .int r2]) (rest := []) hcf (mX6_determinant l D cs ad N (p_a σ15 9 ((v7h73).toNatClampNeg) v1j29) (σ15.1 12) r2 r17 σ17 k17) (kcX6_determinant htk (kw_868 htk) ⟨Nat.le_of_ble_eq_true rfl, Nat.le_of_ble_eq_true rfl⟩) ⟨k_blind, va_recv (ci := 6) (q0 := 0) hK hw.1 rfl rfl, k_pre hK hZ hw⟩ rfl rfl hl.1 rfl (lv_room (Nat.le_of_ble_eq_true rfl)) dX6_makeBase_100 ⟨Nat.zero_le _, Nat.zero_le _⟩) hw (fun H locs hw => ?_)
      refine lv_lneg hx hb dX6_makeBase_103 ?_
      refine lv_topl (fun x18 e_x18 => ?_)
      have hE1 := k_lts hE1 e_x18
      refine lv_lstore hx hb dX6_makeBase_104 hl (Nat.le_of_ble_eq_true rfl) rfl (fun ls (hl : lv_has ls 10 [(8, .long x18), (0, .ref (ad 0)), (1, .int v1j29), (2, .int r2), (3, .long r3), (5, .long v5h73), (7, .int v7h73)]) => ?_)
      refine lv_aload_n hx hb dX6_makeBase_106 rfl (lv_at hl 1 rfl) ?_
      refine kg_X6_bases hcf hK (kw_705 htk) dX6_makeBase_107 hw ?_
      refine lv_bipush (v := 6) hx hb dX6_makeBase_110 rfl ?_
      refine lv_aload_n hx hb dX6_makeBase_112 rfl (lv_at hl 1 rfl) ?_
      refine kg_X6_free hcf hK (kw_704 htk) (x := (σ17.1 13)) dX6_makeBase_113 hw rfl ?_
      refine lv_imul hx hb dX6_makeBase_116 ?_
      refine lv_aload_n hx hb dX6_makeBase_117 rfl (lv_at hl 1 rfl) ?_
      refine kg_X6_lead hcf hK (kw_702 htk) dX6_makeBase_118 hw ?_
      refine lv_iload hx hb dX6_makeBase_121 (lv_at hl 6 rfl) ?_
      obtain ⟨g19, hE1⟩ := gd_e hE1 hN1
      refine mald_A7 hcf hK (x := (σ17.2.1 7 ((v7h73).toNatClampNeg))) dX6_makeBase_123 g19 hw rfl ?_
      refine lv_iadd hx hb dX6_makeBase_124 ?_
      refine lv_lload hx hb dX6_makeBase_125 (lv_at hl 0 rfl) ?_
      obtain ⟨g20, hE1⟩ := gd_e hE1 hN1
      refine mast_B3 hcf hK dX6_makeBase_127 g20 hw (fun H locs hw => ?_)
      refine lv_lload hx hb dX6_makeBase_128 (lv_at hl 5 rfl) ?_
      refine lv_lload hx hb dX6_makeBase_130 (lv_at hl 0 rfl) ?_
      obtain ⟨r21, k21, hE1⟩ := bd1_e hE1 hN1
      refine k_callP (va_runS (As := [.long v5h73, .long x18]) (rest := []) hcf (mX6_common l D cs ad N (p_b σ17 3 (((((6 : Int32) * (σ17.1 13)) + (σ17.2.1 7 ((v7h73).toNatClampNeg)))).toNatClampNeg) x18) v5h73 x18 r21 k21) (kcX6_common htk (kw_880 htk) ⟨Nat.le_of_ble_eq_true rfl, Nat.le_of_ble_eq_true rfl⟩) ⟨k_blind, k_pre hK hZ hw⟩ rfl rfl hl.1 rfl (lv_room (Nat.le_of_ble_eq_true rfl)) dX6_makeBase_132 ⟨Nat.zero_le _, Nat.zero_le _⟩) ?_
      refine lv_lstore hx hb dX6_makeBase_135 hl (Nat.le_of_ble_eq_true rfl) rfl (fun ls (hl : lv_has ls 10 [(5, .long r21), (8, .long x18), (0, .ref (ad 0)), (1, .int v1j29), (2, .int r2), (3, .long r3), (7, .int v7h73)]) => ?_)
      obtain ⟨x22, e_x22, hE1⟩ := k_lte hE1
      refine lv_iinc (k := 6) (v := x22) hx hb dX6_makeBase_137 hl rfl (Eq.symm e_x22) (Nat.le_of_ble_eq_true rfl) rfl (fun ls (hl : lv_has ls 10 [(7, .int x22), (5, .long r21), (8, .long x18), (0, .ref (ad 0)), (1, .int v1j29), (2, .int r2), (3, .long r3)]) => ?_)
      refine lv_goto (tgt := 73) hx hb dX6_makeBase_140 (by decide) ?_
      exact hC1 _ hE1 H locs ls (lv_sub hl [3, 4, 5, 6, 1, 0] rfl) hw
  refine lv_iconst (v := 0) hx hb dX6_makeBase_0 rfl ?_
  refine lv_istore_n hx hb dX6_makeBase_1 rfl hl (Nat.le_of_ble_eq_true rfl) rfl (fun ls (hl : lv_has ls 10 [(2, .int (0 : Int32)), (0, .ref (ad 0)), (1, .int p1)]) => ?_)
  obtain ⟨q, hq, hE0⟩ := bd1_e hE0 hN0
  refine k_ind (P := fun zz => ∀ (H : Heap) (locs : List Loc) (ls : Array Slot), lv_has ls 10 [(0, .ref (ad 0)), (1, .int p1), (2, .int zz.1)] → k_H D (wM cs ad) (k_A 17 ad) zz.2 s.heap H locs → W p l e rmX6_makeBase s m args below meth c H locs 0 0 Q0 (F0 m 2 ls [])) ?_ N _ hq H locs ls (lv_sub hl [1, 2, 0] rfl) hw
  intro sX T1 hE1 hN1 hC1 hX1
  obtain ⟨v2h2, σh2⟩ := sX
  replace hE1 : T1 = bX6_makeBase_2 N p1 v2h2 σh2 := hE1
  unfold bX6_makeBase_2 at hE1
  intro H locs ls hl hw
  replace hl : lv_has ls 10 [(0, .ref (ad 0)), (1, .int p1), (2, .int v2h2)] := hl
  replace hw : k_H D (wM cs ad) (k_A 17 ad) σh2 s.heap H locs := hw
  refine lv_iload_n hx hb dX6_makeBase_2 rfl (lv_at hl 2 rfl) ?_
  refine lv_bipush (v := 6) hx hb dX6_makeBase_3 rfl ?_
  refine lv_icmp_ge (tgt := 29) hx hb dX6_makeBase_5 (by decide) (fun c26 => ?_) (fun c26 => ?_)
  · have hE1 := ite_t hE1 c26
    have hq := hX1 _ hE1
    subst hq
    exact J29 p1 σh2 H locs ls (lv_sub hl [0, 1] rfl) hw hE0
  · have hE1 := ite_f hE1 c26
    refine lv_aload_n hx hb dX6_makeBase_8 rfl (lv_at hl 0 rfl) ?_
    refine kg_X6_bases hcf hK (kw_705 htk) dX6_makeBase_9 hw ?_
    refine lv_bipush (v := 6) hx hb dX6_makeBase_12 rfl ?_
    refine lv_aload_n hx hb dX6_makeBase_14 rfl (lv_at hl 0 rfl) ?_
    refine kg_X6_free hcf hK (kw_704 htk) (x := (σh2.1 13)) dX6_makeBase_15 hw rfl ?_
    refine lv_imul hx hb dX6_makeBase_18 ?_
    refine lv_iload_n hx hb dX6_makeBase_19 rfl (lv_at hl 2 rfl) ?_
    refine lv_iadd hx hb dX6_makeBase_20 ?_
    refine lv_lconst (v := 0) hx hb dX6_makeBase_21 rfl ?_
    obtain ⟨g24, hE1⟩ := gd_e hE1 hN1
    refine mast_B3 hcf hK dX6_makeBase_22 g24 hw (fun H locs hw => ?_)
    obtain ⟨x25, e_x25, hE1⟩ := k_lte hE1
    refine lv_iinc (k := 2) (v := x25) hx hb dX6_makeBase_23 hl rfl (Eq.symm e_x25) (Nat.le_of_ble_eq_true rfl) rfl (fun ls (hl : lv_has ls 10 [(2, .int x25), (0, .ref (ad 0)), (1, .int p1)]) => ?_)
    refine lv_goto (tgt := 2) hx hb dX6_makeBase_26 (by decide) ?_
    exact hC1 _ hE1 H locs ls (lv_sub hl [1, 2, 0] rfl) hw
def jX6_solve_112 (N : Nat) (σj112 : vS) : Option (vS) :=
  some σj112
def jX6_solve_69_12 (N : Nat) (σj69 : vS) (v1j69 : Int32) : Option ((Int32 × vS) ⊕ (vS)) :=
  if (v1j69 < 0 ∨ 6 ≤ (v1j69).toNatClampNeg) then none else
  if ((σj69.2.1 8 ((v1j69).toNatClampNeg)) = 0) then (
    if ((σj69.1 12) < 0 ∨ 6 ≤ ((σj69.1 12)).toNatClampNeg) then none else
    k_lt (v1j69 + (1 : Int32)) fun x7 =>
    some (.inl (x7, (p_i (p_a σj69 7 (((σj69.1 12)).toNatClampNeg) v1j69) 12 ((σj69.1 12) + (1 : Int32)))))
  ) else (
    bd1 (fX6_makeBase N σj69 v1j69) fun σ8 =>
    k_lt (v1j69 + (1 : Int32)) fun x9 =>
    some (.inl (x9, σ8))
  )
def bX6_solve_12 (N : Nat) (v1h12 : Int32) (σh12 : vS) : Option ((Int32 × vS) ⊕ (vS)) :=
  if ((σh12.1 8) ≤ v1h12) then (
    some (.inr σh12)
  ) else (
    bd1 (fX6_noteLeads N σh12) fun σ1 =>
    if ((σ1.1 12) < 0 ∨ 6 ≤ ((σ1.1 12)).toNatClampNeg) then none else
    bd1 (fX6_kindCount N (p_a σ1 9 (((σ1.1 12)).toNatClampNeg) v1h12)) fun r3 =>
    if ((σ1.1 12) = r3) then (
      if (v1h12 < 0 ∨ 6 ≤ (v1h12).toNatClampNeg) then none else
      jX6_solve_69_12 N (p_a (p_a σ1 9 (((σ1.1 12)).toNatClampNeg) v1h12) 8 ((v1h12).toNatClampNeg) (vp_nar .boolean (1 : Int32))) v1h12
    ) else (
      bd2 (fX6_rowsFor N (p_a σ1 9 (((σ1.1 12)).toNatClampNeg) v1h12) ((σ1.1 12) + (1 : Int32))) fun r11 σ11 =>
      if (0 ≤ r11) then (
        if (v1h12 < 0 ∨ 6 ≤ (v1h12).toNatClampNeg) then none else
        jX6_solve_69_12 N (p_a σ11 8 ((v1h12).toNatClampNeg) (vp_nar .boolean (0 : Int32))) v1h12
      ) else (
        if (v1h12 < 0 ∨ 6 ≤ (v1h12).toNatClampNeg) then none else
        jX6_solve_69_12 N (p_a σ11 8 ((v1h12).toNatClampNeg) (vp_nar .boolean (1 : Int32))) v1h12
      )
    )
  )
def fX6_solve (N : Nat) (σ : vS) : Option (vS) :=
  bd1 (k_itr (fun zz => bX6_solve_12 N zz.1 zz.2) N ((0 : Int32), (p_i (p_i σ 12 (0 : Int32)) 13 (0 : Int32)))) fun q => jX6_solve_112 N q
abbrev rmX6_solve : Room := { frames := 4, cells := 0, slots := 0, locals := 105 }
abbrev wsX6_solve : List Cond := .code yX6_solve cX6_solve 2 none :: kws
theorem kcX6_solve {R : Room} {s : State} {args : Array Value} {own : String} {index : Nat} (htk : ∀ w ∈ kws, w.before args s = true) (hl : (Cond.methodLink own index yX6_solve).before args s = true) (hR : rmX6_solve.frames + 1 ≤ R.frames ∧ 8 + (2 + 11) + rmX6_solve.locals ≤ R.locals) : CallW R s args own RX6 index yX6_solve cX6_solve 2 none wsX6_solve rmX6_solve 0 0 0 :=
  ⟨callB_of 0 htk (k_good kc_852) rfl rfl rfl (kw_58 htk) hl (by decide +kernel) hR, (kw_851 htk), (kw_38 htk)⟩
set_option maxRecDepth 100000 in
set_option maxHeartbeats 4000000 in
theorem mX6_solve (l : Launch) (D : va_G) (cs : Nat → ClassId) (ad : Nat → Nat) (N : Nat) (σ : vS) (σ' : vS) (hf : fX6_solve N σ = some σ') : k_Met l yX6_solve wsX6_solve rmX6_solve D (tM cs) (wM cs ad) (k_A 17 ad) [.ref (ad 0)] σ none σ' := by
  refine k_of (cc := cX6_solve) (maxL := 2) (ret := none) (by decide) rfl (Nat.le_of_ble_eq_true rfl) ?_
  intro p e s m args below meth c ls H locs hcf hr hlk hK hZ hl hw
  generalize hQ0 : MQ below _ args s 0 0 _ = Q0
  obtain ⟨T0, hE0⟩ : ∃ T, T = fX6_solve N σ := ⟨_, rfl⟩
  have hR := hE0.trans hf
  have hN0 : T0 ≠ none := by rw [hR]; exact fun h => nomatch h
  have hx := hcf.1
  have hb := hcf.2.1
  have htk := hcf.2.2.2.2
  have hown := hcf.2.2.2.1
  unfold fX6_solve at hE0
  replace hl : lv_has ls 2 [(0, .ref (ad 0))] := hl
  have J112 : ∀ (σj112 : vS) (H : Heap) (locs : List Loc) (ls : Array Slot), lv_has ls 2 [] → k_H D (wM cs ad) (k_A 17 ad) σj112 s.heap H locs → T0 = jX6_solve_112 N σj112 → W p l e rmX6_solve s m args below meth c H locs 0 0 Q0 (F0 m 112 ls []) := by
    intro σj112 H locs ls hl hw hE0
    unfold jX6_solve_112 at hE0
    exact kret_v hcf hr hlk hK hw (rt1 hR hE0) hQ0 dX6_solve_112
  refine lv_aload_n hx hb dX6_solve_0 rfl (lv_at hl 0 rfl) ?_
  refine lv_iconst (v := 0) hx hb dX6_solve_1 rfl ?_
  refine kp_X6_leads hcf hK (kw_701 htk) dX6_solve_2 hw (fun H locs hw => ?_)
  refine lv_aload_n hx hb dX6_solve_5 rfl (lv_at hl 0 rfl) ?_
  refine lv_iconst (v := 0) hx hb dX6_solve_6 rfl ?_
  refine kp_X6_free hcf hK (kw_704 htk) dX6_solve_7 hw (fun H locs hw => ?_)
  refine lv_iconst (v := 0) hx hb dX6_solve_10 rfl ?_
  refine lv_istore_n hx hb dX6_solve_11 rfl hl (Nat.le_of_ble_eq_true rfl) rfl (fun ls (hl : lv_has ls 2 [(1, .int (0 : Int32)), (0, .ref (ad 0))]) => ?_)
  obtain ⟨q, hq, hE0⟩ := bd1_e hE0 hN0
  refine k_ind (P := fun zz => ∀ (H : Heap) (locs : List Loc) (ls : Array Slot), lv_has ls 2 [(0, .ref (ad 0)), (1, .int zz.1)] → k_H D (wM cs ad) (k_A 17 ad) zz.2 s.heap H locs → W p l e rmX6_solve s m args below meth c H locs 0 0 Q0 (F0 m 12 ls [])) ?_ N _ hq H locs ls (lv_sub hl [1, 0] rfl) hw
  intro sX T1 hE1 hN1 hC1 hX1
  obtain ⟨v1h12, σh12⟩ := sX
  replace hE1 : T1 = bX6_solve_12 N v1h12 σh12 := hE1
  unfold bX6_solve_12 at hE1
  have J69_12 : ∀ (v1j69 : Int32) (σj69 : vS) (H : Heap) (locs : List Loc) (ls : Array Slot), lv_has ls 2 [(0, .ref (ad 0)), (1, .int v1j69)] → k_H D (wM cs ad) (k_A 17 ad) σj69 s.heap H locs → T1 = jX6_solve_69_12 N σj69 v1j69 → W p l e rmX6_solve s m args below meth c H locs 0 0 Q0 (F0 m 69 ls []) := by
    intro v1j69 σj69 H locs ls hl hw hE1
    unfold jX6_solve_69_12 at hE1
    refine lv_aload_n hx hb dX6_solve_69 rfl (lv_at hl 0 rfl) ?_
    refine kg_X6_isFree hcf hK (kw_703 htk) dX6_solve_70 hw ?_
    refine lv_iload_n hx hb dX6_solve_73 rfl (lv_at hl 1 rfl) ?_
    obtain ⟨g5, hE1⟩ := gd_e hE1 hN1
    refine mald_A8 hcf hK (x := (σj69.2.1 8 ((v1j69).toNatClampNeg))) dX6_solve_74 g5 hw rfl ?_
    refine lv_if_eq (tgt := 86) hx hb dX6_solve_75 (by decide) (fun c10 => ?_) (fun c10 => ?_)
    · have hE1 := ite_t hE1 c10
      refine lv_aload_n hx hb dX6_solve_86 rfl (lv_at hl 0 rfl) ?_
      refine kg_X6_lead hcf hK (kw_702 htk) dX6_solve_87 hw ?_
      refine lv_aload_n hx hb dX6_solve_90 rfl (lv_at hl 0 rfl) ?_
      refine kg_X6_leads hcf hK (kw_701 htk) (x := (σj69.1 12)) dX6_solve_91 hw rfl ?_
      refine lv_iload_n hx hb dX6_solve_94 rfl (lv_at hl 1 rfl) ?_
      obtain ⟨g6, hE1⟩ := gd_e hE1 hN1
      refine mast_A7 hcf hK dX6_solve_95 g6 hw (fun H locs hw => ?_)
      refine lv_aload_n hx hb dX6_solve_96 rfl (lv_at hl 0 rfl) ?_
      refine lv_dup hx hb dX6_solve_97 rfl ?_
      refine kg_X6_leads hcf hK (kw_701 htk) (x := (σj69.1 12)) dX6_solve_98 hw rfl ?_
      refine lv_iconst (v := 1) hx hb dX6_solve_101 rfl ?_
      refine lv_iadd hx hb dX6_solve_102 ?_
      refine kp_X6_leads hcf hK (kw_701 htk) dX6_solve_103 hw (fun H locs hw => ?_)
      obtain ⟨x7, e_x7, hE1⟩ := k_lte hE1
      refine lv_iinc (k := 1) (v := x7) hx hb dX6_solve_106 hl rfl (Eq.symm e_x7) (Nat.le_of_ble_eq_true rfl) rfl (fun ls (hl : lv_has ls 2 [(1, .int x7), (0, .ref (ad 0))]) => ?_)
      refine lv_goto (tgt := 12) hx hb dX6_solve_109 (by decide) ?_
      exact hC1 _ hE1 H locs ls (lv_sub hl [1, 0] rfl) hw
    · have hE1 := ite_f hE1 c10
      refine lv_aload_n hx hb dX6_solve_78 rfl (lv_at hl 0 rfl) ?_
      refine lv_iload_n hx hb dX6_solve_79 rfl (lv_at hl 1 rfl) ?_
      obtain ⟨σ8, k8, hE1⟩ := bd1_e hE1 hN1
      refine k_call (va_runV (As := [.int v1j69]) (rest := []) hcf (mX6_makeBase l D cs ad N σj69 v1j69 σ8 k8) (kcX6_makeBase htk (kw_876 htk) ⟨Nat.le_of_ble_eq_true rfl, Nat.le_of_ble_eq_true rfl⟩) ⟨k_blind, va_recv (ci := 6) (q0 := 0) hK hw.1 rfl rfl, k_pre hK hZ hw⟩ rfl rfl hl.1 rfl (lv_room (Nat.le_of_ble_eq_true rfl)) dX6_solve_80 ⟨Nat.zero_le _, Nat.zero_le _⟩) hw (fun H locs hw => ?_)
      refine lv_goto (tgt := 106) hx hb dX6_solve_83 (by decide) ?_
      obtain ⟨x9, e_x9, hE1⟩ := k_lte hE1
      refine lv_iinc (k := 1) (v := x9) hx hb dX6_solve_106 hl rfl (Eq.symm e_x9) (Nat.le_of_ble_eq_true rfl) rfl (fun ls (hl : lv_has ls 2 [(1, .int x9), (0, .ref (ad 0))]) => ?_)
      refine lv_goto (tgt := 12) hx hb dX6_solve_109 (by decide) ?_
      exact hC1 _ hE1 H locs ls (lv_sub hl [1, 0] rfl) hw
  intro H locs ls hl hw
  replace hl : lv_has ls 2 [(0, .ref (ad 0)), (1, .int v1h12)] := hl
  replace hw : k_H D (wM cs ad) (k_A 17 ad) σh12 s.heap H locs := hw
  refine lv_iload_n hx hb dX6_solve_12 rfl (lv_at hl 1 rfl) ?_
  refine lv_aload_n hx hb dX6_solve_13 rfl (lv_at hl 0 rfl) ?_
  refine kg_X6_count hcf hK (kw_689 htk) (x := (σh12.1 8)) dX6_solve_14 hw rfl ?_
  refine lv_icmp_ge (tgt := 112) hx hb dX6_solve_17 (by decide) (fun c16 => ?_) (fun c16 => ?_)
  · have hE1 := ite_t hE1 c16
    have hq := hX1 _ hE1
    subst hq
    exact J112 σh12 H locs ls (lv_sub hl [] rfl) hw hE0
  · have hE1 := ite_f hE1 c16
    refine lv_aload_n hx hb dX6_solve_20 rfl (lv_at hl 0 rfl) ?_
    obtain ⟨σ1, k1, hE1⟩ := bd1_e hE1 hN1
    refine k_call (va_runV (As := []) (rest := []) hcf (mX6_noteLeads l D cs ad N σh12 σ1 k1) (kcX6_noteLeads htk (kw_853 htk) ⟨Nat.le_of_ble_eq_true rfl, Nat.le_of_ble_eq_true rfl⟩) ⟨k_blind, va_recv (ci := 6) (q0 := 0) hK hw.1 rfl rfl, k_pre hK hZ hw⟩ rfl rfl hl.1 rfl (lv_room (Nat.le_of_ble_eq_true rfl)) dX6_solve_21 ⟨Nat.zero_le _, Nat.zero_le _⟩) hw (fun H locs hw => ?_)
    refine lv_aload_n hx hb dX6_solve_24 rfl (lv_at hl 0 rfl) ?_
    refine kg_X6_column hcf hK (kw_706 htk) dX6_solve_25 hw ?_
    refine lv_aload_n hx hb dX6_solve_28 rfl (lv_at hl 0 rfl) ?_
    refine kg_X6_leads hcf hK (kw_701 htk) (x := (σ1.1 12)) dX6_solve_29 hw rfl ?_
    refine lv_iload_n hx hb dX6_solve_32 rfl (lv_at hl 1 rfl) ?_
    obtain ⟨g2, hE1⟩ := gd_e hE1 hN1
    refine mast_A9 hcf hK dX6_solve_33 g2 hw (fun H locs hw => ?_)
    refine lv_aload_n hx hb dX6_solve_34 rfl (lv_at hl 0 rfl) ?_
    refine kg_X6_isFree hcf hK (kw_703 htk) dX6_solve_35 hw ?_
    refine lv_iload_n hx hb dX6_solve_38 rfl (lv_at hl 1 rfl) ?_
    refine lv_aload_n hx hb dX6_solve_39 rfl (lv_at hl 0 rfl) ?_
    refine kg_X6_leads hcf hK (kw_701 htk) (x := (σ1.1 12)) dX6_solve_40 hw rfl ?_
    refine lv_aload_n hx hb dX6_solve_43 rfl (lv_at hl 0 rfl) ?_
    obtain ⟨r3, k3, hE1⟩ := bd1_e hE1 hN1
    refine k_callP (va_runV (As := []) (rest := [.int (σ1.1 12), .int v1h12, .ref (ad 9)]) hcf (mX6_kindCount l D cs ad N (p_a σ1 9 (((σ1.1 12)).toNatClampNeg) v1h12) r3 k3) (kcX6_kindCount htk (kw_857 htk) ⟨Nat.le_of_ble_eq_true rfl, Nat.le_of_ble_eq_true rfl⟩) ⟨k_blind, va_recv (ci := 6) (q0 := 0) hK hw.1 rfl rfl, k_pre hK hZ hw⟩ rfl rfl hl.1 rfl (lv_room (Nat.le_of_ble_eq_true rfl)) dX6_solve_44 ⟨Nat.zero_le _, Nat.zero_le _⟩) ?_
    refine lv_icmp_eq (tgt := 63) hx hb dX6_solve_47 (by decide) (fun c15 => ?_) (fun c15 => ?_)
    · have hE1 := ite_t hE1 c15
      refine lv_iconst (v := 1) hx hb dX6_solve_63 rfl ?_
      refine lv_goto (tgt := 68) hx hb dX6_solve_64 (by decide) ?_
      obtain ⟨g4, hE1⟩ := gd_e hE1 hN1
      refine mast_A8 hcf hK dX6_solve_68 g4 hw (fun H locs hw => ?_)
      exact J69_12 v1h12 (p_a (p_a σ1 9 (((σ1.1 12)).toNatClampNeg) v1h12) 8 ((v1h12).toNatClampNeg) (vp_nar .boolean (1 : Int32))) H locs ls (lv_sub hl [0, 1] rfl) hw hE1
    · have hE1 := ite_f hE1 c15
      refine lv_aload_n hx hb dX6_solve_50 rfl (lv_at hl 0 rfl) ?_
      refine lv_aload_n hx hb dX6_solve_51 rfl (lv_at hl 0 rfl) ?_
      refine kg_X6_leads hcf hK (kw_701 htk) (x := (σ1.1 12)) dX6_solve_52 hw rfl ?_
      refine lv_iconst (v := 1) hx hb dX6_solve_55 rfl ?_
      refine lv_iadd hx hb dX6_solve_56 ?_
      obtain ⟨r11, σ11, k11, hE1⟩ := bd2_e hE1 hN1
      refine k_call (va_runV (As := [.int ((σ1.1 12) + (1 : Int32))]) (rest := [.int v1h12, .ref (ad 9)]) hcf (mX6_rowsFor l D cs ad N (p_a σ1 9 (((σ1.1 12)).toNatClampNeg) v1h12) ((σ1.1 12) + (1 : Int32)) r11 σ11 k11) (kcX6_rowsFor htk (kw_861 htk) ⟨Nat.le_of_ble_eq_true rfl, Nat.le_of_ble_eq_true rfl⟩) ⟨k_blind, va_recv (ci := 6) (q0 := 0) hK hw.1 rfl rfl, k_pre hK hZ hw⟩ rfl rfl hl.1 rfl (lv_room (Nat.le_of_ble_eq_true rfl)) dX6_solve_57 ⟨Nat.zero_le _, Nat.zero_le _⟩) hw (fun H locs hw => ?_)
      refine lv_if_ge (tgt := 67) hx hb dX6_solve_60 (by decide) (fun c14 => ?_) (fun c14 => ?_)
      · have hE1 := ite_t hE1 c14
        refine lv_iconst (v := 0) hx hb dX6_solve_67 rfl ?_
        obtain ⟨g12, hE1⟩ := gd_e hE1 hN1
        refine mast_A8 hcf hK dX6_solve_68 g12 hw (fun H locs hw => ?_)
        exact J69_12 v1h12 (p_a σ11 8 ((v1h12).toNatClampNeg) (vp_nar .boolean (0 : Int32))) H locs ls (lv_sub hl [0, 1] rfl) hw hE1
      · have hE1 := ite_f hE1 c14
        refine lv_iconst (v := 1) hx hb dX6_solve_63 rfl ?_
        refine lv_goto (tgt := 68) hx hb dX6_solve_64 (by decide) ?_
        obtain ⟨g13, hE1⟩ := gd_e hE1 hN1
        refine mast_A8 hcf hK dX6_solve_68 g13 hw (fun H locs hw => ?_)
        exact J69_12 v1h12 (p_a σ11 8 ((v1h12).toNatClampNeg) (vp_nar .boolean (1 : Int32))) H locs ls (lv_sub hl [0, 1] rfl) hw hE1
def jX6_isBalanced_58 (N : Nat) (σ : vS) (v1j58 : Int32) : Option (Int32) :=
  if ¬ (v1j58 &&& 1 = v1j58) then none else
  some v1j58
def bX6_isBalanced_23 (N : Nat) (σ : vS) (v1h23 : Int32) (v2h23 : Int32) : Option ((Int32 × Int32) ⊕ (Int32)) :=
  if ((σ.1 8) ≤ v2h23) then (
    some (.inr v1h23)
  ) else (
    if (v1h23 = 0) then (
      some (.inr v1h23)
    ) else (
      if (v2h23 < 0 ∨ 36 ≤ (v2h23).toNatClampNeg) then none else
      if ((lg_cmp (σ.2.2.2 3 ((v2h23).toNatClampNeg)) (0 : Int64)) ≤ 0) then (
        k_lt (v2h23 + (1 : Int32)) fun x3 =>
        some (.inl ((0 : Int32), x3))
      ) else (
        k_lt (v2h23 + (1 : Int32)) fun x4 =>
        some (.inl ((1 : Int32), x4))
      )
    )
  )
def jX6_isBalanced_21 (N : Nat) (σ : vS) (v1j21 : Int32) : Option (Int32) :=
  bd1 (k_itr (fun zz => bX6_isBalanced_23 N σ zz.1 zz.2) N (v1j21, (0 : Int32))) fun q => jX6_isBalanced_58 N σ q
def jX6_isBalanced_19 (N : Nat) (σ : vS) : Option (Int32) :=
  jX6_isBalanced_21 N σ (0 : Int32)
def fX6_isBalanced (N : Nat) (σ : vS) : Option (Int32) :=
  if ((σ.1 7) = 0) then (
    jX6_isBalanced_19 N σ
  ) else (
    if ((σ.1 13) = (1 : Int32)) then (
      jX6_isBalanced_21 N σ (1 : Int32)
    ) else (
      jX6_isBalanced_19 N σ
    )
  )
abbrev rmX6_isBalanced : Room := { frames := 0, cells := 0, slots := 0, locals := 0 }
abbrev wsX6_isBalanced : List Cond := .code yX6_isBalanced cX6_isBalanced 3 (some .boolean) :: kws
theorem kcX6_isBalanced {R : Room} {s : State} {args : Array Value} {own : String} {index : Nat} (htk : ∀ w ∈ kws, w.before args s = true) (hl : (Cond.methodLink own index yX6_isBalanced).before args s = true) (hR : rmX6_isBalanced.frames + 1 ≤ R.frames ∧ 8 + (3 + 11) + rmX6_isBalanced.locals ≤ R.locals) : CallW R s args own RX6 index yX6_isBalanced cX6_isBalanced 3 (some .boolean) wsX6_isBalanced rmX6_isBalanced 0 0 0 :=
  ⟨callB_of 0 htk (k_good kc_890) rfl rfl rfl (kw_58 htk) hl (by decide +kernel) hR, (kw_889 htk), (kw_46 htk)⟩
set_option maxRecDepth 100000 in
set_option maxHeartbeats 4000000 in
theorem mX6_isBalanced (l : Launch) (D : va_G) (cs : Nat → ClassId) (ad : Nat → Nat) (N : Nat) (σ : vS) (r : Int32) (hf : fX6_isBalanced N σ = some r) : k_MP l yX6_isBalanced wsX6_isBalanced rmX6_isBalanced D (tM cs) (wM cs ad) [.ref (ad 0)] σ (.int r) := by
  refine k_ofP (cc := cX6_isBalanced) (maxL := 3) (ret := (some .boolean)) (by decide) rfl (Nat.le_of_ble_eq_true rfl) ?_
  intro p e s m args below meth c ls hcf hr hlk hK hZ hl hw
  generalize hQ0 : MQ below _ args s 0 0 _ = Q0
  obtain ⟨T0, hE0⟩ : ∃ T, T = fX6_isBalanced N σ := ⟨_, rfl⟩
  have hR := hE0.trans hf
  have hN0 : T0 ≠ none := by rw [hR]; exact fun h => nomatch h
  have hx := hcf.1
  have hb := hcf.2.1
  have htk := hcf.2.2.2.2
  have hown := hcf.2.2.2.1
  unfold fX6_isBalanced at hE0
  replace hl : lv_has ls 3 [(0, .ref (ad 0))] := hl
  have J58 : ∀ (v1j58 : Int32) (ls : Array Slot), lv_has ls 3 [(1, .int v1j58)] → T0 = jX6_isBalanced_58 N σ v1j58 → W p l e rmX6_isBalanced s m args below meth c s.heap [] 0 0 Q0 (F0 m 58 ls []) := by
    intro v1j58 ls hl hE0
    unfold jX6_isBalanced_58 at hE0
    refine lv_iload_n hx hb dX6_isBalanced_58 rfl (lv_at hl 0 rfl) ?_
    obtain ⟨g1, hE0⟩ := gd_e hE0 hN0
    exact kretP_z hcf hr hlk hK hw (rt1 hR hE0) hQ0 (nr_b g1) dX6_isBalanced_59
  have J21 : ∀ (v1j21 : Int32) (ls : Array Slot), lv_has ls 3 [(0, .ref (ad 0)), (1, .int v1j21)] → T0 = jX6_isBalanced_21 N σ v1j21 → W p l e rmX6_isBalanced s m args below meth c s.heap [] 0 0 Q0 (F0 m 21 ls []) := by
    intro v1j21 ls hl hE0
    unfold jX6_isBalanced_21 at hE0
    refine lv_iconst (v := 0) hx hb dX6_isBalanced_21 rfl ?_
    refine lv_istore_n hx hb dX6_isBalanced_22 rfl hl (Nat.le_of_ble_eq_true rfl) rfl (fun ls (hl : lv_has ls 3 [(2, .int (0 : Int32)), (0, .ref (ad 0)), (1, .int v1j21)]) => ?_)
    obtain ⟨q, hq, hE0⟩ := bd1_e hE0 hN0
    refine k_ind (P := fun zz => ∀ (ls : Array Slot), lv_has ls 3 [(0, .ref (ad 0)), (1, .int zz.1), (2, .int zz.2)] → W p l e rmX6_isBalanced s m args below meth c s.heap [] 0 0 Q0 (F0 m 23 ls [])) ?_ N _ hq ls (lv_sub hl [1, 2, 0] rfl)
    intro sX T1 hE1 hN1 hC1 hX1
    obtain ⟨v1h23, v2h23⟩ := sX
    replace hE1 : T1 = bX6_isBalanced_23 N σ v1h23 v2h23 := hE1
    unfold bX6_isBalanced_23 at hE1
    intro ls hl
    replace hl : lv_has ls 3 [(0, .ref (ad 0)), (1, .int v1h23), (2, .int v2h23)] := hl
    refine lv_iload_n hx hb dX6_isBalanced_23 rfl (lv_at hl 2 rfl) ?_
    refine lv_aload_n hx hb dX6_isBalanced_24 rfl (lv_at hl 0 rfl) ?_
    refine kg_X6_count hcf hK (kw_689 htk) (x := (σ.1 8)) dX6_isBalanced_25 hw rfl ?_
    refine lv_icmp_ge (tgt := 58) hx hb dX6_isBalanced_28 (by decide) (fun c7 => ?_) (fun c7 => ?_)
    · have hE1 := ite_t hE1 c7
      have hq := hX1 _ hE1
      subst hq
      exact J58 v1h23 ls (lv_sub hl [1] rfl) hE0
    · have hE1 := ite_f hE1 c7
      refine lv_iload_n hx hb dX6_isBalanced_31 rfl (lv_at hl 1 rfl) ?_
      refine lv_if_eq (tgt := 58) hx hb dX6_isBalanced_32 (by decide) (fun c6 => ?_) (fun c6 => ?_)
      · have hE1 := ite_t hE1 c6
        have hq := hX1 _ hE1
        subst hq
        exact J58 v1h23 ls (lv_sub hl [1] rfl) hE0
      · have hE1 := ite_f hE1 c6
        refine lv_aload_n hx hb dX6_isBalanced_35 rfl (lv_at hl 0 rfl) ?_
        refine kg_X6_bases hcf hK (kw_705 htk) dX6_isBalanced_36 hw ?_
        refine lv_iload_n hx hb dX6_isBalanced_39 rfl (lv_at hl 2 rfl) ?_
        obtain ⟨g2, hE1⟩ := gd_e hE1 hN1
        refine mald_B3 hcf hK (x := (σ.2.2.2 3 ((v2h23).toNatClampNeg))) dX6_isBalanced_40 g2 hw rfl ?_
        refine lv_lconst (v := 0) hx hb dX6_isBalanced_41 rfl ?_
        refine W.lcmp hx hb dX6_isBalanced_42 ?_
        refine lv_if_le (tgt := 50) hx hb dX6_isBalanced_43 (by decide) (fun c5 => ?_) (fun c5 => ?_)
        · have hE1 := ite_t hE1 c5
          refine lv_iconst (v := 0) hx hb dX6_isBalanced_50 rfl ?_
          refine lv_istore_n hx hb dX6_isBalanced_51 rfl hl (Nat.le_of_ble_eq_true rfl) rfl (fun ls (hl : lv_has ls 3 [(1, .int (0 : Int32)), (0, .ref (ad 0)), (2, .int v2h23)]) => ?_)
          obtain ⟨x3, e_x3, hE1⟩ := k_lte hE1
          refine lv_iinc (k := 2) (v := x3) hx hb dX6_isBalanced_52 hl rfl (Eq.symm e_x3) (Nat.le_of_ble_eq_true rfl) rfl (fun ls (hl : lv_has ls 3 [(2, .int x3), (1, .int (0 : Int32)), (0, .ref (ad 0))]) => ?_)
          refine lv_goto (tgt := 23) hx hb dX6_isBalanced_55 (by decide) ?_
          exact hC1 _ hE1 ls (lv_sub hl [2, 1, 0] rfl)
        · have hE1 := ite_f hE1 c5
          refine lv_iconst (v := 1) hx hb dX6_isBalanced_46 rfl ?_
          refine lv_goto (tgt := 51) hx hb dX6_isBalanced_47 (by decide) ?_
          refine lv_istore_n hx hb dX6_isBalanced_51 rfl hl (Nat.le_of_ble_eq_true rfl) rfl (fun ls (hl : lv_has ls 3 [(1, .int (1 : Int32)), (0, .ref (ad 0)), (2, .int v2h23)]) => ?_)
          obtain ⟨x4, e_x4, hE1⟩ := k_lte hE1
          refine lv_iinc (k := 2) (v := x4) hx hb dX6_isBalanced_52 hl rfl (Eq.symm e_x4) (Nat.le_of_ble_eq_true rfl) rfl (fun ls (hl : lv_has ls 3 [(2, .int x4), (1, .int (1 : Int32)), (0, .ref (ad 0))]) => ?_)
          refine lv_goto (tgt := 23) hx hb dX6_isBalanced_55 (by decide) ?_
          exact hC1 _ hE1 ls (lv_sub hl [2, 1, 0] rfl)
  have J19 : ∀ (ls : Array Slot), lv_has ls 3 [(0, .ref (ad 0))] → T0 = jX6_isBalanced_19 N σ → W p l e rmX6_isBalanced s m args below meth c s.heap [] 0 0 Q0 (F0 m 19 ls []) := by
    intro ls hl hE0
    unfold jX6_isBalanced_19 at hE0
    refine lv_iconst (v := 0) hx hb dX6_isBalanced_19 rfl ?_
    refine lv_istore_n hx hb dX6_isBalanced_20 rfl hl (Nat.le_of_ble_eq_true rfl) rfl (fun ls (hl : lv_has ls 3 [(1, .int (0 : Int32)), (0, .ref (ad 0))]) => ?_)
    exact J21 (0 : Int32) ls (lv_sub hl [1, 0] rfl) hE0
  refine lv_aload_n hx hb dX6_isBalanced_0 rfl (lv_at hl 0 rfl) ?_
  refine kg_X6_there hcf hK (kw_688 htk) (x := (σ.1 7)) dX6_isBalanced_1 hw rfl ?_
  refine lv_if_eq (tgt := 19) hx hb dX6_isBalanced_4 (by decide) (fun c9 => ?_) (fun c9 => ?_)
  · have hE0 := ite_t hE0 c9
    exact J19 ls (lv_sub hl [0] rfl) hE0
  · have hE0 := ite_f hE0 c9
    refine lv_aload_n hx hb dX6_isBalanced_7 rfl (lv_at hl 0 rfl) ?_
    refine kg_X6_free hcf hK (kw_704 htk) (x := (σ.1 13)) dX6_isBalanced_8 hw rfl ?_
    refine lv_iconst (v := 1) hx hb dX6_isBalanced_11 rfl ?_
    refine lv_icmp_ne (tgt := 19) hx hb dX6_isBalanced_12 (by decide) (fun c8 => ?_) (fun c8 => ?_)
    · have hE0 := ite_f hE0 c8
      exact J19 ls (lv_sub hl [0] rfl) hE0
    · have hE0 := ite_t hE0 c8
      refine lv_iconst (v := 1) hx hb dX6_isBalanced_15 rfl ?_
      refine lv_goto (tgt := 20) hx hb dX6_isBalanced_16 (by decide) ?_
      refine lv_istore_n hx hb dX6_isBalanced_20 rfl hl (Nat.le_of_ble_eq_true rfl) rfl (fun ls (hl : lv_has ls 3 [(1, .int (1 : Int32)), (0, .ref (ad 0))]) => ?_)
      exact J21 (1 : Int32) ls (lv_sub hl [1, 0] rfl) hE0
