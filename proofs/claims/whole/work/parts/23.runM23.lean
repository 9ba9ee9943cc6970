def jX6_noteLeads_28 (N : Nat) (σj28 : vS) : Option (vS) :=
  some σj28
def bX6_noteLeads_2 (N : Nat) (v1h2 : Int32) (σh2 : vS) : Option ((Int32 × vS) ⊕ (vS)) :=
  if ((σh2.1 12) ≤ v1h2) then (
    some (.inr σh2)
  ) else (
    if (v1h2 < 0 ∨ 6 ≤ (v1h2).toNatClampNeg) then none else
    if (v1h2 < 0 ∨ 6 ≤ (v1h2).toNatClampNeg) then none else
    k_lt (v1h2 + (1 : Int32)) fun x3 =>
    some (.inl (x3, (p_a σh2 9 ((v1h2).toNatClampNeg) (σh2.2.1 7 ((v1h2).toNatClampNeg)))))
  )
def fX6_noteLeads (N : Nat) (σ : vS) : Option (vS) :=
  bd1 (k_itr (fun zz => bX6_noteLeads_2 N zz.1 zz.2) N ((0 : Int32), σ)) fun q => jX6_noteLeads_28 N q
abbrev rmX6_noteLeads : Room := { frames := 0, cells := 0, slots := 0, locals := 0 }
abbrev wsX6_noteLeads : List Cond := .code yX6_noteLeads cX6_noteLeads 2 none :: kws
theorem kcX6_noteLeads {R : Room} {s : State} {args : Array Value} {own : String} {index : Nat} (htk : ∀ w ∈ kws, w.before args s = true) (hl : (Cond.methodLink own index yX6_noteLeads).before args s = true) (hR : rmX6_noteLeads.frames + 1 ≤ R.frames ∧ 8 + (2 + 11) + rmX6_noteLeads.locals ≤ R.locals) : CallW R s args own RX6 index yX6_noteLeads cX6_noteLeads 2 none wsX6_noteLeads rmX6_noteLeads 0 0 0 :=
  ⟨callB_of 0 htk (k_good kc_856) rfl rfl rfl (kw_58 htk) hl (by decide +kernel) hR, (kw_855 htk), (kw_39 htk)⟩
set_option maxRecDepth 100000 in
set_option maxHeartbeats 4000000 in
theorem mX6_noteLeads (l : Launch) (D : va_G) (cs : Nat → ClassId) (ad : Nat → Nat) (N : Nat) (σ : vS) (σ' : vS) (hf : fX6_noteLeads N σ = some σ') : k_Met l yX6_noteLeads wsX6_noteLeads rmX6_noteLeads D (tM cs) (wM cs ad) (k_A 17 ad) [.ref (ad 0)] σ none σ' := by
  refine k_of (cc := cX6_noteLeads) (maxL := 2) (ret := none) (by decide) rfl (Nat.le_of_ble_eq_true rfl) ?_
  intro p e s m args below meth c ls H locs hcf hr hlk hK hZ hl hw
  generalize hQ0 : MQ below _ args s 0 0 _ = Q0
  obtain ⟨T0, hE0⟩ : ∃ T, T = fX6_noteLeads N σ := ⟨_, rfl⟩
  have hR := hE0.trans hf
  have hN0 : T0 ≠ none := by rw [hR]; exact fun h => nomatch h
  have hx := hcf.1
  have hb := hcf.2.1
  have htk := hcf.2.2.2.2
  have hown := hcf.2.2.2.1
  unfold fX6_noteLeads at hE0
  replace hl : lv_has ls 2 [(0, .ref (ad 0))] := hl
  have J28 : ∀ (σj28 : vS) (H : Heap) (locs : List Loc) (ls : Array Slot), lv_has ls 2 [] → k_H D (wM cs ad) (k_A 17 ad) σj28 s.heap H locs → T0 = jX6_noteLeads_28 N σj28 → W p l e rmX6_noteLeads s m args below meth c H locs 0 0 Q0 (F0 m 28 ls []) := by
    intro σj28 H locs ls hl hw hE0
    unfold jX6_noteLeads_28 at hE0
    exact kret_v hcf hr hlk hK hw (rt1 hR hE0) hQ0 dX6_noteLeads_28
  refine lv_iconst (v := 0) hx hb dX6_noteLeads_0 rfl ?_
  refine lv_istore_n hx hb dX6_noteLeads_1 rfl hl (Nat.le_of_ble_eq_true rfl) rfl (fun ls (hl : lv_has ls 2 [(1, .int (0 : Int32)), (0, .ref (ad 0))]) => ?_)
  obtain ⟨q, hq, hE0⟩ := bd1_e hE0 hN0
  refine k_ind (P := fun zz => ∀ (H : Heap) (locs : List Loc) (ls : Array Slot), lv_has ls 2 [(0, .ref (ad 0)), (1, .int zz.1)] → k_H D (wM cs ad) (k_A 17 ad) zz.2 s.heap H locs → W p l e rmX6_noteLeads s m args below meth c H locs 0 0 Q0 (F0 m 2 ls [])) ?_ N _ hq H locs ls (lv_sub hl [1, 0] rfl) hw
  intro sX T1 hE1 hN1 hC1 hX1
  obtain ⟨v1h2, σh2⟩ := sX
  replace hE1 : T1 = bX6_noteLeads_2 N v1h2 σh2 := hE1
  unfold bX6_noteLeads_2 at hE1
  intro H locs ls hl hw
  replace hl : lv_has ls 2 [(0, .ref (ad 0)), (1, .int v1h2)] := hl
  replace hw : k_H D (wM cs ad) (k_A 17 ad) σh2 s.heap H locs := hw
  refine lv_iload_n hx hb dX6_noteLeads_2 rfl (lv_at hl 1 rfl) ?_
  refine lv_aload_n hx hb dX6_noteLeads_3 rfl (lv_at hl 0 rfl) ?_
  refine kg_X6_leads hcf hK (kw_701 htk) (x := (σh2.1 12)) dX6_noteLeads_4 hw rfl ?_
  refine lv_icmp_ge (tgt := 28) hx hb dX6_noteLeads_7 (by decide) (fun c4 => ?_) (fun c4 => ?_)
  · have hE1 := ite_t hE1 c4
    have hq := hX1 _ hE1
    subst hq
    exact J28 σh2 H locs ls (lv_sub hl [] rfl) hw hE0
  · have hE1 := ite_f hE1 c4
    refine lv_aload_n hx hb dX6_noteLeads_10 rfl (lv_at hl 0 rfl) ?_
    refine kg_X6_column hcf hK (kw_706 htk) dX6_noteLeads_11 hw ?_
    refine lv_iload_n hx hb dX6_noteLeads_14 rfl (lv_at hl 1 rfl) ?_
    refine lv_aload_n hx hb dX6_noteLeads_15 rfl (lv_at hl 0 rfl) ?_
    refine kg_X6_lead hcf hK (kw_702 htk) dX6_noteLeads_16 hw ?_
    refine lv_iload_n hx hb dX6_noteLeads_19 rfl (lv_at hl 1 rfl) ?_
    obtain ⟨g1, hE1⟩ := gd_e hE1 hN1
    refine mald_A7 hcf hK (x := (σh2.2.1 7 ((v1h2).toNatClampNeg))) dX6_noteLeads_20 g1 hw rfl ?_
    obtain ⟨g2, hE1⟩ := gd_e hE1 hN1
    refine mast_A9 hcf hK dX6_noteLeads_21 g2 hw (fun H locs hw => ?_)
    obtain ⟨x3, e_x3, hE1⟩ := k_lte hE1
    refine lv_iinc (k := 1) (v := x3) hx hb dX6_noteLeads_22 hl rfl (Eq.symm e_x3) (Nat.le_of_ble_eq_true rfl) rfl (fun ls (hl : lv_has ls 2 [(1, .int x3), (0, .ref (ad 0))]) => ?_)
    refine lv_goto (tgt := 2) hx hb dX6_noteLeads_25 (by decide) ?_
    exact hC1 _ hE1 H locs ls (lv_sub hl [1, 0] rfl) hw
def fX6_kindCount (N : Nat) (σ : vS) : Option (Int32) :=
  if ((σ.1 10) = 0) then (
    some ((σ.1 9) + (0 : Int32))
  ) else (
    some ((σ.1 9) + (1 : Int32))
  )
abbrev rmX6_kindCount : Room := { frames := 0, cells := 0, slots := 0, locals := 0 }
abbrev wsX6_kindCount : List Cond := .code yX6_kindCount cX6_kindCount 1 (some .int) :: kws
theorem kcX6_kindCount {R : Room} {s : State} {args : Array Value} {own : String} {index : Nat} (htk : ∀ w ∈ kws, w.before args s = true) (hl : (Cond.methodLink own index yX6_kindCount).before args s = true) (hR : rmX6_kindCount.frames + 1 ≤ R.frames ∧ 8 + (1 + 11) + rmX6_kindCount.locals ≤ R.locals) : CallW R s args own RX6 index yX6_kindCount cX6_kindCount 1 (some .int) wsX6_kindCount rmX6_kindCount 0 0 0 :=
  ⟨callB_of 0 htk (k_good kc_860) rfl rfl rfl (kw_58 htk) hl (by decide +kernel) hR, (kw_859 htk), (kw_40 htk)⟩
set_option maxRecDepth 100000 in
set_option maxHeartbeats 4000000 in
theorem mX6_kindCount (l : Launch) (D : va_G) (cs : Nat → ClassId) (ad : Nat → Nat) (N : Nat) (σ : vS) (r : Int32) (hf : fX6_kindCount N σ = some r) : k_MP l yX6_kindCount wsX6_kindCount rmX6_kindCount D (tM cs) (wM cs ad) [.ref (ad 0)] σ (.int r) := by
  refine k_ofP (cc := cX6_kindCount) (maxL := 1) (ret := (some .int)) (by decide) rfl (Nat.le_of_ble_eq_true rfl) ?_
  intro p e s m args below meth c ls hcf hr hlk hK hZ hl hw
  generalize hQ0 : MQ below _ args s 0 0 _ = Q0
  obtain ⟨T0, hE0⟩ : ∃ T, T = fX6_kindCount N σ := ⟨_, rfl⟩
  have hR := hE0.trans hf
  have hN0 : T0 ≠ none := by rw [hR]; exact fun h => nomatch h
  have hx := hcf.1
  have hb := hcf.2.1
  have htk := hcf.2.2.2.2
  have hown := hcf.2.2.2.1
  unfold fX6_kindCount at hE0
  replace hl : lv_has ls 1 [(0, .ref (ad 0))] := hl
  refine lv_aload_n hx hb dX6_kindCount_0 rfl (lv_at hl 0 rfl) ?_
  refine kg_X6_elements hcf hK (kw_695 htk) (x := (σ.1 9)) dX6_kindCount_1 hw rfl ?_
  refine lv_aload_n hx hb dX6_kindCount_4 rfl (lv_at hl 0 rfl) ?_
  refine kg_X6_charged hcf hK (kw_697 htk) (x := (σ.1 10)) dX6_kindCount_5 hw rfl ?_
  refine lv_if_eq (tgt := 15) hx hb dX6_kindCount_8 (by decide) (fun c1 => ?_) (fun c1 => ?_)
  · have hE0 := ite_t hE0 c1
    refine lv_iconst (v := 0) hx hb dX6_kindCount_15 rfl ?_
    refine lv_iadd hx hb dX6_kindCount_16 ?_
    exact kretP_i hcf hr hlk hK hw (rt1 hR hE0) hQ0 dX6_kindCount_17
  · have hE0 := ite_f hE0 c1
    refine lv_iconst (v := 1) hx hb dX6_kindCount_11 rfl ?_
    refine lv_goto (tgt := 16) hx hb dX6_kindCount_12 (by decide) ?_
    refine lv_iadd hx hb dX6_kindCount_16 ?_
    exact kretP_i hcf hr hlk hK hw (rt1 hR hE0) hQ0 dX6_kindCount_17
def jX6_sizeOf_23 (N : Nat) (σ : vS) (v1j23 : Int32) : Option (Int32) :=
  some v1j23
def bX6_sizeOf_4 (N : Nat) (σ : vS) (p0 : Int32) (v1h4 : Int32) (v2h4 : Int32) : Option ((Int32 × Int32) ⊕ (Int32)) :=
  if ((5 : Int32) ≤ v2h4) then (
    some (.inr v1h4)
  ) else (
    k_lt (v1h4 + ((p0 >>> (v2h4 &&& 31)) &&& (1 : Int32))) fun x1 =>
    k_lt (v2h4 + (1 : Int32)) fun x2 =>
    some (.inl (x1, x2))
  )
def fX6_sizeOf (N : Nat) (σ : vS) (p0 : Int32) : Option (Int32) :=
  bd1 (k_itr (fun zz => bX6_sizeOf_4 N σ p0 zz.1 zz.2) N ((0 : Int32), (0 : Int32))) fun q => jX6_sizeOf_23 N σ q
abbrev rmX6_sizeOf : Room := { frames := 0, cells := 0, slots := 0, locals := 0 }
abbrev wsX6_sizeOf : List Cond := .code yX6_sizeOf cX6_sizeOf 3 (some .int) :: kws
theorem kcX6_sizeOf {R : Room} {s : State} {args : Array Value} {own : String} {index : Nat} (htk : ∀ w ∈ kws, w.before args s = true) (hl : (Cond.methodLink own index yX6_sizeOf).before args s = true) (hR : rmX6_sizeOf.frames + 1 ≤ R.frames ∧ 8 + (3 + 11) + rmX6_sizeOf.locals ≤ R.locals) : CallB R s args own index yX6_sizeOf cX6_sizeOf 3 (some .int) wsX6_sizeOf rmX6_sizeOf 0 0 1 ∧ (Cond.static yX6_sizeOf).before args s = true :=
  ⟨callB_of 1 htk (k_good kc_867) rfl rfl rfl (kw_58 htk) hl (by decide +kernel) hR, (kw_866 htk)⟩
set_option maxRecDepth 100000 in
set_option maxHeartbeats 4000000 in
theorem mX6_sizeOf (l : Launch) (D : va_G) (cs : Nat → ClassId) (ad : Nat → Nat) (N : Nat) (σ : vS) (p0 : Int32) (r : Int32) (hf : fX6_sizeOf N σ p0 = some r) : k_MP l yX6_sizeOf wsX6_sizeOf rmX6_sizeOf D (tM cs) (wM cs ad) [.int p0] σ (.int r) := by
  refine k_ofP (cc := cX6_sizeOf) (maxL := 3) (ret := (some .int)) (by decide) rfl (Nat.le_of_ble_eq_true rfl) ?_
  intro p e s m args below meth c ls hcf hr hlk hK hZ hl hw
  generalize hQ0 : MQ below _ args s 0 0 _ = Q0
  obtain ⟨T0, hE0⟩ : ∃ T, T = fX6_sizeOf N σ p0 := ⟨_, rfl⟩
  have hR := hE0.trans hf
  have hN0 : T0 ≠ none := by rw [hR]; exact fun h => nomatch h
  have hx := hcf.1
  have hb := hcf.2.1
  have htk := hcf.2.2.2.2
  have hown := hcf.2.2.2.1
  unfold fX6_sizeOf at hE0
  replace hl : lv_has ls 3 [(0, .int p0)] := hl
  have J23 : ∀ (v1j23 : Int32) (ls : Array Slot), lv_has ls 3 [(1, .int v1j23)] → T0 = jX6_sizeOf_23 N σ v1j23 → W p l e rmX6_sizeOf s m args below meth c s.heap [] 0 0 Q0 (F0 m 23 ls []) := by
    intro v1j23 ls hl hE0
    unfold jX6_sizeOf_23 at hE0
    refine lv_iload_n hx hb dX6_sizeOf_23 rfl (lv_at hl 0 rfl) ?_
    exact kretP_i hcf hr hlk hK hw (rt1 hR hE0) hQ0 dX6_sizeOf_24
  refine lv_iconst (v := 0) hx hb dX6_sizeOf_0 rfl ?_
  refine lv_istore_n hx hb dX6_sizeOf_1 rfl hl (Nat.le_of_ble_eq_true rfl) rfl (fun ls (hl : lv_has ls 3 [(1, .int (0 : Int32)), (0, .int p0)]) => ?_)
  refine lv_iconst (v := 0) hx hb dX6_sizeOf_2 rfl ?_
  refine lv_istore_n hx hb dX6_sizeOf_3 rfl hl (Nat.le_of_ble_eq_true rfl) rfl (fun ls (hl : lv_has ls 3 [(2, .int (0 : Int32)), (1, .int (0 : Int32)), (0, .int p0)]) => ?_)
  obtain ⟨q, hq, hE0⟩ := bd1_e hE0 hN0
  refine k_ind (P := fun zz => ∀ (ls : Array Slot), lv_has ls 3 [(0, .int p0), (1, .int zz.1), (2, .int zz.2)] → W p l e rmX6_sizeOf s m args below meth c s.heap [] 0 0 Q0 (F0 m 4 ls [])) ?_ N _ hq ls (lv_sub hl [2, 1, 0] rfl)
  intro sX T1 hE1 hN1 hC1 hX1
  obtain ⟨v1h4, v2h4⟩ := sX
  replace hE1 : T1 = bX6_sizeOf_4 N σ p0 v1h4 v2h4 := hE1
  unfold bX6_sizeOf_4 at hE1
  intro ls hl
  replace hl : lv_has ls 3 [(0, .int p0), (1, .int v1h4), (2, .int v2h4)] := hl
  refine lv_iload_n hx hb dX6_sizeOf_4 rfl (lv_at hl 2 rfl) ?_
  refine lv_iconst (v := 5) hx hb dX6_sizeOf_5 rfl ?_
  refine lv_icmp_ge (tgt := 23) hx hb dX6_sizeOf_6 (by decide) (fun c3 => ?_) (fun c3 => ?_)
  · have hE1 := ite_t hE1 c3
    have hq := hX1 _ hE1
    subst hq
    exact J23 v1h4 ls (lv_sub hl [1] rfl) hE0
  · have hE1 := ite_f hE1 c3
    refine lv_iload_n hx hb dX6_sizeOf_9 rfl (lv_at hl 1 rfl) ?_
    refine lv_iload_n hx hb dX6_sizeOf_10 rfl (lv_at hl 0 rfl) ?_
    refine lv_iload_n hx hb dX6_sizeOf_11 rfl (lv_at hl 2 rfl) ?_
    refine lv_ishr hx hb dX6_sizeOf_12 ?_
    refine lv_iconst (v := 1) hx hb dX6_sizeOf_13 rfl ?_
    refine lv_iand hx hb dX6_sizeOf_14 ?_
    refine lv_iadd hx hb dX6_sizeOf_15 ?_
    refine lv_topi (fun x1 e_x1 => ?_)
    have hE1 := k_lts hE1 e_x1
    refine lv_istore_n hx hb dX6_sizeOf_16 rfl hl (Nat.le_of_ble_eq_true rfl) rfl (fun ls (hl : lv_has ls 3 [(1, .int x1), (0, .int p0), (2, .int v2h4)]) => ?_)
    obtain ⟨x2, e_x2, hE1⟩ := k_lte hE1
    refine lv_iinc (k := 2) (v := x2) hx hb dX6_sizeOf_17 hl rfl (Eq.symm e_x2) (Nat.le_of_ble_eq_true rfl) rfl (fun ls (hl : lv_has ls 3 [(2, .int x2), (1, .int x1), (0, .int p0)]) => ?_)
    refine lv_goto (tgt := 4) hx hb dX6_sizeOf_20 (by decide) ?_
    exact hC1 _ hE1 ls (lv_sub hl [2, 1, 0] rfl)
def fX6_hasOf (N : Nat) (σ : vS) (p1 : Int32) (p2 : Int32) : Option (Int64) :=
  if ((σ.1 9) ≤ p2) then (
    if (p1 < 0 ∨ 6 ≤ (p1).toNatClampNeg) then none else
    some (σ.2.2.2 0 ((p1).toNatClampNeg))
  ) else (
    if ((((5 : Int32) * p1) + p2) < 0 ∨ 30 ≤ ((((5 : Int32) * p1) + p2)).toNatClampNeg) then none else
    some (σ.2.2.2 1 (((((5 : Int32) * p1) + p2)).toNatClampNeg))
  )
abbrev rmX6_hasOf : Room := { frames := 0, cells := 0, slots := 0, locals := 0 }
abbrev wsX6_hasOf : List Cond := .code yX6_hasOf cX6_hasOf 3 (some .long) :: kws
theorem kcX6_hasOf {R : Room} {s : State} {args : Array Value} {own : String} {index : Nat} (htk : ∀ w ∈ kws, w.before args s = true) (hl : (Cond.methodLink own index yX6_hasOf).before args s = true) (hR : rmX6_hasOf.frames + 1 ≤ R.frames ∧ 8 + (3 + 11) + rmX6_hasOf.locals ≤ R.locals) : CallW R s args own RX6 index yX6_hasOf cX6_hasOf 3 (some .long) wsX6_hasOf rmX6_hasOf 0 0 2 :=
  ⟨callB_of 2 htk (k_good kc_875) rfl rfl rfl (kw_58 htk) hl (by decide +kernel) hR, (kw_874 htk), (kw_43 htk)⟩
set_option maxRecDepth 100000 in
set_option maxHeartbeats 4000000 in
theorem mX6_hasOf (l : Launch) (D : va_G) (cs : Nat → ClassId) (ad : Nat → Nat) (N : Nat) (σ : vS) (p1 : Int32) (p2 : Int32) (r : Int64) (hf : fX6_hasOf N σ p1 p2 = some r) : k_MP l yX6_hasOf wsX6_hasOf rmX6_hasOf D (tM cs) (wM cs ad) [.ref (ad 0), .int p1, .int p2] σ (.long r) := by
  refine k_ofP (cc := cX6_hasOf) (maxL := 3) (ret := (some .long)) (by decide) rfl (Nat.le_of_ble_eq_true rfl) ?_
  intro p e s m args below meth c ls hcf hr hlk hK hZ hl hw
  generalize hQ0 : MQ below _ args s 0 0 _ = Q0
  obtain ⟨T0, hE0⟩ : ∃ T, T = fX6_hasOf N σ p1 p2 := ⟨_, rfl⟩
  have hR := hE0.trans hf
  have hN0 : T0 ≠ none := by rw [hR]; exact fun h => nomatch h
  have hx := hcf.1
  have hb := hcf.2.1
  have htk := hcf.2.2.2.2
  have hown := hcf.2.2.2.1
  unfold fX6_hasOf at hE0
  replace hl : lv_has ls 3 [(0, .ref (ad 0)), (1, .int p1), (2, .int p2)] := hl
  refine lv_iload_n hx hb dX6_hasOf_0 rfl (lv_at hl 2 rfl) ?_
  refine lv_aload_n hx hb dX6_hasOf_1 rfl (lv_at hl 0 rfl) ?_
  refine kg_X6_elements hcf hK (kw_695 htk) (x := (σ.1 9)) dX6_hasOf_2 hw rfl ?_
  refine lv_icmp_ge (tgt := 21) hx hb dX6_hasOf_5 (by decide) (fun c3 => ?_) (fun c3 => ?_)
  · have hE0 := ite_t hE0 c3
    refine lv_aload_n hx hb dX6_hasOf_21 rfl (lv_at hl 0 rfl) ?_
    refine kg_X6_charges hcf hK (kw_693 htk) dX6_hasOf_22 hw ?_
    refine lv_iload_n hx hb dX6_hasOf_25 rfl (lv_at hl 1 rfl) ?_
    obtain ⟨g1, hE0⟩ := gd_e hE0 hN0
    refine mald_B0 hcf hK (x := (σ.2.2.2 0 ((p1).toNatClampNeg))) dX6_hasOf_26 g1 hw rfl ?_
    exact kretP_l hcf hr hlk hK hw (rt1 hR hE0) hQ0 dX6_hasOf_27
  · have hE0 := ite_f hE0 c3
    refine lv_aload_n hx hb dX6_hasOf_8 rfl (lv_at hl 0 rfl) ?_
    refine kg_X6_has hcf hK (kw_694 htk) dX6_hasOf_9 hw ?_
    refine lv_iconst (v := 5) hx hb dX6_hasOf_12 rfl ?_
    refine lv_iload_n hx hb dX6_hasOf_13 rfl (lv_at hl 1 rfl) ?_
    refine lv_imul hx hb dX6_hasOf_14 ?_
    refine lv_iload_n hx hb dX6_hasOf_15 rfl (lv_at hl 2 rfl) ?_
    refine lv_iadd hx hb dX6_hasOf_16 ?_
    obtain ⟨g2, hE0⟩ := gd_e hE0 hN0
    refine mald_B1 hcf hK (x := (σ.2.2.2 1 (((((5 : Int32) * p1) + p2)).toNatClampNeg))) dX6_hasOf_17 g2 hw rfl ?_
    refine lv_goto (tgt := 27) hx hb dX6_hasOf_18 (by decide) ?_
    exact kretP_l hcf hr hlk hK hw (rt1 hR hE0) hQ0 dX6_hasOf_27
def jX6_determinant_370 (N : Nat) (σj370 : vS) (v1j370 : Int32) (v6j370 : Int64) : Option (Int64 × vS) :=
  if (v1j370 = 0) then (
    some ((1 : Int64), σj370)
  ) else (
    if ((((((5 : Int32) * v1j370) - (5 : Int32)) + v1j370) - (1 : Int32)) < 0 ∨ 25 ≤ ((((((5 : Int32) * v1j370) - (5 : Int32)) + v1j370) - (1 : Int32))).toNatClampNeg) then none else
    some ((v6j370 * (σj370.2.2.2 4 (((((((5 : Int32) * v1j370) - (5 : Int32)) + v1j370) - (1 : Int32))).toNatClampNeg))), σj370)
  )
def jX6_determinant_350_108 (N : Nat) (σj350 : vS) (v1j99 : Int32) (v6j350 : Int64) (v8j350 : Int32) : Option ((Int64 × Int64 × Int32 × vS) ⊕ ((Int64 × vS) ⊕ (Int64 × vS))) :=
  if ((((5 : Int32) * v8j350) + v8j350) < 0 ∨ 25 ≤ ((((5 : Int32) * v8j350) + v8j350)).toNatClampNeg) then none else
  k_lt (σj350.2.2.2 4 (((((5 : Int32) * v8j350) + v8j350)).toNatClampNeg)) fun x5 =>
  k_lt (v8j350 + (1 : Int32)) fun x6 =>
  some (.inl (x5, v6j350, x6, σj350))
def jX6_determinant_344_254 (N : Nat) (σj344 : vS) (v1j99 : Int32) (v4j248 : Int64) (v6j248 : Int64) (v8j248 : Int32) (v10j344 : Int32) : Option ((Int32 × vS) ⊕ (vS)) :=
  k_lt (v10j344 + (1 : Int32)) fun x8 =>
  some (.inl (x8, σj344))
def bX6_determinant_266 (N : Nat) (v1j99 : Int32) (v4j248 : Int64) (v6j248 : Int64) (v8j248 : Int32) (v10h254 : Int32) (v11h266 : Int32) (σh266 : vS) : Option ((Int32 × vS) ⊕ (vS)) :=
  if (v1j99 ≤ v11h266) then (
    some (.inr σh266)
  ) else (
    if ((((5 : Int32) * v10h254) + v11h266) < 0 ∨ 25 ≤ ((((5 : Int32) * v10h254) + v11h266)).toNatClampNeg) then none else
    if ((((5 : Int32) * v8j248) + v8j248) < 0 ∨ 25 ≤ ((((5 : Int32) * v8j248) + v8j248)).toNatClampNeg) then none else
    if ((((5 : Int32) * v10h254) + v8j248) < 0 ∨ 25 ≤ ((((5 : Int32) * v10h254) + v8j248)).toNatClampNeg) then none else
    if ((((5 : Int32) * v8j248) + v11h266) < 0 ∨ 25 ≤ ((((5 : Int32) * v8j248) + v11h266)).toNatClampNeg) then none else
    if (v4j248 = 0) then none else
    if ((((5 : Int32) * v10h254) + v11h266) < 0 ∨ 25 ≤ ((((5 : Int32) * v10h254) + v11h266)).toNatClampNeg) then none else
    k_lt (v11h266 + (1 : Int32)) fun x15 =>
    some (.inl (x15, (p_b σh266 4 (((((5 : Int32) * v10h254) + v11h266)).toNatClampNeg) ((((σh266.2.2.2 4 (((((5 : Int32) * v10h254) + v11h266)).toNatClampNeg)) * (σh266.2.2.2 4 (((((5 : Int32) * v8j248) + v8j248)).toNatClampNeg))) - ((σh266.2.2.2 4 (((((5 : Int32) * v10h254) + v8j248)).toNatClampNeg)) * (σh266.2.2.2 4 (((((5 : Int32) * v8j248) + v11h266)).toNatClampNeg)))) / v4j248))))
  )
def bX6_determinant_254 (N : Nat) (v1j99 : Int32) (v4j248 : Int64) (v6j248 : Int64) (v8j248 : Int32) (v10h254 : Int32) (σh254 : vS) : Option ((Int32 × vS) ⊕ (vS)) :=
  if (v1j99 ≤ v10h254) then (
    some (.inr σh254)
  ) else (
    k_lt (v8j248 + (1 : Int32)) fun x7 =>
    bd1 (k_itr (fun zz => bX6_determinant_266 N v1j99 v4j248 v6j248 v8j248 v10h254 zz.1 zz.2) N (x7, σh254)) fun q => jX6_determinant_344_254 N q v1j99 v4j248 v6j248 v8j248 v10h254
  )
def jX6_determinant_248_108 (N : Nat) (σj248 : vS) (v1j99 : Int32) (v4j248 : Int64) (v6j248 : Int64) (v8j248 : Int32) : Option ((Int64 × Int64 × Int32 × vS) ⊕ ((Int64 × vS) ⊕ (Int64 × vS))) :=
  k_lt (v8j248 + (1 : Int32)) fun x3 =>
  bd1 (k_itr (fun zz => bX6_determinant_254 N v1j99 v4j248 v6j248 v8j248 zz.1 zz.2) N (x3, σj248)) fun q => jX6_determinant_350_108 N q v1j99 v6j248 v8j248
def jX6_determinant_231_108 (N : Nat) (σj231 : vS) (v1j99 : Int32) (v4j231 : Int64) (v6j231 : Int64) (v8j231 : Int32) (v9j231 : Int32) : Option ((Int64 × Int64 × Int32 × vS) ⊕ ((Int64 × vS) ⊕ (Int64 × vS))) :=
  if (v9j231 ≤ v8j231) then (
    jX6_determinant_248_108 N σj231 v1j99 v4j231 v6j231 v8j231
  ) else (
    k_lt (-v6j231) fun x18 =>
    jX6_determinant_248_108 N σj231 v1j99 v4j231 x18 v8j231
  )
def bX6_determinant_160 (N : Nat) (v1j99 : Int32) (v4j149 : Int64) (v6j149 : Int64) (v8j149 : Int32) (v9j149 : Int32) (v10h160 : Int32) (σh160 : vS) : Option ((Int32 × vS) ⊕ (vS)) :=
  if (v1j99 ≤ v10h160) then (
    some (.inr σh160)
  ) else (
    if (v9j149 ≤ v8j149) then (
      some (.inr σh160)
    ) else (
      if ((((5 : Int32) * v8j149) + v10h160) < 0 ∨ 25 ≤ ((((5 : Int32) * v8j149) + v10h160)).toNatClampNeg) then none else
      k_lt (σh160.2.2.2 4 (((((5 : Int32) * v8j149) + v10h160)).toNatClampNeg)) fun x21 =>
      if ((((5 : Int32) * v9j149) + v10h160) < 0 ∨ 25 ≤ ((((5 : Int32) * v9j149) + v10h160)).toNatClampNeg) then none else
      if ((((5 : Int32) * v8j149) + v10h160) < 0 ∨ 25 ≤ ((((5 : Int32) * v8j149) + v10h160)).toNatClampNeg) then none else
      if ((((5 : Int32) * v9j149) + v10h160) < 0 ∨ 25 ≤ ((((5 : Int32) * v9j149) + v10h160)).toNatClampNeg) then none else
      k_lt (v10h160 + (1 : Int32)) fun x25 =>
      some (.inl (x25, (p_b (p_b σh160 4 (((((5 : Int32) * v8j149) + v10h160)).toNatClampNeg) (σh160.2.2.2 4 (((((5 : Int32) * v9j149) + v10h160)).toNatClampNeg))) 4 (((((5 : Int32) * v9j149) + v10h160)).toNatClampNeg) x21)))
    )
  )
def jX6_determinant_149_108 (N : Nat) (σj149 : vS) (v1j99 : Int32) (v4j149 : Int64) (v6j149 : Int64) (v8j149 : Int32) (v9j149 : Int32) : Option ((Int64 × Int64 × Int32 × vS) ⊕ ((Int64 × vS) ⊕ (Int64 × vS))) :=
  if (v9j149 = v1j99) then (
    some (.inr (.inr ((0 : Int64), σj149)))
  ) else (
    bd1 (k_itr (fun zz => bX6_determinant_160 N v1j99 v4j149 v6j149 v8j149 v9j149 zz.1 zz.2) N ((0 : Int32), σj149)) fun q => jX6_determinant_231_108 N q v1j99 v4j149 v6j149 v8j149 v9j149
  )
def bX6_determinant_120 (N : Nat) (σh108 : vS) (v1j99 : Int32) (v4h108 : Int64) (v6h108 : Int64) (v8h108 : Int32) (v9h120 : Int32) : Option ((Int32) ⊕ (Int32)) :=
  if (v1j99 ≤ v9h120) then (
    some (.inr v9h120)
  ) else (
    if ((((5 : Int32) * v9h120) + v8h108) < 0 ∨ 25 ≤ ((((5 : Int32) * v9h120) + v8h108)).toNatClampNeg) then none else
    if ((lg_cmp (σh108.2.2.2 4 (((((5 : Int32) * v9h120) + v8h108)).toNatClampNeg)) (0 : Int64)) = 0) then (
      k_lt (v9h120 + (1 : Int32)) fun x30 =>
      some (.inl x30)
    ) else (
      some (.inr v9h120)
    )
  )
def bX6_determinant_108 (N : Nat) (v1j99 : Int32) (v4h108 : Int64) (v6h108 : Int64) (v8h108 : Int32) (σh108 : vS) : Option ((Int64 × Int64 × Int32 × vS) ⊕ ((Int64 × vS) ⊕ (Int64 × vS))) :=
  if (v1j99 ≤ (v8h108 + (1 : Int32))) then (
    some (.inr (.inl (v6h108, σh108)))
  ) else (
    bd1 (k_itr (fun zz => bX6_determinant_120 N σh108 v1j99 v4h108 v6h108 v8h108 zz) N v8h108) fun q => jX6_determinant_149_108 N σh108 v1j99 v4h108 v6h108 v8h108 q
  )
def jX6_determinant_99 (N : Nat) (σj99 : vS) (v1j99 : Int32) : Option (Int64 × vS) :=
  bds (k_itr (fun zz => bX6_determinant_108 N v1j99 zz.1 zz.2.1 zz.2.2.1 zz.2.2.2) N ((1 : Int64), (1 : Int64), (0 : Int32), σj99)) fun q => jX6_determinant_370 N q.2 v1j99 q.1
def jX6_determinant_90_5 (N : Nat) (σj90 : vS) (p1 : Int32) (p2 : Int32) (v3j90 : Int32) (v4j90 : Int32) : Option ((Int32 × Int32 × vS) ⊕ (vS)) :=
  k_lt (v3j90 + (1 : Int32)) fun x35 =>
  k_lt (v4j90 + (1 : Int32)) fun x36 =>
  some (.inl (x35, x36, σj90))
def bX6_determinant_29 (N : Nat) (p1 : Int32) (p2 : Int32) (v3h5 : Int32) (v4h5 : Int32) (v5h29 : Int32) (σh29 : vS) : Option ((Int32 × vS) ⊕ (vS)) :=
  if (p1 ≤ v5h29) then (
    some (.inr σh29)
  ) else (
    if (v5h29 < 0 ∨ 6 ≤ (v5h29).toNatClampNeg) then none else
    bd1 (fX6_hasOf N σh29 (σh29.2.1 9 ((v5h29).toNatClampNeg)) v4h5) fun r38 =>
    if (v5h29 < 0 ∨ 6 ≤ (v5h29).toNatClampNeg) then none else
    if ((σh29.2.1 9 ((v5h29).toNatClampNeg)) < 0 ∨ 6 ≤ ((σh29.2.1 9 ((v5h29).toNatClampNeg))).toNatClampNeg) then none else
    if ((σh29.2.1 4 (((σh29.2.1 9 ((v5h29).toNatClampNeg))).toNatClampNeg)) = 0) then (
      if ((((5 : Int32) * v3h5) + v5h29) < 0 ∨ 25 ≤ ((((5 : Int32) * v3h5) + v5h29)).toNatClampNeg) then none else
      k_lt (v5h29 + (1 : Int32)) fun x42 =>
      some (.inl (x42, (p_b σh29 4 (((((5 : Int32) * v3h5) + v5h29)).toNatClampNeg) r38)))
    ) else (
      if ((((5 : Int32) * v3h5) + v5h29) < 0 ∨ 25 ≤ ((((5 : Int32) * v3h5) + v5h29)).toNatClampNeg) then none else
      k_lt (v5h29 + (1 : Int32)) fun x44 =>
      some (.inl (x44, (p_b σh29 4 (((((5 : Int32) * v3h5) + v5h29)).toNatClampNeg) (-r38))))
    )
  )
def bX6_determinant_5 (N : Nat) (p1 : Int32) (p2 : Int32) (v3h5 : Int32) (v4h5 : Int32) (σh5 : vS) : Option ((Int32 × Int32 × vS) ⊕ (vS)) :=
  if ((5 : Int32) ≤ v4h5) then (
    some (.inr σh5)
  ) else (
    if (p1 ≤ v3h5) then (
      some (.inr σh5)
    ) else (
      if (((p2 >>> (v4h5 &&& 31)) &&& (1 : Int32)) = (1 : Int32)) then (
        bd1 (k_itr (fun zz => bX6_determinant_29 N p1 p2 v3h5 v4h5 zz.1 zz.2) N ((0 : Int32), σh5)) fun q => jX6_determinant_90_5 N q p1 p2 v3h5 v4h5
      ) else (
        k_lt (v4h5 + (1 : Int32)) fun x34 =>
        some (.inl (v3h5, x34, σh5))
      )
    )
  )
def fX6_determinant (N : Nat) (σ : vS) (p1 : Int32) (p2 : Int32) : Option (Int64 × vS) :=
  bd1 (k_itr (fun zz => bX6_determinant_5 N p1 p2 zz.1 zz.2.1 zz.2.2) N ((0 : Int32), (0 : Int32), σ)) fun q => jX6_determinant_99 N q p1
abbrev rmX6_determinant : Room := { frames := 1, cells := 0, slots := 0, locals := 22 }
abbrev wsX6_determinant : List Cond := .code yX6_determinant cX6_determinant 13 (some .long) :: kws
theorem kcX6_determinant {R : Room} {s : State} {args : Array Value} {own : String} {index : Nat} (htk : ∀ w ∈ kws, w.before args s = true) (hl : (Cond.methodLink own index yX6_determinant).before args s = true) (hR : rmX6_determinant.frames + 1 ≤ R.frames ∧ 8 + (13 + 11) + rmX6_determinant.locals ≤ R.locals) : CallW R s args own RX6 index yX6_determinant cX6_determinant 13 (some .long) wsX6_determinant rmX6_determinant 0 0 2 :=
  ⟨callB_of 2 htk (k_good kc_871) rfl rfl rfl (kw_58 htk) hl (by decide +kernel) hR, (kw_870 htk), (kw_42 htk)⟩
set_option maxRecDepth 100000 in
set_option maxHeartbeats 4000000 in
theorem mX6_determinant (l : Launch) (D : va_G) (cs : Nat → ClassId) (ad : Nat → Nat) (N : Nat) (σ : vS) (p1 : Int32) (p2 : Int32) (r : Int64) (σ' : vS) (hf : fX6_determinant N σ p1 p2 = some (r, σ')) : k_Met l yX6_determinant wsX6_determinant rmX6_determinant D (tM cs) (wM cs ad) (k_A 17 ad) [.ref (ad 0), .int p1, .int p2] σ (some (.long r)) σ' := by
  refine k_of (cc := cX6_determinant) (maxL := 13) (ret := (some .long)) (by decide) rfl (Nat.le_of_ble_eq_true rfl) ?_
  intro p e s m args below meth c ls H locs hcf hr hlk hK hZ hl hw
  generalize hQ0 : MQ below _ args s 0 0 _ = Q0
  obtain ⟨T0, hE0⟩ : ∃ T, T = fX6_determinant N σ p1 p2 := ⟨_, rfl⟩
  have hR := hE0.trans hf
  have hN0 : T0 ≠ none := by rw [hR]; exact fun h => nomatch h
  have hx := hcf.1
  have hb := hcf.2.1
  have htk := hcf.2.2.2.2
  have hown := hcf.2.2.2.1
  unfold fX6_determinant at hE0
  replace hl : lv_has ls 13 [(0, .ref (ad 0)), (1, .int p1), (2, .int p2)] := hl
  have J370 : ∀ (v1j370 : Int32) (v6j370 : Int64) (σj370 : vS) (H : Heap) (locs : List Loc) (ls : Array Slot), lv_has ls 13 [(0, .ref (ad 0)), (1, .int v1j370), (6, .long v6j370)] → k_H D (wM cs ad) (k_A 17 ad) σj370 s.heap H locs → T0 = jX6_determinant_370 N σj370 v1j370 v6j370 → W p l e rmX6_determinant s m args below meth c H locs 0 0 Q0 (F0 m 370 ls []) := by
    intro v1j370 v6j370 σj370 H locs ls hl hw hE0
    unfold jX6_determinant_370 at hE0
    refine lv_iload_n hx hb dX6_determinant_370 rfl (lv_at hl 1 rfl) ?_
    refine lv_if_ne (tgt := 378) hx hb dX6_determinant_371 (by decide) (fun c2 => ?_) (fun c2 => ?_)
    · have hE0 := ite_f hE0 c2
      refine lv_lload hx hb dX6_determinant_378 (lv_at hl 2 rfl) ?_
      refine lv_aload_n hx hb dX6_determinant_380 rfl (lv_at hl 0 rfl) ?_
      refine kg_X6_cells hcf hK (kw_707 htk) dX6_determinant_381 hw ?_
      refine lv_iconst (v := 5) hx hb dX6_determinant_384 rfl ?_
      refine lv_iload_n hx hb dX6_determinant_385 rfl (lv_at hl 1 rfl) ?_
      refine lv_imul hx hb dX6_determinant_386 ?_
      refine lv_iconst (v := 5) hx hb dX6_determinant_387 rfl ?_
      refine lv_isub hx hb dX6_determinant_388 ?_
      refine lv_iload_n hx hb dX6_determinant_389 rfl (lv_at hl 1 rfl) ?_
      refine lv_iadd hx hb dX6_determinant_390 ?_
      refine lv_iconst (v := 1) hx hb dX6_determinant_391 rfl ?_
      refine lv_isub hx hb dX6_determinant_392 ?_
      obtain ⟨g1, hE0⟩ := gd_e hE0 hN0
      refine mald_B4 hcf hK (x := (σj370.2.2.2 4 (((((((5 : Int32) * v1j370) - (5 : Int32)) + v1j370) - (1 : Int32))).toNatClampNeg))) dX6_determinant_393 g1 hw rfl ?_
      refine lv_lmul hx hb dX6_determinant_394 ?_
      exact kret_l hcf hr hlk hK hw (rt2 hR hE0) hQ0 dX6_determinant_395
    · have hE0 := ite_t hE0 c2
      refine lv_lconst (v := 1) hx hb dX6_determinant_374 rfl ?_
      refine lv_goto (tgt := 395) hx hb dX6_determinant_375 (by decide) ?_
      exact kret_l hcf hr hlk hK hw (rt2 hR hE0) hQ0 dX6_determinant_395
  have J99 : ∀ (v1j99 : Int32) (σj99 : vS) (H : Heap) (locs : List Loc) (ls : Array Slot), lv_has ls 13 [(0, .ref (ad 0)), (1, .int v1j99)] → k_H D (wM cs ad) (k_A 17 ad) σj99 s.heap H locs → T0 = jX6_determinant_99 N σj99 v1j99 → W p l e rmX6_determinant s m args below meth c H locs 0 0 Q0 (F0 m 99 ls []) := by
    intro v1j99 σj99 H locs ls hl hw hE0
    unfold jX6_determinant_99 at hE0
    refine lv_lconst (v := 1) hx hb dX6_determinant_99 rfl ?_
    refine lv_lstore hx hb dX6_determinant_100 hl (Nat.le_of_ble_eq_true rfl) rfl (fun ls (hl : lv_has ls 13 [(4, .long (1 : Int64)), (0, .ref (ad 0)), (1, .int v1j99)]) => ?_)
    refine lv_lconst (v := 1) hx hb dX6_determinant_102 rfl ?_
    refine lv_lstore hx hb dX6_determinant_103 hl (Nat.le_of_ble_eq_true rfl) rfl (fun ls (hl : lv_has ls 13 [(6, .long (1 : Int64)), (4, .long (1 : Int64)), (0, .ref (ad 0)), (1, .int v1j99)]) => ?_)
    refine lv_iconst (v := 0) hx hb dX6_determinant_105 rfl ?_
    refine lv_istore hx hb dX6_determinant_106 hl (Nat.le_of_ble_eq_true rfl) rfl (fun ls (hl : lv_has ls 13 [(8, .int (0 : Int32)), (6, .long (1 : Int64)), (4, .long (1 : Int64)), (0, .ref (ad 0)), (1, .int v1j99)]) => ?_)
    obtain ⟨q, hq, hE0, hT0⟩ := bds_e hE0 hN0
    refine k_ind (P := fun zz => ∀ (H : Heap) (locs : List Loc) (ls : Array Slot), lv_has ls 13 [(0, .ref (ad 0)), (1, .int v1j99), (4, .long zz.1), (6, .long zz.2.1), (8, .int zz.2.2.1)] → k_H D (wM cs ad) (k_A 17 ad) zz.2.2.2 s.heap H locs → W p l e rmX6_determinant s m args below meth c H locs 0 0 Q0 (F0 m 108 ls [])) ?_ N _ hq H locs ls (lv_sub hl [3, 4, 2, 1, 0] rfl) hw
    intro sX T1 hE1 hN1 hC1 hX1
    obtain ⟨v4h108, v6h108, v8h108, σh108⟩ := sX
    replace hE1 : T1 = bX6_determinant_108 N v1j99 v4h108 v6h108 v8h108 σh108 := hE1
    unfold bX6_determinant_108 at hE1
    have J350_108 : ∀ (v6j350 : Int64) (v8j350 : Int32) (σj350 : vS) (H : Heap) (locs : List Loc) (ls : Array Slot), lv_has ls 13 [(0, .ref (ad 0)), (1, .int v1j99), (6, .long v6j350), (8, .int v8j350)] → k_H D (wM cs ad) (k_A 17 ad) σj350 s.heap H locs → T1 = jX6_determinant_350_108 N σj350 v1j99 v6j350 v8j350 → W p l e rmX6_determinant s m args below meth c H locs 0 0 Q0 (F0 m 350 ls []) := by
      intro v6j350 v8j350 σj350 H locs ls hl hw hE1
      unfold jX6_determinant_350_108 at hE1
      refine lv_aload_n hx hb dX6_determinant_350 rfl (lv_at hl 0 rfl) ?_
      refine kg_X6_cells hcf hK (kw_707 htk) dX6_determinant_351 hw ?_
      refine lv_iconst (v := 5) hx hb dX6_determinant_354 rfl ?_
      refine lv_iload hx hb dX6_determinant_355 (lv_at hl 3 rfl) ?_
      refine lv_imul hx hb dX6_determinant_357 ?_
      refine lv_iload hx hb dX6_determinant_358 (lv_at hl 3 rfl) ?_
      refine lv_iadd hx hb dX6_determinant_360 ?_
      obtain ⟨g4, hE1⟩ := gd_e hE1 hN1
      refine mald_B4 hcf hK (x := (σj350.2.2.2 4 (((((5 : Int32) * v8j350) + v8j350)).toNatClampNeg))) dX6_determinant_361 g4 hw rfl ?_
      refine lv_topl (fun x5 e_x5 => ?_)
      have hE1 := k_lts hE1 e_x5
      refine lv_lstore hx hb dX6_determinant_362 hl (Nat.le_of_ble_eq_true rfl) rfl (fun ls (hl : lv_has ls 13 [(4, .long x5), (0, .ref (ad 0)), (1, .int v1j99), (6, .long v6j350), (8, .int v8j350)]) => ?_)
      obtain ⟨x6, e_x6, hE1⟩ := k_lte hE1
      refine lv_iinc (k := 4) (v := x6) hx hb dX6_determinant_364 hl rfl (Eq.symm e_x6) (Nat.le_of_ble_eq_true rfl) rfl (fun ls (hl : lv_has ls 13 [(8, .int x6), (4, .long x5), (0, .ref (ad 0)), (1, .int v1j99), (6, .long v6j350)]) => ?_)
      refine lv_goto (tgt := 108) hx hb dX6_determinant_367 (by decide) ?_
      exact hC1 _ hE1 H locs ls (lv_sub hl [2, 3, 1, 4, 0] rfl) hw
    have J248_108 : ∀ (v4j248 : Int64) (v6j248 : Int64) (v8j248 : Int32) (σj248 : vS) (H : Heap) (locs : List Loc) (ls : Array Slot), lv_has ls 13 [(0, .ref (ad 0)), (1, .int v1j99), (4, .long v4j248), (6, .long v6j248), (8, .int v8j248)] → k_H D (wM cs ad) (k_A 17 ad) σj248 s.heap H locs → T1 = jX6_determinant_248_108 N σj248 v1j99 v4j248 v6j248 v8j248 → W p l e rmX6_determinant s m args below meth c H locs 0 0 Q0 (F0 m 248 ls []) := by
      intro v4j248 v6j248 v8j248 σj248 H locs ls hl hw hE1
      unfold jX6_determinant_248_108 at hE1
      refine lv_iload hx hb dX6_determinant_248 (lv_at hl 4 rfl) ?_
      refine lv_iconst (v := 1) hx hb dX6_determinant_250 rfl ?_
      refine lv_iadd hx hb dX6_determinant_251 ?_
      refine lv_topi (fun x3 e_x3 => ?_)
      have hE1 := k_lts hE1 e_x3
      refine lv_istore hx hb dX6_determinant_252 hl (Nat.le_of_ble_eq_true rfl) rfl (fun ls (hl : lv_has ls 13 [(10, .int x3), (0, .ref (ad 0)), (1, .int v1j99), (4, .long v4j248), (6, .long v6j248), (8, .int v8j248)]) => ?_)
      obtain ⟨q, hq, hE1⟩ := bd1_e hE1 hN1
      refine k_ind (P := fun zz => ∀ (H : Heap) (locs : List Loc) (ls : Array Slot), lv_has ls 13 [(0, .ref (ad 0)), (1, .int v1j99), (4, .long v4j248), (6, .long v6j248), (8, .int v8j248), (10, .int zz.1)] → k_H D (wM cs ad) (k_A 17 ad) zz.2 s.heap H locs → W p l e rmX6_determinant s m args below meth c H locs 0 0 Q0 (F0 m 254 ls [])) ?_ N _ hq H locs ls (lv_sub hl [1, 2, 3, 4, 5, 0] rfl) hw
      intro sX T2 hE2 hN2 hC2 hX2
      obtain ⟨v10h254, σh254⟩ := sX
      replace hE2 : T2 = bX6_determinant_254 N v1j99 v4j248 v6j248 v8j248 v10h254 σh254 := hE2
      unfold bX6_determinant_254 at hE2
      have J344_254 : ∀ (v10j344 : Int32) (σj344 : vS) (H : Heap) (locs : List Loc) (ls : Array Slot), lv_has ls 13 [(0, .ref (ad 0)), (1, .int v1j99), (4, .long v4j248), (6, .long v6j248), (8, .int v8j248), (10, .int v10j344)] → k_H D (wM cs ad) (k_A 17 ad) σj344 s.heap H locs → T2 = jX6_determinant_344_254 N σj344 v1j99 v4j248 v6j248 v8j248 v10j344 → W p l e rmX6_determinant s m args below meth c H locs 0 0 Q0 (F0 m 344 ls []) := by
        intro v10j344 σj344 H locs ls hl hw hE2
        unfold jX6_determinant_344_254 at hE2
        obtain ⟨x8, e_x8, hE2⟩ := k_lte hE2
        refine lv_iinc (k := 5) (v := x8) hx hb dX6_determinant_344 hl rfl (Eq.symm e_x8) (Nat.le_of_ble_eq_true rfl) rfl (fun ls (hl : lv_has ls 13 [(10, .int x8), (0, .ref (ad 0)), (1, .int v1j99), (4, .long v4j248), (6, .long v6j248), (8, .int v8j248)]) => ?_)
        refine lv_goto (tgt := 254) hx hb dX6_determinant_347 (by decide) ?_
        exact hC2 _ hE2 H locs ls (lv_sub hl [1, 2, 3, 4, 5, 0] rfl) hw
      intro H locs ls hl hw
      replace hl : lv_has ls 13 [(0, .ref (ad 0)), (1, .int v1j99), (4, .long v4j248), (6, .long v6j248), (8, .int v8j248), (10, .int v10h254)] := hl
      replace hw : k_H D (wM cs ad) (k_A 17 ad) σh254 s.heap H locs := hw
      refine lv_iload hx hb dX6_determinant_254 (lv_at hl 5 rfl) ?_
      refine lv_iload_n hx hb dX6_determinant_256 rfl (lv_at hl 1 rfl) ?_
      refine lv_icmp_ge (tgt := 350) hx hb dX6_determinant_257 (by decide) (fun c17 => ?_) (fun c17 => ?_)
      · have hE2 := ite_t hE2 c17
        have hq := hX2 _ hE2
        subst hq
        exact J350_108 v6j248 v8j248 σh254 H locs ls (lv_sub hl [0, 1, 3, 4] rfl) hw hE1
      · have hE2 := ite_f hE2 c17
        refine lv_iload hx hb dX6_determinant_260 (lv_at hl 4 rfl) ?_
        refine lv_iconst (v := 1) hx hb dX6_determinant_262 rfl ?_
        refine lv_iadd hx hb dX6_determinant_263 ?_
        refine lv_topi (fun x7 e_x7 => ?_)
        have hE2 := k_lts hE2 e_x7
        refine lv_istore hx hb dX6_determinant_264 hl (Nat.le_of_ble_eq_true rfl) rfl (fun ls (hl : lv_has ls 13 [(11, .int x7), (0, .ref (ad 0)), (1, .int v1j99), (4, .long v4j248), (6, .long v6j248), (8, .int v8j248), (10, .int v10h254)]) => ?_)
        obtain ⟨q, hq, hE2⟩ := bd1_e hE2 hN2
        refine k_ind (P := fun zz => ∀ (H : Heap) (locs : List Loc) (ls : Array Slot), lv_has ls 13 [(0, .ref (ad 0)), (1, .int v1j99), (4, .long v4j248), (6, .long v6j248), (8, .int v8j248), (10, .int v10h254), (11, .int zz.1)] → k_H D (wM cs ad) (k_A 17 ad) zz.2 s.heap H locs → W p l e rmX6_determinant s m args below meth c H locs 0 0 Q0 (F0 m 266 ls [])) ?_ N _ hq H locs ls (lv_sub hl [1, 2, 3, 4, 5, 6, 0] rfl) hw
        intro sX T3 hE3 hN3 hC3 hX3
        obtain ⟨v11h266, σh266⟩ := sX
        replace hE3 : T3 = bX6_determinant_266 N v1j99 v4j248 v6j248 v8j248 v10h254 v11h266 σh266 := hE3
        unfold bX6_determinant_266 at hE3
        intro H locs ls hl hw
        replace hl : lv_has ls 13 [(0, .ref (ad 0)), (1, .int v1j99), (4, .long v4j248), (6, .long v6j248), (8, .int v8j248), (10, .int v10h254), (11, .int v11h266)] := hl
        replace hw : k_H D (wM cs ad) (k_A 17 ad) σh266 s.heap H locs := hw
        refine lv_iload hx hb dX6_determinant_266 (lv_at hl 6 rfl) ?_
        refine lv_iload_n hx hb dX6_determinant_268 rfl (lv_at hl 1 rfl) ?_
        refine lv_icmp_ge (tgt := 344) hx hb dX6_determinant_269 (by decide) (fun c16 => ?_) (fun c16 => ?_)
        · have hE3 := ite_t hE3 c16
          have hq := hX3 _ hE3
          subst hq
          exact J344_254 v10h254 σh266 H locs ls (lv_sub hl [0, 1, 2, 3, 4, 5] rfl) hw hE2
        · have hE3 := ite_f hE3 c16
          refine lv_aload_n hx hb dX6_determinant_272 rfl (lv_at hl 0 rfl) ?_
          refine kg_X6_cells hcf hK (kw_707 htk) dX6_determinant_273 hw ?_
          refine lv_iconst (v := 5) hx hb dX6_determinant_276 rfl ?_
          refine lv_iload hx hb dX6_determinant_277 (lv_at hl 5 rfl) ?_
          refine lv_imul hx hb dX6_determinant_279 ?_
          refine lv_iload hx hb dX6_determinant_280 (lv_at hl 6 rfl) ?_
          refine lv_iadd hx hb dX6_determinant_282 ?_
          refine lv_aload_n hx hb dX6_determinant_283 rfl (lv_at hl 0 rfl) ?_
          refine kg_X6_cells hcf hK (kw_707 htk) dX6_determinant_284 hw ?_
          refine lv_iconst (v := 5) hx hb dX6_determinant_287 rfl ?_
          refine lv_iload hx hb dX6_determinant_288 (lv_at hl 5 rfl) ?_
          refine lv_imul hx hb dX6_determinant_290 ?_
          refine lv_iload hx hb dX6_determinant_291 (lv_at hl 6 rfl) ?_
          refine lv_iadd hx hb dX6_determinant_293 ?_
          obtain ⟨g9, hE3⟩ := gd_e hE3 hN3
          refine mald_B4 hcf hK (x := (σh266.2.2.2 4 (((((5 : Int32) * v10h254) + v11h266)).toNatClampNeg))) dX6_determinant_294 g9 hw rfl ?_
          refine lv_aload_n hx hb dX6_determinant_295 rfl (lv_at hl 0 rfl) ?_
          refine kg_X6_cells hcf hK (kw_707 htk) dX6_determinant_296 hw ?_
          refine lv_iconst (v := 5) hx hb dX6_determinant_299 rfl ?_
          refine lv_iload hx hb dX6_determinant_300 (lv_at hl 4 rfl) ?_
          refine lv_imul hx hb dX6_determinant_302 ?_
          refine lv_iload hx hb dX6_determinant_303 (lv_at hl 4 rfl) ?_
          refine lv_iadd hx hb dX6_determinant_305 ?_
          obtain ⟨g10, hE3⟩ := gd_e hE3 hN3
          refine mald_B4 hcf hK (x := (σh266.2.2.2 4 (((((5 : Int32) * v8j248) + v8j248)).toNatClampNeg))) dX6_determinant_306 g10 hw rfl ?_
          refine lv_lmul hx hb dX6_determinant_307 ?_
          refine lv_aload_n hx hb dX6_determinant_308 rfl (lv_at hl 0 rfl) ?_
          refine kg_X6_cells hcf hK (kw_707 htk) dX6_determinant_309 hw ?_
          refine lv_iconst (v := 5) hx hb dX6_determinant_312 rfl ?_
          refine lv_iload hx hb dX6_determinant_313 (lv_at hl 5 rfl) ?_
          refine lv_imul hx hb dX6_determinant_315 ?_
          refine lv_iload hx hb dX6_determinant_316 (lv_at hl 4 rfl) ?_
          refine lv_iadd hx hb dX6_determinant_318 ?_
          obtain ⟨g11, hE3⟩ := gd_e hE3 hN3
          refine mald_B4 hcf hK (x := (σh266.2.2.2 4 (((((5 : Int32) * v10h254) + v8j248)).toNatClampNeg))) dX6_determinant_319 g11 hw rfl ?_
          refine lv_aload_n hx hb dX6_determinant_320 rfl (lv_at hl 0 rfl) ?_
          refine kg_X6_cells hcf hK (kw_707 htk) dX6_determinant_321 hw ?_
          refine lv_iconst (v := 5) hx hb dX6_determinant_324 rfl ?_
          refine lv_iload hx hb dX6_determinant_325 (lv_at hl 4 rfl) ?_
          refine lv_imul hx hb dX6_determinant_327 ?_
          refine lv_iload hx hb dX6_determinant_328 (lv_at hl 6 rfl) ?_
          refine lv_iadd hx hb dX6_determinant_330 ?_
          obtain ⟨g12, hE3⟩ := gd_e hE3 hN3
          refine mald_B4 hcf hK (x := (σh266.2.2.2 4 (((((5 : Int32) * v8j248) + v11h266)).toNatClampNeg))) dX6_determinant_331 g12 hw rfl ?_
          refine lv_lmul hx hb dX6_determinant_332 ?_
          refine lv_lsub hx hb dX6_determinant_333 ?_
          refine lv_lload hx hb dX6_determinant_334 (lv_at hl 2 rfl) ?_
          obtain ⟨g13, hE3⟩ := gd_e hE3 hN3
          refine lv_ldiv hx hb dX6_determinant_336 g13 ?_
          obtain ⟨g14, hE3⟩ := gd_e hE3 hN3
          refine mast_B4 hcf hK dX6_determinant_337 g14 hw (fun H locs hw => ?_)
          obtain ⟨x15, e_x15, hE3⟩ := k_lte hE3
          refine lv_iinc (k := 6) (v := x15) hx hb dX6_determinant_338 hl rfl (Eq.symm e_x15) (Nat.le_of_ble_eq_true rfl) rfl (fun ls (hl : lv_has ls 13 [(11, .int x15), (0, .ref (ad 0)), (1, .int v1j99), (4, .long v4j248), (6, .long v6j248), (8, .int v8j248), (10, .int v10h254)]) => ?_)
          refine lv_goto (tgt := 266) hx hb dX6_determinant_341 (by decide) ?_
          exact hC3 _ hE3 H locs ls (lv_sub hl [1, 2, 3, 4, 5, 6, 0] rfl) hw
    have J231_108 : ∀ (v4j231 : Int64) (v6j231 : Int64) (v8j231 : Int32) (v9j231 : Int32) (σj231 : vS) (H : Heap) (locs : List Loc) (ls : Array Slot), lv_has ls 13 [(0, .ref (ad 0)), (1, .int v1j99), (4, .long v4j231), (6, .long v6j231), (8, .int v8j231), (9, .int v9j231)] → k_H D (wM cs ad) (k_A 17 ad) σj231 s.heap H locs → T1 = jX6_determinant_231_108 N σj231 v1j99 v4j231 v6j231 v8j231 v9j231 → W p l e rmX6_determinant s m args below meth c H locs 0 0 Q0 (F0 m 231 ls []) := by
      intro v4j231 v6j231 v8j231 v9j231 σj231 H locs ls hl hw hE1
      unfold jX6_determinant_231_108 at hE1
      refine lv_iload hx hb dX6_determinant_231 (lv_at hl 5 rfl) ?_
      refine lv_iload hx hb dX6_determinant_233 (lv_at hl 4 rfl) ?_
      refine lv_icmp_le (tgt := 244) hx hb dX6_determinant_235 (by decide) (fun c19 => ?_) (fun c19 => ?_)
      · have hE1 := ite_t hE1 c19
        refine lv_lload hx hb dX6_determinant_244 (lv_at hl 3 rfl) ?_
        refine lv_lstore hx hb dX6_determinant_246 hl (Nat.le_of_ble_eq_true rfl) rfl (fun ls (hl : lv_has ls 13 [(6, .long v6j231), (0, .ref (ad 0)), (1, .int v1j99), (4, .long v4j231), (8, .int v8j231), (9, .int v9j231)]) => ?_)
        exact J248_108 v4j231 v6j231 v8j231 σj231 H locs ls (lv_sub hl [1, 2, 3, 0, 4] rfl) hw hE1
      · have hE1 := ite_f hE1 c19
        refine lv_lload hx hb dX6_determinant_238 (lv_at hl 3 rfl) ?_
        refine lv_lneg hx hb dX6_determinant_240 ?_
        refine lv_goto (tgt := 246) hx hb dX6_determinant_241 (by decide) ?_
        refine lv_topl (fun x18 e_x18 => ?_)
        have hE1 := k_lts hE1 e_x18
        refine lv_lstore hx hb dX6_determinant_246 hl (Nat.le_of_ble_eq_true rfl) rfl (fun ls (hl : lv_has ls 13 [(6, .long x18), (0, .ref (ad 0)), (1, .int v1j99), (4, .long v4j231), (8, .int v8j231), (9, .int v9j231)]) => ?_)
        exact J248_108 v4j231 x18 v8j231 σj231 H locs ls (lv_sub hl [1, 2, 3, 0, 4] rfl) hw hE1
    have J149_108 : ∀ (v4j149 : Int64) (v6j149 : Int64) (v8j149 : Int32) (v9j149 : Int32) (σj149 : vS) (H : Heap) (locs : List Loc) (ls : Array Slot), lv_has ls 13 [(0, .ref (ad 0)), (1, .int v1j99), (4, .long v4j149), (6, .long v6j149), (8, .int v8j149), (9, .int v9j149)] → k_H D (wM cs ad) (k_A 17 ad) σj149 s.heap H locs → T1 = jX6_determinant_149_108 N σj149 v1j99 v4j149 v6j149 v8j149 v9j149 → W p l e rmX6_determinant s m args below meth c H locs 0 0 Q0 (F0 m 149 ls []) := by
      intro v4j149 v6j149 v8j149 v9j149 σj149 H locs ls hl hw hE1
      unfold jX6_determinant_149_108 at hE1
      refine lv_iload hx hb dX6_determinant_149 (lv_at hl 5 rfl) ?_
      refine lv_iload_n hx hb dX6_determinant_151 rfl (lv_at hl 1 rfl) ?_
      refine lv_icmp_ne (tgt := 157) hx hb dX6_determinant_152 (by decide) (fun c28 => ?_) (fun c28 => ?_)
      · have hE1 := ite_f hE1 c28
        refine lv_iconst (v := 0) hx hb dX6_determinant_157 rfl ?_
        refine lv_istore hx hb dX6_determinant_158 hl (Nat.le_of_ble_eq_true rfl) rfl (fun ls (hl : lv_has ls 13 [(10, .int (0 : Int32)), (0, .ref (ad 0)), (1, .int v1j99), (4, .long v4j149), (6, .long v6j149), (8, .int v8j149), (9, .int v9j149)]) => ?_)
        obtain ⟨q, hq, hE1⟩ := bd1_e hE1 hN1
        refine k_ind (P := fun zz => ∀ (H : Heap) (locs : List Loc) (ls : Array Slot), lv_has ls 13 [(0, .ref (ad 0)), (1, .int v1j99), (4, .long v4j149), (6, .long v6j149), (8, .int v8j149), (9, .int v9j149), (10, .int zz.1)] → k_H D (wM cs ad) (k_A 17 ad) zz.2 s.heap H locs → W p l e rmX6_determinant s m args below meth c H locs 0 0 Q0 (F0 m 160 ls [])) ?_ N _ hq H locs ls (lv_sub hl [1, 2, 3, 4, 5, 6, 0] rfl) hw
        intro sX T2 hE2 hN2 hC2 hX2
        obtain ⟨v10h160, σh160⟩ := sX
        replace hE2 : T2 = bX6_determinant_160 N v1j99 v4j149 v6j149 v8j149 v9j149 v10h160 σh160 := hE2
        unfold bX6_determinant_160 at hE2
        intro H locs ls hl hw
        replace hl : lv_has ls 13 [(0, .ref (ad 0)), (1, .int v1j99), (4, .long v4j149), (6, .long v6j149), (8, .int v8j149), (9, .int v9j149), (10, .int v10h160)] := hl
        replace hw : k_H D (wM cs ad) (k_A 17 ad) σh160 s.heap H locs := hw
        refine lv_iload hx hb dX6_determinant_160 (lv_at hl 6 rfl) ?_
        refine lv_iload_n hx hb dX6_determinant_162 rfl (lv_at hl 1 rfl) ?_
        refine lv_icmp_ge (tgt := 231) hx hb dX6_determinant_163 (by decide) (fun c27 => ?_) (fun c27 => ?_)
        · have hE2 := ite_t hE2 c27
          have hq := hX2 _ hE2
          subst hq
          exact J231_108 v4j149 v6j149 v8j149 v9j149 σh160 H locs ls (lv_sub hl [0, 1, 2, 3, 4, 5] rfl) hw hE1
        · have hE2 := ite_f hE2 c27
          refine lv_iload hx hb dX6_determinant_166 (lv_at hl 5 rfl) ?_
          refine lv_iload hx hb dX6_determinant_168 (lv_at hl 4 rfl) ?_
          refine lv_icmp_le (tgt := 231) hx hb dX6_determinant_170 (by decide) (fun c26 => ?_) (fun c26 => ?_)
          · have hE2 := ite_t hE2 c26
            have hq := hX2 _ hE2
            subst hq
            exact J231_108 v4j149 v6j149 v8j149 v9j149 σh160 H locs ls (lv_sub hl [0, 1, 2, 3, 4, 5] rfl) hw hE1
          · have hE2 := ite_f hE2 c26
            refine lv_aload_n hx hb dX6_determinant_173 rfl (lv_at hl 0 rfl) ?_
            refine kg_X6_cells hcf hK (kw_707 htk) dX6_determinant_174 hw ?_
            refine lv_iconst (v := 5) hx hb dX6_determinant_177 rfl ?_
            refine lv_iload hx hb dX6_determinant_178 (lv_at hl 4 rfl) ?_
            refine lv_imul hx hb dX6_determinant_180 ?_
            refine lv_iload hx hb dX6_determinant_181 (lv_at hl 6 rfl) ?_
            refine lv_iadd hx hb dX6_determinant_183 ?_
            obtain ⟨g20, hE2⟩ := gd_e hE2 hN2
            refine mald_B4 hcf hK (x := (σh160.2.2.2 4 (((((5 : Int32) * v8j149) + v10h160)).toNatClampNeg))) dX6_determinant_184 g20 hw rfl ?_
            refine lv_topl (fun x21 e_x21 => ?_)
            have hE2 := k_lts hE2 e_x21
            refine lv_lstore hx hb dX6_determinant_185 hl (Nat.le_of_ble_eq_true rfl) rfl (fun ls (hl : lv_has ls 13 [(11, .long x21), (0, .ref (ad 0)), (1, .int v1j99), (4, .long v4j149), (6, .long v6j149), (8, .int v8j149), (9, .int v9j149), (10, .int v10h160)]) => ?_)
            refine lv_aload_n hx hb dX6_determinant_187 rfl (lv_at hl 1 rfl) ?_
            refine kg_X6_cells hcf hK (kw_707 htk) dX6_determinant_188 hw ?_
            refine lv_iconst (v := 5) hx hb dX6_determinant_191 rfl ?_
            refine lv_iload hx hb dX6_determinant_192 (lv_at hl 5 rfl) ?_
            refine lv_imul hx hb dX6_determinant_194 ?_
            refine lv_iload hx hb dX6_determinant_195 (lv_at hl 7 rfl) ?_
            refine lv_iadd hx hb dX6_determinant_197 ?_
            refine lv_aload_n hx hb dX6_determinant_198 rfl (lv_at hl 1 rfl) ?_
            refine kg_X6_cells hcf hK (kw_707 htk) dX6_determinant_199 hw ?_
            refine lv_iconst (v := 5) hx hb dX6_determinant_202 rfl ?_
            refine lv_iload hx hb dX6_determinant_203 (lv_at hl 6 rfl) ?_
            refine lv_imul hx hb dX6_determinant_205 ?_
            refine lv_iload hx hb dX6_determinant_206 (lv_at hl 7 rfl) ?_
            refine lv_iadd hx hb dX6_determinant_208 ?_
            obtain ⟨g22, hE2⟩ := gd_e hE2 hN2
            refine mald_B4 hcf hK (x := (σh160.2.2.2 4 (((((5 : Int32) * v9j149) + v10h160)).toNatClampNeg))) dX6_determinant_209 g22 hw rfl ?_
            obtain ⟨g23, hE2⟩ := gd_e hE2 hN2
            refine mast_B4 hcf hK dX6_determinant_210 g23 hw (fun H locs hw => ?_)
            refine lv_aload_n hx hb dX6_determinant_211 rfl (lv_at hl 1 rfl) ?_
            refine kg_X6_cells hcf hK (kw_707 htk) dX6_determinant_212 hw ?_
            refine lv_iconst (v := 5) hx hb dX6_determinant_215 rfl ?_
            refine lv_iload hx hb dX6_determinant_216 (lv_at hl 6 rfl) ?_
            refine lv_imul hx hb dX6_determinant_218 ?_
            refine lv_iload hx hb dX6_determinant_219 (lv_at hl 7 rfl) ?_
            refine lv_iadd hx hb dX6_determinant_221 ?_
            refine lv_lload hx hb dX6_determinant_222 (lv_at hl 0 rfl) ?_
            obtain ⟨g24, hE2⟩ := gd_e hE2 hN2
            refine mast_B4 hcf hK dX6_determinant_224 g24 hw (fun H locs hw => ?_)
            obtain ⟨x25, e_x25, hE2⟩ := k_lte hE2
            refine lv_iinc (k := 7) (v := x25) hx hb dX6_determinant_225 hl rfl (Eq.symm e_x25) (Nat.le_of_ble_eq_true rfl) rfl (fun ls (hl : lv_has ls 13 [(10, .int x25), (11, .long x21), (0, .ref (ad 0)), (1, .int v1j99), (4, .long v4j149), (6, .long v6j149), (8, .int v8j149), (9, .int v9j149)]) => ?_)
            refine lv_goto (tgt := 160) hx hb dX6_determinant_228 (by decide) ?_
            exact hC2 _ hE2 H locs ls (lv_sub hl [2, 3, 4, 5, 6, 7, 0] rfl) hw
      · have hE1 := ite_t hE1 c28
        refine lv_lconst (v := 0) hx hb dX6_determinant_155 rfl ?_
        have hq := hX1 _ hE1
        subst hq
        exact kret_l hcf hr hlk hK hw (rt2 hR (hT0 _ rfl)) hQ0 dX6_determinant_156
    intro H locs ls hl hw
    replace hl : lv_has ls 13 [(0, .ref (ad 0)), (1, .int v1j99), (4, .long v4h108), (6, .long v6h108), (8, .int v8h108)] := hl
    replace hw : k_H D (wM cs ad) (k_A 17 ad) σh108 s.heap H locs := hw
    refine lv_iload hx hb dX6_determinant_108 (lv_at hl 4 rfl) ?_
    refine lv_iconst (v := 1) hx hb dX6_determinant_110 rfl ?_
    refine lv_iadd hx hb dX6_determinant_111 ?_
    refine lv_iload_n hx hb dX6_determinant_112 rfl (lv_at hl 1 rfl) ?_
    refine lv_icmp_ge (tgt := 370) hx hb dX6_determinant_113 (by decide) (fun c33 => ?_) (fun c33 => ?_)
    · have hE1 := ite_t hE1 c33
      have hq := hX1 _ hE1
      subst hq
      exact J370 v1j99 v6h108 σh108 H locs ls (lv_sub hl [0, 1, 3] rfl) hw (hE0 _ rfl)
    · have hE1 := ite_f hE1 c33
      refine lv_iload hx hb dX6_determinant_116 (lv_at hl 4 rfl) ?_
      refine lv_istore hx hb dX6_determinant_118 hl (Nat.le_of_ble_eq_true rfl) rfl (fun ls (hl : lv_has ls 13 [(9, .int v8h108), (0, .ref (ad 0)), (1, .int v1j99), (4, .long v4h108), (6, .long v6h108), (8, .int v8h108)]) => ?_)
      obtain ⟨q, hq, hE1⟩ := bd1_e hE1 hN1
      refine k_ind (P := fun zz => ∀ (ls : Array Slot), lv_has ls 13 [(0, .ref (ad 0)), (1, .int v1j99), (4, .long v4h108), (6, .long v6h108), (8, .int v8h108), (9, .int zz)] → W p l e rmX6_determinant s m args below meth c H locs 0 0 Q0 (F0 m 120 ls [])) ?_ N _ hq ls (lv_sub hl [1, 2, 3, 4, 5, 0] rfl)
      intro sX T2 hE2 hN2 hC2 hX2
      obtain ⟨v9h120, hsg⟩ : ∃ z, z = sX := ⟨_, rfl⟩
      subst hsg
      replace hE2 : T2 = bX6_determinant_120 N σh108 v1j99 v4h108 v6h108 v8h108 v9h120 := hE2
      unfold bX6_determinant_120 at hE2
      intro ls hl
      replace hl : lv_has ls 13 [(0, .ref (ad 0)), (1, .int v1j99), (4, .long v4h108), (6, .long v6h108), (8, .int v8h108), (9, .int v9h120)] := hl
      refine lv_iload hx hb dX6_determinant_120 (lv_at hl 5 rfl) ?_
      refine lv_iload_n hx hb dX6_determinant_122 rfl (lv_at hl 1 rfl) ?_
      refine lv_icmp_ge (tgt := 149) hx hb dX6_determinant_123 (by decide) (fun c32 => ?_) (fun c32 => ?_)
      · have hE2 := ite_t hE2 c32
        have hq := hX2 _ hE2
        subst hq
        exact J149_108 v4h108 v6h108 v8h108 v9h120 σh108 H locs ls (lv_sub hl [0, 1, 2, 3, 4, 5] rfl) hw hE1
      · have hE2 := ite_f hE2 c32
        refine lv_aload_n hx hb dX6_determinant_126 rfl (lv_at hl 0 rfl) ?_
        refine kg_X6_cells hcf hK (kw_707 htk) dX6_determinant_127 hw ?_
        refine lv_iconst (v := 5) hx hb dX6_determinant_130 rfl ?_
        refine lv_iload hx hb dX6_determinant_131 (lv_at hl 5 rfl) ?_
        refine lv_imul hx hb dX6_determinant_133 ?_
        refine lv_iload hx hb dX6_determinant_134 (lv_at hl 4 rfl) ?_
        refine lv_iadd hx hb dX6_determinant_136 ?_
        obtain ⟨g29, hE2⟩ := gd_e hE2 hN2
        refine mald_B4 hcf hK (x := (σh108.2.2.2 4 (((((5 : Int32) * v9h120) + v8h108)).toNatClampNeg))) dX6_determinant_137 g29 hw rfl ?_
        refine lv_lconst (v := 0) hx hb dX6_determinant_138 rfl ?_
        refine W.lcmp hx hb dX6_determinant_139 ?_
        refine lv_if_ne (tgt := 149) hx hb dX6_determinant_140 (by decide) (fun c31 => ?_) (fun c31 => ?_)
        · have hE2 := ite_f hE2 c31
          have hq := hX2 _ hE2
          subst hq
          exact J149_108 v4h108 v6h108 v8h108 v9h120 σh108 H locs ls (lv_sub hl [0, 1, 2, 3, 4, 5] rfl) hw hE1
        · have hE2 := ite_t hE2 c31
          obtain ⟨x30, e_x30, hE2⟩ := k_lte hE2
          refine lv_iinc (k := 5) (v := x30) hx hb dX6_determinant_143 hl rfl (Eq.symm e_x30) (Nat.le_of_ble_eq_true rfl) rfl (fun ls (hl : lv_has ls 13 [(9, .int x30), (0, .ref (ad 0)), (1, .int v1j99), (4, .long v4h108), (6, .long v6h108), (8, .int v8h108)]) => ?_)
          refine lv_goto (tgt := 120) hx hb dX6_determinant_146 (by decide) ?_
          exact hC2 _ hE2 ls (lv_sub hl [1, 2, 3, 4, 5, 0] rfl)
  refine lv_iconst (v := 0) hx hb dX6_determinant_0 rfl ?_
  refine lv_istore_n hx hb dX6_determinant_1 rfl hl (Nat.le_of_ble_eq_true rfl) rfl (fun ls (hl : lv_has ls 13 [(3, .int (0 : Int32)), (0, .ref (ad 0)), (1, .int p1), (2, .int p2)]) => ?_)
  refine lv_iconst (v := 0) hx hb dX6_determinant_2 rfl ?_
  refine lv_istore hx hb dX6_determinant_3 hl (Nat.le_of_ble_eq_true rfl) rfl (fun ls (hl : lv_has ls 13 [(4, .int (0 : Int32)), (3, .int (0 : Int32)), (0, .ref (ad 0)), (1, .int p1), (2, .int p2)]) => ?_)
  obtain ⟨q, hq, hE0⟩ := bd1_e hE0 hN0
  refine k_ind (P := fun zz => ∀ (H : Heap) (locs : List Loc) (ls : Array Slot), lv_has ls 13 [(0, .ref (ad 0)), (1, .int p1), (2, .int p2), (3, .int zz.1), (4, .int zz.2.1)] → k_H D (wM cs ad) (k_A 17 ad) zz.2.2 s.heap H locs → W p l e rmX6_determinant s m args below meth c H locs 0 0 Q0 (F0 m 5 ls [])) ?_ N _ hq H locs ls (lv_sub hl [2, 3, 4, 1, 0] rfl) hw
  intro sX T1 hE1 hN1 hC1 hX1
  obtain ⟨v3h5, v4h5, σh5⟩ := sX
  replace hE1 : T1 = bX6_determinant_5 N p1 p2 v3h5 v4h5 σh5 := hE1
  unfold bX6_determinant_5 at hE1
  have J90_5 : ∀ (v3j90 : Int32) (v4j90 : Int32) (σj90 : vS) (H : Heap) (locs : List Loc) (ls : Array Slot), lv_has ls 13 [(0, .ref (ad 0)), (1, .int p1), (2, .int p2), (3, .int v3j90), (4, .int v4j90)] → k_H D (wM cs ad) (k_A 17 ad) σj90 s.heap H locs → T1 = jX6_determinant_90_5 N σj90 p1 p2 v3j90 v4j90 → W p l e rmX6_determinant s m args below meth c H locs 0 0 Q0 (F0 m 90 ls []) := by
    intro v3j90 v4j90 σj90 H locs ls hl hw hE1
    unfold jX6_determinant_90_5 at hE1
    obtain ⟨x35, e_x35, hE1⟩ := k_lte hE1
    refine lv_iinc (k := 3) (v := x35) hx hb dX6_determinant_90 hl rfl (Eq.symm e_x35) (Nat.le_of_ble_eq_true rfl) rfl (fun ls (hl : lv_has ls 13 [(3, .int x35), (0, .ref (ad 0)), (1, .int p1), (2, .int p2), (4, .int v4j90)]) => ?_)
    obtain ⟨x36, e_x36, hE1⟩ := k_lte hE1
    refine lv_iinc (k := 4) (v := x36) hx hb dX6_determinant_93 hl rfl (Eq.symm e_x36) (Nat.le_of_ble_eq_true rfl) rfl (fun ls (hl : lv_has ls 13 [(4, .int x36), (3, .int x35), (0, .ref (ad 0)), (1, .int p1), (2, .int p2)]) => ?_)
    refine lv_goto (tgt := 5) hx hb dX6_determinant_96 (by decide) ?_
    exact hC1 _ hE1 H locs ls (lv_sub hl [2, 3, 4, 1, 0] rfl) hw
  intro H locs ls hl hw
  replace hl : lv_has ls 13 [(0, .ref (ad 0)), (1, .int p1), (2, .int p2), (3, .int v3h5), (4, .int v4h5)] := hl
  replace hw : k_H D (wM cs ad) (k_A 17 ad) σh5 s.heap H locs := hw
  refine lv_iload hx hb dX6_determinant_5 (lv_at hl 4 rfl) ?_
  refine lv_iconst (v := 5) hx hb dX6_determinant_7 rfl ?_
  refine lv_icmp_ge (tgt := 99) hx hb dX6_determinant_8 (by decide) (fun c49 => ?_) (fun c49 => ?_)
  · have hE1 := ite_t hE1 c49
    have hq := hX1 _ hE1
    subst hq
    exact J99 p1 σh5 H locs ls (lv_sub hl [0, 1] rfl) hw hE0
  · have hE1 := ite_f hE1 c49
    refine lv_iload_n hx hb dX6_determinant_11 rfl (lv_at hl 3 rfl) ?_
    refine lv_iload_n hx hb dX6_determinant_12 rfl (lv_at hl 1 rfl) ?_
    refine lv_icmp_ge (tgt := 99) hx hb dX6_determinant_13 (by decide) (fun c48 => ?_) (fun c48 => ?_)
    · have hE1 := ite_t hE1 c48
      have hq := hX1 _ hE1
      subst hq
      exact J99 p1 σh5 H locs ls (lv_sub hl [0, 1] rfl) hw hE0
    · have hE1 := ite_f hE1 c48
      refine lv_iload_n hx hb dX6_determinant_16 rfl (lv_at hl 2 rfl) ?_
      refine lv_iload hx hb dX6_determinant_17 (lv_at hl 4 rfl) ?_
      refine lv_ishr hx hb dX6_determinant_19 ?_
      refine lv_iconst (v := 1) hx hb dX6_determinant_20 rfl ?_
      refine lv_iand hx hb dX6_determinant_21 ?_
      refine lv_iconst (v := 1) hx hb dX6_determinant_22 rfl ?_
      refine lv_icmp_ne (tgt := 93) hx hb dX6_determinant_23 (by decide) (fun c47 => ?_) (fun c47 => ?_)
      · have hE1 := ite_f hE1 c47
        obtain ⟨x34, e_x34, hE1⟩ := k_lte hE1
        refine lv_iinc (k := 4) (v := x34) hx hb dX6_determinant_93 hl rfl (Eq.symm e_x34) (Nat.le_of_ble_eq_true rfl) rfl (fun ls (hl : lv_has ls 13 [(4, .int x34), (0, .ref (ad 0)), (1, .int p1), (2, .int p2), (3, .int v3h5)]) => ?_)
        refine lv_goto (tgt := 5) hx hb dX6_determinant_96 (by decide) ?_
        exact hC1 _ hE1 H locs ls (lv_sub hl [1, 2, 3, 4, 0] rfl) hw
      · have hE1 := ite_t hE1 c47
        refine lv_iconst (v := 0) hx hb dX6_determinant_26 rfl ?_
        refine lv_istore hx hb dX6_determinant_27 hl (Nat.le_of_ble_eq_true rfl) rfl (fun ls (hl : lv_has ls 13 [(5, .int (0 : Int32)), (0, .ref (ad 0)), (1, .int p1), (2, .int p2), (3, .int v3h5), (4, .int v4h5)]) => ?_)
        obtain ⟨q, hq, hE1⟩ := bd1_e hE1 hN1
        refine k_ind (P := fun zz => ∀ (H : Heap) (locs : List Loc) (ls : Array Slot), lv_has ls 13 [(0, .ref (ad 0)), (1, .int p1), (2, .int p2), (3, .int v3h5), (4, .int v4h5), (5, .int zz.1)] → k_H D (wM cs ad) (k_A 17 ad) zz.2 s.heap H locs → W p l e rmX6_determinant s m args below meth c H locs 0 0 Q0 (F0 m 29 ls [])) ?_ N _ hq H locs ls (lv_sub hl [1, 2, 3, 4, 5, 0] rfl) hw
        intro sX T2 hE2 hN2 hC2 hX2
        obtain ⟨v5h29, σh29⟩ := sX
        replace hE2 : T2 = bX6_determinant_29 N p1 p2 v3h5 v4h5 v5h29 σh29 := hE2
        unfold bX6_determinant_29 at hE2
        intro H locs ls hl hw
        replace hl : lv_has ls 13 [(0, .ref (ad 0)), (1, .int p1), (2, .int p2), (3, .int v3h5), (4, .int v4h5), (5, .int v5h29)] := hl
        replace hw : k_H D (wM cs ad) (k_A 17 ad) σh29 s.heap H locs := hw
        refine lv_iload hx hb dX6_determinant_29 (lv_at hl 5 rfl) ?_
        refine lv_iload_n hx hb dX6_determinant_31 rfl (lv_at hl 1 rfl) ?_
        refine lv_icmp_ge (tgt := 90) hx hb dX6_determinant_32 (by decide) (fun c46 => ?_) (fun c46 => ?_)
        · have hE2 := ite_t hE2 c46
          have hq := hX2 _ hE2
          subst hq
          exact J90_5 v3h5 v4h5 σh29 H locs ls (lv_sub hl [0, 1, 2, 3, 4] rfl) hw hE1
        · have hE2 := ite_f hE2 c46
          refine lv_aload_n hx hb dX6_determinant_35 rfl (lv_at hl 0 rfl) ?_
          refine lv_aload_n hx hb dX6_determinant_36 rfl (lv_at hl 0 rfl) ?_
          refine kg_X6_column hcf hK (kw_706 htk) dX6_determinant_37 hw ?_
          refine lv_iload hx hb dX6_determinant_40 (lv_at hl 5 rfl) ?_
          obtain ⟨g37, hE2⟩ := gd_e hE2 hN2
          refine mald_A9 hcf hK (x := (σh29.2.1 9 ((v5h29).toNatClampNeg))) dX6_determinant_42 g37 hw rfl ?_
          refine lv_iload hx hb dX6_determinant_43 (lv_at hl 4 rfl) ?_
          obtain ⟨r38, k38, hE2⟩ := bd1_e hE2 hN2
          refine k_callP (va_runV (As := [.int (σh29.2.1 9 ((v5h29).toNatClampNeg)), .int v4h5]) (rest := []) hcf (mX6_hasOf l D cs ad N σh29 (σh29.2.1 9 ((v5h29).toNatClampNeg)) v4h5 r38 k38) (kcX6_hasOf htk (kw_872 htk) ⟨Nat.le_of_ble_eq_true rfl, Nat.le_of_ble_eq_true rfl⟩) ⟨k_blind, va_recv (ci := 6) (q0 := 0) hK hw.1 rfl rfl, k_pre hK hZ hw⟩ rfl rfl hl.1 rfl (lv_room (Nat.le_of_ble_eq_true rfl)) dX6_determinant_45 ⟨Nat.zero_le _, Nat.zero_le _⟩) ?_
          refine lv_lstore hx hb dX6_determinant_48 hl (Nat.le_of_ble_eq_true rfl) rfl (fun ls (hl : lv_has ls 13 [(6, .long r38), (0, .ref (ad 0)), (1, .int p1), (2, .int p2), (3, .int v3h5), (4, .int v4h5), (5, .int v5h29)]) => ?_)
          refine lv_aload_n hx hb dX6_determinant_50 rfl (lv_at hl 1 rfl) ?_
          refine kg_X6_cells hcf hK (kw_707 htk) dX6_determinant_51 hw ?_
          refine lv_iconst (v := 5) hx hb dX6_determinant_54 rfl ?_
          refine lv_iload_n hx hb dX6_determinant_55 rfl (lv_at hl 4 rfl) ?_
          refine lv_imul hx hb dX6_determinant_56 ?_
          refine lv_iload hx hb dX6_determinant_57 (lv_at hl 6 rfl) ?_
          refine lv_iadd hx hb dX6_determinant_59 ?_
          refine lv_aload_n hx hb dX6_determinant_60 rfl (lv_at hl 1 rfl) ?_
          refine kg_X6_right hcf hK (kw_692 htk) dX6_determinant_61 hw ?_
          refine lv_aload_n hx hb dX6_determinant_64 rfl (lv_at hl 1 rfl) ?_
          refine kg_X6_column hcf hK (kw_706 htk) dX6_determinant_65 hw ?_
          refine lv_iload hx hb dX6_determinant_68 (lv_at hl 6 rfl) ?_
          obtain ⟨g39, hE2⟩ := gd_e hE2 hN2
          refine mald_A9 hcf hK (x := (σh29.2.1 9 ((v5h29).toNatClampNeg))) dX6_determinant_70 g39 hw rfl ?_
          obtain ⟨g40, hE2⟩ := gd_e hE2 hN2
          refine mald_A4 hcf hK (x := (σh29.2.1 4 (((σh29.2.1 9 ((v5h29).toNatClampNeg))).toNatClampNeg))) dX6_determinant_71 g40 hw rfl ?_
          refine lv_if_eq (tgt := 81) hx hb dX6_determinant_72 (by decide) (fun c45 => ?_) (fun c45 => ?_)
          · have hE2 := ite_t hE2 c45
            refine lv_lload hx hb dX6_determinant_81 (lv_at hl 0 rfl) ?_
            obtain ⟨g41, hE2⟩ := gd_e hE2 hN2
            refine mast_B4 hcf hK dX6_determinant_83 g41 hw (fun H locs hw => ?_)
            obtain ⟨x42, e_x42, hE2⟩ := k_lte hE2
            refine lv_iinc (k := 6) (v := x42) hx hb dX6_determinant_84 hl rfl (Eq.symm e_x42) (Nat.le_of_ble_eq_true rfl) rfl (fun ls (hl : lv_has ls 13 [(5, .int x42), (6, .long r38), (0, .ref (ad 0)), (1, .int p1), (2, .int p2), (3, .int v3h5), (4, .int v4h5)]) => ?_)
            refine lv_goto (tgt := 29) hx hb dX6_determinant_87 (by decide) ?_
            exact hC2 _ hE2 H locs ls (lv_sub hl [2, 3, 4, 5, 6, 0] rfl) hw
          · have hE2 := ite_f hE2 c45
            refine lv_lload hx hb dX6_determinant_75 (lv_at hl 0 rfl) ?_
            refine lv_lneg hx hb dX6_determinant_77 ?_
            refine lv_goto (tgt := 83) hx hb dX6_determinant_78 (by decide) ?_
            obtain ⟨g43, hE2⟩ := gd_e hE2 hN2
            refine mast_B4 hcf hK dX6_determinant_83 g43 hw (fun H locs hw => ?_)
            obtain ⟨x44, e_x44, hE2⟩ := k_lte hE2
            refine lv_iinc (k := 6) (v := x44) hx hb dX6_determinant_84 hl rfl (Eq.symm e_x44) (Nat.le_of_ble_eq_true rfl) rfl (fun ls (hl : lv_has ls 13 [(5, .int x44), (6, .long r38), (0, .ref (ad 0)), (1, .int p1), (2, .int p2), (3, .int v3h5), (4, .int v4h5)]) => ?_)
            refine lv_goto (tgt := 29) hx hb dX6_determinant_87 (by decide) ?_
            exact hC2 _ hE2 H locs ls (lv_sub hl [2, 3, 4, 5, 6, 0] rfl) hw
