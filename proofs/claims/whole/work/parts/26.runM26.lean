def fX6_kinds (N : Nat) (σ : vS) : Option (Int32 × vS) :=
  if ((σ.1 7) = 0) then (
    some ((0 : Int32), (p_i σ 0 (0 : Int32)))
  ) else (
    bd1 (fX6_kindCount N (p_i σ 0 (0 : Int32))) fun r1 =>
    some (r1, (p_i σ 0 (0 : Int32)))
  )
abbrev rmX6_kinds : Room := { frames := 1, cells := 0, slots := 0, locals := 20 }
abbrev wsX6_kinds : List Cond := .code yX6_kinds cX6_kinds 1 (some .int) :: kws
theorem kcX6_kinds {R : Room} {s : State} {args : Array Value} {own : String} {index : Nat} (htk : ∀ w ∈ kws, w.before args s = true) (hl : (Cond.methodLink own index yX6_kinds).before args s = true) (hR : rmX6_kinds.frames + 1 ≤ R.frames ∧ 8 + (1 + 11) + rmX6_kinds.locals ≤ R.locals) : CallW R s args own RX6 index yX6_kinds cX6_kinds 1 (some .int) wsX6_kinds rmX6_kinds 0 0 0 :=
  ⟨callB_of 0 htk (k_good kc_921) rfl rfl rfl (kw_58 htk) hl (by decide +kernel) hR, (kw_919 htk), (kw_920 htk)⟩
set_option maxRecDepth 100000 in
set_option maxHeartbeats 4000000 in
theorem mX6_kinds (l : Launch) (D : va_G) (cs : Nat → ClassId) (ad : Nat → Nat) (N : Nat) (σ : vS) (r : Int32) (σ' : vS) (hf : fX6_kinds N σ = some (r, σ')) : k_Met l yX6_kinds wsX6_kinds rmX6_kinds D (tM cs) (wM cs ad) (k_A 17 ad) [.ref (ad 0)] σ (some (.int r)) σ' := by
  refine k_of (cc := cX6_kinds) (maxL := 1) (ret := (some .int)) (by decide) rfl (Nat.le_of_ble_eq_true rfl) ?_
  intro p e s m args below meth c ls H locs hcf hr hlk hK hZ hl hw
  generalize hQ0 : MQ below _ args s 0 0 _ = Q0
  obtain ⟨T0, hE0⟩ : ∃ T, T = fX6_kinds N σ := ⟨_, rfl⟩
  have hR := hE0.trans hf
  have hN0 : T0 ≠ none := by rw [hR]; exact fun h => nomatch h
  have hx := hcf.1
  have hb := hcf.2.1
  have htk := hcf.2.2.2.2
  have hown := hcf.2.2.2.1
  unfold fX6_kinds at hE0
  replace hl : lv_has ls 1 [(0, .ref (ad 0))] := hl
  refine lv_aload_n hx hb dX6_kinds_0 rfl (lv_at hl 0 rfl) ?_
  refine lv_iconst (v := 0) hx hb dX6_kinds_1 rfl ?_
  refine kp_X6_thrown hcf hK (kw_679 htk) dX6_kinds_2 hw (fun H locs hw => ?_)
  refine lv_aload_n hx hb dX6_kinds_5 rfl (lv_at hl 0 rfl) ?_
  refine kg_X6_there hcf hK (kw_688 htk) (x := (σ.1 7)) dX6_kinds_6 hw rfl ?_
  refine lv_if_eq (tgt := 19) hx hb dX6_kinds_9 (by decide) (fun c2 => ?_) (fun c2 => ?_)
  · have hE0 := ite_t hE0 c2
    refine lv_iconst (v := 0) hx hb dX6_kinds_19 rfl ?_
    exact kret_i hcf hr hlk hK hw (rt2 hR hE0) hQ0 dX6_kinds_20
  · have hE0 := ite_f hE0 c2
    refine lv_aload_n hx hb dX6_kinds_12 rfl (lv_at hl 0 rfl) ?_
    obtain ⟨r1, k1, hE0⟩ := bd1_e hE0 hN0
    refine k_callP (va_runV (As := []) (rest := []) hcf (mX6_kindCount l D cs ad N (p_i σ 0 (0 : Int32)) r1 k1) (kcX6_kindCount htk (kw_857 htk) ⟨Nat.le_of_ble_eq_true rfl, Nat.le_of_ble_eq_true rfl⟩) ⟨k_blind, va_recv (ci := 6) (q0 := 0) hK hw.1 rfl rfl, k_pre hK hZ hw⟩ rfl rfl hl.1 rfl (lv_room (Nat.le_of_ble_eq_true rfl)) dX6_kinds_13 ⟨Nat.zero_le _, Nat.zero_le _⟩) ?_
    refine lv_goto (tgt := 20) hx hb dX6_kinds_16 (by decide) ?_
    exact kret_i hcf hr hlk hK hw (rt2 hR hE0) hQ0 dX6_kinds_20
def fX6_isKind (N : Nat) (σ : vS) (p1 : Int32) : Option (Int32) :=
  if ((σ.1 7) = 0) then (
    some (0 : Int32)
  ) else (
    if (p1 < 0) then (
      some (0 : Int32)
    ) else (
      bd1 (fX6_kindCount N σ) fun r1 =>
      if (r1 ≤ p1) then (
        some (0 : Int32)
      ) else (
        some (1 : Int32)
      )
    )
  )
abbrev rmX6_isKind : Room := { frames := 1, cells := 0, slots := 0, locals := 20 }
abbrev wsX6_isKind : List Cond := .code yX6_isKind cX6_isKind 2 (some .boolean) :: kws
theorem kcX6_isKind {R : Room} {s : State} {args : Array Value} {own : String} {index : Nat} (htk : ∀ w ∈ kws, w.before args s = true) (hl : (Cond.methodLink own index yX6_isKind).before args s = true) (hR : rmX6_isKind.frames + 1 ≤ R.frames ∧ 8 + (2 + 11) + rmX6_isKind.locals ≤ R.locals) : CallW R s args own RX6 index yX6_isKind cX6_isKind 2 (some .boolean) wsX6_isKind rmX6_isKind 0 0 1 :=
  ⟨callB_of 1 htk (k_good kc_929) rfl rfl rfl (kw_58 htk) hl (by decide +kernel) hR, (kw_928 htk), (kw_49 htk)⟩
set_option maxRecDepth 100000 in
set_option maxHeartbeats 4000000 in
theorem mX6_isKind (l : Launch) (D : va_G) (cs : Nat → ClassId) (ad : Nat → Nat) (N : Nat) (σ : vS) (p1 : Int32) (r : Int32) (hf : fX6_isKind N σ p1 = some r) : k_MP l yX6_isKind wsX6_isKind rmX6_isKind D (tM cs) (wM cs ad) [.ref (ad 0), .int p1] σ (.int r) := by
  refine k_ofP (cc := cX6_isKind) (maxL := 2) (ret := (some .boolean)) (by decide) rfl (Nat.le_of_ble_eq_true rfl) ?_
  intro p e s m args below meth c ls hcf hr hlk hK hZ hl hw
  generalize hQ0 : MQ below _ args s 0 0 _ = Q0
  obtain ⟨T0, hE0⟩ : ∃ T, T = fX6_isKind N σ p1 := ⟨_, rfl⟩
  have hR := hE0.trans hf
  have hN0 : T0 ≠ none := by rw [hR]; exact fun h => nomatch h
  have hx := hcf.1
  have hb := hcf.2.1
  have htk := hcf.2.2.2.2
  have hown := hcf.2.2.2.1
  unfold fX6_isKind at hE0
  replace hl : lv_has ls 2 [(0, .ref (ad 0)), (1, .int p1)] := hl
  refine lv_aload_n hx hb dX6_isKind_0 rfl (lv_at hl 0 rfl) ?_
  refine kg_X6_there hcf hK (kw_688 htk) (x := (σ.1 7)) dX6_isKind_1 hw rfl ?_
  refine lv_if_eq (tgt := 23) hx hb dX6_isKind_4 (by decide) (fun c4 => ?_) (fun c4 => ?_)
  · have hE0 := ite_t hE0 c4
    refine lv_iconst (v := 0) hx hb dX6_isKind_23 rfl ?_
    exact kretP_z hcf hr hlk hK hw (rt1 hR hE0) hQ0 rfl dX6_isKind_24
  · have hE0 := ite_f hE0 c4
    refine lv_iload_n hx hb dX6_isKind_7 rfl (lv_at hl 1 rfl) ?_
    refine lv_if_lt (tgt := 23) hx hb dX6_isKind_8 (by decide) (fun c3 => ?_) (fun c3 => ?_)
    · have hE0 := ite_t hE0 c3
      refine lv_iconst (v := 0) hx hb dX6_isKind_23 rfl ?_
      exact kretP_z hcf hr hlk hK hw (rt1 hR hE0) hQ0 rfl dX6_isKind_24
    · have hE0 := ite_f hE0 c3
      refine lv_iload_n hx hb dX6_isKind_11 rfl (lv_at hl 1 rfl) ?_
      refine lv_aload_n hx hb dX6_isKind_12 rfl (lv_at hl 0 rfl) ?_
      obtain ⟨r1, k1, hE0⟩ := bd1_e hE0 hN0
      refine k_callP (va_runV (As := []) (rest := [.int p1]) hcf (mX6_kindCount l D cs ad N σ r1 k1) (kcX6_kindCount htk (kw_857 htk) ⟨Nat.le_of_ble_eq_true rfl, Nat.le_of_ble_eq_true rfl⟩) ⟨k_blind, va_recv (ci := 6) (q0 := 0) hK hw.1 rfl rfl, k_pre hK hZ hw⟩ rfl rfl hl.1 rfl (lv_room (Nat.le_of_ble_eq_true rfl)) dX6_isKind_13 ⟨Nat.zero_le _, Nat.zero_le _⟩) ?_
      refine lv_icmp_ge (tgt := 23) hx hb dX6_isKind_16 (by decide) (fun c2 => ?_) (fun c2 => ?_)
      · have hE0 := ite_t hE0 c2
        refine lv_iconst (v := 0) hx hb dX6_isKind_23 rfl ?_
        exact kretP_z hcf hr hlk hK hw (rt1 hR hE0) hQ0 rfl dX6_isKind_24
      · have hE0 := ite_f hE0 c2
        refine lv_iconst (v := 1) hx hb dX6_isKind_19 rfl ?_
        refine lv_goto (tgt := 24) hx hb dX6_isKind_20 (by decide) ?_
        exact kretP_z hcf hr hlk hK hw (rt1 hR hE0) hQ0 rfl dX6_isKind_24
def fX6_isFormula (N : Nat) (σ : vS) (p1 : Int32) : Option (Int32) :=
  if ((σ.1 7) = 0) then (
    some (0 : Int32)
  ) else (
    if (p1 < 0) then (
      some (0 : Int32)
    ) else (
      if ((σ.1 8) ≤ p1) then (
        some (0 : Int32)
      ) else (
        some (1 : Int32)
      )
    )
  )
abbrev rmX6_isFormula : Room := { frames := 0, cells := 0, slots := 0, locals := 0 }
abbrev wsX6_isFormula : List Cond := .code yX6_isFormula cX6_isFormula 2 (some .boolean) :: kws
theorem kcX6_isFormula {R : Room} {s : State} {args : Array Value} {own : String} {index : Nat} (htk : ∀ w ∈ kws, w.before args s = true) (hl : (Cond.methodLink own index yX6_isFormula).before args s = true) (hR : rmX6_isFormula.frames + 1 ≤ R.frames ∧ 8 + (2 + 11) + rmX6_isFormula.locals ≤ R.locals) : CallW R s args own RX6 index yX6_isFormula cX6_isFormula 2 (some .boolean) wsX6_isFormula rmX6_isFormula 0 0 1 :=
  ⟨callB_of 1 htk (k_good kc_937) rfl rfl rfl (kw_58 htk) hl (by decide +kernel) hR, (kw_936 htk), (kw_50 htk)⟩
set_option maxRecDepth 100000 in
set_option maxHeartbeats 4000000 in
theorem mX6_isFormula (l : Launch) (D : va_G) (cs : Nat → ClassId) (ad : Nat → Nat) (N : Nat) (σ : vS) (p1 : Int32) (r : Int32) (hf : fX6_isFormula N σ p1 = some r) : k_MP l yX6_isFormula wsX6_isFormula rmX6_isFormula D (tM cs) (wM cs ad) [.ref (ad 0), .int p1] σ (.int r) := by
  refine k_ofP (cc := cX6_isFormula) (maxL := 2) (ret := (some .boolean)) (by decide) rfl (Nat.le_of_ble_eq_true rfl) ?_
  intro p e s m args below meth c ls hcf hr hlk hK hZ hl hw
  generalize hQ0 : MQ below _ args s 0 0 _ = Q0
  obtain ⟨T0, hE0⟩ : ∃ T, T = fX6_isFormula N σ p1 := ⟨_, rfl⟩
  have hR := hE0.trans hf
  have hN0 : T0 ≠ none := by rw [hR]; exact fun h => nomatch h
  have hx := hcf.1
  have hb := hcf.2.1
  have htk := hcf.2.2.2.2
  have hown := hcf.2.2.2.1
  unfold fX6_isFormula at hE0
  replace hl : lv_has ls 2 [(0, .ref (ad 0)), (1, .int p1)] := hl
  refine lv_aload_n hx hb dX6_isFormula_0 rfl (lv_at hl 0 rfl) ?_
  refine kg_X6_there hcf hK (kw_688 htk) (x := (σ.1 7)) dX6_isFormula_1 hw rfl ?_
  refine lv_if_eq (tgt := 23) hx hb dX6_isFormula_4 (by decide) (fun c3 => ?_) (fun c3 => ?_)
  · have hE0 := ite_t hE0 c3
    refine lv_iconst (v := 0) hx hb dX6_isFormula_23 rfl ?_
    exact kretP_z hcf hr hlk hK hw (rt1 hR hE0) hQ0 rfl dX6_isFormula_24
  · have hE0 := ite_f hE0 c3
    refine lv_iload_n hx hb dX6_isFormula_7 rfl (lv_at hl 1 rfl) ?_
    refine lv_if_lt (tgt := 23) hx hb dX6_isFormula_8 (by decide) (fun c2 => ?_) (fun c2 => ?_)
    · have hE0 := ite_t hE0 c2
      refine lv_iconst (v := 0) hx hb dX6_isFormula_23 rfl ?_
      exact kretP_z hcf hr hlk hK hw (rt1 hR hE0) hQ0 rfl dX6_isFormula_24
    · have hE0 := ite_f hE0 c2
      refine lv_iload_n hx hb dX6_isFormula_11 rfl (lv_at hl 1 rfl) ?_
      refine lv_aload_n hx hb dX6_isFormula_12 rfl (lv_at hl 0 rfl) ?_
      refine kg_X6_count hcf hK (kw_689 htk) (x := (σ.1 8)) dX6_isFormula_13 hw rfl ?_
      refine lv_icmp_ge (tgt := 23) hx hb dX6_isFormula_16 (by decide) (fun c1 => ?_) (fun c1 => ?_)
      · have hE0 := ite_t hE0 c1
        refine lv_iconst (v := 0) hx hb dX6_isFormula_23 rfl ?_
        exact kretP_z hcf hr hlk hK hw (rt1 hR hE0) hQ0 rfl dX6_isFormula_24
      · have hE0 := ite_f hE0 c1
        refine lv_iconst (v := 1) hx hb dX6_isFormula_19 rfl ?_
        refine lv_goto (tgt := 24) hx hb dX6_isFormula_20 (by decide) ?_
        exact kretP_z hcf hr hlk hK hw (rt1 hR hE0) hQ0 rfl dX6_isFormula_24
def jX6_name_17 (N : Nat) (σj17 : vS) (v1j17 : Int32) : Option (Int32 × vS) :=
  if ((σj17.1 0) = 0) then (
    if ((σj17.1 9) ≤ v1j17) then (
      some ((0 : Int32), σj17)
    ) else (
      if (v1j17 < 0 ∨ 5 ≤ (v1j17).toNatClampNeg) then none else
      some ((σj17.2.1 5 ((v1j17).toNatClampNeg)), σj17)
    )
  ) else (
    some ((0 : Int32), σj17)
  )
def fX6_name (N : Nat) (σ : vS) (p1 : Int32) : Option (Int32 × vS) :=
  bd1 (fX6_isKind N σ p1) fun r1 =>
  if (r1 = 0) then (
    jX6_name_17 N (p_i σ 0 (1 : Int32)) p1
  ) else (
    jX6_name_17 N (p_i σ 0 (0 : Int32)) p1
  )
abbrev rmX6_name : Room := { frames := 2, cells := 0, slots := 0, locals := 41 }
abbrev wsX6_name : List Cond := .code yX6_name cX6_name 2 (some .int) :: kws
theorem kcX6_name {R : Room} {s : State} {args : Array Value} {own : String} {index : Nat} (htk : ∀ w ∈ kws, w.before args s = true) (hl : (Cond.methodLink own index yX6_name).before args s = true) (hR : rmX6_name.frames + 1 ≤ R.frames ∧ 8 + (2 + 11) + rmX6_name.locals ≤ R.locals) : CallW R s args own RX6 index yX6_name cX6_name 2 (some .int) wsX6_name rmX6_name 0 0 1 :=
  ⟨callB_of 1 htk (k_good kc_925) rfl rfl rfl (kw_58 htk) hl (by decide +kernel) hR, (kw_923 htk), (kw_924 htk)⟩
set_option maxRecDepth 100000 in
set_option maxHeartbeats 4000000 in
theorem mX6_name (l : Launch) (D : va_G) (cs : Nat → ClassId) (ad : Nat → Nat) (N : Nat) (σ : vS) (p1 : Int32) (r : Int32) (σ' : vS) (hf : fX6_name N σ p1 = some (r, σ')) : k_Met l yX6_name wsX6_name rmX6_name D (tM cs) (wM cs ad) (k_A 17 ad) [.ref (ad 0), .int p1] σ (some (.int r)) σ' := by
  refine k_of (cc := cX6_name) (maxL := 2) (ret := (some .int)) (by decide) rfl (Nat.le_of_ble_eq_true rfl) ?_
  intro p e s m args below meth c ls H locs hcf hr hlk hK hZ hl hw
  generalize hQ0 : MQ below _ args s 0 0 _ = Q0
  obtain ⟨T0, hE0⟩ : ∃ T, T = fX6_name N σ p1 := ⟨_, rfl⟩
  have hR := hE0.trans hf
  have hN0 : T0 ≠ none := by rw [hR]; exact fun h => nomatch h
  have hx := hcf.1
  have hb := hcf.2.1
  have htk := hcf.2.2.2.2
  have hown := hcf.2.2.2.1
  unfold fX6_name at hE0
  replace hl : lv_has ls 2 [(0, .ref (ad 0)), (1, .int p1)] := hl
  have J17 : ∀ (v1j17 : Int32) (σj17 : vS) (H : Heap) (locs : List Loc) (ls : Array Slot), lv_has ls 2 [(0, .ref (ad 0)), (1, .int v1j17)] → k_H D (wM cs ad) (k_A 17 ad) σj17 s.heap H locs → T0 = jX6_name_17 N σj17 v1j17 → W p l e rmX6_name s m args below meth c H locs 0 0 Q0 (F0 m 17 ls []) := by
    intro v1j17 σj17 H locs ls hl hw hE0
    unfold jX6_name_17 at hE0
    refine lv_aload_n hx hb dX6_name_17 rfl (lv_at hl 0 rfl) ?_
    refine kg_X6_thrown hcf hK (kw_679 htk) (x := (σj17.1 0)) dX6_name_18 hw rfl ?_
    refine lv_if_ne (tgt := 41) hx hb dX6_name_21 (by decide) (fun c4 => ?_) (fun c4 => ?_)
    · have hE0 := ite_f hE0 c4
      refine lv_iconst (v := 0) hx hb dX6_name_41 rfl ?_
      exact kret_i hcf hr hlk hK hw (rt2 hR hE0) hQ0 dX6_name_42
    · have hE0 := ite_t hE0 c4
      refine lv_iload_n hx hb dX6_name_24 rfl (lv_at hl 1 rfl) ?_
      refine lv_aload_n hx hb dX6_name_25 rfl (lv_at hl 0 rfl) ?_
      refine kg_X6_elements hcf hK (kw_695 htk) (x := (σj17.1 9)) dX6_name_26 hw rfl ?_
      refine lv_icmp_ge (tgt := 41) hx hb dX6_name_29 (by decide) (fun c3 => ?_) (fun c3 => ?_)
      · have hE0 := ite_t hE0 c3
        refine lv_iconst (v := 0) hx hb dX6_name_41 rfl ?_
        exact kret_i hcf hr hlk hK hw (rt2 hR hE0) hQ0 dX6_name_42
      · have hE0 := ite_f hE0 c3
        refine lv_aload_n hx hb dX6_name_32 rfl (lv_at hl 0 rfl) ?_
        refine kg_X6_names hcf hK (kw_696 htk) dX6_name_33 hw ?_
        refine lv_iload_n hx hb dX6_name_36 rfl (lv_at hl 1 rfl) ?_
        obtain ⟨g2, hE0⟩ := gd_e hE0 hN0
        refine mald_A5 hcf hK (x := (σj17.2.1 5 ((v1j17).toNatClampNeg))) dX6_name_37 g2 hw rfl ?_
        refine lv_goto (tgt := 42) hx hb dX6_name_38 (by decide) ?_
        exact kret_i hcf hr hlk hK hw (rt2 hR hE0) hQ0 dX6_name_42
  refine lv_aload_n hx hb dX6_name_0 rfl (lv_at hl 0 rfl) ?_
  refine lv_aload_n hx hb dX6_name_1 rfl (lv_at hl 0 rfl) ?_
  refine lv_iload_n hx hb dX6_name_2 rfl (lv_at hl 1 rfl) ?_
  obtain ⟨r1, k1, hE0⟩ := bd1_e hE0 hN0
  refine k_callP (va_runV (As := [.int p1]) (rest := [.ref (ad 0)]) hcf (mX6_isKind l D cs ad N σ p1 r1 k1) (kcX6_isKind htk (kw_926 htk) ⟨Nat.le_of_ble_eq_true rfl, Nat.le_of_ble_eq_true rfl⟩) ⟨k_blind, va_recv (ci := 6) (q0 := 0) hK hw.1 rfl rfl, k_pre hK hZ hw⟩ rfl rfl hl.1 rfl (lv_room (Nat.le_of_ble_eq_true rfl)) dX6_name_3 ⟨Nat.zero_le _, Nat.zero_le _⟩) ?_
  refine lv_if_eq (tgt := 13) hx hb dX6_name_6 (by decide) (fun c5 => ?_) (fun c5 => ?_)
  · have hE0 := ite_t hE0 c5
    refine lv_iconst (v := 1) hx hb dX6_name_13 rfl ?_
    refine kp_X6_thrown hcf hK (kw_679 htk) dX6_name_14 hw (fun H locs hw => ?_)
    exact J17 p1 (p_i σ 0 (1 : Int32)) H locs ls (lv_sub hl [0, 1] rfl) hw hE0
  · have hE0 := ite_f hE0 c5
    refine lv_iconst (v := 0) hx hb dX6_name_9 rfl ?_
    refine lv_goto (tgt := 14) hx hb dX6_name_10 (by decide) ?_
    refine kp_X6_thrown hcf hK (kw_679 htk) dX6_name_14 hw (fun H locs hw => ?_)
    exact J17 p1 (p_i σ 0 (0 : Int32)) H locs ls (lv_sub hl [0, 1] rfl) hw hE0
def jX6_has_25 (N : Nat) (σj25 : vS) (v1j25 : Int32) (v2j25 : Int32) : Option (Int32 × vS) :=
  if ((σj25.1 0) = 0) then (
    bd1 (fX6_hasOf N σj25 v1j25 v2j25) fun r2 =>
    some ((r2).toInt32, σj25)
  ) else (
    some ((0 : Int32), σj25)
  )
def fX6_has (N : Nat) (σ : vS) (p1 : Int32) (p2 : Int32) : Option (Int32 × vS) :=
  bd1 (fX6_isFormula N σ p1) fun r1 =>
  if (r1 = 0) then (
    jX6_has_25 N (p_i σ 0 (1 : Int32)) p1 p2
  ) else (
    bd1 (fX6_isKind N σ p2) fun r4 =>
    if (r4 = 0) then (
      jX6_has_25 N (p_i σ 0 (1 : Int32)) p1 p2
    ) else (
      jX6_has_25 N (p_i σ 0 (0 : Int32)) p1 p2
    )
  )
abbrev rmX6_has : Room := { frames := 2, cells := 0, slots := 0, locals := 41 }
abbrev wsX6_has : List Cond := .code yX6_has cX6_has 3 (some .int) :: kws
theorem kcX6_has {R : Room} {s : State} {args : Array Value} {own : String} {index : Nat} (htk : ∀ w ∈ kws, w.before args s = true) (hl : (Cond.methodLink own index yX6_has).before args s = true) (hR : rmX6_has.frames + 1 ≤ R.frames ∧ 8 + (3 + 11) + rmX6_has.locals ≤ R.locals) : CallW R s args own RX6 index yX6_has cX6_has 3 (some .int) wsX6_has rmX6_has 0 0 2 :=
  ⟨callB_of 2 htk (k_good kc_933) rfl rfl rfl (kw_58 htk) hl (by decide +kernel) hR, (kw_931 htk), (kw_932 htk)⟩
set_option maxRecDepth 100000 in
set_option maxHeartbeats 4000000 in
theorem mX6_has (l : Launch) (D : va_G) (cs : Nat → ClassId) (ad : Nat → Nat) (N : Nat) (σ : vS) (p1 : Int32) (p2 : Int32) (r : Int32) (σ' : vS) (hf : fX6_has N σ p1 p2 = some (r, σ')) : k_Met l yX6_has wsX6_has rmX6_has D (tM cs) (wM cs ad) (k_A 17 ad) [.ref (ad 0), .int p1, .int p2] σ (some (.int r)) σ' := by
  refine k_of (cc := cX6_has) (maxL := 3) (ret := (some .int)) (by decide) rfl (Nat.le_of_ble_eq_true rfl) ?_
  intro p e s m args below meth c ls H locs hcf hr hlk hK hZ hl hw
  generalize hQ0 : MQ below _ args s 0 0 _ = Q0
  obtain ⟨T0, hE0⟩ : ∃ T, T = fX6_has N σ p1 p2 := ⟨_, rfl⟩
  have hR := hE0.trans hf
  have hN0 : T0 ≠ none := by rw [hR]; exact fun h => nomatch h
  have hx := hcf.1
  have hb := hcf.2.1
  have htk := hcf.2.2.2.2
  have hown := hcf.2.2.2.1
  unfold fX6_has at hE0
  replace hl : lv_has ls 3 [(0, .ref (ad 0)), (1, .int p1), (2, .int p2)] := hl
  have J25 : ∀ (v1j25 : Int32) (v2j25 : Int32) (σj25 : vS) (H : Heap) (locs : List Loc) (ls : Array Slot), lv_has ls 3 [(0, .ref (ad 0)), (1, .int v1j25), (2, .int v2j25)] → k_H D (wM cs ad) (k_A 17 ad) σj25 s.heap H locs → T0 = jX6_has_25 N σj25 v1j25 v2j25 → W p l e rmX6_has s m args below meth c H locs 0 0 Q0 (F0 m 25 ls []) := by
    intro v1j25 v2j25 σj25 H locs ls hl hw hE0
    unfold jX6_has_25 at hE0
    refine lv_aload_n hx hb dX6_has_25 rfl (lv_at hl 0 rfl) ?_
    refine kg_X6_thrown hcf hK (kw_679 htk) (x := (σj25.1 0)) dX6_has_26 hw rfl ?_
    refine lv_if_ne (tgt := 42) hx hb dX6_has_29 (by decide) (fun c3 => ?_) (fun c3 => ?_)
    · have hE0 := ite_f hE0 c3
      refine lv_iconst (v := 0) hx hb dX6_has_42 rfl ?_
      exact kret_i hcf hr hlk hK hw (rt2 hR hE0) hQ0 dX6_has_43
    · have hE0 := ite_t hE0 c3
      refine lv_aload_n hx hb dX6_has_32 rfl (lv_at hl 0 rfl) ?_
      refine lv_iload_n hx hb dX6_has_33 rfl (lv_at hl 1 rfl) ?_
      refine lv_iload_n hx hb dX6_has_34 rfl (lv_at hl 2 rfl) ?_
      obtain ⟨r2, k2, hE0⟩ := bd1_e hE0 hN0
      refine k_callP (va_runV (As := [.int v1j25, .int v2j25]) (rest := []) hcf (mX6_hasOf l D cs ad N σj25 v1j25 v2j25 r2 k2) (kcX6_hasOf htk (kw_872 htk) ⟨Nat.le_of_ble_eq_true rfl, Nat.le_of_ble_eq_true rfl⟩) ⟨k_blind, va_recv (ci := 6) (q0 := 0) hK hw.1 rfl rfl, k_pre hK hZ hw⟩ rfl rfl hl.1 rfl (lv_room (Nat.le_of_ble_eq_true rfl)) dX6_has_35 ⟨Nat.zero_le _, Nat.zero_le _⟩) ?_
      refine lv_l2i hx hb dX6_has_38 rfl ?_
      refine lv_goto (tgt := 43) hx hb dX6_has_39 (by decide) ?_
      exact kret_i hcf hr hlk hK hw (rt2 hR hE0) hQ0 dX6_has_43
  refine lv_aload_n hx hb dX6_has_0 rfl (lv_at hl 0 rfl) ?_
  refine lv_aload_n hx hb dX6_has_1 rfl (lv_at hl 0 rfl) ?_
  refine lv_iload_n hx hb dX6_has_2 rfl (lv_at hl 1 rfl) ?_
  obtain ⟨r1, k1, hE0⟩ := bd1_e hE0 hN0
  refine k_callP (va_runV (As := [.int p1]) (rest := [.ref (ad 0)]) hcf (mX6_isFormula l D cs ad N σ p1 r1 k1) (kcX6_isFormula htk (kw_934 htk) ⟨Nat.le_of_ble_eq_true rfl, Nat.le_of_ble_eq_true rfl⟩) ⟨k_blind, va_recv (ci := 6) (q0 := 0) hK hw.1 rfl rfl, k_pre hK hZ hw⟩ rfl rfl hl.1 rfl (lv_room (Nat.le_of_ble_eq_true rfl)) dX6_has_3 ⟨Nat.zero_le _, Nat.zero_le _⟩) ?_
  refine lv_if_eq (tgt := 21) hx hb dX6_has_6 (by decide) (fun c6 => ?_) (fun c6 => ?_)
  · have hE0 := ite_t hE0 c6
    refine lv_iconst (v := 1) hx hb dX6_has_21 rfl ?_
    refine kp_X6_thrown hcf hK (kw_679 htk) dX6_has_22 hw (fun H locs hw => ?_)
    exact J25 p1 p2 (p_i σ 0 (1 : Int32)) H locs ls (lv_sub hl [0, 1, 2] rfl) hw hE0
  · have hE0 := ite_f hE0 c6
    refine lv_aload_n hx hb dX6_has_9 rfl (lv_at hl 0 rfl) ?_
    refine lv_iload_n hx hb dX6_has_10 rfl (lv_at hl 2 rfl) ?_
    obtain ⟨r4, k4, hE0⟩ := bd1_e hE0 hN0
    refine k_callP (va_runV (As := [.int p2]) (rest := [.ref (ad 0)]) hcf (mX6_isKind l D cs ad N σ p2 r4 k4) (kcX6_isKind htk (kw_926 htk) ⟨Nat.le_of_ble_eq_true rfl, Nat.le_of_ble_eq_true rfl⟩) ⟨k_blind, va_recv (ci := 6) (q0 := 0) hK hw.1 rfl rfl, k_pre hK hZ hw⟩ rfl rfl hl.1 rfl (lv_room (Nat.le_of_ble_eq_true rfl)) dX6_has_11 ⟨Nat.zero_le _, Nat.zero_le _⟩) ?_
    refine lv_if_eq (tgt := 21) hx hb dX6_has_14 (by decide) (fun c5 => ?_) (fun c5 => ?_)
    · have hE0 := ite_t hE0 c5
      refine lv_iconst (v := 1) hx hb dX6_has_21 rfl ?_
      refine kp_X6_thrown hcf hK (kw_679 htk) dX6_has_22 hw (fun H locs hw => ?_)
      exact J25 p1 p2 (p_i σ 0 (1 : Int32)) H locs ls (lv_sub hl [0, 1, 2] rfl) hw hE0
    · have hE0 := ite_f hE0 c5
      refine lv_iconst (v := 0) hx hb dX6_has_17 rfl ?_
      refine lv_goto (tgt := 22) hx hb dX6_has_18 (by decide) ?_
      refine kp_X6_thrown hcf hK (kw_679 htk) dX6_has_22 hw (fun H locs hw => ?_)
      exact J25 p1 p2 (p_i σ 0 (0 : Int32)) H locs ls (lv_sub hl [0, 1, 2] rfl) hw hE0
def jX6_product_17 (N : Nat) (σj17 : vS) (v1j17 : Int32) : Option (Int32 × vS) :=
  if ((σj17.1 0) = 0) then (
    if (v1j17 < 0 ∨ 6 ≤ (v1j17).toNatClampNeg) then none else
    if ((σj17.2.1 4 ((v1j17).toNatClampNeg)) = 0) then (
      some ((0 : Int32), σj17)
    ) else (
      some ((1 : Int32), σj17)
    )
  ) else (
    some ((0 : Int32), σj17)
  )
def fX6_product (N : Nat) (σ : vS) (p1 : Int32) : Option (Int32 × vS) :=
  bd1 (fX6_isFormula N σ p1) fun r1 =>
  if (r1 = 0) then (
    jX6_product_17 N (p_i σ 0 (1 : Int32)) p1
  ) else (
    jX6_product_17 N (p_i σ 0 (0 : Int32)) p1
  )
abbrev rmX6_product : Room := { frames := 1, cells := 0, slots := 0, locals := 21 }
abbrev wsX6_product : List Cond := .code yX6_product cX6_product 2 (some .boolean) :: kws
theorem kcX6_product {R : Room} {s : State} {args : Array Value} {own : String} {index : Nat} (htk : ∀ w ∈ kws, w.before args s = true) (hl : (Cond.methodLink own index yX6_product).before args s = true) (hR : rmX6_product.frames + 1 ≤ R.frames ∧ 8 + (2 + 11) + rmX6_product.locals ≤ R.locals) : CallW R s args own RX6 index yX6_product cX6_product 2 (some .boolean) wsX6_product rmX6_product 0 0 1 :=
  ⟨callB_of 1 htk (k_good kc_941) rfl rfl rfl (kw_58 htk) hl (by decide +kernel) hR, (kw_939 htk), (kw_940 htk)⟩
set_option maxRecDepth 100000 in
set_option maxHeartbeats 4000000 in
theorem mX6_product (l : Launch) (D : va_G) (cs : Nat → ClassId) (ad : Nat → Nat) (N : Nat) (σ : vS) (p1 : Int32) (r : Int32) (σ' : vS) (hf : fX6_product N σ p1 = some (r, σ')) : k_Met l yX6_product wsX6_product rmX6_product D (tM cs) (wM cs ad) (k_A 17 ad) [.ref (ad 0), .int p1] σ (some (.int r)) σ' := by
  refine k_of (cc := cX6_product) (maxL := 2) (ret := (some .boolean)) (by decide) rfl (Nat.le_of_ble_eq_true rfl) ?_
  intro p e s m args below meth c ls H locs hcf hr hlk hK hZ hl hw
  generalize hQ0 : MQ below _ args s 0 0 _ = Q0
  obtain ⟨T0, hE0⟩ : ∃ T, T = fX6_product N σ p1 := ⟨_, rfl⟩
  have hR := hE0.trans hf
  have hN0 : T0 ≠ none := by rw [hR]; exact fun h => nomatch h
  have hx := hcf.1
  have hb := hcf.2.1
  have htk := hcf.2.2.2.2
  have hown := hcf.2.2.2.1
  unfold fX6_product at hE0
  replace hl : lv_has ls 2 [(0, .ref (ad 0)), (1, .int p1)] := hl
  have J17 : ∀ (v1j17 : Int32) (σj17 : vS) (H : Heap) (locs : List Loc) (ls : Array Slot), lv_has ls 2 [(0, .ref (ad 0)), (1, .int v1j17)] → k_H D (wM cs ad) (k_A 17 ad) σj17 s.heap H locs → T0 = jX6_product_17 N σj17 v1j17 → W p l e rmX6_product s m args below meth c H locs 0 0 Q0 (F0 m 17 ls []) := by
    intro v1j17 σj17 H locs ls hl hw hE0
    unfold jX6_product_17 at hE0
    refine lv_aload_n hx hb dX6_product_17 rfl (lv_at hl 0 rfl) ?_
    refine kg_X6_thrown hcf hK (kw_679 htk) (x := (σj17.1 0)) dX6_product_18 hw rfl ?_
    refine lv_if_ne (tgt := 37) hx hb dX6_product_21 (by decide) (fun c4 => ?_) (fun c4 => ?_)
    · have hE0 := ite_f hE0 c4
      refine lv_iconst (v := 0) hx hb dX6_product_37 rfl ?_
      exact kret_z hcf hr hlk hK hw (rt2 hR hE0) hQ0 rfl dX6_product_38
    · have hE0 := ite_t hE0 c4
      refine lv_aload_n hx hb dX6_product_24 rfl (lv_at hl 0 rfl) ?_
      refine kg_X6_right hcf hK (kw_692 htk) dX6_product_25 hw ?_
      refine lv_iload_n hx hb dX6_product_28 rfl (lv_at hl 1 rfl) ?_
      obtain ⟨g2, hE0⟩ := gd_e hE0 hN0
      refine mald_A4 hcf hK (x := (σj17.2.1 4 ((v1j17).toNatClampNeg))) dX6_product_29 g2 hw rfl ?_
      refine lv_if_eq (tgt := 37) hx hb dX6_product_30 (by decide) (fun c3 => ?_) (fun c3 => ?_)
      · have hE0 := ite_t hE0 c3
        refine lv_iconst (v := 0) hx hb dX6_product_37 rfl ?_
        exact kret_z hcf hr hlk hK hw (rt2 hR hE0) hQ0 rfl dX6_product_38
      · have hE0 := ite_f hE0 c3
        refine lv_iconst (v := 1) hx hb dX6_product_33 rfl ?_
        refine lv_goto (tgt := 38) hx hb dX6_product_34 (by decide) ?_
        exact kret_z hcf hr hlk hK hw (rt2 hR hE0) hQ0 rfl dX6_product_38
  refine lv_aload_n hx hb dX6_product_0 rfl (lv_at hl 0 rfl) ?_
  refine lv_aload_n hx hb dX6_product_1 rfl (lv_at hl 0 rfl) ?_
  refine lv_iload_n hx hb dX6_product_2 rfl (lv_at hl 1 rfl) ?_
  obtain ⟨r1, k1, hE0⟩ := bd1_e hE0 hN0
  refine k_callP (va_runV (As := [.int p1]) (rest := [.ref (ad 0)]) hcf (mX6_isFormula l D cs ad N σ p1 r1 k1) (kcX6_isFormula htk (kw_934 htk) ⟨Nat.le_of_ble_eq_true rfl, Nat.le_of_ble_eq_true rfl⟩) ⟨k_blind, va_recv (ci := 6) (q0 := 0) hK hw.1 rfl rfl, k_pre hK hZ hw⟩ rfl rfl hl.1 rfl (lv_room (Nat.le_of_ble_eq_true rfl)) dX6_product_3 ⟨Nat.zero_le _, Nat.zero_le _⟩) ?_
  refine lv_if_eq (tgt := 13) hx hb dX6_product_6 (by decide) (fun c5 => ?_) (fun c5 => ?_)
  · have hE0 := ite_t hE0 c5
    refine lv_iconst (v := 1) hx hb dX6_product_13 rfl ?_
    refine kp_X6_thrown hcf hK (kw_679 htk) dX6_product_14 hw (fun H locs hw => ?_)
    exact J17 p1 (p_i σ 0 (1 : Int32)) H locs ls (lv_sub hl [0, 1] rfl) hw hE0
  · have hE0 := ite_f hE0 c5
    refine lv_iconst (v := 0) hx hb dX6_product_9 rfl ?_
    refine lv_goto (tgt := 14) hx hb dX6_product_10 (by decide) ?_
    refine kp_X6_thrown hcf hK (kw_679 htk) dX6_product_14 hw (fun H locs hw => ?_)
    exact J17 p1 (p_i σ 0 (0 : Int32)) H locs ls (lv_sub hl [0, 1] rfl) hw hE0
def jX6_free_17 (N : Nat) (σj17 : vS) (v1j17 : Int32) : Option (Int32 × vS) :=
  if ((σj17.1 0) = 0) then (
    if (v1j17 < 0 ∨ 6 ≤ (v1j17).toNatClampNeg) then none else
    if ((σj17.2.1 8 ((v1j17).toNatClampNeg)) = 0) then (
      some ((0 : Int32), σj17)
    ) else (
      some ((1 : Int32), σj17)
    )
  ) else (
    some ((0 : Int32), σj17)
  )
def fX6_free (N : Nat) (σ : vS) (p1 : Int32) : Option (Int32 × vS) :=
  bd1 (fX6_isFormula N σ p1) fun r1 =>
  if (r1 = 0) then (
    jX6_free_17 N (p_i σ 0 (1 : Int32)) p1
  ) else (
    jX6_free_17 N (p_i σ 0 (0 : Int32)) p1
  )
abbrev rmX6_free : Room := { frames := 1, cells := 0, slots := 0, locals := 21 }
abbrev wsX6_free : List Cond := .code yX6_free cX6_free 2 (some .boolean) :: kws
theorem kcX6_free {R : Room} {s : State} {args : Array Value} {own : String} {index : Nat} (htk : ∀ w ∈ kws, w.before args s = true) (hl : (Cond.methodLink own index yX6_free).before args s = true) (hR : rmX6_free.frames + 1 ≤ R.frames ∧ 8 + (2 + 11) + rmX6_free.locals ≤ R.locals) : CallW R s args own RX6 index yX6_free cX6_free 2 (some .boolean) wsX6_free rmX6_free 0 0 1 :=
  ⟨callB_of 1 htk (k_good kc_945) rfl rfl rfl (kw_58 htk) hl (by decide +kernel) hR, (kw_943 htk), (kw_944 htk)⟩
set_option maxRecDepth 100000 in
set_option maxHeartbeats 4000000 in
theorem mX6_free (l : Launch) (D : va_G) (cs : Nat → ClassId) (ad : Nat → Nat) (N : Nat) (σ : vS) (p1 : Int32) (r : Int32) (σ' : vS) (hf : fX6_free N σ p1 = some (r, σ')) : k_Met l yX6_free wsX6_free rmX6_free D (tM cs) (wM cs ad) (k_A 17 ad) [.ref (ad 0), .int p1] σ (some (.int r)) σ' := by
  refine k_of (cc := cX6_free) (maxL := 2) (ret := (some .boolean)) (by decide) rfl (Nat.le_of_ble_eq_true rfl) ?_
  intro p e s m args below meth c ls H locs hcf hr hlk hK hZ hl hw
  generalize hQ0 : MQ below _ args s 0 0 _ = Q0
  obtain ⟨T0, hE0⟩ : ∃ T, T = fX6_free N σ p1 := ⟨_, rfl⟩
  have hR := hE0.trans hf
  have hN0 : T0 ≠ none := by rw [hR]; exact fun h => nomatch h
  have hx := hcf.1
  have hb := hcf.2.1
  have htk := hcf.2.2.2.2
  have hown := hcf.2.2.2.1
  unfold fX6_free at hE0
  replace hl : lv_has ls 2 [(0, .ref (ad 0)), (1, .int p1)] := hl
  have J17 : ∀ (v1j17 : Int32) (σj17 : vS) (H : Heap) (locs : List Loc) (ls : Array Slot), lv_has ls 2 [(0, .ref (ad 0)), (1, .int v1j17)] → k_H D (wM cs ad) (k_A 17 ad) σj17 s.heap H locs → T0 = jX6_free_17 N σj17 v1j17 → W p l e rmX6_free s m args below meth c H locs 0 0 Q0 (F0 m 17 ls []) := by
    intro v1j17 σj17 H locs ls hl hw hE0
    unfold jX6_free_17 at hE0
    refine lv_aload_n hx hb dX6_free_17 rfl (lv_at hl 0 rfl) ?_
    refine kg_X6_thrown hcf hK (kw_679 htk) (x := (σj17.1 0)) dX6_free_18 hw rfl ?_
    refine lv_if_ne (tgt := 37) hx hb dX6_free_21 (by decide) (fun c4 => ?_) (fun c4 => ?_)
    · have hE0 := ite_f hE0 c4
      refine lv_iconst (v := 0) hx hb dX6_free_37 rfl ?_
      exact kret_z hcf hr hlk hK hw (rt2 hR hE0) hQ0 rfl dX6_free_38
    · have hE0 := ite_t hE0 c4
      refine lv_aload_n hx hb dX6_free_24 rfl (lv_at hl 0 rfl) ?_
      refine kg_X6_isFree hcf hK (kw_703 htk) dX6_free_25 hw ?_
      refine lv_iload_n hx hb dX6_free_28 rfl (lv_at hl 1 rfl) ?_
      obtain ⟨g2, hE0⟩ := gd_e hE0 hN0
      refine mald_A8 hcf hK (x := (σj17.2.1 8 ((v1j17).toNatClampNeg))) dX6_free_29 g2 hw rfl ?_
      refine lv_if_eq (tgt := 37) hx hb dX6_free_30 (by decide) (fun c3 => ?_) (fun c3 => ?_)
      · have hE0 := ite_t hE0 c3
        refine lv_iconst (v := 0) hx hb dX6_free_37 rfl ?_
        exact kret_z hcf hr hlk hK hw (rt2 hR hE0) hQ0 rfl dX6_free_38
      · have hE0 := ite_f hE0 c3
        refine lv_iconst (v := 1) hx hb dX6_free_33 rfl ?_
        refine lv_goto (tgt := 38) hx hb dX6_free_34 (by decide) ?_
        exact kret_z hcf hr hlk hK hw (rt2 hR hE0) hQ0 rfl dX6_free_38
  refine lv_aload_n hx hb dX6_free_0 rfl (lv_at hl 0 rfl) ?_
  refine lv_aload_n hx hb dX6_free_1 rfl (lv_at hl 0 rfl) ?_
  refine lv_iload_n hx hb dX6_free_2 rfl (lv_at hl 1 rfl) ?_
  obtain ⟨r1, k1, hE0⟩ := bd1_e hE0 hN0
  refine k_callP (va_runV (As := [.int p1]) (rest := [.ref (ad 0)]) hcf (mX6_isFormula l D cs ad N σ p1 r1 k1) (kcX6_isFormula htk (kw_934 htk) ⟨Nat.le_of_ble_eq_true rfl, Nat.le_of_ble_eq_true rfl⟩) ⟨k_blind, va_recv (ci := 6) (q0 := 0) hK hw.1 rfl rfl, k_pre hK hZ hw⟩ rfl rfl hl.1 rfl (lv_room (Nat.le_of_ble_eq_true rfl)) dX6_free_3 ⟨Nat.zero_le _, Nat.zero_le _⟩) ?_
  refine lv_if_eq (tgt := 13) hx hb dX6_free_6 (by decide) (fun c5 => ?_) (fun c5 => ?_)
  · have hE0 := ite_t hE0 c5
    refine lv_iconst (v := 1) hx hb dX6_free_13 rfl ?_
    refine kp_X6_thrown hcf hK (kw_679 htk) dX6_free_14 hw (fun H locs hw => ?_)
    exact J17 p1 (p_i σ 0 (1 : Int32)) H locs ls (lv_sub hl [0, 1] rfl) hw hE0
  · have hE0 := ite_f hE0 c5
    refine lv_iconst (v := 0) hx hb dX6_free_9 rfl ?_
    refine lv_goto (tgt := 14) hx hb dX6_free_10 (by decide) ?_
    refine kp_X6_thrown hcf hK (kw_679 htk) dX6_free_14 hw (fun H locs hw => ?_)
    exact J17 p1 (p_i σ 0 (0 : Int32)) H locs ls (lv_sub hl [0, 1] rfl) hw hE0
def jX6_number_29 (N : Nat) (σj29 : vS) (v1j29 : Int32) (v2j29 : Int32) : Option (Int64 × vS) :=
  if ((σj29.1 0) = 0) then (
    if ((((6 : Int32) * v1j29) + v2j29) < 0 ∨ 36 ≤ ((((6 : Int32) * v1j29) + v2j29)).toNatClampNeg) then none else
    some ((σj29.2.2.2 3 (((((6 : Int32) * v1j29) + v2j29)).toNatClampNeg)), σj29)
  ) else (
    some ((0 : Int64), σj29)
  )
def fX6_number (N : Nat) (σ : vS) (p1 : Int32) (p2 : Int32) : Option (Int64 × vS) :=
  bd1 (fX6_isFormula N σ p2) fun r1 =>
  if (r1 = 0) then (
    jX6_number_29 N (p_i σ 0 (1 : Int32)) p1 p2
  ) else (
    if (p1 < 0) then (
      jX6_number_29 N (p_i σ 0 (1 : Int32)) p1 p2
    ) else (
      if ((σ.1 13) ≤ p1) then (
        jX6_number_29 N (p_i σ 0 (1 : Int32)) p1 p2
      ) else (
        jX6_number_29 N (p_i σ 0 (0 : Int32)) p1 p2
      )
    )
  )
abbrev rmX6_number : Room := { frames := 1, cells := 0, slots := 0, locals := 21 }
abbrev wsX6_number : List Cond := .code yX6_number cX6_number 3 (some .long) :: kws
theorem kcX6_number {R : Room} {s : State} {args : Array Value} {own : String} {index : Nat} (htk : ∀ w ∈ kws, w.before args s = true) (hl : (Cond.methodLink own index yX6_number).before args s = true) (hR : rmX6_number.frames + 1 ≤ R.frames ∧ 8 + (3 + 11) + rmX6_number.locals ≤ R.locals) : CallW R s args own RX6 index yX6_number cX6_number 3 (some .long) wsX6_number rmX6_number 0 0 2 :=
  ⟨callB_of 2 htk (k_good kc_949) rfl rfl rfl (kw_58 htk) hl (by decide +kernel) hR, (kw_947 htk), (kw_948 htk)⟩
set_option maxRecDepth 100000 in
set_option maxHeartbeats 4000000 in
theorem mX6_number (l : Launch) (D : va_G) (cs : Nat → ClassId) (ad : Nat → Nat) (N : Nat) (σ : vS) (p1 : Int32) (p2 : Int32) (r : Int64) (σ' : vS) (hf : fX6_number N σ p1 p2 = some (r, σ')) : k_Met l yX6_number wsX6_number rmX6_number D (tM cs) (wM cs ad) (k_A 17 ad) [.ref (ad 0), .int p1, .int p2] σ (some (.long r)) σ' := by
  refine k_of (cc := cX6_number) (maxL := 3) (ret := (some .long)) (by decide) rfl (Nat.le_of_ble_eq_true rfl) ?_
  intro p e s m args below meth c ls H locs hcf hr hlk hK hZ hl hw
  generalize hQ0 : MQ below _ args s 0 0 _ = Q0
  obtain ⟨T0, hE0⟩ : ∃ T, T = fX6_number N σ p1 p2 := ⟨_, rfl⟩
  have hR := hE0.trans hf
  have hN0 : T0 ≠ none := by rw [hR]; exact fun h => nomatch h
  have hx := hcf.1
  have hb := hcf.2.1
  have htk := hcf.2.2.2.2
  have hown := hcf.2.2.2.1
  unfold fX6_number at hE0
  replace hl : lv_has ls 3 [(0, .ref (ad 0)), (1, .int p1), (2, .int p2)] := hl
  have J29 : ∀ (v1j29 : Int32) (v2j29 : Int32) (σj29 : vS) (H : Heap) (locs : List Loc) (ls : Array Slot), lv_has ls 3 [(0, .ref (ad 0)), (1, .int v1j29), (2, .int v2j29)] → k_H D (wM cs ad) (k_A 17 ad) σj29 s.heap H locs → T0 = jX6_number_29 N σj29 v1j29 v2j29 → W p l e rmX6_number s m args below meth c H locs 0 0 Q0 (F0 m 29 ls []) := by
    intro v1j29 v2j29 σj29 H locs ls hl hw hE0
    unfold jX6_number_29 at hE0
    refine lv_aload_n hx hb dX6_number_29 rfl (lv_at hl 0 rfl) ?_
    refine kg_X6_thrown hcf hK (kw_679 htk) (x := (σj29.1 0)) dX6_number_30 hw rfl ?_
    refine lv_if_ne (tgt := 50) hx hb dX6_number_33 (by decide) (fun c3 => ?_) (fun c3 => ?_)
    · have hE0 := ite_f hE0 c3
      refine lv_lconst (v := 0) hx hb dX6_number_50 rfl ?_
      exact kret_l hcf hr hlk hK hw (rt2 hR hE0) hQ0 dX6_number_51
    · have hE0 := ite_t hE0 c3
      refine lv_aload_n hx hb dX6_number_36 rfl (lv_at hl 0 rfl) ?_
      refine kg_X6_bases hcf hK (kw_705 htk) dX6_number_37 hw ?_
      refine lv_bipush (v := 6) hx hb dX6_number_40 rfl ?_
      refine lv_iload_n hx hb dX6_number_42 rfl (lv_at hl 1 rfl) ?_
      refine lv_imul hx hb dX6_number_43 ?_
      refine lv_iload_n hx hb dX6_number_44 rfl (lv_at hl 2 rfl) ?_
      refine lv_iadd hx hb dX6_number_45 ?_
      obtain ⟨g2, hE0⟩ := gd_e hE0 hN0
      refine mald_B3 hcf hK (x := (σj29.2.2.2 3 (((((6 : Int32) * v1j29) + v2j29)).toNatClampNeg))) dX6_number_46 g2 hw rfl ?_
      refine lv_goto (tgt := 51) hx hb dX6_number_47 (by decide) ?_
      exact kret_l hcf hr hlk hK hw (rt2 hR hE0) hQ0 dX6_number_51
  refine lv_aload_n hx hb dX6_number_0 rfl (lv_at hl 0 rfl) ?_
  refine lv_aload_n hx hb dX6_number_1 rfl (lv_at hl 0 rfl) ?_
  refine lv_iload_n hx hb dX6_number_2 rfl (lv_at hl 2 rfl) ?_
  obtain ⟨r1, k1, hE0⟩ := bd1_e hE0 hN0
  refine k_callP (va_runV (As := [.int p2]) (rest := [.ref (ad 0)]) hcf (mX6_isFormula l D cs ad N σ p2 r1 k1) (kcX6_isFormula htk (kw_934 htk) ⟨Nat.le_of_ble_eq_true rfl, Nat.le_of_ble_eq_true rfl⟩) ⟨k_blind, va_recv (ci := 6) (q0 := 0) hK hw.1 rfl rfl, k_pre hK hZ hw⟩ rfl rfl hl.1 rfl (lv_room (Nat.le_of_ble_eq_true rfl)) dX6_number_3 ⟨Nat.zero_le _, Nat.zero_le _⟩) ?_
  refine lv_if_eq (tgt := 25) hx hb dX6_number_6 (by decide) (fun c6 => ?_) (fun c6 => ?_)
  · have hE0 := ite_t hE0 c6
    refine lv_iconst (v := 1) hx hb dX6_number_25 rfl ?_
    refine kp_X6_thrown hcf hK (kw_679 htk) dX6_number_26 hw (fun H locs hw => ?_)
    exact J29 p1 p2 (p_i σ 0 (1 : Int32)) H locs ls (lv_sub hl [0, 1, 2] rfl) hw hE0
  · have hE0 := ite_f hE0 c6
    refine lv_iload_n hx hb dX6_number_9 rfl (lv_at hl 1 rfl) ?_
    refine lv_if_lt (tgt := 25) hx hb dX6_number_10 (by decide) (fun c5 => ?_) (fun c5 => ?_)
    · have hE0 := ite_t hE0 c5
      refine lv_iconst (v := 1) hx hb dX6_number_25 rfl ?_
      refine kp_X6_thrown hcf hK (kw_679 htk) dX6_number_26 hw (fun H locs hw => ?_)
      exact J29 p1 p2 (p_i σ 0 (1 : Int32)) H locs ls (lv_sub hl [0, 1, 2] rfl) hw hE0
    · have hE0 := ite_f hE0 c5
      refine lv_iload_n hx hb dX6_number_13 rfl (lv_at hl 1 rfl) ?_
      refine lv_aload_n hx hb dX6_number_14 rfl (lv_at hl 0 rfl) ?_
      refine kg_X6_free hcf hK (kw_704 htk) (x := (σ.1 13)) dX6_number_15 hw rfl ?_
      refine lv_icmp_ge (tgt := 25) hx hb dX6_number_18 (by decide) (fun c4 => ?_) (fun c4 => ?_)
      · have hE0 := ite_t hE0 c4
        refine lv_iconst (v := 1) hx hb dX6_number_25 rfl ?_
        refine kp_X6_thrown hcf hK (kw_679 htk) dX6_number_26 hw (fun H locs hw => ?_)
        exact J29 p1 p2 (p_i σ 0 (1 : Int32)) H locs ls (lv_sub hl [0, 1, 2] rfl) hw hE0
      · have hE0 := ite_f hE0 c4
        refine lv_iconst (v := 0) hx hb dX6_number_21 rfl ?_
        refine lv_goto (tgt := 26) hx hb dX6_number_22 (by decide) ?_
        refine kp_X6_thrown hcf hK (kw_679 htk) dX6_number_26 hw (fun H locs hw => ?_)
        exact J29 p1 p2 (p_i σ 0 (0 : Int32)) H locs ls (lv_sub hl [0, 1, 2] rfl) hw hE0
def jX6_weight_87 (N : Nat) (σj87 : vS) (v2j87 : Int64) : Option (Int64 × vS) :=
  some (v2j87, σj87)
def bX6_weight_33 (N : Nat) (σj28 : vS) (v1j28 : Int32) (v2h33 : Int64) (v4h33 : Int32) : Option ((Int64 × Int32) ⊕ (Int64)) :=
  if ((σj28.1 8) ≤ v4h33) then (
    some (.inr v2h33)
  ) else (
    if ((σj28.1 0) = 0) then (
      if (v4h33 < 0 ∨ 6 ≤ (v4h33).toNatClampNeg) then none else
      if ((σj28.2.1 4 ((v4h33).toNatClampNeg)) = 0) then (
        if (v4h33 < 0 ∨ 36 ≤ (v4h33).toNatClampNeg) then none else
        bd1 (fX6_hasOf N σj28 v4h33 v1j28) fun r5 =>
        k_lt (v2h33 + ((σj28.2.2.2 3 ((v4h33).toNatClampNeg)) * r5)) fun x6 =>
        k_lt (v4h33 + (1 : Int32)) fun x7 =>
        some (.inl (x6, x7))
      ) else (
        k_lt (v2h33 + (0 : Int64)) fun x8 =>
        k_lt (v4h33 + (1 : Int32)) fun x9 =>
        some (.inl (x8, x9))
      )
    ) else (
      some (.inr v2h33)
    )
  )
def jX6_weight_28 (N : Nat) (σj28 : vS) (v1j28 : Int32) : Option (Int64 × vS) :=
  bd1 (k_itr (fun zz => bX6_weight_33 N σj28 v1j28 zz.1 zz.2) N ((0 : Int64), (0 : Int32))) fun q => jX6_weight_87 N σj28 q
def fX6_weight (N : Nat) (σ : vS) (p1 : Int32) : Option (Int64 × vS) :=
  bd1 (fX6_isKind N σ p1) fun r1 =>
  if (r1 = 0) then (
    jX6_weight_28 N (p_i σ 0 (1 : Int32)) p1
  ) else (
    bd1 (fX6_isBalanced N σ) fun r2 =>
    if (r2 = 0) then (
      jX6_weight_28 N (p_i σ 0 (2 : Int32)) p1
    ) else (
      jX6_weight_28 N (p_i σ 0 (0 : Int32)) p1
    )
  )
abbrev rmX6_weight : Room := { frames := 2, cells := 0, slots := 0, locals := 41 }
abbrev wsX6_weight : List Cond := .code yX6_weight cX6_weight 5 (some .long) :: kws
theorem kcX6_weight {R : Room} {s : State} {args : Array Value} {own : String} {index : Nat} (htk : ∀ w ∈ kws, w.before args s = true) (hl : (Cond.methodLink own index yX6_weight).before args s = true) (hR : rmX6_weight.frames + 1 ≤ R.frames ∧ 8 + (5 + 11) + rmX6_weight.locals ≤ R.locals) : CallW R s args own RX6 index yX6_weight cX6_weight 5 (some .long) wsX6_weight rmX6_weight 0 0 1 :=
  ⟨callB_of 1 htk (k_good kc_953) rfl rfl rfl (kw_58 htk) hl (by decide +kernel) hR, (kw_951 htk), (kw_952 htk)⟩
set_option maxRecDepth 100000 in
set_option maxHeartbeats 4000000 in
theorem mX6_weight (l : Launch) (D : va_G) (cs : Nat → ClassId) (ad : Nat → Nat) (N : Nat) (σ : vS) (p1 : Int32) (r : Int64) (σ' : vS) (hf : fX6_weight N σ p1 = some (r, σ')) : k_Met l yX6_weight wsX6_weight rmX6_weight D (tM cs) (wM cs ad) (k_A 17 ad) [.ref (ad 0), .int p1] σ (some (.long r)) σ' := by
  refine k_of (cc := cX6_weight) (maxL := 5) (ret := (some .long)) (by decide) rfl (Nat.le_of_ble_eq_true rfl) ?_
  intro p e s m args below meth c ls H locs hcf hr hlk hK hZ hl hw
  generalize hQ0 : MQ below _ args s 0 0 _ = Q0
  obtain ⟨T0, hE0⟩ : ∃ T, T = fX6_weight N σ p1 := ⟨_, rfl⟩
  have hR := hE0.trans hf
  have hN0 : T0 ≠ none := by rw [hR]; exact fun h => nomatch h
  have hx := hcf.1
  have hb := hcf.2.1
  have htk := hcf.2.2.2.2
  have hown := hcf.2.2.2.1
  unfold fX6_weight at hE0
  replace hl : lv_has ls 5 [(0, .ref (ad 0)), (1, .int p1)] := hl
  have J87 : ∀ (v2j87 : Int64) (σj87 : vS) (H : Heap) (locs : List Loc) (ls : Array Slot), lv_has ls 5 [(2, .long v2j87)] → k_H D (wM cs ad) (k_A 17 ad) σj87 s.heap H locs → T0 = jX6_weight_87 N σj87 v2j87 → W p l e rmX6_weight s m args below meth c H locs 0 0 Q0 (F0 m 87 ls []) := by
    intro v2j87 σj87 H locs ls hl hw hE0
    unfold jX6_weight_87 at hE0
    refine lv_lload_n hx hb dX6_weight_87 rfl (lv_at hl 0 rfl) ?_
    exact kret_l hcf hr hlk hK hw (rt2 hR hE0) hQ0 dX6_weight_88
  have J28 : ∀ (v1j28 : Int32) (σj28 : vS) (H : Heap) (locs : List Loc) (ls : Array Slot), lv_has ls 5 [(0, .ref (ad 0)), (1, .int v1j28)] → k_H D (wM cs ad) (k_A 17 ad) σj28 s.heap H locs → T0 = jX6_weight_28 N σj28 v1j28 → W p l e rmX6_weight s m args below meth c H locs 0 0 Q0 (F0 m 28 ls []) := by
    intro v1j28 σj28 H locs ls hl hw hE0
    unfold jX6_weight_28 at hE0
    refine lv_lconst (v := 0) hx hb dX6_weight_28 rfl ?_
    refine lv_lstore_n hx hb dX6_weight_29 rfl hl (Nat.le_of_ble_eq_true rfl) rfl (fun ls (hl : lv_has ls 5 [(2, .long (0 : Int64)), (0, .ref (ad 0)), (1, .int v1j28)]) => ?_)
    refine lv_iconst (v := 0) hx hb dX6_weight_30 rfl ?_
    refine lv_istore hx hb dX6_weight_31 hl (Nat.le_of_ble_eq_true rfl) rfl (fun ls (hl : lv_has ls 5 [(4, .int (0 : Int32)), (2, .long (0 : Int64)), (0, .ref (ad 0)), (1, .int v1j28)]) => ?_)
    obtain ⟨q, hq, hE0⟩ := bd1_e hE0 hN0
    refine k_ind (P := fun zz => ∀ (ls : Array Slot), lv_has ls 5 [(0, .ref (ad 0)), (1, .int v1j28), (2, .long zz.1), (4, .int zz.2)] → W p l e rmX6_weight s m args below meth c H locs 0 0 Q0 (F0 m 33 ls [])) ?_ N _ hq ls (lv_sub hl [2, 3, 1, 0] rfl)
    intro sX T1 hE1 hN1 hC1 hX1
    obtain ⟨v2h33, v4h33⟩ := sX
    replace hE1 : T1 = bX6_weight_33 N σj28 v1j28 v2h33 v4h33 := hE1
    unfold bX6_weight_33 at hE1
    intro ls hl
    replace hl : lv_has ls 5 [(0, .ref (ad 0)), (1, .int v1j28), (2, .long v2h33), (4, .int v4h33)] := hl
    refine lv_iload hx hb dX6_weight_33 (lv_at hl 3 rfl) ?_
    refine lv_aload_n hx hb dX6_weight_35 rfl (lv_at hl 0 rfl) ?_
    refine kg_X6_count hcf hK (kw_689 htk) (x := (σj28.1 8)) dX6_weight_36 hw rfl ?_
    refine lv_icmp_ge (tgt := 87) hx hb dX6_weight_39 (by decide) (fun c12 => ?_) (fun c12 => ?_)
    · have hE1 := ite_t hE1 c12
      have hq := hX1 _ hE1
      subst hq
      exact J87 v2h33 σj28 H locs ls (lv_sub hl [2] rfl) hw hE0
    · have hE1 := ite_f hE1 c12
      refine lv_aload_n hx hb dX6_weight_42 rfl (lv_at hl 0 rfl) ?_
      refine kg_X6_thrown hcf hK (kw_679 htk) (x := (σj28.1 0)) dX6_weight_43 hw rfl ?_
      refine lv_if_ne (tgt := 87) hx hb dX6_weight_46 (by decide) (fun c11 => ?_) (fun c11 => ?_)
      · have hE1 := ite_f hE1 c11
        have hq := hX1 _ hE1
        subst hq
        exact J87 v2h33 σj28 H locs ls (lv_sub hl [2] rfl) hw hE0
      · have hE1 := ite_t hE1 c11
        refine lv_lload_n hx hb dX6_weight_49 rfl (lv_at hl 2 rfl) ?_
        refine lv_aload_n hx hb dX6_weight_50 rfl (lv_at hl 0 rfl) ?_
        refine kg_X6_right hcf hK (kw_692 htk) dX6_weight_51 hw ?_
        refine lv_iload hx hb dX6_weight_54 (lv_at hl 3 rfl) ?_
        obtain ⟨g3, hE1⟩ := gd_e hE1 hN1
        refine mald_A4 hcf hK (x := (σj28.2.1 4 ((v4h33).toNatClampNeg))) dX6_weight_56 g3 hw rfl ?_
        refine lv_if_eq (tgt := 64) hx hb dX6_weight_57 (by decide) (fun c10 => ?_) (fun c10 => ?_)
        · have hE1 := ite_t hE1 c10
          refine lv_aload_n hx hb dX6_weight_64 rfl (lv_at hl 0 rfl) ?_
          refine kg_X6_bases hcf hK (kw_705 htk) dX6_weight_65 hw ?_
          refine lv_iload hx hb dX6_weight_68 (lv_at hl 3 rfl) ?_
          obtain ⟨g4, hE1⟩ := gd_e hE1 hN1
          refine mald_B3 hcf hK (x := (σj28.2.2.2 3 ((v4h33).toNatClampNeg))) dX6_weight_70 g4 hw rfl ?_
          refine lv_aload_n hx hb dX6_weight_71 rfl (lv_at hl 0 rfl) ?_
          refine lv_iload hx hb dX6_weight_72 (lv_at hl 3 rfl) ?_
          refine lv_iload_n hx hb dX6_weight_74 rfl (lv_at hl 1 rfl) ?_
          obtain ⟨r5, k5, hE1⟩ := bd1_e hE1 hN1
          refine k_callP (va_runV (As := [.int v4h33, .int v1j28]) (rest := [.long (σj28.2.2.2 3 ((v4h33).toNatClampNeg)), .long v2h33]) hcf (mX6_hasOf l D cs ad N σj28 v4h33 v1j28 r5 k5) (kcX6_hasOf htk (kw_872 htk) ⟨Nat.le_of_ble_eq_true rfl, Nat.le_of_ble_eq_true rfl⟩) ⟨k_blind, va_recv (ci := 6) (q0 := 0) hK hw.1 rfl rfl, k_pre hK hZ hw⟩ rfl rfl hl.1 rfl (lv_room (Nat.le_of_ble_eq_true rfl)) dX6_weight_75 ⟨Nat.zero_le _, Nat.zero_le _⟩) ?_
          refine lv_lmul hx hb dX6_weight_78 ?_
          refine lv_ladd hx hb dX6_weight_79 ?_
          refine lv_topl (fun x6 e_x6 => ?_)
          have hE1 := k_lts hE1 e_x6
          refine lv_lstore_n hx hb dX6_weight_80 rfl hl (Nat.le_of_ble_eq_true rfl) rfl (fun ls (hl : lv_has ls 5 [(2, .long x6), (0, .ref (ad 0)), (1, .int v1j28), (4, .int v4h33)]) => ?_)
          obtain ⟨x7, e_x7, hE1⟩ := k_lte hE1
          refine lv_iinc (k := 3) (v := x7) hx hb dX6_weight_81 hl rfl (Eq.symm e_x7) (Nat.le_of_ble_eq_true rfl) rfl (fun ls (hl : lv_has ls 5 [(4, .int x7), (2, .long x6), (0, .ref (ad 0)), (1, .int v1j28)]) => ?_)
          refine lv_goto (tgt := 33) hx hb dX6_weight_84 (by decide) ?_
          exact hC1 _ hE1 ls (lv_sub hl [2, 3, 1, 0] rfl)
        · have hE1 := ite_f hE1 c10
          refine lv_lconst (v := 0) hx hb dX6_weight_60 rfl ?_
          refine lv_goto (tgt := 79) hx hb dX6_weight_61 (by decide) ?_
          refine lv_ladd hx hb dX6_weight_79 ?_
          refine lv_topl (fun x8 e_x8 => ?_)
          have hE1 := k_lts hE1 e_x8
          refine lv_lstore_n hx hb dX6_weight_80 rfl hl (Nat.le_of_ble_eq_true rfl) rfl (fun ls (hl : lv_has ls 5 [(2, .long x8), (0, .ref (ad 0)), (1, .int v1j28), (4, .int v4h33)]) => ?_)
          obtain ⟨x9, e_x9, hE1⟩ := k_lte hE1
          refine lv_iinc (k := 3) (v := x9) hx hb dX6_weight_81 hl rfl (Eq.symm e_x9) (Nat.le_of_ble_eq_true rfl) rfl (fun ls (hl : lv_has ls 5 [(4, .int x9), (2, .long x8), (0, .ref (ad 0)), (1, .int v1j28)]) => ?_)
          refine lv_goto (tgt := 33) hx hb dX6_weight_84 (by decide) ?_
          exact hC1 _ hE1 ls (lv_sub hl [2, 3, 1, 0] rfl)
  refine lv_aload_n hx hb dX6_weight_0 rfl (lv_at hl 0 rfl) ?_
  refine lv_aload_n hx hb dX6_weight_1 rfl (lv_at hl 0 rfl) ?_
  refine lv_iload_n hx hb dX6_weight_2 rfl (lv_at hl 1 rfl) ?_
  obtain ⟨r1, k1, hE0⟩ := bd1_e hE0 hN0
  refine k_callP (va_runV (As := [.int p1]) (rest := [.ref (ad 0)]) hcf (mX6_isKind l D cs ad N σ p1 r1 k1) (kcX6_isKind htk (kw_926 htk) ⟨Nat.le_of_ble_eq_true rfl, Nat.le_of_ble_eq_true rfl⟩) ⟨k_blind, va_recv (ci := 6) (q0 := 0) hK hw.1 rfl rfl, k_pre hK hZ hw⟩ rfl rfl hl.1 rfl (lv_room (Nat.le_of_ble_eq_true rfl)) dX6_weight_3 ⟨Nat.zero_le _, Nat.zero_le _⟩) ?_
  refine lv_if_ne (tgt := 13) hx hb dX6_weight_6 (by decide) (fun c14 => ?_) (fun c14 => ?_)
  · have hE0 := ite_f hE0 c14
    refine lv_aload_n hx hb dX6_weight_13 rfl (lv_at hl 0 rfl) ?_
    obtain ⟨r2, k2, hE0⟩ := bd1_e hE0 hN0
    refine k_callP (va_runV (As := []) (rest := [.ref (ad 0)]) hcf (mX6_isBalanced l D cs ad N σ r2 k2) (kcX6_isBalanced htk (kw_887 htk) ⟨Nat.le_of_ble_eq_true rfl, Nat.le_of_ble_eq_true rfl⟩) ⟨k_blind, va_recv (ci := 6) (q0 := 0) hK hw.1 rfl rfl, k_pre hK hZ hw⟩ rfl rfl hl.1 rfl (lv_room (Nat.le_of_ble_eq_true rfl)) dX6_weight_14 ⟨Nat.zero_le _, Nat.zero_le _⟩) ?_
    refine lv_if_ne (tgt := 24) hx hb dX6_weight_17 (by decide) (fun c13 => ?_) (fun c13 => ?_)
    · have hE0 := ite_f hE0 c13
      refine lv_iconst (v := 0) hx hb dX6_weight_24 rfl ?_
      refine kp_X6_thrown hcf hK (kw_679 htk) dX6_weight_25 hw (fun H locs hw => ?_)
      exact J28 p1 (p_i σ 0 (0 : Int32)) H locs ls (lv_sub hl [0, 1] rfl) hw hE0
    · have hE0 := ite_t hE0 c13
      refine lv_iconst (v := 2) hx hb dX6_weight_20 rfl ?_
      refine lv_goto (tgt := 25) hx hb dX6_weight_21 (by decide) ?_
      refine kp_X6_thrown hcf hK (kw_679 htk) dX6_weight_25 hw (fun H locs hw => ?_)
      exact J28 p1 (p_i σ 0 (2 : Int32)) H locs ls (lv_sub hl [0, 1] rfl) hw hE0
  · have hE0 := ite_t hE0 c14
    refine lv_iconst (v := 1) hx hb dX6_weight_9 rfl ?_
    refine lv_goto (tgt := 25) hx hb dX6_weight_10 (by decide) ?_
    refine kp_X6_thrown hcf hK (kw_679 htk) dX6_weight_25 hw (fun H locs hw => ?_)
    exact J28 p1 (p_i σ 0 (1 : Int32)) H locs ls (lv_sub hl [0, 1] rfl) hw hE0
def jX6_written_16 (N : Nat) (σj16 : vS) (v1j16 : Int32) : Option (Int32 × vS) :=
  if ((σj16.1 0) = 0) then (
    if (v1j16 < 0) then (
      some ((-1 : Int32), σj16)
    ) else (
      if (v1j16 < (σj16.1 14)) then (
        if (v1j16 < 0 ∨ 240 ≤ (v1j16).toNatClampNeg) then none else
        some ((σj16.2.1 10 ((v1j16).toNatClampNeg)), σj16)
      ) else (
        some ((-1 : Int32), σj16)
      )
    )
  ) else (
    some ((0 : Int32), σj16)
  )
def fX6_written (N : Nat) (σ : vS) (p1 : Int32) : Option (Int32 × vS) :=
  bd1 (fX6_isBalanced N σ) fun r1 =>
  if (r1 = 0) then (
    jX6_written_16 N (p_i σ 0 (1 : Int32)) p1
  ) else (
    jX6_written_16 N (p_i σ 0 (0 : Int32)) p1
  )
abbrev rmX6_written : Room := { frames := 1, cells := 0, slots := 0, locals := 22 }
abbrev wsX6_written : List Cond := .code yX6_written cX6_written 2 (some .int) :: kws
theorem kcX6_written {R : Room} {s : State} {args : Array Value} {own : String} {index : Nat} (htk : ∀ w ∈ kws, w.before args s = true) (hl : (Cond.methodLink own index yX6_written).before args s = true) (hR : rmX6_written.frames + 1 ≤ R.frames ∧ 8 + (2 + 11) + rmX6_written.locals ≤ R.locals) : CallW R s args own RX6 index yX6_written cX6_written 2 (some .int) wsX6_written rmX6_written 0 0 1 :=
  ⟨callB_of 1 htk (k_good kc_957) rfl rfl rfl (kw_58 htk) hl (by decide +kernel) hR, (kw_955 htk), (kw_956 htk)⟩
set_option maxRecDepth 100000 in
set_option maxHeartbeats 4000000 in
theorem mX6_written (l : Launch) (D : va_G) (cs : Nat → ClassId) (ad : Nat → Nat) (N : Nat) (σ : vS) (p1 : Int32) (r : Int32) (σ' : vS) (hf : fX6_written N σ p1 = some (r, σ')) : k_Met l yX6_written wsX6_written rmX6_written D (tM cs) (wM cs ad) (k_A 17 ad) [.ref (ad 0), .int p1] σ (some (.int r)) σ' := by
  refine k_of (cc := cX6_written) (maxL := 2) (ret := (some .int)) (by decide) rfl (Nat.le_of_ble_eq_true rfl) ?_
  intro p e s m args below meth c ls H locs hcf hr hlk hK hZ hl hw
  generalize hQ0 : MQ below _ args s 0 0 _ = Q0
  obtain ⟨T0, hE0⟩ : ∃ T, T = fX6_written N σ p1 := ⟨_, rfl⟩
  have hR := hE0.trans hf
  have hN0 : T0 ≠ none := by rw [hR]; exact fun h => nomatch h
  have hx := hcf.1
  have hb := hcf.2.1
  have htk := hcf.2.2.2.2
  have hown := hcf.2.2.2.1
  unfold fX6_written at hE0
  replace hl : lv_has ls 2 [(0, .ref (ad 0)), (1, .int p1)] := hl
  have J16 : ∀ (v1j16 : Int32) (σj16 : vS) (H : Heap) (locs : List Loc) (ls : Array Slot), lv_has ls 2 [(0, .ref (ad 0)), (1, .int v1j16)] → k_H D (wM cs ad) (k_A 17 ad) σj16 s.heap H locs → T0 = jX6_written_16 N σj16 v1j16 → W p l e rmX6_written s m args below meth c H locs 0 0 Q0 (F0 m 16 ls []) := by
    intro v1j16 σj16 H locs ls hl hw hE0
    unfold jX6_written_16 at hE0
    refine lv_aload_n hx hb dX6_written_16 rfl (lv_at hl 0 rfl) ?_
    refine kg_X6_thrown hcf hK (kw_679 htk) (x := (σj16.1 0)) dX6_written_17 hw rfl ?_
    refine lv_if_eq (tgt := 27) hx hb dX6_written_20 (by decide) (fun c5 => ?_) (fun c5 => ?_)
    · have hE0 := ite_t hE0 c5
      refine lv_iload_n hx hb dX6_written_27 rfl (lv_at hl 1 rfl) ?_
      refine lv_if_lt (tgt := 39) hx hb dX6_written_28 (by decide) (fun c4 => ?_) (fun c4 => ?_)
      · have hE0 := ite_t hE0 c4
        refine lv_iconst (v := -1) hx hb dX6_written_39 rfl ?_
        refine lv_goto (tgt := 49) hx hb dX6_written_40 (by decide) ?_
        exact kret_i hcf hr hlk hK hw (rt2 hR hE0) hQ0 dX6_written_49
      · have hE0 := ite_f hE0 c4
        refine lv_iload_n hx hb dX6_written_31 rfl (lv_at hl 1 rfl) ?_
        refine lv_aload_n hx hb dX6_written_32 rfl (lv_at hl 0 rfl) ?_
        refine kg_X6_lineSize hcf hK (kw_708 htk) (x := (σj16.1 14)) dX6_written_33 hw rfl ?_
        refine lv_icmp_lt (tgt := 43) hx hb dX6_written_36 (by decide) (fun c3 => ?_) (fun c3 => ?_)
        · have hE0 := ite_t hE0 c3
          refine lv_aload_n hx hb dX6_written_43 rfl (lv_at hl 0 rfl) ?_
          refine kg_X6_line hcf hK (kw_709 htk) dX6_written_44 hw ?_
          refine lv_iload_n hx hb dX6_written_47 rfl (lv_at hl 1 rfl) ?_
          obtain ⟨g2, hE0⟩ := gd_e hE0 hN0
          refine mald_A10 hcf hK (x := (σj16.2.1 10 ((v1j16).toNatClampNeg))) dX6_written_48 g2 hw rfl ?_
          exact kret_i hcf hr hlk hK hw (rt2 hR hE0) hQ0 dX6_written_49
        · have hE0 := ite_f hE0 c3
          refine lv_iconst (v := -1) hx hb dX6_written_39 rfl ?_
          refine lv_goto (tgt := 49) hx hb dX6_written_40 (by decide) ?_
          exact kret_i hcf hr hlk hK hw (rt2 hR hE0) hQ0 dX6_written_49
    · have hE0 := ite_f hE0 c5
      refine lv_iconst (v := 0) hx hb dX6_written_23 rfl ?_
      refine lv_goto (tgt := 49) hx hb dX6_written_24 (by decide) ?_
      exact kret_i hcf hr hlk hK hw (rt2 hR hE0) hQ0 dX6_written_49
  refine lv_aload_n hx hb dX6_written_0 rfl (lv_at hl 0 rfl) ?_
  refine lv_aload_n hx hb dX6_written_1 rfl (lv_at hl 0 rfl) ?_
  obtain ⟨r1, k1, hE0⟩ := bd1_e hE0 hN0
  refine k_callP (va_runV (As := []) (rest := [.ref (ad 0)]) hcf (mX6_isBalanced l D cs ad N σ r1 k1) (kcX6_isBalanced htk (kw_887 htk) ⟨Nat.le_of_ble_eq_true rfl, Nat.le_of_ble_eq_true rfl⟩) ⟨k_blind, va_recv (ci := 6) (q0 := 0) hK hw.1 rfl rfl, k_pre hK hZ hw⟩ rfl rfl hl.1 rfl (lv_room (Nat.le_of_ble_eq_true rfl)) dX6_written_2 ⟨Nat.zero_le _, Nat.zero_le _⟩) ?_
  refine lv_if_eq (tgt := 12) hx hb dX6_written_5 (by decide) (fun c6 => ?_) (fun c6 => ?_)
  · have hE0 := ite_t hE0 c6
    refine lv_iconst (v := 1) hx hb dX6_written_12 rfl ?_
    refine kp_X6_thrown hcf hK (kw_679 htk) dX6_written_13 hw (fun H locs hw => ?_)
    exact J16 p1 (p_i σ 0 (1 : Int32)) H locs ls (lv_sub hl [0, 1] rfl) hw hE0
  · have hE0 := ite_f hE0 c6
    refine lv_iconst (v := 0) hx hb dX6_written_8 rfl ?_
    refine lv_goto (tgt := 13) hx hb dX6_written_9 (by decide) ?_
    refine kp_X6_thrown hcf hK (kw_679 htk) dX6_written_13 hw (fun H locs hw => ?_)
    exact J16 p1 (p_i σ 0 (0 : Int32)) H locs ls (lv_sub hl [0, 1] rfl) hw hE0
def jX6_solves_182 (N : Nat) (σj182 : vS) (v6j182 : Int32) : Option (Int32 × vS) :=
  if ¬ (v6j182 &&& 1 = v6j182) then none else
  some (v6j182, σj182)
def jX6_solves_162_42 (N : Nat) (σj39 : vS) (v1j39 : Int32) (v2j39 : Int32) (v3j39 : Int32) (v4j39 : Int32) (v5j39 : Int32) (v7j162 : Int32) (v8j162 : Int64) : Option ((Int32 × Int32) ⊕ (Int32)) :=
  if ((lg_cmp v8j162 (0 : Int64)) = 0) then (
    k_lt (v7j162 + (1 : Int32)) fun x4 =>
    some (.inl ((1 : Int32), x4))
  ) else (
    k_lt (v7j162 + (1 : Int32)) fun x3 =>
    some (.inl ((0 : Int32), x3))
  )
def jX6_solves_120_62 (N : Nat) (σj39 : vS) (v1j39 : Int32) (v2j39 : Int32) (v3j39 : Int32) (v4j39 : Int32) (v5j39 : Int32) (v7h42 : Int32) (v8j120 : Int64) (v10j120 : Int32) (v11j120 : Int64) : Option ((Int64 × Int32) ⊕ (Int64)) :=
  bd1 (fX6_hasOf N σj39 v10j120 v7h42) fun r7 =>
  k_lt (v11j120 * r7) fun x8 =>
  if (v10j120 < 0 ∨ 6 ≤ (v10j120).toNatClampNeg) then none else
  if ((σj39.2.1 4 ((v10j120).toNatClampNeg)) = 0) then (
    k_lt (v8j120 + x8) fun x10 =>
    k_lt (v10j120 + (1 : Int32)) fun x11 =>
    some (.inl (x10, x11))
  ) else (
    k_lt (v8j120 + (-x8)) fun x12 =>
    k_lt (v10j120 + (1 : Int32)) fun x13 =>
    some (.inl (x12, x13))
  )
def bX6_solves_62 (N : Nat) (σj39 : vS) (v1j39 : Int32) (v2j39 : Int32) (v3j39 : Int32) (v4j39 : Int32) (v5j39 : Int32) (v7h42 : Int32) (v8h62 : Int64) (v10h62 : Int32) : Option ((Int64 × Int32) ⊕ (Int64)) :=
  if ((σj39.1 8) ≤ v10h62) then (
    some (.inr v8h62)
  ) else (
    if (v10h62 = 0) then (
      k_lt ((v1j39).toInt64) fun x21 =>
      jX6_solves_120_62 N σj39 v1j39 v2j39 v3j39 v4j39 v5j39 v7h42 v8h62 v10h62 x21
    ) else (
      if (v10h62 = (1 : Int32)) then (
        k_lt ((v2j39).toInt64) fun x19 =>
        jX6_solves_120_62 N σj39 v1j39 v2j39 v3j39 v4j39 v5j39 v7h42 v8h62 v10h62 x19
      ) else (
        if (v10h62 = (2 : Int32)) then (
          k_lt ((v3j39).toInt64) fun x17 =>
          jX6_solves_120_62 N σj39 v1j39 v2j39 v3j39 v4j39 v5j39 v7h42 v8h62 v10h62 x17
        ) else (
          if (v10h62 = (3 : Int32)) then (
            k_lt ((v4j39).toInt64) fun x15 =>
            jX6_solves_120_62 N σj39 v1j39 v2j39 v3j39 v4j39 v5j39 v7h42 v8h62 v10h62 x15
          ) else (
            k_lt ((v5j39).toInt64) fun x6 =>
            jX6_solves_120_62 N σj39 v1j39 v2j39 v3j39 v4j39 v5j39 v7h42 v8h62 v10h62 x6
          )
        )
      )
    )
  )
def bX6_solves_42 (N : Nat) (σj39 : vS) (v1j39 : Int32) (v2j39 : Int32) (v3j39 : Int32) (v4j39 : Int32) (v5j39 : Int32) (v6h42 : Int32) (v7h42 : Int32) : Option ((Int32 × Int32) ⊕ (Int32)) :=
  bd1 (fX6_kindCount N σj39) fun r2 =>
  if (r2 ≤ v7h42) then (
    some (.inr v6h42)
  ) else (
    if (v6h42 = 0) then (
      some (.inr v6h42)
    ) else (
      bd1 (k_itr (fun zz => bX6_solves_62 N σj39 v1j39 v2j39 v3j39 v4j39 v5j39 v7h42 zz.1 zz.2) N ((0 : Int64), (0 : Int32))) fun q => jX6_solves_162_42 N σj39 v1j39 v2j39 v3j39 v4j39 v5j39 v7h42 q
    )
  )
def jX6_solves_39 (N : Nat) (σj39 : vS) (v1j39 : Int32) (v2j39 : Int32) (v3j39 : Int32) (v4j39 : Int32) (v5j39 : Int32) (v6j39 : Int32) : Option (Int32 × vS) :=
  bd1 (k_itr (fun zz => bX6_solves_42 N σj39 v1j39 v2j39 v3j39 v4j39 v5j39 zz.1 zz.2) N (v6j39, (0 : Int32))) fun q => jX6_solves_182 N σj39 q
def jX6_solves_25 (N : Nat) (σj25 : vS) (v1j25 : Int32) (v2j25 : Int32) (v3j25 : Int32) (v4j25 : Int32) (v5j25 : Int32) : Option (Int32 × vS) :=
  if ((σj25.1 0) = 0) then (
    jX6_solves_39 N σj25 v1j25 v2j25 v3j25 v4j25 v5j25 (1 : Int32)
  ) else (
    jX6_solves_39 N σj25 v1j25 v2j25 v3j25 v4j25 v5j25 (0 : Int32)
  )
def fX6_solves (N : Nat) (σ : vS) (p1 : Int32) (p2 : Int32) (p3 : Int32) (p4 : Int32) (p5 : Int32) : Option (Int32 × vS) :=
  if ((σ.1 7) = 0) then (
    jX6_solves_25 N (p_i σ 0 (1 : Int32)) p1 p2 p3 p4 p5
  ) else (
    if ((σ.1 8) = (6 : Int32)) then (
      jX6_solves_25 N (p_i σ 0 (1 : Int32)) p1 p2 p3 p4 p5
    ) else (
      jX6_solves_25 N (p_i σ 0 (0 : Int32)) p1 p2 p3 p4 p5
    )
  )
abbrev rmX6_solves : Room := { frames := 1, cells := 0, slots := 0, locals := 22 }
abbrev wsX6_solves : List Cond := .code yX6_solves cX6_solves 15 (some .boolean) :: kws
theorem kcX6_solves {R : Room} {s : State} {args : Array Value} {own : String} {index : Nat} (htk : ∀ w ∈ kws, w.before args s = true) (hl : (Cond.methodLink own index yX6_solves).before args s = true) (hR : rmX6_solves.frames + 1 ≤ R.frames ∧ 8 + (15 + 11) + rmX6_solves.locals ≤ R.locals) : CallW R s args own RX6 index yX6_solves cX6_solves 15 (some .boolean) wsX6_solves rmX6_solves 0 0 5 :=
  ⟨callB_of 5 htk (k_good kc_961) rfl rfl rfl (kw_58 htk) hl (by decide +kernel) hR, (kw_959 htk), (kw_960 htk)⟩
set_option maxRecDepth 100000 in
set_option maxHeartbeats 4000000 in
theorem mX6_solves (l : Launch) (D : va_G) (cs : Nat → ClassId) (ad : Nat → Nat) (N : Nat) (σ : vS) (p1 : Int32) (p2 : Int32) (p3 : Int32) (p4 : Int32) (p5 : Int32) (r : Int32) (σ' : vS) (hf : fX6_solves N σ p1 p2 p3 p4 p5 = some (r, σ')) : k_Met l yX6_solves wsX6_solves rmX6_solves D (tM cs) (wM cs ad) (k_A 17 ad) [.ref (ad 0), .int p1, .int p2, .int p3, .int p4, .int p5] σ (some (.int r)) σ' := by
  refine k_of (cc := cX6_solves) (maxL := 15) (ret := (some .boolean)) (by decide) rfl (Nat.le_of_ble_eq_true rfl) ?_
  intro p e s m args below meth c ls H locs hcf hr hlk hK hZ hl hw
  generalize hQ0 : MQ below _ args s 0 0 _ = Q0
  obtain ⟨T0, hE0⟩ : ∃ T, T = fX6_solves N σ p1 p2 p3 p4 p5 := ⟨_, rfl⟩
  have hR := hE0.trans hf
  have hN0 : T0 ≠ none := by rw [hR]; exact fun h => nomatch h
  have hx := hcf.1
  have hb := hcf.2.1
  have htk := hcf.2.2.2.2
  have hown := hcf.2.2.2.1
  unfold fX6_solves at hE0
  replace hl : lv_has ls 15 [(0, .ref (ad 0)), (1, .int p1), (2, .int p2), (3, .int p3), (4, .int p4), (5, .int p5)] := hl
  have J182 : ∀ (v6j182 : Int32) (σj182 : vS) (H : Heap) (locs : List Loc) (ls : Array Slot), lv_has ls 15 [(6, .int v6j182)] → k_H D (wM cs ad) (k_A 17 ad) σj182 s.heap H locs → T0 = jX6_solves_182 N σj182 v6j182 → W p l e rmX6_solves s m args below meth c H locs 0 0 Q0 (F0 m 182 ls []) := by
    intro v6j182 σj182 H locs ls hl hw hE0
    unfold jX6_solves_182 at hE0
    refine lv_iload hx hb dX6_solves_182 (lv_at hl 0 rfl) ?_
    obtain ⟨g1, hE0⟩ := gd_e hE0 hN0
    exact kret_z hcf hr hlk hK hw (rt2 hR hE0) hQ0 (nr_b g1) dX6_solves_184
  have J39 : ∀ (v1j39 : Int32) (v2j39 : Int32) (v3j39 : Int32) (v4j39 : Int32) (v5j39 : Int32) (v6j39 : Int32) (σj39 : vS) (H : Heap) (locs : List Loc) (ls : Array Slot), lv_has ls 15 [(0, .ref (ad 0)), (1, .int v1j39), (2, .int v2j39), (3, .int v3j39), (4, .int v4j39), (5, .int v5j39), (6, .int v6j39)] → k_H D (wM cs ad) (k_A 17 ad) σj39 s.heap H locs → T0 = jX6_solves_39 N σj39 v1j39 v2j39 v3j39 v4j39 v5j39 v6j39 → W p l e rmX6_solves s m args below meth c H locs 0 0 Q0 (F0 m 39 ls []) := by
    intro v1j39 v2j39 v3j39 v4j39 v5j39 v6j39 σj39 H locs ls hl hw hE0
    unfold jX6_solves_39 at hE0
    refine lv_iconst (v := 0) hx hb dX6_solves_39 rfl ?_
    refine lv_istore hx hb dX6_solves_40 hl (Nat.le_of_ble_eq_true rfl) rfl (fun ls (hl : lv_has ls 15 [(7, .int (0 : Int32)), (0, .ref (ad 0)), (1, .int v1j39), (2, .int v2j39), (3, .int v3j39), (4, .int v4j39), (5, .int v5j39), (6, .int v6j39)]) => ?_)
    obtain ⟨q, hq, hE0⟩ := bd1_e hE0 hN0
    refine k_ind (P := fun zz => ∀ (ls : Array Slot), lv_has ls 15 [(0, .ref (ad 0)), (1, .int v1j39), (2, .int v2j39), (3, .int v3j39), (4, .int v4j39), (5, .int v5j39), (6, .int zz.1), (7, .int zz.2)] → W p l e rmX6_solves s m args below meth c H locs 0 0 Q0 (F0 m 42 ls [])) ?_ N _ hq ls (lv_sub hl [1, 2, 3, 4, 5, 6, 7, 0] rfl)
    intro sX T1 hE1 hN1 hC1 hX1
    obtain ⟨v6h42, v7h42⟩ := sX
    replace hE1 : T1 = bX6_solves_42 N σj39 v1j39 v2j39 v3j39 v4j39 v5j39 v6h42 v7h42 := hE1
    unfold bX6_solves_42 at hE1
    have J162_42 : ∀ (v7j162 : Int32) (v8j162 : Int64) (ls : Array Slot), lv_has ls 15 [(0, .ref (ad 0)), (1, .int v1j39), (2, .int v2j39), (3, .int v3j39), (4, .int v4j39), (5, .int v5j39), (7, .int v7j162), (8, .long v8j162)] → T1 = jX6_solves_162_42 N σj39 v1j39 v2j39 v3j39 v4j39 v5j39 v7j162 v8j162 → W p l e rmX6_solves s m args below meth c H locs 0 0 Q0 (F0 m 162 ls []) := by
      intro v7j162 v8j162 ls hl hE1
      unfold jX6_solves_162_42 at hE1
      refine lv_lload hx hb dX6_solves_162 (lv_at hl 7 rfl) ?_
      refine lv_lconst (v := 0) hx hb dX6_solves_164 rfl ?_
      refine W.lcmp hx hb dX6_solves_165 ?_
      refine lv_if_ne (tgt := 173) hx hb dX6_solves_166 (by decide) (fun c5 => ?_) (fun c5 => ?_)
      · have hE1 := ite_f hE1 c5
        refine lv_iconst (v := 0) hx hb dX6_solves_173 rfl ?_
        refine lv_istore hx hb dX6_solves_174 hl (Nat.le_of_ble_eq_true rfl) rfl (fun ls (hl : lv_has ls 15 [(6, .int (0 : Int32)), (0, .ref (ad 0)), (1, .int v1j39), (2, .int v2j39), (3, .int v3j39), (4, .int v4j39), (5, .int v5j39), (7, .int v7j162), (8, .long v8j162)]) => ?_)
        obtain ⟨x3, e_x3, hE1⟩ := k_lte hE1
        refine lv_iinc (k := 7) (v := x3) hx hb dX6_solves_176 hl rfl (Eq.symm e_x3) (Nat.le_of_ble_eq_true rfl) rfl (fun ls (hl : lv_has ls 15 [(7, .int x3), (6, .int (0 : Int32)), (0, .ref (ad 0)), (1, .int v1j39), (2, .int v2j39), (3, .int v3j39), (4, .int v4j39), (5, .int v5j39), (8, .long v8j162)]) => ?_)
        refine lv_goto (tgt := 42) hx hb dX6_solves_179 (by decide) ?_
        exact hC1 _ hE1 ls (lv_sub hl [2, 3, 4, 5, 6, 7, 1, 0] rfl)
      · have hE1 := ite_t hE1 c5
        refine lv_iconst (v := 1) hx hb dX6_solves_169 rfl ?_
        refine lv_goto (tgt := 174) hx hb dX6_solves_170 (by decide) ?_
        refine lv_istore hx hb dX6_solves_174 hl (Nat.le_of_ble_eq_true rfl) rfl (fun ls (hl : lv_has ls 15 [(6, .int (1 : Int32)), (0, .ref (ad 0)), (1, .int v1j39), (2, .int v2j39), (3, .int v3j39), (4, .int v4j39), (5, .int v5j39), (7, .int v7j162), (8, .long v8j162)]) => ?_)
        obtain ⟨x4, e_x4, hE1⟩ := k_lte hE1
        refine lv_iinc (k := 7) (v := x4) hx hb dX6_solves_176 hl rfl (Eq.symm e_x4) (Nat.le_of_ble_eq_true rfl) rfl (fun ls (hl : lv_has ls 15 [(7, .int x4), (6, .int (1 : Int32)), (0, .ref (ad 0)), (1, .int v1j39), (2, .int v2j39), (3, .int v3j39), (4, .int v4j39), (5, .int v5j39), (8, .long v8j162)]) => ?_)
        refine lv_goto (tgt := 42) hx hb dX6_solves_179 (by decide) ?_
        exact hC1 _ hE1 ls (lv_sub hl [2, 3, 4, 5, 6, 7, 1, 0] rfl)
    intro ls hl
    replace hl : lv_has ls 15 [(0, .ref (ad 0)), (1, .int v1j39), (2, .int v2j39), (3, .int v3j39), (4, .int v4j39), (5, .int v5j39), (6, .int v6h42), (7, .int v7h42)] := hl
    refine lv_iload hx hb dX6_solves_42 (lv_at hl 7 rfl) ?_
    refine lv_aload_n hx hb dX6_solves_44 rfl (lv_at hl 0 rfl) ?_
    obtain ⟨r2, k2, hE1⟩ := bd1_e hE1 hN1
    refine k_callP (va_runV (As := []) (rest := [.int v7h42]) hcf (mX6_kindCount l D cs ad N σj39 r2 k2) (kcX6_kindCount htk (kw_857 htk) ⟨Nat.le_of_ble_eq_true rfl, Nat.le_of_ble_eq_true rfl⟩) ⟨k_blind, va_recv (ci := 6) (q0 := 0) hK hw.1 rfl rfl, k_pre hK hZ hw⟩ rfl rfl hl.1 rfl (lv_room (Nat.le_of_ble_eq_true rfl)) dX6_solves_45 ⟨Nat.zero_le _, Nat.zero_le _⟩) ?_
    refine lv_icmp_ge (tgt := 182) hx hb dX6_solves_48 (by decide) (fun c25 => ?_) (fun c25 => ?_)
    · have hE1 := ite_t hE1 c25
      have hq := hX1 _ hE1
      subst hq
      exact J182 v6h42 σj39 H locs ls (lv_sub hl [6] rfl) hw hE0
    · have hE1 := ite_f hE1 c25
      refine lv_iload hx hb dX6_solves_51 (lv_at hl 6 rfl) ?_
      refine lv_if_eq (tgt := 182) hx hb dX6_solves_53 (by decide) (fun c24 => ?_) (fun c24 => ?_)
      · have hE1 := ite_t hE1 c24
        have hq := hX1 _ hE1
        subst hq
        exact J182 v6h42 σj39 H locs ls (lv_sub hl [6] rfl) hw hE0
      · have hE1 := ite_f hE1 c24
        refine lv_lconst (v := 0) hx hb dX6_solves_56 rfl ?_
        refine lv_lstore hx hb dX6_solves_57 hl (Nat.le_of_ble_eq_true rfl) rfl (fun ls (hl : lv_has ls 15 [(8, .long (0 : Int64)), (0, .ref (ad 0)), (1, .int v1j39), (2, .int v2j39), (3, .int v3j39), (4, .int v4j39), (5, .int v5j39), (6, .int v6h42), (7, .int v7h42)]) => ?_)
        refine lv_iconst (v := 0) hx hb dX6_solves_59 rfl ?_
        refine lv_istore hx hb dX6_solves_60 hl (Nat.le_of_ble_eq_true rfl) rfl (fun ls (hl : lv_has ls 15 [(10, .int (0 : Int32)), (8, .long (0 : Int64)), (0, .ref (ad 0)), (1, .int v1j39), (2, .int v2j39), (3, .int v3j39), (4, .int v4j39), (5, .int v5j39), (6, .int v6h42), (7, .int v7h42)]) => ?_)
        obtain ⟨q, hq, hE1⟩ := bd1_e hE1 hN1
        refine k_ind (P := fun zz => ∀ (ls : Array Slot), lv_has ls 15 [(0, .ref (ad 0)), (1, .int v1j39), (2, .int v2j39), (3, .int v3j39), (4, .int v4j39), (5, .int v5j39), (7, .int v7h42), (8, .long zz.1), (10, .int zz.2)] → W p l e rmX6_solves s m args below meth c H locs 0 0 Q0 (F0 m 62 ls [])) ?_ N _ hq ls (lv_sub hl [2, 3, 4, 5, 6, 7, 9, 1, 0] rfl)
        intro sX T2 hE2 hN2 hC2 hX2
        obtain ⟨v8h62, v10h62⟩ := sX
        replace hE2 : T2 = bX6_solves_62 N σj39 v1j39 v2j39 v3j39 v4j39 v5j39 v7h42 v8h62 v10h62 := hE2
        unfold bX6_solves_62 at hE2
        have J120_62 : ∀ (v8j120 : Int64) (v10j120 : Int32) (v11j120 : Int64) (ls : Array Slot), lv_has ls 15 [(0, .ref (ad 0)), (1, .int v1j39), (2, .int v2j39), (3, .int v3j39), (4, .int v4j39), (5, .int v5j39), (7, .int v7h42), (8, .long v8j120), (10, .int v10j120), (11, .long v11j120)] → T2 = jX6_solves_120_62 N σj39 v1j39 v2j39 v3j39 v4j39 v5j39 v7h42 v8j120 v10j120 v11j120 → W p l e rmX6_solves s m args below meth c H locs 0 0 Q0 (F0 m 120 ls []) := by
          intro v8j120 v10j120 v11j120 ls hl hE2
          unfold jX6_solves_120_62 at hE2
          refine lv_lload hx hb dX6_solves_120 (lv_at hl 9 rfl) ?_
          refine lv_aload_n hx hb dX6_solves_122 rfl (lv_at hl 0 rfl) ?_
          refine lv_iload hx hb dX6_solves_123 (lv_at hl 8 rfl) ?_
          refine lv_iload hx hb dX6_solves_125 (lv_at hl 6 rfl) ?_
          obtain ⟨r7, k7, hE2⟩ := bd1_e hE2 hN2
          refine k_callP (va_runV (As := [.int v10j120, .int v7h42]) (rest := [.long v11j120]) hcf (mX6_hasOf l D cs ad N σj39 v10j120 v7h42 r7 k7) (kcX6_hasOf htk (kw_872 htk) ⟨Nat.le_of_ble_eq_true rfl, Nat.le_of_ble_eq_true rfl⟩) ⟨k_blind, va_recv (ci := 6) (q0 := 0) hK hw.1 rfl rfl, k_pre hK hZ hw⟩ rfl rfl hl.1 rfl (lv_room (Nat.le_of_ble_eq_true rfl)) dX6_solves_127 ⟨Nat.zero_le _, Nat.zero_le _⟩) ?_
          refine lv_lmul hx hb dX6_solves_130 ?_
          refine lv_topl (fun x8 e_x8 => ?_)
          have hE2 := k_lts hE2 e_x8
          refine lv_lstore hx hb dX6_solves_131 hl (Nat.le_of_ble_eq_true rfl) rfl (fun ls (hl : lv_has ls 15 [(13, .long x8), (0, .ref (ad 0)), (1, .int v1j39), (2, .int v2j39), (3, .int v3j39), (4, .int v4j39), (5, .int v5j39), (7, .int v7h42), (8, .long v8j120), (10, .int v10j120), (11, .long v11j120)]) => ?_)
          refine lv_lload hx hb dX6_solves_133 (lv_at hl 8 rfl) ?_
          refine lv_aload_n hx hb dX6_solves_135 rfl (lv_at hl 1 rfl) ?_
          refine kg_X6_right hcf hK (kw_692 htk) dX6_solves_136 hw ?_
          refine lv_iload hx hb dX6_solves_139 (lv_at hl 9 rfl) ?_
          obtain ⟨g9, hE2⟩ := gd_e hE2 hN2
          refine mald_A4 hcf hK (x := (σj39.2.1 4 ((v10j120).toNatClampNeg))) dX6_solves_141 g9 hw rfl ?_
          refine lv_if_eq (tgt := 151) hx hb dX6_solves_142 (by decide) (fun c14 => ?_) (fun c14 => ?_)
          · have hE2 := ite_t hE2 c14
            refine lv_lload hx hb dX6_solves_151 (lv_at hl 0 rfl) ?_
            refine lv_ladd hx hb dX6_solves_153 ?_
            refine lv_topl (fun x10 e_x10 => ?_)
            have hE2 := k_lts hE2 e_x10
            refine lv_lstore hx hb dX6_solves_154 hl (Nat.le_of_ble_eq_true rfl) rfl (fun ls (hl : lv_has ls 15 [(8, .long x10), (13, .long x8), (0, .ref (ad 0)), (1, .int v1j39), (2, .int v2j39), (3, .int v3j39), (4, .int v4j39), (5, .int v5j39), (7, .int v7h42), (10, .int v10j120), (11, .long v11j120)]) => ?_)
            obtain ⟨x11, e_x11, hE2⟩ := k_lte hE2
            refine lv_iinc (k := 9) (v := x11) hx hb dX6_solves_156 hl rfl (Eq.symm e_x11) (Nat.le_of_ble_eq_true rfl) rfl (fun ls (hl : lv_has ls 15 [(10, .int x11), (8, .long x10), (13, .long x8), (0, .ref (ad 0)), (1, .int v1j39), (2, .int v2j39), (3, .int v3j39), (4, .int v4j39), (5, .int v5j39), (7, .int v7h42), (11, .long v11j120)]) => ?_)
            refine lv_goto (tgt := 62) hx hb dX6_solves_159 (by decide) ?_
            exact hC2 _ hE2 ls (lv_sub hl [3, 4, 5, 6, 7, 8, 9, 1, 0] rfl)
          · have hE2 := ite_f hE2 c14
            refine lv_lload hx hb dX6_solves_145 (lv_at hl 0 rfl) ?_
            refine lv_lneg hx hb dX6_solves_147 ?_
            refine lv_goto (tgt := 153) hx hb dX6_solves_148 (by decide) ?_
            refine lv_ladd hx hb dX6_solves_153 ?_
            refine lv_topl (fun x12 e_x12 => ?_)
            have hE2 := k_lts hE2 e_x12
            refine lv_lstore hx hb dX6_solves_154 hl (Nat.le_of_ble_eq_true rfl) rfl (fun ls (hl : lv_has ls 15 [(8, .long x12), (13, .long x8), (0, .ref (ad 0)), (1, .int v1j39), (2, .int v2j39), (3, .int v3j39), (4, .int v4j39), (5, .int v5j39), (7, .int v7h42), (10, .int v10j120), (11, .long v11j120)]) => ?_)
            obtain ⟨x13, e_x13, hE2⟩ := k_lte hE2
            refine lv_iinc (k := 9) (v := x13) hx hb dX6_solves_156 hl rfl (Eq.symm e_x13) (Nat.le_of_ble_eq_true rfl) rfl (fun ls (hl : lv_has ls 15 [(10, .int x13), (8, .long x12), (13, .long x8), (0, .ref (ad 0)), (1, .int v1j39), (2, .int v2j39), (3, .int v3j39), (4, .int v4j39), (5, .int v5j39), (7, .int v7h42), (11, .long v11j120)]) => ?_)
            refine lv_goto (tgt := 62) hx hb dX6_solves_159 (by decide) ?_
            exact hC2 _ hE2 ls (lv_sub hl [3, 4, 5, 6, 7, 8, 9, 1, 0] rfl)
        intro ls hl
        replace hl : lv_has ls 15 [(0, .ref (ad 0)), (1, .int v1j39), (2, .int v2j39), (3, .int v3j39), (4, .int v4j39), (5, .int v5j39), (7, .int v7h42), (8, .long v8h62), (10, .int v10h62)] := hl
        refine lv_iload hx hb dX6_solves_62 (lv_at hl 8 rfl) ?_
        refine lv_aload_n hx hb dX6_solves_64 rfl (lv_at hl 0 rfl) ?_
        refine kg_X6_count hcf hK (kw_689 htk) (x := (σj39.1 8)) dX6_solves_65 hw rfl ?_
        refine lv_icmp_ge (tgt := 162) hx hb dX6_solves_68 (by decide) (fun c23 => ?_) (fun c23 => ?_)
        · have hE2 := ite_t hE2 c23
          have hq := hX2 _ hE2
          subst hq
          exact J162_42 v7h42 v8h62 ls (lv_sub hl [0, 1, 2, 3, 4, 5, 6, 7] rfl) hE1
        · have hE2 := ite_f hE2 c23
          refine lv_iload hx hb dX6_solves_71 (lv_at hl 8 rfl) ?_
          refine lv_if_ne (tgt := 81) hx hb dX6_solves_73 (by decide) (fun c22 => ?_) (fun c22 => ?_)
          · have hE2 := ite_f hE2 c22
            refine lv_iload hx hb dX6_solves_81 (lv_at hl 8 rfl) ?_
            refine lv_iconst (v := 1) hx hb dX6_solves_83 rfl ?_
            refine lv_icmp_ne (tgt := 92) hx hb dX6_solves_84 (by decide) (fun c20 => ?_) (fun c20 => ?_)
            · have hE2 := ite_f hE2 c20
              refine lv_iload hx hb dX6_solves_92 (lv_at hl 8 rfl) ?_
              refine lv_iconst (v := 2) hx hb dX6_solves_94 rfl ?_
              refine lv_icmp_ne (tgt := 103) hx hb dX6_solves_95 (by decide) (fun c18 => ?_) (fun c18 => ?_)
              · have hE2 := ite_f hE2 c18
                refine lv_iload hx hb dX6_solves_103 (lv_at hl 8 rfl) ?_
                refine lv_iconst (v := 3) hx hb dX6_solves_105 rfl ?_
                refine lv_icmp_ne (tgt := 115) hx hb dX6_solves_106 (by decide) (fun c16 => ?_) (fun c16 => ?_)
                · have hE2 := ite_f hE2 c16
                  refine lv_iload hx hb dX6_solves_115 (lv_at hl 5 rfl) ?_
                  refine lv_i2l hx hb dX6_solves_117 rfl ?_
                  refine lv_topl (fun x6 e_x6 => ?_)
                  have hE2 := k_lts hE2 e_x6
                  refine lv_lstore hx hb dX6_solves_118 hl (Nat.le_of_ble_eq_true rfl) rfl (fun ls (hl : lv_has ls 15 [(11, .long x6), (0, .ref (ad 0)), (1, .int v1j39), (2, .int v2j39), (3, .int v3j39), (4, .int v4j39), (5, .int v5j39), (7, .int v7h42), (8, .long v8h62), (10, .int v10h62)]) => ?_)
                  exact J120_62 v8h62 v10h62 x6 ls (lv_sub hl [1, 2, 3, 4, 5, 6, 7, 8, 9, 0] rfl) hE2
                · have hE2 := ite_t hE2 c16
                  refine lv_iload hx hb dX6_solves_109 (lv_at hl 4 rfl) ?_
                  refine lv_i2l hx hb dX6_solves_111 rfl ?_
                  refine lv_goto (tgt := 118) hx hb dX6_solves_112 (by decide) ?_
                  refine lv_topl (fun x15 e_x15 => ?_)
                  have hE2 := k_lts hE2 e_x15
                  refine lv_lstore hx hb dX6_solves_118 hl (Nat.le_of_ble_eq_true rfl) rfl (fun ls (hl : lv_has ls 15 [(11, .long x15), (0, .ref (ad 0)), (1, .int v1j39), (2, .int v2j39), (3, .int v3j39), (4, .int v4j39), (5, .int v5j39), (7, .int v7h42), (8, .long v8h62), (10, .int v10h62)]) => ?_)
                  exact J120_62 v8h62 v10h62 x15 ls (lv_sub hl [1, 2, 3, 4, 5, 6, 7, 8, 9, 0] rfl) hE2
              · have hE2 := ite_t hE2 c18
                refine lv_iload_n hx hb dX6_solves_98 rfl (lv_at hl 3 rfl) ?_
                refine lv_i2l hx hb dX6_solves_99 rfl ?_
                refine lv_goto (tgt := 118) hx hb dX6_solves_100 (by decide) ?_
                refine lv_topl (fun x17 e_x17 => ?_)
                have hE2 := k_lts hE2 e_x17
                refine lv_lstore hx hb dX6_solves_118 hl (Nat.le_of_ble_eq_true rfl) rfl (fun ls (hl : lv_has ls 15 [(11, .long x17), (0, .ref (ad 0)), (1, .int v1j39), (2, .int v2j39), (3, .int v3j39), (4, .int v4j39), (5, .int v5j39), (7, .int v7h42), (8, .long v8h62), (10, .int v10h62)]) => ?_)
                exact J120_62 v8h62 v10h62 x17 ls (lv_sub hl [1, 2, 3, 4, 5, 6, 7, 8, 9, 0] rfl) hE2
            · have hE2 := ite_t hE2 c20
              refine lv_iload_n hx hb dX6_solves_87 rfl (lv_at hl 2 rfl) ?_
              refine lv_i2l hx hb dX6_solves_88 rfl ?_
              refine lv_goto (tgt := 118) hx hb dX6_solves_89 (by decide) ?_
              refine lv_topl (fun x19 e_x19 => ?_)
              have hE2 := k_lts hE2 e_x19
              refine lv_lstore hx hb dX6_solves_118 hl (Nat.le_of_ble_eq_true rfl) rfl (fun ls (hl : lv_has ls 15 [(11, .long x19), (0, .ref (ad 0)), (1, .int v1j39), (2, .int v2j39), (3, .int v3j39), (4, .int v4j39), (5, .int v5j39), (7, .int v7h42), (8, .long v8h62), (10, .int v10h62)]) => ?_)
              exact J120_62 v8h62 v10h62 x19 ls (lv_sub hl [1, 2, 3, 4, 5, 6, 7, 8, 9, 0] rfl) hE2
          · have hE2 := ite_t hE2 c22
            refine lv_iload_n hx hb dX6_solves_76 rfl (lv_at hl 1 rfl) ?_
            refine lv_i2l hx hb dX6_solves_77 rfl ?_
            refine lv_goto (tgt := 118) hx hb dX6_solves_78 (by decide) ?_
            refine lv_topl (fun x21 e_x21 => ?_)
            have hE2 := k_lts hE2 e_x21
            refine lv_lstore hx hb dX6_solves_118 hl (Nat.le_of_ble_eq_true rfl) rfl (fun ls (hl : lv_has ls 15 [(11, .long x21), (0, .ref (ad 0)), (1, .int v1j39), (2, .int v2j39), (3, .int v3j39), (4, .int v4j39), (5, .int v5j39), (7, .int v7h42), (8, .long v8h62), (10, .int v10h62)]) => ?_)
            exact J120_62 v8h62 v10h62 x21 ls (lv_sub hl [1, 2, 3, 4, 5, 6, 7, 8, 9, 0] rfl) hE2
  have J25 : ∀ (v1j25 : Int32) (v2j25 : Int32) (v3j25 : Int32) (v4j25 : Int32) (v5j25 : Int32) (σj25 : vS) (H : Heap) (locs : List Loc) (ls : Array Slot), lv_has ls 15 [(0, .ref (ad 0)), (1, .int v1j25), (2, .int v2j25), (3, .int v3j25), (4, .int v4j25), (5, .int v5j25)] → k_H D (wM cs ad) (k_A 17 ad) σj25 s.heap H locs → T0 = jX6_solves_25 N σj25 v1j25 v2j25 v3j25 v4j25 v5j25 → W p l e rmX6_solves s m args below meth c H locs 0 0 Q0 (F0 m 25 ls []) := by
    intro v1j25 v2j25 v3j25 v4j25 v5j25 σj25 H locs ls hl hw hE0
    unfold jX6_solves_25 at hE0
    refine lv_aload_n hx hb dX6_solves_25 rfl (lv_at hl 0 rfl) ?_
    refine kg_X6_thrown hcf hK (kw_679 htk) (x := (σj25.1 0)) dX6_solves_26 hw rfl ?_
    refine lv_if_ne (tgt := 36) hx hb dX6_solves_29 (by decide) (fun c26 => ?_) (fun c26 => ?_)
    · have hE0 := ite_f hE0 c26
      refine lv_iconst (v := 0) hx hb dX6_solves_36 rfl ?_
      refine lv_istore hx hb dX6_solves_37 hl (Nat.le_of_ble_eq_true rfl) rfl (fun ls (hl : lv_has ls 15 [(6, .int (0 : Int32)), (0, .ref (ad 0)), (1, .int v1j25), (2, .int v2j25), (3, .int v3j25), (4, .int v4j25), (5, .int v5j25)]) => ?_)
      exact J39 v1j25 v2j25 v3j25 v4j25 v5j25 (0 : Int32) σj25 H locs ls (lv_sub hl [1, 2, 3, 4, 5, 6, 0] rfl) hw hE0
    · have hE0 := ite_t hE0 c26
      refine lv_iconst (v := 1) hx hb dX6_solves_32 rfl ?_
      refine lv_goto (tgt := 37) hx hb dX6_solves_33 (by decide) ?_
      refine lv_istore hx hb dX6_solves_37 hl (Nat.le_of_ble_eq_true rfl) rfl (fun ls (hl : lv_has ls 15 [(6, .int (1 : Int32)), (0, .ref (ad 0)), (1, .int v1j25), (2, .int v2j25), (3, .int v3j25), (4, .int v4j25), (5, .int v5j25)]) => ?_)
      exact J39 v1j25 v2j25 v3j25 v4j25 v5j25 (1 : Int32) σj25 H locs ls (lv_sub hl [1, 2, 3, 4, 5, 6, 0] rfl) hw hE0
  refine lv_aload_n hx hb dX6_solves_0 rfl (lv_at hl 0 rfl) ?_
  refine lv_aload_n hx hb dX6_solves_1 rfl (lv_at hl 0 rfl) ?_
  refine kg_X6_there hcf hK (kw_688 htk) (x := (σ.1 7)) dX6_solves_2 hw rfl ?_
  refine lv_if_eq (tgt := 17) hx hb dX6_solves_5 (by decide) (fun c28 => ?_) (fun c28 => ?_)
  · have hE0 := ite_t hE0 c28
    refine lv_iconst (v := 1) hx hb dX6_solves_17 rfl ?_
    refine lv_goto (tgt := 22) hx hb dX6_solves_18 (by decide) ?_
    refine kp_X6_thrown hcf hK (kw_679 htk) dX6_solves_22 hw (fun H locs hw => ?_)
    exact J25 p1 p2 p3 p4 p5 (p_i σ 0 (1 : Int32)) H locs ls (lv_sub hl [0, 1, 2, 3, 4, 5] rfl) hw hE0
  · have hE0 := ite_f hE0 c28
    refine lv_aload_n hx hb dX6_solves_8 rfl (lv_at hl 0 rfl) ?_
    refine kg_X6_count hcf hK (kw_689 htk) (x := (σ.1 8)) dX6_solves_9 hw rfl ?_
    refine lv_bipush (v := 6) hx hb dX6_solves_12 rfl ?_
    refine lv_icmp_ne (tgt := 21) hx hb dX6_solves_14 (by decide) (fun c27 => ?_) (fun c27 => ?_)
    · have hE0 := ite_f hE0 c27
      refine lv_iconst (v := 0) hx hb dX6_solves_21 rfl ?_
      refine kp_X6_thrown hcf hK (kw_679 htk) dX6_solves_22 hw (fun H locs hw => ?_)
      exact J25 p1 p2 p3 p4 p5 (p_i σ 0 (0 : Int32)) H locs ls (lv_sub hl [0, 1, 2, 3, 4, 5] rfl) hw hE0
    · have hE0 := ite_t hE0 c27
      refine lv_iconst (v := 1) hx hb dX6_solves_17 rfl ?_
      refine lv_goto (tgt := 22) hx hb dX6_solves_18 (by decide) ?_
      refine kp_X6_thrown hcf hK (kw_679 htk) dX6_solves_22 hw (fun H locs hw => ?_)
      exact J25 p1 p2 p3 p4 p5 (p_i σ 0 (1 : Int32)) H locs ls (lv_sub hl [0, 1, 2, 3, 4, 5] rfl) hw hE0
