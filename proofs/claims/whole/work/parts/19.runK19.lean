def jX0_judge_50 (N : Nat) (σ : vS) : Option (Int32) :=
  some (0 : Int32)
def bX0_judge_21 (N : Nat) (σ : vS) (v1h21 : Int32) : Option ((Int32) ⊕ ((Unit) ⊕ (Int32))) :=
  if ((σ.1 14) ≤ v1h21) then (
    some (.inr (.inl ()))
  ) else (
    if (v1h21 < 0 ∨ 6 ≤ (v1h21).toNatClampNeg) then none else
    if (0 < (lg_cmp (σ.2.2.2 5 ((v1h21).toNatClampNeg)) (0 : Int64))) then (
      k_lt (v1h21 + (1 : Int32)) fun x2 =>
      some (.inl x2)
    ) else (
      some (.inr (.inr (2 : Int32)))
    )
  )
def fX0_judge (N : Nat) (σ : vS) : Option (Int32) :=
  if ((σ.1 10) = 0) then (
    some (1 : Int32)
  ) else (
    if ((σ.1 10) ≤ (1 : Int32)) then (
      bds (k_itr (fun zz => bX0_judge_21 N σ zz) N (0 : Int32)) fun _ => jX0_judge_50 N σ
    ) else (
      some (3 : Int32)
    )
  )
abbrev rmX0_judge : Room := { frames := 0, cells := 0, slots := 0, locals := 0 }
abbrev wsX0_judge : List Cond := .code yX0_judge cX0_judge 2 (some .int) :: kws
theorem kcX0_judge {R : Room} {s : State} {args : Array Value} {own : String} {index : Nat} (htk : ∀ w ∈ kws, w.before args s = true) (hl : (Cond.methodLink own index yX0_judge).before args s = true) (hR : rmX0_judge.frames + 1 ≤ R.frames ∧ 8 + (2 + 11) + rmX0_judge.locals ≤ R.locals) : CallW R s args own RX0 index yX0_judge cX0_judge 2 (some .int) wsX0_judge rmX0_judge 0 0 0 :=
  ⟨callB_of 0 htk (k_good kc_415) rfl rfl rfl (kw_56 htk) hl (by decide +kernel) hR, (kw_414 htk), (kw_19 htk)⟩
set_option maxRecDepth 100000 in
set_option maxHeartbeats 4000000 in
theorem mX0_judge (l : Launch) (D : va_G) (cs : Nat → ClassId) (ad : Nat → Nat) (N : Nat) (σ : vS) (r : Int32) (hf : fX0_judge N σ = some r) : k_MP l yX0_judge wsX0_judge rmX0_judge D (tK cs) (wK cs ad) [.ref (ad 2)] σ (.int r) := by
  refine k_ofP (cc := cX0_judge) (maxL := 2) (ret := (some .int)) (by decide) rfl (Nat.le_of_ble_eq_true rfl) ?_
  intro p e s m args below meth c ls hcf hr hlk hK hZ hl hw
  generalize hQ0 : MQ below _ args s 0 0 _ = Q0
  obtain ⟨T0, hE0⟩ : ∃ T, T = fX0_judge N σ := ⟨_, rfl⟩
  have hR := hE0.trans hf
  have hN0 : T0 ≠ none := by rw [hR]; exact fun h => nomatch h
  have hx := hcf.1
  have hb := hcf.2.1
  have htk := hcf.2.2.2.2
  have hown := hcf.2.2.2.1
  unfold fX0_judge at hE0
  replace hl : lv_has ls 2 [(0, .ref (ad 2))] := hl
  have J50 : ∀ (ls : Array Slot), lv_has ls 2 [] → T0 = jX0_judge_50 N σ → W p l e rmX0_judge s m args below meth c s.heap [] 0 0 Q0 (F0 m 50 ls []) := by
    intro ls hl hE0
    unfold jX0_judge_50 at hE0
    refine lv_iconst (v := 0) hx hb dX0_judge_50 rfl ?_
    exact kretP_i hcf hr hlk hK hw (rt1 hR hE0) hQ0 dX0_judge_51
  refine lv_aload_n hx hb dX0_judge_0 rfl (lv_at hl 0 rfl) ?_
  refine kg_X0_freeCount hcf hK (kw_194 htk) (x := (σ.1 10)) dX0_judge_1 hw rfl ?_
  refine lv_if_ne (tgt := 9) hx hb dX0_judge_4 (by decide) (fun c6 => ?_) (fun c6 => ?_)
  · have hE0 := ite_f hE0 c6
    refine lv_aload_n hx hb dX0_judge_9 rfl (lv_at hl 0 rfl) ?_
    refine kg_X0_freeCount hcf hK (kw_194 htk) (x := (σ.1 10)) dX0_judge_10 hw rfl ?_
    refine lv_iconst (v := 1) hx hb dX0_judge_13 rfl ?_
    refine lv_icmp_le (tgt := 19) hx hb dX0_judge_14 (by decide) (fun c5 => ?_) (fun c5 => ?_)
    · have hE0 := ite_t hE0 c5
      refine lv_iconst (v := 0) hx hb dX0_judge_19 rfl ?_
      refine lv_istore_n hx hb dX0_judge_20 rfl hl (Nat.le_of_ble_eq_true rfl) rfl (fun ls (hl : lv_has ls 2 [(1, .int (0 : Int32)), (0, .ref (ad 2))]) => ?_)
      obtain ⟨q, hq, hE0, hT0⟩ := bds_e hE0 hN0
      refine k_ind (P := fun zz => ∀ (ls : Array Slot), lv_has ls 2 [(0, .ref (ad 2)), (1, .int zz)] → W p l e rmX0_judge s m args below meth c s.heap [] 0 0 Q0 (F0 m 21 ls [])) ?_ N _ hq ls (lv_sub hl [1, 0] rfl)
      intro sX T1 hE1 hN1 hC1 hX1
      obtain ⟨v1h21, hsg⟩ : ∃ z, z = sX := ⟨_, rfl⟩
      subst hsg
      replace hE1 : T1 = bX0_judge_21 N σ v1h21 := hE1
      unfold bX0_judge_21 at hE1
      intro ls hl
      replace hl : lv_has ls 2 [(0, .ref (ad 2)), (1, .int v1h21)] := hl
      refine lv_iload_n hx hb dX0_judge_21 rfl (lv_at hl 1 rfl) ?_
      refine lv_aload_n hx hb dX0_judge_22 rfl (lv_at hl 0 rfl) ?_
      refine kg_X0_width hcf hK (kw_202 htk) (x := (σ.1 14)) dX0_judge_23 hw rfl ?_
      refine lv_icmp_ge (tgt := 50) hx hb dX0_judge_26 (by decide) (fun c4 => ?_) (fun c4 => ?_)
      · have hE1 := ite_t hE1 c4
        have hq := hX1 _ hE1
        subst hq
        exact J50 ls (lv_sub hl [] rfl) (hE0 _ rfl)
      · have hE1 := ite_f hE1 c4
        refine lv_aload_n hx hb dX0_judge_29 rfl (lv_at hl 0 rfl) ?_
        refine kg_X0_bases hcf hK (kw_192 htk) dX0_judge_30 hw ?_
        refine lv_iconst (v := 0) hx hb dX0_judge_33 rfl ?_
        refine kaald_bases hcf hK (k := 30) dX0_judge_34 (by decide) (by decide) hw ?_
        refine lv_iload_n hx hb dX0_judge_35 rfl (lv_at hl 1 rfl) ?_
        obtain ⟨g1, hE1⟩ := gd_e hE1 hN1
        refine kald_B5 hcf hK (x := (σ.2.2.2 5 ((v1h21).toNatClampNeg))) dX0_judge_36 g1 hw rfl ?_
        refine lv_lconst (v := 0) hx hb dX0_judge_37 rfl ?_
        refine W.lcmp hx hb dX0_judge_38 ?_
        refine lv_if_gt (tgt := 44) hx hb dX0_judge_39 (by decide) (fun c3 => ?_) (fun c3 => ?_)
        · have hE1 := ite_t hE1 c3
          obtain ⟨x2, e_x2, hE1⟩ := k_lte hE1
          refine lv_iinc (k := 1) (v := x2) hx hb dX0_judge_44 hl rfl (Eq.symm e_x2) (Nat.le_of_ble_eq_true rfl) rfl (fun ls (hl : lv_has ls 2 [(1, .int x2), (0, .ref (ad 2))]) => ?_)
          refine lv_goto (tgt := 21) hx hb dX0_judge_47 (by decide) ?_
          exact hC1 _ hE1 ls (lv_sub hl [1, 0] rfl)
        · have hE1 := ite_f hE1 c3
          refine lv_iconst (v := 2) hx hb dX0_judge_42 rfl ?_
          have hq := hX1 _ hE1
          subst hq
          exact kretP_i hcf hr hlk hK hw (rt1 hR (hT0 _ rfl)) hQ0 dX0_judge_43
    · have hE0 := ite_f hE0 c5
      refine lv_iconst (v := 3) hx hb dX0_judge_17 rfl ?_
      exact kretP_i hcf hr hlk hK hw (rt1 hR hE0) hQ0 dX0_judge_18
  · have hE0 := ite_t hE0 c6
    refine lv_iconst (v := 1) hx hb dX0_judge_7 rfl ?_
    exact kretP_i hcf hr hlk hK hw (rt1 hR hE0) hQ0 dX0_judge_8
def jX0_solve_63 (N : Nat) (σj63 : vS) : Option (vS) :=
  bd1 (fX0_judge N σj63) fun r3 =>
  some (p_i σj63 11 r3)
def bX0_solve_16 (N : Nat) (v2h16 : Int32) (σh16 : vS) : Option ((Int32 × vS) ⊕ (vS)) :=
  if ((σh16.1 14) ≤ v2h16) then (
    some (.inr σh16)
  ) else (
    if (v2h16 < 0 ∨ 6 ≤ (v2h16).toNatClampNeg) then none else
    if ((σh16.2.1 6 ((v2h16).toNatClampNeg)) = 0) then (
      k_lt (v2h16 + (1 : Int32)) fun x5 =>
      some (.inl (x5, σh16))
    ) else (
      if ((σh16.1 10) < 0 ∨ 6 ≤ ((σh16.1 10)).toNatClampNeg) then none else
      bd1 (fX0_makeBase N σh16 (5 + ((σh16.1 10)).toNatClampNeg) v2h16) fun σ7 =>
      k_lt (v2h16 + (1 : Int32)) fun x8 =>
      some (.inl (x8, (p_i σ7 10 ((σ7.1 10) + (1 : Int32)))))
    )
  )
def fX0_solve (N : Nat) (σ : vS) : Option (vS) :=
  bd1 (fX0_takeRows N σ) fun σ1 =>
  bd1 (fX0_reduce N σ1) fun σ2 =>
  bd1 (k_itr (fun zz => bX0_solve_16 N zz.1 zz.2) N ((0 : Int32), (p_i σ2 10 (0 : Int32)))) fun q => jX0_solve_63 N q
abbrev rmX0_solve : Room := { frames := 3, cells := 0, slots := 0, locals := 97 }
abbrev wsX0_solve : List Cond := .code yX0_solve cX0_solve 3 none :: kws
theorem kcX0_solve {R : Room} {s : State} {args : Array Value} {own : String} {index : Nat} (htk : ∀ w ∈ kws, w.before args s = true) (hl : (Cond.methodLink own index yX0_solve).before args s = true) (hR : rmX0_solve.frames + 1 ≤ R.frames ∧ 8 + (3 + 11) + rmX0_solve.locals ≤ R.locals) : CallW R s args own RX0 index yX0_solve cX0_solve 3 none wsX0_solve rmX0_solve 0 0 1 :=
  ⟨callB_of 1 htk (k_good kc_360) rfl rfl rfl (kw_56 htk) hl (by decide +kernel) hR, (kw_358 htk), (kw_359 htk)⟩
set_option maxRecDepth 100000 in
set_option maxHeartbeats 4000000 in
theorem mX0_solve (l : Launch) (D : va_G) (cs : Nat → ClassId) (ad : Nat → Nat) (N : Nat) (σ : vS) (σ' : vS) (hf : fX0_solve N σ = some σ') : k_Met l yX0_solve wsX0_solve rmX0_solve D (tK cs) (wK cs ad) (k_A 41 ad) [.ref (ad 2), .ref (ad 5)] σ none σ' := by
  refine k_of (cc := cX0_solve) (maxL := 3) (ret := none) (by decide) rfl (Nat.le_of_ble_eq_true rfl) ?_
  intro p e s m args below meth c ls H locs hcf hr hlk hK hZ hl hw
  generalize hQ0 : MQ below _ args s 0 0 _ = Q0
  obtain ⟨T0, hE0⟩ : ∃ T, T = fX0_solve N σ := ⟨_, rfl⟩
  have hR := hE0.trans hf
  have hN0 : T0 ≠ none := by rw [hR]; exact fun h => nomatch h
  have hx := hcf.1
  have hb := hcf.2.1
  have htk := hcf.2.2.2.2
  have hown := hcf.2.2.2.1
  unfold fX0_solve at hE0
  replace hl : lv_has ls 3 [(0, .ref (ad 2)), (1, .ref (ad 5))] := hl
  have J63 : ∀ (σj63 : vS) (H : Heap) (locs : List Loc) (ls : Array Slot), lv_has ls 3 [(0, .ref (ad 2))] → k_H D (wK cs ad) (k_A 41 ad) σj63 s.heap H locs → T0 = jX0_solve_63 N σj63 → W p l e rmX0_solve s m args below meth c H locs 0 0 Q0 (F0 m 63 ls []) := by
    intro σj63 H locs ls hl hw hE0
    unfold jX0_solve_63 at hE0
    refine lv_aload_n hx hb dX0_solve_63 rfl (lv_at hl 0 rfl) ?_
    refine lv_aload_n hx hb dX0_solve_64 rfl (lv_at hl 0 rfl) ?_
    obtain ⟨r3, k3, hE0⟩ := bd1_e hE0 hN0
    refine k_callP (va_runV (As := []) (rest := [.ref (ad 2)]) hcf (mX0_judge l D cs ad N σj63 r3 k3) (kcX0_judge htk (kw_412 htk) ⟨Nat.le_of_ble_eq_true rfl, Nat.le_of_ble_eq_true rfl⟩) ⟨k_blind, va_recv (ci := 0) (q0 := 2) hK hw.1 rfl rfl, k_pre hK hZ hw⟩ rfl rfl hl.1 rfl (lv_room (Nat.le_of_ble_eq_true rfl)) dX0_solve_65 ⟨Nat.zero_le _, Nat.zero_le _⟩) ?_
    refine kp_X0_verdict hcf hK (kw_196 htk) dX0_solve_68 hw (fun H locs hw => ?_)
    exact kret_v hcf hr hlk hK hw (rt1 hR hE0) hQ0 dX0_solve_71
  refine lv_aload_n hx hb dX0_solve_0 rfl (lv_at hl 0 rfl) ?_
  refine lv_aload_n hx hb dX0_solve_1 rfl (lv_at hl 1 rfl) ?_
  obtain ⟨σ1, k1, hE0⟩ := bd1_e hE0 hN0
  refine k_call (va_runV (As := [.ref (ad 5)]) (rest := []) hcf (mX0_takeRows l D cs ad N σ σ1 k1) (kcX0_takeRows htk (kw_361 htk) ⟨Nat.le_of_ble_eq_true rfl, Nat.le_of_ble_eq_true rfl⟩) ⟨k_blind, va_recv (ci := 0) (q0 := 2) hK hw.1 rfl rfl, k_pre hK hZ hw⟩ rfl rfl hl.1 rfl (lv_room (Nat.le_of_ble_eq_true rfl)) dX0_solve_2 ⟨Nat.zero_le _, Nat.zero_le _⟩) hw (fun H locs hw => ?_)
  refine lv_aload_n hx hb dX0_solve_5 rfl (lv_at hl 0 rfl) ?_
  obtain ⟨σ2, k2, hE0⟩ := bd1_e hE0 hN0
  refine k_call (va_runV (As := []) (rest := []) hcf (mX0_reduce l D cs ad N σ1 σ2 k2) (kcX0_reduce htk (kw_382 htk) ⟨Nat.le_of_ble_eq_true rfl, Nat.le_of_ble_eq_true rfl⟩) ⟨k_blind, va_recv (ci := 0) (q0 := 2) hK hw.1 rfl rfl, k_pre hK hZ hw⟩ rfl rfl hl.1 rfl (lv_room (Nat.le_of_ble_eq_true rfl)) dX0_solve_6 ⟨Nat.zero_le _, Nat.zero_le _⟩) hw (fun H locs hw => ?_)
  refine lv_aload_n hx hb dX0_solve_9 rfl (lv_at hl 0 rfl) ?_
  refine lv_iconst (v := 0) hx hb dX0_solve_10 rfl ?_
  refine kp_X0_freeCount hcf hK (kw_194 htk) dX0_solve_11 hw (fun H locs hw => ?_)
  refine lv_iconst (v := 0) hx hb dX0_solve_14 rfl ?_
  refine lv_istore_n hx hb dX0_solve_15 rfl hl (Nat.le_of_ble_eq_true rfl) rfl (fun ls (hl : lv_has ls 3 [(2, .int (0 : Int32)), (0, .ref (ad 2)), (1, .ref (ad 5))]) => ?_)
  obtain ⟨q, hq, hE0⟩ := bd1_e hE0 hN0
  refine k_ind (P := fun zz => ∀ (H : Heap) (locs : List Loc) (ls : Array Slot), lv_has ls 3 [(0, .ref (ad 2)), (2, .int zz.1)] → k_H D (wK cs ad) (k_A 41 ad) zz.2 s.heap H locs → W p l e rmX0_solve s m args below meth c H locs 0 0 Q0 (F0 m 16 ls [])) ?_ N _ hq H locs ls (lv_sub hl [1, 0] rfl) hw
  intro sX T1 hE1 hN1 hC1 hX1
  obtain ⟨v2h16, σh16⟩ := sX
  replace hE1 : T1 = bX0_solve_16 N v2h16 σh16 := hE1
  unfold bX0_solve_16 at hE1
  intro H locs ls hl hw
  replace hl : lv_has ls 3 [(0, .ref (ad 2)), (2, .int v2h16)] := hl
  replace hw : k_H D (wK cs ad) (k_A 41 ad) σh16 s.heap H locs := hw
  refine lv_iload_n hx hb dX0_solve_16 rfl (lv_at hl 1 rfl) ?_
  refine lv_aload_n hx hb dX0_solve_17 rfl (lv_at hl 0 rfl) ?_
  refine kg_X0_width hcf hK (kw_202 htk) (x := (σh16.1 14)) dX0_solve_18 hw rfl ?_
  refine lv_icmp_ge (tgt := 63) hx hb dX0_solve_21 (by decide) (fun c10 => ?_) (fun c10 => ?_)
  · have hE1 := ite_t hE1 c10
    have hq := hX1 _ hE1
    subst hq
    exact J63 σh16 H locs ls (lv_sub hl [0] rfl) hw hE0
  · have hE1 := ite_f hE1 c10
    refine lv_aload_n hx hb dX0_solve_24 rfl (lv_at hl 0 rfl) ?_
    refine kg_X0_dependent hcf hK (kw_190 htk) dX0_solve_25 hw ?_
    refine lv_iload_n hx hb dX0_solve_28 rfl (lv_at hl 1 rfl) ?_
    obtain ⟨g4, hE1⟩ := gd_e hE1 hN1
    refine kald_A6 hcf hK (x := (σh16.2.1 6 ((v2h16).toNatClampNeg))) dX0_solve_29 g4 hw rfl ?_
    refine lv_if_eq (tgt := 57) hx hb dX0_solve_30 (by decide) (fun c9 => ?_) (fun c9 => ?_)
    · have hE1 := ite_t hE1 c9
      obtain ⟨x5, e_x5, hE1⟩ := k_lte hE1
      refine lv_iinc (k := 1) (v := x5) hx hb dX0_solve_57 hl rfl (Eq.symm e_x5) (Nat.le_of_ble_eq_true rfl) rfl (fun ls (hl : lv_has ls 3 [(2, .int x5), (0, .ref (ad 2))]) => ?_)
      refine lv_goto (tgt := 16) hx hb dX0_solve_60 (by decide) ?_
      exact hC1 _ hE1 H locs ls (lv_sub hl [1, 0] rfl) hw
    · have hE1 := ite_f hE1 c9
      refine lv_aload_n hx hb dX0_solve_33 rfl (lv_at hl 0 rfl) ?_
      refine lv_aload_n hx hb dX0_solve_34 rfl (lv_at hl 0 rfl) ?_
      refine kg_X0_bases hcf hK (kw_192 htk) dX0_solve_35 hw ?_
      refine lv_aload_n hx hb dX0_solve_38 rfl (lv_at hl 0 rfl) ?_
      refine kg_X0_freeCount hcf hK (kw_194 htk) (x := (σh16.1 10)) dX0_solve_39 hw rfl ?_
      obtain ⟨g6, hE1⟩ := gd_e hE1 hN1
      refine kaald_bases hcf hK dX0_solve_42 rfl g6 hw ?_
      refine lv_iload_n hx hb dX0_solve_43 rfl (lv_at hl 1 rfl) ?_
      obtain ⟨σ7, k7, hE1⟩ := bd1_e hE1 hN1
      refine k_call (va_runV (As := [.ref (ad (25 + (5 + ((σh16.1 10)).toNatClampNeg))), .int v2h16]) (rest := []) hcf (mX0_makeBase l D cs ad N σh16 (5 + ((σh16.1 10)).toNatClampNeg) v2h16 σ7 k7 (rng_bases g6)) (kcX0_makeBase htk (kw_401 htk) ⟨Nat.le_of_ble_eq_true rfl, Nat.le_of_ble_eq_true rfl⟩) ⟨k_blind, va_recv (ci := 0) (q0 := 2) hK hw.1 rfl rfl, k_pre hK hZ hw⟩ rfl rfl hl.1 rfl (lv_room (Nat.le_of_ble_eq_true rfl)) dX0_solve_44 ⟨Nat.zero_le _, Nat.zero_le _⟩) hw (fun H locs hw => ?_)
      refine lv_aload_n hx hb dX0_solve_47 rfl (lv_at hl 0 rfl) ?_
      refine lv_dup hx hb dX0_solve_48 rfl ?_
      refine kg_X0_freeCount hcf hK (kw_194 htk) (x := (σ7.1 10)) dX0_solve_49 hw rfl ?_
      refine lv_iconst (v := 1) hx hb dX0_solve_52 rfl ?_
      refine lv_iadd hx hb dX0_solve_53 ?_
      refine kp_X0_freeCount hcf hK (kw_194 htk) dX0_solve_54 hw (fun H locs hw => ?_)
      obtain ⟨x8, e_x8, hE1⟩ := k_lte hE1
      refine lv_iinc (k := 1) (v := x8) hx hb dX0_solve_57 hl rfl (Eq.symm e_x8) (Nat.le_of_ble_eq_true rfl) rfl (fun ls (hl : lv_has ls 3 [(2, .int x8), (0, .ref (ad 2))]) => ?_)
      refine lv_goto (tgt := 16) hx hb dX0_solve_60 (by decide) ?_
      exact hC1 _ hE1 H locs ls (lv_sub hl [1, 0] rfl) hw
def fX0_forget (N : Nat) (σ : vS) : Option (vS) :=
  some (p_i (p_i σ 10 (0 : Int32)) 11 (-1 : Int32))
abbrev rmX0_forget : Room := { frames := 0, cells := 0, slots := 0, locals := 0 }
abbrev wsX0_forget : List Cond := .code yX0_forget cX0_forget 1 none :: kws
theorem kcX0_forget {R : Room} {s : State} {args : Array Value} {own : String} {index : Nat} (htk : ∀ w ∈ kws, w.before args s = true) (hl : (Cond.methodLink own index yX0_forget).before args s = true) (hR : rmX0_forget.frames + 1 ≤ R.frames ∧ 8 + (1 + 11) + rmX0_forget.locals ≤ R.locals) : CallW R s args own RX0 index yX0_forget cX0_forget 1 none wsX0_forget rmX0_forget 0 0 0 :=
  ⟨callB_of 0 htk (k_good kc_420) rfl rfl rfl (kw_56 htk) hl (by decide +kernel) hR, (kw_418 htk), (kw_419 htk)⟩
set_option maxRecDepth 100000 in
set_option maxHeartbeats 4000000 in
theorem mX0_forget (l : Launch) (D : va_G) (cs : Nat → ClassId) (ad : Nat → Nat) (N : Nat) (σ : vS) (σ' : vS) (hf : fX0_forget N σ = some σ') : k_Met l yX0_forget wsX0_forget rmX0_forget D (tK cs) (wK cs ad) (k_A 41 ad) [.ref (ad 2)] σ none σ' := by
  refine k_of (cc := cX0_forget) (maxL := 1) (ret := none) (by decide) rfl (Nat.le_of_ble_eq_true rfl) ?_
  intro p e s m args below meth c ls H locs hcf hr hlk hK hZ hl hw
  generalize hQ0 : MQ below _ args s 0 0 _ = Q0
  obtain ⟨T0, hE0⟩ : ∃ T, T = fX0_forget N σ := ⟨_, rfl⟩
  have hR := hE0.trans hf
  have hN0 : T0 ≠ none := by rw [hR]; exact fun h => nomatch h
  have hx := hcf.1
  have hb := hcf.2.1
  have htk := hcf.2.2.2.2
  have hown := hcf.2.2.2.1
  unfold fX0_forget at hE0
  replace hl : lv_has ls 1 [(0, .ref (ad 2))] := hl
  refine lv_aload_n hx hb dX0_forget_0 rfl (lv_at hl 0 rfl) ?_
  refine lv_iconst (v := 0) hx hb dX0_forget_1 rfl ?_
  refine kp_X0_freeCount hcf hK (kw_194 htk) dX0_forget_2 hw (fun H locs hw => ?_)
  refine lv_aload_n hx hb dX0_forget_5 rfl (lv_at hl 0 rfl) ?_
  refine lv_iconst (v := -1) hx hb dX0_forget_6 rfl ?_
  refine kp_X0_verdict hcf hK (kw_196 htk) dX0_forget_7 hw (fun H locs hw => ?_)
  exact kret_v hcf hr hlk hK hw (rt1 hR hE0) hQ0 dX0_forget_10
def fX2_add (N : Nat) (σ : vS) (p1 : Int32) : Option (vS) :=
  if ((200 : Int32) ≤ (σ.1 15)) then (
    some σ
  ) else (
    if ((σ.1 15) < 0 ∨ 200 ≤ ((σ.1 15)).toNatClampNeg) then none else
    some (p_i (p_a σ 8 (((σ.1 15)).toNatClampNeg) (vp_nar .char p1)) 15 ((σ.1 15) + (1 : Int32)))
  )
abbrev rmX2_add : Room := { frames := 0, cells := 0, slots := 0, locals := 0 }
abbrev wsX2_add : List Cond := .code yX2_add cX2_add 2 none :: kws
theorem kcX2_add {R : Room} {s : State} {args : Array Value} {own : String} {index : Nat} (htk : ∀ w ∈ kws, w.before args s = true) (hl : (Cond.methodLink own index yX2_add).before args s = true) (hR : rmX2_add.frames + 1 ≤ R.frames ∧ 8 + (2 + 11) + rmX2_add.locals ≤ R.locals) : CallW R s args own RX2 index yX2_add cX2_add 2 none wsX2_add rmX2_add 0 0 1 :=
  ⟨callB_of 1 htk (k_good kc_432) rfl rfl rfl (kw_57 htk) hl (by decide +kernel) hR, (kw_431 htk), (kw_21 htk)⟩
set_option maxRecDepth 100000 in
set_option maxHeartbeats 4000000 in
theorem mX2_add (l : Launch) (D : va_G) (cs : Nat → ClassId) (ad : Nat → Nat) (N : Nat) (σ : vS) (p1 : Int32) (σ' : vS) (hf : fX2_add N σ p1 = some σ') : k_Met l yX2_add wsX2_add rmX2_add D (tK cs) (wK cs ad) (k_A 41 ad) [.ref (ad 3), .int p1] σ none σ' := by
  refine k_of (cc := cX2_add) (maxL := 2) (ret := none) (by decide) rfl (Nat.le_of_ble_eq_true rfl) ?_
  intro p e s m args below meth c ls H locs hcf hr hlk hK hZ hl hw
  generalize hQ0 : MQ below _ args s 0 0 _ = Q0
  obtain ⟨T0, hE0⟩ : ∃ T, T = fX2_add N σ p1 := ⟨_, rfl⟩
  have hR := hE0.trans hf
  have hN0 : T0 ≠ none := by rw [hR]; exact fun h => nomatch h
  have hx := hcf.1
  have hb := hcf.2.1
  have htk := hcf.2.2.2.2
  have hown := hcf.2.2.2.1
  unfold fX2_add at hE0
  replace hl : lv_has ls 2 [(0, .ref (ad 3)), (1, .int p1)] := hl
  refine lv_aload_n hx hb dX2_add_0 rfl (lv_at hl 0 rfl) ?_
  refine kg_X2_length hcf hK (kw_233 htk) (x := (σ.1 15)) dX2_add_1 hw rfl ?_
  refine lv_sipush (v := 200) hx hb dX2_add_4 rfl ?_
  refine lv_icmp_ge (tgt := 30) hx hb dX2_add_7 (by decide) (fun c2 => ?_) (fun c2 => ?_)
  · have hE0 := ite_t hE0 c2
    exact kret_v hcf hr hlk hK hw (rt1 hR hE0) hQ0 dX2_add_30
  · have hE0 := ite_f hE0 c2
    refine lv_aload_n hx hb dX2_add_10 rfl (lv_at hl 0 rfl) ?_
    refine kg_X2_characters hcf hK (kw_232 htk) dX2_add_11 hw ?_
    refine lv_aload_n hx hb dX2_add_14 rfl (lv_at hl 0 rfl) ?_
    refine kg_X2_length hcf hK (kw_233 htk) (x := (σ.1 15)) dX2_add_15 hw rfl ?_
    refine lv_iload_n hx hb dX2_add_18 rfl (lv_at hl 1 rfl) ?_
    obtain ⟨g1, hE0⟩ := gd_e hE0 hN0
    refine kast_A8 hcf hK dX2_add_19 g1 hw (fun H locs hw => ?_)
    refine lv_aload_n hx hb dX2_add_20 rfl (lv_at hl 0 rfl) ?_
    refine lv_dup hx hb dX2_add_21 rfl ?_
    refine kg_X2_length hcf hK (kw_233 htk) (x := (σ.1 15)) dX2_add_22 hw rfl ?_
    refine lv_iconst (v := 1) hx hb dX2_add_25 rfl ?_
    refine lv_iadd hx hb dX2_add_26 ?_
    refine kp_X2_length hcf hK (kw_233 htk) dX2_add_27 hw (fun H locs hw => ?_)
    exact kret_v hcf hr hlk hK hw (rt1 hR hE0) hQ0 dX2_add_30
def fX2_addSign (N : Nat) (σ : vS) (p1 : Int32) : Option (vS) :=
  bd1 (fX2_add N σ (32 : Int32)) fun σ1 =>
  bd1 (fX2_add N σ1 p1) fun σ2 =>
  bd1 (fX2_add N σ2 (32 : Int32)) fun σ3 =>
  some σ3
abbrev rmX2_addSign : Room := { frames := 1, cells := 0, slots := 0, locals := 21 }
abbrev wsX2_addSign : List Cond := .code yX2_addSign cX2_addSign 2 none :: kws
theorem kcX2_addSign {R : Room} {s : State} {args : Array Value} {own : String} {index : Nat} (htk : ∀ w ∈ kws, w.before args s = true) (hl : (Cond.methodLink own index yX2_addSign).before args s = true) (hR : rmX2_addSign.frames + 1 ≤ R.frames ∧ 8 + (2 + 11) + rmX2_addSign.locals ≤ R.locals) : CallW R s args own RX2 index yX2_addSign cX2_addSign 2 none wsX2_addSign rmX2_addSign 0 0 1 :=
  ⟨callB_of 1 htk (k_good kc_428) rfl rfl rfl (kw_57 htk) hl (by decide +kernel) hR, (kw_427 htk), (kw_20 htk)⟩
set_option maxRecDepth 100000 in
set_option maxHeartbeats 4000000 in
theorem mX2_addSign (l : Launch) (D : va_G) (cs : Nat → ClassId) (ad : Nat → Nat) (N : Nat) (σ : vS) (p1 : Int32) (σ' : vS) (hf : fX2_addSign N σ p1 = some σ') : k_Met l yX2_addSign wsX2_addSign rmX2_addSign D (tK cs) (wK cs ad) (k_A 41 ad) [.ref (ad 3), .int p1] σ none σ' := by
  refine k_of (cc := cX2_addSign) (maxL := 2) (ret := none) (by decide) rfl (Nat.le_of_ble_eq_true rfl) ?_
  intro p e s m args below meth c ls H locs hcf hr hlk hK hZ hl hw
  generalize hQ0 : MQ below _ args s 0 0 _ = Q0
  obtain ⟨T0, hE0⟩ : ∃ T, T = fX2_addSign N σ p1 := ⟨_, rfl⟩
  have hR := hE0.trans hf
  have hN0 : T0 ≠ none := by rw [hR]; exact fun h => nomatch h
  have hx := hcf.1
  have hb := hcf.2.1
  have htk := hcf.2.2.2.2
  have hown := hcf.2.2.2.1
  unfold fX2_addSign at hE0
  replace hl : lv_has ls 2 [(0, .ref (ad 3)), (1, .int p1)] := hl
  refine lv_aload_n hx hb dX2_addSign_0 rfl (lv_at hl 0 rfl) ?_
  refine lv_bipush (v := 32) hx hb dX2_addSign_1 rfl ?_
  obtain ⟨σ1, k1, hE0⟩ := bd1_e hE0 hN0
  refine k_call (va_runV (As := [.int (32 : Int32)]) (rest := []) hcf (mX2_add l D cs ad N σ (32 : Int32) σ1 k1) (kcX2_add htk (kw_429 htk) ⟨Nat.le_of_ble_eq_true rfl, Nat.le_of_ble_eq_true rfl⟩) ⟨k_blind, va_recv (ci := 2) (q0 := 3) hK hw.1 rfl rfl, k_pre hK hZ hw⟩ rfl rfl hl.1 rfl (lv_room (Nat.le_of_ble_eq_true rfl)) dX2_addSign_3 ⟨Nat.zero_le _, Nat.zero_le _⟩) hw (fun H locs hw => ?_)
  refine lv_aload_n hx hb dX2_addSign_6 rfl (lv_at hl 0 rfl) ?_
  refine lv_iload_n hx hb dX2_addSign_7 rfl (lv_at hl 1 rfl) ?_
  obtain ⟨σ2, k2, hE0⟩ := bd1_e hE0 hN0
  refine k_call (va_runV (As := [.int p1]) (rest := []) hcf (mX2_add l D cs ad N σ1 p1 σ2 k2) (kcX2_add htk (kw_429 htk) ⟨Nat.le_of_ble_eq_true rfl, Nat.le_of_ble_eq_true rfl⟩) ⟨k_blind, va_recv (ci := 2) (q0 := 3) hK hw.1 rfl rfl, k_pre hK hZ hw⟩ rfl rfl hl.1 rfl (lv_room (Nat.le_of_ble_eq_true rfl)) dX2_addSign_8 ⟨Nat.zero_le _, Nat.zero_le _⟩) hw (fun H locs hw => ?_)
  refine lv_aload_n hx hb dX2_addSign_11 rfl (lv_at hl 0 rfl) ?_
  refine lv_bipush (v := 32) hx hb dX2_addSign_12 rfl ?_
  obtain ⟨σ3, k3, hE0⟩ := bd1_e hE0 hN0
  refine k_call (va_runV (As := [.int (32 : Int32)]) (rest := []) hcf (mX2_add l D cs ad N σ2 (32 : Int32) σ3 k3) (kcX2_add htk (kw_429 htk) ⟨Nat.le_of_ble_eq_true rfl, Nat.le_of_ble_eq_true rfl⟩) ⟨k_blind, va_recv (ci := 2) (q0 := 3) hK hw.1 rfl rfl, k_pre hK hZ hw⟩ rfl rfl hl.1 rfl (lv_room (Nat.le_of_ble_eq_true rfl)) dX2_addSign_14 ⟨Nat.zero_le _, Nat.zero_le _⟩) hw (fun H locs hw => ?_)
  exact kret_v hcf hr hlk hK hw (rt1 hR hE0) hQ0 dX2_addSign_17
def jX2_turnRound_51 (N : Nat) (σj51 : vS) : Option (vS) :=
  some σj51
def bX2_turnRound_9 (N : Nat) (v2h9 : Int32) (v3h9 : Int32) (σh9 : vS) : Option ((Int32 × Int32 × vS) ⊕ (vS)) :=
  if (v2h9 ≤ v3h9) then (
    some (.inr σh9)
  ) else (
    if (v3h9 < 0 ∨ 200 ≤ (v3h9).toNatClampNeg) then none else
    k_lt (σh9.2.1 8 ((v3h9).toNatClampNeg)) fun x3 =>
    if (v2h9 < 0 ∨ 200 ≤ (v2h9).toNatClampNeg) then none else
    if (v3h9 < 0 ∨ 200 ≤ (v3h9).toNatClampNeg) then none else
    if (v2h9 < 0 ∨ 200 ≤ (v2h9).toNatClampNeg) then none else
    k_lt (v2h9 + (-1 : Int32)) fun x7 =>
    k_lt (v3h9 + (1 : Int32)) fun x8 =>
    some (.inl (x7, x8, (p_a (p_a σh9 8 ((v3h9).toNatClampNeg) (vp_nar .char (σh9.2.1 8 ((v2h9).toNatClampNeg)))) 8 ((v2h9).toNatClampNeg) (vp_nar .char x3))))
  )
def fX2_turnRound (N : Nat) (σ : vS) (p1 : Int32) : Option (vS) :=
  k_lt ((σ.1 15) - (1 : Int32)) fun x1 =>
  bd1 (k_itr (fun zz => bX2_turnRound_9 N zz.1 zz.2.1 zz.2.2) N (x1, p1, σ)) fun q => jX2_turnRound_51 N q
abbrev rmX2_turnRound : Room := { frames := 0, cells := 0, slots := 0, locals := 0 }
abbrev wsX2_turnRound : List Cond := .code yX2_turnRound cX2_turnRound 5 none :: kws
theorem kcX2_turnRound {R : Room} {s : State} {args : Array Value} {own : String} {index : Nat} (htk : ∀ w ∈ kws, w.before args s = true) (hl : (Cond.methodLink own index yX2_turnRound).before args s = true) (hR : rmX2_turnRound.frames + 1 ≤ R.frames ∧ 8 + (5 + 11) + rmX2_turnRound.locals ≤ R.locals) : CallW R s args own RX2 index yX2_turnRound cX2_turnRound 5 none wsX2_turnRound rmX2_turnRound 0 0 1 :=
  ⟨callB_of 1 htk (k_good kc_442) rfl rfl rfl (kw_57 htk) hl (by decide +kernel) hR, (kw_441 htk), (kw_23 htk)⟩
set_option maxRecDepth 100000 in
set_option maxHeartbeats 4000000 in
theorem mX2_turnRound (l : Launch) (D : va_G) (cs : Nat → ClassId) (ad : Nat → Nat) (N : Nat) (σ : vS) (p1 : Int32) (σ' : vS) (hf : fX2_turnRound N σ p1 = some σ') : k_Met l yX2_turnRound wsX2_turnRound rmX2_turnRound D (tK cs) (wK cs ad) (k_A 41 ad) [.ref (ad 3), .int p1] σ none σ' := by
  refine k_of (cc := cX2_turnRound) (maxL := 5) (ret := none) (by decide) rfl (Nat.le_of_ble_eq_true rfl) ?_
  intro p e s m args below meth c ls H locs hcf hr hlk hK hZ hl hw
  generalize hQ0 : MQ below _ args s 0 0 _ = Q0
  obtain ⟨T0, hE0⟩ : ∃ T, T = fX2_turnRound N σ p1 := ⟨_, rfl⟩
  have hR := hE0.trans hf
  have hN0 : T0 ≠ none := by rw [hR]; exact fun h => nomatch h
  have hx := hcf.1
  have hb := hcf.2.1
  have htk := hcf.2.2.2.2
  have hown := hcf.2.2.2.1
  unfold fX2_turnRound at hE0
  replace hl : lv_has ls 5 [(0, .ref (ad 3)), (1, .int p1)] := hl
  have J51 : ∀ (σj51 : vS) (H : Heap) (locs : List Loc) (ls : Array Slot), lv_has ls 5 [] → k_H D (wK cs ad) (k_A 41 ad) σj51 s.heap H locs → T0 = jX2_turnRound_51 N σj51 → W p l e rmX2_turnRound s m args below meth c H locs 0 0 Q0 (F0 m 51 ls []) := by
    intro σj51 H locs ls hl hw hE0
    unfold jX2_turnRound_51 at hE0
    exact kret_v hcf hr hlk hK hw (rt1 hR hE0) hQ0 dX2_turnRound_51
  refine lv_aload_n hx hb dX2_turnRound_0 rfl (lv_at hl 0 rfl) ?_
  refine kg_X2_length hcf hK (kw_233 htk) (x := (σ.1 15)) dX2_turnRound_1 hw rfl ?_
  refine lv_iconst (v := 1) hx hb dX2_turnRound_4 rfl ?_
  refine lv_isub hx hb dX2_turnRound_5 ?_
  refine lv_topi (fun x1 e_x1 => ?_)
  have hE0 := k_lts hE0 e_x1
  refine lv_istore_n hx hb dX2_turnRound_6 rfl hl (Nat.le_of_ble_eq_true rfl) rfl (fun ls (hl : lv_has ls 5 [(2, .int x1), (0, .ref (ad 3)), (1, .int p1)]) => ?_)
  refine lv_iload_n hx hb dX2_turnRound_7 rfl (lv_at hl 2 rfl) ?_
  refine lv_istore_n hx hb dX2_turnRound_8 rfl hl (Nat.le_of_ble_eq_true rfl) rfl (fun ls (hl : lv_has ls 5 [(3, .int p1), (2, .int x1), (0, .ref (ad 3)), (1, .int p1)]) => ?_)
  obtain ⟨q, hq, hE0⟩ := bd1_e hE0 hN0
  refine k_ind (P := fun zz => ∀ (H : Heap) (locs : List Loc) (ls : Array Slot), lv_has ls 5 [(0, .ref (ad 3)), (2, .int zz.1), (3, .int zz.2.1)] → k_H D (wK cs ad) (k_A 41 ad) zz.2.2 s.heap H locs → W p l e rmX2_turnRound s m args below meth c H locs 0 0 Q0 (F0 m 9 ls [])) ?_ N _ hq H locs ls (lv_sub hl [2, 1, 0] rfl) hw
  intro sX T1 hE1 hN1 hC1 hX1
  obtain ⟨v2h9, v3h9, σh9⟩ := sX
  replace hE1 : T1 = bX2_turnRound_9 N v2h9 v3h9 σh9 := hE1
  unfold bX2_turnRound_9 at hE1
  intro H locs ls hl hw
  replace hl : lv_has ls 5 [(0, .ref (ad 3)), (2, .int v2h9), (3, .int v3h9)] := hl
  replace hw : k_H D (wK cs ad) (k_A 41 ad) σh9 s.heap H locs := hw
  refine lv_iload_n hx hb dX2_turnRound_9 rfl (lv_at hl 2 rfl) ?_
  refine lv_iload_n hx hb dX2_turnRound_10 rfl (lv_at hl 1 rfl) ?_
  refine lv_icmp_ge (tgt := 51) hx hb dX2_turnRound_11 (by decide) (fun c9 => ?_) (fun c9 => ?_)
  · have hE1 := ite_t hE1 c9
    have hq := hX1 _ hE1
    subst hq
    exact J51 σh9 H locs ls (lv_sub hl [] rfl) hw hE0
  · have hE1 := ite_f hE1 c9
    refine lv_aload_n hx hb dX2_turnRound_14 rfl (lv_at hl 0 rfl) ?_
    refine kg_X2_characters hcf hK (kw_232 htk) dX2_turnRound_15 hw ?_
    refine lv_iload_n hx hb dX2_turnRound_18 rfl (lv_at hl 2 rfl) ?_
    obtain ⟨g2, hE1⟩ := gd_e hE1 hN1
    refine kald_A8 hcf hK (x := (σh9.2.1 8 ((v3h9).toNatClampNeg))) dX2_turnRound_19 g2 hw rfl ?_
    refine lv_topi (fun x3 e_x3 => ?_)
    have hE1 := k_lts hE1 e_x3
    refine lv_istore hx hb dX2_turnRound_20 hl (Nat.le_of_ble_eq_true rfl) rfl (fun ls (hl : lv_has ls 5 [(4, .int x3), (0, .ref (ad 3)), (2, .int v2h9), (3, .int v3h9)]) => ?_)
    refine lv_aload_n hx hb dX2_turnRound_22 rfl (lv_at hl 1 rfl) ?_
    refine kg_X2_characters hcf hK (kw_232 htk) dX2_turnRound_23 hw ?_
    refine lv_iload_n hx hb dX2_turnRound_26 rfl (lv_at hl 3 rfl) ?_
    refine lv_aload_n hx hb dX2_turnRound_27 rfl (lv_at hl 1 rfl) ?_
    refine kg_X2_characters hcf hK (kw_232 htk) dX2_turnRound_28 hw ?_
    refine lv_iload_n hx hb dX2_turnRound_31 rfl (lv_at hl 2 rfl) ?_
    obtain ⟨g4, hE1⟩ := gd_e hE1 hN1
    refine kald_A8 hcf hK (x := (σh9.2.1 8 ((v2h9).toNatClampNeg))) dX2_turnRound_32 g4 hw rfl ?_
    obtain ⟨g5, hE1⟩ := gd_e hE1 hN1
    refine kast_A8 hcf hK dX2_turnRound_33 g5 hw (fun H locs hw => ?_)
    refine lv_aload_n hx hb dX2_turnRound_34 rfl (lv_at hl 1 rfl) ?_
    refine kg_X2_characters hcf hK (kw_232 htk) dX2_turnRound_35 hw ?_
    refine lv_iload_n hx hb dX2_turnRound_38 rfl (lv_at hl 2 rfl) ?_
    refine lv_iload hx hb dX2_turnRound_39 (lv_at hl 0 rfl) ?_
    obtain ⟨g6, hE1⟩ := gd_e hE1 hN1
    refine kast_A8 hcf hK dX2_turnRound_41 g6 hw (fun H locs hw => ?_)
    obtain ⟨x7, e_x7, hE1⟩ := k_lte hE1
    refine lv_iinc (k := 2) (v := x7) hx hb dX2_turnRound_42 hl rfl (Eq.symm e_x7) (Nat.le_of_ble_eq_true rfl) rfl (fun ls (hl : lv_has ls 5 [(2, .int x7), (4, .int x3), (0, .ref (ad 3)), (3, .int v3h9)]) => ?_)
    obtain ⟨x8, e_x8, hE1⟩ := k_lte hE1
    refine lv_iinc (k := 3) (v := x8) hx hb dX2_turnRound_45 hl rfl (Eq.symm e_x8) (Nat.le_of_ble_eq_true rfl) rfl (fun ls (hl : lv_has ls 5 [(3, .int x8), (2, .int x7), (4, .int x3), (0, .ref (ad 3))]) => ?_)
    refine lv_goto (tgt := 9) hx hb dX2_turnRound_48 (by decide) ?_
    exact hC1 _ hE1 H locs ls (lv_sub hl [3, 1, 0] rfl) hw
def jX2_addNumber_55 (N : Nat) (σj55 : vS) (v3j55 : Int32) : Option (vS) :=
  bd1 (fX2_turnRound N σj55 v3j55) fun σ2 =>
  some σ2
def bX2_addNumber_11 (N : Nat) (x1 : Int32) (v4h11 : Int64) (v6h11 : Int32) (σh11 : vS) : Option ((Int64 × Int32 × vS) ⊕ (vS)) :=
  if ((19 : Int32) ≤ v6h11) then (
    some (.inr σh11)
  ) else (
    if ((lg_cmp v4h11 (0 : Int64)) ≤ 0) then (
      some (.inr σh11)
    ) else (
      if ((10 : Int64) = 0) then none else
      bd1 (fX2_add N σh11 ((((((48 : Int64) + (v4h11 - v4h11 / (10 : Int64) * (10 : Int64)))).toInt32).toUInt32 % 65536).toInt32)) fun σ4 =>
      if ((10 : Int64) = 0) then none else
      k_lt (v4h11 / (10 : Int64)) fun x6 =>
      k_lt (v6h11 + (1 : Int32)) fun x7 =>
      some (.inl (x6, x7, σ4))
    )
  )
def fX2_addNumber (N : Nat) (σ : vS) (p1 : Int64) : Option (vS) :=
  k_lt (σ.1 15) fun x1 =>
  bd1 (k_itr (fun zz => bX2_addNumber_11 N x1 zz.1 zz.2.1 zz.2.2) N (p1, (0 : Int32), σ)) fun q => jX2_addNumber_55 N q x1
abbrev rmX2_addNumber : Room := { frames := 1, cells := 0, slots := 0, locals := 24 }
abbrev wsX2_addNumber : List Cond := .code yX2_addNumber cX2_addNumber 7 none :: kws
theorem kcX2_addNumber {R : Room} {s : State} {args : Array Value} {own : String} {index : Nat} (htk : ∀ w ∈ kws, w.before args s = true) (hl : (Cond.methodLink own index yX2_addNumber).before args s = true) (hR : rmX2_addNumber.frames + 1 ≤ R.frames ∧ 8 + (7 + 11) + rmX2_addNumber.locals ≤ R.locals) : CallW R s args own RX2 index yX2_addNumber cX2_addNumber 7 none wsX2_addNumber rmX2_addNumber 0 0 1 :=
  ⟨callB_of 1 htk (k_good kc_436) rfl rfl rfl (kw_57 htk) hl (by decide +kernel) hR, (kw_435 htk), (kw_22 htk)⟩
set_option maxRecDepth 100000 in
set_option maxHeartbeats 4000000 in
theorem mX2_addNumber (l : Launch) (D : va_G) (cs : Nat → ClassId) (ad : Nat → Nat) (N : Nat) (σ : vS) (p1 : Int64) (σ' : vS) (hf : fX2_addNumber N σ p1 = some σ') : k_Met l yX2_addNumber wsX2_addNumber rmX2_addNumber D (tK cs) (wK cs ad) (k_A 41 ad) [.ref (ad 3), .long p1] σ none σ' := by
  refine k_of (cc := cX2_addNumber) (maxL := 7) (ret := none) (by decide) rfl (Nat.le_of_ble_eq_true rfl) ?_
  intro p e s m args below meth c ls H locs hcf hr hlk hK hZ hl hw
  generalize hQ0 : MQ below _ args s 0 0 _ = Q0
  obtain ⟨T0, hE0⟩ : ∃ T, T = fX2_addNumber N σ p1 := ⟨_, rfl⟩
  have hR := hE0.trans hf
  have hN0 : T0 ≠ none := by rw [hR]; exact fun h => nomatch h
  have hx := hcf.1
  have hb := hcf.2.1
  have htk := hcf.2.2.2.2
  have hown := hcf.2.2.2.1
  unfold fX2_addNumber at hE0
  replace hl : lv_has ls 7 [(0, .ref (ad 3)), (1, .long p1)] := hl
  have J55 : ∀ (v3j55 : Int32) (σj55 : vS) (H : Heap) (locs : List Loc) (ls : Array Slot), lv_has ls 7 [(0, .ref (ad 3)), (3, .int v3j55)] → k_H D (wK cs ad) (k_A 41 ad) σj55 s.heap H locs → T0 = jX2_addNumber_55 N σj55 v3j55 → W p l e rmX2_addNumber s m args below meth c H locs 0 0 Q0 (F0 m 55 ls []) := by
    intro v3j55 σj55 H locs ls hl hw hE0
    unfold jX2_addNumber_55 at hE0
    refine lv_aload_n hx hb dX2_addNumber_55 rfl (lv_at hl 0 rfl) ?_
    refine lv_iload_n hx hb dX2_addNumber_56 rfl (lv_at hl 1 rfl) ?_
    obtain ⟨σ2, k2, hE0⟩ := bd1_e hE0 hN0
    refine k_call (va_runV (As := [.int v3j55]) (rest := []) hcf (mX2_turnRound l D cs ad N σj55 v3j55 σ2 k2) (kcX2_turnRound htk (kw_439 htk) ⟨Nat.le_of_ble_eq_true rfl, Nat.le_of_ble_eq_true rfl⟩) ⟨k_blind, va_recv (ci := 2) (q0 := 3) hK hw.1 rfl rfl, k_pre hK hZ hw⟩ rfl rfl hl.1 rfl (lv_room (Nat.le_of_ble_eq_true rfl)) dX2_addNumber_57 ⟨Nat.zero_le _, Nat.zero_le _⟩) hw (fun H locs hw => ?_)
    exact kret_v hcf hr hlk hK hw (rt1 hR hE0) hQ0 dX2_addNumber_60
  refine lv_aload_n hx hb dX2_addNumber_0 rfl (lv_at hl 0 rfl) ?_
  refine kg_X2_length hcf hK (kw_233 htk) (x := (σ.1 15)) dX2_addNumber_1 hw rfl ?_
  refine lv_topi (fun x1 e_x1 => ?_)
  have hE0 := k_lts hE0 e_x1
  refine lv_istore_n hx hb dX2_addNumber_4 rfl hl (Nat.le_of_ble_eq_true rfl) rfl (fun ls (hl : lv_has ls 7 [(3, .int x1), (0, .ref (ad 3)), (1, .long p1)]) => ?_)
  refine lv_lload_n hx hb dX2_addNumber_5 rfl (lv_at hl 2 rfl) ?_
  refine lv_lstore hx hb dX2_addNumber_6 hl (Nat.le_of_ble_eq_true rfl) rfl (fun ls (hl : lv_has ls 7 [(4, .long p1), (3, .int x1), (0, .ref (ad 3)), (1, .long p1)]) => ?_)
  refine lv_iconst (v := 0) hx hb dX2_addNumber_8 rfl ?_
  refine lv_istore hx hb dX2_addNumber_9 hl (Nat.le_of_ble_eq_true rfl) rfl (fun ls (hl : lv_has ls 7 [(6, .int (0 : Int32)), (4, .long p1), (3, .int x1), (0, .ref (ad 3)), (1, .long p1)]) => ?_)
  obtain ⟨q, hq, hE0⟩ := bd1_e hE0 hN0
  refine k_ind (P := fun zz => ∀ (H : Heap) (locs : List Loc) (ls : Array Slot), lv_has ls 7 [(0, .ref (ad 3)), (3, .int x1), (4, .long zz.1), (6, .int zz.2.1)] → k_H D (wK cs ad) (k_A 41 ad) zz.2.2 s.heap H locs → W p l e rmX2_addNumber s m args below meth c H locs 0 0 Q0 (F0 m 11 ls [])) ?_ N _ hq H locs ls (lv_sub hl [3, 2, 1, 0] rfl) hw
  intro sX T1 hE1 hN1 hC1 hX1
  obtain ⟨v4h11, v6h11, σh11⟩ := sX
  replace hE1 : T1 = bX2_addNumber_11 N x1 v4h11 v6h11 σh11 := hE1
  unfold bX2_addNumber_11 at hE1
  intro H locs ls hl hw
  replace hl : lv_has ls 7 [(0, .ref (ad 3)), (3, .int x1), (4, .long v4h11), (6, .int v6h11)] := hl
  replace hw : k_H D (wK cs ad) (k_A 41 ad) σh11 s.heap H locs := hw
  refine lv_iload hx hb dX2_addNumber_11 (lv_at hl 3 rfl) ?_
  refine lv_bipush (v := 19) hx hb dX2_addNumber_13 rfl ?_
  refine lv_icmp_ge (tgt := 55) hx hb dX2_addNumber_15 (by decide) (fun c9 => ?_) (fun c9 => ?_)
  · have hE1 := ite_t hE1 c9
    have hq := hX1 _ hE1
    subst hq
    exact J55 x1 σh11 H locs ls (lv_sub hl [0, 1] rfl) hw hE0
  · have hE1 := ite_f hE1 c9
    refine lv_lload hx hb dX2_addNumber_18 (lv_at hl 2 rfl) ?_
    refine lv_lconst (v := 0) hx hb dX2_addNumber_20 rfl ?_
    refine W.lcmp hx hb dX2_addNumber_21 ?_
    refine lv_if_le (tgt := 55) hx hb dX2_addNumber_22 (by decide) (fun c8 => ?_) (fun c8 => ?_)
    · have hE1 := ite_t hE1 c8
      have hq := hX1 _ hE1
      subst hq
      exact J55 x1 σh11 H locs ls (lv_sub hl [0, 1] rfl) hw hE0
    · have hE1 := ite_f hE1 c8
      refine lv_aload_n hx hb dX2_addNumber_25 rfl (lv_at hl 0 rfl) ?_
      refine lv_ldc2 hx hb hown (kw_437 htk) dX2_addNumber_26 ?_
      refine lv_lload hx hb dX2_addNumber_29 (lv_at hl 2 rfl) ?_
      refine lv_ldc2 hx hb hown (kw_438 htk) dX2_addNumber_31 ?_
      obtain ⟨g3, hE1⟩ := gd_e hE1 hN1
      refine lv_lrem hx hb dX2_addNumber_34 g3 ?_
      refine lv_ladd hx hb dX2_addNumber_35 ?_
      refine lv_l2i hx hb dX2_addNumber_36 rfl ?_
      refine lv_i2c hx hb dX2_addNumber_37 rfl ?_
      obtain ⟨σ4, k4, hE1⟩ := bd1_e hE1 hN1
      refine k_call (va_runV (As := [.int ((((((48 : Int64) + (v4h11 - v4h11 / (10 : Int64) * (10 : Int64)))).toInt32).toUInt32 % 65536).toInt32)]) (rest := []) hcf (mX2_add l D cs ad N σh11 ((((((48 : Int64) + (v4h11 - v4h11 / (10 : Int64) * (10 : Int64)))).toInt32).toUInt32 % 65536).toInt32) σ4 k4) (kcX2_add htk (kw_429 htk) ⟨Nat.le_of_ble_eq_true rfl, Nat.le_of_ble_eq_true rfl⟩) ⟨k_blind, va_recv (ci := 2) (q0 := 3) hK hw.1 rfl rfl, k_pre hK hZ hw⟩ rfl rfl hl.1 rfl (lv_room (Nat.le_of_ble_eq_true rfl)) dX2_addNumber_38 ⟨Nat.zero_le _, Nat.zero_le _⟩) hw (fun H locs hw => ?_)
      refine lv_lload hx hb dX2_addNumber_41 (lv_at hl 2 rfl) ?_
      refine lv_ldc2 hx hb hown (kw_438 htk) dX2_addNumber_43 ?_
      obtain ⟨g5, hE1⟩ := gd_e hE1 hN1
      refine lv_ldiv hx hb dX2_addNumber_46 g5 ?_
      refine lv_topl (fun x6 e_x6 => ?_)
      have hE1 := k_lts hE1 e_x6
      refine lv_lstore hx hb dX2_addNumber_47 hl (Nat.le_of_ble_eq_true rfl) rfl (fun ls (hl : lv_has ls 7 [(4, .long x6), (0, .ref (ad 3)), (3, .int x1), (6, .int v6h11)]) => ?_)
      obtain ⟨x7, e_x7, hE1⟩ := k_lte hE1
      refine lv_iinc (k := 3) (v := x7) hx hb dX2_addNumber_49 hl rfl (Eq.symm e_x7) (Nat.le_of_ble_eq_true rfl) rfl (fun ls (hl : lv_has ls 7 [(6, .int x7), (4, .long x6), (0, .ref (ad 3)), (3, .int x1)]) => ?_)
      refine lv_goto (tgt := 11) hx hb dX2_addNumber_52 (by decide) ?_
      exact hC1 _ hE1 H locs ls (lv_sub hl [2, 3, 1, 0] rfl) hw
def jX2_write_109 (N : Nat) (σj109 : vS) : Option (vS) :=
  some σj109
def jX2_write_103_8 (N : Nat) (σj103 : vS) (v4j103 : Int32) : Option ((Int32 × vS) ⊕ (vS)) :=
  k_lt (v4j103 + (1 : Int32)) fun x4 =>
  some (.inl (x4, σj103))
def bX2_write_74 (N : Nat) (v4j65 : Int32) (v5h74 : Int32) (σh74 : vS) : Option ((Int32 × vS) ⊕ (vS)) :=
  if (v4j65 < 0 ∨ 6 ≤ (v4j65).toNatClampNeg) then none else
  if ((σh74.2.1 4 ((v4j65).toNatClampNeg)) ≤ v5h74) then (
    some (.inr σh74)
  ) else (
    if (v5h74 < 0 ∨ 100 ≤ (v5h74).toNatClampNeg) then none else
    bd1 (fX2_add N σh74 (σh74.2.1 0 ((v5h74).toNatClampNeg))) fun σ7 =>
    k_lt (v5h74 + (1 : Int32)) fun x8 =>
    some (.inl (x8, σ7))
  )
def jX2_write_65_8 (N : Nat) (σj65 : vS) (v4j65 : Int32) : Option ((Int32 × vS) ⊕ (vS)) :=
  if (v4j65 < 0 ∨ 6 ≤ (v4j65).toNatClampNeg) then none else
  k_lt (σj65.2.1 3 ((v4j65).toNatClampNeg)) fun x3 =>
  bd1 (k_itr (fun zz => bX2_write_74 N v4j65 zz.1 zz.2) N (x3, σj65)) fun q => jX2_write_103_8 N q v4j65
def jX2_write_42_8 (N : Nat) (σj42 : vS) (v4j42 : Int32) : Option ((Int32 × vS) ⊕ (vS)) :=
  if (v4j42 < 0 ∨ 6 ≤ (v4j42).toNatClampNeg) then none else
  if ((lg_cmp (σj42.2.2.2 5 ((v4j42).toNatClampNeg)) (1 : Int64)) = 0) then (
    jX2_write_65_8 N σj42 v4j42
  ) else (
    if (v4j42 < 0 ∨ 6 ≤ (v4j42).toNatClampNeg) then none else
    bd1 (fX2_addNumber N σj42 (σj42.2.2.2 5 ((v4j42).toNatClampNeg))) fun σ11 =>
    bd1 (fX2_add N σ11 (32 : Int32)) fun σ12 =>
    jX2_write_65_8 N σ12 v4j42
  )
def bX2_write_8 (N : Nat) (v4h8 : Int32) (σh8 : vS) : Option ((Int32 × vS) ⊕ (vS)) :=
  if ((σh8.1 2) ≤ v4h8) then (
    some (.inr σh8)
  ) else (
    if (v4h8 ≤ 0) then (
      jX2_write_42_8 N σh8 v4h8
    ) else (
      if (v4h8 = (σh8.1 3)) then (
        bd1 (fX2_addSign N σh8 (61 : Int32)) fun σ15 =>
        jX2_write_42_8 N σ15 v4h8
      ) else (
        bd1 (fX2_addSign N σh8 (43 : Int32)) fun σ14 =>
        jX2_write_42_8 N σ14 v4h8
      )
    )
  )
def fX2_write (N : Nat) (σ : vS) : Option (vS) :=
  bd1 (k_itr (fun zz => bX2_write_8 N zz.1 zz.2) N ((0 : Int32), (p_i σ 15 (0 : Int32)))) fun q => jX2_write_109 N q
abbrev rmX2_write : Room := { frames := 2, cells := 0, slots := 0, locals := 50 }
abbrev wsX2_write : List Cond := .code yX2_write cX2_write 6 none :: kws
theorem kcX2_write {R : Room} {s : State} {args : Array Value} {own : String} {index : Nat} (htk : ∀ w ∈ kws, w.before args s = true) (hl : (Cond.methodLink own index yX2_write).before args s = true) (hR : rmX2_write.frames + 1 ≤ R.frames ∧ 8 + (6 + 11) + rmX2_write.locals ≤ R.locals) : CallW R s args own RX2 index yX2_write cX2_write 6 none wsX2_write rmX2_write 0 0 3 :=
  ⟨callB_of 3 htk (k_good kc_424) rfl rfl rfl (kw_57 htk) hl (by decide +kernel) hR, (kw_422 htk), (kw_423 htk)⟩
set_option maxRecDepth 100000 in
set_option maxHeartbeats 4000000 in
theorem mX2_write (l : Launch) (D : va_G) (cs : Nat → ClassId) (ad : Nat → Nat) (N : Nat) (σ : vS) (σ' : vS) (hf : fX2_write N σ = some σ') : k_Met l yX2_write wsX2_write rmX2_write D (tK cs) (wK cs ad) (k_A 41 ad) [.ref (ad 3), .ref (ad 5), .ref (ad 4), .ref (ad 30)] σ none σ' := by
  refine k_of (cc := cX2_write) (maxL := 6) (ret := none) (by decide) rfl (Nat.le_of_ble_eq_true rfl) ?_
  intro p e s m args below meth c ls H locs hcf hr hlk hK hZ hl hw
  generalize hQ0 : MQ below _ args s 0 0 _ = Q0
  obtain ⟨T0, hE0⟩ : ∃ T, T = fX2_write N σ := ⟨_, rfl⟩
  have hR := hE0.trans hf
  have hN0 : T0 ≠ none := by rw [hR]; exact fun h => nomatch h
  have hx := hcf.1
  have hb := hcf.2.1
  have htk := hcf.2.2.2.2
  have hown := hcf.2.2.2.1
  unfold fX2_write at hE0
  replace hl : lv_has ls 6 [(0, .ref (ad 3)), (1, .ref (ad 5)), (2, .ref (ad 4)), (3, .ref (ad 30))] := hl
  have J109 : ∀ (σj109 : vS) (H : Heap) (locs : List Loc) (ls : Array Slot), lv_has ls 6 [] → k_H D (wK cs ad) (k_A 41 ad) σj109 s.heap H locs → T0 = jX2_write_109 N σj109 → W p l e rmX2_write s m args below meth c H locs 0 0 Q0 (F0 m 109 ls []) := by
    intro σj109 H locs ls hl hw hE0
    unfold jX2_write_109 at hE0
    exact kret_v hcf hr hlk hK hw (rt1 hR hE0) hQ0 dX2_write_109
  refine lv_aload_n hx hb dX2_write_0 rfl (lv_at hl 0 rfl) ?_
  refine lv_iconst (v := 0) hx hb dX2_write_1 rfl ?_
  refine kp_X2_length hcf hK (kw_233 htk) dX2_write_2 hw (fun H locs hw => ?_)
  refine lv_iconst (v := 0) hx hb dX2_write_5 rfl ?_
  refine lv_istore hx hb dX2_write_6 hl (Nat.le_of_ble_eq_true rfl) rfl (fun ls (hl : lv_has ls 6 [(4, .int (0 : Int32)), (0, .ref (ad 3)), (1, .ref (ad 5)), (2, .ref (ad 4)), (3, .ref (ad 30))]) => ?_)
  obtain ⟨q, hq, hE0⟩ := bd1_e hE0 hN0
  refine k_ind (P := fun zz => ∀ (H : Heap) (locs : List Loc) (ls : Array Slot), lv_has ls 6 [(0, .ref (ad 3)), (1, .ref (ad 5)), (2, .ref (ad 4)), (3, .ref (ad 30)), (4, .int zz.1)] → k_H D (wK cs ad) (k_A 41 ad) zz.2 s.heap H locs → W p l e rmX2_write s m args below meth c H locs 0 0 Q0 (F0 m 8 ls [])) ?_ N _ hq H locs ls (lv_sub hl [1, 2, 3, 4, 0] rfl) hw
  intro sX T1 hE1 hN1 hC1 hX1
  obtain ⟨v4h8, σh8⟩ := sX
  replace hE1 : T1 = bX2_write_8 N v4h8 σh8 := hE1
  unfold bX2_write_8 at hE1
  have J103_8 : ∀ (v4j103 : Int32) (σj103 : vS) (H : Heap) (locs : List Loc) (ls : Array Slot), lv_has ls 6 [(0, .ref (ad 3)), (1, .ref (ad 5)), (2, .ref (ad 4)), (3, .ref (ad 30)), (4, .int v4j103)] → k_H D (wK cs ad) (k_A 41 ad) σj103 s.heap H locs → T1 = jX2_write_103_8 N σj103 v4j103 → W p l e rmX2_write s m args below meth c H locs 0 0 Q0 (F0 m 103 ls []) := by
    intro v4j103 σj103 H locs ls hl hw hE1
    unfold jX2_write_103_8 at hE1
    obtain ⟨x4, e_x4, hE1⟩ := k_lte hE1
    refine lv_iinc (k := 4) (v := x4) hx hb dX2_write_103 hl rfl (Eq.symm e_x4) (Nat.le_of_ble_eq_true rfl) rfl (fun ls (hl : lv_has ls 6 [(4, .int x4), (0, .ref (ad 3)), (1, .ref (ad 5)), (2, .ref (ad 4)), (3, .ref (ad 30))]) => ?_)
    refine lv_goto (tgt := 8) hx hb dX2_write_106 (by decide) ?_
    exact hC1 _ hE1 H locs ls (lv_sub hl [1, 2, 3, 4, 0] rfl) hw
  have J65_8 : ∀ (v4j65 : Int32) (σj65 : vS) (H : Heap) (locs : List Loc) (ls : Array Slot), lv_has ls 6 [(0, .ref (ad 3)), (1, .ref (ad 5)), (2, .ref (ad 4)), (3, .ref (ad 30)), (4, .int v4j65)] → k_H D (wK cs ad) (k_A 41 ad) σj65 s.heap H locs → T1 = jX2_write_65_8 N σj65 v4j65 → W p l e rmX2_write s m args below meth c H locs 0 0 Q0 (F0 m 65 ls []) := by
    intro v4j65 σj65 H locs ls hl hw hE1
    unfold jX2_write_65_8 at hE1
    refine lv_aload_n hx hb dX2_write_65 rfl (lv_at hl 1 rfl) ?_
    refine kg_X1_begins hcf hK (kw_114 htk) dX2_write_66 hw ?_
    refine lv_iload hx hb dX2_write_69 (lv_at hl 4 rfl) ?_
    obtain ⟨g2, hE1⟩ := gd_e hE1 hN1
    refine kald_A3 hcf hK (x := (σj65.2.1 3 ((v4j65).toNatClampNeg))) dX2_write_71 g2 hw rfl ?_
    refine lv_topi (fun x3 e_x3 => ?_)
    have hE1 := k_lts hE1 e_x3
    refine lv_istore hx hb dX2_write_72 hl (Nat.le_of_ble_eq_true rfl) rfl (fun ls (hl : lv_has ls 6 [(5, .int x3), (0, .ref (ad 3)), (1, .ref (ad 5)), (2, .ref (ad 4)), (3, .ref (ad 30)), (4, .int v4j65)]) => ?_)
    obtain ⟨q, hq, hE1⟩ := bd1_e hE1 hN1
    refine k_ind (P := fun zz => ∀ (H : Heap) (locs : List Loc) (ls : Array Slot), lv_has ls 6 [(0, .ref (ad 3)), (1, .ref (ad 5)), (2, .ref (ad 4)), (3, .ref (ad 30)), (4, .int v4j65), (5, .int zz.1)] → k_H D (wK cs ad) (k_A 41 ad) zz.2 s.heap H locs → W p l e rmX2_write s m args below meth c H locs 0 0 Q0 (F0 m 74 ls [])) ?_ N _ hq H locs ls (lv_sub hl [1, 2, 3, 4, 5, 0] rfl) hw
    intro sX T2 hE2 hN2 hC2 hX2
    obtain ⟨v5h74, σh74⟩ := sX
    replace hE2 : T2 = bX2_write_74 N v4j65 v5h74 σh74 := hE2
    unfold bX2_write_74 at hE2
    intro H locs ls hl hw
    replace hl : lv_has ls 6 [(0, .ref (ad 3)), (1, .ref (ad 5)), (2, .ref (ad 4)), (3, .ref (ad 30)), (4, .int v4j65), (5, .int v5h74)] := hl
    replace hw : k_H D (wK cs ad) (k_A 41 ad) σh74 s.heap H locs := hw
    refine lv_iload hx hb dX2_write_74 (lv_at hl 5 rfl) ?_
    refine lv_aload_n hx hb dX2_write_76 rfl (lv_at hl 1 rfl) ?_
    refine kg_X1_ends hcf hK (kw_116 htk) dX2_write_77 hw ?_
    refine lv_iload hx hb dX2_write_80 (lv_at hl 4 rfl) ?_
    obtain ⟨g5, hE2⟩ := gd_e hE2 hN2
    refine kald_A4 hcf hK (x := (σh74.2.1 4 ((v4j65).toNatClampNeg))) dX2_write_82 g5 hw rfl ?_
    refine lv_icmp_ge (tgt := 103) hx hb dX2_write_83 (by decide) (fun c9 => ?_) (fun c9 => ?_)
    · have hE2 := ite_t hE2 c9
      have hq := hX2 _ hE2
      subst hq
      exact J103_8 v4j65 σh74 H locs ls (lv_sub hl [0, 1, 2, 3, 4] rfl) hw hE1
    · have hE2 := ite_f hE2 c9
      refine lv_aload_n hx hb dX2_write_86 rfl (lv_at hl 0 rfl) ?_
      refine lv_aload_n hx hb dX2_write_87 rfl (lv_at hl 2 rfl) ?_
      refine kg_X4_characters hcf hK (kw_89 htk) dX2_write_88 hw ?_
      refine lv_iload hx hb dX2_write_91 (lv_at hl 5 rfl) ?_
      obtain ⟨g6, hE2⟩ := gd_e hE2 hN2
      refine kald_A0 hcf hK (x := (σh74.2.1 0 ((v5h74).toNatClampNeg))) dX2_write_93 g6 hw rfl ?_
      obtain ⟨σ7, k7, hE2⟩ := bd1_e hE2 hN2
      refine k_call (va_runV (As := [.int (σh74.2.1 0 ((v5h74).toNatClampNeg))]) (rest := []) hcf (mX2_add l D cs ad N σh74 (σh74.2.1 0 ((v5h74).toNatClampNeg)) σ7 k7) (kcX2_add htk (kw_429 htk) ⟨Nat.le_of_ble_eq_true rfl, Nat.le_of_ble_eq_true rfl⟩) ⟨k_blind, va_recv (ci := 2) (q0 := 3) hK hw.1 rfl rfl, k_pre hK hZ hw⟩ rfl rfl hl.1 rfl (lv_room (Nat.le_of_ble_eq_true rfl)) dX2_write_94 ⟨Nat.zero_le _, Nat.zero_le _⟩) hw (fun H locs hw => ?_)
      obtain ⟨x8, e_x8, hE2⟩ := k_lte hE2
      refine lv_iinc (k := 5) (v := x8) hx hb dX2_write_97 hl rfl (Eq.symm e_x8) (Nat.le_of_ble_eq_true rfl) rfl (fun ls (hl : lv_has ls 6 [(5, .int x8), (0, .ref (ad 3)), (1, .ref (ad 5)), (2, .ref (ad 4)), (3, .ref (ad 30)), (4, .int v4j65)]) => ?_)
      refine lv_goto (tgt := 74) hx hb dX2_write_100 (by decide) ?_
      exact hC2 _ hE2 H locs ls (lv_sub hl [1, 2, 3, 4, 5, 0] rfl) hw
  have J42_8 : ∀ (v4j42 : Int32) (σj42 : vS) (H : Heap) (locs : List Loc) (ls : Array Slot), lv_has ls 6 [(0, .ref (ad 3)), (1, .ref (ad 5)), (2, .ref (ad 4)), (3, .ref (ad 30)), (4, .int v4j42)] → k_H D (wK cs ad) (k_A 41 ad) σj42 s.heap H locs → T1 = jX2_write_42_8 N σj42 v4j42 → W p l e rmX2_write s m args below meth c H locs 0 0 Q0 (F0 m 42 ls []) := by
    intro v4j42 σj42 H locs ls hl hw hE1
    unfold jX2_write_42_8 at hE1
    refine lv_aload_n hx hb dX2_write_42 rfl (lv_at hl 3 rfl) ?_
    refine lv_iload hx hb dX2_write_43 (lv_at hl 4 rfl) ?_
    obtain ⟨g1, hE1⟩ := gd_e hE1 hN1
    refine kald_B5 hcf hK (x := (σj42.2.2.2 5 ((v4j42).toNatClampNeg))) dX2_write_45 g1 hw rfl ?_
    refine lv_lconst (v := 1) hx hb dX2_write_46 rfl ?_
    refine W.lcmp hx hb dX2_write_47 ?_
    refine lv_if_eq (tgt := 65) hx hb dX2_write_48 (by decide) (fun c13 => ?_) (fun c13 => ?_)
    · have hE1 := ite_t hE1 c13
      exact J65_8 v4j42 σj42 H locs ls (lv_sub hl [0, 1, 2, 3, 4] rfl) hw hE1
    · have hE1 := ite_f hE1 c13
      refine lv_aload_n hx hb dX2_write_51 rfl (lv_at hl 0 rfl) ?_
      refine lv_aload_n hx hb dX2_write_52 rfl (lv_at hl 3 rfl) ?_
      refine lv_iload hx hb dX2_write_53 (lv_at hl 4 rfl) ?_
      obtain ⟨g10, hE1⟩ := gd_e hE1 hN1
      refine kald_B5 hcf hK (x := (σj42.2.2.2 5 ((v4j42).toNatClampNeg))) dX2_write_55 g10 hw rfl ?_
      obtain ⟨σ11, k11, hE1⟩ := bd1_e hE1 hN1
      refine k_call (va_runV (As := [.long (σj42.2.2.2 5 ((v4j42).toNatClampNeg))]) (rest := []) hcf (mX2_addNumber l D cs ad N σj42 (σj42.2.2.2 5 ((v4j42).toNatClampNeg)) σ11 k11) (kcX2_addNumber htk (kw_433 htk) ⟨Nat.le_of_ble_eq_true rfl, Nat.le_of_ble_eq_true rfl⟩) ⟨k_blind, va_recv (ci := 2) (q0 := 3) hK hw.1 rfl rfl, k_pre hK hZ hw⟩ rfl rfl hl.1 rfl (lv_room (Nat.le_of_ble_eq_true rfl)) dX2_write_56 ⟨Nat.zero_le _, Nat.zero_le _⟩) hw (fun H locs hw => ?_)
      refine lv_aload_n hx hb dX2_write_59 rfl (lv_at hl 0 rfl) ?_
      refine lv_bipush (v := 32) hx hb dX2_write_60 rfl ?_
      obtain ⟨σ12, k12, hE1⟩ := bd1_e hE1 hN1
      refine k_call (va_runV (As := [.int (32 : Int32)]) (rest := []) hcf (mX2_add l D cs ad N σ11 (32 : Int32) σ12 k12) (kcX2_add htk (kw_429 htk) ⟨Nat.le_of_ble_eq_true rfl, Nat.le_of_ble_eq_true rfl⟩) ⟨k_blind, va_recv (ci := 2) (q0 := 3) hK hw.1 rfl rfl, k_pre hK hZ hw⟩ rfl rfl hl.1 rfl (lv_room (Nat.le_of_ble_eq_true rfl)) dX2_write_62 ⟨Nat.zero_le _, Nat.zero_le _⟩) hw (fun H locs hw => ?_)
      exact J65_8 v4j42 σ12 H locs ls (lv_sub hl [0, 1, 2, 3, 4] rfl) hw hE1
  intro H locs ls hl hw
  replace hl : lv_has ls 6 [(0, .ref (ad 3)), (1, .ref (ad 5)), (2, .ref (ad 4)), (3, .ref (ad 30)), (4, .int v4h8)] := hl
  replace hw : k_H D (wK cs ad) (k_A 41 ad) σh8 s.heap H locs := hw
  refine lv_iload hx hb dX2_write_8 (lv_at hl 4 rfl) ?_
  refine lv_aload_n hx hb dX2_write_10 rfl (lv_at hl 1 rfl) ?_
  refine kg_X1_formulaCount hcf hK (kw_119 htk) (x := (σh8.1 2)) dX2_write_11 hw rfl ?_
  refine lv_icmp_ge (tgt := 109) hx hb dX2_write_14 (by decide) (fun c18 => ?_) (fun c18 => ?_)
  · have hE1 := ite_t hE1 c18
    have hq := hX1 _ hE1
    subst hq
    exact J109 σh8 H locs ls (lv_sub hl [] rfl) hw hE0
  · have hE1 := ite_f hE1 c18
    refine lv_iload hx hb dX2_write_17 (lv_at hl 4 rfl) ?_
    refine lv_if_le (tgt := 42) hx hb dX2_write_19 (by decide) (fun c17 => ?_) (fun c17 => ?_)
    · have hE1 := ite_t hE1 c17
      exact J42_8 v4h8 σh8 H locs ls (lv_sub hl [0, 1, 2, 3, 4] rfl) hw hE1
    · have hE1 := ite_f hE1 c17
      refine lv_aload_n hx hb dX2_write_22 rfl (lv_at hl 0 rfl) ?_
      refine lv_iload hx hb dX2_write_23 (lv_at hl 4 rfl) ?_
      refine lv_aload_n hx hb dX2_write_25 rfl (lv_at hl 1 rfl) ?_
      refine kg_X1_reactantCount hcf hK (kw_123 htk) (x := (σh8.1 3)) dX2_write_26 hw rfl ?_
      refine lv_icmp_ne (tgt := 37) hx hb dX2_write_29 (by decide) (fun c16 => ?_) (fun c16 => ?_)
      · have hE1 := ite_f hE1 c16
        refine lv_bipush (v := 43) hx hb dX2_write_37 rfl ?_
        obtain ⟨σ14, k14, hE1⟩ := bd1_e hE1 hN1
        refine k_call (va_runV (As := [.int (43 : Int32)]) (rest := []) hcf (mX2_addSign l D cs ad N σh8 (43 : Int32) σ14 k14) (kcX2_addSign htk (kw_425 htk) ⟨Nat.le_of_ble_eq_true rfl, Nat.le_of_ble_eq_true rfl⟩) ⟨k_blind, va_recv (ci := 2) (q0 := 3) hK hw.1 rfl rfl, k_pre hK hZ hw⟩ rfl rfl hl.1 rfl (lv_room (Nat.le_of_ble_eq_true rfl)) dX2_write_39 ⟨Nat.zero_le _, Nat.zero_le _⟩) hw (fun H locs hw => ?_)
        exact J42_8 v4h8 σ14 H locs ls (lv_sub hl [0, 1, 2, 3, 4] rfl) hw hE1
      · have hE1 := ite_t hE1 c16
        refine lv_bipush (v := 61) hx hb dX2_write_32 rfl ?_
        refine lv_goto (tgt := 39) hx hb dX2_write_34 (by decide) ?_
        obtain ⟨σ15, k15, hE1⟩ := bd1_e hE1 hN1
        refine k_call (va_runV (As := [.int (61 : Int32)]) (rest := []) hcf (mX2_addSign l D cs ad N σh8 (61 : Int32) σ15 k15) (kcX2_addSign htk (kw_425 htk) ⟨Nat.le_of_ble_eq_true rfl, Nat.le_of_ble_eq_true rfl⟩) ⟨k_blind, va_recv (ci := 2) (q0 := 3) hK hw.1 rfl rfl, k_pre hK hZ hw⟩ rfl rfl hl.1 rfl (lv_room (Nat.le_of_ble_eq_true rfl)) dX2_write_39 ⟨Nat.zero_le _, Nat.zero_le _⟩) hw (fun H locs hw => ?_)
        exact J42_8 v4h8 σ15 H locs ls (lv_sub hl [0, 1, 2, 3, 4] rfl) hw hE1
def fX4_clear (N : Nat) (σ : vS) : Option (vS) :=
  some (p_i (p_i σ 0 (0 : Int32)) 1 (0 : Int32))
abbrev rmX4_clear : Room := { frames := 0, cells := 0, slots := 0, locals := 0 }
abbrev wsX4_clear : List Cond := .code yX4_clear cX4_clear 1 none :: kws
theorem kcX4_clear {R : Room} {s : State} {args : Array Value} {own : String} {index : Nat} (htk : ∀ w ∈ kws, w.before args s = true) (hl : (Cond.methodLink own index yX4_clear).before args s = true) (hR : rmX4_clear.frames + 1 ≤ R.frames ∧ 8 + (1 + 11) + rmX4_clear.locals ≤ R.locals) : CallW R s args own RX4 index yX4_clear cX4_clear 1 none wsX4_clear rmX4_clear 0 0 0 :=
  ⟨callB_of 0 htk (k_good kc_446) rfl rfl rfl (kw_54 htk) hl (by decide +kernel) hR, (kw_444 htk), (kw_445 htk)⟩
set_option maxRecDepth 100000 in
set_option maxHeartbeats 4000000 in
theorem mX4_clear (l : Launch) (D : va_G) (cs : Nat → ClassId) (ad : Nat → Nat) (N : Nat) (σ : vS) (σ' : vS) (hf : fX4_clear N σ = some σ') : k_Met l yX4_clear wsX4_clear rmX4_clear D (tK cs) (wK cs ad) (k_A 41 ad) [.ref (ad 4)] σ none σ' := by
  refine k_of (cc := cX4_clear) (maxL := 1) (ret := none) (by decide) rfl (Nat.le_of_ble_eq_true rfl) ?_
  intro p e s m args below meth c ls H locs hcf hr hlk hK hZ hl hw
  generalize hQ0 : MQ below _ args s 0 0 _ = Q0
  obtain ⟨T0, hE0⟩ : ∃ T, T = fX4_clear N σ := ⟨_, rfl⟩
  have hR := hE0.trans hf
  have hN0 : T0 ≠ none := by rw [hR]; exact fun h => nomatch h
  have hx := hcf.1
  have hb := hcf.2.1
  have htk := hcf.2.2.2.2
  have hown := hcf.2.2.2.1
  unfold fX4_clear at hE0
  replace hl : lv_has ls 1 [(0, .ref (ad 4))] := hl
  refine lv_aload_n hx hb dX4_clear_0 rfl (lv_at hl 0 rfl) ?_
  refine lv_iconst (v := 0) hx hb dX4_clear_1 rfl ?_
  refine kp_X4_length hcf hK (kw_90 htk) dX4_clear_2 hw (fun H locs hw => ?_)
  refine lv_aload_n hx hb dX4_clear_5 rfl (lv_at hl 0 rfl) ?_
  refine lv_iconst (v := 0) hx hb dX4_clear_6 rfl ?_
  refine kp_X4_place hcf hK (kw_92 htk) dX4_clear_7 hw (fun H locs hw => ?_)
  exact kret_v hcf hr hlk hK hw (rt1 hR hE0) hQ0 dX4_clear_10
def jX5_read_81 (N : Nat) (σj81 : vS) : Option (Int32 × vS) :=
  bd1 (fX4_clear N σj81) fun σ4 =>
  if ((σ4.1 6) = 0) then (
    some ((σ4.1 2), σ4)
  ) else (
    some ((σ4.1 6), σ4)
  )
def jX5_read_47 (N : Nat) (σj47 : vS) : Option (Int32 × vS) :=
  if ((σj47.1 11) = 0) then (
    bd1 (fX2_write N σj47) fun σ6 =>
    jX5_read_81 N σ6
  ) else (
    jX5_read_81 N σj47
  )
def fX5_read (N : Nat) (σ : vS) : Option (Int32 × vS) :=
  bd1 (fX3_readEquation N σ) fun σ1 =>
  if ((σ1.1 6) = 0) then (
    bd1 (fX0_solve N σ1) fun σ8 =>
    jX5_read_47 N σ8
  ) else (
    bd1 (fX1_clear N σ1) fun σ2 =>
    bd1 (fX0_forget N σ2) fun σ3 =>
    jX5_read_47 N σ3
  )
abbrev rmX5_read : Room := { frames := 6, cells := 0, slots := 0, locals := 140 }
abbrev wsX5_read : List Cond := .code yX5_read cX5_read 2 (some .int) :: kws
theorem kcX5_read {R : Room} {s : State} {args : Array Value} {own : String} {index : Nat} (htk : ∀ w ∈ kws, w.before args s = true) (hl : (Cond.methodLink own index yX5_read).before args s = true) (hR : rmX5_read.frames + 1 ≤ R.frames ∧ 8 + (2 + 11) + rmX5_read.locals ≤ R.locals) : CallW R s args own RX5 index yX5_read cX5_read 2 (some .int) wsX5_read rmX5_read 0 0 0 :=
  ⟨callB_of 0 htk (k_good kc_252) rfl rfl rfl (kw_52 htk) hl (by decide +kernel) hR, (kw_250 htk), (kw_251 htk)⟩
set_option maxRecDepth 100000 in
set_option maxHeartbeats 4000000 in
theorem mX5_read (l : Launch) (D : va_G) (cs : Nat → ClassId) (ad : Nat → Nat) (N : Nat) (σ : vS) (r : Int32) (σ' : vS) (hf : fX5_read N σ = some (r, σ')) : k_Met l yX5_read wsX5_read rmX5_read D (tK cs) (wK cs ad) (k_A 41 ad) [.ref (ad 0)] σ (some (.int r)) σ' := by
  refine k_of (cc := cX5_read) (maxL := 2) (ret := (some .int)) (by decide) rfl (Nat.le_of_ble_eq_true rfl) ?_
  intro p e s m args below meth c ls H locs hcf hr hlk hK hZ hl hw
  generalize hQ0 : MQ below _ args s 0 0 _ = Q0
  obtain ⟨T0, hE0⟩ : ∃ T, T = fX5_read N σ := ⟨_, rfl⟩
  have hR := hE0.trans hf
  have hN0 : T0 ≠ none := by rw [hR]; exact fun h => nomatch h
  have hx := hcf.1
  have hb := hcf.2.1
  have htk := hcf.2.2.2.2
  have hown := hcf.2.2.2.1
  unfold fX5_read at hE0
  replace hl : lv_has ls 2 [(0, .ref (ad 0))] := hl
  have J81 : ∀ (σj81 : vS) (H : Heap) (locs : List Loc) (ls : Array Slot), lv_has ls 2 [(0, .ref (ad 0)), (1, .ref (ad 5))] → k_H D (wK cs ad) (k_A 41 ad) σj81 s.heap H locs → T0 = jX5_read_81 N σj81 → W p l e rmX5_read s m args below meth c H locs 0 0 Q0 (F0 m 81 ls []) := by
    intro σj81 H locs ls hl hw hE0
    unfold jX5_read_81 at hE0
    refine lv_aload_n hx hb dX5_read_81 rfl (lv_at hl 0 rfl) ?_
    refine kg_X5_reader hcf hK (kw_239 htk) dX5_read_82 hw ?_
    refine kg_X3_text hcf hK (kw_151 htk) dX5_read_85 hw ?_
    obtain ⟨σ4, k4, hE0⟩ := bd1_e hE0 hN0
    refine k_call (va_runV (As := []) (rest := []) hcf (mX4_clear l D cs ad N σj81 σ4 k4) (kcX4_clear htk (kw_443 htk) ⟨Nat.le_of_ble_eq_true rfl, Nat.le_of_ble_eq_true rfl⟩) ⟨k_blind, va_recv (ci := 4) (q0 := 4) hK hw.1 rfl rfl, k_pre hK hZ hw⟩ rfl rfl hl.1 rfl (lv_room (Nat.le_of_ble_eq_true rfl)) dX5_read_88 ⟨Nat.zero_le _, Nat.zero_le _⟩) hw (fun H locs hw => ?_)
    refine lv_aload_n hx hb dX5_read_91 rfl (lv_at hl 0 rfl) ?_
    refine kg_X5_reader hcf hK (kw_239 htk) dX5_read_92 hw ?_
    refine kg_X3_fault hcf hK (kw_155 htk) (x := (σ4.1 6)) dX5_read_95 hw rfl ?_
    refine lv_if_ne (tgt := 108) hx hb dX5_read_98 (by decide) (fun c5 => ?_) (fun c5 => ?_)
    · have hE0 := ite_f hE0 c5
      refine lv_aload_n hx hb dX5_read_108 rfl (lv_at hl 0 rfl) ?_
      refine kg_X5_reader hcf hK (kw_239 htk) dX5_read_109 hw ?_
      refine kg_X3_fault hcf hK (kw_155 htk) (x := (σ4.1 6)) dX5_read_112 hw rfl ?_
      exact kret_i hcf hr hlk hK hw (rt2 hR hE0) hQ0 dX5_read_115
    · have hE0 := ite_t hE0 c5
      refine lv_aload_n hx hb dX5_read_101 rfl (lv_at hl 1 rfl) ?_
      refine kg_X1_formulaCount hcf hK (kw_120 htk) (x := (σ4.1 2)) dX5_read_102 hw rfl ?_
      refine lv_goto (tgt := 115) hx hb dX5_read_105 (by decide) ?_
      exact kret_i hcf hr hlk hK hw (rt2 hR hE0) hQ0 dX5_read_115
  have J47 : ∀ (σj47 : vS) (H : Heap) (locs : List Loc) (ls : Array Slot), lv_has ls 2 [(0, .ref (ad 0)), (1, .ref (ad 5))] → k_H D (wK cs ad) (k_A 41 ad) σj47 s.heap H locs → T0 = jX5_read_47 N σj47 → W p l e rmX5_read s m args below meth c H locs 0 0 Q0 (F0 m 47 ls []) := by
    intro σj47 H locs ls hl hw hE0
    unfold jX5_read_47 at hE0
    refine lv_aload_n hx hb dX5_read_47 rfl (lv_at hl 0 rfl) ?_
    refine kg_X5_balance hcf hK (kw_240 htk) dX5_read_48 hw ?_
    refine kg_X0_verdict hcf hK (kw_197 htk) (x := (σj47.1 11)) dX5_read_51 hw rfl ?_
    refine lv_if_ne (tgt := 81) hx hb dX5_read_54 (by decide) (fun c7 => ?_) (fun c7 => ?_)
    · have hE0 := ite_f hE0 c7
      exact J81 σj47 H locs ls (lv_sub hl [0, 1] rfl) hw hE0
    · have hE0 := ite_t hE0 c7
      refine lv_aload_n hx hb dX5_read_57 rfl (lv_at hl 0 rfl) ?_
      refine kg_X5_line hcf hK (kw_241 htk) dX5_read_58 hw ?_
      refine lv_aload_n hx hb dX5_read_61 rfl (lv_at hl 1 rfl) ?_
      refine lv_aload_n hx hb dX5_read_62 rfl (lv_at hl 0 rfl) ?_
      refine kg_X5_reader hcf hK (kw_239 htk) dX5_read_63 hw ?_
      refine kg_X3_text hcf hK (kw_151 htk) dX5_read_66 hw ?_
      refine lv_aload_n hx hb dX5_read_69 rfl (lv_at hl 0 rfl) ?_
      refine kg_X5_balance hcf hK (kw_240 htk) dX5_read_70 hw ?_
      refine kg_X0_bases hcf hK (kw_193 htk) dX5_read_73 hw ?_
      refine lv_iconst (v := 0) hx hb dX5_read_76 rfl ?_
      refine kaald_bases hcf hK (k := 30) dX5_read_77 (by decide) (by decide) hw ?_
      obtain ⟨σ6, k6, hE0⟩ := bd1_e hE0 hN0
      refine k_call (va_runV (As := [.ref (ad 5), .ref (ad 4), .ref (ad 30)]) (rest := []) hcf (mX2_write l D cs ad N σj47 σ6 k6) (kcX2_write htk (kw_421 htk) ⟨Nat.le_of_ble_eq_true rfl, Nat.le_of_ble_eq_true rfl⟩) ⟨k_blind, va_recv (ci := 2) (q0 := 3) hK hw.1 rfl rfl, k_pre hK hZ hw⟩ rfl rfl hl.1 rfl (lv_room (Nat.le_of_ble_eq_true rfl)) dX5_read_78 ⟨Nat.zero_le _, Nat.zero_le _⟩) hw (fun H locs hw => ?_)
      exact J81 σ6 H locs ls (lv_sub hl [0, 1] rfl) hw hE0
  refine lv_aload_n hx hb dX5_read_0 rfl (lv_at hl 0 rfl) ?_
  refine kg_X5_reader hcf hK (kw_239 htk) dX5_read_1 hw ?_
  refine kg_X3_equation hcf hK (kw_153 htk) dX5_read_4 hw ?_
  refine lv_astore_n hx hb dX5_read_7 rfl hl (Nat.le_of_ble_eq_true rfl) rfl (fun ls (hl : lv_has ls 2 [(1, .ref (ad 5)), (0, .ref (ad 0))]) => ?_)
  refine lv_aload_n hx hb dX5_read_8 rfl (lv_at hl 1 rfl) ?_
  refine kg_X5_reader hcf hK (kw_239 htk) dX5_read_9 hw ?_
  obtain ⟨σ1, k1, hE0⟩ := bd1_e hE0 hN0
  refine k_call (va_runV (As := []) (rest := []) hcf (mX3_readEquation l D cs ad N σ σ1 k1) (kcX3_readEquation htk (kw_253 htk) ⟨Nat.le_of_ble_eq_true rfl, Nat.le_of_ble_eq_true rfl⟩) ⟨k_blind, va_recv (ci := 3) (q0 := 1) hK hw.1 rfl rfl, k_pre hK hZ hw⟩ rfl rfl hl.1 rfl (lv_room (Nat.le_of_ble_eq_true rfl)) dX5_read_12 ⟨Nat.zero_le _, Nat.zero_le _⟩) hw (fun H locs hw => ?_)
  refine lv_aload_n hx hb dX5_read_15 rfl (lv_at hl 1 rfl) ?_
  refine kg_X5_reader hcf hK (kw_239 htk) dX5_read_16 hw ?_
  refine kg_X3_fault hcf hK (kw_155 htk) (x := (σ1.1 6)) dX5_read_19 hw rfl ?_
  refine lv_if_ne (tgt := 36) hx hb dX5_read_22 (by decide) (fun c9 => ?_) (fun c9 => ?_)
  · have hE0 := ite_f hE0 c9
    refine lv_aload_n hx hb dX5_read_36 rfl (lv_at hl 0 rfl) ?_
    obtain ⟨σ2, k2, hE0⟩ := bd1_e hE0 hN0
    refine k_call (va_runV (As := []) (rest := []) hcf (mX1_clear l D cs ad N σ1 σ2 k2) (kcX1_clear htk (kw_416 htk) ⟨Nat.le_of_ble_eq_true rfl, Nat.le_of_ble_eq_true rfl⟩) ⟨k_blind, va_recv (ci := 1) (q0 := 5) hK hw.1 rfl rfl, k_pre hK hZ hw⟩ rfl rfl hl.1 rfl (lv_room (Nat.le_of_ble_eq_true rfl)) dX5_read_37 ⟨Nat.zero_le _, Nat.zero_le _⟩) hw (fun H locs hw => ?_)
    refine lv_aload_n hx hb dX5_read_40 rfl (lv_at hl 1 rfl) ?_
    refine kg_X5_balance hcf hK (kw_240 htk) dX5_read_41 hw ?_
    obtain ⟨σ3, k3, hE0⟩ := bd1_e hE0 hN0
    refine k_call (va_runV (As := []) (rest := []) hcf (mX0_forget l D cs ad N σ2 σ3 k3) (kcX0_forget htk (kw_417 htk) ⟨Nat.le_of_ble_eq_true rfl, Nat.le_of_ble_eq_true rfl⟩) ⟨k_blind, va_recv (ci := 0) (q0 := 2) hK hw.1 rfl rfl, k_pre hK hZ hw⟩ rfl rfl hl.1 rfl (lv_room (Nat.le_of_ble_eq_true rfl)) dX5_read_44 ⟨Nat.zero_le _, Nat.zero_le _⟩) hw (fun H locs hw => ?_)
    exact J47 σ3 H locs ls (lv_sub hl [1, 0] rfl) hw hE0
  · have hE0 := ite_t hE0 c9
    refine lv_aload_n hx hb dX5_read_25 rfl (lv_at hl 1 rfl) ?_
    refine kg_X5_balance hcf hK (kw_240 htk) dX5_read_26 hw ?_
    refine lv_aload_n hx hb dX5_read_29 rfl (lv_at hl 0 rfl) ?_
    obtain ⟨σ8, k8, hE0⟩ := bd1_e hE0 hN0
    refine k_call (va_runV (As := [.ref (ad 5)]) (rest := []) hcf (mX0_solve l D cs ad N σ1 σ8 k8) (kcX0_solve htk (kw_357 htk) ⟨Nat.le_of_ble_eq_true rfl, Nat.le_of_ble_eq_true rfl⟩) ⟨k_blind, va_recv (ci := 0) (q0 := 2) hK hw.1 rfl rfl, k_pre hK hZ hw⟩ rfl rfl hl.1 rfl (lv_room (Nat.le_of_ble_eq_true rfl)) dX5_read_30 ⟨Nat.zero_le _, Nat.zero_le _⟩) hw (fun H locs hw => ?_)
    refine lv_goto (tgt := 47) hx hb dX5_read_33 (by decide) ?_
    exact J47 σ8 H locs ls (lv_sub hl [1, 0] rfl) hw hE0
def fX5_at (N : Nat) (σ : vS) : Option (Int32) :=
  some (σ.1 7)
abbrev rmX5_at : Room := { frames := 0, cells := 0, slots := 0, locals := 0 }
abbrev wsX5_at : List Cond := .code yX5_at cX5_at 1 (some .int) :: kws
theorem kcX5_at {R : Room} {s : State} {args : Array Value} {own : String} {index : Nat} (htk : ∀ w ∈ kws, w.before args s = true) (hl : (Cond.methodLink own index yX5_at).before args s = true) (hR : rmX5_at.frames + 1 ≤ R.frames ∧ 8 + (1 + 11) + rmX5_at.locals ≤ R.locals) : CallW R s args own RX5 index yX5_at cX5_at 1 (some .int) wsX5_at rmX5_at 0 0 0 :=
  ⟨callB_of 0 htk (k_good kc_450) rfl rfl rfl (kw_52 htk) hl (by decide +kernel) hR, (kw_448 htk), (kw_449 htk)⟩
set_option maxRecDepth 100000 in
set_option maxHeartbeats 4000000 in
theorem mX5_at (l : Launch) (D : va_G) (cs : Nat → ClassId) (ad : Nat → Nat) (N : Nat) (σ : vS) (r : Int32) (hf : fX5_at N σ = some r) : k_MP l yX5_at wsX5_at rmX5_at D (tK cs) (wK cs ad) [.ref (ad 0)] σ (.int r) := by
  refine k_ofP (cc := cX5_at) (maxL := 1) (ret := (some .int)) (by decide) rfl (Nat.le_of_ble_eq_true rfl) ?_
  intro p e s m args below meth c ls hcf hr hlk hK hZ hl hw
  generalize hQ0 : MQ below _ args s 0 0 _ = Q0
  obtain ⟨T0, hE0⟩ : ∃ T, T = fX5_at N σ := ⟨_, rfl⟩
  have hR := hE0.trans hf
  have hN0 : T0 ≠ none := by rw [hR]; exact fun h => nomatch h
  have hx := hcf.1
  have hb := hcf.2.1
  have htk := hcf.2.2.2.2
  have hown := hcf.2.2.2.1
  unfold fX5_at at hE0
  replace hl : lv_has ls 1 [(0, .ref (ad 0))] := hl
  refine lv_aload_n hx hb dX5_at_0 rfl (lv_at hl 0 rfl) ?_
  refine kg_X5_reader hcf hK (kw_239 htk) dX5_at_1 hw ?_
  refine kg_X3_faultPlace hcf hK (kw_157 htk) (x := (σ.1 7)) dX5_at_4 hw rfl ?_
  exact kretP_i hcf hr hlk hK hw (rt1 hR hE0) hQ0 dX5_at_7
def fX5_state (N : Nat) (σ : vS) : Option (Int32) :=
  some (σ.1 11)
abbrev rmX5_state : Room := { frames := 0, cells := 0, slots := 0, locals := 0 }
abbrev wsX5_state : List Cond := .code yX5_state cX5_state 1 (some .int) :: kws
theorem kcX5_state {R : Room} {s : State} {args : Array Value} {own : String} {index : Nat} (htk : ∀ w ∈ kws, w.before args s = true) (hl : (Cond.methodLink own index yX5_state).before args s = true) (hR : rmX5_state.frames + 1 ≤ R.frames ∧ 8 + (1 + 11) + rmX5_state.locals ≤ R.locals) : CallW R s args own RX5 index yX5_state cX5_state 1 (some .int) wsX5_state rmX5_state 0 0 0 :=
  ⟨callB_of 0 htk (k_good kc_454) rfl rfl rfl (kw_52 htk) hl (by decide +kernel) hR, (kw_452 htk), (kw_453 htk)⟩
set_option maxRecDepth 100000 in
set_option maxHeartbeats 4000000 in
theorem mX5_state (l : Launch) (D : va_G) (cs : Nat → ClassId) (ad : Nat → Nat) (N : Nat) (σ : vS) (r : Int32) (hf : fX5_state N σ = some r) : k_MP l yX5_state wsX5_state rmX5_state D (tK cs) (wK cs ad) [.ref (ad 0)] σ (.int r) := by
  refine k_ofP (cc := cX5_state) (maxL := 1) (ret := (some .int)) (by decide) rfl (Nat.le_of_ble_eq_true rfl) ?_
  intro p e s m args below meth c ls hcf hr hlk hK hZ hl hw
  generalize hQ0 : MQ below _ args s 0 0 _ = Q0
  obtain ⟨T0, hE0⟩ : ∃ T, T = fX5_state N σ := ⟨_, rfl⟩
  have hR := hE0.trans hf
  have hN0 : T0 ≠ none := by rw [hR]; exact fun h => nomatch h
  have hx := hcf.1
  have hb := hcf.2.1
  have htk := hcf.2.2.2.2
  have hown := hcf.2.2.2.1
  unfold fX5_state at hE0
  replace hl : lv_has ls 1 [(0, .ref (ad 0))] := hl
  refine lv_aload_n hx hb dX5_state_0 rfl (lv_at hl 0 rfl) ?_
  refine kg_X5_balance hcf hK (kw_240 htk) dX5_state_1 hw ?_
  refine kg_X0_verdict hcf hK (kw_197 htk) (x := (σ.1 11)) dX5_state_4 hw rfl ?_
  exact kretP_i hcf hr hlk hK hw (rt1 hR hE0) hQ0 dX5_state_7
def fX5_freedom (N : Nat) (σ : vS) : Option (Int32) :=
  if ((σ.1 11) = (-1 : Int32)) then (
    some (-1 : Int32)
  ) else (
    some (σ.1 10)
  )
abbrev rmX5_freedom : Room := { frames := 0, cells := 0, slots := 0, locals := 0 }
abbrev wsX5_freedom : List Cond := .code yX5_freedom cX5_freedom 1 (some .int) :: kws
theorem kcX5_freedom {R : Room} {s : State} {args : Array Value} {own : String} {index : Nat} (htk : ∀ w ∈ kws, w.before args s = true) (hl : (Cond.methodLink own index yX5_freedom).before args s = true) (hR : rmX5_freedom.frames + 1 ≤ R.frames ∧ 8 + (1 + 11) + rmX5_freedom.locals ≤ R.locals) : CallW R s args own RX5 index yX5_freedom cX5_freedom 1 (some .int) wsX5_freedom rmX5_freedom 0 0 0 :=
  ⟨callB_of 0 htk (k_good kc_458) rfl rfl rfl (kw_52 htk) hl (by decide +kernel) hR, (kw_456 htk), (kw_457 htk)⟩
set_option maxRecDepth 100000 in
set_option maxHeartbeats 4000000 in
theorem mX5_freedom (l : Launch) (D : va_G) (cs : Nat → ClassId) (ad : Nat → Nat) (N : Nat) (σ : vS) (r : Int32) (hf : fX5_freedom N σ = some r) : k_MP l yX5_freedom wsX5_freedom rmX5_freedom D (tK cs) (wK cs ad) [.ref (ad 0)] σ (.int r) := by
  refine k_ofP (cc := cX5_freedom) (maxL := 1) (ret := (some .int)) (by decide) rfl (Nat.le_of_ble_eq_true rfl) ?_
  intro p e s m args below meth c ls hcf hr hlk hK hZ hl hw
  generalize hQ0 : MQ below _ args s 0 0 _ = Q0
  obtain ⟨T0, hE0⟩ : ∃ T, T = fX5_freedom N σ := ⟨_, rfl⟩
  have hR := hE0.trans hf
  have hN0 : T0 ≠ none := by rw [hR]; exact fun h => nomatch h
  have hx := hcf.1
  have hb := hcf.2.1
  have htk := hcf.2.2.2.2
  have hown := hcf.2.2.2.1
  unfold fX5_freedom at hE0
  replace hl : lv_has ls 1 [(0, .ref (ad 0))] := hl
  refine lv_aload_n hx hb dX5_freedom_0 rfl (lv_at hl 0 rfl) ?_
  refine kg_X5_balance hcf hK (kw_240 htk) dX5_freedom_1 hw ?_
  refine kg_X0_verdict hcf hK (kw_197 htk) (x := (σ.1 11)) dX5_freedom_4 hw rfl ?_
  refine lv_iconst (v := -1) hx hb dX5_freedom_7 rfl ?_
  refine lv_icmp_ne (tgt := 15) hx hb dX5_freedom_8 (by decide) (fun c1 => ?_) (fun c1 => ?_)
  · have hE0 := ite_f hE0 c1
    refine lv_aload_n hx hb dX5_freedom_15 rfl (lv_at hl 0 rfl) ?_
    refine kg_X5_balance hcf hK (kw_240 htk) dX5_freedom_16 hw ?_
    refine kg_X0_freeCount hcf hK (kw_195 htk) (x := (σ.1 10)) dX5_freedom_19 hw rfl ?_
    exact kretP_i hcf hr hlk hK hw (rt1 hR hE0) hQ0 dX5_freedom_22
  · have hE0 := ite_t hE0 c1
    refine lv_iconst (v := -1) hx hb dX5_freedom_11 rfl ?_
    refine lv_goto (tgt := 22) hx hb dX5_freedom_12 (by decide) ?_
    exact kretP_i hcf hr hlk hK hw (rt1 hR hE0) hQ0 dX5_freedom_22
def fX5_formulas (N : Nat) (σ : vS) : Option (Int32) :=
  some (σ.1 2)
abbrev rmX5_formulas : Room := { frames := 0, cells := 0, slots := 0, locals := 0 }
abbrev wsX5_formulas : List Cond := .code yX5_formulas cX5_formulas 1 (some .int) :: kws
theorem kcX5_formulas {R : Room} {s : State} {args : Array Value} {own : String} {index : Nat} (htk : ∀ w ∈ kws, w.before args s = true) (hl : (Cond.methodLink own index yX5_formulas).before args s = true) (hR : rmX5_formulas.frames + 1 ≤ R.frames ∧ 8 + (1 + 11) + rmX5_formulas.locals ≤ R.locals) : CallW R s args own RX5 index yX5_formulas cX5_formulas 1 (some .int) wsX5_formulas rmX5_formulas 0 0 0 :=
  ⟨callB_of 0 htk (k_good kc_462) rfl rfl rfl (kw_52 htk) hl (by decide +kernel) hR, (kw_460 htk), (kw_461 htk)⟩
set_option maxRecDepth 100000 in
set_option maxHeartbeats 4000000 in
theorem mX5_formulas (l : Launch) (D : va_G) (cs : Nat → ClassId) (ad : Nat → Nat) (N : Nat) (σ : vS) (r : Int32) (hf : fX5_formulas N σ = some r) : k_MP l yX5_formulas wsX5_formulas rmX5_formulas D (tK cs) (wK cs ad) [.ref (ad 0)] σ (.int r) := by
  refine k_ofP (cc := cX5_formulas) (maxL := 1) (ret := (some .int)) (by decide) rfl (Nat.le_of_ble_eq_true rfl) ?_
  intro p e s m args below meth c ls hcf hr hlk hK hZ hl hw
  generalize hQ0 : MQ below _ args s 0 0 _ = Q0
  obtain ⟨T0, hE0⟩ : ∃ T, T = fX5_formulas N σ := ⟨_, rfl⟩
  have hR := hE0.trans hf
  have hN0 : T0 ≠ none := by rw [hR]; exact fun h => nomatch h
  have hx := hcf.1
  have hb := hcf.2.1
  have htk := hcf.2.2.2.2
  have hown := hcf.2.2.2.1
  unfold fX5_formulas at hE0
  replace hl : lv_has ls 1 [(0, .ref (ad 0))] := hl
  refine lv_aload_n hx hb dX5_formulas_0 rfl (lv_at hl 0 rfl) ?_
  refine kg_X5_reader hcf hK (kw_239 htk) dX5_formulas_1 hw ?_
  refine kg_X3_equation hcf hK (kw_153 htk) dX5_formulas_4 hw ?_
  refine kg_X1_formulaCount hcf hK (kw_120 htk) (x := (σ.1 2)) dX5_formulas_7 hw rfl ?_
  exact kretP_i hcf hr hlk hK hw (rt1 hR hE0) hQ0 dX5_formulas_10
def fX5_kinds (N : Nat) (σ : vS) : Option (Int32) :=
  bd1 (fX1_kindCount N σ) fun r1 =>
  some r1
abbrev rmX5_kinds : Room := { frames := 1, cells := 0, slots := 0, locals := 20 }
abbrev wsX5_kinds : List Cond := .code yX5_kinds cX5_kinds 1 (some .int) :: kws
theorem kcX5_kinds {R : Room} {s : State} {args : Array Value} {own : String} {index : Nat} (htk : ∀ w ∈ kws, w.before args s = true) (hl : (Cond.methodLink own index yX5_kinds).before args s = true) (hR : rmX5_kinds.frames + 1 ≤ R.frames ∧ 8 + (1 + 11) + rmX5_kinds.locals ≤ R.locals) : CallW R s args own RX5 index yX5_kinds cX5_kinds 1 (some .int) wsX5_kinds rmX5_kinds 0 0 0 :=
  ⟨callB_of 0 htk (k_good kc_466) rfl rfl rfl (kw_52 htk) hl (by decide +kernel) hR, (kw_464 htk), (kw_465 htk)⟩
set_option maxRecDepth 100000 in
set_option maxHeartbeats 4000000 in
theorem mX5_kinds (l : Launch) (D : va_G) (cs : Nat → ClassId) (ad : Nat → Nat) (N : Nat) (σ : vS) (r : Int32) (hf : fX5_kinds N σ = some r) : k_MP l yX5_kinds wsX5_kinds rmX5_kinds D (tK cs) (wK cs ad) [.ref (ad 0)] σ (.int r) := by
  refine k_ofP (cc := cX5_kinds) (maxL := 1) (ret := (some .int)) (by decide) rfl (Nat.le_of_ble_eq_true rfl) ?_
  intro p e s m args below meth c ls hcf hr hlk hK hZ hl hw
  generalize hQ0 : MQ below _ args s 0 0 _ = Q0
  obtain ⟨T0, hE0⟩ : ∃ T, T = fX5_kinds N σ := ⟨_, rfl⟩
  have hR := hE0.trans hf
  have hN0 : T0 ≠ none := by rw [hR]; exact fun h => nomatch h
  have hx := hcf.1
  have hb := hcf.2.1
  have htk := hcf.2.2.2.2
  have hown := hcf.2.2.2.1
  unfold fX5_kinds at hE0
  replace hl : lv_has ls 1 [(0, .ref (ad 0))] := hl
  refine lv_aload_n hx hb dX5_kinds_0 rfl (lv_at hl 0 rfl) ?_
  refine kg_X5_reader hcf hK (kw_239 htk) dX5_kinds_1 hw ?_
  refine kg_X3_equation hcf hK (kw_153 htk) dX5_kinds_4 hw ?_
  obtain ⟨r1, k1, hE0⟩ := bd1_e hE0 hN0
  refine k_callP (va_runV (As := []) (rest := []) hcf (mX1_kindCount l D cs ad N σ r1 k1) (kcX1_kindCount htk (kw_467 htk) ⟨Nat.le_of_ble_eq_true rfl, Nat.le_of_ble_eq_true rfl⟩) ⟨k_blind, va_recv (ci := 1) (q0 := 5) hK hw.1 rfl rfl, k_pre hK hZ hw⟩ rfl rfl hl.1 rfl (lv_room (Nat.le_of_ble_eq_true rfl)) dX5_kinds_7 ⟨Nat.zero_le _, Nat.zero_le _⟩) ?_
  exact kretP_i hcf hr hlk hK hw (rt1 hR hE0) hQ0 dX5_kinds_10
def fX1_containsKind (N : Nat) (σ : vS) (p1 : Int32) : Option (Int32) :=
  if (p1 < 0) then (
    some (0 : Int32)
  ) else (
    bd1 (fX1_kindCount N σ) fun r1 =>
    if (r1 ≤ p1) then (
      some (0 : Int32)
    ) else (
      some (1 : Int32)
    )
  )
abbrev rmX1_containsKind : Room := { frames := 1, cells := 0, slots := 0, locals := 20 }
abbrev wsX1_containsKind : List Cond := .code yX1_containsKind cX1_containsKind 2 (some .boolean) :: kws
theorem kcX1_containsKind {R : Room} {s : State} {args : Array Value} {own : String} {index : Nat} (htk : ∀ w ∈ kws, w.before args s = true) (hl : (Cond.methodLink own index yX1_containsKind).before args s = true) (hR : rmX1_containsKind.frames + 1 ≤ R.frames ∧ 8 + (2 + 11) + rmX1_containsKind.locals ≤ R.locals) : CallW R s args own RX1 index yX1_containsKind cX1_containsKind 2 (some .boolean) wsX1_containsKind rmX1_containsKind 0 0 1 :=
  ⟨callB_of 1 htk (k_good kc_580) rfl rfl rfl (kw_55 htk) hl (by decide +kernel) hR, (kw_578 htk), (kw_579 htk)⟩
set_option maxRecDepth 100000 in
set_option maxHeartbeats 4000000 in
theorem mX1_containsKind (l : Launch) (D : va_G) (cs : Nat → ClassId) (ad : Nat → Nat) (N : Nat) (σ : vS) (p1 : Int32) (r : Int32) (hf : fX1_containsKind N σ p1 = some r) : k_MP l yX1_containsKind wsX1_containsKind rmX1_containsKind D (tK cs) (wK cs ad) [.ref (ad 5), .int p1] σ (.int r) := by
  refine k_ofP (cc := cX1_containsKind) (maxL := 2) (ret := (some .boolean)) (by decide) rfl (Nat.le_of_ble_eq_true rfl) ?_
  intro p e s m args below meth c ls hcf hr hlk hK hZ hl hw
  generalize hQ0 : MQ below _ args s 0 0 _ = Q0
  obtain ⟨T0, hE0⟩ : ∃ T, T = fX1_containsKind N σ p1 := ⟨_, rfl⟩
  have hR := hE0.trans hf
  have hN0 : T0 ≠ none := by rw [hR]; exact fun h => nomatch h
  have hx := hcf.1
  have hb := hcf.2.1
  have htk := hcf.2.2.2.2
  have hown := hcf.2.2.2.1
  unfold fX1_containsKind at hE0
  replace hl : lv_has ls 2 [(0, .ref (ad 5)), (1, .int p1)] := hl
  refine lv_iload_n hx hb dX1_containsKind_0 rfl (lv_at hl 1 rfl) ?_
  refine lv_if_lt (tgt := 16) hx hb dX1_containsKind_1 (by decide) (fun c3 => ?_) (fun c3 => ?_)
  · have hE0 := ite_t hE0 c3
    refine lv_iconst (v := 0) hx hb dX1_containsKind_16 rfl ?_
    exact kretP_z hcf hr hlk hK hw (rt1 hR hE0) hQ0 rfl dX1_containsKind_17
  · have hE0 := ite_f hE0 c3
    refine lv_iload_n hx hb dX1_containsKind_4 rfl (lv_at hl 1 rfl) ?_
    refine lv_aload_n hx hb dX1_containsKind_5 rfl (lv_at hl 0 rfl) ?_
    obtain ⟨r1, k1, hE0⟩ := bd1_e hE0 hN0
    refine k_callP (va_runV (As := []) (rest := [.int p1]) hcf (mX1_kindCount l D cs ad N σ r1 k1) (kcX1_kindCount htk (kw_321 htk) ⟨Nat.le_of_ble_eq_true rfl, Nat.le_of_ble_eq_true rfl⟩) ⟨k_blind, va_recv (ci := 1) (q0 := 5) hK hw.1 rfl rfl, k_pre hK hZ hw⟩ rfl rfl hl.1 rfl (lv_room (Nat.le_of_ble_eq_true rfl)) dX1_containsKind_6 ⟨Nat.zero_le _, Nat.zero_le _⟩) ?_
    refine lv_icmp_ge (tgt := 16) hx hb dX1_containsKind_9 (by decide) (fun c2 => ?_) (fun c2 => ?_)
    · have hE0 := ite_t hE0 c2
      refine lv_iconst (v := 0) hx hb dX1_containsKind_16 rfl ?_
      exact kretP_z hcf hr hlk hK hw (rt1 hR hE0) hQ0 rfl dX1_containsKind_17
    · have hE0 := ite_f hE0 c2
      refine lv_iconst (v := 1) hx hb dX1_containsKind_12 rfl ?_
      refine lv_goto (tgt := 17) hx hb dX1_containsKind_13 (by decide) ?_
      exact kretP_z hcf hr hlk hK hw (rt1 hR hE0) hQ0 rfl dX1_containsKind_17
def fX1_kindName (N : Nat) (σ : vS) (p1 : Int32) : Option (Int32) :=
  if ((σ.1 4) ≤ p1) then (
    some (0 : Int32)
  ) else (
    if (p1 < 0 ∨ 5 ≤ (p1).toNatClampNeg) then none else
    some (σ.2.1 1 ((p1).toNatClampNeg))
  )
abbrev rmX1_kindName : Room := { frames := 0, cells := 0, slots := 0, locals := 0 }
abbrev wsX1_kindName : List Cond := .code yX1_kindName cX1_kindName 2 (some .int) :: kws
theorem kcX1_kindName {R : Room} {s : State} {args : Array Value} {own : String} {index : Nat} (htk : ∀ w ∈ kws, w.before args s = true) (hl : (Cond.methodLink own index yX1_kindName).before args s = true) (hR : rmX1_kindName.frames + 1 ≤ R.frames ∧ 8 + (2 + 11) + rmX1_kindName.locals ≤ R.locals) : CallW R s args own RX1 index yX1_kindName cX1_kindName 2 (some .int) wsX1_kindName rmX1_kindName 0 0 1 :=
  ⟨callB_of 1 htk (k_good kc_599) rfl rfl rfl (kw_55 htk) hl (by decide +kernel) hR, (kw_597 htk), (kw_598 htk)⟩
set_option maxRecDepth 100000 in
set_option maxHeartbeats 4000000 in
theorem mX1_kindName (l : Launch) (D : va_G) (cs : Nat → ClassId) (ad : Nat → Nat) (N : Nat) (σ : vS) (p1 : Int32) (r : Int32) (hf : fX1_kindName N σ p1 = some r) : k_MP l yX1_kindName wsX1_kindName rmX1_kindName D (tK cs) (wK cs ad) [.ref (ad 5), .int p1] σ (.int r) := by
  refine k_ofP (cc := cX1_kindName) (maxL := 2) (ret := (some .int)) (by decide) rfl (Nat.le_of_ble_eq_true rfl) ?_
  intro p e s m args below meth c ls hcf hr hlk hK hZ hl hw
  generalize hQ0 : MQ below _ args s 0 0 _ = Q0
  obtain ⟨T0, hE0⟩ : ∃ T, T = fX1_kindName N σ p1 := ⟨_, rfl⟩
  have hR := hE0.trans hf
  have hN0 : T0 ≠ none := by rw [hR]; exact fun h => nomatch h
  have hx := hcf.1
  have hb := hcf.2.1
  have htk := hcf.2.2.2.2
  have hown := hcf.2.2.2.1
  unfold fX1_kindName at hE0
  replace hl : lv_has ls 2 [(0, .ref (ad 5)), (1, .int p1)] := hl
  refine lv_iload_n hx hb dX1_kindName_0 rfl (lv_at hl 1 rfl) ?_
  refine lv_aload_n hx hb dX1_kindName_1 rfl (lv_at hl 0 rfl) ?_
  refine kg_X1_elementCount hcf hK (kw_126 htk) (x := (σ.1 4)) dX1_kindName_2 hw rfl ?_
  refine lv_icmp_ge (tgt := 17) hx hb dX1_kindName_5 (by decide) (fun c2 => ?_) (fun c2 => ?_)
  · have hE0 := ite_t hE0 c2
    refine lv_iconst (v := 0) hx hb dX1_kindName_17 rfl ?_
    exact kretP_i hcf hr hlk hK hw (rt1 hR hE0) hQ0 dX1_kindName_18
  · have hE0 := ite_f hE0 c2
    refine lv_aload_n hx hb dX1_kindName_8 rfl (lv_at hl 0 rfl) ?_
    refine kg_X1_elementNames hcf hK (kw_110 htk) dX1_kindName_9 hw ?_
    refine lv_iload_n hx hb dX1_kindName_12 rfl (lv_at hl 1 rfl) ?_
    obtain ⟨g1, hE0⟩ := gd_e hE0 hN0
    refine kald_A1 hcf hK (x := (σ.2.1 1 ((p1).toNatClampNeg))) dX1_kindName_13 g1 hw rfl ?_
    refine lv_goto (tgt := 18) hx hb dX1_kindName_14 (by decide) ?_
    exact kretP_i hcf hr hlk hK hw (rt1 hR hE0) hQ0 dX1_kindName_18
def fX2_characterAt (N : Nat) (σ : vS) (p1 : Int32) : Option (Int32) :=
  if (p1 < 0) then (
    some (-1 : Int32)
  ) else (
    if ((σ.1 15) ≤ p1) then (
      some (-1 : Int32)
    ) else (
      if (p1 < 0 ∨ 200 ≤ (p1).toNatClampNeg) then none else
      some (σ.2.1 8 ((p1).toNatClampNeg))
    )
  )
abbrev rmX2_characterAt : Room := { frames := 0, cells := 0, slots := 0, locals := 0 }
abbrev wsX2_characterAt : List Cond := .code yX2_characterAt cX2_characterAt 2 (some .int) :: kws
theorem kcX2_characterAt {R : Room} {s : State} {args : Array Value} {own : String} {index : Nat} (htk : ∀ w ∈ kws, w.before args s = true) (hl : (Cond.methodLink own index yX2_characterAt).before args s = true) (hR : rmX2_characterAt.frames + 1 ≤ R.frames ∧ 8 + (2 + 11) + rmX2_characterAt.locals ≤ R.locals) : CallW R s args own RX2 index yX2_characterAt cX2_characterAt 2 (some .int) wsX2_characterAt rmX2_characterAt 0 0 1 :=
  ⟨callB_of 1 htk (k_good kc_664) rfl rfl rfl (kw_57 htk) hl (by decide +kernel) hR, (kw_662 htk), (kw_663 htk)⟩
set_option maxRecDepth 100000 in
set_option maxHeartbeats 4000000 in
theorem mX2_characterAt (l : Launch) (D : va_G) (cs : Nat → ClassId) (ad : Nat → Nat) (N : Nat) (σ : vS) (p1 : Int32) (r : Int32) (hf : fX2_characterAt N σ p1 = some r) : k_MP l yX2_characterAt wsX2_characterAt rmX2_characterAt D (tK cs) (wK cs ad) [.ref (ad 3), .int p1] σ (.int r) := by
  refine k_ofP (cc := cX2_characterAt) (maxL := 2) (ret := (some .int)) (by decide) rfl (Nat.le_of_ble_eq_true rfl) ?_
  intro p e s m args below meth c ls hcf hr hlk hK hZ hl hw
  generalize hQ0 : MQ below _ args s 0 0 _ = Q0
  obtain ⟨T0, hE0⟩ : ∃ T, T = fX2_characterAt N σ p1 := ⟨_, rfl⟩
  have hR := hE0.trans hf
  have hN0 : T0 ≠ none := by rw [hR]; exact fun h => nomatch h
  have hx := hcf.1
  have hb := hcf.2.1
  have htk := hcf.2.2.2.2
  have hown := hcf.2.2.2.1
  unfold fX2_characterAt at hE0
  replace hl : lv_has ls 2 [(0, .ref (ad 3)), (1, .int p1)] := hl
  refine lv_iload_n hx hb dX2_characterAt_0 rfl (lv_at hl 1 rfl) ?_
  refine lv_if_lt (tgt := 21) hx hb dX2_characterAt_1 (by decide) (fun c3 => ?_) (fun c3 => ?_)
  · have hE0 := ite_t hE0 c3
    refine lv_iconst (v := -1) hx hb dX2_characterAt_21 rfl ?_
    exact kretP_i hcf hr hlk hK hw (rt1 hR hE0) hQ0 dX2_characterAt_22
  · have hE0 := ite_f hE0 c3
    refine lv_iload_n hx hb dX2_characterAt_4 rfl (lv_at hl 1 rfl) ?_
    refine lv_aload_n hx hb dX2_characterAt_5 rfl (lv_at hl 0 rfl) ?_
    refine kg_X2_length hcf hK (kw_233 htk) (x := (σ.1 15)) dX2_characterAt_6 hw rfl ?_
    refine lv_icmp_ge (tgt := 21) hx hb dX2_characterAt_9 (by decide) (fun c2 => ?_) (fun c2 => ?_)
    · have hE0 := ite_t hE0 c2
      refine lv_iconst (v := -1) hx hb dX2_characterAt_21 rfl ?_
      exact kretP_i hcf hr hlk hK hw (rt1 hR hE0) hQ0 dX2_characterAt_22
    · have hE0 := ite_f hE0 c2
      refine lv_aload_n hx hb dX2_characterAt_12 rfl (lv_at hl 0 rfl) ?_
      refine kg_X2_characters hcf hK (kw_232 htk) dX2_characterAt_13 hw ?_
      refine lv_iload_n hx hb dX2_characterAt_16 rfl (lv_at hl 1 rfl) ?_
      obtain ⟨g1, hE0⟩ := gd_e hE0 hN0
      refine kald_A8 hcf hK (x := (σ.2.1 8 ((p1).toNatClampNeg))) dX2_characterAt_17 g1 hw rfl ?_
      refine lv_goto (tgt := 22) hx hb dX2_characterAt_18 (by decide) ?_
      exact kretP_i hcf hr hlk hK hw (rt1 hR hE0) hQ0 dX2_characterAt_22
