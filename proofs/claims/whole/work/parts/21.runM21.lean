def jX6_element_129 (N : Nat) (σj129 : vS) (v2j129 : Int32) : Option (Int32 × vS) :=
  if ((σj129.1 4) = 0) then (
    if ((σj129.1 9) < 0 ∨ 5 ≤ ((σj129.1 9)).toNatClampNeg) then none else
    some ((((σj129.1 9) + (1 : Int32)) - (1 : Int32)), (p_i (p_a σj129 5 (((σj129.1 9)).toNatClampNeg) v2j129) 9 ((σj129.1 9) + (1 : Int32))))
  ) else (
    some ((0 : Int32), σj129)
  )
def jX6_element_96 (N : Nat) (σj96 : vS) (v1j96 : Int32) (v2j96 : Int32) : Option (Int32 × vS) :=
  if ((σj96.1 10) = 0) then (
    if (((σj96.1 9) + (0 : Int32)) = (5 : Int32)) then (
      bd1 (fX6_failIf N σj96 (1 : Int32) (-5 : Int32) v1j96) fun σ8 =>
      jX6_element_129 N σ8 v2j96
    ) else (
      bd1 (fX6_failIf N σj96 (0 : Int32) (-5 : Int32) v1j96) fun σ5 =>
      jX6_element_129 N σ5 v2j96
    )
  ) else (
    if (((σj96.1 9) + (1 : Int32)) = (5 : Int32)) then (
      bd1 (fX6_failIf N σj96 (1 : Int32) (-5 : Int32) v1j96) fun σ11 =>
      jX6_element_129 N σ11 v2j96
    ) else (
      bd1 (fX6_failIf N σj96 (0 : Int32) (-5 : Int32) v1j96) fun σ10 =>
      jX6_element_129 N σ10 v2j96
    )
  )
def bX6_element_67 (N : Nat) (σj64 : vS) (v1j64 : Int32) (v2j64 : Int32) (v4h67 : Int32) : Option ((Int32) ⊕ ((Unit) ⊕ (Int32 × vS))) :=
  if ((σj64.1 9) ≤ v4h67) then (
    some (.inr (.inl ()))
  ) else (
    if (v4h67 < 0 ∨ 5 ≤ (v4h67).toNatClampNeg) then none else
    if ((σj64.2.1 5 ((v4h67).toNatClampNeg)) = v2j64) then (
      some (.inr (.inr (v4h67, σj64)))
    ) else (
      k_lt (v4h67 + (1 : Int32)) fun x15 =>
      some (.inl x15)
    )
  )
def jX6_element_64 (N : Nat) (σj64 : vS) (v1j64 : Int32) (v2j64 : Int32) : Option (Int32 × vS) :=
  bds (k_itr (fun zz => bX6_element_67 N σj64 v1j64 v2j64 zz) N (0 : Int32)) fun _ => jX6_element_96 N σj64 v1j64 v2j64
def fX6_element (N : Nat) (σ : vS) : Option (Int32 × vS) :=
  k_lt (σ.1 3) fun x1 =>
  if ((σ.1 3) < 0 ∨ 100 ≤ ((σ.1 3)).toNatClampNeg) then none else
  k_lt (σ.2.1 1 (((σ.1 3)).toNatClampNeg)) fun x3 =>
  bd1 (fX6_charAt N (p_i σ 3 ((σ.1 3) + (1 : Int32))) ((σ.1 3) + (1 : Int32))) fun r4 =>
  if (r4 < (97 : Int32)) then (
    jX6_element_64 N (p_i σ 3 ((σ.1 3) + (1 : Int32))) x1 x3
  ) else (
    if ((122 : Int32) < r4) then (
      jX6_element_64 N (p_i σ 3 ((σ.1 3) + (1 : Int32))) x1 x3
    ) else (
      k_lt (x3 + ((256 : Int32) * r4)) fun x18 =>
      jX6_element_64 N (p_i (p_i σ 3 ((σ.1 3) + (1 : Int32))) 3 (((σ.1 3) + (1 : Int32)) + (1 : Int32))) x1 x18
    )
  )
abbrev rmX6_element : Room := { frames := 2, cells := 0, slots := 0, locals := 45 }
abbrev wsX6_element : List Cond := .code yX6_element cX6_element 5 (some .int) :: kws
theorem kcX6_element {R : Room} {s : State} {args : Array Value} {own : String} {index : Nat} (htk : ∀ w ∈ kws, w.before args s = true) (hl : (Cond.methodLink own index yX6_element).before args s = true) (hR : rmX6_element.frames + 1 ≤ R.frames ∧ 8 + (5 + 11) + rmX6_element.locals ≤ R.locals) : CallW R s args own RX6 index yX6_element cX6_element 5 (some .int) wsX6_element rmX6_element 0 0 0 :=
  ⟨callB_of 0 htk (k_good kc_842) rfl rfl rfl (kw_58 htk) hl (by decide +kernel) hR, (kw_841 htk), (kw_36 htk)⟩
set_option maxRecDepth 100000 in
set_option maxHeartbeats 4000000 in
theorem mX6_element (l : Launch) (D : va_G) (cs : Nat → ClassId) (ad : Nat → Nat) (N : Nat) (σ : vS) (r : Int32) (σ' : vS) (hf : fX6_element N σ = some (r, σ')) : k_Met l yX6_element wsX6_element rmX6_element D (tM cs) (wM cs ad) (k_A 17 ad) [.ref (ad 0)] σ (some (.int r)) σ' := by
  refine k_of (cc := cX6_element) (maxL := 5) (ret := (some .int)) (by decide) rfl (Nat.le_of_ble_eq_true rfl) ?_
  intro p e s m args below meth c ls H locs hcf hr hlk hK hZ hl hw
  generalize hQ0 : MQ below _ args s 0 0 _ = Q0
  obtain ⟨T0, hE0⟩ : ∃ T, T = fX6_element N σ := ⟨_, rfl⟩
  have hR := hE0.trans hf
  have hN0 : T0 ≠ none := by rw [hR]; exact fun h => nomatch h
  have hx := hcf.1
  have hb := hcf.2.1
  have htk := hcf.2.2.2.2
  have hown := hcf.2.2.2.1
  unfold fX6_element at hE0
  replace hl : lv_has ls 5 [(0, .ref (ad 0))] := hl
  have J129 : ∀ (v2j129 : Int32) (σj129 : vS) (H : Heap) (locs : List Loc) (ls : Array Slot), lv_has ls 5 [(0, .ref (ad 0)), (2, .int v2j129)] → k_H D (wM cs ad) (k_A 17 ad) σj129 s.heap H locs → T0 = jX6_element_129 N σj129 v2j129 → W p l e rmX6_element s m args below meth c H locs 0 0 Q0 (F0 m 129 ls []) := by
    intro v2j129 σj129 H locs ls hl hw hE0
    unfold jX6_element_129 at hE0
    refine lv_aload_n hx hb dX6_element_129 rfl (lv_at hl 0 rfl) ?_
    refine kg_X6_fault hcf hK (kw_685 htk) (x := (σj129.1 4)) dX6_element_130 hw rfl ?_
    refine lv_if_eq (tgt := 138) hx hb dX6_element_133 (by decide) (fun c7 => ?_) (fun c7 => ?_)
    · have hE0 := ite_t hE0 c7
      refine lv_aload_n hx hb dX6_element_138 rfl (lv_at hl 0 rfl) ?_
      refine kg_X6_names hcf hK (kw_696 htk) dX6_element_139 hw ?_
      refine lv_aload_n hx hb dX6_element_142 rfl (lv_at hl 0 rfl) ?_
      refine kg_X6_elements hcf hK (kw_695 htk) (x := (σj129.1 9)) dX6_element_143 hw rfl ?_
      refine lv_iload_n hx hb dX6_element_146 rfl (lv_at hl 1 rfl) ?_
      obtain ⟨g6, hE0⟩ := gd_e hE0 hN0
      refine mast_A5 hcf hK dX6_element_147 g6 hw (fun H locs hw => ?_)
      refine lv_aload_n hx hb dX6_element_148 rfl (lv_at hl 0 rfl) ?_
      refine lv_dup hx hb dX6_element_149 rfl ?_
      refine kg_X6_elements hcf hK (kw_695 htk) (x := (σj129.1 9)) dX6_element_150 hw rfl ?_
      refine lv_iconst (v := 1) hx hb dX6_element_153 rfl ?_
      refine lv_iadd hx hb dX6_element_154 ?_
      refine kp_X6_elements hcf hK (kw_695 htk) dX6_element_155 hw (fun H locs hw => ?_)
      refine lv_aload_n hx hb dX6_element_158 rfl (lv_at hl 0 rfl) ?_
      refine kg_X6_elements hcf hK (kw_695 htk) (x := ((σj129.1 9) + (1 : Int32))) dX6_element_159 hw rfl ?_
      refine lv_iconst (v := 1) hx hb dX6_element_162 rfl ?_
      refine lv_isub hx hb dX6_element_163 ?_
      exact kret_i hcf hr hlk hK hw (rt2 hR hE0) hQ0 dX6_element_164
    · have hE0 := ite_f hE0 c7
      refine lv_iconst (v := 0) hx hb dX6_element_136 rfl ?_
      exact kret_i hcf hr hlk hK hw (rt2 hR hE0) hQ0 dX6_element_137
  have J96 : ∀ (v1j96 : Int32) (v2j96 : Int32) (σj96 : vS) (H : Heap) (locs : List Loc) (ls : Array Slot), lv_has ls 5 [(0, .ref (ad 0)), (1, .int v1j96), (2, .int v2j96)] → k_H D (wM cs ad) (k_A 17 ad) σj96 s.heap H locs → T0 = jX6_element_96 N σj96 v1j96 v2j96 → W p l e rmX6_element s m args below meth c H locs 0 0 Q0 (F0 m 96 ls []) := by
    intro v1j96 v2j96 σj96 H locs ls hl hw hE0
    unfold jX6_element_96 at hE0
    refine lv_aload_n hx hb dX6_element_96 rfl (lv_at hl 0 rfl) ?_
    refine lv_aload_n hx hb dX6_element_97 rfl (lv_at hl 0 rfl) ?_
    refine kg_X6_elements hcf hK (kw_695 htk) (x := (σj96.1 9)) dX6_element_98 hw rfl ?_
    refine lv_aload_n hx hb dX6_element_101 rfl (lv_at hl 0 rfl) ?_
    refine kg_X6_charged hcf hK (kw_697 htk) (x := (σj96.1 10)) dX6_element_102 hw rfl ?_
    refine lv_if_eq (tgt := 112) hx hb dX6_element_105 (by decide) (fun c13 => ?_) (fun c13 => ?_)
    · have hE0 := ite_t hE0 c13
      refine lv_iconst (v := 0) hx hb dX6_element_112 rfl ?_
      refine lv_iadd hx hb dX6_element_113 ?_
      refine lv_iconst (v := 5) hx hb dX6_element_114 rfl ?_
      refine lv_icmp_ne (tgt := 122) hx hb dX6_element_115 (by decide) (fun c9 => ?_) (fun c9 => ?_)
      · have hE0 := ite_f hE0 c9
        refine lv_iconst (v := 0) hx hb dX6_element_122 rfl ?_
        refine lv_bipush (v := -5) hx hb dX6_element_123 rfl ?_
        refine lv_iload_n hx hb dX6_element_125 rfl (lv_at hl 1 rfl) ?_
        obtain ⟨σ5, k5, hE0⟩ := bd1_e hE0 hN0
        refine k_call (va_runV (As := [.int (0 : Int32), .int (-5 : Int32), .int v1j96]) (rest := []) hcf (mX6_failIf l D cs ad N σj96 (0 : Int32) (-5 : Int32) v1j96 σ5 k5) (kcX6_failIf htk (kw_800 htk) ⟨Nat.le_of_ble_eq_true rfl, Nat.le_of_ble_eq_true rfl⟩) ⟨k_blind, va_recv (ci := 6) (q0 := 0) hK hw.1 rfl rfl, k_pre hK hZ hw⟩ rfl rfl hl.1 rfl (lv_room (Nat.le_of_ble_eq_true rfl)) dX6_element_126 ⟨Nat.zero_le _, Nat.zero_le _⟩) hw (fun H locs hw => ?_)
        exact J129 v2j96 σ5 H locs ls (lv_sub hl [0, 2] rfl) hw hE0
      · have hE0 := ite_t hE0 c9
        refine lv_iconst (v := 1) hx hb dX6_element_118 rfl ?_
        refine lv_goto (tgt := 123) hx hb dX6_element_119 (by decide) ?_
        refine lv_bipush (v := -5) hx hb dX6_element_123 rfl ?_
        refine lv_iload_n hx hb dX6_element_125 rfl (lv_at hl 1 rfl) ?_
        obtain ⟨σ8, k8, hE0⟩ := bd1_e hE0 hN0
        refine k_call (va_runV (As := [.int (1 : Int32), .int (-5 : Int32), .int v1j96]) (rest := []) hcf (mX6_failIf l D cs ad N σj96 (1 : Int32) (-5 : Int32) v1j96 σ8 k8) (kcX6_failIf htk (kw_800 htk) ⟨Nat.le_of_ble_eq_true rfl, Nat.le_of_ble_eq_true rfl⟩) ⟨k_blind, va_recv (ci := 6) (q0 := 0) hK hw.1 rfl rfl, k_pre hK hZ hw⟩ rfl rfl hl.1 rfl (lv_room (Nat.le_of_ble_eq_true rfl)) dX6_element_126 ⟨Nat.zero_le _, Nat.zero_le _⟩) hw (fun H locs hw => ?_)
        exact J129 v2j96 σ8 H locs ls (lv_sub hl [0, 2] rfl) hw hE0
    · have hE0 := ite_f hE0 c13
      refine lv_iconst (v := 1) hx hb dX6_element_108 rfl ?_
      refine lv_goto (tgt := 113) hx hb dX6_element_109 (by decide) ?_
      refine lv_iadd hx hb dX6_element_113 ?_
      refine lv_iconst (v := 5) hx hb dX6_element_114 rfl ?_
      refine lv_icmp_ne (tgt := 122) hx hb dX6_element_115 (by decide) (fun c12 => ?_) (fun c12 => ?_)
      · have hE0 := ite_f hE0 c12
        refine lv_iconst (v := 0) hx hb dX6_element_122 rfl ?_
        refine lv_bipush (v := -5) hx hb dX6_element_123 rfl ?_
        refine lv_iload_n hx hb dX6_element_125 rfl (lv_at hl 1 rfl) ?_
        obtain ⟨σ10, k10, hE0⟩ := bd1_e hE0 hN0
        refine k_call (va_runV (As := [.int (0 : Int32), .int (-5 : Int32), .int v1j96]) (rest := []) hcf (mX6_failIf l D cs ad N σj96 (0 : Int32) (-5 : Int32) v1j96 σ10 k10) (kcX6_failIf htk (kw_800 htk) ⟨Nat.le_of_ble_eq_true rfl, Nat.le_of_ble_eq_true rfl⟩) ⟨k_blind, va_recv (ci := 6) (q0 := 0) hK hw.1 rfl rfl, k_pre hK hZ hw⟩ rfl rfl hl.1 rfl (lv_room (Nat.le_of_ble_eq_true rfl)) dX6_element_126 ⟨Nat.zero_le _, Nat.zero_le _⟩) hw (fun H locs hw => ?_)
        exact J129 v2j96 σ10 H locs ls (lv_sub hl [0, 2] rfl) hw hE0
      · have hE0 := ite_t hE0 c12
        refine lv_iconst (v := 1) hx hb dX6_element_118 rfl ?_
        refine lv_goto (tgt := 123) hx hb dX6_element_119 (by decide) ?_
        refine lv_bipush (v := -5) hx hb dX6_element_123 rfl ?_
        refine lv_iload_n hx hb dX6_element_125 rfl (lv_at hl 1 rfl) ?_
        obtain ⟨σ11, k11, hE0⟩ := bd1_e hE0 hN0
        refine k_call (va_runV (As := [.int (1 : Int32), .int (-5 : Int32), .int v1j96]) (rest := []) hcf (mX6_failIf l D cs ad N σj96 (1 : Int32) (-5 : Int32) v1j96 σ11 k11) (kcX6_failIf htk (kw_800 htk) ⟨Nat.le_of_ble_eq_true rfl, Nat.le_of_ble_eq_true rfl⟩) ⟨k_blind, va_recv (ci := 6) (q0 := 0) hK hw.1 rfl rfl, k_pre hK hZ hw⟩ rfl rfl hl.1 rfl (lv_room (Nat.le_of_ble_eq_true rfl)) dX6_element_126 ⟨Nat.zero_le _, Nat.zero_le _⟩) hw (fun H locs hw => ?_)
        exact J129 v2j96 σ11 H locs ls (lv_sub hl [0, 2] rfl) hw hE0
  have J64 : ∀ (v1j64 : Int32) (v2j64 : Int32) (σj64 : vS) (H : Heap) (locs : List Loc) (ls : Array Slot), lv_has ls 5 [(0, .ref (ad 0)), (1, .int v1j64), (2, .int v2j64)] → k_H D (wM cs ad) (k_A 17 ad) σj64 s.heap H locs → T0 = jX6_element_64 N σj64 v1j64 v2j64 → W p l e rmX6_element s m args below meth c H locs 0 0 Q0 (F0 m 64 ls []) := by
    intro v1j64 v2j64 σj64 H locs ls hl hw hE0
    unfold jX6_element_64 at hE0
    refine lv_iconst (v := 0) hx hb dX6_element_64 rfl ?_
    refine lv_istore hx hb dX6_element_65 hl (Nat.le_of_ble_eq_true rfl) rfl (fun ls (hl : lv_has ls 5 [(4, .int (0 : Int32)), (0, .ref (ad 0)), (1, .int v1j64), (2, .int v2j64)]) => ?_)
    obtain ⟨q, hq, hE0, hT0⟩ := bds_e hE0 hN0
    refine k_ind (P := fun zz => ∀ (ls : Array Slot), lv_has ls 5 [(0, .ref (ad 0)), (1, .int v1j64), (2, .int v2j64), (4, .int zz)] → W p l e rmX6_element s m args below meth c H locs 0 0 Q0 (F0 m 67 ls [])) ?_ N _ hq ls (lv_sub hl [1, 2, 3, 0] rfl)
    intro sX T1 hE1 hN1 hC1 hX1
    obtain ⟨v4h67, hsg⟩ : ∃ z, z = sX := ⟨_, rfl⟩
    subst hsg
    replace hE1 : T1 = bX6_element_67 N σj64 v1j64 v2j64 v4h67 := hE1
    unfold bX6_element_67 at hE1
    intro ls hl
    replace hl : lv_has ls 5 [(0, .ref (ad 0)), (1, .int v1j64), (2, .int v2j64), (4, .int v4h67)] := hl
    refine lv_iload hx hb dX6_element_67 (lv_at hl 3 rfl) ?_
    refine lv_aload_n hx hb dX6_element_69 rfl (lv_at hl 0 rfl) ?_
    refine kg_X6_elements hcf hK (kw_695 htk) (x := (σj64.1 9)) dX6_element_70 hw rfl ?_
    refine lv_icmp_ge (tgt := 96) hx hb dX6_element_73 (by decide) (fun c17 => ?_) (fun c17 => ?_)
    · have hE1 := ite_t hE1 c17
      have hq := hX1 _ hE1
      subst hq
      exact J96 v1j64 v2j64 σj64 H locs ls (lv_sub hl [0, 1, 2] rfl) hw (hE0 _ rfl)
    · have hE1 := ite_f hE1 c17
      refine lv_aload_n hx hb dX6_element_76 rfl (lv_at hl 0 rfl) ?_
      refine kg_X6_names hcf hK (kw_696 htk) dX6_element_77 hw ?_
      refine lv_iload hx hb dX6_element_80 (lv_at hl 3 rfl) ?_
      obtain ⟨g14, hE1⟩ := gd_e hE1 hN1
      refine mald_A5 hcf hK (x := (σj64.2.1 5 ((v4h67).toNatClampNeg))) dX6_element_82 g14 hw rfl ?_
      refine lv_iload_n hx hb dX6_element_83 rfl (lv_at hl 2 rfl) ?_
      refine lv_icmp_ne (tgt := 90) hx hb dX6_element_84 (by decide) (fun c16 => ?_) (fun c16 => ?_)
      · have hE1 := ite_f hE1 c16
        obtain ⟨x15, e_x15, hE1⟩ := k_lte hE1
        refine lv_iinc (k := 3) (v := x15) hx hb dX6_element_90 hl rfl (Eq.symm e_x15) (Nat.le_of_ble_eq_true rfl) rfl (fun ls (hl : lv_has ls 5 [(4, .int x15), (0, .ref (ad 0)), (1, .int v1j64), (2, .int v2j64)]) => ?_)
        refine lv_goto (tgt := 67) hx hb dX6_element_93 (by decide) ?_
        exact hC1 _ hE1 ls (lv_sub hl [1, 2, 3, 0] rfl)
      · have hE1 := ite_t hE1 c16
        refine lv_iload hx hb dX6_element_87 (lv_at hl 3 rfl) ?_
        have hq := hX1 _ hE1
        subst hq
        exact kret_i hcf hr hlk hK hw (rt2 hR (hT0 _ rfl)) hQ0 dX6_element_89
  refine lv_aload_n hx hb dX6_element_0 rfl (lv_at hl 0 rfl) ?_
  refine kg_X6_pos hcf hK (kw_684 htk) (x := (σ.1 3)) dX6_element_1 hw rfl ?_
  refine lv_topi (fun x1 e_x1 => ?_)
  have hE0 := k_lts hE0 e_x1
  refine lv_istore_n hx hb dX6_element_4 rfl hl (Nat.le_of_ble_eq_true rfl) rfl (fun ls (hl : lv_has ls 5 [(1, .int x1), (0, .ref (ad 0))]) => ?_)
  refine lv_aload_n hx hb dX6_element_5 rfl (lv_at hl 1 rfl) ?_
  refine kg_X6_text hcf hK (kw_683 htk) dX6_element_6 hw ?_
  refine lv_aload_n hx hb dX6_element_9 rfl (lv_at hl 1 rfl) ?_
  refine kg_X6_pos hcf hK (kw_684 htk) (x := (σ.1 3)) dX6_element_10 hw rfl ?_
  obtain ⟨g2, hE0⟩ := gd_e hE0 hN0
  refine mald_A1 hcf hK (x := (σ.2.1 1 (((σ.1 3)).toNatClampNeg))) dX6_element_13 g2 hw rfl ?_
  refine lv_topi (fun x3 e_x3 => ?_)
  have hE0 := k_lts hE0 e_x3
  refine lv_istore_n hx hb dX6_element_14 rfl hl (Nat.le_of_ble_eq_true rfl) rfl (fun ls (hl : lv_has ls 5 [(2, .int x3), (1, .int x1), (0, .ref (ad 0))]) => ?_)
  refine lv_aload_n hx hb dX6_element_15 rfl (lv_at hl 2 rfl) ?_
  refine lv_dup hx hb dX6_element_16 rfl ?_
  refine kg_X6_pos hcf hK (kw_684 htk) (x := (σ.1 3)) dX6_element_17 hw rfl ?_
  refine lv_iconst (v := 1) hx hb dX6_element_20 rfl ?_
  refine lv_iadd hx hb dX6_element_21 ?_
  refine kp_X6_pos hcf hK (kw_684 htk) dX6_element_22 hw (fun H locs hw => ?_)
  refine lv_aload_n hx hb dX6_element_25 rfl (lv_at hl 2 rfl) ?_
  refine lv_aload_n hx hb dX6_element_26 rfl (lv_at hl 2 rfl) ?_
  refine kg_X6_pos hcf hK (kw_684 htk) (x := ((σ.1 3) + (1 : Int32))) dX6_element_27 hw rfl ?_
  obtain ⟨r4, k4, hE0⟩ := bd1_e hE0 hN0
  refine k_callP (va_runV (As := [.int ((σ.1 3) + (1 : Int32))]) (rest := []) hcf (mX6_charAt l D cs ad N (p_i σ 3 ((σ.1 3) + (1 : Int32))) ((σ.1 3) + (1 : Int32)) r4 k4) (kcX6_charAt htk (kw_796 htk) ⟨Nat.le_of_ble_eq_true rfl, Nat.le_of_ble_eq_true rfl⟩) ⟨k_blind, va_recv (ci := 6) (q0 := 0) hK hw.1 rfl rfl, k_pre hK hZ hw⟩ rfl rfl hl.1 rfl (lv_room (Nat.le_of_ble_eq_true rfl)) dX6_element_30 ⟨Nat.zero_le _, Nat.zero_le _⟩) ?_
  refine lv_istore_n hx hb dX6_element_33 rfl hl (Nat.le_of_ble_eq_true rfl) rfl (fun ls (hl : lv_has ls 5 [(3, .int r4), (2, .int x3), (1, .int x1), (0, .ref (ad 0))]) => ?_)
  refine lv_iload_n hx hb dX6_element_34 rfl (lv_at hl 0 rfl) ?_
  refine lv_bipush (v := 97) hx hb dX6_element_35 rfl ?_
  refine lv_icmp_lt (tgt := 64) hx hb dX6_element_37 (by decide) (fun c20 => ?_) (fun c20 => ?_)
  · have hE0 := ite_t hE0 c20
    exact J64 x1 x3 (p_i σ 3 ((σ.1 3) + (1 : Int32))) H locs ls (lv_sub hl [3, 2, 1] rfl) hw hE0
  · have hE0 := ite_f hE0 c20
    refine lv_iload_n hx hb dX6_element_40 rfl (lv_at hl 0 rfl) ?_
    refine lv_bipush (v := 122) hx hb dX6_element_41 rfl ?_
    refine lv_icmp_gt (tgt := 64) hx hb dX6_element_43 (by decide) (fun c19 => ?_) (fun c19 => ?_)
    · have hE0 := ite_t hE0 c19
      exact J64 x1 x3 (p_i σ 3 ((σ.1 3) + (1 : Int32))) H locs ls (lv_sub hl [3, 2, 1] rfl) hw hE0
    · have hE0 := ite_f hE0 c19
      refine lv_iload_n hx hb dX6_element_46 rfl (lv_at hl 1 rfl) ?_
      refine lv_sipush (v := 256) hx hb dX6_element_47 rfl ?_
      refine lv_iload_n hx hb dX6_element_50 rfl (lv_at hl 0 rfl) ?_
      refine lv_imul hx hb dX6_element_51 ?_
      refine lv_iadd hx hb dX6_element_52 ?_
      refine lv_topi (fun x18 e_x18 => ?_)
      have hE0 := k_lts hE0 e_x18
      refine lv_istore_n hx hb dX6_element_53 rfl hl (Nat.le_of_ble_eq_true rfl) rfl (fun ls (hl : lv_has ls 5 [(2, .int x18), (3, .int r4), (1, .int x1), (0, .ref (ad 0))]) => ?_)
      refine lv_aload_n hx hb dX6_element_54 rfl (lv_at hl 3 rfl) ?_
      refine lv_dup hx hb dX6_element_55 rfl ?_
      refine kg_X6_pos hcf hK (kw_684 htk) (x := ((σ.1 3) + (1 : Int32))) dX6_element_56 hw rfl ?_
      refine lv_iconst (v := 1) hx hb dX6_element_59 rfl ?_
      refine lv_iadd hx hb dX6_element_60 ?_
      refine kp_X6_pos hcf hK (kw_684 htk) dX6_element_61 hw (fun H locs hw => ?_)
      exact J64 x1 x18 (p_i (p_i σ 3 ((σ.1 3) + (1 : Int32))) 3 (((σ.1 3) + (1 : Int32)) + (1 : Int32))) H locs ls (lv_sub hl [3, 2, 0] rfl) hw hE0
def jX6_clearSums_27 (N : Nat) (σj27 : vS) : Option (vS) :=
  some σj27
def bX6_clearSums_2 (N : Nat) (v1h2 : Int32) (σh2 : vS) : Option ((Int32 × vS) ⊕ (vS)) :=
  if ((5 : Int32) ≤ v1h2) then (
    some (.inr σh2)
  ) else (
    if ((((5 : Int32) * (σh2.1 11)) + v1h2) < 0 ∨ 20 ≤ ((((5 : Int32) * (σh2.1 11)) + v1h2)).toNatClampNeg) then none else
    k_lt (v1h2 + (1 : Int32)) fun x2 =>
    some (.inl (x2, (p_b σh2 2 (((((5 : Int32) * (σh2.1 11)) + v1h2)).toNatClampNeg) (0 : Int64))))
  )
def fX6_clearSums (N : Nat) (σ : vS) : Option (vS) :=
  bd1 (k_itr (fun zz => bX6_clearSums_2 N zz.1 zz.2) N ((0 : Int32), σ)) fun q => jX6_clearSums_27 N q
abbrev rmX6_clearSums : Room := { frames := 0, cells := 0, slots := 0, locals := 0 }
abbrev wsX6_clearSums : List Cond := .code yX6_clearSums cX6_clearSums 2 none :: kws
theorem kcX6_clearSums {R : Room} {s : State} {args : Array Value} {own : String} {index : Nat} (htk : ∀ w ∈ kws, w.before args s = true) (hl : (Cond.methodLink own index yX6_clearSums).before args s = true) (hR : rmX6_clearSums.frames + 1 ≤ R.frames ∧ 8 + (2 + 11) + rmX6_clearSums.locals ≤ R.locals) : CallW R s args own RX6 index yX6_clearSums cX6_clearSums 2 none wsX6_clearSums rmX6_clearSums 0 0 0 :=
  ⟨callB_of 0 htk (k_good kc_831) rfl rfl rfl (kw_58 htk) hl (by decide +kernel) hR, (kw_830 htk), (kw_34 htk)⟩
set_option maxRecDepth 100000 in
set_option maxHeartbeats 4000000 in
theorem mX6_clearSums (l : Launch) (D : va_G) (cs : Nat → ClassId) (ad : Nat → Nat) (N : Nat) (σ : vS) (σ' : vS) (hf : fX6_clearSums N σ = some σ') : k_Met l yX6_clearSums wsX6_clearSums rmX6_clearSums D (tM cs) (wM cs ad) (k_A 17 ad) [.ref (ad 0)] σ none σ' := by
  refine k_of (cc := cX6_clearSums) (maxL := 2) (ret := none) (by decide) rfl (Nat.le_of_ble_eq_true rfl) ?_
  intro p e s m args below meth c ls H locs hcf hr hlk hK hZ hl hw
  generalize hQ0 : MQ below _ args s 0 0 _ = Q0
  obtain ⟨T0, hE0⟩ : ∃ T, T = fX6_clearSums N σ := ⟨_, rfl⟩
  have hR := hE0.trans hf
  have hN0 : T0 ≠ none := by rw [hR]; exact fun h => nomatch h
  have hx := hcf.1
  have hb := hcf.2.1
  have htk := hcf.2.2.2.2
  have hown := hcf.2.2.2.1
  unfold fX6_clearSums at hE0
  replace hl : lv_has ls 2 [(0, .ref (ad 0))] := hl
  have J27 : ∀ (σj27 : vS) (H : Heap) (locs : List Loc) (ls : Array Slot), lv_has ls 2 [] → k_H D (wM cs ad) (k_A 17 ad) σj27 s.heap H locs → T0 = jX6_clearSums_27 N σj27 → W p l e rmX6_clearSums s m args below meth c H locs 0 0 Q0 (F0 m 27 ls []) := by
    intro σj27 H locs ls hl hw hE0
    unfold jX6_clearSums_27 at hE0
    exact kret_v hcf hr hlk hK hw (rt1 hR hE0) hQ0 dX6_clearSums_27
  refine lv_iconst (v := 0) hx hb dX6_clearSums_0 rfl ?_
  refine lv_istore_n hx hb dX6_clearSums_1 rfl hl (Nat.le_of_ble_eq_true rfl) rfl (fun ls (hl : lv_has ls 2 [(1, .int (0 : Int32)), (0, .ref (ad 0))]) => ?_)
  obtain ⟨q, hq, hE0⟩ := bd1_e hE0 hN0
  refine k_ind (P := fun zz => ∀ (H : Heap) (locs : List Loc) (ls : Array Slot), lv_has ls 2 [(0, .ref (ad 0)), (1, .int zz.1)] → k_H D (wM cs ad) (k_A 17 ad) zz.2 s.heap H locs → W p l e rmX6_clearSums s m args below meth c H locs 0 0 Q0 (F0 m 2 ls [])) ?_ N _ hq H locs ls (lv_sub hl [1, 0] rfl) hw
  intro sX T1 hE1 hN1 hC1 hX1
  obtain ⟨v1h2, σh2⟩ := sX
  replace hE1 : T1 = bX6_clearSums_2 N v1h2 σh2 := hE1
  unfold bX6_clearSums_2 at hE1
  intro H locs ls hl hw
  replace hl : lv_has ls 2 [(0, .ref (ad 0)), (1, .int v1h2)] := hl
  replace hw : k_H D (wM cs ad) (k_A 17 ad) σh2 s.heap H locs := hw
  refine lv_iload_n hx hb dX6_clearSums_2 rfl (lv_at hl 1 rfl) ?_
  refine lv_iconst (v := 5) hx hb dX6_clearSums_3 rfl ?_
  refine lv_icmp_ge (tgt := 27) hx hb dX6_clearSums_4 (by decide) (fun c3 => ?_) (fun c3 => ?_)
  · have hE1 := ite_t hE1 c3
    have hq := hX1 _ hE1
    subst hq
    exact J27 σh2 H locs ls (lv_sub hl [] rfl) hw hE0
  · have hE1 := ite_f hE1 c3
    refine lv_aload_n hx hb dX6_clearSums_7 rfl (lv_at hl 0 rfl) ?_
    refine kg_X6_sums hcf hK (kw_698 htk) dX6_clearSums_8 hw ?_
    refine lv_iconst (v := 5) hx hb dX6_clearSums_11 rfl ?_
    refine lv_aload_n hx hb dX6_clearSums_12 rfl (lv_at hl 0 rfl) ?_
    refine kg_X6_open hcf hK (kw_700 htk) (x := (σh2.1 11)) dX6_clearSums_13 hw rfl ?_
    refine lv_imul hx hb dX6_clearSums_16 ?_
    refine lv_iload_n hx hb dX6_clearSums_17 rfl (lv_at hl 1 rfl) ?_
    refine lv_iadd hx hb dX6_clearSums_18 ?_
    refine lv_lconst (v := 0) hx hb dX6_clearSums_19 rfl ?_
    obtain ⟨g1, hE1⟩ := gd_e hE1 hN1
    refine mast_B2 hcf hK dX6_clearSums_20 g1 hw (fun H locs hw => ?_)
    obtain ⟨x2, e_x2, hE1⟩ := k_lte hE1
    refine lv_iinc (k := 1) (v := x2) hx hb dX6_clearSums_21 hl rfl (Eq.symm e_x2) (Nat.le_of_ble_eq_true rfl) rfl (fun ls (hl : lv_has ls 2 [(1, .int x2), (0, .ref (ad 0))]) => ?_)
    refine lv_goto (tgt := 2) hx hb dX6_clearSums_24 (by decide) ?_
    exact hC1 _ hE1 H locs ls (lv_sub hl [1, 0] rfl) hw
def jX6_readStep_83 (N : Nat) (σj83 : vS) : Option (Int32 × vS) :=
  bd1 (fX6_clearSums N σj83) fun σ4 =>
  some ((1 : Int32), (p_i σ4 3 ((σ4.1 3) + (1 : Int32))))
def jX6_readStep_44 (N : Nat) (σj44 : vS) (v2j44 : Int32) : Option (Int32 × vS) :=
  if ((σj44.1 4) = 0) then (
    if (v2j44 = (40 : Int32)) then (
      if (((σj44.1 11) + (1 : Int32)) < 0 ∨ 4 ≤ (((σj44.1 11) + (1 : Int32))).toNatClampNeg) then none else
      jX6_readStep_83 N (p_a (p_i σj44 11 ((σj44.1 11) + (1 : Int32))) 6 ((((σj44.1 11) + (1 : Int32))).toNatClampNeg) (vp_nar .char (41 : Int32)))
    ) else (
      if (((σj44.1 11) + (1 : Int32)) < 0 ∨ 4 ≤ (((σj44.1 11) + (1 : Int32))).toNatClampNeg) then none else
      jX6_readStep_83 N (p_a (p_i σj44 11 ((σj44.1 11) + (1 : Int32))) 6 ((((σj44.1 11) + (1 : Int32))).toNatClampNeg) (vp_nar .char (93 : Int32)))
    )
  ) else (
    some ((1 : Int32), σj44)
  )
def jX6_readStep_21 (N : Nat) (σ : vS) (v2j21 : Int32) : Option (Int32 × vS) :=
  if ((σ.1 11) = (3 : Int32)) then (
    bd1 (fX6_failIf N σ (1 : Int32) (-4 : Int32) (σ.1 3)) fun σ8 =>
    jX6_readStep_44 N σ8 v2j21
  ) else (
    bd1 (fX6_failIf N σ (0 : Int32) (-4 : Int32) (σ.1 3)) fun σ2 =>
    jX6_readStep_44 N σ2 v2j21
  )
def jX6_readStep_249 (N : Nat) (σ : vS) (v1j249 : Int32) : Option (Int32 × vS) :=
  if (v1j249 = 0) then (
    if ((σ.1 11) ≤ 0) then (
      bd1 (fX6_failIf N σ (0 : Int32) (-2 : Int32) (σ.1 3)) fun σ12 =>
      some ((0 : Int32), σ12)
    ) else (
      bd1 (fX6_failIf N σ (1 : Int32) (-2 : Int32) (σ.1 3)) fun σ13 =>
      some ((0 : Int32), σ13)
    )
  ) else (
    bd1 (fX6_failIf N σ (1 : Int32) (-2 : Int32) (σ.1 3)) fun σ11 =>
    some ((0 : Int32), σ11)
  )
def jX6_readStep_237 (N : Nat) (σj237 : vS) : Option (Int32 × vS) :=
  some ((1 : Int32), (p_i σj237 11 ((σj237.1 11) - (1 : Int32))))
def bX6_readStep_190 (N : Nat) (r17 : Int64) (v5h190 : Int32) (σh190 : vS) : Option ((Int32 × vS) ⊕ (vS)) :=
  if ((5 : Int32) ≤ v5h190) then (
    some (.inr σh190)
  ) else (
    if (((((5 : Int32) * (σh190.1 11)) - (5 : Int32)) + v5h190) < 0 ∨ 20 ≤ (((((5 : Int32) * (σh190.1 11)) - (5 : Int32)) + v5h190)).toNatClampNeg) then none else
    if ((((5 : Int32) * (σh190.1 11)) + v5h190) < 0 ∨ 20 ≤ ((((5 : Int32) * (σh190.1 11)) + v5h190)).toNatClampNeg) then none else
    if (((((5 : Int32) * (σh190.1 11)) - (5 : Int32)) + v5h190) < 0 ∨ 20 ≤ (((((5 : Int32) * (σh190.1 11)) - (5 : Int32)) + v5h190)).toNatClampNeg) then none else
    k_lt (v5h190 + (1 : Int32)) fun x21 =>
    some (.inl (x21, (p_b σh190 2 ((((((5 : Int32) * (σh190.1 11)) - (5 : Int32)) + v5h190)).toNatClampNeg) ((σh190.2.2.2 2 ((((((5 : Int32) * (σh190.1 11)) - (5 : Int32)) + v5h190)).toNatClampNeg)) + (r17 * (σh190.2.2.2 2 (((((5 : Int32) * (σh190.1 11)) + v5h190)).toNatClampNeg)))))))
  )
def jX6_readStep_128 (N : Nat) (σj128 : vS) (v3j128 : Int32) (v4j128 : Int64) : Option (Int32 × vS) :=
  if ((((5 : Int32) * (σj128.1 11)) + v3j128) < 0 ∨ 20 ≤ ((((5 : Int32) * (σj128.1 11)) + v3j128)).toNatClampNeg) then none else
  if ((((5 : Int32) * (σj128.1 11)) + v3j128) < 0 ∨ 20 ≤ ((((5 : Int32) * (σj128.1 11)) + v3j128)).toNatClampNeg) then none else
  some ((1 : Int32), (p_b σj128 2 (((((5 : Int32) * (σj128.1 11)) + v3j128)).toNatClampNeg) ((σj128.2.2.2 2 (((((5 : Int32) * (σj128.1 11)) + v3j128)).toNatClampNeg)) + v4j128)))
def fX6_readStep (N : Nat) (σ : vS) (p1 : Int32) : Option (Int32 × vS) :=
  bd1 (fX6_charAt N σ (σ.1 3)) fun r1 =>
  if (r1 = (40 : Int32)) then (
    jX6_readStep_21 N σ r1
  ) else (
    if (r1 = (91 : Int32)) then (
      jX6_readStep_21 N σ r1
    ) else (
      bd1 (fX6_isCapital N σ r1) fun r10 =>
      if (r10 = 0) then (
        if (p1 = 0) then (
          if ((σ.1 11) ≤ 0) then (
            jX6_readStep_249 N σ p1
          ) else (
            if ((σ.1 11) < 0 ∨ 4 ≤ ((σ.1 11)).toNatClampNeg) then none else
            if (r1 = (σ.2.1 6 (((σ.1 11)).toNatClampNeg))) then (
              bd2 (fX6_number0 N (p_i σ 3 ((σ.1 3) + (1 : Int32)))) fun r17 σ17 =>
              bd1 (k_itr (fun zz => bX6_readStep_190 N r17 zz.1 zz.2) N ((0 : Int32), σ17)) fun q => jX6_readStep_237 N q
            ) else (
              jX6_readStep_249 N σ p1
            )
          )
        ) else (
          jX6_readStep_249 N σ p1
        )
      ) else (
        bd2 (fX6_element N σ) fun r26 σ26 =>
        if ((σ26.1 4) = 0) then (
          bd2 (fX6_number0 N σ26) fun r29 σ29 =>
          jX6_readStep_128 N σ29 r26 r29
        ) else (
          jX6_readStep_128 N σ26 r26 (0 : Int64)
        )
      )
    )
  )
abbrev rmX6_readStep : Room := { frames := 3, cells := 0, slots := 0, locals := 69 }
abbrev wsX6_readStep : List Cond := .code yX6_readStep cX6_readStep 6 (some .boolean) :: kws
theorem kcX6_readStep {R : Room} {s : State} {args : Array Value} {own : String} {index : Nat} (htk : ∀ w ∈ kws, w.before args s = true) (hl : (Cond.methodLink own index yX6_readStep).before args s = true) (hR : rmX6_readStep.frames + 1 ≤ R.frames ∧ 8 + (6 + 11) + rmX6_readStep.locals ≤ R.locals) : CallW R s args own RX6 index yX6_readStep cX6_readStep 6 (some .boolean) wsX6_readStep rmX6_readStep 0 0 1 :=
  ⟨callB_of 1 htk (k_good kc_835) rfl rfl rfl (kw_58 htk) hl (by decide +kernel) hR, (kw_834 htk), (kw_35 htk)⟩
set_option maxRecDepth 100000 in
set_option maxHeartbeats 4000000 in
theorem mX6_readStep (l : Launch) (D : va_G) (cs : Nat → ClassId) (ad : Nat → Nat) (N : Nat) (σ : vS) (p1 : Int32) (r : Int32) (σ' : vS) (hf : fX6_readStep N σ p1 = some (r, σ')) : k_Met l yX6_readStep wsX6_readStep rmX6_readStep D (tM cs) (wM cs ad) (k_A 17 ad) [.ref (ad 0), .int p1] σ (some (.int r)) σ' := by
  refine k_of (cc := cX6_readStep) (maxL := 6) (ret := (some .boolean)) (by decide) rfl (Nat.le_of_ble_eq_true rfl) ?_
  intro p e s m args below meth c ls H locs hcf hr hlk hK hZ hl hw
  generalize hQ0 : MQ below _ args s 0 0 _ = Q0
  obtain ⟨T0, hE0⟩ : ∃ T, T = fX6_readStep N σ p1 := ⟨_, rfl⟩
  have hR := hE0.trans hf
  have hN0 : T0 ≠ none := by rw [hR]; exact fun h => nomatch h
  have hx := hcf.1
  have hb := hcf.2.1
  have htk := hcf.2.2.2.2
  have hown := hcf.2.2.2.1
  unfold fX6_readStep at hE0
  replace hl : lv_has ls 6 [(0, .ref (ad 0)), (1, .int p1)] := hl
  have J83 : ∀ (σj83 : vS) (H : Heap) (locs : List Loc) (ls : Array Slot), lv_has ls 6 [(0, .ref (ad 0))] → k_H D (wM cs ad) (k_A 17 ad) σj83 s.heap H locs → T0 = jX6_readStep_83 N σj83 → W p l e rmX6_readStep s m args below meth c H locs 0 0 Q0 (F0 m 83 ls []) := by
    intro σj83 H locs ls hl hw hE0
    unfold jX6_readStep_83 at hE0
    refine lv_aload_n hx hb dX6_readStep_83 rfl (lv_at hl 0 rfl) ?_
    obtain ⟨σ4, k4, hE0⟩ := bd1_e hE0 hN0
    refine k_call (va_runV (As := []) (rest := []) hcf (mX6_clearSums l D cs ad N σj83 σ4 k4) (kcX6_clearSums htk (kw_828 htk) ⟨Nat.le_of_ble_eq_true rfl, Nat.le_of_ble_eq_true rfl⟩) ⟨k_blind, va_recv (ci := 6) (q0 := 0) hK hw.1 rfl rfl, k_pre hK hZ hw⟩ rfl rfl hl.1 rfl (lv_room (Nat.le_of_ble_eq_true rfl)) dX6_readStep_84 ⟨Nat.zero_le _, Nat.zero_le _⟩) hw (fun H locs hw => ?_)
    refine lv_aload_n hx hb dX6_readStep_87 rfl (lv_at hl 0 rfl) ?_
    refine lv_dup hx hb dX6_readStep_88 rfl ?_
    refine kg_X6_pos hcf hK (kw_684 htk) (x := (σ4.1 3)) dX6_readStep_89 hw rfl ?_
    refine lv_iconst (v := 1) hx hb dX6_readStep_92 rfl ?_
    refine lv_iadd hx hb dX6_readStep_93 ?_
    refine kp_X6_pos hcf hK (kw_684 htk) dX6_readStep_94 hw (fun H locs hw => ?_)
    refine lv_iconst (v := 1) hx hb dX6_readStep_97 rfl ?_
    exact kret_z hcf hr hlk hK hw (rt2 hR hE0) hQ0 rfl dX6_readStep_98
  have J44 : ∀ (v2j44 : Int32) (σj44 : vS) (H : Heap) (locs : List Loc) (ls : Array Slot), lv_has ls 6 [(0, .ref (ad 0)), (2, .int v2j44)] → k_H D (wM cs ad) (k_A 17 ad) σj44 s.heap H locs → T0 = jX6_readStep_44 N σj44 v2j44 → W p l e rmX6_readStep s m args below meth c H locs 0 0 Q0 (F0 m 44 ls []) := by
    intro v2j44 σj44 H locs ls hl hw hE0
    unfold jX6_readStep_44 at hE0
    refine lv_aload_n hx hb dX6_readStep_44 rfl (lv_at hl 0 rfl) ?_
    refine kg_X6_fault hcf hK (kw_685 htk) (x := (σj44.1 4)) dX6_readStep_45 hw rfl ?_
    refine lv_if_ne (tgt := 97) hx hb dX6_readStep_48 (by decide) (fun c7 => ?_) (fun c7 => ?_)
    · have hE0 := ite_f hE0 c7
      refine lv_iconst (v := 1) hx hb dX6_readStep_97 rfl ?_
      exact kret_z hcf hr hlk hK hw (rt2 hR hE0) hQ0 rfl dX6_readStep_98
    · have hE0 := ite_t hE0 c7
      refine lv_aload_n hx hb dX6_readStep_51 rfl (lv_at hl 0 rfl) ?_
      refine lv_dup hx hb dX6_readStep_52 rfl ?_
      refine kg_X6_open hcf hK (kw_700 htk) (x := (σj44.1 11)) dX6_readStep_53 hw rfl ?_
      refine lv_iconst (v := 1) hx hb dX6_readStep_56 rfl ?_
      refine lv_iadd hx hb dX6_readStep_57 ?_
      refine kp_X6_open hcf hK (kw_700 htk) dX6_readStep_58 hw (fun H locs hw => ?_)
      refine lv_aload_n hx hb dX6_readStep_61 rfl (lv_at hl 0 rfl) ?_
      refine kg_X6_bracket hcf hK (kw_699 htk) dX6_readStep_62 hw ?_
      refine lv_aload_n hx hb dX6_readStep_65 rfl (lv_at hl 0 rfl) ?_
      refine kg_X6_open hcf hK (kw_700 htk) (x := ((σj44.1 11) + (1 : Int32))) dX6_readStep_66 hw rfl ?_
      refine lv_iload_n hx hb dX6_readStep_69 rfl (lv_at hl 1 rfl) ?_
      refine lv_bipush (v := 40) hx hb dX6_readStep_70 rfl ?_
      refine lv_icmp_ne (tgt := 80) hx hb dX6_readStep_72 (by decide) (fun c6 => ?_) (fun c6 => ?_)
      · have hE0 := ite_f hE0 c6
        refine lv_bipush (v := 93) hx hb dX6_readStep_80 rfl ?_
        obtain ⟨g3, hE0⟩ := gd_e hE0 hN0
        refine mast_A6 hcf hK dX6_readStep_82 g3 hw (fun H locs hw => ?_)
        exact J83 (p_a (p_i σj44 11 ((σj44.1 11) + (1 : Int32))) 6 ((((σj44.1 11) + (1 : Int32))).toNatClampNeg) (vp_nar .char (93 : Int32))) H locs ls (lv_sub hl [0] rfl) hw hE0
      · have hE0 := ite_t hE0 c6
        refine lv_bipush (v := 41) hx hb dX6_readStep_75 rfl ?_
        refine lv_goto (tgt := 82) hx hb dX6_readStep_77 (by decide) ?_
        obtain ⟨g5, hE0⟩ := gd_e hE0 hN0
        refine mast_A6 hcf hK dX6_readStep_82 g5 hw (fun H locs hw => ?_)
        exact J83 (p_a (p_i σj44 11 ((σj44.1 11) + (1 : Int32))) 6 ((((σj44.1 11) + (1 : Int32))).toNatClampNeg) (vp_nar .char (41 : Int32))) H locs ls (lv_sub hl [0] rfl) hw hE0
  have J21 : ∀ (v2j21 : Int32) (ls : Array Slot), lv_has ls 6 [(0, .ref (ad 0)), (2, .int v2j21)] → T0 = jX6_readStep_21 N σ v2j21 → W p l e rmX6_readStep s m args below meth c H locs 0 0 Q0 (F0 m 21 ls []) := by
    intro v2j21 ls hl hE0
    unfold jX6_readStep_21 at hE0
    refine lv_aload_n hx hb dX6_readStep_21 rfl (lv_at hl 0 rfl) ?_
    refine lv_aload_n hx hb dX6_readStep_22 rfl (lv_at hl 0 rfl) ?_
    refine kg_X6_open hcf hK (kw_700 htk) (x := (σ.1 11)) dX6_readStep_23 hw rfl ?_
    refine lv_iconst (v := 3) hx hb dX6_readStep_26 rfl ?_
    refine lv_icmp_ne (tgt := 34) hx hb dX6_readStep_27 (by decide) (fun c9 => ?_) (fun c9 => ?_)
    · have hE0 := ite_f hE0 c9
      refine lv_iconst (v := 0) hx hb dX6_readStep_34 rfl ?_
      refine lv_bipush (v := -4) hx hb dX6_readStep_35 rfl ?_
      refine lv_aload_n hx hb dX6_readStep_37 rfl (lv_at hl 0 rfl) ?_
      refine kg_X6_pos hcf hK (kw_684 htk) (x := (σ.1 3)) dX6_readStep_38 hw rfl ?_
      obtain ⟨σ2, k2, hE0⟩ := bd1_e hE0 hN0
      refine k_call (va_runV (As := [.int (0 : Int32), .int (-4 : Int32), .int (σ.1 3)]) (rest := []) hcf (mX6_failIf l D cs ad N σ (0 : Int32) (-4 : Int32) (σ.1 3) σ2 k2) (kcX6_failIf htk (kw_800 htk) ⟨Nat.le_of_ble_eq_true rfl, Nat.le_of_ble_eq_true rfl⟩) ⟨k_blind, va_recv (ci := 6) (q0 := 0) hK hw.1 rfl rfl, k_pre hK hZ hw⟩ rfl rfl hl.1 rfl (lv_room (Nat.le_of_ble_eq_true rfl)) dX6_readStep_41 ⟨Nat.zero_le _, Nat.zero_le _⟩) hw (fun H locs hw => ?_)
      exact J44 v2j21 σ2 H locs ls (lv_sub hl [0, 1] rfl) hw hE0
    · have hE0 := ite_t hE0 c9
      refine lv_iconst (v := 1) hx hb dX6_readStep_30 rfl ?_
      refine lv_goto (tgt := 35) hx hb dX6_readStep_31 (by decide) ?_
      refine lv_bipush (v := -4) hx hb dX6_readStep_35 rfl ?_
      refine lv_aload_n hx hb dX6_readStep_37 rfl (lv_at hl 0 rfl) ?_
      refine kg_X6_pos hcf hK (kw_684 htk) (x := (σ.1 3)) dX6_readStep_38 hw rfl ?_
      obtain ⟨σ8, k8, hE0⟩ := bd1_e hE0 hN0
      refine k_call (va_runV (As := [.int (1 : Int32), .int (-4 : Int32), .int (σ.1 3)]) (rest := []) hcf (mX6_failIf l D cs ad N σ (1 : Int32) (-4 : Int32) (σ.1 3) σ8 k8) (kcX6_failIf htk (kw_800 htk) ⟨Nat.le_of_ble_eq_true rfl, Nat.le_of_ble_eq_true rfl⟩) ⟨k_blind, va_recv (ci := 6) (q0 := 0) hK hw.1 rfl rfl, k_pre hK hZ hw⟩ rfl rfl hl.1 rfl (lv_room (Nat.le_of_ble_eq_true rfl)) dX6_readStep_41 ⟨Nat.zero_le _, Nat.zero_le _⟩) hw (fun H locs hw => ?_)
      exact J44 v2j21 σ8 H locs ls (lv_sub hl [0, 1] rfl) hw hE0
  have J249 : ∀ (v1j249 : Int32) (ls : Array Slot), lv_has ls 6 [(0, .ref (ad 0)), (1, .int v1j249)] → T0 = jX6_readStep_249 N σ v1j249 → W p l e rmX6_readStep s m args below meth c H locs 0 0 Q0 (F0 m 249 ls []) := by
    intro v1j249 ls hl hE0
    unfold jX6_readStep_249 at hE0
    refine lv_aload_n hx hb dX6_readStep_249 rfl (lv_at hl 0 rfl) ?_
    refine lv_iload_n hx hb dX6_readStep_250 rfl (lv_at hl 1 rfl) ?_
    refine lv_if_ne (tgt := 261) hx hb dX6_readStep_251 (by decide) (fun c15 => ?_) (fun c15 => ?_)
    · have hE0 := ite_f hE0 c15
      refine lv_iconst (v := 1) hx hb dX6_readStep_261 rfl ?_
      refine lv_goto (tgt := 266) hx hb dX6_readStep_262 (by decide) ?_
      refine lv_bipush (v := -2) hx hb dX6_readStep_266 rfl ?_
      refine lv_aload_n hx hb dX6_readStep_268 rfl (lv_at hl 0 rfl) ?_
      refine kg_X6_pos hcf hK (kw_684 htk) (x := (σ.1 3)) dX6_readStep_269 hw rfl ?_
      obtain ⟨σ11, k11, hE0⟩ := bd1_e hE0 hN0
      refine k_call (va_runV (As := [.int (1 : Int32), .int (-2 : Int32), .int (σ.1 3)]) (rest := []) hcf (mX6_failIf l D cs ad N σ (1 : Int32) (-2 : Int32) (σ.1 3) σ11 k11) (kcX6_failIf htk (kw_800 htk) ⟨Nat.le_of_ble_eq_true rfl, Nat.le_of_ble_eq_true rfl⟩) ⟨k_blind, va_recv (ci := 6) (q0 := 0) hK hw.1 rfl rfl, k_pre hK hZ hw⟩ rfl rfl hl.1 rfl (lv_room (Nat.le_of_ble_eq_true rfl)) dX6_readStep_272 ⟨Nat.zero_le _, Nat.zero_le _⟩) hw (fun H locs hw => ?_)
      refine lv_iconst (v := 0) hx hb dX6_readStep_275 rfl ?_
      exact kret_z hcf hr hlk hK hw (rt2 hR hE0) hQ0 rfl dX6_readStep_276
    · have hE0 := ite_t hE0 c15
      refine lv_aload_n hx hb dX6_readStep_254 rfl (lv_at hl 0 rfl) ?_
      refine kg_X6_open hcf hK (kw_700 htk) (x := (σ.1 11)) dX6_readStep_255 hw rfl ?_
      refine lv_if_le (tgt := 265) hx hb dX6_readStep_258 (by decide) (fun c14 => ?_) (fun c14 => ?_)
      · have hE0 := ite_t hE0 c14
        refine lv_iconst (v := 0) hx hb dX6_readStep_265 rfl ?_
        refine lv_bipush (v := -2) hx hb dX6_readStep_266 rfl ?_
        refine lv_aload_n hx hb dX6_readStep_268 rfl (lv_at hl 0 rfl) ?_
        refine kg_X6_pos hcf hK (kw_684 htk) (x := (σ.1 3)) dX6_readStep_269 hw rfl ?_
        obtain ⟨σ12, k12, hE0⟩ := bd1_e hE0 hN0
        refine k_call (va_runV (As := [.int (0 : Int32), .int (-2 : Int32), .int (σ.1 3)]) (rest := []) hcf (mX6_failIf l D cs ad N σ (0 : Int32) (-2 : Int32) (σ.1 3) σ12 k12) (kcX6_failIf htk (kw_800 htk) ⟨Nat.le_of_ble_eq_true rfl, Nat.le_of_ble_eq_true rfl⟩) ⟨k_blind, va_recv (ci := 6) (q0 := 0) hK hw.1 rfl rfl, k_pre hK hZ hw⟩ rfl rfl hl.1 rfl (lv_room (Nat.le_of_ble_eq_true rfl)) dX6_readStep_272 ⟨Nat.zero_le _, Nat.zero_le _⟩) hw (fun H locs hw => ?_)
        refine lv_iconst (v := 0) hx hb dX6_readStep_275 rfl ?_
        exact kret_z hcf hr hlk hK hw (rt2 hR hE0) hQ0 rfl dX6_readStep_276
      · have hE0 := ite_f hE0 c14
        refine lv_iconst (v := 1) hx hb dX6_readStep_261 rfl ?_
        refine lv_goto (tgt := 266) hx hb dX6_readStep_262 (by decide) ?_
        refine lv_bipush (v := -2) hx hb dX6_readStep_266 rfl ?_
        refine lv_aload_n hx hb dX6_readStep_268 rfl (lv_at hl 0 rfl) ?_
        refine kg_X6_pos hcf hK (kw_684 htk) (x := (σ.1 3)) dX6_readStep_269 hw rfl ?_
        obtain ⟨σ13, k13, hE0⟩ := bd1_e hE0 hN0
        refine k_call (va_runV (As := [.int (1 : Int32), .int (-2 : Int32), .int (σ.1 3)]) (rest := []) hcf (mX6_failIf l D cs ad N σ (1 : Int32) (-2 : Int32) (σ.1 3) σ13 k13) (kcX6_failIf htk (kw_800 htk) ⟨Nat.le_of_ble_eq_true rfl, Nat.le_of_ble_eq_true rfl⟩) ⟨k_blind, va_recv (ci := 6) (q0 := 0) hK hw.1 rfl rfl, k_pre hK hZ hw⟩ rfl rfl hl.1 rfl (lv_room (Nat.le_of_ble_eq_true rfl)) dX6_readStep_272 ⟨Nat.zero_le _, Nat.zero_le _⟩) hw (fun H locs hw => ?_)
        refine lv_iconst (v := 0) hx hb dX6_readStep_275 rfl ?_
        exact kret_z hcf hr hlk hK hw (rt2 hR hE0) hQ0 rfl dX6_readStep_276
  have J237 : ∀ (σj237 : vS) (H : Heap) (locs : List Loc) (ls : Array Slot), lv_has ls 6 [(0, .ref (ad 0))] → k_H D (wM cs ad) (k_A 17 ad) σj237 s.heap H locs → T0 = jX6_readStep_237 N σj237 → W p l e rmX6_readStep s m args below meth c H locs 0 0 Q0 (F0 m 237 ls []) := by
    intro σj237 H locs ls hl hw hE0
    unfold jX6_readStep_237 at hE0
    refine lv_aload_n hx hb dX6_readStep_237 rfl (lv_at hl 0 rfl) ?_
    refine lv_dup hx hb dX6_readStep_238 rfl ?_
    refine kg_X6_open hcf hK (kw_700 htk) (x := (σj237.1 11)) dX6_readStep_239 hw rfl ?_
    refine lv_iconst (v := 1) hx hb dX6_readStep_242 rfl ?_
    refine lv_isub hx hb dX6_readStep_243 ?_
    refine kp_X6_open hcf hK (kw_700 htk) dX6_readStep_244 hw (fun H locs hw => ?_)
    refine lv_iconst (v := 1) hx hb dX6_readStep_247 rfl ?_
    exact kret_z hcf hr hlk hK hw (rt2 hR hE0) hQ0 rfl dX6_readStep_248
  have J128 : ∀ (v3j128 : Int32) (v4j128 : Int64) (σj128 : vS) (H : Heap) (locs : List Loc) (ls : Array Slot), lv_has ls 6 [(0, .ref (ad 0)), (3, .int v3j128), (4, .long v4j128)] → k_H D (wM cs ad) (k_A 17 ad) σj128 s.heap H locs → T0 = jX6_readStep_128 N σj128 v3j128 v4j128 → W p l e rmX6_readStep s m args below meth c H locs 0 0 Q0 (F0 m 128 ls []) := by
    intro v3j128 v4j128 σj128 H locs ls hl hw hE0
    unfold jX6_readStep_128 at hE0
    refine lv_aload_n hx hb dX6_readStep_128 rfl (lv_at hl 0 rfl) ?_
    refine kg_X6_sums hcf hK (kw_698 htk) dX6_readStep_129 hw ?_
    refine lv_iconst (v := 5) hx hb dX6_readStep_132 rfl ?_
    refine lv_aload_n hx hb dX6_readStep_133 rfl (lv_at hl 0 rfl) ?_
    refine kg_X6_open hcf hK (kw_700 htk) (x := (σj128.1 11)) dX6_readStep_134 hw rfl ?_
    refine lv_imul hx hb dX6_readStep_137 ?_
    refine lv_iload_n hx hb dX6_readStep_138 rfl (lv_at hl 1 rfl) ?_
    refine lv_iadd hx hb dX6_readStep_139 ?_
    refine lv_dup2_11 hx hb dX6_readStep_140 rfl rfl ?_
    obtain ⟨g27, hE0⟩ := gd_e hE0 hN0
    refine mald_B2 hcf hK (x := (σj128.2.2.2 2 (((((5 : Int32) * (σj128.1 11)) + v3j128)).toNatClampNeg))) dX6_readStep_141 g27 hw rfl ?_
    refine lv_lload hx hb dX6_readStep_142 (lv_at hl 2 rfl) ?_
    refine lv_ladd hx hb dX6_readStep_144 ?_
    obtain ⟨g28, hE0⟩ := gd_e hE0 hN0
    refine mast_B2 hcf hK dX6_readStep_145 g28 hw (fun H locs hw => ?_)
    refine lv_iconst (v := 1) hx hb dX6_readStep_146 rfl ?_
    exact kret_z hcf hr hlk hK hw (rt2 hR hE0) hQ0 rfl dX6_readStep_147
  refine lv_aload_n hx hb dX6_readStep_0 rfl (lv_at hl 0 rfl) ?_
  refine lv_aload_n hx hb dX6_readStep_1 rfl (lv_at hl 0 rfl) ?_
  refine kg_X6_pos hcf hK (kw_684 htk) (x := (σ.1 3)) dX6_readStep_2 hw rfl ?_
  obtain ⟨r1, k1, hE0⟩ := bd1_e hE0 hN0
  refine k_callP (va_runV (As := [.int (σ.1 3)]) (rest := []) hcf (mX6_charAt l D cs ad N σ (σ.1 3) r1 k1) (kcX6_charAt htk (kw_796 htk) ⟨Nat.le_of_ble_eq_true rfl, Nat.le_of_ble_eq_true rfl⟩) ⟨k_blind, va_recv (ci := 6) (q0 := 0) hK hw.1 rfl rfl, k_pre hK hZ hw⟩ rfl rfl hl.1 rfl (lv_room (Nat.le_of_ble_eq_true rfl)) dX6_readStep_5 ⟨Nat.zero_le _, Nat.zero_le _⟩) ?_
  refine lv_istore_n hx hb dX6_readStep_8 rfl hl (Nat.le_of_ble_eq_true rfl) rfl (fun ls (hl : lv_has ls 6 [(2, .int r1), (0, .ref (ad 0)), (1, .int p1)]) => ?_)
  refine lv_iload_n hx hb dX6_readStep_9 rfl (lv_at hl 0 rfl) ?_
  refine lv_bipush (v := 40) hx hb dX6_readStep_10 rfl ?_
  refine lv_icmp_eq (tgt := 21) hx hb dX6_readStep_12 (by decide) (fun c33 => ?_) (fun c33 => ?_)
  · have hE0 := ite_t hE0 c33
    exact J21 r1 ls (lv_sub hl [1, 0] rfl) hE0
  · have hE0 := ite_f hE0 c33
    refine lv_iload_n hx hb dX6_readStep_15 rfl (lv_at hl 0 rfl) ?_
    refine lv_bipush (v := 91) hx hb dX6_readStep_16 rfl ?_
    refine lv_icmp_ne (tgt := 99) hx hb dX6_readStep_18 (by decide) (fun c32 => ?_) (fun c32 => ?_)
    · have hE0 := ite_f hE0 c32
      refine lv_iload_n hx hb dX6_readStep_99 rfl (lv_at hl 0 rfl) ?_
      obtain ⟨r10, k10, hE0⟩ := bd1_e hE0 hN0
      refine k_callP (va_runS (As := [.int r1]) (rest := []) hcf (mX6_isCapital l D cs ad N σ r1 r10 k10) (kcX6_isCapital htk (kw_836 htk) ⟨Nat.le_of_ble_eq_true rfl, Nat.le_of_ble_eq_true rfl⟩) ⟨k_blind, k_pre hK hZ hw⟩ rfl rfl hl.1 rfl (lv_room (Nat.le_of_ble_eq_true rfl)) dX6_readStep_100 ⟨Nat.zero_le _, Nat.zero_le _⟩) ?_
      refine lv_if_eq (tgt := 148) hx hb dX6_readStep_103 (by decide) (fun c31 => ?_) (fun c31 => ?_)
      · have hE0 := ite_t hE0 c31
        refine lv_iload_n hx hb dX6_readStep_148 rfl (lv_at hl 2 rfl) ?_
        refine lv_if_ne (tgt := 249) hx hb dX6_readStep_149 (by decide) (fun c25 => ?_) (fun c25 => ?_)
        · have hE0 := ite_f hE0 c25
          exact J249 p1 ls (lv_sub hl [1, 2] rfl) hE0
        · have hE0 := ite_t hE0 c25
          refine lv_aload_n hx hb dX6_readStep_152 rfl (lv_at hl 1 rfl) ?_
          refine kg_X6_open hcf hK (kw_700 htk) (x := (σ.1 11)) dX6_readStep_153 hw rfl ?_
          refine lv_if_le (tgt := 249) hx hb dX6_readStep_156 (by decide) (fun c24 => ?_) (fun c24 => ?_)
          · have hE0 := ite_t hE0 c24
            exact J249 p1 ls (lv_sub hl [1, 2] rfl) hE0
          · have hE0 := ite_f hE0 c24
            refine lv_iload_n hx hb dX6_readStep_159 rfl (lv_at hl 0 rfl) ?_
            refine lv_aload_n hx hb dX6_readStep_160 rfl (lv_at hl 1 rfl) ?_
            refine kg_X6_bracket hcf hK (kw_699 htk) dX6_readStep_161 hw ?_
            refine lv_aload_n hx hb dX6_readStep_164 rfl (lv_at hl 1 rfl) ?_
            refine kg_X6_open hcf hK (kw_700 htk) (x := (σ.1 11)) dX6_readStep_165 hw rfl ?_
            obtain ⟨g16, hE0⟩ := gd_e hE0 hN0
            refine mald_A6 hcf hK (x := (σ.2.1 6 (((σ.1 11)).toNatClampNeg))) dX6_readStep_168 g16 hw rfl ?_
            refine lv_icmp_ne (tgt := 249) hx hb dX6_readStep_169 (by decide) (fun c23 => ?_) (fun c23 => ?_)
            · have hE0 := ite_f hE0 c23
              exact J249 p1 ls (lv_sub hl [1, 2] rfl) hE0
            · have hE0 := ite_t hE0 c23
              refine lv_aload_n hx hb dX6_readStep_172 rfl (lv_at hl 1 rfl) ?_
              refine lv_dup hx hb dX6_readStep_173 rfl ?_
              refine kg_X6_pos hcf hK (kw_684 htk) (x := (σ.1 3)) dX6_readStep_174 hw rfl ?_
              refine lv_iconst (v := 1) hx hb dX6_readStep_177 rfl ?_
              refine lv_iadd hx hb dX6_readStep_178 ?_
              refine kp_X6_pos hcf hK (kw_684 htk) dX6_readStep_179 hw (fun H locs hw => ?_)
              refine lv_aload_n hx hb dX6_readStep_182 rfl (lv_at hl 1 rfl) ?_
              obtain ⟨r17, σ17, k17, hE0⟩ := bd2_e hE0 hN0
              refine k_call (va_runV (As := []) (rest := []) hcf (mX6_number0 l D cs ad N (p_i σ 3 ((σ.1 3) + (1 : Int32))) r17 σ17 k17) (kcX6_number0 htk (kw_821 htk) ⟨Nat.le_of_ble_eq_true rfl, Nat.le_of_ble_eq_true rfl⟩) ⟨k_blind, va_recv (ci := 6) (q0 := 0) hK hw.1 rfl rfl, k_pre hK hZ hw⟩ rfl rfl hl.1 rfl (lv_room (Nat.le_of_ble_eq_true rfl)) dX6_readStep_183 ⟨Nat.zero_le _, Nat.zero_le _⟩) hw (fun H locs hw => ?_)
              refine lv_lstore_n hx hb dX6_readStep_186 rfl hl (Nat.le_of_ble_eq_true rfl) rfl (fun ls (hl : lv_has ls 6 [(3, .long r17), (2, .int r1), (0, .ref (ad 0)), (1, .int p1)]) => ?_)
              refine lv_iconst (v := 0) hx hb dX6_readStep_187 rfl ?_
              refine lv_istore hx hb dX6_readStep_188 hl (Nat.le_of_ble_eq_true rfl) rfl (fun ls (hl : lv_has ls 6 [(5, .int (0 : Int32)), (3, .long r17), (2, .int r1), (0, .ref (ad 0)), (1, .int p1)]) => ?_)
              obtain ⟨q, hq, hE0⟩ := bd1_e hE0 hN0
              refine k_ind (P := fun zz => ∀ (H : Heap) (locs : List Loc) (ls : Array Slot), lv_has ls 6 [(0, .ref (ad 0)), (3, .long r17), (5, .int zz.1)] → k_H D (wM cs ad) (k_A 17 ad) zz.2 s.heap H locs → W p l e rmX6_readStep s m args below meth c H locs 0 0 Q0 (F0 m 190 ls [])) ?_ N _ hq H locs ls (lv_sub hl [3, 1, 0] rfl) hw
              intro sX T1 hE1 hN1 hC1 hX1
              obtain ⟨v5h190, σh190⟩ := sX
              replace hE1 : T1 = bX6_readStep_190 N r17 v5h190 σh190 := hE1
              unfold bX6_readStep_190 at hE1
              intro H locs ls hl hw
              replace hl : lv_has ls 6 [(0, .ref (ad 0)), (3, .long r17), (5, .int v5h190)] := hl
              replace hw : k_H D (wM cs ad) (k_A 17 ad) σh190 s.heap H locs := hw
              refine lv_iload hx hb dX6_readStep_190 (lv_at hl 2 rfl) ?_
              refine lv_iconst (v := 5) hx hb dX6_readStep_192 rfl ?_
              refine lv_icmp_ge (tgt := 237) hx hb dX6_readStep_193 (by decide) (fun c22 => ?_) (fun c22 => ?_)
              · have hE1 := ite_t hE1 c22
                have hq := hX1 _ hE1
                subst hq
                exact J237 σh190 H locs ls (lv_sub hl [0] rfl) hw hE0
              · have hE1 := ite_f hE1 c22
                refine lv_aload_n hx hb dX6_readStep_196 rfl (lv_at hl 0 rfl) ?_
                refine kg_X6_sums hcf hK (kw_698 htk) dX6_readStep_197 hw ?_
                refine lv_iconst (v := 5) hx hb dX6_readStep_200 rfl ?_
                refine lv_aload_n hx hb dX6_readStep_201 rfl (lv_at hl 0 rfl) ?_
                refine kg_X6_open hcf hK (kw_700 htk) (x := (σh190.1 11)) dX6_readStep_202 hw rfl ?_
                refine lv_imul hx hb dX6_readStep_205 ?_
                refine lv_iconst (v := 5) hx hb dX6_readStep_206 rfl ?_
                refine lv_isub hx hb dX6_readStep_207 ?_
                refine lv_iload hx hb dX6_readStep_208 (lv_at hl 2 rfl) ?_
                refine lv_iadd hx hb dX6_readStep_210 ?_
                refine lv_dup2_11 hx hb dX6_readStep_211 rfl rfl ?_
                obtain ⟨g18, hE1⟩ := gd_e hE1 hN1
                refine mald_B2 hcf hK (x := (σh190.2.2.2 2 ((((((5 : Int32) * (σh190.1 11)) - (5 : Int32)) + v5h190)).toNatClampNeg))) dX6_readStep_212 g18 hw rfl ?_
                refine lv_lload_n hx hb dX6_readStep_213 rfl (lv_at hl 1 rfl) ?_
                refine lv_aload_n hx hb dX6_readStep_214 rfl (lv_at hl 0 rfl) ?_
                refine kg_X6_sums hcf hK (kw_698 htk) dX6_readStep_215 hw ?_
                refine lv_iconst (v := 5) hx hb dX6_readStep_218 rfl ?_
                refine lv_aload_n hx hb dX6_readStep_219 rfl (lv_at hl 0 rfl) ?_
                refine kg_X6_open hcf hK (kw_700 htk) (x := (σh190.1 11)) dX6_readStep_220 hw rfl ?_
                refine lv_imul hx hb dX6_readStep_223 ?_
                refine lv_iload hx hb dX6_readStep_224 (lv_at hl 2 rfl) ?_
                refine lv_iadd hx hb dX6_readStep_226 ?_
                obtain ⟨g19, hE1⟩ := gd_e hE1 hN1
                refine mald_B2 hcf hK (x := (σh190.2.2.2 2 (((((5 : Int32) * (σh190.1 11)) + v5h190)).toNatClampNeg))) dX6_readStep_227 g19 hw rfl ?_
                refine lv_lmul hx hb dX6_readStep_228 ?_
                refine lv_ladd hx hb dX6_readStep_229 ?_
                obtain ⟨g20, hE1⟩ := gd_e hE1 hN1
                refine mast_B2 hcf hK dX6_readStep_230 g20 hw (fun H locs hw => ?_)
                obtain ⟨x21, e_x21, hE1⟩ := k_lte hE1
                refine lv_iinc (k := 2) (v := x21) hx hb dX6_readStep_231 hl rfl (Eq.symm e_x21) (Nat.le_of_ble_eq_true rfl) rfl (fun ls (hl : lv_has ls 6 [(5, .int x21), (0, .ref (ad 0)), (3, .long r17)]) => ?_)
                refine lv_goto (tgt := 190) hx hb dX6_readStep_234 (by decide) ?_
                exact hC1 _ hE1 H locs ls (lv_sub hl [1, 2, 0] rfl) hw
      · have hE0 := ite_f hE0 c31
        refine lv_aload_n hx hb dX6_readStep_106 rfl (lv_at hl 1 rfl) ?_
        obtain ⟨r26, σ26, k26, hE0⟩ := bd2_e hE0 hN0
        refine k_call (va_runV (As := []) (rest := []) hcf (mX6_element l D cs ad N σ r26 σ26 k26) (kcX6_element htk (kw_839 htk) ⟨Nat.le_of_ble_eq_true rfl, Nat.le_of_ble_eq_true rfl⟩) ⟨k_blind, va_recv (ci := 6) (q0 := 0) hK hw.1 rfl rfl, k_pre hK hZ hw⟩ rfl rfl hl.1 rfl (lv_room (Nat.le_of_ble_eq_true rfl)) dX6_readStep_107 ⟨Nat.zero_le _, Nat.zero_le _⟩) hw (fun H locs hw => ?_)
        refine lv_istore_n hx hb dX6_readStep_110 rfl hl (Nat.le_of_ble_eq_true rfl) rfl (fun ls (hl : lv_has ls 6 [(3, .int r26), (2, .int r1), (0, .ref (ad 0)), (1, .int p1)]) => ?_)
        refine lv_aload_n hx hb dX6_readStep_111 rfl (lv_at hl 2 rfl) ?_
        refine kg_X6_fault hcf hK (kw_685 htk) (x := (σ26.1 4)) dX6_readStep_112 hw rfl ?_
        refine lv_if_ne (tgt := 125) hx hb dX6_readStep_115 (by decide) (fun c30 => ?_) (fun c30 => ?_)
        · have hE0 := ite_f hE0 c30
          refine lv_lconst (v := 0) hx hb dX6_readStep_125 rfl ?_
          refine lv_lstore hx hb dX6_readStep_126 hl (Nat.le_of_ble_eq_true rfl) rfl (fun ls (hl : lv_has ls 6 [(4, .long (0 : Int64)), (3, .int r26), (2, .int r1), (0, .ref (ad 0)), (1, .int p1)]) => ?_)
          exact J128 r26 (0 : Int64) σ26 H locs ls (lv_sub hl [3, 1, 0] rfl) hw hE0
        · have hE0 := ite_t hE0 c30
          refine lv_aload_n hx hb dX6_readStep_118 rfl (lv_at hl 2 rfl) ?_
          obtain ⟨r29, σ29, k29, hE0⟩ := bd2_e hE0 hN0
          refine k_call (va_runV (As := []) (rest := []) hcf (mX6_number0 l D cs ad N σ26 r29 σ29 k29) (kcX6_number0 htk (kw_821 htk) ⟨Nat.le_of_ble_eq_true rfl, Nat.le_of_ble_eq_true rfl⟩) ⟨k_blind, va_recv (ci := 6) (q0 := 0) hK hw.1 rfl rfl, k_pre hK hZ hw⟩ rfl rfl hl.1 rfl (lv_room (Nat.le_of_ble_eq_true rfl)) dX6_readStep_119 ⟨Nat.zero_le _, Nat.zero_le _⟩) hw (fun H locs hw => ?_)
          refine lv_goto (tgt := 126) hx hb dX6_readStep_122 (by decide) ?_
          refine lv_lstore hx hb dX6_readStep_126 hl (Nat.le_of_ble_eq_true rfl) rfl (fun ls (hl : lv_has ls 6 [(4, .long r29), (3, .int r26), (2, .int r1), (0, .ref (ad 0)), (1, .int p1)]) => ?_)
          exact J128 r26 r29 σ29 H locs ls (lv_sub hl [3, 1, 0] rfl) hw hE0
    · have hE0 := ite_t hE0 c32
      exact J21 r1 ls (lv_sub hl [1, 0] rfl) hE0
def jX6_readPart_119 (N : Nat) (σj119 : vS) : Option (vS) :=
  some σj119
def bX6_readPart_74 (N : Nat) (v1j71 : Int64) (v5h74 : Int32) (σh74 : vS) : Option ((Int32 × vS) ⊕ (vS)) :=
  if ((5 : Int32) ≤ v5h74) then (
    some (.inr σh74)
  ) else (
    if ((σh74.1 4) = 0) then (
      if ((((5 : Int32) * (σh74.1 8)) + v5h74) < 0 ∨ 30 ≤ ((((5 : Int32) * (σh74.1 8)) + v5h74)).toNatClampNeg) then none else
      if (v5h74 < 0 ∨ 20 ≤ (v5h74).toNatClampNeg) then none else
      if ((((5 : Int32) * (σh74.1 8)) + v5h74) < 0 ∨ 30 ≤ ((((5 : Int32) * (σh74.1 8)) + v5h74)).toNatClampNeg) then none else
      k_lt (v5h74 + (1 : Int32)) fun x6 =>
      some (.inl (x6, (p_b σh74 1 (((((5 : Int32) * (σh74.1 8)) + v5h74)).toNatClampNeg) ((σh74.2.2.2 1 (((((5 : Int32) * (σh74.1 8)) + v5h74)).toNatClampNeg)) + (v1j71 * (σh74.2.2.2 2 ((v5h74).toNatClampNeg)))))))
    ) else (
      some (.inr σh74)
    )
  )
def jX6_readPart_71 (N : Nat) (σj71 : vS) (v1j71 : Int64) : Option (vS) :=
  bd1 (k_itr (fun zz => bX6_readPart_74 N v1j71 zz.1 zz.2) N ((0 : Int32), σj71)) fun q => jX6_readPart_119 N q
def bX6_readPart_19 (N : Nat) (r1 : Int64) (v3h19 : Int32) (v4h19 : Int32) (σh19 : vS) : Option ((Int32 × Int32 × vS) ⊕ (vS)) :=
  if (v3h19 = 0) then (
    some (.inr σh19)
  ) else (
    if ((σh19.1 4) = 0) then (
      bd1 (fX6_charAt N σh19 (σh19.1 3)) fun r9 =>
      bd2 (fX6_readStep N σh19 v4h19) fun r10 σ10 =>
      if (r9 = (40 : Int32)) then (
        some (.inl (r10, (1 : Int32), σ10))
      ) else (
        if (r9 = (91 : Int32)) then (
          some (.inl (r10, (1 : Int32), σ10))
        ) else (
          some (.inl (r10, (0 : Int32), σ10))
        )
      )
    ) else (
      some (.inr σh19)
    )
  )
def fX6_readPart (N : Nat) (σ : vS) : Option (vS) :=
  bd2 (fX6_number0 N σ) fun r1 σ1 =>
  bd1 (fX6_clearSums N (p_i σ1 11 (0 : Int32))) fun σ2 =>
  bd1 (k_itr (fun zz => bX6_readPart_19 N r1 zz.1 zz.2.1 zz.2.2) N ((1 : Int32), (1 : Int32), σ2)) fun q => jX6_readPart_71 N q r1
abbrev rmX6_readPart : Room := { frames := 4, cells := 0, slots := 0, locals := 94 }
abbrev wsX6_readPart : List Cond := .code yX6_readPart cX6_readPart 6 none :: kws
theorem kcX6_readPart {R : Room} {s : State} {args : Array Value} {own : String} {index : Nat} (htk : ∀ w ∈ kws, w.before args s = true) (hl : (Cond.methodLink own index yX6_readPart).before args s = true) (hR : rmX6_readPart.frames + 1 ≤ R.frames ∧ 8 + (6 + 11) + rmX6_readPart.locals ≤ R.locals) : CallW R s args own RX6 index yX6_readPart cX6_readPart 6 none wsX6_readPart rmX6_readPart 0 0 0 :=
  ⟨callB_of 0 htk (k_good kc_820) rfl rfl rfl (kw_58 htk) hl (by decide +kernel) hR, (kw_819 htk), (kw_32 htk)⟩
set_option maxRecDepth 100000 in
set_option maxHeartbeats 4000000 in
theorem mX6_readPart (l : Launch) (D : va_G) (cs : Nat → ClassId) (ad : Nat → Nat) (N : Nat) (σ : vS) (σ' : vS) (hf : fX6_readPart N σ = some σ') : k_Met l yX6_readPart wsX6_readPart rmX6_readPart D (tM cs) (wM cs ad) (k_A 17 ad) [.ref (ad 0)] σ none σ' := by
  refine k_of (cc := cX6_readPart) (maxL := 6) (ret := none) (by decide) rfl (Nat.le_of_ble_eq_true rfl) ?_
  intro p e s m args below meth c ls H locs hcf hr hlk hK hZ hl hw
  generalize hQ0 : MQ below _ args s 0 0 _ = Q0
  obtain ⟨T0, hE0⟩ : ∃ T, T = fX6_readPart N σ := ⟨_, rfl⟩
  have hR := hE0.trans hf
  have hN0 : T0 ≠ none := by rw [hR]; exact fun h => nomatch h
  have hx := hcf.1
  have hb := hcf.2.1
  have htk := hcf.2.2.2.2
  have hown := hcf.2.2.2.1
  unfold fX6_readPart at hE0
  replace hl : lv_has ls 6 [(0, .ref (ad 0))] := hl
  have J119 : ∀ (σj119 : vS) (H : Heap) (locs : List Loc) (ls : Array Slot), lv_has ls 6 [] → k_H D (wM cs ad) (k_A 17 ad) σj119 s.heap H locs → T0 = jX6_readPart_119 N σj119 → W p l e rmX6_readPart s m args below meth c H locs 0 0 Q0 (F0 m 119 ls []) := by
    intro σj119 H locs ls hl hw hE0
    unfold jX6_readPart_119 at hE0
    exact kret_v hcf hr hlk hK hw (rt1 hR hE0) hQ0 dX6_readPart_119
  have J71 : ∀ (v1j71 : Int64) (σj71 : vS) (H : Heap) (locs : List Loc) (ls : Array Slot), lv_has ls 6 [(0, .ref (ad 0)), (1, .long v1j71)] → k_H D (wM cs ad) (k_A 17 ad) σj71 s.heap H locs → T0 = jX6_readPart_71 N σj71 v1j71 → W p l e rmX6_readPart s m args below meth c H locs 0 0 Q0 (F0 m 71 ls []) := by
    intro v1j71 σj71 H locs ls hl hw hE0
    unfold jX6_readPart_71 at hE0
    refine lv_iconst (v := 0) hx hb dX6_readPart_71 rfl ?_
    refine lv_istore hx hb dX6_readPart_72 hl (Nat.le_of_ble_eq_true rfl) rfl (fun ls (hl : lv_has ls 6 [(5, .int (0 : Int32)), (0, .ref (ad 0)), (1, .long v1j71)]) => ?_)
    obtain ⟨q, hq, hE0⟩ := bd1_e hE0 hN0
    refine k_ind (P := fun zz => ∀ (H : Heap) (locs : List Loc) (ls : Array Slot), lv_has ls 6 [(0, .ref (ad 0)), (1, .long v1j71), (5, .int zz.1)] → k_H D (wM cs ad) (k_A 17 ad) zz.2 s.heap H locs → W p l e rmX6_readPart s m args below meth c H locs 0 0 Q0 (F0 m 74 ls [])) ?_ N _ hq H locs ls (lv_sub hl [1, 2, 0] rfl) hw
    intro sX T1 hE1 hN1 hC1 hX1
    obtain ⟨v5h74, σh74⟩ := sX
    replace hE1 : T1 = bX6_readPart_74 N v1j71 v5h74 σh74 := hE1
    unfold bX6_readPart_74 at hE1
    intro H locs ls hl hw
    replace hl : lv_has ls 6 [(0, .ref (ad 0)), (1, .long v1j71), (5, .int v5h74)] := hl
    replace hw : k_H D (wM cs ad) (k_A 17 ad) σh74 s.heap H locs := hw
    refine lv_iload hx hb dX6_readPart_74 (lv_at hl 2 rfl) ?_
    refine lv_iconst (v := 5) hx hb dX6_readPart_76 rfl ?_
    refine lv_icmp_ge (tgt := 119) hx hb dX6_readPart_77 (by decide) (fun c8 => ?_) (fun c8 => ?_)
    · have hE1 := ite_t hE1 c8
      have hq := hX1 _ hE1
      subst hq
      exact J119 σh74 H locs ls (lv_sub hl [] rfl) hw hE0
    · have hE1 := ite_f hE1 c8
      refine lv_aload_n hx hb dX6_readPart_80 rfl (lv_at hl 0 rfl) ?_
      refine kg_X6_fault hcf hK (kw_685 htk) (x := (σh74.1 4)) dX6_readPart_81 hw rfl ?_
      refine lv_if_ne (tgt := 119) hx hb dX6_readPart_84 (by decide) (fun c7 => ?_) (fun c7 => ?_)
      · have hE1 := ite_f hE1 c7
        have hq := hX1 _ hE1
        subst hq
        exact J119 σh74 H locs ls (lv_sub hl [] rfl) hw hE0
      · have hE1 := ite_t hE1 c7
        refine lv_aload_n hx hb dX6_readPart_87 rfl (lv_at hl 0 rfl) ?_
        refine kg_X6_has hcf hK (kw_694 htk) dX6_readPart_88 hw ?_
        refine lv_iconst (v := 5) hx hb dX6_readPart_91 rfl ?_
        refine lv_aload_n hx hb dX6_readPart_92 rfl (lv_at hl 0 rfl) ?_
        refine kg_X6_count hcf hK (kw_689 htk) (x := (σh74.1 8)) dX6_readPart_93 hw rfl ?_
        refine lv_imul hx hb dX6_readPart_96 ?_
        refine lv_iload hx hb dX6_readPart_97 (lv_at hl 2 rfl) ?_
        refine lv_iadd hx hb dX6_readPart_99 ?_
        refine lv_dup2_11 hx hb dX6_readPart_100 rfl rfl ?_
        obtain ⟨g3, hE1⟩ := gd_e hE1 hN1
        refine mald_B1 hcf hK (x := (σh74.2.2.2 1 (((((5 : Int32) * (σh74.1 8)) + v5h74)).toNatClampNeg))) dX6_readPart_101 g3 hw rfl ?_
        refine lv_lload_n hx hb dX6_readPart_102 rfl (lv_at hl 1 rfl) ?_
        refine lv_aload_n hx hb dX6_readPart_103 rfl (lv_at hl 0 rfl) ?_
        refine kg_X6_sums hcf hK (kw_698 htk) dX6_readPart_104 hw ?_
        refine lv_iload hx hb dX6_readPart_107 (lv_at hl 2 rfl) ?_
        obtain ⟨g4, hE1⟩ := gd_e hE1 hN1
        refine mald_B2 hcf hK (x := (σh74.2.2.2 2 ((v5h74).toNatClampNeg))) dX6_readPart_109 g4 hw rfl ?_
        refine lv_lmul hx hb dX6_readPart_110 ?_
        refine lv_ladd hx hb dX6_readPart_111 ?_
        obtain ⟨g5, hE1⟩ := gd_e hE1 hN1
        refine mast_B1 hcf hK dX6_readPart_112 g5 hw (fun H locs hw => ?_)
        obtain ⟨x6, e_x6, hE1⟩ := k_lte hE1
        refine lv_iinc (k := 2) (v := x6) hx hb dX6_readPart_113 hl rfl (Eq.symm e_x6) (Nat.le_of_ble_eq_true rfl) rfl (fun ls (hl : lv_has ls 6 [(5, .int x6), (0, .ref (ad 0)), (1, .long v1j71)]) => ?_)
        refine lv_goto (tgt := 74) hx hb dX6_readPart_116 (by decide) ?_
        exact hC1 _ hE1 H locs ls (lv_sub hl [1, 2, 0] rfl) hw
  refine lv_aload_n hx hb dX6_readPart_0 rfl (lv_at hl 0 rfl) ?_
  obtain ⟨r1, σ1, k1, hE0⟩ := bd2_e hE0 hN0
  refine k_call (va_runV (As := []) (rest := []) hcf (mX6_number0 l D cs ad N σ r1 σ1 k1) (kcX6_number0 htk (kw_821 htk) ⟨Nat.le_of_ble_eq_true rfl, Nat.le_of_ble_eq_true rfl⟩) ⟨k_blind, va_recv (ci := 6) (q0 := 0) hK hw.1 rfl rfl, k_pre hK hZ hw⟩ rfl rfl hl.1 rfl (lv_room (Nat.le_of_ble_eq_true rfl)) dX6_readPart_1 ⟨Nat.zero_le _, Nat.zero_le _⟩) hw (fun H locs hw => ?_)
  refine lv_lstore_n hx hb dX6_readPart_4 rfl hl (Nat.le_of_ble_eq_true rfl) rfl (fun ls (hl : lv_has ls 6 [(1, .long r1), (0, .ref (ad 0))]) => ?_)
  refine lv_aload_n hx hb dX6_readPart_5 rfl (lv_at hl 1 rfl) ?_
  refine lv_iconst (v := 0) hx hb dX6_readPart_6 rfl ?_
  refine kp_X6_open hcf hK (kw_700 htk) dX6_readPart_7 hw (fun H locs hw => ?_)
  refine lv_aload_n hx hb dX6_readPart_10 rfl (lv_at hl 1 rfl) ?_
  obtain ⟨σ2, k2, hE0⟩ := bd1_e hE0 hN0
  refine k_call (va_runV (As := []) (rest := []) hcf (mX6_clearSums l D cs ad N (p_i σ1 11 (0 : Int32)) σ2 k2) (kcX6_clearSums htk (kw_828 htk) ⟨Nat.le_of_ble_eq_true rfl, Nat.le_of_ble_eq_true rfl⟩) ⟨k_blind, va_recv (ci := 6) (q0 := 0) hK hw.1 rfl rfl, k_pre hK hZ hw⟩ rfl rfl hl.1 rfl (lv_room (Nat.le_of_ble_eq_true rfl)) dX6_readPart_11 ⟨Nat.zero_le _, Nat.zero_le _⟩) hw (fun H locs hw => ?_)
  refine lv_iconst (v := 1) hx hb dX6_readPart_14 rfl ?_
  refine lv_istore_n hx hb dX6_readPart_15 rfl hl (Nat.le_of_ble_eq_true rfl) rfl (fun ls (hl : lv_has ls 6 [(3, .int (1 : Int32)), (1, .long r1), (0, .ref (ad 0))]) => ?_)
  refine lv_iconst (v := 1) hx hb dX6_readPart_16 rfl ?_
  refine lv_istore hx hb dX6_readPart_17 hl (Nat.le_of_ble_eq_true rfl) rfl (fun ls (hl : lv_has ls 6 [(4, .int (1 : Int32)), (3, .int (1 : Int32)), (1, .long r1), (0, .ref (ad 0))]) => ?_)
  obtain ⟨q, hq, hE0⟩ := bd1_e hE0 hN0
  refine k_ind (P := fun zz => ∀ (H : Heap) (locs : List Loc) (ls : Array Slot), lv_has ls 6 [(0, .ref (ad 0)), (1, .long r1), (3, .int zz.1), (4, .int zz.2.1)] → k_H D (wM cs ad) (k_A 17 ad) zz.2.2 s.heap H locs → W p l e rmX6_readPart s m args below meth c H locs 0 0 Q0 (F0 m 19 ls [])) ?_ N _ hq H locs ls (lv_sub hl [3, 2, 1, 0] rfl) hw
  intro sX T1 hE1 hN1 hC1 hX1
  obtain ⟨v3h19, v4h19, σh19⟩ := sX
  replace hE1 : T1 = bX6_readPart_19 N r1 v3h19 v4h19 σh19 := hE1
  unfold bX6_readPart_19 at hE1
  intro H locs ls hl hw
  replace hl : lv_has ls 6 [(0, .ref (ad 0)), (1, .long r1), (3, .int v3h19), (4, .int v4h19)] := hl
  replace hw : k_H D (wM cs ad) (k_A 17 ad) σh19 s.heap H locs := hw
  refine lv_iload_n hx hb dX6_readPart_19 rfl (lv_at hl 2 rfl) ?_
  refine lv_if_eq (tgt := 71) hx hb dX6_readPart_20 (by decide) (fun c14 => ?_) (fun c14 => ?_)
  · have hE1 := ite_t hE1 c14
    have hq := hX1 _ hE1
    subst hq
    exact J71 r1 σh19 H locs ls (lv_sub hl [0, 1] rfl) hw hE0
  · have hE1 := ite_f hE1 c14
    refine lv_aload_n hx hb dX6_readPart_23 rfl (lv_at hl 0 rfl) ?_
    refine kg_X6_fault hcf hK (kw_685 htk) (x := (σh19.1 4)) dX6_readPart_24 hw rfl ?_
    refine lv_if_ne (tgt := 71) hx hb dX6_readPart_27 (by decide) (fun c13 => ?_) (fun c13 => ?_)
    · have hE1 := ite_f hE1 c13
      have hq := hX1 _ hE1
      subst hq
      exact J71 r1 σh19 H locs ls (lv_sub hl [0, 1] rfl) hw hE0
    · have hE1 := ite_t hE1 c13
      refine lv_aload_n hx hb dX6_readPart_30 rfl (lv_at hl 0 rfl) ?_
      refine lv_aload_n hx hb dX6_readPart_31 rfl (lv_at hl 0 rfl) ?_
      refine kg_X6_pos hcf hK (kw_684 htk) (x := (σh19.1 3)) dX6_readPart_32 hw rfl ?_
      obtain ⟨r9, k9, hE1⟩ := bd1_e hE1 hN1
      refine k_callP (va_runV (As := [.int (σh19.1 3)]) (rest := []) hcf (mX6_charAt l D cs ad N σh19 (σh19.1 3) r9 k9) (kcX6_charAt htk (kw_796 htk) ⟨Nat.le_of_ble_eq_true rfl, Nat.le_of_ble_eq_true rfl⟩) ⟨k_blind, va_recv (ci := 6) (q0 := 0) hK hw.1 rfl rfl, k_pre hK hZ hw⟩ rfl rfl hl.1 rfl (lv_room (Nat.le_of_ble_eq_true rfl)) dX6_readPart_35 ⟨Nat.zero_le _, Nat.zero_le _⟩) ?_
      refine lv_istore hx hb dX6_readPart_38 hl (Nat.le_of_ble_eq_true rfl) rfl (fun ls (hl : lv_has ls 6 [(5, .int r9), (0, .ref (ad 0)), (1, .long r1), (3, .int v3h19), (4, .int v4h19)]) => ?_)
      refine lv_aload_n hx hb dX6_readPart_40 rfl (lv_at hl 1 rfl) ?_
      refine lv_iload hx hb dX6_readPart_41 (lv_at hl 4 rfl) ?_
      obtain ⟨r10, σ10, k10, hE1⟩ := bd2_e hE1 hN1
      refine k_call (va_runV (As := [.int v4h19]) (rest := []) hcf (mX6_readStep l D cs ad N σh19 v4h19 r10 σ10 k10) (kcX6_readStep htk (kw_832 htk) ⟨Nat.le_of_ble_eq_true rfl, Nat.le_of_ble_eq_true rfl⟩) ⟨k_blind, va_recv (ci := 6) (q0 := 0) hK hw.1 rfl rfl, k_pre hK hZ hw⟩ rfl rfl hl.1 rfl (lv_room (Nat.le_of_ble_eq_true rfl)) dX6_readPart_43 ⟨Nat.zero_le _, Nat.zero_le _⟩) hw (fun H locs hw => ?_)
      refine lv_istore_n hx hb dX6_readPart_46 rfl hl (Nat.le_of_ble_eq_true rfl) rfl (fun ls (hl : lv_has ls 6 [(3, .int r10), (5, .int r9), (0, .ref (ad 0)), (1, .long r1), (4, .int v4h19)]) => ?_)
      refine lv_iload hx hb dX6_readPart_47 (lv_at hl 1 rfl) ?_
      refine lv_bipush (v := 40) hx hb dX6_readPart_49 rfl ?_
      refine lv_icmp_eq (tgt := 61) hx hb dX6_readPart_51 (by decide) (fun c12 => ?_) (fun c12 => ?_)
      · have hE1 := ite_t hE1 c12
        refine lv_iconst (v := 1) hx hb dX6_readPart_61 rfl ?_
        refine lv_goto (tgt := 66) hx hb dX6_readPart_62 (by decide) ?_
        refine lv_istore hx hb dX6_readPart_66 hl (Nat.le_of_ble_eq_true rfl) rfl (fun ls (hl : lv_has ls 6 [(4, .int (1 : Int32)), (3, .int r10), (5, .int r9), (0, .ref (ad 0)), (1, .long r1)]) => ?_)
        refine lv_goto (tgt := 19) hx hb dX6_readPart_68 (by decide) ?_
        exact hC1 _ hE1 H locs ls (lv_sub hl [3, 4, 1, 0] rfl) hw
      · have hE1 := ite_f hE1 c12
        refine lv_iload hx hb dX6_readPart_54 (lv_at hl 1 rfl) ?_
        refine lv_bipush (v := 91) hx hb dX6_readPart_56 rfl ?_
        refine lv_icmp_ne (tgt := 65) hx hb dX6_readPart_58 (by decide) (fun c11 => ?_) (fun c11 => ?_)
        · have hE1 := ite_f hE1 c11
          refine lv_iconst (v := 0) hx hb dX6_readPart_65 rfl ?_
          refine lv_istore hx hb dX6_readPart_66 hl (Nat.le_of_ble_eq_true rfl) rfl (fun ls (hl : lv_has ls 6 [(4, .int (0 : Int32)), (3, .int r10), (5, .int r9), (0, .ref (ad 0)), (1, .long r1)]) => ?_)
          refine lv_goto (tgt := 19) hx hb dX6_readPart_68 (by decide) ?_
          exact hC1 _ hE1 H locs ls (lv_sub hl [3, 4, 1, 0] rfl) hw
        · have hE1 := ite_t hE1 c11
          refine lv_iconst (v := 1) hx hb dX6_readPart_61 rfl ?_
          refine lv_goto (tgt := 66) hx hb dX6_readPart_62 (by decide) ?_
          refine lv_istore hx hb dX6_readPart_66 hl (Nat.le_of_ble_eq_true rfl) rfl (fun ls (hl : lv_has ls 6 [(4, .int (1 : Int32)), (3, .int r10), (5, .int r9), (0, .ref (ad 0)), (1, .long r1)]) => ?_)
          refine lv_goto (tgt := 19) hx hb dX6_readPart_68 (by decide) ?_
          exact hC1 _ hE1 H locs ls (lv_sub hl [3, 4, 1, 0] rfl) hw
