def fX6_thrown (N : Nat) (σ : vS) : Option (Int32) :=
  some (σ.1 0)
abbrev rmX6_thrown : Room := { frames := 0, cells := 0, slots := 0, locals := 0 }
abbrev wsX6_thrown : List Cond := .code yX6_thrown cX6_thrown 1 (some .int) :: kws
theorem kcX6_thrown {R : Room} {s : State} {args : Array Value} {own : String} {index : Nat} (htk : ∀ w ∈ kws, w.before args s = true) (hl : (Cond.methodLink own index yX6_thrown).before args s = true) (hR : rmX6_thrown.frames + 1 ≤ R.frames ∧ 8 + (1 + 11) + rmX6_thrown.locals ≤ R.locals) : CallW R s args own RX6 index yX6_thrown cX6_thrown 1 (some .int) wsX6_thrown rmX6_thrown 0 0 0 :=
  ⟨callB_of 0 htk (k_good kc_776) rfl rfl rfl (kw_58 htk) hl (by decide +kernel) hR, (kw_774 htk), (kw_775 htk)⟩
set_option maxRecDepth 100000 in
set_option maxHeartbeats 4000000 in
theorem mX6_thrown (l : Launch) (D : va_G) (cs : Nat → ClassId) (ad : Nat → Nat) (N : Nat) (σ : vS) (r : Int32) (hf : fX6_thrown N σ = some r) : k_MP l yX6_thrown wsX6_thrown rmX6_thrown D (tM cs) (wM cs ad) [.ref (ad 0)] σ (.int r) := by
  refine k_ofP (cc := cX6_thrown) (maxL := 1) (ret := (some .int)) (by decide) rfl (Nat.le_of_ble_eq_true rfl) ?_
  intro p e s m args below meth c ls hcf hr hlk hK hZ hl hw
  generalize hQ0 : MQ below _ args s 0 0 _ = Q0
  obtain ⟨T0, hE0⟩ : ∃ T, T = fX6_thrown N σ := ⟨_, rfl⟩
  have hR := hE0.trans hf
  have hN0 : T0 ≠ none := by rw [hR]; exact fun h => nomatch h
  have hx := hcf.1
  have hb := hcf.2.1
  have htk := hcf.2.2.2.2
  have hown := hcf.2.2.2.1
  unfold fX6_thrown at hE0
  replace hl : lv_has ls 1 [(0, .ref (ad 0))] := hl
  refine lv_aload_n hx hb dX6_thrown_0 rfl (lv_at hl 0 rfl) ?_
  refine kg_X6_thrown hcf hK (kw_679 htk) (x := (σ.1 0)) dX6_thrown_1 hw rfl ?_
  exact kretP_i hcf hr hlk hK hw (rt1 hR hE0) hQ0 dX6_thrown_4
def jX6_type_177 (N : Nat) (σj177 : vS) : Option (Int32 × vS) :=
  some ((σj177.1 1), σj177)
def bX6_type_133 (N : Nat) (v1j121 : Int64) (v3j121 : Int32) (v5h133 : Int32) (σh133 : vS) : Option ((Int32 × vS) ⊕ (vS)) :=
  if (v3j121 ≤ v5h133) then (
    some (.inr σh133)
  ) else (
    if ((σh133.1 1) < 0 ∨ 100 ≤ ((σh133.1 1)).toNatClampNeg) then none else
    k_lt (v5h133 + (1 : Int32)) fun x2 =>
    some (.inl (x2, (p_i (p_a σh133 0 (((σh133.1 1)).toNatClampNeg) (vp_nar .char ((((((v1j121.toUInt64 >>> (((8 : Int32) * v5h133).toInt64.toUInt64 &&& Int64.toUInt64 63)).toInt64 &&& (255 : Int64))).toInt32).toUInt32 % 65536).toInt32))) 1 ((σh133.1 1) + (1 : Int32)))))
  )
def jX6_type_121 (N : Nat) (σj121 : vS) (v1j121 : Int64) (v3j121 : Int32) : Option (Int32 × vS) :=
  if ((σj121.1 0) = 0) then (
    bd1 (k_itr (fun zz => bX6_type_133 N v1j121 v3j121 zz.1 zz.2) N ((0 : Int32), σj121)) fun q => jX6_type_177 N q
  ) else (
    some ((0 : Int32), σj121)
  )
def jX6_type_92 (N : Nat) (σ : vS) (v1j92 : Int64) (v3j92 : Int32) (v4j92 : Int32) : Option (Int32 × vS) :=
  if (v4j92 = 0) then (
    jX6_type_121 N (p_i σ 0 (1 : Int32)) v1j92 v3j92
  ) else (
    if (((σ.1 1) + v3j92) ≤ (100 : Int32)) then (
      jX6_type_121 N (p_i σ 0 (0 : Int32)) v1j92 v3j92
    ) else (
      jX6_type_121 N (p_i σ 0 (2 : Int32)) v1j92 v3j92
    )
  )
def jX6_type_71_8 (N : Nat) (σ : vS) (p1 : Int64) (v3j71 : Int32) (v4j71 : Int32) (v5j71 : Int32) (v6j71 : Int64) : Option ((Int32 × Int32 × Int32) ⊕ (Int32 × Int32)) :=
  if ((lg_cmp v6j71 (0 : Int64)) = 0) then (
    k_lt (v5j71 + (1 : Int32)) fun x10 =>
    some (.inl (v3j71, v4j71, x10))
  ) else (
    k_lt (v3j71 + (1 : Int32)) fun x8 =>
    k_lt (v5j71 + (1 : Int32)) fun x9 =>
    some (.inl (x8, v4j71, x9))
  )
def jX6_type_68_8 (N : Nat) (σ : vS) (p1 : Int64) (v3j68 : Int32) (v5j68 : Int32) (v6j68 : Int64) : Option ((Int32 × Int32 × Int32) ⊕ (Int32 × Int32)) :=
  jX6_type_71_8 N σ p1 v3j68 (0 : Int32) v5j68 v6j68
def jX6_type_64_8 (N : Nat) (σ : vS) (p1 : Int64) (v3j64 : Int32) (v5j64 : Int32) (v6j64 : Int64) : Option ((Int32 × Int32 × Int32) ⊕ (Int32 × Int32)) :=
  jX6_type_71_8 N σ p1 v3j64 (1 : Int32) v5j64 v6j64
def bX6_type_8 (N : Nat) (σ : vS) (p1 : Int64) (v3h8 : Int32) (v4h8 : Int32) (v5h8 : Int32) : Option ((Int32 × Int32 × Int32) ⊕ (Int32 × Int32)) :=
  if ((8 : Int32) ≤ v5h8) then (
    some (.inr (v3h8, v4h8))
  ) else (
    if (v3h8 = v5h8) then (
      k_lt ((p1.toUInt64 >>> (((8 : Int32) * v5h8).toInt64.toUInt64 &&& Int64.toUInt64 63)).toInt64 &&& (255 : Int64)) fun x7 =>
      if (v4h8 = 0) then (
        jX6_type_68_8 N σ p1 v3h8 v5h8 x7
      ) else (
        if ((lg_cmp x7 (0 : Int64)) = 0) then (
          jX6_type_64_8 N σ p1 v3h8 v5h8 x7
        ) else (
          if ((lg_cmp x7 (32 : Int64)) < 0) then (
            jX6_type_68_8 N σ p1 v3h8 v5h8 x7
          ) else (
            if (0 < (lg_cmp x7 (126 : Int64))) then (
              jX6_type_68_8 N σ p1 v3h8 v5h8 x7
            ) else (
              jX6_type_64_8 N σ p1 v3h8 v5h8 x7
            )
          )
        )
      )
    ) else (
      some (.inr (v3h8, v4h8))
    )
  )
def fX6_type (N : Nat) (σ : vS) (p1 : Int64) : Option (Int32 × vS) :=
  bd1 (k_itr (fun zz => bX6_type_8 N σ p1 zz.1 zz.2.1 zz.2.2) N ((0 : Int32), (1 : Int32), (0 : Int32))) fun q => jX6_type_92 N σ p1 q.1 q.2
abbrev rmX6_type : Room := { frames := 0, cells := 0, slots := 0, locals := 0 }
abbrev wsX6_type : List Cond := .code yX6_type cX6_type 8 (some .int) :: kws
theorem kcX6_type {R : Room} {s : State} {args : Array Value} {own : String} {index : Nat} (htk : ∀ w ∈ kws, w.before args s = true) (hl : (Cond.methodLink own index yX6_type).before args s = true) (hR : rmX6_type.frames + 1 ≤ R.frames ∧ 8 + (8 + 11) + rmX6_type.locals ≤ R.locals) : CallW R s args own RX6 index yX6_type cX6_type 8 (some .int) wsX6_type rmX6_type 0 0 1 :=
  ⟨callB_of 1 htk (k_good kc_780) rfl rfl rfl (kw_58 htk) hl (by decide +kernel) hR, (kw_778 htk), (kw_779 htk)⟩
set_option maxRecDepth 100000 in
set_option maxHeartbeats 4000000 in
theorem mX6_type (l : Launch) (D : va_G) (cs : Nat → ClassId) (ad : Nat → Nat) (N : Nat) (σ : vS) (p1 : Int64) (r : Int32) (σ' : vS) (hf : fX6_type N σ p1 = some (r, σ')) : k_Met l yX6_type wsX6_type rmX6_type D (tM cs) (wM cs ad) (k_A 17 ad) [.ref (ad 0), .long p1] σ (some (.int r)) σ' := by
  refine k_of (cc := cX6_type) (maxL := 8) (ret := (some .int)) (by decide) rfl (Nat.le_of_ble_eq_true rfl) ?_
  intro p e s m args below meth c ls H locs hcf hr hlk hK hZ hl hw
  generalize hQ0 : MQ below _ args s 0 0 _ = Q0
  obtain ⟨T0, hE0⟩ : ∃ T, T = fX6_type N σ p1 := ⟨_, rfl⟩
  have hR := hE0.trans hf
  have hN0 : T0 ≠ none := by rw [hR]; exact fun h => nomatch h
  have hx := hcf.1
  have hb := hcf.2.1
  have htk := hcf.2.2.2.2
  have hown := hcf.2.2.2.1
  unfold fX6_type at hE0
  replace hl : lv_has ls 8 [(0, .ref (ad 0)), (1, .long p1)] := hl
  have J177 : ∀ (σj177 : vS) (H : Heap) (locs : List Loc) (ls : Array Slot), lv_has ls 8 [(0, .ref (ad 0))] → k_H D (wM cs ad) (k_A 17 ad) σj177 s.heap H locs → T0 = jX6_type_177 N σj177 → W p l e rmX6_type s m args below meth c H locs 0 0 Q0 (F0 m 177 ls []) := by
    intro σj177 H locs ls hl hw hE0
    unfold jX6_type_177 at hE0
    refine lv_aload_n hx hb dX6_type_177 rfl (lv_at hl 0 rfl) ?_
    refine kg_X6_typed hcf hK (kw_680 htk) (x := (σj177.1 1)) dX6_type_178 hw rfl ?_
    exact kret_i hcf hr hlk hK hw (rt2 hR hE0) hQ0 dX6_type_181
  have J121 : ∀ (v1j121 : Int64) (v3j121 : Int32) (σj121 : vS) (H : Heap) (locs : List Loc) (ls : Array Slot), lv_has ls 8 [(0, .ref (ad 0)), (1, .long v1j121), (3, .int v3j121)] → k_H D (wM cs ad) (k_A 17 ad) σj121 s.heap H locs → T0 = jX6_type_121 N σj121 v1j121 v3j121 → W p l e rmX6_type s m args below meth c H locs 0 0 Q0 (F0 m 121 ls []) := by
    intro v1j121 v3j121 σj121 H locs ls hl hw hE0
    unfold jX6_type_121 at hE0
    refine lv_aload_n hx hb dX6_type_121 rfl (lv_at hl 0 rfl) ?_
    refine kg_X6_thrown hcf hK (kw_679 htk) (x := (σj121.1 0)) dX6_type_122 hw rfl ?_
    refine lv_if_eq (tgt := 130) hx hb dX6_type_125 (by decide) (fun c4 => ?_) (fun c4 => ?_)
    · have hE0 := ite_t hE0 c4
      refine lv_iconst (v := 0) hx hb dX6_type_130 rfl ?_
      refine lv_istore hx hb dX6_type_131 hl (Nat.le_of_ble_eq_true rfl) rfl (fun ls (hl : lv_has ls 8 [(5, .int (0 : Int32)), (0, .ref (ad 0)), (1, .long v1j121), (3, .int v3j121)]) => ?_)
      obtain ⟨q, hq, hE0⟩ := bd1_e hE0 hN0
      refine k_ind (P := fun zz => ∀ (H : Heap) (locs : List Loc) (ls : Array Slot), lv_has ls 8 [(0, .ref (ad 0)), (1, .long v1j121), (3, .int v3j121), (5, .int zz.1)] → k_H D (wM cs ad) (k_A 17 ad) zz.2 s.heap H locs → W p l e rmX6_type s m args below meth c H locs 0 0 Q0 (F0 m 133 ls [])) ?_ N _ hq H locs ls (lv_sub hl [1, 2, 3, 0] rfl) hw
      intro sX T1 hE1 hN1 hC1 hX1
      obtain ⟨v5h133, σh133⟩ := sX
      replace hE1 : T1 = bX6_type_133 N v1j121 v3j121 v5h133 σh133 := hE1
      unfold bX6_type_133 at hE1
      intro H locs ls hl hw
      replace hl : lv_has ls 8 [(0, .ref (ad 0)), (1, .long v1j121), (3, .int v3j121), (5, .int v5h133)] := hl
      replace hw : k_H D (wM cs ad) (k_A 17 ad) σh133 s.heap H locs := hw
      refine lv_iload hx hb dX6_type_133 (lv_at hl 3 rfl) ?_
      refine lv_iload_n hx hb dX6_type_135 rfl (lv_at hl 2 rfl) ?_
      refine lv_icmp_ge (tgt := 177) hx hb dX6_type_136 (by decide) (fun c3 => ?_) (fun c3 => ?_)
      · have hE1 := ite_t hE1 c3
        have hq := hX1 _ hE1
        subst hq
        exact J177 σh133 H locs ls (lv_sub hl [0] rfl) hw hE0
      · have hE1 := ite_f hE1 c3
        refine lv_aload_n hx hb dX6_type_139 rfl (lv_at hl 0 rfl) ?_
        refine kg_X6_draft hcf hK (kw_681 htk) dX6_type_140 hw ?_
        refine lv_aload_n hx hb dX6_type_143 rfl (lv_at hl 0 rfl) ?_
        refine kg_X6_typed hcf hK (kw_680 htk) (x := (σh133.1 1)) dX6_type_144 hw rfl ?_
        refine lv_lload_n hx hb dX6_type_147 rfl (lv_at hl 1 rfl) ?_
        refine lv_bipush (v := 8) hx hb dX6_type_148 rfl ?_
        refine lv_iload hx hb dX6_type_150 (lv_at hl 3 rfl) ?_
        refine lv_imul hx hb dX6_type_152 ?_
        refine lv_lushr hx hb dX6_type_153 rfl ?_
        refine lv_ldc2 hx hb hown (kw_781 htk) dX6_type_154 ?_
        refine lv_land hx hb dX6_type_157 ?_
        refine lv_l2i hx hb dX6_type_158 rfl ?_
        refine lv_i2c hx hb dX6_type_159 rfl ?_
        obtain ⟨g1, hE1⟩ := gd_e hE1 hN1
        refine mast_A0 hcf hK dX6_type_160 g1 hw (fun H locs hw => ?_)
        refine lv_aload_n hx hb dX6_type_161 rfl (lv_at hl 0 rfl) ?_
        refine lv_dup hx hb dX6_type_162 rfl ?_
        refine kg_X6_typed hcf hK (kw_680 htk) (x := (σh133.1 1)) dX6_type_163 hw rfl ?_
        refine lv_iconst (v := 1) hx hb dX6_type_166 rfl ?_
        refine lv_iadd hx hb dX6_type_167 ?_
        refine kp_X6_typed hcf hK (kw_680 htk) dX6_type_168 hw (fun H locs hw => ?_)
        obtain ⟨x2, e_x2, hE1⟩ := k_lte hE1
        refine lv_iinc (k := 3) (v := x2) hx hb dX6_type_171 hl rfl (Eq.symm e_x2) (Nat.le_of_ble_eq_true rfl) rfl (fun ls (hl : lv_has ls 8 [(5, .int x2), (0, .ref (ad 0)), (1, .long v1j121), (3, .int v3j121)]) => ?_)
        refine lv_goto (tgt := 133) hx hb dX6_type_174 (by decide) ?_
        exact hC1 _ hE1 H locs ls (lv_sub hl [1, 2, 3, 0] rfl) hw
    · have hE0 := ite_f hE0 c4
      refine lv_iconst (v := 0) hx hb dX6_type_128 rfl ?_
      exact kret_i hcf hr hlk hK hw (rt2 hR hE0) hQ0 dX6_type_129
  have J92 : ∀ (v1j92 : Int64) (v3j92 : Int32) (v4j92 : Int32) (ls : Array Slot), lv_has ls 8 [(0, .ref (ad 0)), (1, .long v1j92), (3, .int v3j92), (4, .int v4j92)] → T0 = jX6_type_92 N σ v1j92 v3j92 v4j92 → W p l e rmX6_type s m args below meth c H locs 0 0 Q0 (F0 m 92 ls []) := by
    intro v1j92 v3j92 v4j92 ls hl hE0
    unfold jX6_type_92 at hE0
    refine lv_aload_n hx hb dX6_type_92 rfl (lv_at hl 0 rfl) ?_
    refine lv_iload hx hb dX6_type_93 (lv_at hl 3 rfl) ?_
    refine lv_if_ne (tgt := 102) hx hb dX6_type_95 (by decide) (fun c6 => ?_) (fun c6 => ?_)
    · have hE0 := ite_f hE0 c6
      refine lv_aload_n hx hb dX6_type_102 rfl (lv_at hl 0 rfl) ?_
      refine kg_X6_typed hcf hK (kw_680 htk) (x := (σ.1 1)) dX6_type_103 hw rfl ?_
      refine lv_iload_n hx hb dX6_type_106 rfl (lv_at hl 2 rfl) ?_
      refine lv_iadd hx hb dX6_type_107 ?_
      refine lv_bipush (v := 100) hx hb dX6_type_108 rfl ?_
      refine lv_icmp_le (tgt := 117) hx hb dX6_type_110 (by decide) (fun c5 => ?_) (fun c5 => ?_)
      · have hE0 := ite_t hE0 c5
        refine lv_iconst (v := 0) hx hb dX6_type_117 rfl ?_
        refine kp_X6_thrown hcf hK (kw_679 htk) dX6_type_118 hw (fun H locs hw => ?_)
        exact J121 v1j92 v3j92 (p_i σ 0 (0 : Int32)) H locs ls (lv_sub hl [0, 1, 2] rfl) hw hE0
      · have hE0 := ite_f hE0 c5
        refine lv_iconst (v := 2) hx hb dX6_type_113 rfl ?_
        refine lv_goto (tgt := 118) hx hb dX6_type_114 (by decide) ?_
        refine kp_X6_thrown hcf hK (kw_679 htk) dX6_type_118 hw (fun H locs hw => ?_)
        exact J121 v1j92 v3j92 (p_i σ 0 (2 : Int32)) H locs ls (lv_sub hl [0, 1, 2] rfl) hw hE0
    · have hE0 := ite_t hE0 c6
      refine lv_iconst (v := 1) hx hb dX6_type_98 rfl ?_
      refine lv_goto (tgt := 118) hx hb dX6_type_99 (by decide) ?_
      refine kp_X6_thrown hcf hK (kw_679 htk) dX6_type_118 hw (fun H locs hw => ?_)
      exact J121 v1j92 v3j92 (p_i σ 0 (1 : Int32)) H locs ls (lv_sub hl [0, 1, 2] rfl) hw hE0
  refine lv_iconst (v := 0) hx hb dX6_type_0 rfl ?_
  refine lv_istore_n hx hb dX6_type_1 rfl hl (Nat.le_of_ble_eq_true rfl) rfl (fun ls (hl : lv_has ls 8 [(3, .int (0 : Int32)), (0, .ref (ad 0)), (1, .long p1)]) => ?_)
  refine lv_iconst (v := 1) hx hb dX6_type_2 rfl ?_
  refine lv_istore hx hb dX6_type_3 hl (Nat.le_of_ble_eq_true rfl) rfl (fun ls (hl : lv_has ls 8 [(4, .int (1 : Int32)), (3, .int (0 : Int32)), (0, .ref (ad 0)), (1, .long p1)]) => ?_)
  refine lv_iconst (v := 0) hx hb dX6_type_5 rfl ?_
  refine lv_istore hx hb dX6_type_6 hl (Nat.le_of_ble_eq_true rfl) rfl (fun ls (hl : lv_has ls 8 [(5, .int (0 : Int32)), (4, .int (1 : Int32)), (3, .int (0 : Int32)), (0, .ref (ad 0)), (1, .long p1)]) => ?_)
  obtain ⟨q, hq, hE0⟩ := bd1_e hE0 hN0
  refine k_ind (P := fun zz => ∀ (ls : Array Slot), lv_has ls 8 [(0, .ref (ad 0)), (1, .long p1), (3, .int zz.1), (4, .int zz.2.1), (5, .int zz.2.2)] → W p l e rmX6_type s m args below meth c H locs 0 0 Q0 (F0 m 8 ls [])) ?_ N _ hq ls (lv_sub hl [3, 4, 2, 1, 0] rfl)
  intro sX T1 hE1 hN1 hC1 hX1
  obtain ⟨v3h8, v4h8, v5h8⟩ := sX
  replace hE1 : T1 = bX6_type_8 N σ p1 v3h8 v4h8 v5h8 := hE1
  unfold bX6_type_8 at hE1
  have J71_8 : ∀ (v3j71 : Int32) (v4j71 : Int32) (v5j71 : Int32) (v6j71 : Int64) (ls : Array Slot), lv_has ls 8 [(0, .ref (ad 0)), (1, .long p1), (3, .int v3j71), (4, .int v4j71), (5, .int v5j71), (6, .long v6j71)] → T1 = jX6_type_71_8 N σ p1 v3j71 v4j71 v5j71 v6j71 → W p l e rmX6_type s m args below meth c H locs 0 0 Q0 (F0 m 71 ls []) := by
    intro v3j71 v4j71 v5j71 v6j71 ls hl hE1
    unfold jX6_type_71_8 at hE1
    refine lv_lload hx hb dX6_type_71 (lv_at hl 5 rfl) ?_
    refine lv_lconst (v := 0) hx hb dX6_type_73 rfl ?_
    refine W.lcmp hx hb dX6_type_74 ?_
    refine lv_if_ne (tgt := 82) hx hb dX6_type_75 (by decide) (fun c11 => ?_) (fun c11 => ?_)
    · have hE1 := ite_f hE1 c11
      refine lv_iload_n hx hb dX6_type_82 rfl (lv_at hl 2 rfl) ?_
      refine lv_iconst (v := 1) hx hb dX6_type_83 rfl ?_
      refine lv_iadd hx hb dX6_type_84 ?_
      refine lv_topi (fun x8 e_x8 => ?_)
      have hE1 := k_lts hE1 e_x8
      refine lv_istore_n hx hb dX6_type_85 rfl hl (Nat.le_of_ble_eq_true rfl) rfl (fun ls (hl : lv_has ls 8 [(3, .int x8), (0, .ref (ad 0)), (1, .long p1), (4, .int v4j71), (5, .int v5j71), (6, .long v6j71)]) => ?_)
      obtain ⟨x9, e_x9, hE1⟩ := k_lte hE1
      refine lv_iinc (k := 4) (v := x9) hx hb dX6_type_86 hl rfl (Eq.symm e_x9) (Nat.le_of_ble_eq_true rfl) rfl (fun ls (hl : lv_has ls 8 [(5, .int x9), (3, .int x8), (0, .ref (ad 0)), (1, .long p1), (4, .int v4j71), (6, .long v6j71)]) => ?_)
      refine lv_goto (tgt := 8) hx hb dX6_type_89 (by decide) ?_
      exact hC1 _ hE1 ls (lv_sub hl [2, 3, 1, 4, 0] rfl)
    · have hE1 := ite_t hE1 c11
      refine lv_iload_n hx hb dX6_type_78 rfl (lv_at hl 2 rfl) ?_
      refine lv_goto (tgt := 85) hx hb dX6_type_79 (by decide) ?_
      refine lv_istore_n hx hb dX6_type_85 rfl hl (Nat.le_of_ble_eq_true rfl) rfl (fun ls (hl : lv_has ls 8 [(3, .int v3j71), (0, .ref (ad 0)), (1, .long p1), (4, .int v4j71), (5, .int v5j71), (6, .long v6j71)]) => ?_)
      obtain ⟨x10, e_x10, hE1⟩ := k_lte hE1
      refine lv_iinc (k := 4) (v := x10) hx hb dX6_type_86 hl rfl (Eq.symm e_x10) (Nat.le_of_ble_eq_true rfl) rfl (fun ls (hl : lv_has ls 8 [(5, .int x10), (3, .int v3j71), (0, .ref (ad 0)), (1, .long p1), (4, .int v4j71), (6, .long v6j71)]) => ?_)
      refine lv_goto (tgt := 8) hx hb dX6_type_89 (by decide) ?_
      exact hC1 _ hE1 ls (lv_sub hl [2, 3, 1, 4, 0] rfl)
  have J68_8 : ∀ (v3j68 : Int32) (v5j68 : Int32) (v6j68 : Int64) (ls : Array Slot), lv_has ls 8 [(0, .ref (ad 0)), (1, .long p1), (3, .int v3j68), (5, .int v5j68), (6, .long v6j68)] → T1 = jX6_type_68_8 N σ p1 v3j68 v5j68 v6j68 → W p l e rmX6_type s m args below meth c H locs 0 0 Q0 (F0 m 68 ls []) := by
    intro v3j68 v5j68 v6j68 ls hl hE1
    unfold jX6_type_68_8 at hE1
    refine lv_iconst (v := 0) hx hb dX6_type_68 rfl ?_
    refine lv_istore hx hb dX6_type_69 hl (Nat.le_of_ble_eq_true rfl) rfl (fun ls (hl : lv_has ls 8 [(4, .int (0 : Int32)), (0, .ref (ad 0)), (1, .long p1), (3, .int v3j68), (5, .int v5j68), (6, .long v6j68)]) => ?_)
    exact J71_8 v3j68 (0 : Int32) v5j68 v6j68 ls (lv_sub hl [1, 2, 3, 0, 4, 5] rfl) hE1
  have J64_8 : ∀ (v3j64 : Int32) (v5j64 : Int32) (v6j64 : Int64) (ls : Array Slot), lv_has ls 8 [(0, .ref (ad 0)), (1, .long p1), (3, .int v3j64), (5, .int v5j64), (6, .long v6j64)] → T1 = jX6_type_64_8 N σ p1 v3j64 v5j64 v6j64 → W p l e rmX6_type s m args below meth c H locs 0 0 Q0 (F0 m 64 ls []) := by
    intro v3j64 v5j64 v6j64 ls hl hE1
    unfold jX6_type_64_8 at hE1
    refine lv_iconst (v := 1) hx hb dX6_type_64 rfl ?_
    refine lv_goto (tgt := 69) hx hb dX6_type_65 (by decide) ?_
    refine lv_istore hx hb dX6_type_69 hl (Nat.le_of_ble_eq_true rfl) rfl (fun ls (hl : lv_has ls 8 [(4, .int (1 : Int32)), (0, .ref (ad 0)), (1, .long p1), (3, .int v3j64), (5, .int v5j64), (6, .long v6j64)]) => ?_)
    exact J71_8 v3j64 (1 : Int32) v5j64 v6j64 ls (lv_sub hl [1, 2, 3, 0, 4, 5] rfl) hE1
  intro ls hl
  replace hl : lv_has ls 8 [(0, .ref (ad 0)), (1, .long p1), (3, .int v3h8), (4, .int v4h8), (5, .int v5h8)] := hl
  refine lv_iload hx hb dX6_type_8 (lv_at hl 4 rfl) ?_
  refine lv_bipush (v := 8) hx hb dX6_type_10 rfl ?_
  refine lv_icmp_ge (tgt := 92) hx hb dX6_type_12 (by decide) (fun c17 => ?_) (fun c17 => ?_)
  · have hE1 := ite_t hE1 c17
    have hq := hX1 _ hE1
    subst hq
    exact J92 p1 v3h8 v4h8 ls (lv_sub hl [0, 1, 2, 3] rfl) hE0
  · have hE1 := ite_f hE1 c17
    refine lv_iload_n hx hb dX6_type_15 rfl (lv_at hl 2 rfl) ?_
    refine lv_iload hx hb dX6_type_16 (lv_at hl 4 rfl) ?_
    refine lv_icmp_ne (tgt := 92) hx hb dX6_type_18 (by decide) (fun c16 => ?_) (fun c16 => ?_)
    · have hE1 := ite_f hE1 c16
      have hq := hX1 _ hE1
      subst hq
      exact J92 p1 v3h8 v4h8 ls (lv_sub hl [0, 1, 2, 3] rfl) hE0
    · have hE1 := ite_t hE1 c16
      refine lv_lload_n hx hb dX6_type_21 rfl (lv_at hl 1 rfl) ?_
      refine lv_bipush (v := 8) hx hb dX6_type_22 rfl ?_
      refine lv_iload hx hb dX6_type_24 (lv_at hl 4 rfl) ?_
      refine lv_imul hx hb dX6_type_26 ?_
      refine lv_lushr hx hb dX6_type_27 rfl ?_
      refine lv_ldc2 hx hb hown (kw_781 htk) dX6_type_28 ?_
      refine lv_land hx hb dX6_type_31 ?_
      refine lv_topl (fun x7 e_x7 => ?_)
      have hE1 := k_lts hE1 e_x7
      refine lv_lstore hx hb dX6_type_32 hl (Nat.le_of_ble_eq_true rfl) rfl (fun ls (hl : lv_has ls 8 [(6, .long x7), (0, .ref (ad 0)), (1, .long p1), (3, .int v3h8), (4, .int v4h8), (5, .int v5h8)]) => ?_)
      refine lv_iload hx hb dX6_type_34 (lv_at hl 4 rfl) ?_
      refine lv_if_eq (tgt := 68) hx hb dX6_type_36 (by decide) (fun c15 => ?_) (fun c15 => ?_)
      · have hE1 := ite_t hE1 c15
        exact J68_8 v3h8 v5h8 x7 ls (lv_sub hl [1, 2, 3, 5, 0] rfl) hE1
      · have hE1 := ite_f hE1 c15
        refine lv_lload hx hb dX6_type_39 (lv_at hl 0 rfl) ?_
        refine lv_lconst (v := 0) hx hb dX6_type_41 rfl ?_
        refine W.lcmp hx hb dX6_type_42 ?_
        refine lv_if_eq (tgt := 64) hx hb dX6_type_43 (by decide) (fun c14 => ?_) (fun c14 => ?_)
        · have hE1 := ite_t hE1 c14
          exact J64_8 v3h8 v5h8 x7 ls (lv_sub hl [1, 2, 3, 5, 0] rfl) hE1
        · have hE1 := ite_f hE1 c14
          refine lv_lload hx hb dX6_type_46 (lv_at hl 0 rfl) ?_
          refine lv_ldc2 hx hb hown (kw_782 htk) dX6_type_48 ?_
          refine W.lcmp hx hb dX6_type_51 ?_
          refine lv_if_lt (tgt := 68) hx hb dX6_type_52 (by decide) (fun c13 => ?_) (fun c13 => ?_)
          · have hE1 := ite_t hE1 c13
            exact J68_8 v3h8 v5h8 x7 ls (lv_sub hl [1, 2, 3, 5, 0] rfl) hE1
          · have hE1 := ite_f hE1 c13
            refine lv_lload hx hb dX6_type_55 (lv_at hl 0 rfl) ?_
            refine lv_ldc2 hx hb hown (kw_783 htk) dX6_type_57 ?_
            refine W.lcmp hx hb dX6_type_60 ?_
            refine lv_if_gt (tgt := 68) hx hb dX6_type_61 (by decide) (fun c12 => ?_) (fun c12 => ?_)
            · have hE1 := ite_t hE1 c12
              exact J68_8 v3h8 v5h8 x7 ls (lv_sub hl [1, 2, 3, 5, 0] rfl) hE1
            · have hE1 := ite_f hE1 c12
              exact J64_8 v3h8 v5h8 x7 ls (lv_sub hl [1, 2, 3, 5, 0] rfl) hE1
def fX6_fail (N : Nat) (σ : vS) (p1 : Int32) (p2 : Int32) : Option (vS) :=
  if ((σ.1 4) = 0) then (
    some (p_i (p_i σ 4 p1) 5 p2)
  ) else (
    some σ
  )
abbrev rmX6_fail : Room := { frames := 0, cells := 0, slots := 0, locals := 0 }
abbrev wsX6_fail : List Cond := .code yX6_fail cX6_fail 3 none :: kws
theorem kcX6_fail {R : Room} {s : State} {args : Array Value} {own : String} {index : Nat} (htk : ∀ w ∈ kws, w.before args s = true) (hl : (Cond.methodLink own index yX6_fail).before args s = true) (hR : rmX6_fail.frames + 1 ≤ R.frames ∧ 8 + (3 + 11) + rmX6_fail.locals ≤ R.locals) : CallW R s args own RX6 index yX6_fail cX6_fail 3 none wsX6_fail rmX6_fail 0 0 2 :=
  ⟨callB_of 2 htk (k_good kc_807) rfl rfl rfl (kw_58 htk) hl (by decide +kernel) hR, (kw_806 htk), (kw_29 htk)⟩
set_option maxRecDepth 100000 in
set_option maxHeartbeats 4000000 in
theorem mX6_fail (l : Launch) (D : va_G) (cs : Nat → ClassId) (ad : Nat → Nat) (N : Nat) (σ : vS) (p1 : Int32) (p2 : Int32) (σ' : vS) (hf : fX6_fail N σ p1 p2 = some σ') : k_Met l yX6_fail wsX6_fail rmX6_fail D (tM cs) (wM cs ad) (k_A 17 ad) [.ref (ad 0), .int p1, .int p2] σ none σ' := by
  refine k_of (cc := cX6_fail) (maxL := 3) (ret := none) (by decide) rfl (Nat.le_of_ble_eq_true rfl) ?_
  intro p e s m args below meth c ls H locs hcf hr hlk hK hZ hl hw
  generalize hQ0 : MQ below _ args s 0 0 _ = Q0
  obtain ⟨T0, hE0⟩ : ∃ T, T = fX6_fail N σ p1 p2 := ⟨_, rfl⟩
  have hR := hE0.trans hf
  have hN0 : T0 ≠ none := by rw [hR]; exact fun h => nomatch h
  have hx := hcf.1
  have hb := hcf.2.1
  have htk := hcf.2.2.2.2
  have hown := hcf.2.2.2.1
  unfold fX6_fail at hE0
  replace hl : lv_has ls 3 [(0, .ref (ad 0)), (1, .int p1), (2, .int p2)] := hl
  refine lv_aload_n hx hb dX6_fail_0 rfl (lv_at hl 0 rfl) ?_
  refine kg_X6_fault hcf hK (kw_685 htk) (x := (σ.1 4)) dX6_fail_1 hw rfl ?_
  refine lv_if_ne (tgt := 17) hx hb dX6_fail_4 (by decide) (fun c1 => ?_) (fun c1 => ?_)
  · have hE0 := ite_f hE0 c1
    exact kret_v hcf hr hlk hK hw (rt1 hR hE0) hQ0 dX6_fail_17
  · have hE0 := ite_t hE0 c1
    refine lv_aload_n hx hb dX6_fail_7 rfl (lv_at hl 0 rfl) ?_
    refine lv_iload_n hx hb dX6_fail_8 rfl (lv_at hl 1 rfl) ?_
    refine kp_X6_fault hcf hK (kw_685 htk) dX6_fail_9 hw (fun H locs hw => ?_)
    refine lv_aload_n hx hb dX6_fail_12 rfl (lv_at hl 0 rfl) ?_
    refine lv_iload_n hx hb dX6_fail_13 rfl (lv_at hl 2 rfl) ?_
    refine kp_X6_faultAt hcf hK (kw_686 htk) dX6_fail_14 hw (fun H locs hw => ?_)
    exact kret_v hcf hr hlk hK hw (rt1 hR hE0) hQ0 dX6_fail_17
def fX6_failIf (N : Nat) (σ : vS) (p1 : Int32) (p2 : Int32) (p3 : Int32) : Option (vS) :=
  if (p1 = 0) then (
    some σ
  ) else (
    bd1 (fX6_fail N σ p2 p3) fun σ1 =>
    some σ1
  )
abbrev rmX6_failIf : Room := { frames := 1, cells := 0, slots := 0, locals := 22 }
abbrev wsX6_failIf : List Cond := .code yX6_failIf cX6_failIf 4 none :: kws
theorem kcX6_failIf {R : Room} {s : State} {args : Array Value} {own : String} {index : Nat} (htk : ∀ w ∈ kws, w.before args s = true) (hl : (Cond.methodLink own index yX6_failIf).before args s = true) (hR : rmX6_failIf.frames + 1 ≤ R.frames ∧ 8 + (4 + 11) + rmX6_failIf.locals ≤ R.locals) : CallW R s args own RX6 index yX6_failIf cX6_failIf 4 none wsX6_failIf rmX6_failIf 0 0 3 :=
  ⟨callB_of 3 htk (k_good kc_803) rfl rfl rfl (kw_58 htk) hl (by decide +kernel) hR, (kw_802 htk), (kw_28 htk)⟩
set_option maxRecDepth 100000 in
set_option maxHeartbeats 4000000 in
theorem mX6_failIf (l : Launch) (D : va_G) (cs : Nat → ClassId) (ad : Nat → Nat) (N : Nat) (σ : vS) (p1 : Int32) (p2 : Int32) (p3 : Int32) (σ' : vS) (hf : fX6_failIf N σ p1 p2 p3 = some σ') : k_Met l yX6_failIf wsX6_failIf rmX6_failIf D (tM cs) (wM cs ad) (k_A 17 ad) [.ref (ad 0), .int p1, .int p2, .int p3] σ none σ' := by
  refine k_of (cc := cX6_failIf) (maxL := 4) (ret := none) (by decide) rfl (Nat.le_of_ble_eq_true rfl) ?_
  intro p e s m args below meth c ls H locs hcf hr hlk hK hZ hl hw
  generalize hQ0 : MQ below _ args s 0 0 _ = Q0
  obtain ⟨T0, hE0⟩ : ∃ T, T = fX6_failIf N σ p1 p2 p3 := ⟨_, rfl⟩
  have hR := hE0.trans hf
  have hN0 : T0 ≠ none := by rw [hR]; exact fun h => nomatch h
  have hx := hcf.1
  have hb := hcf.2.1
  have htk := hcf.2.2.2.2
  have hown := hcf.2.2.2.1
  unfold fX6_failIf at hE0
  replace hl : lv_has ls 4 [(0, .ref (ad 0)), (1, .int p1), (2, .int p2), (3, .int p3)] := hl
  refine lv_iload_n hx hb dX6_failIf_0 rfl (lv_at hl 1 rfl) ?_
  refine lv_if_eq (tgt := 10) hx hb dX6_failIf_1 (by decide) (fun c2 => ?_) (fun c2 => ?_)
  · have hE0 := ite_t hE0 c2
    exact kret_v hcf hr hlk hK hw (rt1 hR hE0) hQ0 dX6_failIf_10
  · have hE0 := ite_f hE0 c2
    refine lv_aload_n hx hb dX6_failIf_4 rfl (lv_at hl 0 rfl) ?_
    refine lv_iload_n hx hb dX6_failIf_5 rfl (lv_at hl 2 rfl) ?_
    refine lv_iload_n hx hb dX6_failIf_6 rfl (lv_at hl 3 rfl) ?_
    obtain ⟨σ1, k1, hE0⟩ := bd1_e hE0 hN0
    refine k_call (va_runV (As := [.int p2, .int p3]) (rest := []) hcf (mX6_fail l D cs ad N σ p2 p3 σ1 k1) (kcX6_fail htk (kw_804 htk) ⟨Nat.le_of_ble_eq_true rfl, Nat.le_of_ble_eq_true rfl⟩) ⟨k_blind, va_recv (ci := 6) (q0 := 0) hK hw.1 rfl rfl, k_pre hK hZ hw⟩ rfl rfl hl.1 rfl (lv_room (Nat.le_of_ble_eq_true rfl)) dX6_failIf_7 ⟨Nat.zero_le _, Nat.zero_le _⟩) hw (fun H locs hw => ?_)
    exact kret_v hcf hr hlk hK hw (rt1 hR hE0) hQ0 dX6_failIf_10
def fX6_charAt (N : Nat) (σ : vS) (p1 : Int32) : Option (Int32) :=
  if ((σ.1 2) ≤ p1) then (
    some (0 : Int32)
  ) else (
    if (p1 < 0 ∨ 100 ≤ (p1).toNatClampNeg) then none else
    if ¬ ((σ.2.1 1 ((p1).toNatClampNeg)).toUInt32.toUInt16.toUInt32.toInt32 = (σ.2.1 1 ((p1).toNatClampNeg))) then none else
    some (σ.2.1 1 ((p1).toNatClampNeg))
  )
abbrev rmX6_charAt : Room := { frames := 0, cells := 0, slots := 0, locals := 0 }
abbrev wsX6_charAt : List Cond := .code yX6_charAt cX6_charAt 2 (some .char) :: kws
theorem kcX6_charAt {R : Room} {s : State} {args : Array Value} {own : String} {index : Nat} (htk : ∀ w ∈ kws, w.before args s = true) (hl : (Cond.methodLink own index yX6_charAt).before args s = true) (hR : rmX6_charAt.frames + 1 ≤ R.frames ∧ 8 + (2 + 11) + rmX6_charAt.locals ≤ R.locals) : CallW R s args own RX6 index yX6_charAt cX6_charAt 2 (some .char) wsX6_charAt rmX6_charAt 0 0 1 :=
  ⟨callB_of 1 htk (k_good kc_799) rfl rfl rfl (kw_58 htk) hl (by decide +kernel) hR, (kw_798 htk), (kw_27 htk)⟩
set_option maxRecDepth 100000 in
set_option maxHeartbeats 4000000 in
theorem mX6_charAt (l : Launch) (D : va_G) (cs : Nat → ClassId) (ad : Nat → Nat) (N : Nat) (σ : vS) (p1 : Int32) (r : Int32) (hf : fX6_charAt N σ p1 = some r) : k_MP l yX6_charAt wsX6_charAt rmX6_charAt D (tM cs) (wM cs ad) [.ref (ad 0), .int p1] σ (.int r) := by
  refine k_ofP (cc := cX6_charAt) (maxL := 2) (ret := (some .char)) (by decide) rfl (Nat.le_of_ble_eq_true rfl) ?_
  intro p e s m args below meth c ls hcf hr hlk hK hZ hl hw
  generalize hQ0 : MQ below _ args s 0 0 _ = Q0
  obtain ⟨T0, hE0⟩ : ∃ T, T = fX6_charAt N σ p1 := ⟨_, rfl⟩
  have hR := hE0.trans hf
  have hN0 : T0 ≠ none := by rw [hR]; exact fun h => nomatch h
  have hx := hcf.1
  have hb := hcf.2.1
  have htk := hcf.2.2.2.2
  have hown := hcf.2.2.2.1
  unfold fX6_charAt at hE0
  replace hl : lv_has ls 2 [(0, .ref (ad 0)), (1, .int p1)] := hl
  refine lv_iload_n hx hb dX6_charAt_0 rfl (lv_at hl 1 rfl) ?_
  refine lv_aload_n hx hb dX6_charAt_1 rfl (lv_at hl 0 rfl) ?_
  refine kg_X6_size hcf hK (kw_682 htk) (x := (σ.1 2)) dX6_charAt_2 hw rfl ?_
  refine lv_icmp_ge (tgt := 17) hx hb dX6_charAt_5 (by decide) (fun c3 => ?_) (fun c3 => ?_)
  · have hE0 := ite_t hE0 c3
    refine lv_iconst (v := 0) hx hb dX6_charAt_17 rfl ?_
    exact kretP_z hcf hr hlk hK hw (rt1 hR hE0) hQ0 rfl dX6_charAt_18
  · have hE0 := ite_f hE0 c3
    refine lv_aload_n hx hb dX6_charAt_8 rfl (lv_at hl 0 rfl) ?_
    refine kg_X6_text hcf hK (kw_683 htk) dX6_charAt_9 hw ?_
    refine lv_iload_n hx hb dX6_charAt_12 rfl (lv_at hl 1 rfl) ?_
    obtain ⟨g1, hE0⟩ := gd_e hE0 hN0
    refine mald_A1 hcf hK (x := (σ.2.1 1 ((p1).toNatClampNeg))) dX6_charAt_13 g1 hw rfl ?_
    refine lv_goto (tgt := 18) hx hb dX6_charAt_14 (by decide) ?_
    obtain ⟨g2, hE0⟩ := gd_e hE0 hN0
    exact kretP_z hcf hr hlk hK hw (rt1 hR hE0) hQ0 (nr_c g2) dX6_charAt_18
def fX6_isDigit (N : Nat) (σ : vS) (p0 : Int32) : Option (Int32) :=
  if (p0 < (48 : Int32)) then (
    some (0 : Int32)
  ) else (
    if ((57 : Int32) < p0) then (
      some (0 : Int32)
    ) else (
      some (1 : Int32)
    )
  )
abbrev rmX6_isDigit : Room := { frames := 0, cells := 0, slots := 0, locals := 0 }
abbrev wsX6_isDigit : List Cond := .code yX6_isDigit cX6_isDigit 1 (some .boolean) :: kws
theorem kcX6_isDigit {R : Room} {s : State} {args : Array Value} {own : String} {index : Nat} (htk : ∀ w ∈ kws, w.before args s = true) (hl : (Cond.methodLink own index yX6_isDigit).before args s = true) (hR : rmX6_isDigit.frames + 1 ≤ R.frames ∧ 8 + (1 + 11) + rmX6_isDigit.locals ≤ R.locals) : CallB R s args own index yX6_isDigit cX6_isDigit 1 (some .boolean) wsX6_isDigit rmX6_isDigit 0 0 1 ∧ (Cond.static yX6_isDigit).before args s = true :=
  ⟨callB_of 1 htk (k_good kc_827) rfl rfl rfl (kw_58 htk) hl (by decide +kernel) hR, (kw_826 htk)⟩
set_option maxRecDepth 100000 in
set_option maxHeartbeats 4000000 in
theorem mX6_isDigit (l : Launch) (D : va_G) (cs : Nat → ClassId) (ad : Nat → Nat) (N : Nat) (σ : vS) (p0 : Int32) (r : Int32) (hf : fX6_isDigit N σ p0 = some r) : k_MP l yX6_isDigit wsX6_isDigit rmX6_isDigit D (tM cs) (wM cs ad) [.int p0] σ (.int r) := by
  refine k_ofP (cc := cX6_isDigit) (maxL := 1) (ret := (some .boolean)) (by decide) rfl (Nat.le_of_ble_eq_true rfl) ?_
  intro p e s m args below meth c ls hcf hr hlk hK hZ hl hw
  generalize hQ0 : MQ below _ args s 0 0 _ = Q0
  obtain ⟨T0, hE0⟩ : ∃ T, T = fX6_isDigit N σ p0 := ⟨_, rfl⟩
  have hR := hE0.trans hf
  have hN0 : T0 ≠ none := by rw [hR]; exact fun h => nomatch h
  have hx := hcf.1
  have hb := hcf.2.1
  have htk := hcf.2.2.2.2
  have hown := hcf.2.2.2.1
  unfold fX6_isDigit at hE0
  replace hl : lv_has ls 1 [(0, .int p0)] := hl
  refine lv_iload_n hx hb dX6_isDigit_0 rfl (lv_at hl 0 rfl) ?_
  refine lv_bipush (v := 48) hx hb dX6_isDigit_1 rfl ?_
  refine lv_icmp_lt (tgt := 16) hx hb dX6_isDigit_3 (by decide) (fun c2 => ?_) (fun c2 => ?_)
  · have hE0 := ite_t hE0 c2
    refine lv_iconst (v := 0) hx hb dX6_isDigit_16 rfl ?_
    exact kretP_z hcf hr hlk hK hw (rt1 hR hE0) hQ0 rfl dX6_isDigit_17
  · have hE0 := ite_f hE0 c2
    refine lv_iload_n hx hb dX6_isDigit_6 rfl (lv_at hl 0 rfl) ?_
    refine lv_bipush (v := 57) hx hb dX6_isDigit_7 rfl ?_
    refine lv_icmp_gt (tgt := 16) hx hb dX6_isDigit_9 (by decide) (fun c1 => ?_) (fun c1 => ?_)
    · have hE0 := ite_t hE0 c1
      refine lv_iconst (v := 0) hx hb dX6_isDigit_16 rfl ?_
      exact kretP_z hcf hr hlk hK hw (rt1 hR hE0) hQ0 rfl dX6_isDigit_17
    · have hE0 := ite_f hE0 c1
      refine lv_iconst (v := 1) hx hb dX6_isDigit_12 rfl ?_
      refine lv_goto (tgt := 17) hx hb dX6_isDigit_13 (by decide) ?_
      exact kretP_z hcf hr hlk hK hw (rt1 hR hE0) hQ0 rfl dX6_isDigit_17
def fX6_isCapital (N : Nat) (σ : vS) (p0 : Int32) : Option (Int32) :=
  if (p0 < (65 : Int32)) then (
    some (0 : Int32)
  ) else (
    if ((90 : Int32) < p0) then (
      some (0 : Int32)
    ) else (
      some (1 : Int32)
    )
  )
abbrev rmX6_isCapital : Room := { frames := 0, cells := 0, slots := 0, locals := 0 }
abbrev wsX6_isCapital : List Cond := .code yX6_isCapital cX6_isCapital 1 (some .boolean) :: kws
theorem kcX6_isCapital {R : Room} {s : State} {args : Array Value} {own : String} {index : Nat} (htk : ∀ w ∈ kws, w.before args s = true) (hl : (Cond.methodLink own index yX6_isCapital).before args s = true) (hR : rmX6_isCapital.frames + 1 ≤ R.frames ∧ 8 + (1 + 11) + rmX6_isCapital.locals ≤ R.locals) : CallB R s args own index yX6_isCapital cX6_isCapital 1 (some .boolean) wsX6_isCapital rmX6_isCapital 0 0 1 ∧ (Cond.static yX6_isCapital).before args s = true :=
  ⟨callB_of 1 htk (k_good kc_838) rfl rfl rfl (kw_58 htk) hl (by decide +kernel) hR, (kw_837 htk)⟩
set_option maxRecDepth 100000 in
set_option maxHeartbeats 4000000 in
theorem mX6_isCapital (l : Launch) (D : va_G) (cs : Nat → ClassId) (ad : Nat → Nat) (N : Nat) (σ : vS) (p0 : Int32) (r : Int32) (hf : fX6_isCapital N σ p0 = some r) : k_MP l yX6_isCapital wsX6_isCapital rmX6_isCapital D (tM cs) (wM cs ad) [.int p0] σ (.int r) := by
  refine k_ofP (cc := cX6_isCapital) (maxL := 1) (ret := (some .boolean)) (by decide) rfl (Nat.le_of_ble_eq_true rfl) ?_
  intro p e s m args below meth c ls hcf hr hlk hK hZ hl hw
  generalize hQ0 : MQ below _ args s 0 0 _ = Q0
  obtain ⟨T0, hE0⟩ : ∃ T, T = fX6_isCapital N σ p0 := ⟨_, rfl⟩
  have hR := hE0.trans hf
  have hN0 : T0 ≠ none := by rw [hR]; exact fun h => nomatch h
  have hx := hcf.1
  have hb := hcf.2.1
  have htk := hcf.2.2.2.2
  have hown := hcf.2.2.2.1
  unfold fX6_isCapital at hE0
  replace hl : lv_has ls 1 [(0, .int p0)] := hl
  refine lv_iload_n hx hb dX6_isCapital_0 rfl (lv_at hl 0 rfl) ?_
  refine lv_bipush (v := 65) hx hb dX6_isCapital_1 rfl ?_
  refine lv_icmp_lt (tgt := 16) hx hb dX6_isCapital_3 (by decide) (fun c2 => ?_) (fun c2 => ?_)
  · have hE0 := ite_t hE0 c2
    refine lv_iconst (v := 0) hx hb dX6_isCapital_16 rfl ?_
    exact kretP_z hcf hr hlk hK hw (rt1 hR hE0) hQ0 rfl dX6_isCapital_17
  · have hE0 := ite_f hE0 c2
    refine lv_iload_n hx hb dX6_isCapital_6 rfl (lv_at hl 0 rfl) ?_
    refine lv_bipush (v := 90) hx hb dX6_isCapital_7 rfl ?_
    refine lv_icmp_gt (tgt := 16) hx hb dX6_isCapital_9 (by decide) (fun c1 => ?_) (fun c1 => ?_)
    · have hE0 := ite_t hE0 c1
      refine lv_iconst (v := 0) hx hb dX6_isCapital_16 rfl ?_
      exact kretP_z hcf hr hlk hK hw (rt1 hR hE0) hQ0 rfl dX6_isCapital_17
    · have hE0 := ite_f hE0 c1
      refine lv_iconst (v := 1) hx hb dX6_isCapital_12 rfl ?_
      refine lv_goto (tgt := 17) hx hb dX6_isCapital_13 (by decide) ?_
      exact kretP_z hcf hr hlk hK hw (rt1 hR hE0) hQ0 rfl dX6_isCapital_17
def jX6_skip_26 (N : Nat) (σj26 : vS) : Option (vS) :=
  some σj26
def bX6_skip_0 (N : Nat) (σh0 : vS) : Option ((vS) ⊕ (vS)) :=
  bd1 (fX6_charAt N σh0 (σh0.1 3)) fun r1 =>
  if (r1 = (32 : Int32)) then (
    some (.inl (p_i σh0 3 ((σh0.1 3) + (1 : Int32))))
  ) else (
    some (.inr σh0)
  )
def fX6_skip (N : Nat) (σ : vS) : Option (vS) :=
  bd1 (k_itr (fun zz => bX6_skip_0 N zz) N σ) fun q => jX6_skip_26 N q
abbrev rmX6_skip : Room := { frames := 1, cells := 0, slots := 0, locals := 21 }
abbrev wsX6_skip : List Cond := .code yX6_skip cX6_skip 1 none :: kws
theorem kcX6_skip {R : Room} {s : State} {args : Array Value} {own : String} {index : Nat} (htk : ∀ w ∈ kws, w.before args s = true) (hl : (Cond.methodLink own index yX6_skip).before args s = true) (hR : rmX6_skip.frames + 1 ≤ R.frames ∧ 8 + (1 + 11) + rmX6_skip.locals ≤ R.locals) : CallW R s args own RX6 index yX6_skip cX6_skip 1 none wsX6_skip rmX6_skip 0 0 0 :=
  ⟨callB_of 0 htk (k_good kc_795) rfl rfl rfl (kw_58 htk) hl (by decide +kernel) hR, (kw_794 htk), (kw_26 htk)⟩
set_option maxRecDepth 100000 in
set_option maxHeartbeats 4000000 in
theorem mX6_skip (l : Launch) (D : va_G) (cs : Nat → ClassId) (ad : Nat → Nat) (N : Nat) (σ : vS) (σ' : vS) (hf : fX6_skip N σ = some σ') : k_Met l yX6_skip wsX6_skip rmX6_skip D (tM cs) (wM cs ad) (k_A 17 ad) [.ref (ad 0)] σ none σ' := by
  refine k_of (cc := cX6_skip) (maxL := 1) (ret := none) (by decide) rfl (Nat.le_of_ble_eq_true rfl) ?_
  intro p e s m args below meth c ls H locs hcf hr hlk hK hZ hl hw
  generalize hQ0 : MQ below _ args s 0 0 _ = Q0
  obtain ⟨T0, hE0⟩ : ∃ T, T = fX6_skip N σ := ⟨_, rfl⟩
  have hR := hE0.trans hf
  have hN0 : T0 ≠ none := by rw [hR]; exact fun h => nomatch h
  have hx := hcf.1
  have hb := hcf.2.1
  have htk := hcf.2.2.2.2
  have hown := hcf.2.2.2.1
  unfold fX6_skip at hE0
  replace hl : lv_has ls 1 [(0, .ref (ad 0))] := hl
  have J26 : ∀ (σj26 : vS) (H : Heap) (locs : List Loc) (ls : Array Slot), lv_has ls 1 [] → k_H D (wM cs ad) (k_A 17 ad) σj26 s.heap H locs → T0 = jX6_skip_26 N σj26 → W p l e rmX6_skip s m args below meth c H locs 0 0 Q0 (F0 m 26 ls []) := by
    intro σj26 H locs ls hl hw hE0
    unfold jX6_skip_26 at hE0
    exact kret_v hcf hr hlk hK hw (rt1 hR hE0) hQ0 dX6_skip_26
  obtain ⟨q, hq, hE0⟩ := bd1_e hE0 hN0
  refine k_ind (P := fun zz => ∀ (H : Heap) (locs : List Loc) (ls : Array Slot), lv_has ls 1 [(0, .ref (ad 0))] → k_H D (wM cs ad) (k_A 17 ad) zz s.heap H locs → W p l e rmX6_skip s m args below meth c H locs 0 0 Q0 (F0 m 0 ls [])) ?_ N _ hq H locs ls (lv_sub hl [0] rfl) hw
  intro sX T1 hE1 hN1 hC1 hX1
  obtain ⟨σh0, hsg⟩ : ∃ z, z = sX := ⟨_, rfl⟩
  subst hsg
  replace hE1 : T1 = bX6_skip_0 N σh0 := hE1
  unfold bX6_skip_0 at hE1
  intro H locs ls hl hw
  replace hl : lv_has ls 1 [(0, .ref (ad 0))] := hl
  replace hw : k_H D (wM cs ad) (k_A 17 ad) σh0 s.heap H locs := hw
  refine lv_aload_n hx hb dX6_skip_0 rfl (lv_at hl 0 rfl) ?_
  refine lv_aload_n hx hb dX6_skip_1 rfl (lv_at hl 0 rfl) ?_
  refine kg_X6_pos hcf hK (kw_684 htk) (x := (σh0.1 3)) dX6_skip_2 hw rfl ?_
  obtain ⟨r1, k1, hE1⟩ := bd1_e hE1 hN1
  refine k_callP (va_runV (As := [.int (σh0.1 3)]) (rest := []) hcf (mX6_charAt l D cs ad N σh0 (σh0.1 3) r1 k1) (kcX6_charAt htk (kw_796 htk) ⟨Nat.le_of_ble_eq_true rfl, Nat.le_of_ble_eq_true rfl⟩) ⟨k_blind, va_recv (ci := 6) (q0 := 0) hK hw.1 rfl rfl, k_pre hK hZ hw⟩ rfl rfl hl.1 rfl (lv_room (Nat.le_of_ble_eq_true rfl)) dX6_skip_5 ⟨Nat.zero_le _, Nat.zero_le _⟩) ?_
  refine lv_bipush (v := 32) hx hb dX6_skip_8 rfl ?_
  refine lv_icmp_ne (tgt := 26) hx hb dX6_skip_10 (by decide) (fun c2 => ?_) (fun c2 => ?_)
  · have hE1 := ite_f hE1 c2
    have hq := hX1 _ hE1
    subst hq
    exact J26 σh0 H locs ls (lv_sub hl [] rfl) hw hE0
  · have hE1 := ite_t hE1 c2
    refine lv_aload_n hx hb dX6_skip_13 rfl (lv_at hl 0 rfl) ?_
    refine lv_dup hx hb dX6_skip_14 rfl ?_
    refine kg_X6_pos hcf hK (kw_684 htk) (x := (σh0.1 3)) dX6_skip_15 hw rfl ?_
    refine lv_iconst (v := 1) hx hb dX6_skip_18 rfl ?_
    refine lv_iadd hx hb dX6_skip_19 ?_
    refine kp_X6_pos hcf hK (kw_684 htk) dX6_skip_20 hw (fun H locs hw => ?_)
    refine lv_goto (tgt := 0) hx hb dX6_skip_23 (by decide) ?_
    exact hC1 _ hE1 H locs ls (lv_sub hl [0] rfl) hw
def jX6_number0_71 (N : Nat) (σj71 : vS) (v1j71 : Int32) (v2j71 : Int32) : Option (Int64 × vS) :=
  if (v2j71 = (1 : Int32)) then (
    if (v1j71 < 0 ∨ 100 ≤ (v1j71).toNatClampNeg) then none else
    some ((((σj71.2.1 1 ((v1j71).toNatClampNeg)) - (48 : Int32))).toInt64, σj71)
  ) else (
    if (v2j71 = (2 : Int32)) then (
      if (v1j71 < 0 ∨ 100 ≤ (v1j71).toNatClampNeg) then none else
      if ((v1j71 + (1 : Int32)) < 0 ∨ 100 ≤ ((v1j71 + (1 : Int32))).toNatClampNeg) then none else
      some ((((((10 : Int32) * ((σj71.2.1 1 ((v1j71).toNatClampNeg)) - (48 : Int32))) + (σj71.2.1 1 (((v1j71 + (1 : Int32))).toNatClampNeg))) - (48 : Int32))).toInt64, σj71)
    ) else (
      some ((1 : Int64), σj71)
    )
  )
def jX6_number0_32 (N : Nat) (σj32 : vS) (v1j32 : Int32) : Option (Int64 × vS) :=
  k_lt ((σj32.1 3) - v1j32) fun x2 =>
  if ((2 : Int32) < x2) then (
    bd1 (fX6_failIf N σj32 (1 : Int32) (-3 : Int32) v1j32) fun σ3 =>
    jX6_number0_71 N σ3 v1j32 x2
  ) else (
    if (x2 ≤ 0) then (
      bd1 (fX6_failIf N σj32 (0 : Int32) (-3 : Int32) v1j32) fun σ9 =>
      jX6_number0_71 N σ9 v1j32 x2
    ) else (
      if (v1j32 < 0 ∨ 100 ≤ (v1j32).toNatClampNeg) then none else
      if ((σj32.2.1 1 ((v1j32).toNatClampNeg)) = (48 : Int32)) then (
        bd1 (fX6_failIf N σj32 (1 : Int32) (-3 : Int32) v1j32) fun σ12 =>
        jX6_number0_71 N σ12 v1j32 x2
      ) else (
        bd1 (fX6_failIf N σj32 (0 : Int32) (-3 : Int32) v1j32) fun σ11 =>
        jX6_number0_71 N σ11 v1j32 x2
      )
    )
  )
def bX6_number0_5 (N : Nat) (x1 : Int32) (σh5 : vS) : Option ((vS) ⊕ (vS)) :=
  bd1 (fX6_charAt N σh5 (σh5.1 3)) fun r16 =>
  bd1 (fX6_isDigit N σh5 r16) fun r17 =>
  if (r17 = 0) then (
    some (.inr σh5)
  ) else (
    some (.inl (p_i σh5 3 ((σh5.1 3) + (1 : Int32))))
  )
def fX6_number0 (N : Nat) (σ : vS) : Option (Int64 × vS) :=
  k_lt (σ.1 3) fun x1 =>
  bd1 (k_itr (fun zz => bX6_number0_5 N x1 zz) N σ) fun q => jX6_number0_32 N q x1
abbrev rmX6_number0 : Room := { frames := 2, cells := 0, slots := 0, locals := 45 }
abbrev wsX6_number0 : List Cond := .code yX6_number0 cX6_number0 3 (some .long) :: kws
theorem kcX6_number0 {R : Room} {s : State} {args : Array Value} {own : String} {index : Nat} (htk : ∀ w ∈ kws, w.before args s = true) (hl : (Cond.methodLink own index yX6_number0).before args s = true) (hR : rmX6_number0.frames + 1 ≤ R.frames ∧ 8 + (3 + 11) + rmX6_number0.locals ≤ R.locals) : CallW R s args own RX6 index yX6_number0 cX6_number0 3 (some .long) wsX6_number0 rmX6_number0 0 0 0 :=
  ⟨callB_of 0 htk (k_good kc_824) rfl rfl rfl (kw_58 htk) hl (by decide +kernel) hR, (kw_823 htk), (kw_33 htk)⟩
set_option maxRecDepth 100000 in
set_option maxHeartbeats 4000000 in
theorem mX6_number0 (l : Launch) (D : va_G) (cs : Nat → ClassId) (ad : Nat → Nat) (N : Nat) (σ : vS) (r : Int64) (σ' : vS) (hf : fX6_number0 N σ = some (r, σ')) : k_Met l yX6_number0 wsX6_number0 rmX6_number0 D (tM cs) (wM cs ad) (k_A 17 ad) [.ref (ad 0)] σ (some (.long r)) σ' := by
  refine k_of (cc := cX6_number0) (maxL := 3) (ret := (some .long)) (by decide) rfl (Nat.le_of_ble_eq_true rfl) ?_
  intro p e s m args below meth c ls H locs hcf hr hlk hK hZ hl hw
  generalize hQ0 : MQ below _ args s 0 0 _ = Q0
  obtain ⟨T0, hE0⟩ : ∃ T, T = fX6_number0 N σ := ⟨_, rfl⟩
  have hR := hE0.trans hf
  have hN0 : T0 ≠ none := by rw [hR]; exact fun h => nomatch h
  have hx := hcf.1
  have hb := hcf.2.1
  have htk := hcf.2.2.2.2
  have hown := hcf.2.2.2.1
  unfold fX6_number0 at hE0
  replace hl : lv_has ls 3 [(0, .ref (ad 0))] := hl
  have J71 : ∀ (v1j71 : Int32) (v2j71 : Int32) (σj71 : vS) (H : Heap) (locs : List Loc) (ls : Array Slot), lv_has ls 3 [(0, .ref (ad 0)), (1, .int v1j71), (2, .int v2j71)] → k_H D (wM cs ad) (k_A 17 ad) σj71 s.heap H locs → T0 = jX6_number0_71 N σj71 v1j71 v2j71 → W p l e rmX6_number0 s m args below meth c H locs 0 0 Q0 (F0 m 71 ls []) := by
    intro v1j71 v2j71 σj71 H locs ls hl hw hE0
    unfold jX6_number0_71 at hE0
    refine lv_iload_n hx hb dX6_number0_71 rfl (lv_at hl 2 rfl) ?_
    refine lv_iconst (v := 1) hx hb dX6_number0_72 rfl ?_
    refine lv_icmp_ne (tgt := 89) hx hb dX6_number0_73 (by decide) (fun c8 => ?_) (fun c8 => ?_)
    · have hE0 := ite_f hE0 c8
      refine lv_iload_n hx hb dX6_number0_89 rfl (lv_at hl 2 rfl) ?_
      refine lv_iconst (v := 2) hx hb dX6_number0_90 rfl ?_
      refine lv_icmp_ne (tgt := 122) hx hb dX6_number0_91 (by decide) (fun c6 => ?_) (fun c6 => ?_)
      · have hE0 := ite_f hE0 c6
        refine lv_lconst (v := 1) hx hb dX6_number0_122 rfl ?_
        exact kret_l hcf hr hlk hK hw (rt2 hR hE0) hQ0 dX6_number0_123
      · have hE0 := ite_t hE0 c6
        refine lv_bipush (v := 10) hx hb dX6_number0_94 rfl ?_
        refine lv_aload_n hx hb dX6_number0_96 rfl (lv_at hl 0 rfl) ?_
        refine kg_X6_text hcf hK (kw_683 htk) dX6_number0_97 hw ?_
        refine lv_iload_n hx hb dX6_number0_100 rfl (lv_at hl 1 rfl) ?_
        obtain ⟨g4, hE0⟩ := gd_e hE0 hN0
        refine mald_A1 hcf hK (x := (σj71.2.1 1 ((v1j71).toNatClampNeg))) dX6_number0_101 g4 hw rfl ?_
        refine lv_bipush (v := 48) hx hb dX6_number0_102 rfl ?_
        refine lv_isub hx hb dX6_number0_104 ?_
        refine lv_imul hx hb dX6_number0_105 ?_
        refine lv_aload_n hx hb dX6_number0_106 rfl (lv_at hl 0 rfl) ?_
        refine kg_X6_text hcf hK (kw_683 htk) dX6_number0_107 hw ?_
        refine lv_iload_n hx hb dX6_number0_110 rfl (lv_at hl 1 rfl) ?_
        refine lv_iconst (v := 1) hx hb dX6_number0_111 rfl ?_
        refine lv_iadd hx hb dX6_number0_112 ?_
        obtain ⟨g5, hE0⟩ := gd_e hE0 hN0
        refine mald_A1 hcf hK (x := (σj71.2.1 1 (((v1j71 + (1 : Int32))).toNatClampNeg))) dX6_number0_113 g5 hw rfl ?_
        refine lv_iadd hx hb dX6_number0_114 ?_
        refine lv_bipush (v := 48) hx hb dX6_number0_115 rfl ?_
        refine lv_isub hx hb dX6_number0_117 ?_
        refine lv_i2l hx hb dX6_number0_118 rfl ?_
        refine lv_goto (tgt := 123) hx hb dX6_number0_119 (by decide) ?_
        exact kret_l hcf hr hlk hK hw (rt2 hR hE0) hQ0 dX6_number0_123
    · have hE0 := ite_t hE0 c8
      refine lv_aload_n hx hb dX6_number0_76 rfl (lv_at hl 0 rfl) ?_
      refine kg_X6_text hcf hK (kw_683 htk) dX6_number0_77 hw ?_
      refine lv_iload_n hx hb dX6_number0_80 rfl (lv_at hl 1 rfl) ?_
      obtain ⟨g7, hE0⟩ := gd_e hE0 hN0
      refine mald_A1 hcf hK (x := (σj71.2.1 1 ((v1j71).toNatClampNeg))) dX6_number0_81 g7 hw rfl ?_
      refine lv_bipush (v := 48) hx hb dX6_number0_82 rfl ?_
      refine lv_isub hx hb dX6_number0_84 ?_
      refine lv_i2l hx hb dX6_number0_85 rfl ?_
      refine lv_goto (tgt := 123) hx hb dX6_number0_86 (by decide) ?_
      exact kret_l hcf hr hlk hK hw (rt2 hR hE0) hQ0 dX6_number0_123
  have J32 : ∀ (v1j32 : Int32) (σj32 : vS) (H : Heap) (locs : List Loc) (ls : Array Slot), lv_has ls 3 [(0, .ref (ad 0)), (1, .int v1j32)] → k_H D (wM cs ad) (k_A 17 ad) σj32 s.heap H locs → T0 = jX6_number0_32 N σj32 v1j32 → W p l e rmX6_number0 s m args below meth c H locs 0 0 Q0 (F0 m 32 ls []) := by
    intro v1j32 σj32 H locs ls hl hw hE0
    unfold jX6_number0_32 at hE0
    refine lv_aload_n hx hb dX6_number0_32 rfl (lv_at hl 0 rfl) ?_
    refine kg_X6_pos hcf hK (kw_684 htk) (x := (σj32.1 3)) dX6_number0_33 hw rfl ?_
    refine lv_iload_n hx hb dX6_number0_36 rfl (lv_at hl 1 rfl) ?_
    refine lv_isub hx hb dX6_number0_37 ?_
    refine lv_topi (fun x2 e_x2 => ?_)
    have hE0 := k_lts hE0 e_x2
    refine lv_istore_n hx hb dX6_number0_38 rfl hl (Nat.le_of_ble_eq_true rfl) rfl (fun ls (hl : lv_has ls 3 [(2, .int x2), (0, .ref (ad 0)), (1, .int v1j32)]) => ?_)
    refine lv_aload_n hx hb dX6_number0_39 rfl (lv_at hl 1 rfl) ?_
    refine lv_iload_n hx hb dX6_number0_40 rfl (lv_at hl 0 rfl) ?_
    refine lv_iconst (v := 2) hx hb dX6_number0_41 rfl ?_
    refine lv_icmp_gt (tgt := 60) hx hb dX6_number0_42 (by decide) (fun c15 => ?_) (fun c15 => ?_)
    · have hE0 := ite_t hE0 c15
      refine lv_iconst (v := 1) hx hb dX6_number0_60 rfl ?_
      refine lv_goto (tgt := 65) hx hb dX6_number0_61 (by decide) ?_
      refine lv_bipush (v := -3) hx hb dX6_number0_65 rfl ?_
      refine lv_iload_n hx hb dX6_number0_67 rfl (lv_at hl 2 rfl) ?_
      obtain ⟨σ3, k3, hE0⟩ := bd1_e hE0 hN0
      refine k_call (va_runV (As := [.int (1 : Int32), .int (-3 : Int32), .int v1j32]) (rest := []) hcf (mX6_failIf l D cs ad N σj32 (1 : Int32) (-3 : Int32) v1j32 σ3 k3) (kcX6_failIf htk (kw_800 htk) ⟨Nat.le_of_ble_eq_true rfl, Nat.le_of_ble_eq_true rfl⟩) ⟨k_blind, va_recv (ci := 6) (q0 := 0) hK hw.1 rfl rfl, k_pre hK hZ hw⟩ rfl rfl hl.1 rfl (lv_room (Nat.le_of_ble_eq_true rfl)) dX6_number0_68 ⟨Nat.zero_le _, Nat.zero_le _⟩) hw (fun H locs hw => ?_)
      exact J71 v1j32 x2 σ3 H locs ls (lv_sub hl [1, 2, 0] rfl) hw hE0
    · have hE0 := ite_f hE0 c15
      refine lv_iload_n hx hb dX6_number0_45 rfl (lv_at hl 0 rfl) ?_
      refine lv_if_le (tgt := 64) hx hb dX6_number0_46 (by decide) (fun c14 => ?_) (fun c14 => ?_)
      · have hE0 := ite_t hE0 c14
        refine lv_iconst (v := 0) hx hb dX6_number0_64 rfl ?_
        refine lv_bipush (v := -3) hx hb dX6_number0_65 rfl ?_
        refine lv_iload_n hx hb dX6_number0_67 rfl (lv_at hl 2 rfl) ?_
        obtain ⟨σ9, k9, hE0⟩ := bd1_e hE0 hN0
        refine k_call (va_runV (As := [.int (0 : Int32), .int (-3 : Int32), .int v1j32]) (rest := []) hcf (mX6_failIf l D cs ad N σj32 (0 : Int32) (-3 : Int32) v1j32 σ9 k9) (kcX6_failIf htk (kw_800 htk) ⟨Nat.le_of_ble_eq_true rfl, Nat.le_of_ble_eq_true rfl⟩) ⟨k_blind, va_recv (ci := 6) (q0 := 0) hK hw.1 rfl rfl, k_pre hK hZ hw⟩ rfl rfl hl.1 rfl (lv_room (Nat.le_of_ble_eq_true rfl)) dX6_number0_68 ⟨Nat.zero_le _, Nat.zero_le _⟩) hw (fun H locs hw => ?_)
        exact J71 v1j32 x2 σ9 H locs ls (lv_sub hl [1, 2, 0] rfl) hw hE0
      · have hE0 := ite_f hE0 c14
        refine lv_aload_n hx hb dX6_number0_49 rfl (lv_at hl 1 rfl) ?_
        refine kg_X6_text hcf hK (kw_683 htk) dX6_number0_50 hw ?_
        refine lv_iload_n hx hb dX6_number0_53 rfl (lv_at hl 2 rfl) ?_
        obtain ⟨g10, hE0⟩ := gd_e hE0 hN0
        refine mald_A1 hcf hK (x := (σj32.2.1 1 ((v1j32).toNatClampNeg))) dX6_number0_54 g10 hw rfl ?_
        refine lv_bipush (v := 48) hx hb dX6_number0_55 rfl ?_
        refine lv_icmp_ne (tgt := 64) hx hb dX6_number0_57 (by decide) (fun c13 => ?_) (fun c13 => ?_)
        · have hE0 := ite_f hE0 c13
          refine lv_iconst (v := 0) hx hb dX6_number0_64 rfl ?_
          refine lv_bipush (v := -3) hx hb dX6_number0_65 rfl ?_
          refine lv_iload_n hx hb dX6_number0_67 rfl (lv_at hl 2 rfl) ?_
          obtain ⟨σ11, k11, hE0⟩ := bd1_e hE0 hN0
          refine k_call (va_runV (As := [.int (0 : Int32), .int (-3 : Int32), .int v1j32]) (rest := []) hcf (mX6_failIf l D cs ad N σj32 (0 : Int32) (-3 : Int32) v1j32 σ11 k11) (kcX6_failIf htk (kw_800 htk) ⟨Nat.le_of_ble_eq_true rfl, Nat.le_of_ble_eq_true rfl⟩) ⟨k_blind, va_recv (ci := 6) (q0 := 0) hK hw.1 rfl rfl, k_pre hK hZ hw⟩ rfl rfl hl.1 rfl (lv_room (Nat.le_of_ble_eq_true rfl)) dX6_number0_68 ⟨Nat.zero_le _, Nat.zero_le _⟩) hw (fun H locs hw => ?_)
          exact J71 v1j32 x2 σ11 H locs ls (lv_sub hl [1, 2, 0] rfl) hw hE0
        · have hE0 := ite_t hE0 c13
          refine lv_iconst (v := 1) hx hb dX6_number0_60 rfl ?_
          refine lv_goto (tgt := 65) hx hb dX6_number0_61 (by decide) ?_
          refine lv_bipush (v := -3) hx hb dX6_number0_65 rfl ?_
          refine lv_iload_n hx hb dX6_number0_67 rfl (lv_at hl 2 rfl) ?_
          obtain ⟨σ12, k12, hE0⟩ := bd1_e hE0 hN0
          refine k_call (va_runV (As := [.int (1 : Int32), .int (-3 : Int32), .int v1j32]) (rest := []) hcf (mX6_failIf l D cs ad N σj32 (1 : Int32) (-3 : Int32) v1j32 σ12 k12) (kcX6_failIf htk (kw_800 htk) ⟨Nat.le_of_ble_eq_true rfl, Nat.le_of_ble_eq_true rfl⟩) ⟨k_blind, va_recv (ci := 6) (q0 := 0) hK hw.1 rfl rfl, k_pre hK hZ hw⟩ rfl rfl hl.1 rfl (lv_room (Nat.le_of_ble_eq_true rfl)) dX6_number0_68 ⟨Nat.zero_le _, Nat.zero_le _⟩) hw (fun H locs hw => ?_)
          exact J71 v1j32 x2 σ12 H locs ls (lv_sub hl [1, 2, 0] rfl) hw hE0
  refine lv_aload_n hx hb dX6_number0_0 rfl (lv_at hl 0 rfl) ?_
  refine kg_X6_pos hcf hK (kw_684 htk) (x := (σ.1 3)) dX6_number0_1 hw rfl ?_
  refine lv_topi (fun x1 e_x1 => ?_)
  have hE0 := k_lts hE0 e_x1
  refine lv_istore_n hx hb dX6_number0_4 rfl hl (Nat.le_of_ble_eq_true rfl) rfl (fun ls (hl : lv_has ls 3 [(1, .int x1), (0, .ref (ad 0))]) => ?_)
  obtain ⟨q, hq, hE0⟩ := bd1_e hE0 hN0
  refine k_ind (P := fun zz => ∀ (H : Heap) (locs : List Loc) (ls : Array Slot), lv_has ls 3 [(0, .ref (ad 0)), (1, .int x1)] → k_H D (wM cs ad) (k_A 17 ad) zz s.heap H locs → W p l e rmX6_number0 s m args below meth c H locs 0 0 Q0 (F0 m 5 ls [])) ?_ N _ hq H locs ls (lv_sub hl [1, 0] rfl) hw
  intro sX T1 hE1 hN1 hC1 hX1
  obtain ⟨σh5, hsg⟩ : ∃ z, z = sX := ⟨_, rfl⟩
  subst hsg
  replace hE1 : T1 = bX6_number0_5 N x1 σh5 := hE1
  unfold bX6_number0_5 at hE1
  intro H locs ls hl hw
  replace hl : lv_has ls 3 [(0, .ref (ad 0)), (1, .int x1)] := hl
  replace hw : k_H D (wM cs ad) (k_A 17 ad) σh5 s.heap H locs := hw
  refine lv_aload_n hx hb dX6_number0_5 rfl (lv_at hl 0 rfl) ?_
  refine lv_aload_n hx hb dX6_number0_6 rfl (lv_at hl 0 rfl) ?_
  refine kg_X6_pos hcf hK (kw_684 htk) (x := (σh5.1 3)) dX6_number0_7 hw rfl ?_
  obtain ⟨r16, k16, hE1⟩ := bd1_e hE1 hN1
  refine k_callP (va_runV (As := [.int (σh5.1 3)]) (rest := []) hcf (mX6_charAt l D cs ad N σh5 (σh5.1 3) r16 k16) (kcX6_charAt htk (kw_796 htk) ⟨Nat.le_of_ble_eq_true rfl, Nat.le_of_ble_eq_true rfl⟩) ⟨k_blind, va_recv (ci := 6) (q0 := 0) hK hw.1 rfl rfl, k_pre hK hZ hw⟩ rfl rfl hl.1 rfl (lv_room (Nat.le_of_ble_eq_true rfl)) dX6_number0_10 ⟨Nat.zero_le _, Nat.zero_le _⟩) ?_
  obtain ⟨r17, k17, hE1⟩ := bd1_e hE1 hN1
  refine k_callP (va_runS (As := [.int r16]) (rest := []) hcf (mX6_isDigit l D cs ad N σh5 r16 r17 k17) (kcX6_isDigit htk (kw_825 htk) ⟨Nat.le_of_ble_eq_true rfl, Nat.le_of_ble_eq_true rfl⟩) ⟨k_blind, k_pre hK hZ hw⟩ rfl rfl hl.1 rfl (lv_room (Nat.le_of_ble_eq_true rfl)) dX6_number0_13 ⟨Nat.zero_le _, Nat.zero_le _⟩) ?_
  refine lv_if_eq (tgt := 32) hx hb dX6_number0_16 (by decide) (fun c18 => ?_) (fun c18 => ?_)
  · have hE1 := ite_t hE1 c18
    have hq := hX1 _ hE1
    subst hq
    exact J32 x1 σh5 H locs ls (lv_sub hl [0, 1] rfl) hw hE0
  · have hE1 := ite_f hE1 c18
    refine lv_aload_n hx hb dX6_number0_19 rfl (lv_at hl 0 rfl) ?_
    refine lv_dup hx hb dX6_number0_20 rfl ?_
    refine kg_X6_pos hcf hK (kw_684 htk) (x := (σh5.1 3)) dX6_number0_21 hw rfl ?_
    refine lv_iconst (v := 1) hx hb dX6_number0_24 rfl ?_
    refine lv_iadd hx hb dX6_number0_25 ?_
    refine kp_X6_pos hcf hK (kw_684 htk) dX6_number0_26 hw (fun H locs hw => ?_)
    refine lv_goto (tgt := 5) hx hb dX6_number0_29 (by decide) ?_
    exact hC1 _ hE1 H locs ls (lv_sub hl [0, 1] rfl) hw
def fX6_noteCharge (N : Nat) (σ : vS) (p1 : Int32) : Option (vS) :=
  if ((σ.1 10) = 0) then (
    if ((σ.1 9) = (5 : Int32)) then (
      bd1 (fX6_failIf N σ (1 : Int32) (-5 : Int32) p1) fun σ3 =>
      some (p_i σ3 10 (1 : Int32))
    ) else (
      bd1 (fX6_failIf N σ (0 : Int32) (-5 : Int32) p1) fun σ2 =>
      some (p_i σ2 10 (1 : Int32))
    )
  ) else (
    bd1 (fX6_failIf N σ (0 : Int32) (-5 : Int32) p1) fun σ1 =>
    some (p_i σ1 10 (1 : Int32))
  )
abbrev rmX6_noteCharge : Room := { frames := 2, cells := 0, slots := 0, locals := 45 }
abbrev wsX6_noteCharge : List Cond := .code yX6_noteCharge cX6_noteCharge 2 none :: kws
theorem kcX6_noteCharge {R : Room} {s : State} {args : Array Value} {own : String} {index : Nat} (htk : ∀ w ∈ kws, w.before args s = true) (hl : (Cond.methodLink own index yX6_noteCharge).before args s = true) (hR : rmX6_noteCharge.frames + 1 ≤ R.frames ∧ 8 + (2 + 11) + rmX6_noteCharge.locals ≤ R.locals) : CallW R s args own RX6 index yX6_noteCharge cX6_noteCharge 2 none wsX6_noteCharge rmX6_noteCharge 0 0 1 :=
  ⟨callB_of 1 htk (k_good kc_815) rfl rfl rfl (kw_58 htk) hl (by decide +kernel) hR, (kw_814 htk), (kw_31 htk)⟩
set_option maxRecDepth 100000 in
set_option maxHeartbeats 4000000 in
theorem mX6_noteCharge (l : Launch) (D : va_G) (cs : Nat → ClassId) (ad : Nat → Nat) (N : Nat) (σ : vS) (p1 : Int32) (σ' : vS) (hf : fX6_noteCharge N σ p1 = some σ') : k_Met l yX6_noteCharge wsX6_noteCharge rmX6_noteCharge D (tM cs) (wM cs ad) (k_A 17 ad) [.ref (ad 0), .int p1] σ none σ' := by
  refine k_of (cc := cX6_noteCharge) (maxL := 2) (ret := none) (by decide) rfl (Nat.le_of_ble_eq_true rfl) ?_
  intro p e s m args below meth c ls H locs hcf hr hlk hK hZ hl hw
  generalize hQ0 : MQ below _ args s 0 0 _ = Q0
  obtain ⟨T0, hE0⟩ : ∃ T, T = fX6_noteCharge N σ p1 := ⟨_, rfl⟩
  have hR := hE0.trans hf
  have hN0 : T0 ≠ none := by rw [hR]; exact fun h => nomatch h
  have hx := hcf.1
  have hb := hcf.2.1
  have htk := hcf.2.2.2.2
  have hown := hcf.2.2.2.1
  unfold fX6_noteCharge at hE0
  replace hl : lv_has ls 2 [(0, .ref (ad 0)), (1, .int p1)] := hl
  refine lv_aload_n hx hb dX6_noteCharge_0 rfl (lv_at hl 0 rfl) ?_
  refine lv_aload_n hx hb dX6_noteCharge_1 rfl (lv_at hl 0 rfl) ?_
  refine kg_X6_charged hcf hK (kw_697 htk) (x := (σ.1 10)) dX6_noteCharge_2 hw rfl ?_
  refine lv_if_ne (tgt := 20) hx hb dX6_noteCharge_5 (by decide) (fun c5 => ?_) (fun c5 => ?_)
  · have hE0 := ite_f hE0 c5
    refine lv_iconst (v := 0) hx hb dX6_noteCharge_20 rfl ?_
    refine lv_bipush (v := -5) hx hb dX6_noteCharge_21 rfl ?_
    refine lv_iload_n hx hb dX6_noteCharge_23 rfl (lv_at hl 1 rfl) ?_
    obtain ⟨σ1, k1, hE0⟩ := bd1_e hE0 hN0
    refine k_call (va_runV (As := [.int (0 : Int32), .int (-5 : Int32), .int p1]) (rest := []) hcf (mX6_failIf l D cs ad N σ (0 : Int32) (-5 : Int32) p1 σ1 k1) (kcX6_failIf htk (kw_800 htk) ⟨Nat.le_of_ble_eq_true rfl, Nat.le_of_ble_eq_true rfl⟩) ⟨k_blind, va_recv (ci := 6) (q0 := 0) hK hw.1 rfl rfl, k_pre hK hZ hw⟩ rfl rfl hl.1 rfl (lv_room (Nat.le_of_ble_eq_true rfl)) dX6_noteCharge_24 ⟨Nat.zero_le _, Nat.zero_le _⟩) hw (fun H locs hw => ?_)
    refine lv_aload_n hx hb dX6_noteCharge_27 rfl (lv_at hl 0 rfl) ?_
    refine lv_iconst (v := 1) hx hb dX6_noteCharge_28 rfl ?_
    refine kp_X6_charged hcf hK (kw_697 htk) dX6_noteCharge_29 nz_1 hw (fun H locs hw => ?_)
    exact kret_v hcf hr hlk hK hw (rt1 hR hE0) hQ0 dX6_noteCharge_32
  · have hE0 := ite_t hE0 c5
    refine lv_aload_n hx hb dX6_noteCharge_8 rfl (lv_at hl 0 rfl) ?_
    refine kg_X6_elements hcf hK (kw_695 htk) (x := (σ.1 9)) dX6_noteCharge_9 hw rfl ?_
    refine lv_iconst (v := 5) hx hb dX6_noteCharge_12 rfl ?_
    refine lv_icmp_ne (tgt := 20) hx hb dX6_noteCharge_13 (by decide) (fun c4 => ?_) (fun c4 => ?_)
    · have hE0 := ite_f hE0 c4
      refine lv_iconst (v := 0) hx hb dX6_noteCharge_20 rfl ?_
      refine lv_bipush (v := -5) hx hb dX6_noteCharge_21 rfl ?_
      refine lv_iload_n hx hb dX6_noteCharge_23 rfl (lv_at hl 1 rfl) ?_
      obtain ⟨σ2, k2, hE0⟩ := bd1_e hE0 hN0
      refine k_call (va_runV (As := [.int (0 : Int32), .int (-5 : Int32), .int p1]) (rest := []) hcf (mX6_failIf l D cs ad N σ (0 : Int32) (-5 : Int32) p1 σ2 k2) (kcX6_failIf htk (kw_800 htk) ⟨Nat.le_of_ble_eq_true rfl, Nat.le_of_ble_eq_true rfl⟩) ⟨k_blind, va_recv (ci := 6) (q0 := 0) hK hw.1 rfl rfl, k_pre hK hZ hw⟩ rfl rfl hl.1 rfl (lv_room (Nat.le_of_ble_eq_true rfl)) dX6_noteCharge_24 ⟨Nat.zero_le _, Nat.zero_le _⟩) hw (fun H locs hw => ?_)
      refine lv_aload_n hx hb dX6_noteCharge_27 rfl (lv_at hl 0 rfl) ?_
      refine lv_iconst (v := 1) hx hb dX6_noteCharge_28 rfl ?_
      refine kp_X6_charged hcf hK (kw_697 htk) dX6_noteCharge_29 nz_1 hw (fun H locs hw => ?_)
      exact kret_v hcf hr hlk hK hw (rt1 hR hE0) hQ0 dX6_noteCharge_32
    · have hE0 := ite_t hE0 c4
      refine lv_iconst (v := 1) hx hb dX6_noteCharge_16 rfl ?_
      refine lv_goto (tgt := 21) hx hb dX6_noteCharge_17 (by decide) ?_
      refine lv_bipush (v := -5) hx hb dX6_noteCharge_21 rfl ?_
      refine lv_iload_n hx hb dX6_noteCharge_23 rfl (lv_at hl 1 rfl) ?_
      obtain ⟨σ3, k3, hE0⟩ := bd1_e hE0 hN0
      refine k_call (va_runV (As := [.int (1 : Int32), .int (-5 : Int32), .int p1]) (rest := []) hcf (mX6_failIf l D cs ad N σ (1 : Int32) (-5 : Int32) p1 σ3 k3) (kcX6_failIf htk (kw_800 htk) ⟨Nat.le_of_ble_eq_true rfl, Nat.le_of_ble_eq_true rfl⟩) ⟨k_blind, va_recv (ci := 6) (q0 := 0) hK hw.1 rfl rfl, k_pre hK hZ hw⟩ rfl rfl hl.1 rfl (lv_room (Nat.le_of_ble_eq_true rfl)) dX6_noteCharge_24 ⟨Nat.zero_le _, Nat.zero_le _⟩) hw (fun H locs hw => ?_)
      refine lv_aload_n hx hb dX6_noteCharge_27 rfl (lv_at hl 0 rfl) ?_
      refine lv_iconst (v := 1) hx hb dX6_noteCharge_28 rfl ?_
      refine kp_X6_charged hcf hK (kw_697 htk) dX6_noteCharge_29 nz_1 hw (fun H locs hw => ?_)
      exact kret_v hcf hr hlk hK hw (rt1 hR hE0) hQ0 dX6_noteCharge_32
