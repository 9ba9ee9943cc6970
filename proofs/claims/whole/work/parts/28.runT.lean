def jX5_type_96 (N : Nat) (σj96 : vS) : Option ((Int32 × vS) ⊕ Nat) :=
  some (.inl ((σj96.1 0), σj96))
def bX5_type_72 (N : Nat) (v1j40 : Int64) (v3j40 : Int32) (v5h72 : Int32) (σh72 : vS) : Option ((Int32 × vS) ⊕ (vS)) :=
  if (v3j40 ≤ v5h72) then (
    some (.inr σh72)
  ) else (
    bd1 (fX5_byteOf N σh72 v1j40 v5h72) fun r2 =>
    bd1 (fX4_add N σh72 (((r2).toUInt32 % 65536).toInt32)) fun σ3 =>
    k_lt (v5h72 + (1 : Int32)) fun x4 =>
    some (.inl (x4, σ3))
  )
def jX5_type_40 (N : Nat) (σ : vS) (v1j40 : Int64) (v3j40 : Int32) : Option ((Int32 × vS) ⊕ Nat) :=
  if (((σ.1 0) + v3j40) ≤ (100 : Int32)) then (
    bd1 (k_itr (fun zz => bX5_type_72 N v1j40 v3j40 zz.1 zz.2) N ((0 : Int32), σ)) fun q => jX5_type_96 N q
  ) else (
    some (.inr 1)
  )
def bX5_type_8 (N : Nat) (σ : vS) (p1 : Int64) (r1 : Int32) (v4h8 : Int32) : Option ((Int32) ⊕ ((Unit) ⊕ ((Int32 × vS) ⊕ Nat))) :=
  if (r1 ≤ v4h8) then (
    some (.inr (.inl ()))
  ) else (
    bd1 (fX5_byteOf N σ p1 v4h8) fun r7 =>
    bd1 (fX5_isPrintable N σ r7) fun r8 =>
    if (r8 = 0) then (
      some (.inr (.inr (.inr 0)))
    ) else (
      k_lt (v4h8 + (1 : Int32)) fun x9 =>
      some (.inl x9)
    )
  )
def fX5_type (N : Nat) (σ : vS) (p1 : Int64) : Option ((Int32 × vS) ⊕ Nat) :=
  bd1 (fX5_charactersIn N σ p1) fun r1 =>
  bds (k_itr (fun zz => bX5_type_8 N σ p1 r1 zz) N (0 : Int32)) fun _ => jX5_type_40 N σ p1 r1
abbrev rmX5_type : Room := { frames := 6, cells := 0, slots := 0, locals := 120 }
abbrev wsX5_type : List Cond := .code yX5_type cX5_type 6 (some .int) :: kws
theorem kcX5_type {R : Room} {s : State} {args : Array Value} {own : String} {index : Nat} (htk : ∀ w ∈ kws, w.before args s = true) (hl : (Cond.methodLink own index yX5_type).before args s = true) (hR : rmX5_type.frames + 1 ≤ R.frames ∧ 8 + (6 + 11) + rmX5_type.locals ≤ R.locals) : CallW R s args own RX5 index yX5_type cX5_type 6 (some .int) wsX5_type rmX5_type 0 0 1 :=
  ⟨callB_of 1 htk (k_good kc_476) rfl rfl rfl (kw_52 htk) hl (by decide +kernel) hR, (kw_474 htk), (kw_475 htk)⟩
set_option maxRecDepth 100000 in
set_option maxHeartbeats 4000000 in
theorem mX5_type (l : Launch) (D : va_G) (cs : Nat → ClassId) (ad : Nat → Nat) (N : Nat) (σ : vS) (p1 : Int64) (r : Int32) (σ' : vS) (hf : fX5_type N σ p1 = some (.inl (r, σ'))) : k_Met l yX5_type wsX5_type rmX5_type D (tK cs) (wK cs ad) (k_A 41 ad) [.ref (ad 0), .long p1] σ (some (.int r)) σ' := by
  refine k_of0 (cc := cX5_type) (maxL := 6) (ret := (some .int)) (by decide) rfl (Nat.le_of_ble_eq_true rfl) ?_
  intro p e s m args below meth c ls hcf hr hlk hK hZ hl hw
  generalize hQ0 : MQ below _ args s 0 0 _ = Q0
  obtain ⟨T0, hE0⟩ : ∃ T, T = fX5_type N σ p1 := ⟨_, rfl⟩
  have hR := hE0.trans hf
  have hN0 : T0 ≠ none := by rw [hR]; exact fun h => nomatch h
  have hx := hcf.1
  have hb := hcf.2.1
  have htk := hcf.2.2.2.2
  have hown := hcf.2.2.2.1
  unfold fX5_type at hE0
  replace hl : lv_has ls 6 [(0, .ref (ad 0)), (1, .long p1)] := hl
  have J96 : ∀ (σj96 : vS) (H : Heap) (locs : List Loc) (ls : Array Slot), lv_has ls 6 [(4, .ref (ad 4))] → k_H D (wK cs ad) (k_A 41 ad) σj96 s.heap H locs → T0 = jX5_type_96 N σj96 → W p l e rmX5_type s m args below meth c H locs 0 0 Q0 (F0 m 96 ls []) := by
    intro σj96 H locs ls hl hw hE0
    unfold jX5_type_96 at hE0
    refine lv_aload hx hb dX5_type_96 (lv_at hl 0 rfl) ?_
    refine kg_X4_length hcf hK (kw_91 htk) (x := (σj96.1 0)) dX5_type_98 hw rfl ?_
    exact kret_i hcf hr hlk hK hw (rts2 hR hE0) hQ0 dX5_type_101
  have J40 : ∀ (v1j40 : Int64) (v3j40 : Int32) (ls : Array Slot), lv_has ls 6 [(0, .ref (ad 0)), (1, .long v1j40), (3, .int v3j40)] → T0 = jX5_type_40 N σ v1j40 v3j40 → W p l e rmX5_type s m args below meth c s.heap [] 0 0 Q0 (F0 m 40 ls []) := by
    intro v1j40 v3j40 ls hl hE0
    unfold jX5_type_40 at hE0
    refine lv_aload_n hx hb dX5_type_40 rfl (lv_at hl 0 rfl) ?_
    refine kg_X5_reader hcf hK (kw_239 htk) dX5_type_41 hw ?_
    refine kg_X3_text hcf hK (kw_151 htk) dX5_type_44 hw ?_
    refine lv_astore hx hb dX5_type_47 hl (Nat.le_of_ble_eq_true rfl) rfl (fun ls (hl : lv_has ls 6 [(4, .ref (ad 4)), (0, .ref (ad 0)), (1, .long v1j40), (3, .int v3j40)]) => ?_)
    refine lv_aload hx hb dX5_type_49 (lv_at hl 0 rfl) ?_
    refine kg_X4_length hcf hK (kw_91 htk) (x := (σ.1 0)) dX5_type_51 hw rfl ?_
    refine lv_iload_n hx hb dX5_type_54 rfl (lv_at hl 3 rfl) ?_
    refine lv_iadd hx hb dX5_type_55 ?_
    refine lv_bipush (v := 100) hx hb dX5_type_56 rfl ?_
    refine lv_icmp_le (tgt := 69) hx hb dX5_type_58 (by decide) (fun c6 => ?_) (fun c6 => ?_)
    · have hE0 := ite_t hE0 c6
      refine lv_iconst (v := 0) hx hb dX5_type_69 rfl ?_
      refine lv_istore hx hb dX5_type_70 hl (Nat.le_of_ble_eq_true rfl) rfl (fun ls (hl : lv_has ls 6 [(5, .int (0 : Int32)), (4, .ref (ad 4)), (0, .ref (ad 0)), (1, .long v1j40), (3, .int v3j40)]) => ?_)
      obtain ⟨q, hq, hE0⟩ := bd1_e hE0 hN0
      refine k_ind (P := fun zz => ∀ (H : Heap) (locs : List Loc) (ls : Array Slot), lv_has ls 6 [(1, .long v1j40), (3, .int v3j40), (4, .ref (ad 4)), (5, .int zz.1)] → k_H D (wK cs ad) (k_A 41 ad) zz.2 s.heap H locs → W p l e rmX5_type s m args below meth c H locs 0 0 Q0 (F0 m 72 ls [])) ?_ N _ hq s.heap [] ls (lv_sub hl [3, 4, 1, 0] rfl) hw
      intro sX T1 hE1 hN1 hC1 hX1
      obtain ⟨v5h72, σh72⟩ := sX
      replace hE1 : T1 = bX5_type_72 N v1j40 v3j40 v5h72 σh72 := hE1
      unfold bX5_type_72 at hE1
      intro H locs ls hl hw
      replace hl : lv_has ls 6 [(1, .long v1j40), (3, .int v3j40), (4, .ref (ad 4)), (5, .int v5h72)] := hl
      replace hw : k_H D (wK cs ad) (k_A 41 ad) σh72 s.heap H locs := hw
      refine lv_iload hx hb dX5_type_72 (lv_at hl 3 rfl) ?_
      refine lv_iload_n hx hb dX5_type_74 rfl (lv_at hl 1 rfl) ?_
      refine lv_icmp_ge (tgt := 96) hx hb dX5_type_75 (by decide) (fun c5 => ?_) (fun c5 => ?_)
      · have hE1 := ite_t hE1 c5
        have hq := hX1 _ hE1
        subst hq
        exact J96 σh72 H locs ls (lv_sub hl [2] rfl) hw hE0
      · have hE1 := ite_f hE1 c5
        refine lv_aload hx hb dX5_type_78 (lv_at hl 2 rfl) ?_
        refine lv_lload_n hx hb dX5_type_80 rfl (lv_at hl 0 rfl) ?_
        refine lv_iload hx hb dX5_type_81 (lv_at hl 3 rfl) ?_
        obtain ⟨r2, k2, hE1⟩ := bd1_e hE1 hN1
        refine k_callP (va_runS (As := [.long v1j40, .int v5h72]) (rest := [.ref (ad 4)]) hcf (mX5_byteOf l D cs ad N σh72 v1j40 v5h72 r2 k2) (kcX5_byteOf htk (kw_480 htk) ⟨Nat.le_of_ble_eq_true rfl, Nat.le_of_ble_eq_true rfl⟩) ⟨k_blind, k_pre hK hZ hw⟩ rfl rfl hl.1 rfl (lv_room (Nat.le_of_ble_eq_true rfl)) dX5_type_83 ⟨Nat.zero_le _, Nat.zero_le _⟩) ?_
        refine lv_i2c hx hb dX5_type_86 rfl ?_
        obtain ⟨σ3, k3, hE1⟩ := bd1_e hE1 hN1
        refine k_call (va_runV (As := [.int (((r2).toUInt32 % 65536).toInt32)]) (rest := []) hcf (mX4_add l D cs ad N σh72 (((r2).toUInt32 % 65536).toInt32) σ3 k3) (kcX4_add htk (kw_565 htk) ⟨Nat.le_of_ble_eq_true rfl, Nat.le_of_ble_eq_true rfl⟩) ⟨k_blind, va_recv (ci := 4) (q0 := 4) hK hw.1 rfl rfl, k_pre hK hZ hw⟩ rfl rfl hl.1 rfl (lv_room (Nat.le_of_ble_eq_true rfl)) dX5_type_87 ⟨Nat.zero_le _, Nat.zero_le _⟩) hw (fun H locs hw => ?_)
        obtain ⟨x4, e_x4, hE1⟩ := k_lte hE1
        refine lv_iinc (k := 3) (v := x4) hx hb dX5_type_90 hl rfl (Eq.symm e_x4) (Nat.le_of_ble_eq_true rfl) rfl (fun ls (hl : lv_has ls 6 [(5, .int x4), (1, .long v1j40), (3, .int v3j40), (4, .ref (ad 4))]) => ?_)
        refine lv_goto (tgt := 72) hx hb dX5_type_93 (by decide) ?_
        exact hC1 _ hE1 H locs ls (lv_sub hl [1, 2, 3, 0] rfl) hw
    · have hE0 := ite_f hE0 c6
      exact rtsx hR hE0
  refine lv_lload_n hx hb dX5_type_0 rfl (lv_at hl 1 rfl) ?_
  obtain ⟨r1, k1, hE0⟩ := bd1_e hE0 hN0
  refine k_callP (va_runS (As := [.long p1]) (rest := []) hcf (mX5_charactersIn l D cs ad N σ p1 r1 k1) (kcX5_charactersIn htk (kw_477 htk) ⟨Nat.le_of_ble_eq_true rfl, Nat.le_of_ble_eq_true rfl⟩) ⟨k_blind, k_pre hK hZ hw⟩ rfl rfl hl.1 rfl (lv_room (Nat.le_of_ble_eq_true rfl)) dX5_type_1 ⟨Nat.zero_le _, Nat.zero_le _⟩) ?_
  refine lv_istore_n hx hb dX5_type_4 rfl hl (Nat.le_of_ble_eq_true rfl) rfl (fun ls (hl : lv_has ls 6 [(3, .int r1), (0, .ref (ad 0)), (1, .long p1)]) => ?_)
  refine lv_iconst (v := 0) hx hb dX5_type_5 rfl ?_
  refine lv_istore hx hb dX5_type_6 hl (Nat.le_of_ble_eq_true rfl) rfl (fun ls (hl : lv_has ls 6 [(4, .int (0 : Int32)), (3, .int r1), (0, .ref (ad 0)), (1, .long p1)]) => ?_)
  obtain ⟨q, hq, hE0, hT0⟩ := bds_e hE0 hN0
  refine k_ind (P := fun zz => ∀ (ls : Array Slot), lv_has ls 6 [(0, .ref (ad 0)), (1, .long p1), (3, .int r1), (4, .int zz)] → W p l e rmX5_type s m args below meth c s.heap [] 0 0 Q0 (F0 m 8 ls [])) ?_ N _ hq ls (lv_sub hl [2, 3, 1, 0] rfl)
  intro sX T1 hE1 hN1 hC1 hX1
  obtain ⟨v4h8, hsg⟩ : ∃ z, z = sX := ⟨_, rfl⟩
  subst hsg
  replace hE1 : T1 = bX5_type_8 N σ p1 r1 v4h8 := hE1
  unfold bX5_type_8 at hE1
  intro ls hl
  replace hl : lv_has ls 6 [(0, .ref (ad 0)), (1, .long p1), (3, .int r1), (4, .int v4h8)] := hl
  refine lv_iload hx hb dX5_type_8 (lv_at hl 3 rfl) ?_
  refine lv_iload_n hx hb dX5_type_10 rfl (lv_at hl 2 rfl) ?_
  refine lv_icmp_ge (tgt := 40) hx hb dX5_type_11 (by decide) (fun c11 => ?_) (fun c11 => ?_)
  · have hE1 := ite_t hE1 c11
    have hq := hX1 _ hE1
    subst hq
    exact J40 p1 r1 ls (lv_sub hl [0, 1, 2] rfl) (hE0 _ rfl)
  · have hE1 := ite_f hE1 c11
    refine lv_lload_n hx hb dX5_type_14 rfl (lv_at hl 1 rfl) ?_
    refine lv_iload hx hb dX5_type_15 (lv_at hl 3 rfl) ?_
    obtain ⟨r7, k7, hE1⟩ := bd1_e hE1 hN1
    refine k_callP (va_runS (As := [.long p1, .int v4h8]) (rest := []) hcf (mX5_byteOf l D cs ad N σ p1 v4h8 r7 k7) (kcX5_byteOf htk (kw_480 htk) ⟨Nat.le_of_ble_eq_true rfl, Nat.le_of_ble_eq_true rfl⟩) ⟨k_blind, k_pre hK hZ hw⟩ rfl rfl hl.1 rfl (lv_room (Nat.le_of_ble_eq_true rfl)) dX5_type_17 ⟨Nat.zero_le _, Nat.zero_le _⟩) ?_
    obtain ⟨r8, k8, hE1⟩ := bd1_e hE1 hN1
    refine k_callP (va_runS (As := [.int r7]) (rest := []) hcf (mX5_isPrintable l D cs ad N σ r7 r8 k8) (kcX5_isPrintable htk (kw_483 htk) ⟨Nat.le_of_ble_eq_true rfl, Nat.le_of_ble_eq_true rfl⟩) ⟨k_blind, k_pre hK hZ hw⟩ rfl rfl hl.1 rfl (lv_room (Nat.le_of_ble_eq_true rfl)) dX5_type_20 ⟨Nat.zero_le _, Nat.zero_le _⟩) ?_
    refine lv_if_ne (tgt := 34) hx hb dX5_type_23 (by decide) (fun c10 => ?_) (fun c10 => ?_)
    · have hE1 := ite_f hE1 c10
      obtain ⟨x9, e_x9, hE1⟩ := k_lte hE1
      refine lv_iinc (k := 3) (v := x9) hx hb dX5_type_34 hl rfl (Eq.symm e_x9) (Nat.le_of_ble_eq_true rfl) rfl (fun ls (hl : lv_has ls 6 [(4, .int x9), (0, .ref (ad 0)), (1, .long p1), (3, .int r1)]) => ?_)
      refine lv_goto (tgt := 8) hx hb dX5_type_37 (by decide) ?_
      exact hC1 _ hE1 ls (lv_sub hl [1, 2, 3, 0] rfl)
    · have hE1 := ite_t hE1 c10
      have hq := hX1 _ hE1
      subst hq
      exact rtsx hR (hT0 _ rfl)
abbrev rtX5_type : Room := { frames := 6, cells := 1, slots := 6, locals := 120 }
set_option maxRecDepth 100000 in
set_option maxHeartbeats 4000000 in
theorem tX5_type (l : Launch) (hfl : l.flags = flags0) (D : va_G) (cs : Nat → ClassId) (ad : Nat → Nat) (N : Nat) (σ : vS) (p1 : Int64) (n : Nat) (hf : fX5_type N σ p1 = some (.inr n)) : k_MT l yX5_type wsX5_type rtX5_type D (tK cs) (wK cs ad) [.ref (ad 0), .long p1] σ (kx_n n) := by
  refine k_ofT (A := (k_A 41 ad)) (cc := cX5_type) (maxL := 6) (ret := (some .int)) (by decide) rfl (Nat.le_of_ble_eq_true rfl) ?_
  intro p e s m args below meth c ls hcf hr hlk hK hZ hS hnh hl hw
  generalize hQ0 : k_TQ below (kx_n n) s = Q0
  obtain ⟨T0, hE0⟩ : ∃ T, T = fX5_type N σ p1 := ⟨_, rfl⟩
  have hR := hE0.trans hf
  have hN0 : T0 ≠ none := by rw [hR]; exact fun h => nomatch h
  have hx := hcf.1
  have hb := hcf.2.1
  have htk := hcf.2.2.2.2
  have hown := hcf.2.2.2.1
  unfold fX5_type at hE0
  replace hl : lv_has ls 6 [(0, .ref (ad 0)), (1, .long p1)] := hl
  have J96 : ∀ (σj96 : vS) (H : Heap) (locs : List Loc) (ls : Array Slot), lv_has ls 6 [(4, .ref (ad 4))] → k_H D (wK cs ad) (k_A 41 ad) σj96 s.heap H locs → T0 = jX5_type_96 N σj96 → W p l e rtX5_type s m args below meth c H locs 0 0 Q0 (F0 m 96 ls []) := by
    intro σj96 H locs ls hl hw hE0
    unfold jX5_type_96 at hE0
    refine lv_aload hx hb dX5_type_96 (lv_at hl 0 rfl) ?_
    refine kg_X4_length hcf hK (kw_91 htk) (x := (σj96.1 0)) dX5_type_98 hw rfl ?_
    exact rtsx hE0 hR
  have J40 : ∀ (v1j40 : Int64) (v3j40 : Int32) (ls : Array Slot), lv_has ls 6 [(0, .ref (ad 0)), (1, .long v1j40), (3, .int v3j40)] → T0 = jX5_type_40 N σ v1j40 v3j40 → W p l e rtX5_type s m args below meth c s.heap [] 0 0 Q0 (F0 m 40 ls []) := by
    intro v1j40 v3j40 ls hl hE0
    unfold jX5_type_40 at hE0
    refine lv_aload_n hx hb dX5_type_40 rfl (lv_at hl 0 rfl) ?_
    refine kg_X5_reader hcf hK (kw_239 htk) dX5_type_41 hw ?_
    refine kg_X3_text hcf hK (kw_151 htk) dX5_type_44 hw ?_
    refine lv_astore hx hb dX5_type_47 hl (Nat.le_of_ble_eq_true rfl) rfl (fun ls (hl : lv_has ls 6 [(4, .ref (ad 4)), (0, .ref (ad 0)), (1, .long v1j40), (3, .int v3j40)]) => ?_)
    refine lv_aload hx hb dX5_type_49 (lv_at hl 0 rfl) ?_
    refine kg_X4_length hcf hK (kw_91 htk) (x := (σ.1 0)) dX5_type_51 hw rfl ?_
    refine lv_iload_n hx hb dX5_type_54 rfl (lv_at hl 3 rfl) ?_
    refine lv_iadd hx hb dX5_type_55 ?_
    refine lv_bipush (v := 100) hx hb dX5_type_56 rfl ?_
    refine lv_icmp_le (tgt := 69) hx hb dX5_type_58 (by decide) (fun c6 => ?_) (fun c6 => ?_)
    · have hE0 := ite_t hE0 c6
      refine lv_iconst (v := 0) hx hb dX5_type_69 rfl ?_
      refine lv_istore hx hb dX5_type_70 hl (Nat.le_of_ble_eq_true rfl) rfl (fun ls (hl : lv_has ls 6 [(5, .int (0 : Int32)), (4, .ref (ad 4)), (0, .ref (ad 0)), (1, .long v1j40), (3, .int v3j40)]) => ?_)
      obtain ⟨q, hq, hE0⟩ := bd1_e hE0 hN0
      refine k_ind (P := fun zz => ∀ (H : Heap) (locs : List Loc) (ls : Array Slot), lv_has ls 6 [(1, .long v1j40), (3, .int v3j40), (4, .ref (ad 4)), (5, .int zz.1)] → k_H D (wK cs ad) (k_A 41 ad) zz.2 s.heap H locs → W p l e rtX5_type s m args below meth c H locs 0 0 Q0 (F0 m 72 ls [])) ?_ N _ hq s.heap [] ls (lv_sub hl [3, 4, 1, 0] rfl) hw
      intro sX T1 hE1 hN1 hC1 hX1
      obtain ⟨v5h72, σh72⟩ := sX
      replace hE1 : T1 = bX5_type_72 N v1j40 v3j40 v5h72 σh72 := hE1
      unfold bX5_type_72 at hE1
      intro H locs ls hl hw
      replace hl : lv_has ls 6 [(1, .long v1j40), (3, .int v3j40), (4, .ref (ad 4)), (5, .int v5h72)] := hl
      replace hw : k_H D (wK cs ad) (k_A 41 ad) σh72 s.heap H locs := hw
      refine lv_iload hx hb dX5_type_72 (lv_at hl 3 rfl) ?_
      refine lv_iload_n hx hb dX5_type_74 rfl (lv_at hl 1 rfl) ?_
      refine lv_icmp_ge (tgt := 96) hx hb dX5_type_75 (by decide) (fun c5 => ?_) (fun c5 => ?_)
      · have hE1 := ite_t hE1 c5
        have hq := hX1 _ hE1
        subst hq
        exact J96 σh72 H locs ls (lv_sub hl [2] rfl) hw hE0
      · have hE1 := ite_f hE1 c5
        refine lv_aload hx hb dX5_type_78 (lv_at hl 2 rfl) ?_
        refine lv_lload_n hx hb dX5_type_80 rfl (lv_at hl 0 rfl) ?_
        refine lv_iload hx hb dX5_type_81 (lv_at hl 3 rfl) ?_
        obtain ⟨r2, k2, hE1⟩ := bd1_e hE1 hN1
        refine k_callP (va_runS (As := [.long v1j40, .int v5h72]) (rest := [.ref (ad 4)]) hcf (mX5_byteOf l D cs ad N σh72 v1j40 v5h72 r2 k2) (kcX5_byteOf htk (kw_480 htk) ⟨Nat.le_of_ble_eq_true rfl, Nat.le_of_ble_eq_true rfl⟩) ⟨k_blind, k_pre hK hZ hw⟩ rfl rfl hl.1 rfl (lv_room (Nat.le_of_ble_eq_true rfl)) dX5_type_83 ⟨Nat.zero_le _, Nat.zero_le _⟩) ?_
        refine lv_i2c hx hb dX5_type_86 rfl ?_
        obtain ⟨σ3, k3, hE1⟩ := bd1_e hE1 hN1
        refine k_call (va_runV (As := [.int (((r2).toUInt32 % 65536).toInt32)]) (rest := []) hcf (mX4_add l D cs ad N σh72 (((r2).toUInt32 % 65536).toInt32) σ3 k3) (kcX4_add htk (kw_565 htk) ⟨Nat.le_of_ble_eq_true rfl, Nat.le_of_ble_eq_true rfl⟩) ⟨k_blind, va_recv (ci := 4) (q0 := 4) hK hw.1 rfl rfl, k_pre hK hZ hw⟩ rfl rfl hl.1 rfl (lv_room (Nat.le_of_ble_eq_true rfl)) dX5_type_87 ⟨Nat.zero_le _, Nat.zero_le _⟩) hw (fun H locs hw => ?_)
        obtain ⟨x4, e_x4, hE1⟩ := k_lte hE1
        refine lv_iinc (k := 3) (v := x4) hx hb dX5_type_90 hl rfl (Eq.symm e_x4) (Nat.le_of_ble_eq_true rfl) rfl (fun ls (hl : lv_has ls 6 [(5, .int x4), (1, .long v1j40), (3, .int v3j40), (4, .ref (ad 4))]) => ?_)
        refine lv_goto (tgt := 72) hx hb dX5_type_93 (by decide) ?_
        exact hC1 _ hE1 H locs ls (lv_sub hl [1, 2, 3, 0] rfl) hw
    · have hE0 := ite_f hE0 c6
      have hn := rtsn hR hE0
      subst hn
      subst hQ0
      exact k_throw hcf hfl hlk hZ hS hnh ka_X5_57 (by decide) (kw_550 htk) (kw_551 htk) (kw_63 htk) hl dX5_type_61 dX5_type_64 dX5_type_65 dX5_type_68 (Nat.le_of_ble_eq_true rfl) (Nat.le_of_ble_eq_true rfl) (Nat.le_of_ble_eq_true rfl) (Nat.le_of_ble_eq_true rfl)
  refine lv_lload_n hx hb dX5_type_0 rfl (lv_at hl 1 rfl) ?_
  obtain ⟨r1, k1, hE0⟩ := bd1_e hE0 hN0
  refine k_callP (va_runS (As := [.long p1]) (rest := []) hcf (mX5_charactersIn l D cs ad N σ p1 r1 k1) (kcX5_charactersIn htk (kw_477 htk) ⟨Nat.le_of_ble_eq_true rfl, Nat.le_of_ble_eq_true rfl⟩) ⟨k_blind, k_pre hK hZ hw⟩ rfl rfl hl.1 rfl (lv_room (Nat.le_of_ble_eq_true rfl)) dX5_type_1 ⟨Nat.zero_le _, Nat.zero_le _⟩) ?_
  refine lv_istore_n hx hb dX5_type_4 rfl hl (Nat.le_of_ble_eq_true rfl) rfl (fun ls (hl : lv_has ls 6 [(3, .int r1), (0, .ref (ad 0)), (1, .long p1)]) => ?_)
  refine lv_iconst (v := 0) hx hb dX5_type_5 rfl ?_
  refine lv_istore hx hb dX5_type_6 hl (Nat.le_of_ble_eq_true rfl) rfl (fun ls (hl : lv_has ls 6 [(4, .int (0 : Int32)), (3, .int r1), (0, .ref (ad 0)), (1, .long p1)]) => ?_)
  obtain ⟨q, hq, hE0, hT0⟩ := bds_e hE0 hN0
  refine k_ind (P := fun zz => ∀ (ls : Array Slot), lv_has ls 6 [(0, .ref (ad 0)), (1, .long p1), (3, .int r1), (4, .int zz)] → W p l e rtX5_type s m args below meth c s.heap [] 0 0 Q0 (F0 m 8 ls [])) ?_ N _ hq ls (lv_sub hl [2, 3, 1, 0] rfl)
  intro sX T1 hE1 hN1 hC1 hX1
  obtain ⟨v4h8, hsg⟩ : ∃ z, z = sX := ⟨_, rfl⟩
  subst hsg
  replace hE1 : T1 = bX5_type_8 N σ p1 r1 v4h8 := hE1
  unfold bX5_type_8 at hE1
  intro ls hl
  replace hl : lv_has ls 6 [(0, .ref (ad 0)), (1, .long p1), (3, .int r1), (4, .int v4h8)] := hl
  refine lv_iload hx hb dX5_type_8 (lv_at hl 3 rfl) ?_
  refine lv_iload_n hx hb dX5_type_10 rfl (lv_at hl 2 rfl) ?_
  refine lv_icmp_ge (tgt := 40) hx hb dX5_type_11 (by decide) (fun c11 => ?_) (fun c11 => ?_)
  · have hE1 := ite_t hE1 c11
    have hq := hX1 _ hE1
    subst hq
    exact J40 p1 r1 ls (lv_sub hl [0, 1, 2] rfl) (hE0 _ rfl)
  · have hE1 := ite_f hE1 c11
    refine lv_lload_n hx hb dX5_type_14 rfl (lv_at hl 1 rfl) ?_
    refine lv_iload hx hb dX5_type_15 (lv_at hl 3 rfl) ?_
    obtain ⟨r7, k7, hE1⟩ := bd1_e hE1 hN1
    refine k_callP (va_runS (As := [.long p1, .int v4h8]) (rest := []) hcf (mX5_byteOf l D cs ad N σ p1 v4h8 r7 k7) (kcX5_byteOf htk (kw_480 htk) ⟨Nat.le_of_ble_eq_true rfl, Nat.le_of_ble_eq_true rfl⟩) ⟨k_blind, k_pre hK hZ hw⟩ rfl rfl hl.1 rfl (lv_room (Nat.le_of_ble_eq_true rfl)) dX5_type_17 ⟨Nat.zero_le _, Nat.zero_le _⟩) ?_
    obtain ⟨r8, k8, hE1⟩ := bd1_e hE1 hN1
    refine k_callP (va_runS (As := [.int r7]) (rest := []) hcf (mX5_isPrintable l D cs ad N σ r7 r8 k8) (kcX5_isPrintable htk (kw_483 htk) ⟨Nat.le_of_ble_eq_true rfl, Nat.le_of_ble_eq_true rfl⟩) ⟨k_blind, k_pre hK hZ hw⟩ rfl rfl hl.1 rfl (lv_room (Nat.le_of_ble_eq_true rfl)) dX5_type_20 ⟨Nat.zero_le _, Nat.zero_le _⟩) ?_
    refine lv_if_ne (tgt := 34) hx hb dX5_type_23 (by decide) (fun c10 => ?_) (fun c10 => ?_)
    · have hE1 := ite_f hE1 c10
      obtain ⟨x9, e_x9, hE1⟩ := k_lte hE1
      refine lv_iinc (k := 3) (v := x9) hx hb dX5_type_34 hl rfl (Eq.symm e_x9) (Nat.le_of_ble_eq_true rfl) rfl (fun ls (hl : lv_has ls 6 [(4, .int x9), (0, .ref (ad 0)), (1, .long p1), (3, .int r1)]) => ?_)
      refine lv_goto (tgt := 8) hx hb dX5_type_37 (by decide) ?_
      exact hC1 _ hE1 ls (lv_sub hl [1, 2, 3, 0] rfl)
    · have hE1 := ite_t hE1 c10
      have hq := hX1 _ hE1
      subst hq
      have hn := rtsn hR (hT0 _ rfl)
      subst hn
      subst hQ0
      exact k_throw hcf hfl hlk hZ hS hnh ka_X5_44 (by decide) (kw_486 htk) (kw_487 htk) (kw_62 htk) hl dX5_type_26 dX5_type_29 dX5_type_30 dX5_type_33 (Nat.le_of_ble_eq_true rfl) (Nat.le_of_ble_eq_true rfl) (Nat.le_of_ble_eq_true rfl) (Nat.le_of_ble_eq_true rfl)
def fX5_name (N : Nat) (σ : vS) (p1 : Int32) : Option ((Int32) ⊕ Nat) :=
  bd1 (fX1_containsKind N σ p1) fun r1 =>
  if (r1 = 0) then (
    some (.inr 2)
  ) else (
    bd1 (fX1_kindName N σ p1) fun r2 =>
    some (.inl r2)
  )
abbrev rmX5_name : Room := { frames := 6, cells := 0, slots := 0, locals := 120 }
abbrev wsX5_name : List Cond := .code yX5_name cX5_name 2 (some .int) :: kws
theorem kcX5_name {R : Room} {s : State} {args : Array Value} {own : String} {index : Nat} (htk : ∀ w ∈ kws, w.before args s = true) (hl : (Cond.methodLink own index yX5_name).before args s = true) (hR : rmX5_name.frames + 1 ≤ R.frames ∧ 8 + (2 + 11) + rmX5_name.locals ≤ R.locals) : CallW R s args own RX5 index yX5_name cX5_name 2 (some .int) wsX5_name rmX5_name 0 0 1 :=
  ⟨callB_of 1 htk (k_good kc_576) rfl rfl rfl (kw_52 htk) hl (by decide +kernel) hR, (kw_574 htk), (kw_575 htk)⟩
set_option maxRecDepth 100000 in
set_option maxHeartbeats 4000000 in
theorem mX5_name (l : Launch) (D : va_G) (cs : Nat → ClassId) (ad : Nat → Nat) (N : Nat) (σ : vS) (p1 : Int32) (r : Int32) (hf : fX5_name N σ p1 = some (.inl r)) : k_MP l yX5_name wsX5_name rmX5_name D (tK cs) (wK cs ad) [.ref (ad 0), .int p1] σ (.int r) := by
  refine k_ofP (cc := cX5_name) (maxL := 2) (ret := (some .int)) (by decide) rfl (Nat.le_of_ble_eq_true rfl) ?_
  intro p e s m args below meth c ls hcf hr hlk hK hZ hl hw
  generalize hQ0 : MQ below _ args s 0 0 _ = Q0
  obtain ⟨T0, hE0⟩ : ∃ T, T = fX5_name N σ p1 := ⟨_, rfl⟩
  have hR := hE0.trans hf
  have hN0 : T0 ≠ none := by rw [hR]; exact fun h => nomatch h
  have hx := hcf.1
  have hb := hcf.2.1
  have htk := hcf.2.2.2.2
  have hown := hcf.2.2.2.1
  unfold fX5_name at hE0
  replace hl : lv_has ls 2 [(0, .ref (ad 0)), (1, .int p1)] := hl
  refine lv_aload_n hx hb dX5_name_0 rfl (lv_at hl 0 rfl) ?_
  refine kg_X5_reader hcf hK (kw_239 htk) dX5_name_1 hw ?_
  refine kg_X3_equation hcf hK (kw_153 htk) dX5_name_4 hw ?_
  refine lv_iload_n hx hb dX5_name_7 rfl (lv_at hl 1 rfl) ?_
  obtain ⟨r1, k1, hE0⟩ := bd1_e hE0 hN0
  refine k_callP (va_runV (As := [.int p1]) (rest := []) hcf (mX1_containsKind l D cs ad N σ p1 r1 k1) (kcX1_containsKind htk (kw_577 htk) ⟨Nat.le_of_ble_eq_true rfl, Nat.le_of_ble_eq_true rfl⟩) ⟨k_blind, va_recv (ci := 1) (q0 := 5) hK hw.1 rfl rfl, k_pre hK hZ hw⟩ rfl rfl hl.1 rfl (lv_room (Nat.le_of_ble_eq_true rfl)) dX5_name_8 ⟨Nat.zero_le _, Nat.zero_le _⟩) ?_
  refine lv_if_ne (tgt := 22) hx hb dX5_name_11 (by decide) (fun c3 => ?_) (fun c3 => ?_)
  · have hE0 := ite_f hE0 c3
    refine lv_aload_n hx hb dX5_name_22 rfl (lv_at hl 0 rfl) ?_
    refine kg_X5_reader hcf hK (kw_239 htk) dX5_name_23 hw ?_
    refine kg_X3_equation hcf hK (kw_153 htk) dX5_name_26 hw ?_
    refine lv_iload_n hx hb dX5_name_29 rfl (lv_at hl 1 rfl) ?_
    obtain ⟨r2, k2, hE0⟩ := bd1_e hE0 hN0
    refine k_callP (va_runV (As := [.int p1]) (rest := []) hcf (mX1_kindName l D cs ad N σ p1 r2 k2) (kcX1_kindName htk (kw_596 htk) ⟨Nat.le_of_ble_eq_true rfl, Nat.le_of_ble_eq_true rfl⟩) ⟨k_blind, va_recv (ci := 1) (q0 := 5) hK hw.1 rfl rfl, k_pre hK hZ hw⟩ rfl rfl hl.1 rfl (lv_room (Nat.le_of_ble_eq_true rfl)) dX5_name_30 ⟨Nat.zero_le _, Nat.zero_le _⟩) ?_
    exact kretP_i hcf hr hlk hK hw (rts1 hR hE0) hQ0 dX5_name_33
  · have hE0 := ite_t hE0 c3
    exact rtsx hR hE0
abbrev rtX5_name : Room := { frames := 6, cells := 1, slots := 6, locals := 120 }
set_option maxRecDepth 100000 in
set_option maxHeartbeats 4000000 in
theorem tX5_name (l : Launch) (hfl : l.flags = flags0) (D : va_G) (cs : Nat → ClassId) (ad : Nat → Nat) (N : Nat) (σ : vS) (p1 : Int32) (n : Nat) (hf : fX5_name N σ p1 = some (.inr n)) : k_MT l yX5_name wsX5_name rtX5_name D (tK cs) (wK cs ad) [.ref (ad 0), .int p1] σ (kx_n n) := by
  refine k_ofT (A := fun _ => False) (cc := cX5_name) (maxL := 2) (ret := (some .int)) (by decide) rfl (Nat.le_of_ble_eq_true rfl) ?_
  intro p e s m args below meth c ls hcf hr hlk hK hZ hS hnh hl hw
  generalize hQ0 : k_TQ below (kx_n n) s = Q0
  obtain ⟨T0, hE0⟩ : ∃ T, T = fX5_name N σ p1 := ⟨_, rfl⟩
  have hR := hE0.trans hf
  have hN0 : T0 ≠ none := by rw [hR]; exact fun h => nomatch h
  have hx := hcf.1
  have hb := hcf.2.1
  have htk := hcf.2.2.2.2
  have hown := hcf.2.2.2.1
  unfold fX5_name at hE0
  replace hl : lv_has ls 2 [(0, .ref (ad 0)), (1, .int p1)] := hl
  refine lv_aload_n hx hb dX5_name_0 rfl (lv_at hl 0 rfl) ?_
  refine kg_X5_reader hcf hK (kw_239 htk) dX5_name_1 hw ?_
  refine kg_X3_equation hcf hK (kw_153 htk) dX5_name_4 hw ?_
  refine lv_iload_n hx hb dX5_name_7 rfl (lv_at hl 1 rfl) ?_
  obtain ⟨r1, k1, hE0⟩ := bd1_e hE0 hN0
  refine k_callP (va_runV (As := [.int p1]) (rest := []) hcf (mX1_containsKind l D cs ad N σ p1 r1 k1) (kcX1_containsKind htk (kw_577 htk) ⟨Nat.le_of_ble_eq_true rfl, Nat.le_of_ble_eq_true rfl⟩) ⟨k_blind, va_recv (ci := 1) (q0 := 5) hK hw.1 rfl rfl, k_pre hK hZ hw⟩ rfl rfl hl.1 rfl (lv_room (Nat.le_of_ble_eq_true rfl)) dX5_name_8 ⟨Nat.zero_le _, Nat.zero_le _⟩) ?_
  refine lv_if_ne (tgt := 22) hx hb dX5_name_11 (by decide) (fun c3 => ?_) (fun c3 => ?_)
  · have hE0 := ite_f hE0 c3
    refine lv_aload_n hx hb dX5_name_22 rfl (lv_at hl 0 rfl) ?_
    refine kg_X5_reader hcf hK (kw_239 htk) dX5_name_23 hw ?_
    refine kg_X3_equation hcf hK (kw_153 htk) dX5_name_26 hw ?_
    refine lv_iload_n hx hb dX5_name_29 rfl (lv_at hl 1 rfl) ?_
    obtain ⟨r2, k2, hE0⟩ := bd1_e hE0 hN0
    refine k_callP (va_runV (As := [.int p1]) (rest := []) hcf (mX1_kindName l D cs ad N σ p1 r2 k2) (kcX1_kindName htk (kw_596 htk) ⟨Nat.le_of_ble_eq_true rfl, Nat.le_of_ble_eq_true rfl⟩) ⟨k_blind, va_recv (ci := 1) (q0 := 5) hK hw.1 rfl rfl, k_pre hK hZ hw⟩ rfl rfl hl.1 rfl (lv_room (Nat.le_of_ble_eq_true rfl)) dX5_name_30 ⟨Nat.zero_le _, Nat.zero_le _⟩) ?_
    exact rtsx hE0 hR
  · have hE0 := ite_t hE0 c3
    have hn := rtsn hR hE0
    subst hn
    subst hQ0
    exact k_throw hcf hfl hlk hZ hS hnh ka_X5_114 (by decide) (kw_581 htk) (kw_582 htk) (kw_66 htk) hl dX5_name_14 dX5_name_17 dX5_name_18 dX5_name_21 (Nat.le_of_ble_eq_true rfl) (Nat.le_of_ble_eq_true rfl) (Nat.le_of_ble_eq_true rfl) (Nat.le_of_ble_eq_true rfl)
def fX5_has (N : Nat) (σ : vS) (p1 : Int32) (p2 : Int32) : Option ((Int32) ⊕ Nat) :=
  bd1 (fX1_containsFormula N σ p1) fun r1 =>
  if (r1 = 0) then (
    some (.inr 2)
  ) else (
    bd1 (fX1_containsKind N σ p2) fun r2 =>
    if (r2 = 0) then (
      some (.inr 2)
    ) else (
      bd1 (fX1_amount N σ p1 p2) fun r3 =>
      some (.inl r3)
    )
  )
abbrev rmX5_has : Room := { frames := 6, cells := 0, slots := 0, locals := 120 }
abbrev wsX5_has : List Cond := .code yX5_has cX5_has 3 (some .int) :: kws
theorem kcX5_has {R : Room} {s : State} {args : Array Value} {own : String} {index : Nat} (htk : ∀ w ∈ kws, w.before args s = true) (hl : (Cond.methodLink own index yX5_has).before args s = true) (hR : rmX5_has.frames + 1 ≤ R.frames ∧ 8 + (3 + 11) + rmX5_has.locals ≤ R.locals) : CallW R s args own RX5 index yX5_has cX5_has 3 (some .int) wsX5_has rmX5_has 0 0 2 :=
  ⟨callB_of 2 htk (k_good kc_606) rfl rfl rfl (kw_52 htk) hl (by decide +kernel) hR, (kw_604 htk), (kw_605 htk)⟩
set_option maxRecDepth 100000 in
set_option maxHeartbeats 4000000 in
theorem mX5_has (l : Launch) (D : va_G) (cs : Nat → ClassId) (ad : Nat → Nat) (N : Nat) (σ : vS) (p1 : Int32) (p2 : Int32) (r : Int32) (hf : fX5_has N σ p1 p2 = some (.inl r)) : k_MP l yX5_has wsX5_has rmX5_has D (tK cs) (wK cs ad) [.ref (ad 0), .int p1, .int p2] σ (.int r) := by
  refine k_ofP (cc := cX5_has) (maxL := 3) (ret := (some .int)) (by decide) rfl (Nat.le_of_ble_eq_true rfl) ?_
  intro p e s m args below meth c ls hcf hr hlk hK hZ hl hw
  generalize hQ0 : MQ below _ args s 0 0 _ = Q0
  obtain ⟨T0, hE0⟩ : ∃ T, T = fX5_has N σ p1 p2 := ⟨_, rfl⟩
  have hR := hE0.trans hf
  have hN0 : T0 ≠ none := by rw [hR]; exact fun h => nomatch h
  have hx := hcf.1
  have hb := hcf.2.1
  have htk := hcf.2.2.2.2
  have hown := hcf.2.2.2.1
  unfold fX5_has at hE0
  replace hl : lv_has ls 3 [(0, .ref (ad 0)), (1, .int p1), (2, .int p2)] := hl
  refine lv_aload_n hx hb dX5_has_0 rfl (lv_at hl 0 rfl) ?_
  refine kg_X5_reader hcf hK (kw_239 htk) dX5_has_1 hw ?_
  refine kg_X3_equation hcf hK (kw_153 htk) dX5_has_4 hw ?_
  refine lv_iload_n hx hb dX5_has_7 rfl (lv_at hl 1 rfl) ?_
  obtain ⟨r1, k1, hE0⟩ := bd1_e hE0 hN0
  refine k_callP (va_runV (As := [.int p1]) (rest := []) hcf (mX1_containsFormula l D cs ad N σ p1 r1 k1) (kcX1_containsFormula htk (kw_607 htk) ⟨Nat.le_of_ble_eq_true rfl, Nat.le_of_ble_eq_true rfl⟩) ⟨k_blind, va_recv (ci := 1) (q0 := 5) hK hw.1 rfl rfl, k_pre hK hZ hw⟩ rfl rfl hl.1 rfl (lv_room (Nat.le_of_ble_eq_true rfl)) dX5_has_8 ⟨Nat.zero_le _, Nat.zero_le _⟩) ?_
  refine lv_if_eq (tgt := 28) hx hb dX5_has_11 (by decide) (fun c5 => ?_) (fun c5 => ?_)
  · have hE0 := ite_t hE0 c5
    exact rtsx hR hE0
  · have hE0 := ite_f hE0 c5
    refine lv_aload_n hx hb dX5_has_14 rfl (lv_at hl 0 rfl) ?_
    refine kg_X5_reader hcf hK (kw_239 htk) dX5_has_15 hw ?_
    refine kg_X3_equation hcf hK (kw_153 htk) dX5_has_18 hw ?_
    refine lv_iload_n hx hb dX5_has_21 rfl (lv_at hl 2 rfl) ?_
    obtain ⟨r2, k2, hE0⟩ := bd1_e hE0 hN0
    refine k_callP (va_runV (As := [.int p2]) (rest := []) hcf (mX1_containsKind l D cs ad N σ p2 r2 k2) (kcX1_containsKind htk (kw_577 htk) ⟨Nat.le_of_ble_eq_true rfl, Nat.le_of_ble_eq_true rfl⟩) ⟨k_blind, va_recv (ci := 1) (q0 := 5) hK hw.1 rfl rfl, k_pre hK hZ hw⟩ rfl rfl hl.1 rfl (lv_room (Nat.le_of_ble_eq_true rfl)) dX5_has_22 ⟨Nat.zero_le _, Nat.zero_le _⟩) ?_
    refine lv_if_ne (tgt := 36) hx hb dX5_has_25 (by decide) (fun c4 => ?_) (fun c4 => ?_)
    · have hE0 := ite_f hE0 c4
      refine lv_aload_n hx hb dX5_has_36 rfl (lv_at hl 0 rfl) ?_
      refine kg_X5_reader hcf hK (kw_239 htk) dX5_has_37 hw ?_
      refine kg_X3_equation hcf hK (kw_153 htk) dX5_has_40 hw ?_
      refine lv_iload_n hx hb dX5_has_43 rfl (lv_at hl 1 rfl) ?_
      refine lv_iload_n hx hb dX5_has_44 rfl (lv_at hl 2 rfl) ?_
      obtain ⟨r3, k3, hE0⟩ := bd1_e hE0 hN0
      refine k_callP (va_runV (As := [.int p1, .int p2]) (rest := []) hcf (mX1_amount l D cs ad N σ p1 p2 r3 k3) (kcX1_amount htk (kw_608 htk) ⟨Nat.le_of_ble_eq_true rfl, Nat.le_of_ble_eq_true rfl⟩) ⟨k_blind, va_recv (ci := 1) (q0 := 5) hK hw.1 rfl rfl, k_pre hK hZ hw⟩ rfl rfl hl.1 rfl (lv_room (Nat.le_of_ble_eq_true rfl)) dX5_has_45 ⟨Nat.zero_le _, Nat.zero_le _⟩) ?_
      exact kretP_i hcf hr hlk hK hw (rts1 hR hE0) hQ0 dX5_has_48
    · have hE0 := ite_t hE0 c4
      exact rtsx hR hE0
abbrev rtX5_has : Room := { frames := 6, cells := 1, slots := 6, locals := 120 }
set_option maxRecDepth 100000 in
set_option maxHeartbeats 4000000 in
theorem tX5_has (l : Launch) (hfl : l.flags = flags0) (D : va_G) (cs : Nat → ClassId) (ad : Nat → Nat) (N : Nat) (σ : vS) (p1 : Int32) (p2 : Int32) (n : Nat) (hf : fX5_has N σ p1 p2 = some (.inr n)) : k_MT l yX5_has wsX5_has rtX5_has D (tK cs) (wK cs ad) [.ref (ad 0), .int p1, .int p2] σ (kx_n n) := by
  refine k_ofT (A := fun _ => False) (cc := cX5_has) (maxL := 3) (ret := (some .int)) (by decide) rfl (Nat.le_of_ble_eq_true rfl) ?_
  intro p e s m args below meth c ls hcf hr hlk hK hZ hS hnh hl hw
  generalize hQ0 : k_TQ below (kx_n n) s = Q0
  obtain ⟨T0, hE0⟩ : ∃ T, T = fX5_has N σ p1 p2 := ⟨_, rfl⟩
  have hR := hE0.trans hf
  have hN0 : T0 ≠ none := by rw [hR]; exact fun h => nomatch h
  have hx := hcf.1
  have hb := hcf.2.1
  have htk := hcf.2.2.2.2
  have hown := hcf.2.2.2.1
  unfold fX5_has at hE0
  replace hl : lv_has ls 3 [(0, .ref (ad 0)), (1, .int p1), (2, .int p2)] := hl
  refine lv_aload_n hx hb dX5_has_0 rfl (lv_at hl 0 rfl) ?_
  refine kg_X5_reader hcf hK (kw_239 htk) dX5_has_1 hw ?_
  refine kg_X3_equation hcf hK (kw_153 htk) dX5_has_4 hw ?_
  refine lv_iload_n hx hb dX5_has_7 rfl (lv_at hl 1 rfl) ?_
  obtain ⟨r1, k1, hE0⟩ := bd1_e hE0 hN0
  refine k_callP (va_runV (As := [.int p1]) (rest := []) hcf (mX1_containsFormula l D cs ad N σ p1 r1 k1) (kcX1_containsFormula htk (kw_607 htk) ⟨Nat.le_of_ble_eq_true rfl, Nat.le_of_ble_eq_true rfl⟩) ⟨k_blind, va_recv (ci := 1) (q0 := 5) hK hw.1 rfl rfl, k_pre hK hZ hw⟩ rfl rfl hl.1 rfl (lv_room (Nat.le_of_ble_eq_true rfl)) dX5_has_8 ⟨Nat.zero_le _, Nat.zero_le _⟩) ?_
  refine lv_if_eq (tgt := 28) hx hb dX5_has_11 (by decide) (fun c5 => ?_) (fun c5 => ?_)
  · have hE0 := ite_t hE0 c5
    have hn := rtsn hR hE0
    subst hn
    subst hQ0
    exact k_throw hcf hfl hlk hZ hS hnh ka_X5_114 (by decide) (kw_581 htk) (kw_582 htk) (kw_66 htk) hl dX5_has_28 dX5_has_31 dX5_has_32 dX5_has_35 (Nat.le_of_ble_eq_true rfl) (Nat.le_of_ble_eq_true rfl) (Nat.le_of_ble_eq_true rfl) (Nat.le_of_ble_eq_true rfl)
  · have hE0 := ite_f hE0 c5
    refine lv_aload_n hx hb dX5_has_14 rfl (lv_at hl 0 rfl) ?_
    refine kg_X5_reader hcf hK (kw_239 htk) dX5_has_15 hw ?_
    refine kg_X3_equation hcf hK (kw_153 htk) dX5_has_18 hw ?_
    refine lv_iload_n hx hb dX5_has_21 rfl (lv_at hl 2 rfl) ?_
    obtain ⟨r2, k2, hE0⟩ := bd1_e hE0 hN0
    refine k_callP (va_runV (As := [.int p2]) (rest := []) hcf (mX1_containsKind l D cs ad N σ p2 r2 k2) (kcX1_containsKind htk (kw_577 htk) ⟨Nat.le_of_ble_eq_true rfl, Nat.le_of_ble_eq_true rfl⟩) ⟨k_blind, va_recv (ci := 1) (q0 := 5) hK hw.1 rfl rfl, k_pre hK hZ hw⟩ rfl rfl hl.1 rfl (lv_room (Nat.le_of_ble_eq_true rfl)) dX5_has_22 ⟨Nat.zero_le _, Nat.zero_le _⟩) ?_
    refine lv_if_ne (tgt := 36) hx hb dX5_has_25 (by decide) (fun c4 => ?_) (fun c4 => ?_)
    · have hE0 := ite_f hE0 c4
      refine lv_aload_n hx hb dX5_has_36 rfl (lv_at hl 0 rfl) ?_
      refine kg_X5_reader hcf hK (kw_239 htk) dX5_has_37 hw ?_
      refine kg_X3_equation hcf hK (kw_153 htk) dX5_has_40 hw ?_
      refine lv_iload_n hx hb dX5_has_43 rfl (lv_at hl 1 rfl) ?_
      refine lv_iload_n hx hb dX5_has_44 rfl (lv_at hl 2 rfl) ?_
      obtain ⟨r3, k3, hE0⟩ := bd1_e hE0 hN0
      refine k_callP (va_runV (As := [.int p1, .int p2]) (rest := []) hcf (mX1_amount l D cs ad N σ p1 p2 r3 k3) (kcX1_amount htk (kw_608 htk) ⟨Nat.le_of_ble_eq_true rfl, Nat.le_of_ble_eq_true rfl⟩) ⟨k_blind, va_recv (ci := 1) (q0 := 5) hK hw.1 rfl rfl, k_pre hK hZ hw⟩ rfl rfl hl.1 rfl (lv_room (Nat.le_of_ble_eq_true rfl)) dX5_has_45 ⟨Nat.zero_le _, Nat.zero_le _⟩) ?_
      exact rtsx hE0 hR
    · have hE0 := ite_t hE0 c4
      have hn := rtsn hR hE0
      subst hn
      subst hQ0
      exact k_throw hcf hfl hlk hZ hS hnh ka_X5_114 (by decide) (kw_581 htk) (kw_582 htk) (kw_66 htk) hl dX5_has_28 dX5_has_31 dX5_has_32 dX5_has_35 (Nat.le_of_ble_eq_true rfl) (Nat.le_of_ble_eq_true rfl) (Nat.le_of_ble_eq_true rfl) (Nat.le_of_ble_eq_true rfl)
def fX5_product (N : Nat) (σ : vS) (p1 : Int32) : Option ((Int32) ⊕ Nat) :=
  bd1 (fX1_containsFormula N σ p1) fun r1 =>
  if (r1 = 0) then (
    some (.inr 2)
  ) else (
    bd1 (fX1_isProduct N σ p1) fun r2 =>
    if ¬ (r2 &&& 1 = r2) then none else
    some (.inl r2)
  )
abbrev rmX5_product : Room := { frames := 6, cells := 0, slots := 0, locals := 120 }
abbrev wsX5_product : List Cond := .code yX5_product cX5_product 2 (some .boolean) :: kws
theorem kcX5_product {R : Room} {s : State} {args : Array Value} {own : String} {index : Nat} (htk : ∀ w ∈ kws, w.before args s = true) (hl : (Cond.methodLink own index yX5_product).before args s = true) (hR : rmX5_product.frames + 1 ≤ R.frames ∧ 8 + (2 + 11) + rmX5_product.locals ≤ R.locals) : CallW R s args own RX5 index yX5_product cX5_product 2 (some .boolean) wsX5_product rmX5_product 0 0 1 :=
  ⟨callB_of 1 htk (k_good kc_615) rfl rfl rfl (kw_52 htk) hl (by decide +kernel) hR, (kw_613 htk), (kw_614 htk)⟩
set_option maxRecDepth 100000 in
set_option maxHeartbeats 4000000 in
theorem mX5_product (l : Launch) (D : va_G) (cs : Nat → ClassId) (ad : Nat → Nat) (N : Nat) (σ : vS) (p1 : Int32) (r : Int32) (hf : fX5_product N σ p1 = some (.inl r)) : k_MP l yX5_product wsX5_product rmX5_product D (tK cs) (wK cs ad) [.ref (ad 0), .int p1] σ (.int r) := by
  refine k_ofP (cc := cX5_product) (maxL := 2) (ret := (some .boolean)) (by decide) rfl (Nat.le_of_ble_eq_true rfl) ?_
  intro p e s m args below meth c ls hcf hr hlk hK hZ hl hw
  generalize hQ0 : MQ below _ args s 0 0 _ = Q0
  obtain ⟨T0, hE0⟩ : ∃ T, T = fX5_product N σ p1 := ⟨_, rfl⟩
  have hR := hE0.trans hf
  have hN0 : T0 ≠ none := by rw [hR]; exact fun h => nomatch h
  have hx := hcf.1
  have hb := hcf.2.1
  have htk := hcf.2.2.2.2
  have hown := hcf.2.2.2.1
  unfold fX5_product at hE0
  replace hl : lv_has ls 2 [(0, .ref (ad 0)), (1, .int p1)] := hl
  refine lv_aload_n hx hb dX5_product_0 rfl (lv_at hl 0 rfl) ?_
  refine kg_X5_reader hcf hK (kw_239 htk) dX5_product_1 hw ?_
  refine kg_X3_equation hcf hK (kw_153 htk) dX5_product_4 hw ?_
  refine lv_iload_n hx hb dX5_product_7 rfl (lv_at hl 1 rfl) ?_
  obtain ⟨r1, k1, hE0⟩ := bd1_e hE0 hN0
  refine k_callP (va_runV (As := [.int p1]) (rest := []) hcf (mX1_containsFormula l D cs ad N σ p1 r1 k1) (kcX1_containsFormula htk (kw_607 htk) ⟨Nat.le_of_ble_eq_true rfl, Nat.le_of_ble_eq_true rfl⟩) ⟨k_blind, va_recv (ci := 1) (q0 := 5) hK hw.1 rfl rfl, k_pre hK hZ hw⟩ rfl rfl hl.1 rfl (lv_room (Nat.le_of_ble_eq_true rfl)) dX5_product_8 ⟨Nat.zero_le _, Nat.zero_le _⟩) ?_
  refine lv_if_ne (tgt := 22) hx hb dX5_product_11 (by decide) (fun c4 => ?_) (fun c4 => ?_)
  · have hE0 := ite_f hE0 c4
    refine lv_aload_n hx hb dX5_product_22 rfl (lv_at hl 0 rfl) ?_
    refine kg_X5_reader hcf hK (kw_239 htk) dX5_product_23 hw ?_
    refine kg_X3_equation hcf hK (kw_153 htk) dX5_product_26 hw ?_
    refine lv_iload_n hx hb dX5_product_29 rfl (lv_at hl 1 rfl) ?_
    obtain ⟨r2, k2, hE0⟩ := bd1_e hE0 hN0
    refine k_callP (va_runV (As := [.int p1]) (rest := []) hcf (mX1_isProduct l D cs ad N σ p1 r2 k2) (kcX1_isProduct htk (kw_616 htk) ⟨Nat.le_of_ble_eq_true rfl, Nat.le_of_ble_eq_true rfl⟩) ⟨k_blind, va_recv (ci := 1) (q0 := 5) hK hw.1 rfl rfl, k_pre hK hZ hw⟩ rfl rfl hl.1 rfl (lv_room (Nat.le_of_ble_eq_true rfl)) dX5_product_30 ⟨Nat.zero_le _, Nat.zero_le _⟩) ?_
    obtain ⟨g3, hE0⟩ := gd_e hE0 hN0
    exact kretP_z hcf hr hlk hK hw (rts1 hR hE0) hQ0 (nr_b g3) dX5_product_33
  · have hE0 := ite_t hE0 c4
    exact rtsx hR hE0
abbrev rtX5_product : Room := { frames := 6, cells := 1, slots := 6, locals := 120 }
set_option maxRecDepth 100000 in
set_option maxHeartbeats 4000000 in
theorem tX5_product (l : Launch) (hfl : l.flags = flags0) (D : va_G) (cs : Nat → ClassId) (ad : Nat → Nat) (N : Nat) (σ : vS) (p1 : Int32) (n : Nat) (hf : fX5_product N σ p1 = some (.inr n)) : k_MT l yX5_product wsX5_product rtX5_product D (tK cs) (wK cs ad) [.ref (ad 0), .int p1] σ (kx_n n) := by
  refine k_ofT (A := fun _ => False) (cc := cX5_product) (maxL := 2) (ret := (some .boolean)) (by decide) rfl (Nat.le_of_ble_eq_true rfl) ?_
  intro p e s m args below meth c ls hcf hr hlk hK hZ hS hnh hl hw
  generalize hQ0 : k_TQ below (kx_n n) s = Q0
  obtain ⟨T0, hE0⟩ : ∃ T, T = fX5_product N σ p1 := ⟨_, rfl⟩
  have hR := hE0.trans hf
  have hN0 : T0 ≠ none := by rw [hR]; exact fun h => nomatch h
  have hx := hcf.1
  have hb := hcf.2.1
  have htk := hcf.2.2.2.2
  have hown := hcf.2.2.2.1
  unfold fX5_product at hE0
  replace hl : lv_has ls 2 [(0, .ref (ad 0)), (1, .int p1)] := hl
  refine lv_aload_n hx hb dX5_product_0 rfl (lv_at hl 0 rfl) ?_
  refine kg_X5_reader hcf hK (kw_239 htk) dX5_product_1 hw ?_
  refine kg_X3_equation hcf hK (kw_153 htk) dX5_product_4 hw ?_
  refine lv_iload_n hx hb dX5_product_7 rfl (lv_at hl 1 rfl) ?_
  obtain ⟨r1, k1, hE0⟩ := bd1_e hE0 hN0
  refine k_callP (va_runV (As := [.int p1]) (rest := []) hcf (mX1_containsFormula l D cs ad N σ p1 r1 k1) (kcX1_containsFormula htk (kw_607 htk) ⟨Nat.le_of_ble_eq_true rfl, Nat.le_of_ble_eq_true rfl⟩) ⟨k_blind, va_recv (ci := 1) (q0 := 5) hK hw.1 rfl rfl, k_pre hK hZ hw⟩ rfl rfl hl.1 rfl (lv_room (Nat.le_of_ble_eq_true rfl)) dX5_product_8 ⟨Nat.zero_le _, Nat.zero_le _⟩) ?_
  refine lv_if_ne (tgt := 22) hx hb dX5_product_11 (by decide) (fun c4 => ?_) (fun c4 => ?_)
  · have hE0 := ite_f hE0 c4
    refine lv_aload_n hx hb dX5_product_22 rfl (lv_at hl 0 rfl) ?_
    refine kg_X5_reader hcf hK (kw_239 htk) dX5_product_23 hw ?_
    refine kg_X3_equation hcf hK (kw_153 htk) dX5_product_26 hw ?_
    refine lv_iload_n hx hb dX5_product_29 rfl (lv_at hl 1 rfl) ?_
    obtain ⟨r2, k2, hE0⟩ := bd1_e hE0 hN0
    refine k_callP (va_runV (As := [.int p1]) (rest := []) hcf (mX1_isProduct l D cs ad N σ p1 r2 k2) (kcX1_isProduct htk (kw_616 htk) ⟨Nat.le_of_ble_eq_true rfl, Nat.le_of_ble_eq_true rfl⟩) ⟨k_blind, va_recv (ci := 1) (q0 := 5) hK hw.1 rfl rfl, k_pre hK hZ hw⟩ rfl rfl hl.1 rfl (lv_room (Nat.le_of_ble_eq_true rfl)) dX5_product_30 ⟨Nat.zero_le _, Nat.zero_le _⟩) ?_
    obtain ⟨g3, hE0⟩ := gd_e hE0 hN0
    exact rtsx hE0 hR
  · have hE0 := ite_t hE0 c4
    have hn := rtsn hR hE0
    subst hn
    subst hQ0
    exact k_throw hcf hfl hlk hZ hS hnh ka_X5_114 (by decide) (kw_581 htk) (kw_582 htk) (kw_66 htk) hl dX5_product_14 dX5_product_17 dX5_product_18 dX5_product_21 (Nat.le_of_ble_eq_true rfl) (Nat.le_of_ble_eq_true rfl) (Nat.le_of_ble_eq_true rfl) (Nat.le_of_ble_eq_true rfl)
def fX5_free (N : Nat) (σ : vS) (p1 : Int32) : Option ((Int32) ⊕ Nat) :=
  bd1 (fX1_containsFormula N σ p1) fun r1 =>
  if (r1 = 0) then (
    some (.inr 2)
  ) else (
    if (p1 < 0 ∨ 6 ≤ (p1).toNatClampNeg) then none else
    if ¬ ((σ.2.1 6 ((p1).toNatClampNeg)) &&& 1 = (σ.2.1 6 ((p1).toNatClampNeg))) then none else
    some (.inl (σ.2.1 6 ((p1).toNatClampNeg)))
  )
abbrev rmX5_free : Room := { frames := 6, cells := 0, slots := 0, locals := 120 }
abbrev wsX5_free : List Cond := .code yX5_free cX5_free 2 (some .boolean) :: kws
theorem kcX5_free {R : Room} {s : State} {args : Array Value} {own : String} {index : Nat} (htk : ∀ w ∈ kws, w.before args s = true) (hl : (Cond.methodLink own index yX5_free).before args s = true) (hR : rmX5_free.frames + 1 ≤ R.frames ∧ 8 + (2 + 11) + rmX5_free.locals ≤ R.locals) : CallW R s args own RX5 index yX5_free cX5_free 2 (some .boolean) wsX5_free rmX5_free 0 0 1 :=
  ⟨callB_of 1 htk (k_good kc_623) rfl rfl rfl (kw_52 htk) hl (by decide +kernel) hR, (kw_621 htk), (kw_622 htk)⟩
set_option maxRecDepth 100000 in
set_option maxHeartbeats 4000000 in
theorem mX5_free (l : Launch) (D : va_G) (cs : Nat → ClassId) (ad : Nat → Nat) (N : Nat) (σ : vS) (p1 : Int32) (r : Int32) (hf : fX5_free N σ p1 = some (.inl r)) : k_MP l yX5_free wsX5_free rmX5_free D (tK cs) (wK cs ad) [.ref (ad 0), .int p1] σ (.int r) := by
  refine k_ofP (cc := cX5_free) (maxL := 2) (ret := (some .boolean)) (by decide) rfl (Nat.le_of_ble_eq_true rfl) ?_
  intro p e s m args below meth c ls hcf hr hlk hK hZ hl hw
  generalize hQ0 : MQ below _ args s 0 0 _ = Q0
  obtain ⟨T0, hE0⟩ : ∃ T, T = fX5_free N σ p1 := ⟨_, rfl⟩
  have hR := hE0.trans hf
  have hN0 : T0 ≠ none := by rw [hR]; exact fun h => nomatch h
  have hx := hcf.1
  have hb := hcf.2.1
  have htk := hcf.2.2.2.2
  have hown := hcf.2.2.2.1
  unfold fX5_free at hE0
  replace hl : lv_has ls 2 [(0, .ref (ad 0)), (1, .int p1)] := hl
  refine lv_aload_n hx hb dX5_free_0 rfl (lv_at hl 0 rfl) ?_
  refine kg_X5_reader hcf hK (kw_239 htk) dX5_free_1 hw ?_
  refine kg_X3_equation hcf hK (kw_153 htk) dX5_free_4 hw ?_
  refine lv_iload_n hx hb dX5_free_7 rfl (lv_at hl 1 rfl) ?_
  obtain ⟨r1, k1, hE0⟩ := bd1_e hE0 hN0
  refine k_callP (va_runV (As := [.int p1]) (rest := []) hcf (mX1_containsFormula l D cs ad N σ p1 r1 k1) (kcX1_containsFormula htk (kw_607 htk) ⟨Nat.le_of_ble_eq_true rfl, Nat.le_of_ble_eq_true rfl⟩) ⟨k_blind, va_recv (ci := 1) (q0 := 5) hK hw.1 rfl rfl, k_pre hK hZ hw⟩ rfl rfl hl.1 rfl (lv_room (Nat.le_of_ble_eq_true rfl)) dX5_free_8 ⟨Nat.zero_le _, Nat.zero_le _⟩) ?_
  refine lv_if_ne (tgt := 22) hx hb dX5_free_11 (by decide) (fun c4 => ?_) (fun c4 => ?_)
  · have hE0 := ite_f hE0 c4
    refine lv_aload_n hx hb dX5_free_22 rfl (lv_at hl 0 rfl) ?_
    refine kg_X5_balance hcf hK (kw_240 htk) dX5_free_23 hw ?_
    refine kg_X0_dependent hcf hK (kw_191 htk) dX5_free_26 hw ?_
    refine lv_iload_n hx hb dX5_free_29 rfl (lv_at hl 1 rfl) ?_
    obtain ⟨g2, hE0⟩ := gd_e hE0 hN0
    refine kald_A6 hcf hK (x := (σ.2.1 6 ((p1).toNatClampNeg))) dX5_free_30 g2 hw rfl ?_
    obtain ⟨g3, hE0⟩ := gd_e hE0 hN0
    exact kretP_z hcf hr hlk hK hw (rts1 hR hE0) hQ0 (nr_b g3) dX5_free_31
  · have hE0 := ite_t hE0 c4
    exact rtsx hR hE0
abbrev rtX5_free : Room := { frames := 6, cells := 1, slots := 6, locals := 120 }
set_option maxRecDepth 100000 in
set_option maxHeartbeats 4000000 in
theorem tX5_free (l : Launch) (hfl : l.flags = flags0) (D : va_G) (cs : Nat → ClassId) (ad : Nat → Nat) (N : Nat) (σ : vS) (p1 : Int32) (n : Nat) (hf : fX5_free N σ p1 = some (.inr n)) : k_MT l yX5_free wsX5_free rtX5_free D (tK cs) (wK cs ad) [.ref (ad 0), .int p1] σ (kx_n n) := by
  refine k_ofT (A := fun _ => False) (cc := cX5_free) (maxL := 2) (ret := (some .boolean)) (by decide) rfl (Nat.le_of_ble_eq_true rfl) ?_
  intro p e s m args below meth c ls hcf hr hlk hK hZ hS hnh hl hw
  generalize hQ0 : k_TQ below (kx_n n) s = Q0
  obtain ⟨T0, hE0⟩ : ∃ T, T = fX5_free N σ p1 := ⟨_, rfl⟩
  have hR := hE0.trans hf
  have hN0 : T0 ≠ none := by rw [hR]; exact fun h => nomatch h
  have hx := hcf.1
  have hb := hcf.2.1
  have htk := hcf.2.2.2.2
  have hown := hcf.2.2.2.1
  unfold fX5_free at hE0
  replace hl : lv_has ls 2 [(0, .ref (ad 0)), (1, .int p1)] := hl
  refine lv_aload_n hx hb dX5_free_0 rfl (lv_at hl 0 rfl) ?_
  refine kg_X5_reader hcf hK (kw_239 htk) dX5_free_1 hw ?_
  refine kg_X3_equation hcf hK (kw_153 htk) dX5_free_4 hw ?_
  refine lv_iload_n hx hb dX5_free_7 rfl (lv_at hl 1 rfl) ?_
  obtain ⟨r1, k1, hE0⟩ := bd1_e hE0 hN0
  refine k_callP (va_runV (As := [.int p1]) (rest := []) hcf (mX1_containsFormula l D cs ad N σ p1 r1 k1) (kcX1_containsFormula htk (kw_607 htk) ⟨Nat.le_of_ble_eq_true rfl, Nat.le_of_ble_eq_true rfl⟩) ⟨k_blind, va_recv (ci := 1) (q0 := 5) hK hw.1 rfl rfl, k_pre hK hZ hw⟩ rfl rfl hl.1 rfl (lv_room (Nat.le_of_ble_eq_true rfl)) dX5_free_8 ⟨Nat.zero_le _, Nat.zero_le _⟩) ?_
  refine lv_if_ne (tgt := 22) hx hb dX5_free_11 (by decide) (fun c4 => ?_) (fun c4 => ?_)
  · have hE0 := ite_f hE0 c4
    refine lv_aload_n hx hb dX5_free_22 rfl (lv_at hl 0 rfl) ?_
    refine kg_X5_balance hcf hK (kw_240 htk) dX5_free_23 hw ?_
    refine kg_X0_dependent hcf hK (kw_191 htk) dX5_free_26 hw ?_
    refine lv_iload_n hx hb dX5_free_29 rfl (lv_at hl 1 rfl) ?_
    obtain ⟨g2, hE0⟩ := gd_e hE0 hN0
    refine kald_A6 hcf hK (x := (σ.2.1 6 ((p1).toNatClampNeg))) dX5_free_30 g2 hw rfl ?_
    obtain ⟨g3, hE0⟩ := gd_e hE0 hN0
    exact rtsx hE0 hR
  · have hE0 := ite_t hE0 c4
    have hn := rtsn hR hE0
    subst hn
    subst hQ0
    exact k_throw hcf hfl hlk hZ hS hnh ka_X5_114 (by decide) (kw_581 htk) (kw_582 htk) (kw_66 htk) hl dX5_free_14 dX5_free_17 dX5_free_18 dX5_free_21 (Nat.le_of_ble_eq_true rfl) (Nat.le_of_ble_eq_true rfl) (Nat.le_of_ble_eq_true rfl) (Nat.le_of_ble_eq_true rfl)
def fX5_number (N : Nat) (σ : vS) (p1 : Int32) (p2 : Int32) : Option ((Int64) ⊕ Nat) :=
  if (p1 < 0) then (
    some (.inr 2)
  ) else (
    if ((σ.1 10) ≤ p1) then (
      some (.inr 2)
    ) else (
      bd1 (fX1_containsFormula N σ p2) fun r1 =>
      if (r1 = 0) then (
        some (.inr 2)
      ) else (
        if (p1 < 0 ∨ 6 ≤ (p1).toNatClampNeg) then none else
        if (p2 < 0 ∨ 6 ≤ (p2).toNatClampNeg) then none else
        some (.inl (σ.2.2.2 (5 + (p1).toNatClampNeg) ((p2).toNatClampNeg)))
      )
    )
  )
abbrev rmX5_number : Room := { frames := 6, cells := 0, slots := 0, locals := 120 }
abbrev wsX5_number : List Cond := .code yX5_number cX5_number 3 (some .long) :: kws
theorem kcX5_number {R : Room} {s : State} {args : Array Value} {own : String} {index : Nat} (htk : ∀ w ∈ kws, w.before args s = true) (hl : (Cond.methodLink own index yX5_number).before args s = true) (hR : rmX5_number.frames + 1 ≤ R.frames ∧ 8 + (3 + 11) + rmX5_number.locals ≤ R.locals) : CallW R s args own RX5 index yX5_number cX5_number 3 (some .long) wsX5_number rmX5_number 0 0 2 :=
  ⟨callB_of 2 htk (k_good kc_630) rfl rfl rfl (kw_52 htk) hl (by decide +kernel) hR, (kw_628 htk), (kw_629 htk)⟩
set_option maxRecDepth 100000 in
set_option maxHeartbeats 4000000 in
theorem mX5_number (l : Launch) (D : va_G) (cs : Nat → ClassId) (ad : Nat → Nat) (N : Nat) (σ : vS) (p1 : Int32) (p2 : Int32) (r : Int64) (hf : fX5_number N σ p1 p2 = some (.inl r)) : k_MP l yX5_number wsX5_number rmX5_number D (tK cs) (wK cs ad) [.ref (ad 0), .int p1, .int p2] σ (.long r) := by
  refine k_ofP (cc := cX5_number) (maxL := 3) (ret := (some .long)) (by decide) rfl (Nat.le_of_ble_eq_true rfl) ?_
  intro p e s m args below meth c ls hcf hr hlk hK hZ hl hw
  generalize hQ0 : MQ below _ args s 0 0 _ = Q0
  obtain ⟨T0, hE0⟩ : ∃ T, T = fX5_number N σ p1 p2 := ⟨_, rfl⟩
  have hR := hE0.trans hf
  have hN0 : T0 ≠ none := by rw [hR]; exact fun h => nomatch h
  have hx := hcf.1
  have hb := hcf.2.1
  have htk := hcf.2.2.2.2
  have hown := hcf.2.2.2.1
  unfold fX5_number at hE0
  replace hl : lv_has ls 3 [(0, .ref (ad 0)), (1, .int p1), (2, .int p2)] := hl
  refine lv_iload_n hx hb dX5_number_0 rfl (lv_at hl 1 rfl) ?_
  refine lv_if_lt (tgt := 29) hx hb dX5_number_1 (by decide) (fun c6 => ?_) (fun c6 => ?_)
  · have hE0 := ite_t hE0 c6
    exact rtsx hR hE0
  · have hE0 := ite_f hE0 c6
    refine lv_iload_n hx hb dX5_number_4 rfl (lv_at hl 1 rfl) ?_
    refine lv_aload_n hx hb dX5_number_5 rfl (lv_at hl 0 rfl) ?_
    refine kg_X5_balance hcf hK (kw_240 htk) dX5_number_6 hw ?_
    refine kg_X0_freeCount hcf hK (kw_195 htk) (x := (σ.1 10)) dX5_number_9 hw rfl ?_
    refine lv_icmp_ge (tgt := 29) hx hb dX5_number_12 (by decide) (fun c5 => ?_) (fun c5 => ?_)
    · have hE0 := ite_t hE0 c5
      exact rtsx hR hE0
    · have hE0 := ite_f hE0 c5
      refine lv_aload_n hx hb dX5_number_15 rfl (lv_at hl 0 rfl) ?_
      refine kg_X5_reader hcf hK (kw_239 htk) dX5_number_16 hw ?_
      refine kg_X3_equation hcf hK (kw_153 htk) dX5_number_19 hw ?_
      refine lv_iload_n hx hb dX5_number_22 rfl (lv_at hl 2 rfl) ?_
      obtain ⟨r1, k1, hE0⟩ := bd1_e hE0 hN0
      refine k_callP (va_runV (As := [.int p2]) (rest := []) hcf (mX1_containsFormula l D cs ad N σ p2 r1 k1) (kcX1_containsFormula htk (kw_607 htk) ⟨Nat.le_of_ble_eq_true rfl, Nat.le_of_ble_eq_true rfl⟩) ⟨k_blind, va_recv (ci := 1) (q0 := 5) hK hw.1 rfl rfl, k_pre hK hZ hw⟩ rfl rfl hl.1 rfl (lv_room (Nat.le_of_ble_eq_true rfl)) dX5_number_23 ⟨Nat.zero_le _, Nat.zero_le _⟩) ?_
      refine lv_if_ne (tgt := 37) hx hb dX5_number_26 (by decide) (fun c4 => ?_) (fun c4 => ?_)
      · have hE0 := ite_f hE0 c4
        refine lv_aload_n hx hb dX5_number_37 rfl (lv_at hl 0 rfl) ?_
        refine kg_X5_balance hcf hK (kw_240 htk) dX5_number_38 hw ?_
        refine kg_X0_bases hcf hK (kw_193 htk) dX5_number_41 hw ?_
        refine lv_iload_n hx hb dX5_number_44 rfl (lv_at hl 1 rfl) ?_
        obtain ⟨g2, hE0⟩ := gd_e hE0 hN0
        refine kaald_bases hcf hK dX5_number_45 rfl g2 hw ?_
        refine lv_iload_n hx hb dX5_number_46 rfl (lv_at hl 2 rfl) ?_
        obtain ⟨g3, hE0⟩ := gd_e hE0 hN0
        refine kald_bases hcf hK (x := (σ.2.2.2 (5 + (p1).toNatClampNeg) ((p2).toNatClampNeg))) dX5_number_47 g2 g3 hw rfl ?_
        exact kretP_l hcf hr hlk hK hw (rts1 hR hE0) hQ0 dX5_number_48
      · have hE0 := ite_t hE0 c4
        exact rtsx hR hE0
abbrev rtX5_number : Room := { frames := 6, cells := 1, slots := 6, locals := 120 }
set_option maxRecDepth 100000 in
set_option maxHeartbeats 4000000 in
theorem tX5_number (l : Launch) (hfl : l.flags = flags0) (D : va_G) (cs : Nat → ClassId) (ad : Nat → Nat) (N : Nat) (σ : vS) (p1 : Int32) (p2 : Int32) (n : Nat) (hf : fX5_number N σ p1 p2 = some (.inr n)) : k_MT l yX5_number wsX5_number rtX5_number D (tK cs) (wK cs ad) [.ref (ad 0), .int p1, .int p2] σ (kx_n n) := by
  refine k_ofT (A := fun _ => False) (cc := cX5_number) (maxL := 3) (ret := (some .long)) (by decide) rfl (Nat.le_of_ble_eq_true rfl) ?_
  intro p e s m args below meth c ls hcf hr hlk hK hZ hS hnh hl hw
  generalize hQ0 : k_TQ below (kx_n n) s = Q0
  obtain ⟨T0, hE0⟩ : ∃ T, T = fX5_number N σ p1 p2 := ⟨_, rfl⟩
  have hR := hE0.trans hf
  have hN0 : T0 ≠ none := by rw [hR]; exact fun h => nomatch h
  have hx := hcf.1
  have hb := hcf.2.1
  have htk := hcf.2.2.2.2
  have hown := hcf.2.2.2.1
  unfold fX5_number at hE0
  replace hl : lv_has ls 3 [(0, .ref (ad 0)), (1, .int p1), (2, .int p2)] := hl
  refine lv_iload_n hx hb dX5_number_0 rfl (lv_at hl 1 rfl) ?_
  refine lv_if_lt (tgt := 29) hx hb dX5_number_1 (by decide) (fun c6 => ?_) (fun c6 => ?_)
  · have hE0 := ite_t hE0 c6
    have hn := rtsn hR hE0
    subst hn
    subst hQ0
    exact k_throw hcf hfl hlk hZ hS hnh ka_X5_114 (by decide) (kw_581 htk) (kw_582 htk) (kw_66 htk) hl dX5_number_29 dX5_number_32 dX5_number_33 dX5_number_36 (Nat.le_of_ble_eq_true rfl) (Nat.le_of_ble_eq_true rfl) (Nat.le_of_ble_eq_true rfl) (Nat.le_of_ble_eq_true rfl)
  · have hE0 := ite_f hE0 c6
    refine lv_iload_n hx hb dX5_number_4 rfl (lv_at hl 1 rfl) ?_
    refine lv_aload_n hx hb dX5_number_5 rfl (lv_at hl 0 rfl) ?_
    refine kg_X5_balance hcf hK (kw_240 htk) dX5_number_6 hw ?_
    refine kg_X0_freeCount hcf hK (kw_195 htk) (x := (σ.1 10)) dX5_number_9 hw rfl ?_
    refine lv_icmp_ge (tgt := 29) hx hb dX5_number_12 (by decide) (fun c5 => ?_) (fun c5 => ?_)
    · have hE0 := ite_t hE0 c5
      have hn := rtsn hR hE0
      subst hn
      subst hQ0
      exact k_throw hcf hfl hlk hZ hS hnh ka_X5_114 (by decide) (kw_581 htk) (kw_582 htk) (kw_66 htk) hl dX5_number_29 dX5_number_32 dX5_number_33 dX5_number_36 (Nat.le_of_ble_eq_true rfl) (Nat.le_of_ble_eq_true rfl) (Nat.le_of_ble_eq_true rfl) (Nat.le_of_ble_eq_true rfl)
    · have hE0 := ite_f hE0 c5
      refine lv_aload_n hx hb dX5_number_15 rfl (lv_at hl 0 rfl) ?_
      refine kg_X5_reader hcf hK (kw_239 htk) dX5_number_16 hw ?_
      refine kg_X3_equation hcf hK (kw_153 htk) dX5_number_19 hw ?_
      refine lv_iload_n hx hb dX5_number_22 rfl (lv_at hl 2 rfl) ?_
      obtain ⟨r1, k1, hE0⟩ := bd1_e hE0 hN0
      refine k_callP (va_runV (As := [.int p2]) (rest := []) hcf (mX1_containsFormula l D cs ad N σ p2 r1 k1) (kcX1_containsFormula htk (kw_607 htk) ⟨Nat.le_of_ble_eq_true rfl, Nat.le_of_ble_eq_true rfl⟩) ⟨k_blind, va_recv (ci := 1) (q0 := 5) hK hw.1 rfl rfl, k_pre hK hZ hw⟩ rfl rfl hl.1 rfl (lv_room (Nat.le_of_ble_eq_true rfl)) dX5_number_23 ⟨Nat.zero_le _, Nat.zero_le _⟩) ?_
      refine lv_if_ne (tgt := 37) hx hb dX5_number_26 (by decide) (fun c4 => ?_) (fun c4 => ?_)
      · have hE0 := ite_f hE0 c4
        refine lv_aload_n hx hb dX5_number_37 rfl (lv_at hl 0 rfl) ?_
        refine kg_X5_balance hcf hK (kw_240 htk) dX5_number_38 hw ?_
        refine kg_X0_bases hcf hK (kw_193 htk) dX5_number_41 hw ?_
        refine lv_iload_n hx hb dX5_number_44 rfl (lv_at hl 1 rfl) ?_
        obtain ⟨g2, hE0⟩ := gd_e hE0 hN0
        refine kaald_bases hcf hK dX5_number_45 rfl g2 hw ?_
        refine lv_iload_n hx hb dX5_number_46 rfl (lv_at hl 2 rfl) ?_
        obtain ⟨g3, hE0⟩ := gd_e hE0 hN0
        refine kald_bases hcf hK (x := (σ.2.2.2 (5 + (p1).toNatClampNeg) ((p2).toNatClampNeg))) dX5_number_47 g2 g3 hw rfl ?_
        exact rtsx hE0 hR
      · have hE0 := ite_t hE0 c4
        have hn := rtsn hR hE0
        subst hn
        subst hQ0
        exact k_throw hcf hfl hlk hZ hS hnh ka_X5_114 (by decide) (kw_581 htk) (kw_582 htk) (kw_66 htk) hl dX5_number_29 dX5_number_32 dX5_number_33 dX5_number_36 (Nat.le_of_ble_eq_true rfl) (Nat.le_of_ble_eq_true rfl) (Nat.le_of_ble_eq_true rfl) (Nat.le_of_ble_eq_true rfl)
def jX5_weight_86 (N : Nat) (σ : vS) (v3j86 : Int64) : Option ((Int64) ⊕ Nat) :=
  some (.inl v3j86)
def bX5_weight_47 (N : Nat) (σ : vS) (p1 : Int32) (v3h47 : Int64) (v5h47 : Int32) : Option ((Int64 × Int32) ⊕ (Int64)) :=
  if ((σ.1 3) ≤ v5h47) then (
    some (.inr v3h47)
  ) else (
    if (v5h47 < 0 ∨ 6 ≤ (v5h47).toNatClampNeg) then none else
    bd1 (fX1_amount N σ v5h47 p1) fun r3 =>
    k_lt (v3h47 + ((σ.2.2.2 5 ((v5h47).toNatClampNeg)) * (r3).toInt64)) fun x4 =>
    k_lt (v5h47 + (1 : Int32)) fun x5 =>
    some (.inl (x4, x5))
  )
def fX5_weight (N : Nat) (σ : vS) (p1 : Int32) : Option ((Int64) ⊕ Nat) :=
  bd1 (fX1_containsKind N σ p1) fun r1 =>
  if (r1 = 0) then (
    some (.inr 2)
  ) else (
    if ((σ.1 11) = 0) then (
      bd1 (k_itr (fun zz => bX5_weight_47 N σ p1 zz.1 zz.2) N ((0 : Int64), (0 : Int32))) fun q => jX5_weight_86 N σ q
    ) else (
      some (.inr 3)
    )
  )
abbrev rmX5_weight : Room := { frames := 6, cells := 0, slots := 0, locals := 120 }
abbrev wsX5_weight : List Cond := .code yX5_weight cX5_weight 6 (some .long) :: kws
theorem kcX5_weight {R : Room} {s : State} {args : Array Value} {own : String} {index : Nat} (htk : ∀ w ∈ kws, w.before args s = true) (hl : (Cond.methodLink own index yX5_weight).before args s = true) (hR : rmX5_weight.frames + 1 ≤ R.frames ∧ 8 + (6 + 11) + rmX5_weight.locals ≤ R.locals) : CallW R s args own RX5 index yX5_weight cX5_weight 6 (some .long) wsX5_weight rmX5_weight 0 0 1 :=
  ⟨callB_of 1 htk (k_good kc_638) rfl rfl rfl (kw_52 htk) hl (by decide +kernel) hR, (kw_636 htk), (kw_637 htk)⟩
set_option maxRecDepth 100000 in
set_option maxHeartbeats 4000000 in
theorem mX5_weight (l : Launch) (D : va_G) (cs : Nat → ClassId) (ad : Nat → Nat) (N : Nat) (σ : vS) (p1 : Int32) (r : Int64) (hf : fX5_weight N σ p1 = some (.inl r)) : k_MP l yX5_weight wsX5_weight rmX5_weight D (tK cs) (wK cs ad) [.ref (ad 0), .int p1] σ (.long r) := by
  refine k_ofP (cc := cX5_weight) (maxL := 6) (ret := (some .long)) (by decide) rfl (Nat.le_of_ble_eq_true rfl) ?_
  intro p e s m args below meth c ls hcf hr hlk hK hZ hl hw
  generalize hQ0 : MQ below _ args s 0 0 _ = Q0
  obtain ⟨T0, hE0⟩ : ∃ T, T = fX5_weight N σ p1 := ⟨_, rfl⟩
  have hR := hE0.trans hf
  have hN0 : T0 ≠ none := by rw [hR]; exact fun h => nomatch h
  have hx := hcf.1
  have hb := hcf.2.1
  have htk := hcf.2.2.2.2
  have hown := hcf.2.2.2.1
  unfold fX5_weight at hE0
  replace hl : lv_has ls 6 [(0, .ref (ad 0)), (1, .int p1)] := hl
  have J86 : ∀ (v3j86 : Int64) (ls : Array Slot), lv_has ls 6 [(3, .long v3j86)] → T0 = jX5_weight_86 N σ v3j86 → W p l e rmX5_weight s m args below meth c s.heap [] 0 0 Q0 (F0 m 86 ls []) := by
    intro v3j86 ls hl hE0
    unfold jX5_weight_86 at hE0
    refine lv_lload_n hx hb dX5_weight_86 rfl (lv_at hl 0 rfl) ?_
    exact kretP_l hcf hr hlk hK hw (rts1 hR hE0) hQ0 dX5_weight_87
  refine lv_aload_n hx hb dX5_weight_0 rfl (lv_at hl 0 rfl) ?_
  refine kg_X5_reader hcf hK (kw_239 htk) dX5_weight_1 hw ?_
  refine kg_X3_equation hcf hK (kw_153 htk) dX5_weight_4 hw ?_
  refine lv_astore_n hx hb dX5_weight_7 rfl hl (Nat.le_of_ble_eq_true rfl) rfl (fun ls (hl : lv_has ls 6 [(2, .ref (ad 5)), (0, .ref (ad 0)), (1, .int p1)]) => ?_)
  refine lv_aload_n hx hb dX5_weight_8 rfl (lv_at hl 0 rfl) ?_
  refine lv_iload_n hx hb dX5_weight_9 rfl (lv_at hl 2 rfl) ?_
  obtain ⟨r1, k1, hE0⟩ := bd1_e hE0 hN0
  refine k_callP (va_runV (As := [.int p1]) (rest := []) hcf (mX1_containsKind l D cs ad N σ p1 r1 k1) (kcX1_containsKind htk (kw_577 htk) ⟨Nat.le_of_ble_eq_true rfl, Nat.le_of_ble_eq_true rfl⟩) ⟨k_blind, va_recv (ci := 1) (q0 := 5) hK hw.1 rfl rfl, k_pre hK hZ hw⟩ rfl rfl hl.1 rfl (lv_room (Nat.le_of_ble_eq_true rfl)) dX5_weight_10 ⟨Nat.zero_le _, Nat.zero_le _⟩) ?_
  refine lv_if_ne (tgt := 24) hx hb dX5_weight_13 (by decide) (fun c8 => ?_) (fun c8 => ?_)
  · have hE0 := ite_f hE0 c8
    refine lv_aload_n hx hb dX5_weight_24 rfl (lv_at hl 1 rfl) ?_
    refine kg_X5_balance hcf hK (kw_240 htk) dX5_weight_25 hw ?_
    refine kg_X0_verdict hcf hK (kw_197 htk) (x := (σ.1 11)) dX5_weight_28 hw rfl ?_
    refine lv_if_eq (tgt := 42) hx hb dX5_weight_31 (by decide) (fun c7 => ?_) (fun c7 => ?_)
    · have hE0 := ite_t hE0 c7
      refine lv_lconst (v := 0) hx hb dX5_weight_42 rfl ?_
      refine lv_lstore_n hx hb dX5_weight_43 rfl hl (Nat.le_of_ble_eq_true rfl) rfl (fun ls (hl : lv_has ls 6 [(3, .long (0 : Int64)), (2, .ref (ad 5)), (0, .ref (ad 0)), (1, .int p1)]) => ?_)
      refine lv_iconst (v := 0) hx hb dX5_weight_44 rfl ?_
      refine lv_istore hx hb dX5_weight_45 hl (Nat.le_of_ble_eq_true rfl) rfl (fun ls (hl : lv_has ls 6 [(5, .int (0 : Int32)), (3, .long (0 : Int64)), (2, .ref (ad 5)), (0, .ref (ad 0)), (1, .int p1)]) => ?_)
      obtain ⟨q, hq, hE0⟩ := bd1_e hE0 hN0
      refine k_ind (P := fun zz => ∀ (ls : Array Slot), lv_has ls 6 [(0, .ref (ad 0)), (1, .int p1), (2, .ref (ad 5)), (3, .long zz.1), (5, .int zz.2)] → W p l e rmX5_weight s m args below meth c s.heap [] 0 0 Q0 (F0 m 47 ls [])) ?_ N _ hq ls (lv_sub hl [3, 4, 2, 1, 0] rfl)
      intro sX T1 hE1 hN1 hC1 hX1
      obtain ⟨v3h47, v5h47⟩ := sX
      replace hE1 : T1 = bX5_weight_47 N σ p1 v3h47 v5h47 := hE1
      unfold bX5_weight_47 at hE1
      intro ls hl
      replace hl : lv_has ls 6 [(0, .ref (ad 0)), (1, .int p1), (2, .ref (ad 5)), (3, .long v3h47), (5, .int v5h47)] := hl
      refine lv_iload hx hb dX5_weight_47 (lv_at hl 4 rfl) ?_
      refine lv_aload_n hx hb dX5_weight_49 rfl (lv_at hl 2 rfl) ?_
      refine kg_X1_reactantCount hcf hK (kw_125 htk) (x := (σ.1 3)) dX5_weight_50 hw rfl ?_
      refine lv_icmp_ge (tgt := 86) hx hb dX5_weight_53 (by decide) (fun c6 => ?_) (fun c6 => ?_)
      · have hE1 := ite_t hE1 c6
        have hq := hX1 _ hE1
        subst hq
        exact J86 v3h47 ls (lv_sub hl [3] rfl) hE0
      · have hE1 := ite_f hE1 c6
        refine lv_lload_n hx hb dX5_weight_56 rfl (lv_at hl 3 rfl) ?_
        refine lv_aload_n hx hb dX5_weight_57 rfl (lv_at hl 0 rfl) ?_
        refine kg_X5_balance hcf hK (kw_240 htk) dX5_weight_58 hw ?_
        refine kg_X0_bases hcf hK (kw_193 htk) dX5_weight_61 hw ?_
        refine lv_iconst (v := 0) hx hb dX5_weight_64 rfl ?_
        refine kaald_bases hcf hK (k := 30) dX5_weight_65 (by decide) (by decide) hw ?_
        refine lv_iload hx hb dX5_weight_66 (lv_at hl 4 rfl) ?_
        obtain ⟨g2, hE1⟩ := gd_e hE1 hN1
        refine kald_B5 hcf hK (x := (σ.2.2.2 5 ((v5h47).toNatClampNeg))) dX5_weight_68 g2 hw rfl ?_
        refine lv_aload_n hx hb dX5_weight_69 rfl (lv_at hl 2 rfl) ?_
        refine lv_iload hx hb dX5_weight_70 (lv_at hl 4 rfl) ?_
        refine lv_iload_n hx hb dX5_weight_72 rfl (lv_at hl 1 rfl) ?_
        obtain ⟨r3, k3, hE1⟩ := bd1_e hE1 hN1
        refine k_callP (va_runV (As := [.int v5h47, .int p1]) (rest := [.long (σ.2.2.2 5 ((v5h47).toNatClampNeg)), .long v3h47]) hcf (mX1_amount l D cs ad N σ v5h47 p1 r3 k3) (kcX1_amount htk (kw_608 htk) ⟨Nat.le_of_ble_eq_true rfl, Nat.le_of_ble_eq_true rfl⟩) ⟨k_blind, va_recv (ci := 1) (q0 := 5) hK hw.1 rfl rfl, k_pre hK hZ hw⟩ rfl rfl hl.1 rfl (lv_room (Nat.le_of_ble_eq_true rfl)) dX5_weight_73 ⟨Nat.zero_le _, Nat.zero_le _⟩) ?_
        refine lv_i2l hx hb dX5_weight_76 rfl ?_
        refine lv_lmul hx hb dX5_weight_77 ?_
        refine lv_ladd hx hb dX5_weight_78 ?_
        refine lv_topl (fun x4 e_x4 => ?_)
        have hE1 := k_lts hE1 e_x4
        refine lv_lstore_n hx hb dX5_weight_79 rfl hl (Nat.le_of_ble_eq_true rfl) rfl (fun ls (hl : lv_has ls 6 [(3, .long x4), (0, .ref (ad 0)), (1, .int p1), (2, .ref (ad 5)), (5, .int v5h47)]) => ?_)
        obtain ⟨x5, e_x5, hE1⟩ := k_lte hE1
        refine lv_iinc (k := 4) (v := x5) hx hb dX5_weight_80 hl rfl (Eq.symm e_x5) (Nat.le_of_ble_eq_true rfl) rfl (fun ls (hl : lv_has ls 6 [(5, .int x5), (3, .long x4), (0, .ref (ad 0)), (1, .int p1), (2, .ref (ad 5))]) => ?_)
        refine lv_goto (tgt := 47) hx hb dX5_weight_83 (by decide) ?_
        exact hC1 _ hE1 ls (lv_sub hl [2, 3, 4, 1, 0] rfl)
    · have hE0 := ite_f hE0 c7
      exact rtsx hR hE0
  · have hE0 := ite_t hE0 c8
    exact rtsx hR hE0
abbrev rtX5_weight : Room := { frames := 6, cells := 1, slots := 6, locals := 120 }
set_option maxRecDepth 100000 in
set_option maxHeartbeats 4000000 in
theorem tX5_weight (l : Launch) (hfl : l.flags = flags0) (D : va_G) (cs : Nat → ClassId) (ad : Nat → Nat) (N : Nat) (σ : vS) (p1 : Int32) (n : Nat) (hf : fX5_weight N σ p1 = some (.inr n)) : k_MT l yX5_weight wsX5_weight rtX5_weight D (tK cs) (wK cs ad) [.ref (ad 0), .int p1] σ (kx_n n) := by
  refine k_ofT (A := fun _ => False) (cc := cX5_weight) (maxL := 6) (ret := (some .long)) (by decide) rfl (Nat.le_of_ble_eq_true rfl) ?_
  intro p e s m args below meth c ls hcf hr hlk hK hZ hS hnh hl hw
  generalize hQ0 : k_TQ below (kx_n n) s = Q0
  obtain ⟨T0, hE0⟩ : ∃ T, T = fX5_weight N σ p1 := ⟨_, rfl⟩
  have hR := hE0.trans hf
  have hN0 : T0 ≠ none := by rw [hR]; exact fun h => nomatch h
  have hx := hcf.1
  have hb := hcf.2.1
  have htk := hcf.2.2.2.2
  have hown := hcf.2.2.2.1
  unfold fX5_weight at hE0
  replace hl : lv_has ls 6 [(0, .ref (ad 0)), (1, .int p1)] := hl
  have J86 : ∀ (v3j86 : Int64) (ls : Array Slot), lv_has ls 6 [(3, .long v3j86)] → T0 = jX5_weight_86 N σ v3j86 → W p l e rtX5_weight s m args below meth c s.heap [] 0 0 Q0 (F0 m 86 ls []) := by
    intro v3j86 ls hl hE0
    unfold jX5_weight_86 at hE0
    refine lv_lload_n hx hb dX5_weight_86 rfl (lv_at hl 0 rfl) ?_
    exact rtsx hE0 hR
  refine lv_aload_n hx hb dX5_weight_0 rfl (lv_at hl 0 rfl) ?_
  refine kg_X5_reader hcf hK (kw_239 htk) dX5_weight_1 hw ?_
  refine kg_X3_equation hcf hK (kw_153 htk) dX5_weight_4 hw ?_
  refine lv_astore_n hx hb dX5_weight_7 rfl hl (Nat.le_of_ble_eq_true rfl) rfl (fun ls (hl : lv_has ls 6 [(2, .ref (ad 5)), (0, .ref (ad 0)), (1, .int p1)]) => ?_)
  refine lv_aload_n hx hb dX5_weight_8 rfl (lv_at hl 0 rfl) ?_
  refine lv_iload_n hx hb dX5_weight_9 rfl (lv_at hl 2 rfl) ?_
  obtain ⟨r1, k1, hE0⟩ := bd1_e hE0 hN0
  refine k_callP (va_runV (As := [.int p1]) (rest := []) hcf (mX1_containsKind l D cs ad N σ p1 r1 k1) (kcX1_containsKind htk (kw_577 htk) ⟨Nat.le_of_ble_eq_true rfl, Nat.le_of_ble_eq_true rfl⟩) ⟨k_blind, va_recv (ci := 1) (q0 := 5) hK hw.1 rfl rfl, k_pre hK hZ hw⟩ rfl rfl hl.1 rfl (lv_room (Nat.le_of_ble_eq_true rfl)) dX5_weight_10 ⟨Nat.zero_le _, Nat.zero_le _⟩) ?_
  refine lv_if_ne (tgt := 24) hx hb dX5_weight_13 (by decide) (fun c8 => ?_) (fun c8 => ?_)
  · have hE0 := ite_f hE0 c8
    refine lv_aload_n hx hb dX5_weight_24 rfl (lv_at hl 1 rfl) ?_
    refine kg_X5_balance hcf hK (kw_240 htk) dX5_weight_25 hw ?_
    refine kg_X0_verdict hcf hK (kw_197 htk) (x := (σ.1 11)) dX5_weight_28 hw rfl ?_
    refine lv_if_eq (tgt := 42) hx hb dX5_weight_31 (by decide) (fun c7 => ?_) (fun c7 => ?_)
    · have hE0 := ite_t hE0 c7
      refine lv_lconst (v := 0) hx hb dX5_weight_42 rfl ?_
      refine lv_lstore_n hx hb dX5_weight_43 rfl hl (Nat.le_of_ble_eq_true rfl) rfl (fun ls (hl : lv_has ls 6 [(3, .long (0 : Int64)), (2, .ref (ad 5)), (0, .ref (ad 0)), (1, .int p1)]) => ?_)
      refine lv_iconst (v := 0) hx hb dX5_weight_44 rfl ?_
      refine lv_istore hx hb dX5_weight_45 hl (Nat.le_of_ble_eq_true rfl) rfl (fun ls (hl : lv_has ls 6 [(5, .int (0 : Int32)), (3, .long (0 : Int64)), (2, .ref (ad 5)), (0, .ref (ad 0)), (1, .int p1)]) => ?_)
      obtain ⟨q, hq, hE0⟩ := bd1_e hE0 hN0
      refine k_ind (P := fun zz => ∀ (ls : Array Slot), lv_has ls 6 [(0, .ref (ad 0)), (1, .int p1), (2, .ref (ad 5)), (3, .long zz.1), (5, .int zz.2)] → W p l e rtX5_weight s m args below meth c s.heap [] 0 0 Q0 (F0 m 47 ls [])) ?_ N _ hq ls (lv_sub hl [3, 4, 2, 1, 0] rfl)
      intro sX T1 hE1 hN1 hC1 hX1
      obtain ⟨v3h47, v5h47⟩ := sX
      replace hE1 : T1 = bX5_weight_47 N σ p1 v3h47 v5h47 := hE1
      unfold bX5_weight_47 at hE1
      intro ls hl
      replace hl : lv_has ls 6 [(0, .ref (ad 0)), (1, .int p1), (2, .ref (ad 5)), (3, .long v3h47), (5, .int v5h47)] := hl
      refine lv_iload hx hb dX5_weight_47 (lv_at hl 4 rfl) ?_
      refine lv_aload_n hx hb dX5_weight_49 rfl (lv_at hl 2 rfl) ?_
      refine kg_X1_reactantCount hcf hK (kw_125 htk) (x := (σ.1 3)) dX5_weight_50 hw rfl ?_
      refine lv_icmp_ge (tgt := 86) hx hb dX5_weight_53 (by decide) (fun c6 => ?_) (fun c6 => ?_)
      · have hE1 := ite_t hE1 c6
        have hq := hX1 _ hE1
        subst hq
        exact J86 v3h47 ls (lv_sub hl [3] rfl) hE0
      · have hE1 := ite_f hE1 c6
        refine lv_lload_n hx hb dX5_weight_56 rfl (lv_at hl 3 rfl) ?_
        refine lv_aload_n hx hb dX5_weight_57 rfl (lv_at hl 0 rfl) ?_
        refine kg_X5_balance hcf hK (kw_240 htk) dX5_weight_58 hw ?_
        refine kg_X0_bases hcf hK (kw_193 htk) dX5_weight_61 hw ?_
        refine lv_iconst (v := 0) hx hb dX5_weight_64 rfl ?_
        refine kaald_bases hcf hK (k := 30) dX5_weight_65 (by decide) (by decide) hw ?_
        refine lv_iload hx hb dX5_weight_66 (lv_at hl 4 rfl) ?_
        obtain ⟨g2, hE1⟩ := gd_e hE1 hN1
        refine kald_B5 hcf hK (x := (σ.2.2.2 5 ((v5h47).toNatClampNeg))) dX5_weight_68 g2 hw rfl ?_
        refine lv_aload_n hx hb dX5_weight_69 rfl (lv_at hl 2 rfl) ?_
        refine lv_iload hx hb dX5_weight_70 (lv_at hl 4 rfl) ?_
        refine lv_iload_n hx hb dX5_weight_72 rfl (lv_at hl 1 rfl) ?_
        obtain ⟨r3, k3, hE1⟩ := bd1_e hE1 hN1
        refine k_callP (va_runV (As := [.int v5h47, .int p1]) (rest := [.long (σ.2.2.2 5 ((v5h47).toNatClampNeg)), .long v3h47]) hcf (mX1_amount l D cs ad N σ v5h47 p1 r3 k3) (kcX1_amount htk (kw_608 htk) ⟨Nat.le_of_ble_eq_true rfl, Nat.le_of_ble_eq_true rfl⟩) ⟨k_blind, va_recv (ci := 1) (q0 := 5) hK hw.1 rfl rfl, k_pre hK hZ hw⟩ rfl rfl hl.1 rfl (lv_room (Nat.le_of_ble_eq_true rfl)) dX5_weight_73 ⟨Nat.zero_le _, Nat.zero_le _⟩) ?_
        refine lv_i2l hx hb dX5_weight_76 rfl ?_
        refine lv_lmul hx hb dX5_weight_77 ?_
        refine lv_ladd hx hb dX5_weight_78 ?_
        refine lv_topl (fun x4 e_x4 => ?_)
        have hE1 := k_lts hE1 e_x4
        refine lv_lstore_n hx hb dX5_weight_79 rfl hl (Nat.le_of_ble_eq_true rfl) rfl (fun ls (hl : lv_has ls 6 [(3, .long x4), (0, .ref (ad 0)), (1, .int p1), (2, .ref (ad 5)), (5, .int v5h47)]) => ?_)
        obtain ⟨x5, e_x5, hE1⟩ := k_lte hE1
        refine lv_iinc (k := 4) (v := x5) hx hb dX5_weight_80 hl rfl (Eq.symm e_x5) (Nat.le_of_ble_eq_true rfl) rfl (fun ls (hl : lv_has ls 6 [(5, .int x5), (3, .long x4), (0, .ref (ad 0)), (1, .int p1), (2, .ref (ad 5))]) => ?_)
        refine lv_goto (tgt := 47) hx hb dX5_weight_83 (by decide) ?_
        exact hC1 _ hE1 ls (lv_sub hl [2, 3, 4, 1, 0] rfl)
    · have hE0 := ite_f hE0 c7
      have hn := rtsn hR hE0
      subst hn
      subst hQ0
      exact k_throw hcf hfl hlk hZ hS hnh ka_X5_135 (by decide) (kw_639 htk) (kw_640 htk) (kw_67 htk) hl dX5_weight_34 dX5_weight_37 dX5_weight_38 dX5_weight_41 (Nat.le_of_ble_eq_true rfl) (Nat.le_of_ble_eq_true rfl) (Nat.le_of_ble_eq_true rfl) (Nat.le_of_ble_eq_true rfl)
  · have hE0 := ite_t hE0 c8
    have hn := rtsn hR hE0
    subst hn
    subst hQ0
    exact k_throw hcf hfl hlk hZ hS hnh ka_X5_114 (by decide) (kw_581 htk) (kw_582 htk) (kw_66 htk) hl dX5_weight_16 dX5_weight_19 dX5_weight_20 dX5_weight_23 (Nat.le_of_ble_eq_true rfl) (Nat.le_of_ble_eq_true rfl) (Nat.le_of_ble_eq_true rfl) (Nat.le_of_ble_eq_true rfl)
def fX5_written (N : Nat) (σ : vS) (p1 : Int32) : Option ((Int32) ⊕ Nat) :=
  if ((σ.1 11) = 0) then (
    bd1 (fX2_characterAt N σ p1) fun r1 =>
    some (.inl r1)
  ) else (
    some (.inr 3)
  )
abbrev rmX5_written : Room := { frames := 6, cells := 0, slots := 0, locals := 120 }
abbrev wsX5_written : List Cond := .code yX5_written cX5_written 2 (some .int) :: kws
theorem kcX5_written {R : Room} {s : State} {args : Array Value} {own : String} {index : Nat} (htk : ∀ w ∈ kws, w.before args s = true) (hl : (Cond.methodLink own index yX5_written).before args s = true) (hR : rmX5_written.frames + 1 ≤ R.frames ∧ 8 + (2 + 11) + rmX5_written.locals ≤ R.locals) : CallW R s args own RX5 index yX5_written cX5_written 2 (some .int) wsX5_written rmX5_written 0 0 1 :=
  ⟨callB_of 1 htk (k_good kc_660) rfl rfl rfl (kw_52 htk) hl (by decide +kernel) hR, (kw_658 htk), (kw_659 htk)⟩
set_option maxRecDepth 100000 in
set_option maxHeartbeats 4000000 in
theorem mX5_written (l : Launch) (D : va_G) (cs : Nat → ClassId) (ad : Nat → Nat) (N : Nat) (σ : vS) (p1 : Int32) (r : Int32) (hf : fX5_written N σ p1 = some (.inl r)) : k_MP l yX5_written wsX5_written rmX5_written D (tK cs) (wK cs ad) [.ref (ad 0), .int p1] σ (.int r) := by
  refine k_ofP (cc := cX5_written) (maxL := 2) (ret := (some .int)) (by decide) rfl (Nat.le_of_ble_eq_true rfl) ?_
  intro p e s m args below meth c ls hcf hr hlk hK hZ hl hw
  generalize hQ0 : MQ below _ args s 0 0 _ = Q0
  obtain ⟨T0, hE0⟩ : ∃ T, T = fX5_written N σ p1 := ⟨_, rfl⟩
  have hR := hE0.trans hf
  have hN0 : T0 ≠ none := by rw [hR]; exact fun h => nomatch h
  have hx := hcf.1
  have hb := hcf.2.1
  have htk := hcf.2.2.2.2
  have hown := hcf.2.2.2.1
  unfold fX5_written at hE0
  replace hl : lv_has ls 2 [(0, .ref (ad 0)), (1, .int p1)] := hl
  refine lv_aload_n hx hb dX5_written_0 rfl (lv_at hl 0 rfl) ?_
  refine kg_X5_balance hcf hK (kw_240 htk) dX5_written_1 hw ?_
  refine kg_X0_verdict hcf hK (kw_197 htk) (x := (σ.1 11)) dX5_written_4 hw rfl ?_
  refine lv_if_eq (tgt := 18) hx hb dX5_written_7 (by decide) (fun c2 => ?_) (fun c2 => ?_)
  · have hE0 := ite_t hE0 c2
    refine lv_aload_n hx hb dX5_written_18 rfl (lv_at hl 0 rfl) ?_
    refine kg_X5_line hcf hK (kw_241 htk) dX5_written_19 hw ?_
    refine lv_iload_n hx hb dX5_written_22 rfl (lv_at hl 1 rfl) ?_
    obtain ⟨r1, k1, hE0⟩ := bd1_e hE0 hN0
    refine k_callP (va_runV (As := [.int p1]) (rest := []) hcf (mX2_characterAt l D cs ad N σ p1 r1 k1) (kcX2_characterAt htk (kw_661 htk) ⟨Nat.le_of_ble_eq_true rfl, Nat.le_of_ble_eq_true rfl⟩) ⟨k_blind, va_recv (ci := 2) (q0 := 3) hK hw.1 rfl rfl, k_pre hK hZ hw⟩ rfl rfl hl.1 rfl (lv_room (Nat.le_of_ble_eq_true rfl)) dX5_written_23 ⟨Nat.zero_le _, Nat.zero_le _⟩) ?_
    exact kretP_i hcf hr hlk hK hw (rts1 hR hE0) hQ0 dX5_written_26
  · have hE0 := ite_f hE0 c2
    exact rtsx hR hE0
abbrev rtX5_written : Room := { frames := 6, cells := 1, slots := 6, locals := 120 }
set_option maxRecDepth 100000 in
set_option maxHeartbeats 4000000 in
theorem tX5_written (l : Launch) (hfl : l.flags = flags0) (D : va_G) (cs : Nat → ClassId) (ad : Nat → Nat) (N : Nat) (σ : vS) (p1 : Int32) (n : Nat) (hf : fX5_written N σ p1 = some (.inr n)) : k_MT l yX5_written wsX5_written rtX5_written D (tK cs) (wK cs ad) [.ref (ad 0), .int p1] σ (kx_n n) := by
  refine k_ofT (A := fun _ => False) (cc := cX5_written) (maxL := 2) (ret := (some .int)) (by decide) rfl (Nat.le_of_ble_eq_true rfl) ?_
  intro p e s m args below meth c ls hcf hr hlk hK hZ hS hnh hl hw
  generalize hQ0 : k_TQ below (kx_n n) s = Q0
  obtain ⟨T0, hE0⟩ : ∃ T, T = fX5_written N σ p1 := ⟨_, rfl⟩
  have hR := hE0.trans hf
  have hN0 : T0 ≠ none := by rw [hR]; exact fun h => nomatch h
  have hx := hcf.1
  have hb := hcf.2.1
  have htk := hcf.2.2.2.2
  have hown := hcf.2.2.2.1
  unfold fX5_written at hE0
  replace hl : lv_has ls 2 [(0, .ref (ad 0)), (1, .int p1)] := hl
  refine lv_aload_n hx hb dX5_written_0 rfl (lv_at hl 0 rfl) ?_
  refine kg_X5_balance hcf hK (kw_240 htk) dX5_written_1 hw ?_
  refine kg_X0_verdict hcf hK (kw_197 htk) (x := (σ.1 11)) dX5_written_4 hw rfl ?_
  refine lv_if_eq (tgt := 18) hx hb dX5_written_7 (by decide) (fun c2 => ?_) (fun c2 => ?_)
  · have hE0 := ite_t hE0 c2
    refine lv_aload_n hx hb dX5_written_18 rfl (lv_at hl 0 rfl) ?_
    refine kg_X5_line hcf hK (kw_241 htk) dX5_written_19 hw ?_
    refine lv_iload_n hx hb dX5_written_22 rfl (lv_at hl 1 rfl) ?_
    obtain ⟨r1, k1, hE0⟩ := bd1_e hE0 hN0
    refine k_callP (va_runV (As := [.int p1]) (rest := []) hcf (mX2_characterAt l D cs ad N σ p1 r1 k1) (kcX2_characterAt htk (kw_661 htk) ⟨Nat.le_of_ble_eq_true rfl, Nat.le_of_ble_eq_true rfl⟩) ⟨k_blind, va_recv (ci := 2) (q0 := 3) hK hw.1 rfl rfl, k_pre hK hZ hw⟩ rfl rfl hl.1 rfl (lv_room (Nat.le_of_ble_eq_true rfl)) dX5_written_23 ⟨Nat.zero_le _, Nat.zero_le _⟩) ?_
    exact rtsx hE0 hR
  · have hE0 := ite_f hE0 c2
    have hn := rtsn hR hE0
    subst hn
    subst hQ0
    exact k_throw hcf hfl hlk hZ hS hnh ka_X5_135 (by decide) (kw_639 htk) (kw_640 htk) (kw_67 htk) hl dX5_written_10 dX5_written_13 dX5_written_14 dX5_written_17 (Nat.le_of_ble_eq_true rfl) (Nat.le_of_ble_eq_true rfl) (Nat.le_of_ble_eq_true rfl) (Nat.le_of_ble_eq_true rfl)
def jX5_solves_121 (N : Nat) (σ : vS) : Option ((Int32) ⊕ Nat) :=
  some (.inl (1 : Int32))
def bX5_solves_38 (N : Nat) (σ : vS) (p1 : Int32) (p2 : Int32) (p3 : Int32) (p4 : Int32) (p5 : Int32) (v7h38 : Int32) : Option ((Int32) ⊕ ((Unit) ⊕ ((Int32) ⊕ Nat))) :=
  bd1 (fX1_kindCount N σ) fun r1 =>
  if (r1 ≤ v7h38) then (
    some (.inr (.inl ()))
  ) else (
    bd1 (fX1_share N σ (0 : Int32) v7h38 ((p1).toInt64)) fun r2 =>
    bd1 (fX1_share N σ (1 : Int32) v7h38 ((p2).toInt64)) fun r3 =>
    bd1 (fX1_share N σ (2 : Int32) v7h38 ((p3).toInt64)) fun r4 =>
    bd1 (fX1_share N σ (3 : Int32) v7h38 ((p4).toInt64)) fun r5 =>
    bd1 (fX1_share N σ (4 : Int32) v7h38 ((p5).toInt64)) fun r6 =>
    k_lt ((((r2 + r3) + r4) + r5) + r6) fun x7 =>
    if ((lg_cmp x7 (0 : Int64)) = 0) then (
      k_lt (v7h38 + (1 : Int32)) fun x8 =>
      some (.inl x8)
    ) else (
      some (.inr (.inr (.inl (0 : Int32))))
    )
  )
def fX5_solves (N : Nat) (σ : vS) (p1 : Int32) (p2 : Int32) (p3 : Int32) (p4 : Int32) (p5 : Int32) : Option ((Int32) ⊕ Nat) :=
  if ((σ.1 2) = 0) then (
    some (.inr 3)
  ) else (
    if ((σ.1 2) = (6 : Int32)) then (
      some (.inr 3)
    ) else (
      bds (k_itr (fun zz => bX5_solves_38 N σ p1 p2 p3 p4 p5 zz) N (0 : Int32)) fun _ => jX5_solves_121 N σ
    )
  )
abbrev rmX5_solves : Room := { frames := 6, cells := 0, slots := 0, locals := 120 }
abbrev wsX5_solves : List Cond := .code yX5_solves cX5_solves 10 (some .boolean) :: kws
theorem kcX5_solves {R : Room} {s : State} {args : Array Value} {own : String} {index : Nat} (htk : ∀ w ∈ kws, w.before args s = true) (hl : (Cond.methodLink own index yX5_solves).before args s = true) (hR : rmX5_solves.frames + 1 ≤ R.frames ∧ 8 + (10 + 11) + rmX5_solves.locals ≤ R.locals) : CallW R s args own RX5 index yX5_solves cX5_solves 10 (some .boolean) wsX5_solves rmX5_solves 0 0 5 :=
  ⟨callB_of 5 htk (k_good kc_671) rfl rfl rfl (kw_52 htk) hl (by decide +kernel) hR, (kw_669 htk), (kw_670 htk)⟩
set_option maxRecDepth 100000 in
set_option maxHeartbeats 4000000 in
theorem mX5_solves (l : Launch) (D : va_G) (cs : Nat → ClassId) (ad : Nat → Nat) (N : Nat) (σ : vS) (p1 : Int32) (p2 : Int32) (p3 : Int32) (p4 : Int32) (p5 : Int32) (r : Int32) (hf : fX5_solves N σ p1 p2 p3 p4 p5 = some (.inl r)) : k_MP l yX5_solves wsX5_solves rmX5_solves D (tK cs) (wK cs ad) [.ref (ad 0), .int p1, .int p2, .int p3, .int p4, .int p5] σ (.int r) := by
  refine k_ofP (cc := cX5_solves) (maxL := 10) (ret := (some .boolean)) (by decide) rfl (Nat.le_of_ble_eq_true rfl) ?_
  intro p e s m args below meth c ls hcf hr hlk hK hZ hl hw
  generalize hQ0 : MQ below _ args s 0 0 _ = Q0
  obtain ⟨T0, hE0⟩ : ∃ T, T = fX5_solves N σ p1 p2 p3 p4 p5 := ⟨_, rfl⟩
  have hR := hE0.trans hf
  have hN0 : T0 ≠ none := by rw [hR]; exact fun h => nomatch h
  have hx := hcf.1
  have hb := hcf.2.1
  have htk := hcf.2.2.2.2
  have hown := hcf.2.2.2.1
  unfold fX5_solves at hE0
  replace hl : lv_has ls 10 [(0, .ref (ad 0)), (1, .int p1), (2, .int p2), (3, .int p3), (4, .int p4), (5, .int p5)] := hl
  have J121 : ∀ (ls : Array Slot), lv_has ls 10 [] → T0 = jX5_solves_121 N σ → W p l e rmX5_solves s m args below meth c s.heap [] 0 0 Q0 (F0 m 121 ls []) := by
    intro ls hl hE0
    unfold jX5_solves_121 at hE0
    refine lv_iconst (v := 1) hx hb dX5_solves_121 rfl ?_
    exact kretP_z hcf hr hlk hK hw (rts1 hR hE0) hQ0 rfl dX5_solves_122
  refine lv_aload_n hx hb dX5_solves_0 rfl (lv_at hl 0 rfl) ?_
  refine kg_X5_reader hcf hK (kw_239 htk) dX5_solves_1 hw ?_
  refine kg_X3_equation hcf hK (kw_153 htk) dX5_solves_4 hw ?_
  refine lv_astore hx hb dX5_solves_7 hl (Nat.le_of_ble_eq_true rfl) rfl (fun ls (hl : lv_has ls 10 [(6, .ref (ad 5)), (0, .ref (ad 0)), (1, .int p1), (2, .int p2), (3, .int p3), (4, .int p4), (5, .int p5)]) => ?_)
  refine lv_aload hx hb dX5_solves_9 (lv_at hl 0 rfl) ?_
  refine kg_X1_formulaCount hcf hK (kw_120 htk) (x := (σ.1 2)) dX5_solves_11 hw rfl ?_
  refine lv_if_eq (tgt := 27) hx hb dX5_solves_14 (by decide) (fun c12 => ?_) (fun c12 => ?_)
  · have hE0 := ite_t hE0 c12
    exact rtsx hR hE0
  · have hE0 := ite_f hE0 c12
    refine lv_aload hx hb dX5_solves_17 (lv_at hl 0 rfl) ?_
    refine kg_X1_formulaCount hcf hK (kw_120 htk) (x := (σ.1 2)) dX5_solves_19 hw rfl ?_
    refine lv_bipush (v := 6) hx hb dX5_solves_22 rfl ?_
    refine lv_icmp_ne (tgt := 35) hx hb dX5_solves_24 (by decide) (fun c11 => ?_) (fun c11 => ?_)
    · have hE0 := ite_f hE0 c11
      refine lv_iconst (v := 0) hx hb dX5_solves_35 rfl ?_
      refine lv_istore hx hb dX5_solves_36 hl (Nat.le_of_ble_eq_true rfl) rfl (fun ls (hl : lv_has ls 10 [(7, .int (0 : Int32)), (6, .ref (ad 5)), (0, .ref (ad 0)), (1, .int p1), (2, .int p2), (3, .int p3), (4, .int p4), (5, .int p5)]) => ?_)
      obtain ⟨q, hq, hE0, hT0⟩ := bds_e hE0 hN0
      refine k_ind (P := fun zz => ∀ (ls : Array Slot), lv_has ls 10 [(1, .int p1), (2, .int p2), (3, .int p3), (4, .int p4), (5, .int p5), (6, .ref (ad 5)), (7, .int zz)] → W p l e rmX5_solves s m args below meth c s.heap [] 0 0 Q0 (F0 m 38 ls [])) ?_ N _ hq ls (lv_sub hl [3, 4, 5, 6, 7, 1, 0] rfl)
      intro sX T1 hE1 hN1 hC1 hX1
      obtain ⟨v7h38, hsg⟩ : ∃ z, z = sX := ⟨_, rfl⟩
      subst hsg
      replace hE1 : T1 = bX5_solves_38 N σ p1 p2 p3 p4 p5 v7h38 := hE1
      unfold bX5_solves_38 at hE1
      intro ls hl
      replace hl : lv_has ls 10 [(1, .int p1), (2, .int p2), (3, .int p3), (4, .int p4), (5, .int p5), (6, .ref (ad 5)), (7, .int v7h38)] := hl
      refine lv_iload hx hb dX5_solves_38 (lv_at hl 6 rfl) ?_
      refine lv_aload hx hb dX5_solves_40 (lv_at hl 5 rfl) ?_
      obtain ⟨r1, k1, hE1⟩ := bd1_e hE1 hN1
      refine k_callP (va_runV (As := []) (rest := [.int v7h38]) hcf (mX1_kindCount l D cs ad N σ r1 k1) (kcX1_kindCount htk (kw_467 htk) ⟨Nat.le_of_ble_eq_true rfl, Nat.le_of_ble_eq_true rfl⟩) ⟨k_blind, va_recv (ci := 1) (q0 := 5) hK hw.1 rfl rfl, k_pre hK hZ hw⟩ rfl rfl hl.1 rfl (lv_room (Nat.le_of_ble_eq_true rfl)) dX5_solves_42 ⟨Nat.zero_le _, Nat.zero_le _⟩) ?_
      refine lv_icmp_ge (tgt := 121) hx hb dX5_solves_45 (by decide) (fun c10 => ?_) (fun c10 => ?_)
      · have hE1 := ite_t hE1 c10
        have hq := hX1 _ hE1
        subst hq
        exact J121 ls (lv_sub hl [] rfl) (hE0 _ rfl)
      · have hE1 := ite_f hE1 c10
        refine lv_aload hx hb dX5_solves_48 (lv_at hl 5 rfl) ?_
        refine lv_iconst (v := 0) hx hb dX5_solves_50 rfl ?_
        refine lv_iload hx hb dX5_solves_51 (lv_at hl 6 rfl) ?_
        refine lv_iload_n hx hb dX5_solves_53 rfl (lv_at hl 0 rfl) ?_
        refine lv_i2l hx hb dX5_solves_54 rfl ?_
        obtain ⟨r2, k2, hE1⟩ := bd1_e hE1 hN1
        refine k_callP (va_runV (As := [.int (0 : Int32), .int v7h38, .long ((p1).toInt64)]) (rest := []) hcf (mX1_share l D cs ad N σ (0 : Int32) v7h38 ((p1).toInt64) r2 k2) (kcX1_share htk (kw_672 htk) ⟨Nat.le_of_ble_eq_true rfl, Nat.le_of_ble_eq_true rfl⟩) ⟨k_blind, va_recv (ci := 1) (q0 := 5) hK hw.1 rfl rfl, k_pre hK hZ hw⟩ rfl rfl hl.1 rfl (lv_room (Nat.le_of_ble_eq_true rfl)) dX5_solves_55 ⟨Nat.zero_le _, Nat.zero_le _⟩) ?_
        refine lv_aload hx hb dX5_solves_58 (lv_at hl 5 rfl) ?_
        refine lv_iconst (v := 1) hx hb dX5_solves_60 rfl ?_
        refine lv_iload hx hb dX5_solves_61 (lv_at hl 6 rfl) ?_
        refine lv_iload_n hx hb dX5_solves_63 rfl (lv_at hl 1 rfl) ?_
        refine lv_i2l hx hb dX5_solves_64 rfl ?_
        obtain ⟨r3, k3, hE1⟩ := bd1_e hE1 hN1
        refine k_callP (va_runV (As := [.int (1 : Int32), .int v7h38, .long ((p2).toInt64)]) (rest := [.long r2]) hcf (mX1_share l D cs ad N σ (1 : Int32) v7h38 ((p2).toInt64) r3 k3) (kcX1_share htk (kw_672 htk) ⟨Nat.le_of_ble_eq_true rfl, Nat.le_of_ble_eq_true rfl⟩) ⟨k_blind, va_recv (ci := 1) (q0 := 5) hK hw.1 rfl rfl, k_pre hK hZ hw⟩ rfl rfl hl.1 rfl (lv_room (Nat.le_of_ble_eq_true rfl)) dX5_solves_65 ⟨Nat.zero_le _, Nat.zero_le _⟩) ?_
        refine lv_ladd hx hb dX5_solves_68 ?_
        refine lv_aload hx hb dX5_solves_69 (lv_at hl 5 rfl) ?_
        refine lv_iconst (v := 2) hx hb dX5_solves_71 rfl ?_
        refine lv_iload hx hb dX5_solves_72 (lv_at hl 6 rfl) ?_
        refine lv_iload_n hx hb dX5_solves_74 rfl (lv_at hl 2 rfl) ?_
        refine lv_i2l hx hb dX5_solves_75 rfl ?_
        obtain ⟨r4, k4, hE1⟩ := bd1_e hE1 hN1
        refine k_callP (va_runV (As := [.int (2 : Int32), .int v7h38, .long ((p3).toInt64)]) (rest := [.long (r2 + r3)]) hcf (mX1_share l D cs ad N σ (2 : Int32) v7h38 ((p3).toInt64) r4 k4) (kcX1_share htk (kw_672 htk) ⟨Nat.le_of_ble_eq_true rfl, Nat.le_of_ble_eq_true rfl⟩) ⟨k_blind, va_recv (ci := 1) (q0 := 5) hK hw.1 rfl rfl, k_pre hK hZ hw⟩ rfl rfl hl.1 rfl (lv_room (Nat.le_of_ble_eq_true rfl)) dX5_solves_76 ⟨Nat.zero_le _, Nat.zero_le _⟩) ?_
        refine lv_ladd hx hb dX5_solves_79 ?_
        refine lv_aload hx hb dX5_solves_80 (lv_at hl 5 rfl) ?_
        refine lv_iconst (v := 3) hx hb dX5_solves_82 rfl ?_
        refine lv_iload hx hb dX5_solves_83 (lv_at hl 6 rfl) ?_
        refine lv_iload hx hb dX5_solves_85 (lv_at hl 3 rfl) ?_
        refine lv_i2l hx hb dX5_solves_87 rfl ?_
        obtain ⟨r5, k5, hE1⟩ := bd1_e hE1 hN1
        refine k_callP (va_runV (As := [.int (3 : Int32), .int v7h38, .long ((p4).toInt64)]) (rest := [.long ((r2 + r3) + r4)]) hcf (mX1_share l D cs ad N σ (3 : Int32) v7h38 ((p4).toInt64) r5 k5) (kcX1_share htk (kw_672 htk) ⟨Nat.le_of_ble_eq_true rfl, Nat.le_of_ble_eq_true rfl⟩) ⟨k_blind, va_recv (ci := 1) (q0 := 5) hK hw.1 rfl rfl, k_pre hK hZ hw⟩ rfl rfl hl.1 rfl (lv_room (Nat.le_of_ble_eq_true rfl)) dX5_solves_88 ⟨Nat.zero_le _, Nat.zero_le _⟩) ?_
        refine lv_ladd hx hb dX5_solves_91 ?_
        refine lv_aload hx hb dX5_solves_92 (lv_at hl 5 rfl) ?_
        refine lv_iconst (v := 4) hx hb dX5_solves_94 rfl ?_
        refine lv_iload hx hb dX5_solves_95 (lv_at hl 6 rfl) ?_
        refine lv_iload hx hb dX5_solves_97 (lv_at hl 4 rfl) ?_
        refine lv_i2l hx hb dX5_solves_99 rfl ?_
        obtain ⟨r6, k6, hE1⟩ := bd1_e hE1 hN1
        refine k_callP (va_runV (As := [.int (4 : Int32), .int v7h38, .long ((p5).toInt64)]) (rest := [.long (((r2 + r3) + r4) + r5)]) hcf (mX1_share l D cs ad N σ (4 : Int32) v7h38 ((p5).toInt64) r6 k6) (kcX1_share htk (kw_672 htk) ⟨Nat.le_of_ble_eq_true rfl, Nat.le_of_ble_eq_true rfl⟩) ⟨k_blind, va_recv (ci := 1) (q0 := 5) hK hw.1 rfl rfl, k_pre hK hZ hw⟩ rfl rfl hl.1 rfl (lv_room (Nat.le_of_ble_eq_true rfl)) dX5_solves_100 ⟨Nat.zero_le _, Nat.zero_le _⟩) ?_
        refine lv_ladd hx hb dX5_solves_103 ?_
        refine lv_topl (fun x7 e_x7 => ?_)
        have hE1 := k_lts hE1 e_x7
        refine lv_lstore hx hb dX5_solves_104 hl (Nat.le_of_ble_eq_true rfl) rfl (fun ls (hl : lv_has ls 10 [(8, .long x7), (1, .int p1), (2, .int p2), (3, .int p3), (4, .int p4), (5, .int p5), (6, .ref (ad 5)), (7, .int v7h38)]) => ?_)
        refine lv_lload hx hb dX5_solves_106 (lv_at hl 0 rfl) ?_
        refine lv_lconst (v := 0) hx hb dX5_solves_108 rfl ?_
        refine W.lcmp hx hb dX5_solves_109 ?_
        refine lv_if_eq (tgt := 115) hx hb dX5_solves_110 (by decide) (fun c9 => ?_) (fun c9 => ?_)
        · have hE1 := ite_t hE1 c9
          obtain ⟨x8, e_x8, hE1⟩ := k_lte hE1
          refine lv_iinc (k := 7) (v := x8) hx hb dX5_solves_115 hl rfl (Eq.symm e_x8) (Nat.le_of_ble_eq_true rfl) rfl (fun ls (hl : lv_has ls 10 [(7, .int x8), (8, .long x7), (1, .int p1), (2, .int p2), (3, .int p3), (4, .int p4), (5, .int p5), (6, .ref (ad 5))]) => ?_)
          refine lv_goto (tgt := 38) hx hb dX5_solves_118 (by decide) ?_
          exact hC1 _ hE1 ls (lv_sub hl [2, 3, 4, 5, 6, 7, 0] rfl)
        · have hE1 := ite_f hE1 c9
          refine lv_iconst (v := 0) hx hb dX5_solves_113 rfl ?_
          have hq := hX1 _ hE1
          subst hq
          exact kretP_z hcf hr hlk hK hw (rts1 hR (hT0 _ rfl)) hQ0 rfl dX5_solves_114
    · have hE0 := ite_t hE0 c11
      exact rtsx hR hE0
abbrev rtX5_solves : Room := { frames := 6, cells := 1, slots := 6, locals := 120 }
set_option maxRecDepth 100000 in
set_option maxHeartbeats 4000000 in
theorem tX5_solves (l : Launch) (hfl : l.flags = flags0) (D : va_G) (cs : Nat → ClassId) (ad : Nat → Nat) (N : Nat) (σ : vS) (p1 : Int32) (p2 : Int32) (p3 : Int32) (p4 : Int32) (p5 : Int32) (n : Nat) (hf : fX5_solves N σ p1 p2 p3 p4 p5 = some (.inr n)) : k_MT l yX5_solves wsX5_solves rtX5_solves D (tK cs) (wK cs ad) [.ref (ad 0), .int p1, .int p2, .int p3, .int p4, .int p5] σ (kx_n n) := by
  refine k_ofT (A := fun _ => False) (cc := cX5_solves) (maxL := 10) (ret := (some .boolean)) (by decide) rfl (Nat.le_of_ble_eq_true rfl) ?_
  intro p e s m args below meth c ls hcf hr hlk hK hZ hS hnh hl hw
  generalize hQ0 : k_TQ below (kx_n n) s = Q0
  obtain ⟨T0, hE0⟩ : ∃ T, T = fX5_solves N σ p1 p2 p3 p4 p5 := ⟨_, rfl⟩
  have hR := hE0.trans hf
  have hN0 : T0 ≠ none := by rw [hR]; exact fun h => nomatch h
  have hx := hcf.1
  have hb := hcf.2.1
  have htk := hcf.2.2.2.2
  have hown := hcf.2.2.2.1
  unfold fX5_solves at hE0
  replace hl : lv_has ls 10 [(0, .ref (ad 0)), (1, .int p1), (2, .int p2), (3, .int p3), (4, .int p4), (5, .int p5)] := hl
  have J121 : ∀ (ls : Array Slot), lv_has ls 10 [] → T0 = jX5_solves_121 N σ → W p l e rtX5_solves s m args below meth c s.heap [] 0 0 Q0 (F0 m 121 ls []) := by
    intro ls hl hE0
    unfold jX5_solves_121 at hE0
    refine lv_iconst (v := 1) hx hb dX5_solves_121 rfl ?_
    exact rtsx hE0 hR
  refine lv_aload_n hx hb dX5_solves_0 rfl (lv_at hl 0 rfl) ?_
  refine kg_X5_reader hcf hK (kw_239 htk) dX5_solves_1 hw ?_
  refine kg_X3_equation hcf hK (kw_153 htk) dX5_solves_4 hw ?_
  refine lv_astore hx hb dX5_solves_7 hl (Nat.le_of_ble_eq_true rfl) rfl (fun ls (hl : lv_has ls 10 [(6, .ref (ad 5)), (0, .ref (ad 0)), (1, .int p1), (2, .int p2), (3, .int p3), (4, .int p4), (5, .int p5)]) => ?_)
  refine lv_aload hx hb dX5_solves_9 (lv_at hl 0 rfl) ?_
  refine kg_X1_formulaCount hcf hK (kw_120 htk) (x := (σ.1 2)) dX5_solves_11 hw rfl ?_
  refine lv_if_eq (tgt := 27) hx hb dX5_solves_14 (by decide) (fun c12 => ?_) (fun c12 => ?_)
  · have hE0 := ite_t hE0 c12
    have hn := rtsn hR hE0
    subst hn
    subst hQ0
    exact k_throw hcf hfl hlk hZ hS hnh ka_X5_135 (by decide) (kw_639 htk) (kw_640 htk) (kw_67 htk) hl dX5_solves_27 dX5_solves_30 dX5_solves_31 dX5_solves_34 (Nat.le_of_ble_eq_true rfl) (Nat.le_of_ble_eq_true rfl) (Nat.le_of_ble_eq_true rfl) (Nat.le_of_ble_eq_true rfl)
  · have hE0 := ite_f hE0 c12
    refine lv_aload hx hb dX5_solves_17 (lv_at hl 0 rfl) ?_
    refine kg_X1_formulaCount hcf hK (kw_120 htk) (x := (σ.1 2)) dX5_solves_19 hw rfl ?_
    refine lv_bipush (v := 6) hx hb dX5_solves_22 rfl ?_
    refine lv_icmp_ne (tgt := 35) hx hb dX5_solves_24 (by decide) (fun c11 => ?_) (fun c11 => ?_)
    · have hE0 := ite_f hE0 c11
      refine lv_iconst (v := 0) hx hb dX5_solves_35 rfl ?_
      refine lv_istore hx hb dX5_solves_36 hl (Nat.le_of_ble_eq_true rfl) rfl (fun ls (hl : lv_has ls 10 [(7, .int (0 : Int32)), (6, .ref (ad 5)), (0, .ref (ad 0)), (1, .int p1), (2, .int p2), (3, .int p3), (4, .int p4), (5, .int p5)]) => ?_)
      obtain ⟨q, hq, hE0, hT0⟩ := bds_e hE0 hN0
      refine k_ind (P := fun zz => ∀ (ls : Array Slot), lv_has ls 10 [(1, .int p1), (2, .int p2), (3, .int p3), (4, .int p4), (5, .int p5), (6, .ref (ad 5)), (7, .int zz)] → W p l e rtX5_solves s m args below meth c s.heap [] 0 0 Q0 (F0 m 38 ls [])) ?_ N _ hq ls (lv_sub hl [3, 4, 5, 6, 7, 1, 0] rfl)
      intro sX T1 hE1 hN1 hC1 hX1
      obtain ⟨v7h38, hsg⟩ : ∃ z, z = sX := ⟨_, rfl⟩
      subst hsg
      replace hE1 : T1 = bX5_solves_38 N σ p1 p2 p3 p4 p5 v7h38 := hE1
      unfold bX5_solves_38 at hE1
      intro ls hl
      replace hl : lv_has ls 10 [(1, .int p1), (2, .int p2), (3, .int p3), (4, .int p4), (5, .int p5), (6, .ref (ad 5)), (7, .int v7h38)] := hl
      refine lv_iload hx hb dX5_solves_38 (lv_at hl 6 rfl) ?_
      refine lv_aload hx hb dX5_solves_40 (lv_at hl 5 rfl) ?_
      obtain ⟨r1, k1, hE1⟩ := bd1_e hE1 hN1
      refine k_callP (va_runV (As := []) (rest := [.int v7h38]) hcf (mX1_kindCount l D cs ad N σ r1 k1) (kcX1_kindCount htk (kw_467 htk) ⟨Nat.le_of_ble_eq_true rfl, Nat.le_of_ble_eq_true rfl⟩) ⟨k_blind, va_recv (ci := 1) (q0 := 5) hK hw.1 rfl rfl, k_pre hK hZ hw⟩ rfl rfl hl.1 rfl (lv_room (Nat.le_of_ble_eq_true rfl)) dX5_solves_42 ⟨Nat.zero_le _, Nat.zero_le _⟩) ?_
      refine lv_icmp_ge (tgt := 121) hx hb dX5_solves_45 (by decide) (fun c10 => ?_) (fun c10 => ?_)
      · have hE1 := ite_t hE1 c10
        have hq := hX1 _ hE1
        subst hq
        exact J121 ls (lv_sub hl [] rfl) (hE0 _ rfl)
      · have hE1 := ite_f hE1 c10
        refine lv_aload hx hb dX5_solves_48 (lv_at hl 5 rfl) ?_
        refine lv_iconst (v := 0) hx hb dX5_solves_50 rfl ?_
        refine lv_iload hx hb dX5_solves_51 (lv_at hl 6 rfl) ?_
        refine lv_iload_n hx hb dX5_solves_53 rfl (lv_at hl 0 rfl) ?_
        refine lv_i2l hx hb dX5_solves_54 rfl ?_
        obtain ⟨r2, k2, hE1⟩ := bd1_e hE1 hN1
        refine k_callP (va_runV (As := [.int (0 : Int32), .int v7h38, .long ((p1).toInt64)]) (rest := []) hcf (mX1_share l D cs ad N σ (0 : Int32) v7h38 ((p1).toInt64) r2 k2) (kcX1_share htk (kw_672 htk) ⟨Nat.le_of_ble_eq_true rfl, Nat.le_of_ble_eq_true rfl⟩) ⟨k_blind, va_recv (ci := 1) (q0 := 5) hK hw.1 rfl rfl, k_pre hK hZ hw⟩ rfl rfl hl.1 rfl (lv_room (Nat.le_of_ble_eq_true rfl)) dX5_solves_55 ⟨Nat.zero_le _, Nat.zero_le _⟩) ?_
        refine lv_aload hx hb dX5_solves_58 (lv_at hl 5 rfl) ?_
        refine lv_iconst (v := 1) hx hb dX5_solves_60 rfl ?_
        refine lv_iload hx hb dX5_solves_61 (lv_at hl 6 rfl) ?_
        refine lv_iload_n hx hb dX5_solves_63 rfl (lv_at hl 1 rfl) ?_
        refine lv_i2l hx hb dX5_solves_64 rfl ?_
        obtain ⟨r3, k3, hE1⟩ := bd1_e hE1 hN1
        refine k_callP (va_runV (As := [.int (1 : Int32), .int v7h38, .long ((p2).toInt64)]) (rest := [.long r2]) hcf (mX1_share l D cs ad N σ (1 : Int32) v7h38 ((p2).toInt64) r3 k3) (kcX1_share htk (kw_672 htk) ⟨Nat.le_of_ble_eq_true rfl, Nat.le_of_ble_eq_true rfl⟩) ⟨k_blind, va_recv (ci := 1) (q0 := 5) hK hw.1 rfl rfl, k_pre hK hZ hw⟩ rfl rfl hl.1 rfl (lv_room (Nat.le_of_ble_eq_true rfl)) dX5_solves_65 ⟨Nat.zero_le _, Nat.zero_le _⟩) ?_
        refine lv_ladd hx hb dX5_solves_68 ?_
        refine lv_aload hx hb dX5_solves_69 (lv_at hl 5 rfl) ?_
        refine lv_iconst (v := 2) hx hb dX5_solves_71 rfl ?_
        refine lv_iload hx hb dX5_solves_72 (lv_at hl 6 rfl) ?_
        refine lv_iload_n hx hb dX5_solves_74 rfl (lv_at hl 2 rfl) ?_
        refine lv_i2l hx hb dX5_solves_75 rfl ?_
        obtain ⟨r4, k4, hE1⟩ := bd1_e hE1 hN1
        refine k_callP (va_runV (As := [.int (2 : Int32), .int v7h38, .long ((p3).toInt64)]) (rest := [.long (r2 + r3)]) hcf (mX1_share l D cs ad N σ (2 : Int32) v7h38 ((p3).toInt64) r4 k4) (kcX1_share htk (kw_672 htk) ⟨Nat.le_of_ble_eq_true rfl, Nat.le_of_ble_eq_true rfl⟩) ⟨k_blind, va_recv (ci := 1) (q0 := 5) hK hw.1 rfl rfl, k_pre hK hZ hw⟩ rfl rfl hl.1 rfl (lv_room (Nat.le_of_ble_eq_true rfl)) dX5_solves_76 ⟨Nat.zero_le _, Nat.zero_le _⟩) ?_
        refine lv_ladd hx hb dX5_solves_79 ?_
        refine lv_aload hx hb dX5_solves_80 (lv_at hl 5 rfl) ?_
        refine lv_iconst (v := 3) hx hb dX5_solves_82 rfl ?_
        refine lv_iload hx hb dX5_solves_83 (lv_at hl 6 rfl) ?_
        refine lv_iload hx hb dX5_solves_85 (lv_at hl 3 rfl) ?_
        refine lv_i2l hx hb dX5_solves_87 rfl ?_
        obtain ⟨r5, k5, hE1⟩ := bd1_e hE1 hN1
        refine k_callP (va_runV (As := [.int (3 : Int32), .int v7h38, .long ((p4).toInt64)]) (rest := [.long ((r2 + r3) + r4)]) hcf (mX1_share l D cs ad N σ (3 : Int32) v7h38 ((p4).toInt64) r5 k5) (kcX1_share htk (kw_672 htk) ⟨Nat.le_of_ble_eq_true rfl, Nat.le_of_ble_eq_true rfl⟩) ⟨k_blind, va_recv (ci := 1) (q0 := 5) hK hw.1 rfl rfl, k_pre hK hZ hw⟩ rfl rfl hl.1 rfl (lv_room (Nat.le_of_ble_eq_true rfl)) dX5_solves_88 ⟨Nat.zero_le _, Nat.zero_le _⟩) ?_
        refine lv_ladd hx hb dX5_solves_91 ?_
        refine lv_aload hx hb dX5_solves_92 (lv_at hl 5 rfl) ?_
        refine lv_iconst (v := 4) hx hb dX5_solves_94 rfl ?_
        refine lv_iload hx hb dX5_solves_95 (lv_at hl 6 rfl) ?_
        refine lv_iload hx hb dX5_solves_97 (lv_at hl 4 rfl) ?_
        refine lv_i2l hx hb dX5_solves_99 rfl ?_
        obtain ⟨r6, k6, hE1⟩ := bd1_e hE1 hN1
        refine k_callP (va_runV (As := [.int (4 : Int32), .int v7h38, .long ((p5).toInt64)]) (rest := [.long (((r2 + r3) + r4) + r5)]) hcf (mX1_share l D cs ad N σ (4 : Int32) v7h38 ((p5).toInt64) r6 k6) (kcX1_share htk (kw_672 htk) ⟨Nat.le_of_ble_eq_true rfl, Nat.le_of_ble_eq_true rfl⟩) ⟨k_blind, va_recv (ci := 1) (q0 := 5) hK hw.1 rfl rfl, k_pre hK hZ hw⟩ rfl rfl hl.1 rfl (lv_room (Nat.le_of_ble_eq_true rfl)) dX5_solves_100 ⟨Nat.zero_le _, Nat.zero_le _⟩) ?_
        refine lv_ladd hx hb dX5_solves_103 ?_
        refine lv_topl (fun x7 e_x7 => ?_)
        have hE1 := k_lts hE1 e_x7
        refine lv_lstore hx hb dX5_solves_104 hl (Nat.le_of_ble_eq_true rfl) rfl (fun ls (hl : lv_has ls 10 [(8, .long x7), (1, .int p1), (2, .int p2), (3, .int p3), (4, .int p4), (5, .int p5), (6, .ref (ad 5)), (7, .int v7h38)]) => ?_)
        refine lv_lload hx hb dX5_solves_106 (lv_at hl 0 rfl) ?_
        refine lv_lconst (v := 0) hx hb dX5_solves_108 rfl ?_
        refine W.lcmp hx hb dX5_solves_109 ?_
        refine lv_if_eq (tgt := 115) hx hb dX5_solves_110 (by decide) (fun c9 => ?_) (fun c9 => ?_)
        · have hE1 := ite_t hE1 c9
          obtain ⟨x8, e_x8, hE1⟩ := k_lte hE1
          refine lv_iinc (k := 7) (v := x8) hx hb dX5_solves_115 hl rfl (Eq.symm e_x8) (Nat.le_of_ble_eq_true rfl) rfl (fun ls (hl : lv_has ls 10 [(7, .int x8), (8, .long x7), (1, .int p1), (2, .int p2), (3, .int p3), (4, .int p4), (5, .int p5), (6, .ref (ad 5))]) => ?_)
          refine lv_goto (tgt := 38) hx hb dX5_solves_118 (by decide) ?_
          exact hC1 _ hE1 ls (lv_sub hl [2, 3, 4, 5, 6, 7, 0] rfl)
        · have hE1 := ite_f hE1 c9
          refine lv_iconst (v := 0) hx hb dX5_solves_113 rfl ?_
          have hq := hX1 _ hE1
          subst hq
          exact rtsx (hT0 _ rfl) hR
    · have hE0 := ite_t hE0 c11
      have hn := rtsn hR hE0
      subst hn
      subst hQ0
      exact k_throw hcf hfl hlk hZ hS hnh ka_X5_135 (by decide) (kw_639 htk) (kw_640 htk) (kw_67 htk) hl dX5_solves_27 dX5_solves_30 dX5_solves_31 dX5_solves_34 (Nat.le_of_ble_eq_true rfl) (Nat.le_of_ble_eq_true rfl) (Nat.le_of_ble_eq_true rfl) (Nat.le_of_ble_eq_true rfl)
