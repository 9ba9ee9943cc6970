def fX2_characterAt (N : Nat) (σ : vS) (p1 : Int32) : Option (Int32) :=
  if (p1 < 0) then (
    some (-1 : Int32)
  ) else (
    if ((σ.1 15) ≤ p1) then (
      some (-1 : Int32)
    ) else (
      if (p1 < 0 ∨ 200 ≤ (p1).toNatClampNeg) then none else
      some (σ.2.1 8 ((p1).toNatClampNeg))
    )
  )
abbrev rmX2_characterAt : Room := { frames := 0, cells := 0, slots := 0, locals := 0 }
abbrev wsX2_characterAt : List Cond := .code yX2_characterAt cX2_characterAt 2 (some .int) :: kws
theorem kcX2_characterAt {R : Room} {s : State} {args : Array Value} {own : String} {index : Nat} (htk : ∀ w ∈ kws, w.before args s = true) (hl : (Cond.methodLink own index yX2_characterAt).before args s = true) (hR : rmX2_characterAt.frames + 1 ≤ R.frames ∧ 8 + (2 + 11) + rmX2_characterAt.locals ≤ R.locals) : CallW R s args own RX2 index yX2_characterAt cX2_characterAt 2 (some .int) wsX2_characterAt rmX2_characterAt 0 0 1 :=
  ⟨callB_of 1 htk (k_good kc_664) rfl rfl rfl (kw_57 htk) hl (by decide +kernel) hR, (kw_662 htk), (kw_663 htk)⟩
set_option maxRecDepth 100000 in
set_option maxHeartbeats 4000000 in
theorem mX2_characterAt (l : Launch) (D : va_G) (cs : Nat → ClassId) (ad : Nat → Nat) (N : Nat) (σ : vS) (p1 : Int32) (r : Int32) (hf : fX2_characterAt N σ p1 = some r) : k_MP l yX2_characterAt wsX2_characterAt rmX2_characterAt D (tK cs) (wK cs ad) [.ref (ad 3), .int p1] σ (.int r) := by
  refine k_ofP (cc := cX2_characterAt) (maxL := 2) (ret := (some .int)) (by decide) rfl (Nat.le_of_ble_eq_true rfl) ?_
  intro p e s m args below meth c ls hcf hr hlk hK hZ hl hw
  generalize hQ0 : MQ below _ args s 0 0 _ = Q0
  obtain ⟨T0, hE0⟩ : ∃ T, T = fX2_characterAt N σ p1 := ⟨_, rfl⟩
  have hR := hE0.trans hf
  have hN0 : T0 ≠ none := by rw [hR]; exact fun h => nomatch h
  have hx := hcf.1
  have hb := hcf.2.1
  have htk := hcf.2.2.2.2
  have hown := hcf.2.2.2.1
  unfold fX2_characterAt at hE0
  replace hl : lv_has ls 2 [(0, .ref (ad 3)), (1, .int p1)] := hl
  refine lv_iload_n hx hb dX2_characterAt_0 rfl (lv_at hl 1 rfl) ?_
  refine lv_if_lt (tgt := 21) hx hb dX2_characterAt_1 (by decide) (fun c3 => ?_) (fun c3 => ?_)
  · have hE0 := ite_t hE0 c3
    refine lv_iconst (v := -1) hx hb dX2_characterAt_21 rfl ?_
    exact kretP_i hcf hr hlk hK hw (rt1 hR hE0) hQ0 dX2_characterAt_22
  · have hE0 := ite_f hE0 c3
    refine lv_iload_n hx hb dX2_characterAt_4 rfl (lv_at hl 1 rfl) ?_
    refine lv_aload_n hx hb dX2_characterAt_5 rfl (lv_at hl 0 rfl) ?_
    refine kg_X2_length hcf hK (kw_233 htk) (x := (σ.1 15)) dX2_characterAt_6 hw rfl ?_
    refine lv_icmp_ge (tgt := 21) hx hb dX2_characterAt_9 (by decide) (fun c2 => ?_) (fun c2 => ?_)
    · have hE0 := ite_t hE0 c2
      refine lv_iconst (v := -1) hx hb dX2_characterAt_21 rfl ?_
      exact kretP_i hcf hr hlk hK hw (rt1 hR hE0) hQ0 dX2_characterAt_22
    · have hE0 := ite_f hE0 c2
      refine lv_aload_n hx hb dX2_characterAt_12 rfl (lv_at hl 0 rfl) ?_
      refine kg_X2_characters hcf hK (kw_232 htk) dX2_characterAt_13 hw ?_
      refine lv_iload_n hx hb dX2_characterAt_16 rfl (lv_at hl 1 rfl) ?_
      obtain ⟨g1, hE0⟩ := gd_e hE0 hN0
      refine kald_A8 hcf hK (x := (σ.2.1 8 ((p1).toNatClampNeg))) dX2_characterAt_17 g1 hw rfl ?_
      refine lv_goto (tgt := 22) hx hb dX2_characterAt_18 (by decide) ?_
      exact kretP_i hcf hr hlk hK hw (rt1 hR hE0) hQ0 dX2_characterAt_22
def fX5_written (N : Nat) (σ : vS) (p1 : Int32) : Option ((Int32) ⊕ Nat) :=
  if ((σ.1 11) = 0) then (
    bd1 (fX2_characterAt N σ p1) fun r1 =>
    some (.inl r1)
  ) else (
    some (.inr 3)
  )
abbrev rmX5_written : Room := { frames := 6, cells := 0, slots := 0, locals := 120 }
abbrev wsX5_written : List Cond := .code yX5_written cX5_written 2 (some .int) :: kws
theorem kcX5_written {R : Room} {s : State} {args : Array Value} {own : String} {index : Nat} (htk : ∀ w ∈ kws, w.before args s = true) (hl : (Cond.methodLink own index yX5_written).before args s = true) (hR : rmX5_written.frames + 1 ≤ R.frames ∧ 8 + (2 + 11) + rmX5_written.locals ≤ R.locals) : CallW R s args own RX5 index yX5_written cX5_written 2 (some .int) wsX5_written rmX5_written 0 0 1 :=
  ⟨callB_of 1 htk (k_good kc_660) rfl rfl rfl (kw_52 htk) hl (by decide +kernel) hR, (kw_658 htk), (kw_659 htk)⟩
def jX5_solves_121 (N : Nat) (σ : vS) : Option ((Int32) ⊕ Nat) :=
  some (.inl (1 : Int32))
def bX5_solves_38 (N : Nat) (σ : vS) (p1 : Int32) (p2 : Int32) (p3 : Int32) (p4 : Int32) (p5 : Int32) (v7h38 : Int32) : Option ((Int32) ⊕ ((Unit) ⊕ ((Int32) ⊕ Nat))) :=
  bd1 (fX1_kindCount N σ) fun r1 =>
  if (r1 ≤ v7h38) then (
    some (.inr (.inl ()))
  ) else (
    bd1 (fX1_share N σ (0 : Int32) v7h38 ((p1).toInt64)) fun r2 =>
    bd1 (fX1_share N σ (1 : Int32) v7h38 ((p2).toInt64)) fun r3 =>
    bd1 (fX1_share N σ (2 : Int32) v7h38 ((p3).toInt64)) fun r4 =>
    bd1 (fX1_share N σ (3 : Int32) v7h38 ((p4).toInt64)) fun r5 =>
    bd1 (fX1_share N σ (4 : Int32) v7h38 ((p5).toInt64)) fun r6 =>
    k_lt ((((r2 + r3) + r4) + r5) + r6) fun x7 =>
    if ((lg_cmp x7 (0 : Int64)) = 0) then (
      k_lt (v7h38 + (1 : Int32)) fun x8 =>
      some (.inl x8)
    ) else (
      some (.inr (.inr (.inl (0 : Int32))))
    )
  )
def fX5_solves (N : Nat) (σ : vS) (p1 : Int32) (p2 : Int32) (p3 : Int32) (p4 : Int32) (p5 : Int32) : Option ((Int32) ⊕ Nat) :=
  if ((σ.1 2) = 0) then (
    some (.inr 3)
  ) else (
    if ((σ.1 2) = (6 : Int32)) then (
      some (.inr 3)
    ) else (
      bds (k_itr (fun zz => bX5_solves_38 N σ p1 p2 p3 p4 p5 zz) N (0 : Int32)) fun _ => jX5_solves_121 N σ
    )
  )
abbrev rmX5_solves : Room := { frames := 6, cells := 0, slots := 0, locals := 120 }
abbrev wsX5_solves : List Cond := .code yX5_solves cX5_solves 10 (some .boolean) :: kws
theorem kcX5_solves {R : Room} {s : State} {args : Array Value} {own : String} {index : Nat} (htk : ∀ w ∈ kws, w.before args s = true) (hl : (Cond.methodLink own index yX5_solves).before args s = true) (hR : rmX5_solves.frames + 1 ≤ R.frames ∧ 8 + (10 + 11) + rmX5_solves.locals ≤ R.locals) : CallW R s args own RX5 index yX5_solves cX5_solves 10 (some .boolean) wsX5_solves rmX5_solves 0 0 5 :=
  ⟨callB_of 5 htk (k_good kc_671) rfl rfl rfl (kw_52 htk) hl (by decide +kernel) hR, (kw_669 htk), (kw_670 htk)⟩
