theorem kc_470 : Cond.codeWith yL_type method_3_code 5 (some .int) [(0, 9, 12, 13), (0, 9, 16, 15)] ∈ kws := k_in (List.mem_of_getElem? (i := 470) (by decide +kernel)) (by decide +kernel)
theorem kw_471 {args : Array Value} {s : State} (h : ∀ w ∈ kws, w.before args s = true) : (Cond.classLink RL 13 "java/lang/IllegalArgumentException").before args s = true := h _ (k_in (List.mem_of_getElem? (i := 471) (by decide +kernel)) (by decide +kernel))
theorem kw_472 {args : Array Value} {s : State} (h : ∀ w ∈ kws, w.before args s = true) : (Cond.classLink RL 15 "java/lang/UnsupportedOperationException").before args s = true := h _ (k_in (List.mem_of_getElem? (i := 472) (by decide +kernel)) (by decide +kernel))
theorem kw_473 {args : Array Value} {s : State} (h : ∀ w ∈ kws, w.before args s = true) : (Cond.methodLink RL 7 yX5_type).before args s = true := h _ (k_in (List.mem_of_getElem? (i := 473) (by decide +kernel)) (by decide +kernel))
theorem kc_571 : Cond.codeWith yL_name method_4_code 4 (some .int) [(0, 9, 12, 21)] ∈ kws := k_in (List.mem_of_getElem? (i := 571) (by decide +kernel)) (by decide +kernel)
theorem kw_572 {args : Array Value} {s : State} (h : ∀ w ∈ kws, w.before args s = true) : (Cond.classLink RL 21 "java/util/NoSuchElementException").before args s = true := h _ (k_in (List.mem_of_getElem? (i := 572) (by decide +kernel)) (by decide +kernel))
theorem kw_573 {args : Array Value} {s : State} (h : ∀ w ∈ kws, w.before args s = true) : (Cond.methodLink RL 17 yX5_name).before args s = true := h _ (k_in (List.mem_of_getElem? (i := 573) (by decide +kernel)) (by decide +kernel))
theorem kc_602 : Cond.codeWith yL_has method_5_code 5 (some .int) [(0, 10, 13, 21)] ∈ kws := k_in (List.mem_of_getElem? (i := 602) (by decide +kernel)) (by decide +kernel)
theorem kw_603 {args : Array Value} {s : State} (h : ∀ w ∈ kws, w.before args s = true) : (Cond.methodLink RL 23 yX5_has).before args s = true := h _ (k_in (List.mem_of_getElem? (i := 603) (by decide +kernel)) (by decide +kernel))
theorem kc_611 : Cond.codeWith yL_product method_6_code 4 (some .int) [(0, 16, 19, 21)] ∈ kws := k_in (List.mem_of_getElem? (i := 611) (by decide +kernel)) (by decide +kernel)
theorem kw_612 {args : Array Value} {s : State} (h : ∀ w ∈ kws, w.before args s = true) : (Cond.methodLink RL 27 yX5_product).before args s = true := h _ (k_in (List.mem_of_getElem? (i := 612) (by decide +kernel)) (by decide +kernel))
theorem kc_619 : Cond.codeWith yL_free method_7_code 4 (some .int) [(0, 16, 19, 21)] ∈ kws := k_in (List.mem_of_getElem? (i := 619) (by decide +kernel)) (by decide +kernel)
theorem kw_620 {args : Array Value} {s : State} (h : ∀ w ∈ kws, w.before args s = true) : (Cond.methodLink RL 31 yX5_free).before args s = true := h _ (k_in (List.mem_of_getElem? (i := 620) (by decide +kernel)) (by decide +kernel))
theorem kc_626 : Cond.codeWith yL_number method_8_code 5 (some .int) [(0, 9, 12, 21)] ∈ kws := k_in (List.mem_of_getElem? (i := 626) (by decide +kernel)) (by decide +kernel)
theorem kw_627 {args : Array Value} {s : State} (h : ∀ w ∈ kws, w.before args s = true) : (Cond.methodLink RL 34 yX5_number).before args s = true := h _ (k_in (List.mem_of_getElem? (i := 627) (by decide +kernel)) (by decide +kernel))
theorem kc_633 : Cond.codeWith yL_weight method_9_code 4 (some .int) [(0, 8, 11, 21), (0, 8, 14, 42)] ∈ kws := k_in (List.mem_of_getElem? (i := 633) (by decide +kernel)) (by decide +kernel)
theorem kw_634 {args : Array Value} {s : State} (h : ∀ w ∈ kws, w.before args s = true) : (Cond.classLink RL 42 "java/lang/IllegalStateException").before args s = true := h _ (k_in (List.mem_of_getElem? (i := 634) (by decide +kernel)) (by decide +kernel))
theorem kw_635 {args : Array Value} {s : State} (h : ∀ w ∈ kws, w.before args s = true) : (Cond.methodLink RL 38 yX5_weight).before args s = true := h _ (k_in (List.mem_of_getElem? (i := 635) (by decide +kernel)) (by decide +kernel))
theorem kc_656 : Cond.codeWith yL_written method_10_code 4 (some .int) [(0, 9, 12, 42)] ∈ kws := k_in (List.mem_of_getElem? (i := 656) (by decide +kernel)) (by decide +kernel)
theorem kw_657 {args : Array Value} {s : State} (h : ∀ w ∈ kws, w.before args s = true) : (Cond.methodLink RL 44 yX5_written).before args s = true := h _ (k_in (List.mem_of_getElem? (i := 657) (by decide +kernel)) (by decide +kernel))
theorem kc_667 : Cond.codeWith yL_solves method_11_code 8 (some .int) [(0, 23, 26, 42)] ∈ kws := k_in (List.mem_of_getElem? (i := 667) (by decide +kernel)) (by decide +kernel)
theorem kw_668 {args : Array Value} {s : State} (h : ∀ w ∈ kws, w.before args s = true) : (Cond.methodLink RL 47 yX5_solves).before args s = true := h _ (k_in (List.mem_of_getElem? (i := 668) (by decide +kernel)) (by decide +kernel))
theorem dL_type_0 : decode cL_type 0 = .ok (.aload_n 3, 1) := by decide +kernel
theorem dL_type_1 : decode cL_type 1 = .ok (.iconst 0, 1) := by decide +kernel
theorem dL_type_2 : decode cL_type 2 = .ok (.aload_n 0, 1) := by decide +kernel
theorem dL_type_3 : decode cL_type 3 = .ok (.lload_n 1, 1) := by decide +kernel
theorem dL_type_4 : decode cL_type 4 = .ok (.invokevirtual 7, 3) := by decide +kernel
theorem dL_type_7 : decode cL_type 7 = .ok (.i2l, 1) := by decide +kernel
theorem dL_type_8 : decode cL_type 8 = .ok (.lastore, 1) := by decide +kernel
theorem dL_type_9 : decode cL_type 9 = .ok (.goto 11, 3) := by decide +kernel
theorem dL_type_12 : decode cL_type 12 = .ok (.astore 4, 2) := by decide +kernel
theorem dL_type_14 : decode cL_type 14 = .ok (.iconst 1, 1) := by decide +kernel
theorem dL_type_15 : decode cL_type 15 = .ok (.ireturn, 1) := by decide +kernel
theorem dL_type_16 : decode cL_type 16 = .ok (.astore 4, 2) := by decide +kernel
theorem dL_type_18 : decode cL_type 18 = .ok (.iconst 2, 1) := by decide +kernel
theorem dL_type_19 : decode cL_type 19 = .ok (.ireturn, 1) := by decide +kernel
theorem dL_type_20 : decode cL_type 20 = .ok (.iconst 0, 1) := by decide +kernel
theorem dL_type_21 : decode cL_type 21 = .ok (.ireturn, 1) := by decide +kernel
theorem dL_name_0 : decode cL_name 0 = .ok (.aload_n 2, 1) := by decide +kernel
theorem dL_name_1 : decode cL_name 1 = .ok (.iconst 0, 1) := by decide +kernel
theorem dL_name_2 : decode cL_name 2 = .ok (.aload_n 0, 1) := by decide +kernel
theorem dL_name_3 : decode cL_name 3 = .ok (.iload_n 1, 1) := by decide +kernel
theorem dL_name_4 : decode cL_name 4 = .ok (.invokevirtual 17, 3) := by decide +kernel
theorem dL_name_7 : decode cL_name 7 = .ok (.i2l, 1) := by decide +kernel
theorem dL_name_8 : decode cL_name 8 = .ok (.lastore, 1) := by decide +kernel
theorem dL_name_9 : decode cL_name 9 = .ok (.goto 6, 3) := by decide +kernel
theorem dL_name_12 : decode cL_name 12 = .ok (.astore_n 3, 1) := by decide +kernel
theorem dL_name_13 : decode cL_name 13 = .ok (.iconst 1, 1) := by decide +kernel
theorem dL_name_14 : decode cL_name 14 = .ok (.ireturn, 1) := by decide +kernel
theorem dL_name_15 : decode cL_name 15 = .ok (.iconst 0, 1) := by decide +kernel
theorem dL_name_16 : decode cL_name 16 = .ok (.ireturn, 1) := by decide +kernel
theorem dL_has_0 : decode cL_has 0 = .ok (.aload_n 3, 1) := by decide +kernel
theorem dL_has_1 : decode cL_has 1 = .ok (.iconst 0, 1) := by decide +kernel
theorem dL_has_2 : decode cL_has 2 = .ok (.aload_n 0, 1) := by decide +kernel
theorem dL_has_3 : decode cL_has 3 = .ok (.iload_n 1, 1) := by decide +kernel
theorem dL_has_4 : decode cL_has 4 = .ok (.iload_n 2, 1) := by decide +kernel
theorem dL_has_5 : decode cL_has 5 = .ok (.invokevirtual 23, 3) := by decide +kernel
theorem dL_has_8 : decode cL_has 8 = .ok (.i2l, 1) := by decide +kernel
theorem dL_has_9 : decode cL_has 9 = .ok (.lastore, 1) := by decide +kernel
theorem dL_has_10 : decode cL_has 10 = .ok (.goto 7, 3) := by decide +kernel
theorem dL_has_13 : decode cL_has 13 = .ok (.astore 4, 2) := by decide +kernel
theorem dL_has_15 : decode cL_has 15 = .ok (.iconst 1, 1) := by decide +kernel
theorem dL_has_16 : decode cL_has 16 = .ok (.ireturn, 1) := by decide +kernel
theorem dL_has_17 : decode cL_has 17 = .ok (.iconst 0, 1) := by decide +kernel
theorem dL_has_18 : decode cL_has 18 = .ok (.ireturn, 1) := by decide +kernel
theorem dL_product_0 : decode cL_product 0 = .ok (.aload_n 2, 1) := by decide +kernel
theorem dL_product_1 : decode cL_product 1 = .ok (.iconst 0, 1) := by decide +kernel
theorem dL_product_2 : decode cL_product 2 = .ok (.aload_n 0, 1) := by decide +kernel
theorem dL_product_3 : decode cL_product 3 = .ok (.iload_n 1, 1) := by decide +kernel
theorem dL_product_4 : decode cL_product 4 = .ok (.invokevirtual 27, 3) := by decide +kernel
theorem dL_product_7 : decode cL_product 7 = .ok (.ifCond .eq 7, 3) := by decide +kernel
theorem dL_product_10 : decode cL_product 10 = .ok (.lconst 1, 1) := by decide +kernel
theorem dL_product_11 : decode cL_product 11 = .ok (.goto 4, 3) := by decide +kernel
theorem dL_product_14 : decode cL_product 14 = .ok (.lconst 0, 1) := by decide +kernel
theorem dL_product_15 : decode cL_product 15 = .ok (.lastore, 1) := by decide +kernel
theorem dL_product_16 : decode cL_product 16 = .ok (.goto 6, 3) := by decide +kernel
theorem dL_product_19 : decode cL_product 19 = .ok (.astore_n 3, 1) := by decide +kernel
theorem dL_product_20 : decode cL_product 20 = .ok (.iconst 1, 1) := by decide +kernel
theorem dL_product_21 : decode cL_product 21 = .ok (.ireturn, 1) := by decide +kernel
theorem dL_product_22 : decode cL_product 22 = .ok (.iconst 0, 1) := by decide +kernel
theorem dL_product_23 : decode cL_product 23 = .ok (.ireturn, 1) := by decide +kernel
theorem dL_free_0 : decode cL_free 0 = .ok (.aload_n 2, 1) := by decide +kernel
theorem dL_free_1 : decode cL_free 1 = .ok (.iconst 0, 1) := by decide +kernel
theorem dL_free_2 : decode cL_free 2 = .ok (.aload_n 0, 1) := by decide +kernel
theorem dL_free_3 : decode cL_free 3 = .ok (.iload_n 1, 1) := by decide +kernel
theorem dL_free_4 : decode cL_free 4 = .ok (.invokevirtual 31, 3) := by decide +kernel
theorem dL_free_7 : decode cL_free 7 = .ok (.ifCond .eq 7, 3) := by decide +kernel
theorem dL_free_10 : decode cL_free 10 = .ok (.lconst 1, 1) := by decide +kernel
theorem dL_free_11 : decode cL_free 11 = .ok (.goto 4, 3) := by decide +kernel
theorem dL_free_14 : decode cL_free 14 = .ok (.lconst 0, 1) := by decide +kernel
theorem dL_free_15 : decode cL_free 15 = .ok (.lastore, 1) := by decide +kernel
theorem dL_free_16 : decode cL_free 16 = .ok (.goto 6, 3) := by decide +kernel
theorem dL_free_19 : decode cL_free 19 = .ok (.astore_n 3, 1) := by decide +kernel
theorem dL_free_20 : decode cL_free 20 = .ok (.iconst 1, 1) := by decide +kernel
theorem dL_free_21 : decode cL_free 21 = .ok (.ireturn, 1) := by decide +kernel
theorem dL_free_22 : decode cL_free 22 = .ok (.iconst 0, 1) := by decide +kernel
theorem dL_free_23 : decode cL_free 23 = .ok (.ireturn, 1) := by decide +kernel
theorem dL_number_0 : decode cL_number 0 = .ok (.aload_n 3, 1) := by decide +kernel
theorem dL_number_1 : decode cL_number 1 = .ok (.iconst 0, 1) := by decide +kernel
theorem dL_number_2 : decode cL_number 2 = .ok (.aload_n 0, 1) := by decide +kernel
theorem dL_number_3 : decode cL_number 3 = .ok (.iload_n 1, 1) := by decide +kernel
theorem dL_number_4 : decode cL_number 4 = .ok (.iload_n 2, 1) := by decide +kernel
theorem dL_number_5 : decode cL_number 5 = .ok (.invokevirtual 34, 3) := by decide +kernel
theorem dL_number_8 : decode cL_number 8 = .ok (.lastore, 1) := by decide +kernel
theorem dL_number_9 : decode cL_number 9 = .ok (.goto 7, 3) := by decide +kernel
theorem dL_number_12 : decode cL_number 12 = .ok (.astore 4, 2) := by decide +kernel
theorem dL_number_14 : decode cL_number 14 = .ok (.iconst 1, 1) := by decide +kernel
theorem dL_number_15 : decode cL_number 15 = .ok (.ireturn, 1) := by decide +kernel
theorem dL_number_16 : decode cL_number 16 = .ok (.iconst 0, 1) := by decide +kernel
theorem dL_number_17 : decode cL_number 17 = .ok (.ireturn, 1) := by decide +kernel
theorem dL_weight_0 : decode cL_weight 0 = .ok (.aload_n 2, 1) := by decide +kernel
theorem dL_weight_1 : decode cL_weight 1 = .ok (.iconst 0, 1) := by decide +kernel
theorem dL_weight_2 : decode cL_weight 2 = .ok (.aload_n 0, 1) := by decide +kernel
theorem dL_weight_3 : decode cL_weight 3 = .ok (.iload_n 1, 1) := by decide +kernel
theorem dL_weight_4 : decode cL_weight 4 = .ok (.invokevirtual 38, 3) := by decide +kernel
theorem dL_weight_7 : decode cL_weight 7 = .ok (.lastore, 1) := by decide +kernel
theorem dL_weight_8 : decode cL_weight 8 = .ok (.goto 9, 3) := by decide +kernel
theorem dL_weight_11 : decode cL_weight 11 = .ok (.astore_n 3, 1) := by decide +kernel
theorem dL_weight_12 : decode cL_weight 12 = .ok (.iconst 1, 1) := by decide +kernel
theorem dL_weight_13 : decode cL_weight 13 = .ok (.ireturn, 1) := by decide +kernel
theorem dL_weight_14 : decode cL_weight 14 = .ok (.astore_n 3, 1) := by decide +kernel
theorem dL_weight_15 : decode cL_weight 15 = .ok (.iconst 2, 1) := by decide +kernel
theorem dL_weight_16 : decode cL_weight 16 = .ok (.ireturn, 1) := by decide +kernel
theorem dL_weight_17 : decode cL_weight 17 = .ok (.iconst 0, 1) := by decide +kernel
theorem dL_weight_18 : decode cL_weight 18 = .ok (.ireturn, 1) := by decide +kernel
theorem dL_written_0 : decode cL_written 0 = .ok (.aload_n 2, 1) := by decide +kernel
theorem dL_written_1 : decode cL_written 1 = .ok (.iconst 0, 1) := by decide +kernel
theorem dL_written_2 : decode cL_written 2 = .ok (.aload_n 0, 1) := by decide +kernel
theorem dL_written_3 : decode cL_written 3 = .ok (.iload_n 1, 1) := by decide +kernel
theorem dL_written_4 : decode cL_written 4 = .ok (.invokevirtual 44, 3) := by decide +kernel
theorem dL_written_7 : decode cL_written 7 = .ok (.i2l, 1) := by decide +kernel
theorem dL_written_8 : decode cL_written 8 = .ok (.lastore, 1) := by decide +kernel
theorem dL_written_9 : decode cL_written 9 = .ok (.goto 6, 3) := by decide +kernel
theorem dL_written_12 : decode cL_written 12 = .ok (.astore_n 3, 1) := by decide +kernel
theorem dL_written_13 : decode cL_written 13 = .ok (.iconst 1, 1) := by decide +kernel
theorem dL_written_14 : decode cL_written 14 = .ok (.ireturn, 1) := by decide +kernel
theorem dL_written_15 : decode cL_written 15 = .ok (.iconst 0, 1) := by decide +kernel
theorem dL_written_16 : decode cL_written 16 = .ok (.ireturn, 1) := by decide +kernel
theorem dL_solves_0 : decode cL_solves 0 = .ok (.aload 6, 2) := by decide +kernel
theorem dL_solves_2 : decode cL_solves 2 = .ok (.iconst 0, 1) := by decide +kernel
theorem dL_solves_3 : decode cL_solves 3 = .ok (.aload_n 0, 1) := by decide +kernel
theorem dL_solves_4 : decode cL_solves 4 = .ok (.iload_n 1, 1) := by decide +kernel
theorem dL_solves_5 : decode cL_solves 5 = .ok (.iload_n 2, 1) := by decide +kernel
theorem dL_solves_6 : decode cL_solves 6 = .ok (.iload_n 3, 1) := by decide +kernel
theorem dL_solves_7 : decode cL_solves 7 = .ok (.iload 4, 2) := by decide +kernel
theorem dL_solves_9 : decode cL_solves 9 = .ok (.iload 5, 2) := by decide +kernel
theorem dL_solves_11 : decode cL_solves 11 = .ok (.invokevirtual 47, 3) := by decide +kernel
theorem dL_solves_14 : decode cL_solves 14 = .ok (.ifCond .eq 7, 3) := by decide +kernel
theorem dL_solves_17 : decode cL_solves 17 = .ok (.lconst 1, 1) := by decide +kernel
theorem dL_solves_18 : decode cL_solves 18 = .ok (.goto 4, 3) := by decide +kernel
theorem dL_solves_21 : decode cL_solves 21 = .ok (.lconst 0, 1) := by decide +kernel
theorem dL_solves_22 : decode cL_solves 22 = .ok (.lastore, 1) := by decide +kernel
theorem dL_solves_23 : decode cL_solves 23 = .ok (.goto 7, 3) := by decide +kernel
theorem dL_solves_26 : decode cL_solves 26 = .ok (.astore 7, 2) := by decide +kernel
theorem dL_solves_28 : decode cL_solves 28 = .ok (.iconst 1, 1) := by decide +kernel
theorem dL_solves_29 : decode cL_solves 29 = .ok (.ireturn, 1) := by decide +kernel
theorem dL_solves_30 : decode cL_solves 30 = .ok (.iconst 0, 1) := by decide +kernel
theorem dL_solves_31 : decode cL_solves 31 = .ok (.ireturn, 1) := by decide +kernel
abbrev rmL_type : Room := { frames := 7, cells := 0, slots := 0, locals := 145 }
abbrev rtL_type : Room := { frames := 7, cells := 1, slots := 6, locals := 145 }
abbrev wsL_type : List Cond := .codeWith yL_type cL_type 5 (some .int) [(0, 9, 12, 13), (0, 9, 16, 15)] :: kws
set_option maxRecDepth 100000 in
set_option maxHeartbeats 4000000 in
theorem hL_type (l : Launch) (D : va_G) (cs : Nat → ClassId) (ad : Nat → Nat) (ao : Nat) (N : Nat) (σ : vS) (ov : Nat → Int64) (p1 : Int64) (r : Int32) (σ' : vS) (hf : fX5_type N σ p1 = some (.inl (r, σ'))) : Met l yL_type wsL_type rmL_type (va_Pc [.ref (ad 0), .long p1, .ref ao] (fun U => k_HP D cs ad ao σ ov U ∧ k_X U)) (k_HQ D cs ad ao 0 σ' (vp_updL ov 0 (r).toInt64)) 0 0 (k_HA ad ao) := by
  refine k_ofW (cc := cL_type) (maxL := 5) (ret := some .int) (hh := [(0, 9, 12, 13), (0, 9, 16, 15)]) (by decide) rfl (Nat.le_of_ble_eq_true rfl) ?_
  intro p e s m args below meth c ls hcf hr hlk htab h1 hl
  obtain ⟨h0, hX⟩ := h1
  have hx := hcf.1
  have hb := hcf.2.1
  have htk := hcf.2.2.2.2
  have hown := hcf.2.2.2.1
  have hK := h0.1.2.1
  have hZ := h0.2.2.2.1
  replace hl : lv_has ls 5 [(0, .ref (ad 0)), (1, .long p1), (3, .ref ao)] := hl
  refine lv_aload_n hx hb dL_type_0 rfl (lv_at hl 2 rfl) ?_
  refine lv_iconst (v := 0) hx hb dL_type_1 rfl ?_
  refine lv_aload_n hx hb dL_type_2 rfl (lv_at hl 0 rfl) ?_
  refine lv_lload_n hx hb dL_type_3 rfl (lv_at hl 1 rfl) ?_
  have hw : k_H D (wK cs ad) (k_A 41 ad) σ s.heap s.heap [] := k_HPw h0
  refine k_call (va_runV (As := [.long p1]) (rest := [.int 0, .ref ao]) hcf (mX5_type l D cs ad N σ p1 r σ' hf) (kcX5_type htk (kw_473 htk) ⟨Nat.le_of_ble_eq_true rfl, Nat.le_of_ble_eq_true rfl⟩) ⟨k_blind, va_recv (ci := 5) (q0 := 0) hK hw.1 rfl rfl, k_pre hK hZ hw⟩ rfl rfl hl.1 rfl (lv_room (Nat.le_of_ble_eq_true rfl)) dL_type_4 ⟨Nat.zero_le _, Nat.zero_le _⟩) hw (fun H locs hw => ?_)
  refine lv_i2l hx hb dL_type_7 rfl ?_
  refine k_hstore hcf h0 hw dL_type_8 (fun H locs hP hD hPo hS => ?_)
  refine lv_goto (tgt := 20) hx hb dL_type_9 (by decide) ?_
  refine lv_iconst (v := 0) hx hb dL_type_20 rfl ?_
  exact k_hret hcf hr hlk h0 hP hD hPo hS dL_type_21
set_option maxRecDepth 100000 in
set_option maxHeartbeats 4000000 in
theorem gL_type_0 (l : Launch) (hfl : l.flags = flags0) (D : va_G) (cs : Nat → ClassId) (ad : Nat → Nat) (ao : Nat) (N : Nat) (σ : vS) (ov : Nat → Int64) (p1 : Int64) (hf : fX5_type N σ p1 = some (.inr 0)) : Met l yL_type wsL_type rtL_type (va_Pc [.ref (ad 0), .long p1, .ref ao] (fun U => k_HP D cs ad ao σ ov U ∧ k_X U)) (k_HT 1) 1 6 (fun _ => False) := by
  refine k_ofW (cc := cL_type) (maxL := 5) (ret := some .int) (hh := [(0, 9, 12, 13), (0, 9, 16, 15)]) (by decide) rfl (Nat.le_of_ble_eq_true rfl) ?_
  intro p e s m args below meth c ls hcf hr hlk htab h1 hl
  obtain ⟨h0, hX⟩ := h1
  have hx := hcf.1
  have hb := hcf.2.1
  have htk := hcf.2.2.2.2
  have hown := hcf.2.2.2.1
  have hK := h0.1.2.1
  have hZ := h0.2.2.2.1
  replace hl : lv_has ls 5 [(0, .ref (ad 0)), (1, .long p1), (3, .ref ao)] := hl
  refine lv_aload_n hx hb dL_type_0 rfl (lv_at hl 2 rfl) ?_
  refine lv_iconst (v := 0) hx hb dL_type_1 rfl ?_
  refine lv_aload_n hx hb dL_type_2 rfl (lv_at hl 0 rfl) ?_
  refine lv_lload_n hx hb dL_type_3 rfl (lv_at hl 1 rfl) ?_
  refine k_callT (n := 1) (As := [.long p1]) (rest := [.int 0, .ref ao]) (C := RX5) hcf (tX5_type l hfl D cs ad N σ p1 0 hf) kc_476 (kw_52 htk) (kw_473 htk) (kw_474 htk) (kw_475 htk) ⟨by decide, by decide, by decide +kernel⟩ rfl ⟨Nat.le_of_ble_eq_true rfl, Nat.le_of_ble_eq_true rfl⟩ (Nat.le_of_ble_eq_true rfl) (Nat.le_of_ble_eq_true rfl) (va_recv (ci := 5) (q0 := 0) hK h0.1.1 rfl rfl) (k_hpre h0) hl.1 (Nat.le_of_ble_eq_true rfl) dL_type_4 [] ⟨0, 9, 12, 13⟩ [⟨0, 9, 16, 15⟩] htab rfl (by decide) (kw_471 htk) (va_Nw.use rfl (kn_8 hZ)) (fun _ _ _ z hz => by cases hz) (fun a H1 hz hq => ?_)
  refine W.widen (k := 1) (n := 6) (Nat.le_of_ble_eq_true rfl) (Nat.le_of_ble_eq_true rfl) ?_
  refine lv_astore hx hb dL_type_12 hl (Nat.le_of_ble_eq_true rfl) rfl (fun ls (hl : lv_has ls 5 [(4, .ref a), (0, .ref (ad 0)), (1, .long p1), (3, .ref ao)]) => ?_)
  refine lv_iconst (v := 1) hx hb dL_type_14 rfl ?_
  exact k_hthr hcf hr hlk hz hq dL_type_15
set_option maxRecDepth 100000 in
set_option maxHeartbeats 4000000 in
theorem gL_type_1 (l : Launch) (hfl : l.flags = flags0) (D : va_G) (cs : Nat → ClassId) (ad : Nat → Nat) (ao : Nat) (N : Nat) (σ : vS) (ov : Nat → Int64) (p1 : Int64) (hf : fX5_type N σ p1 = some (.inr 1)) : Met l yL_type wsL_type rtL_type (va_Pc [.ref (ad 0), .long p1, .ref ao] (fun U => k_HP D cs ad ao σ ov U ∧ k_X U)) (k_HT 2) 1 6 (fun _ => False) := by
  refine k_ofW (cc := cL_type) (maxL := 5) (ret := some .int) (hh := [(0, 9, 12, 13), (0, 9, 16, 15)]) (by decide) rfl (Nat.le_of_ble_eq_true rfl) ?_
  intro p e s m args below meth c ls hcf hr hlk htab h1 hl
  obtain ⟨h0, hX⟩ := h1
  have hx := hcf.1
  have hb := hcf.2.1
  have htk := hcf.2.2.2.2
  have hown := hcf.2.2.2.1
  have hK := h0.1.2.1
  have hZ := h0.2.2.2.1
  replace hl : lv_has ls 5 [(0, .ref (ad 0)), (1, .long p1), (3, .ref ao)] := hl
  refine lv_aload_n hx hb dL_type_0 rfl (lv_at hl 2 rfl) ?_
  refine lv_iconst (v := 0) hx hb dL_type_1 rfl ?_
  refine lv_aload_n hx hb dL_type_2 rfl (lv_at hl 0 rfl) ?_
  refine lv_lload_n hx hb dL_type_3 rfl (lv_at hl 1 rfl) ?_
  have hps : e.platform.magicAccessors = ({} : Platform).magicAccessors → ∀ cX : ClassId, s.vm.findClass (kx_n 1) = some cX → ∀ z ∈ ([⟨0, 9, 12, 13⟩] : List ExceptionTableEntry), kh_pass e.platform s m.cls 4 cX z := fun hpl cX hcX z hz => by
    rw [List.mem_singleton.mp hz]
    exact k_passed (x := ⟨0, 9, 12, 13⟩) (cls := kx_n 1) (name := kx_n 0) hown (kw_471 htk) hX.1 rfl (by decide) hpl hcX
  refine k_callT (n := 1) (As := [.long p1]) (rest := [.int 0, .ref ao]) (C := RX5) hcf (tX5_type l hfl D cs ad N σ p1 1 hf) kc_476 (kw_52 htk) (kw_473 htk) (kw_474 htk) (kw_475 htk) ⟨by decide, by decide, by decide +kernel⟩ rfl ⟨Nat.le_of_ble_eq_true rfl, Nat.le_of_ble_eq_true rfl⟩ (Nat.le_of_ble_eq_true rfl) (Nat.le_of_ble_eq_true rfl) (va_recv (ci := 5) (q0 := 0) hK h0.1.1 rfl rfl) (k_hpre h0) hl.1 (Nat.le_of_ble_eq_true rfl) dL_type_4 [⟨0, 9, 12, 13⟩] ⟨0, 9, 16, 15⟩ [] htab rfl (by decide) (kw_472 htk) (va_Nw.use rfl (kn_12 hZ)) hps (fun a H1 hz hq => ?_)
  refine W.widen (k := 1) (n := 6) (Nat.le_of_ble_eq_true rfl) (Nat.le_of_ble_eq_true rfl) ?_
  refine lv_astore hx hb dL_type_16 hl (Nat.le_of_ble_eq_true rfl) rfl (fun ls (hl : lv_has ls 5 [(4, .ref a), (0, .ref (ad 0)), (1, .long p1), (3, .ref ao)]) => ?_)
  refine lv_iconst (v := 2) hx hb dL_type_18 rfl ?_
  exact k_hthr hcf hr hlk hz hq dL_type_19
abbrev rmL_name : Room := { frames := 7, cells := 0, slots := 0, locals := 141 }
abbrev rtL_name : Room := { frames := 7, cells := 1, slots := 6, locals := 141 }
abbrev wsL_name : List Cond := .codeWith yL_name cL_name 4 (some .int) [(0, 9, 12, 21)] :: kws
set_option maxRecDepth 100000 in
set_option maxHeartbeats 4000000 in
theorem hL_name (l : Launch) (D : va_G) (cs : Nat → ClassId) (ad : Nat → Nat) (ao : Nat) (N : Nat) (σ : vS) (ov : Nat → Int64) (p1 : Int32) (r : Int32) (hf : fX5_name N σ p1 = some (.inl r)) : Met l yL_name wsL_name rmL_name (va_Pc [.ref (ad 0), .int p1, .ref ao] (fun U => k_HP D cs ad ao σ ov U ∧ k_X U)) (k_HQ D cs ad ao 0 σ (vp_updL ov 0 (r).toInt64)) 0 0 (k_HA ad ao) := by
  refine k_ofW (cc := cL_name) (maxL := 4) (ret := some .int) (hh := [(0, 9, 12, 21)]) (by decide) rfl (Nat.le_of_ble_eq_true rfl) ?_
  intro p e s m args below meth c ls hcf hr hlk htab h1 hl
  obtain ⟨h0, hX⟩ := h1
  have hx := hcf.1
  have hb := hcf.2.1
  have htk := hcf.2.2.2.2
  have hown := hcf.2.2.2.1
  have hK := h0.1.2.1
  have hZ := h0.2.2.2.1
  replace hl : lv_has ls 4 [(0, .ref (ad 0)), (1, .int p1), (2, .ref ao)] := hl
  refine lv_aload_n hx hb dL_name_0 rfl (lv_at hl 2 rfl) ?_
  refine lv_iconst (v := 0) hx hb dL_name_1 rfl ?_
  refine lv_aload_n hx hb dL_name_2 rfl (lv_at hl 0 rfl) ?_
  refine lv_iload_n hx hb dL_name_3 rfl (lv_at hl 1 rfl) ?_
  have hw : k_H D (wK cs ad) (k_A 41 ad) σ s.heap s.heap [] := k_HPw h0
  refine k_callP (va_runV (As := [.int p1]) (rest := [.int 0, .ref ao]) hcf (mX5_name l D cs ad N σ p1 r hf) (kcX5_name htk (kw_573 htk) ⟨Nat.le_of_ble_eq_true rfl, Nat.le_of_ble_eq_true rfl⟩) ⟨k_blind, va_recv (ci := 5) (q0 := 0) hK hw.1 rfl rfl, k_pre hK hZ hw⟩ rfl rfl hl.1 rfl (lv_room (Nat.le_of_ble_eq_true rfl)) dL_name_4 ⟨Nat.zero_le _, Nat.zero_le _⟩) ?_
  refine lv_i2l hx hb dL_name_7 rfl ?_
  refine k_hstore hcf h0 hw dL_name_8 (fun H locs hP hD hPo hS => ?_)
  refine lv_goto (tgt := 15) hx hb dL_name_9 (by decide) ?_
  refine lv_iconst (v := 0) hx hb dL_name_15 rfl ?_
  exact k_hret hcf hr hlk h0 hP hD hPo hS dL_name_16
set_option maxRecDepth 100000 in
set_option maxHeartbeats 4000000 in
theorem gL_name_2 (l : Launch) (hfl : l.flags = flags0) (D : va_G) (cs : Nat → ClassId) (ad : Nat → Nat) (ao : Nat) (N : Nat) (σ : vS) (ov : Nat → Int64) (p1 : Int32) (hf : fX5_name N σ p1 = some (.inr 2)) : Met l yL_name wsL_name rtL_name (va_Pc [.ref (ad 0), .int p1, .ref ao] (fun U => k_HP D cs ad ao σ ov U ∧ k_X U)) (k_HT 1) 1 6 (fun _ => False) := by
  refine k_ofW (cc := cL_name) (maxL := 4) (ret := some .int) (hh := [(0, 9, 12, 21)]) (by decide) rfl (Nat.le_of_ble_eq_true rfl) ?_
  intro p e s m args below meth c ls hcf hr hlk htab h1 hl
  obtain ⟨h0, hX⟩ := h1
  have hx := hcf.1
  have hb := hcf.2.1
  have htk := hcf.2.2.2.2
  have hown := hcf.2.2.2.1
  have hK := h0.1.2.1
  have hZ := h0.2.2.2.1
  replace hl : lv_has ls 4 [(0, .ref (ad 0)), (1, .int p1), (2, .ref ao)] := hl
  refine lv_aload_n hx hb dL_name_0 rfl (lv_at hl 2 rfl) ?_
  refine lv_iconst (v := 0) hx hb dL_name_1 rfl ?_
  refine lv_aload_n hx hb dL_name_2 rfl (lv_at hl 0 rfl) ?_
  refine lv_iload_n hx hb dL_name_3 rfl (lv_at hl 1 rfl) ?_
  refine k_callT (n := 1) (As := [.int p1]) (rest := [.int 0, .ref ao]) (C := RX5) hcf (tX5_name l hfl D cs ad N σ p1 2 hf) kc_576 (kw_52 htk) (kw_573 htk) (kw_574 htk) (kw_575 htk) ⟨by decide, by decide, by decide +kernel⟩ rfl ⟨Nat.le_of_ble_eq_true rfl, Nat.le_of_ble_eq_true rfl⟩ (Nat.le_of_ble_eq_true rfl) (Nat.le_of_ble_eq_true rfl) (va_recv (ci := 5) (q0 := 0) hK h0.1.1 rfl rfl) (k_hpre h0) hl.1 (Nat.le_of_ble_eq_true rfl) dL_name_4 [] ⟨0, 9, 12, 21⟩ [] htab rfl (by decide) (kw_572 htk) (va_Nw.use rfl (kn_13 hZ)) (fun _ _ _ z hz => by cases hz) (fun a H1 hz hq => ?_)
  refine W.widen (k := 1) (n := 6) (Nat.le_of_ble_eq_true rfl) (Nat.le_of_ble_eq_true rfl) ?_
  refine lv_astore_n hx hb dL_name_12 rfl hl (Nat.le_of_ble_eq_true rfl) rfl (fun ls (hl : lv_has ls 4 [(3, .ref a), (0, .ref (ad 0)), (1, .int p1), (2, .ref ao)]) => ?_)
  refine lv_iconst (v := 1) hx hb dL_name_13 rfl ?_
  exact k_hthr hcf hr hlk hz hq dL_name_14
abbrev rmL_has : Room := { frames := 7, cells := 0, slots := 0, locals := 142 }
abbrev rtL_has : Room := { frames := 7, cells := 1, slots := 6, locals := 142 }
abbrev wsL_has : List Cond := .codeWith yL_has cL_has 5 (some .int) [(0, 10, 13, 21)] :: kws
set_option maxRecDepth 100000 in
set_option maxHeartbeats 4000000 in
theorem hL_has (l : Launch) (D : va_G) (cs : Nat → ClassId) (ad : Nat → Nat) (ao : Nat) (N : Nat) (σ : vS) (ov : Nat → Int64) (p1 : Int32) (p2 : Int32) (r : Int32) (hf : fX5_has N σ p1 p2 = some (.inl r)) : Met l yL_has wsL_has rmL_has (va_Pc [.ref (ad 0), .int p1, .int p2, .ref ao] (fun U => k_HP D cs ad ao σ ov U ∧ k_X U)) (k_HQ D cs ad ao 0 σ (vp_updL ov 0 (r).toInt64)) 0 0 (k_HA ad ao) := by
  refine k_ofW (cc := cL_has) (maxL := 5) (ret := some .int) (hh := [(0, 10, 13, 21)]) (by decide) rfl (Nat.le_of_ble_eq_true rfl) ?_
  intro p e s m args below meth c ls hcf hr hlk htab h1 hl
  obtain ⟨h0, hX⟩ := h1
  have hx := hcf.1
  have hb := hcf.2.1
  have htk := hcf.2.2.2.2
  have hown := hcf.2.2.2.1
  have hK := h0.1.2.1
  have hZ := h0.2.2.2.1
  replace hl : lv_has ls 5 [(0, .ref (ad 0)), (1, .int p1), (2, .int p2), (3, .ref ao)] := hl
  refine lv_aload_n hx hb dL_has_0 rfl (lv_at hl 3 rfl) ?_
  refine lv_iconst (v := 0) hx hb dL_has_1 rfl ?_
  refine lv_aload_n hx hb dL_has_2 rfl (lv_at hl 0 rfl) ?_
  refine lv_iload_n hx hb dL_has_3 rfl (lv_at hl 1 rfl) ?_
  refine lv_iload_n hx hb dL_has_4 rfl (lv_at hl 2 rfl) ?_
  have hw : k_H D (wK cs ad) (k_A 41 ad) σ s.heap s.heap [] := k_HPw h0
  refine k_callP (va_runV (As := [.int p1, .int p2]) (rest := [.int 0, .ref ao]) hcf (mX5_has l D cs ad N σ p1 p2 r hf) (kcX5_has htk (kw_603 htk) ⟨Nat.le_of_ble_eq_true rfl, Nat.le_of_ble_eq_true rfl⟩) ⟨k_blind, va_recv (ci := 5) (q0 := 0) hK hw.1 rfl rfl, k_pre hK hZ hw⟩ rfl rfl hl.1 rfl (lv_room (Nat.le_of_ble_eq_true rfl)) dL_has_5 ⟨Nat.zero_le _, Nat.zero_le _⟩) ?_
  refine lv_i2l hx hb dL_has_8 rfl ?_
  refine k_hstore hcf h0 hw dL_has_9 (fun H locs hP hD hPo hS => ?_)
  refine lv_goto (tgt := 17) hx hb dL_has_10 (by decide) ?_
  refine lv_iconst (v := 0) hx hb dL_has_17 rfl ?_
  exact k_hret hcf hr hlk h0 hP hD hPo hS dL_has_18
set_option maxRecDepth 100000 in
set_option maxHeartbeats 4000000 in
theorem gL_has_2 (l : Launch) (hfl : l.flags = flags0) (D : va_G) (cs : Nat → ClassId) (ad : Nat → Nat) (ao : Nat) (N : Nat) (σ : vS) (ov : Nat → Int64) (p1 : Int32) (p2 : Int32) (hf : fX5_has N σ p1 p2 = some (.inr 2)) : Met l yL_has wsL_has rtL_has (va_Pc [.ref (ad 0), .int p1, .int p2, .ref ao] (fun U => k_HP D cs ad ao σ ov U ∧ k_X U)) (k_HT 1) 1 6 (fun _ => False) := by
  refine k_ofW (cc := cL_has) (maxL := 5) (ret := some .int) (hh := [(0, 10, 13, 21)]) (by decide) rfl (Nat.le_of_ble_eq_true rfl) ?_
  intro p e s m args below meth c ls hcf hr hlk htab h1 hl
  obtain ⟨h0, hX⟩ := h1
  have hx := hcf.1
  have hb := hcf.2.1
  have htk := hcf.2.2.2.2
  have hown := hcf.2.2.2.1
  have hK := h0.1.2.1
  have hZ := h0.2.2.2.1
  replace hl : lv_has ls 5 [(0, .ref (ad 0)), (1, .int p1), (2, .int p2), (3, .ref ao)] := hl
  refine lv_aload_n hx hb dL_has_0 rfl (lv_at hl 3 rfl) ?_
  refine lv_iconst (v := 0) hx hb dL_has_1 rfl ?_
  refine lv_aload_n hx hb dL_has_2 rfl (lv_at hl 0 rfl) ?_
  refine lv_iload_n hx hb dL_has_3 rfl (lv_at hl 1 rfl) ?_
  refine lv_iload_n hx hb dL_has_4 rfl (lv_at hl 2 rfl) ?_
  refine k_callT (n := 2) (As := [.int p1, .int p2]) (rest := [.int 0, .ref ao]) (C := RX5) hcf (tX5_has l hfl D cs ad N σ p1 p2 2 hf) kc_606 (kw_52 htk) (kw_603 htk) (kw_604 htk) (kw_605 htk) ⟨by decide, by decide, by decide +kernel⟩ rfl ⟨Nat.le_of_ble_eq_true rfl, Nat.le_of_ble_eq_true rfl⟩ (Nat.le_of_ble_eq_true rfl) (Nat.le_of_ble_eq_true rfl) (va_recv (ci := 5) (q0 := 0) hK h0.1.1 rfl rfl) (k_hpre h0) hl.1 (Nat.le_of_ble_eq_true rfl) dL_has_5 [] ⟨0, 10, 13, 21⟩ [] htab rfl (by decide) (kw_572 htk) (va_Nw.use rfl (kn_13 hZ)) (fun _ _ _ z hz => by cases hz) (fun a H1 hz hq => ?_)
  refine W.widen (k := 1) (n := 6) (Nat.le_of_ble_eq_true rfl) (Nat.le_of_ble_eq_true rfl) ?_
  refine lv_astore hx hb dL_has_13 hl (Nat.le_of_ble_eq_true rfl) rfl (fun ls (hl : lv_has ls 5 [(4, .ref a), (0, .ref (ad 0)), (1, .int p1), (2, .int p2), (3, .ref ao)]) => ?_)
  refine lv_iconst (v := 1) hx hb dL_has_15 rfl ?_
  exact k_hthr hcf hr hlk hz hq dL_has_16
abbrev rmL_product : Room := { frames := 7, cells := 0, slots := 0, locals := 141 }
abbrev rtL_product : Room := { frames := 7, cells := 1, slots := 6, locals := 141 }
abbrev wsL_product : List Cond := .codeWith yL_product cL_product 4 (some .int) [(0, 16, 19, 21)] :: kws
set_option maxRecDepth 100000 in
set_option maxHeartbeats 4000000 in
theorem hL_product (l : Launch) (D : va_G) (cs : Nat → ClassId) (ad : Nat → Nat) (ao : Nat) (N : Nat) (σ : vS) (ov : Nat → Int64) (p1 : Int32) (r : Int32) (hf : fX5_product N σ p1 = some (.inl r)) : Met l yL_product wsL_product rmL_product (va_Pc [.ref (ad 0), .int p1, .ref ao] (fun U => k_HP D cs ad ao σ ov U ∧ k_X U)) (k_HQ D cs ad ao 0 σ (vp_updL ov 0 (k_b2l r))) 0 0 (k_HA ad ao) := by
  refine k_ofW (cc := cL_product) (maxL := 4) (ret := some .int) (hh := [(0, 16, 19, 21)]) (by decide) rfl (Nat.le_of_ble_eq_true rfl) ?_
  intro p e s m args below meth c ls hcf hr hlk htab h1 hl
  obtain ⟨h0, hX⟩ := h1
  have hx := hcf.1
  have hb := hcf.2.1
  have htk := hcf.2.2.2.2
  have hown := hcf.2.2.2.1
  have hK := h0.1.2.1
  have hZ := h0.2.2.2.1
  replace hl : lv_has ls 4 [(0, .ref (ad 0)), (1, .int p1), (2, .ref ao)] := hl
  refine lv_aload_n hx hb dL_product_0 rfl (lv_at hl 2 rfl) ?_
  refine lv_iconst (v := 0) hx hb dL_product_1 rfl ?_
  refine lv_aload_n hx hb dL_product_2 rfl (lv_at hl 0 rfl) ?_
  refine lv_iload_n hx hb dL_product_3 rfl (lv_at hl 1 rfl) ?_
  have hw : k_H D (wK cs ad) (k_A 41 ad) σ s.heap s.heap [] := k_HPw h0
  refine k_callP (va_runV (As := [.int p1]) (rest := [.int 0, .ref ao]) hcf (mX5_product l D cs ad N σ p1 r hf) (kcX5_product htk (kw_612 htk) ⟨Nat.le_of_ble_eq_true rfl, Nat.le_of_ble_eq_true rfl⟩) ⟨k_blind, va_recv (ci := 5) (q0 := 0) hK hw.1 rfl rfl, k_pre hK hZ hw⟩ rfl rfl hl.1 rfl (lv_room (Nat.le_of_ble_eq_true rfl)) dL_product_4 ⟨Nat.zero_le _, Nat.zero_le _⟩) ?_
  refine lv_if_eq (tgt := 14) hx hb dL_product_7 (by decide) (fun c1 => ?_) (fun c1 => ?_)
  · rw [show k_b2l r = 0 from if_pos c1]
    refine lv_lconst (v := 0) hx hb dL_product_14 rfl ?_
    refine k_hstore hcf h0 hw dL_product_15 (fun H locs hP hD hPo hS => ?_)
    refine lv_goto (tgt := 22) hx hb dL_product_16 (by decide) ?_
    refine lv_iconst (v := 0) hx hb dL_product_22 rfl ?_
    exact k_hret hcf hr hlk h0 hP hD hPo hS dL_product_23
  · rw [show k_b2l r = 1 from if_neg c1]
    refine lv_lconst (v := 1) hx hb dL_product_10 rfl ?_
    refine lv_goto (tgt := 15) hx hb dL_product_11 (by decide) ?_
    refine k_hstore hcf h0 hw dL_product_15 (fun H locs hP hD hPo hS => ?_)
    refine lv_goto (tgt := 22) hx hb dL_product_16 (by decide) ?_
    refine lv_iconst (v := 0) hx hb dL_product_22 rfl ?_
    exact k_hret hcf hr hlk h0 hP hD hPo hS dL_product_23
set_option maxRecDepth 100000 in
set_option maxHeartbeats 4000000 in
theorem gL_product_2 (l : Launch) (hfl : l.flags = flags0) (D : va_G) (cs : Nat → ClassId) (ad : Nat → Nat) (ao : Nat) (N : Nat) (σ : vS) (ov : Nat → Int64) (p1 : Int32) (hf : fX5_product N σ p1 = some (.inr 2)) : Met l yL_product wsL_product rtL_product (va_Pc [.ref (ad 0), .int p1, .ref ao] (fun U => k_HP D cs ad ao σ ov U ∧ k_X U)) (k_HT 1) 1 6 (fun _ => False) := by
  refine k_ofW (cc := cL_product) (maxL := 4) (ret := some .int) (hh := [(0, 16, 19, 21)]) (by decide) rfl (Nat.le_of_ble_eq_true rfl) ?_
  intro p e s m args below meth c ls hcf hr hlk htab h1 hl
  obtain ⟨h0, hX⟩ := h1
  have hx := hcf.1
  have hb := hcf.2.1
  have htk := hcf.2.2.2.2
  have hown := hcf.2.2.2.1
  have hK := h0.1.2.1
  have hZ := h0.2.2.2.1
  replace hl : lv_has ls 4 [(0, .ref (ad 0)), (1, .int p1), (2, .ref ao)] := hl
  refine lv_aload_n hx hb dL_product_0 rfl (lv_at hl 2 rfl) ?_
  refine lv_iconst (v := 0) hx hb dL_product_1 rfl ?_
  refine lv_aload_n hx hb dL_product_2 rfl (lv_at hl 0 rfl) ?_
  refine lv_iload_n hx hb dL_product_3 rfl (lv_at hl 1 rfl) ?_
  refine k_callT (n := 1) (As := [.int p1]) (rest := [.int 0, .ref ao]) (C := RX5) hcf (tX5_product l hfl D cs ad N σ p1 2 hf) kc_615 (kw_52 htk) (kw_612 htk) (kw_613 htk) (kw_614 htk) ⟨by decide, by decide, by decide +kernel⟩ rfl ⟨Nat.le_of_ble_eq_true rfl, Nat.le_of_ble_eq_true rfl⟩ (Nat.le_of_ble_eq_true rfl) (Nat.le_of_ble_eq_true rfl) (va_recv (ci := 5) (q0 := 0) hK h0.1.1 rfl rfl) (k_hpre h0) hl.1 (Nat.le_of_ble_eq_true rfl) dL_product_4 [] ⟨0, 16, 19, 21⟩ [] htab rfl (by decide) (kw_572 htk) (va_Nw.use rfl (kn_13 hZ)) (fun _ _ _ z hz => by cases hz) (fun a H1 hz hq => ?_)
  refine W.widen (k := 1) (n := 6) (Nat.le_of_ble_eq_true rfl) (Nat.le_of_ble_eq_true rfl) ?_
  refine lv_astore_n hx hb dL_product_19 rfl hl (Nat.le_of_ble_eq_true rfl) rfl (fun ls (hl : lv_has ls 4 [(3, .ref a), (0, .ref (ad 0)), (1, .int p1), (2, .ref ao)]) => ?_)
  refine lv_iconst (v := 1) hx hb dL_product_20 rfl ?_
  exact k_hthr hcf hr hlk hz hq dL_product_21
abbrev rmL_free : Room := { frames := 7, cells := 0, slots := 0, locals := 141 }
abbrev rtL_free : Room := { frames := 7, cells := 1, slots := 6, locals := 141 }
abbrev wsL_free : List Cond := .codeWith yL_free cL_free 4 (some .int) [(0, 16, 19, 21)] :: kws
set_option maxRecDepth 100000 in
set_option maxHeartbeats 4000000 in
theorem hL_free (l : Launch) (D : va_G) (cs : Nat → ClassId) (ad : Nat → Nat) (ao : Nat) (N : Nat) (σ : vS) (ov : Nat → Int64) (p1 : Int32) (r : Int32) (hf : fX5_free N σ p1 = some (.inl r)) : Met l yL_free wsL_free rmL_free (va_Pc [.ref (ad 0), .int p1, .ref ao] (fun U => k_HP D cs ad ao σ ov U ∧ k_X U)) (k_HQ D cs ad ao 0 σ (vp_updL ov 0 (k_b2l r))) 0 0 (k_HA ad ao) := by
  refine k_ofW (cc := cL_free) (maxL := 4) (ret := some .int) (hh := [(0, 16, 19, 21)]) (by decide) rfl (Nat.le_of_ble_eq_true rfl) ?_
  intro p e s m args below meth c ls hcf hr hlk htab h1 hl
  obtain ⟨h0, hX⟩ := h1
  have hx := hcf.1
  have hb := hcf.2.1
  have htk := hcf.2.2.2.2
  have hown := hcf.2.2.2.1
  have hK := h0.1.2.1
  have hZ := h0.2.2.2.1
  replace hl : lv_has ls 4 [(0, .ref (ad 0)), (1, .int p1), (2, .ref ao)] := hl
  refine lv_aload_n hx hb dL_free_0 rfl (lv_at hl 2 rfl) ?_
  refine lv_iconst (v := 0) hx hb dL_free_1 rfl ?_
  refine lv_aload_n hx hb dL_free_2 rfl (lv_at hl 0 rfl) ?_
  refine lv_iload_n hx hb dL_free_3 rfl (lv_at hl 1 rfl) ?_
  have hw : k_H D (wK cs ad) (k_A 41 ad) σ s.heap s.heap [] := k_HPw h0
  refine k_callP (va_runV (As := [.int p1]) (rest := [.int 0, .ref ao]) hcf (mX5_free l D cs ad N σ p1 r hf) (kcX5_free htk (kw_620 htk) ⟨Nat.le_of_ble_eq_true rfl, Nat.le_of_ble_eq_true rfl⟩) ⟨k_blind, va_recv (ci := 5) (q0 := 0) hK hw.1 rfl rfl, k_pre hK hZ hw⟩ rfl rfl hl.1 rfl (lv_room (Nat.le_of_ble_eq_true rfl)) dL_free_4 ⟨Nat.zero_le _, Nat.zero_le _⟩) ?_
  refine lv_if_eq (tgt := 14) hx hb dL_free_7 (by decide) (fun c1 => ?_) (fun c1 => ?_)
  · rw [show k_b2l r = 0 from if_pos c1]
    refine lv_lconst (v := 0) hx hb dL_free_14 rfl ?_
    refine k_hstore hcf h0 hw dL_free_15 (fun H locs hP hD hPo hS => ?_)
    refine lv_goto (tgt := 22) hx hb dL_free_16 (by decide) ?_
    refine lv_iconst (v := 0) hx hb dL_free_22 rfl ?_
    exact k_hret hcf hr hlk h0 hP hD hPo hS dL_free_23
  · rw [show k_b2l r = 1 from if_neg c1]
    refine lv_lconst (v := 1) hx hb dL_free_10 rfl ?_
    refine lv_goto (tgt := 15) hx hb dL_free_11 (by decide) ?_
    refine k_hstore hcf h0 hw dL_free_15 (fun H locs hP hD hPo hS => ?_)
    refine lv_goto (tgt := 22) hx hb dL_free_16 (by decide) ?_
    refine lv_iconst (v := 0) hx hb dL_free_22 rfl ?_
    exact k_hret hcf hr hlk h0 hP hD hPo hS dL_free_23
set_option maxRecDepth 100000 in
set_option maxHeartbeats 4000000 in
theorem gL_free_2 (l : Launch) (hfl : l.flags = flags0) (D : va_G) (cs : Nat → ClassId) (ad : Nat → Nat) (ao : Nat) (N : Nat) (σ : vS) (ov : Nat → Int64) (p1 : Int32) (hf : fX5_free N σ p1 = some (.inr 2)) : Met l yL_free wsL_free rtL_free (va_Pc [.ref (ad 0), .int p1, .ref ao] (fun U => k_HP D cs ad ao σ ov U ∧ k_X U)) (k_HT 1) 1 6 (fun _ => False) := by
  refine k_ofW (cc := cL_free) (maxL := 4) (ret := some .int) (hh := [(0, 16, 19, 21)]) (by decide) rfl (Nat.le_of_ble_eq_true rfl) ?_
  intro p e s m args below meth c ls hcf hr hlk htab h1 hl
  obtain ⟨h0, hX⟩ := h1
  have hx := hcf.1
  have hb := hcf.2.1
  have htk := hcf.2.2.2.2
  have hown := hcf.2.2.2.1
  have hK := h0.1.2.1
  have hZ := h0.2.2.2.1
  replace hl : lv_has ls 4 [(0, .ref (ad 0)), (1, .int p1), (2, .ref ao)] := hl
  refine lv_aload_n hx hb dL_free_0 rfl (lv_at hl 2 rfl) ?_
  refine lv_iconst (v := 0) hx hb dL_free_1 rfl ?_
  refine lv_aload_n hx hb dL_free_2 rfl (lv_at hl 0 rfl) ?_
  refine lv_iload_n hx hb dL_free_3 rfl (lv_at hl 1 rfl) ?_
  refine k_callT (n := 1) (As := [.int p1]) (rest := [.int 0, .ref ao]) (C := RX5) hcf (tX5_free l hfl D cs ad N σ p1 2 hf) kc_623 (kw_52 htk) (kw_620 htk) (kw_621 htk) (kw_622 htk) ⟨by decide, by decide, by decide +kernel⟩ rfl ⟨Nat.le_of_ble_eq_true rfl, Nat.le_of_ble_eq_true rfl⟩ (Nat.le_of_ble_eq_true rfl) (Nat.le_of_ble_eq_true rfl) (va_recv (ci := 5) (q0 := 0) hK h0.1.1 rfl rfl) (k_hpre h0) hl.1 (Nat.le_of_ble_eq_true rfl) dL_free_4 [] ⟨0, 16, 19, 21⟩ [] htab rfl (by decide) (kw_572 htk) (va_Nw.use rfl (kn_13 hZ)) (fun _ _ _ z hz => by cases hz) (fun a H1 hz hq => ?_)
  refine W.widen (k := 1) (n := 6) (Nat.le_of_ble_eq_true rfl) (Nat.le_of_ble_eq_true rfl) ?_
  refine lv_astore_n hx hb dL_free_19 rfl hl (Nat.le_of_ble_eq_true rfl) rfl (fun ls (hl : lv_has ls 4 [(3, .ref a), (0, .ref (ad 0)), (1, .int p1), (2, .ref ao)]) => ?_)
  refine lv_iconst (v := 1) hx hb dL_free_20 rfl ?_
  exact k_hthr hcf hr hlk hz hq dL_free_21
abbrev rmL_number : Room := { frames := 7, cells := 0, slots := 0, locals := 142 }
abbrev rtL_number : Room := { frames := 7, cells := 1, slots := 6, locals := 142 }
abbrev wsL_number : List Cond := .codeWith yL_number cL_number 5 (some .int) [(0, 9, 12, 21)] :: kws
set_option maxRecDepth 100000 in
set_option maxHeartbeats 4000000 in
theorem hL_number (l : Launch) (D : va_G) (cs : Nat → ClassId) (ad : Nat → Nat) (ao : Nat) (N : Nat) (σ : vS) (ov : Nat → Int64) (p1 : Int32) (p2 : Int32) (r : Int64) (hf : fX5_number N σ p1 p2 = some (.inl r)) : Met l yL_number wsL_number rmL_number (va_Pc [.ref (ad 0), .int p1, .int p2, .ref ao] (fun U => k_HP D cs ad ao σ ov U ∧ k_X U)) (k_HQ D cs ad ao 0 σ (vp_updL ov 0 r)) 0 0 (k_HA ad ao) := by
  refine k_ofW (cc := cL_number) (maxL := 5) (ret := some .int) (hh := [(0, 9, 12, 21)]) (by decide) rfl (Nat.le_of_ble_eq_true rfl) ?_
  intro p e s m args below meth c ls hcf hr hlk htab h1 hl
  obtain ⟨h0, hX⟩ := h1
  have hx := hcf.1
  have hb := hcf.2.1
  have htk := hcf.2.2.2.2
  have hown := hcf.2.2.2.1
  have hK := h0.1.2.1
  have hZ := h0.2.2.2.1
  replace hl : lv_has ls 5 [(0, .ref (ad 0)), (1, .int p1), (2, .int p2), (3, .ref ao)] := hl
  refine lv_aload_n hx hb dL_number_0 rfl (lv_at hl 3 rfl) ?_
  refine lv_iconst (v := 0) hx hb dL_number_1 rfl ?_
  refine lv_aload_n hx hb dL_number_2 rfl (lv_at hl 0 rfl) ?_
  refine lv_iload_n hx hb dL_number_3 rfl (lv_at hl 1 rfl) ?_
  refine lv_iload_n hx hb dL_number_4 rfl (lv_at hl 2 rfl) ?_
  have hw : k_H D (wK cs ad) (k_A 41 ad) σ s.heap s.heap [] := k_HPw h0
  refine k_callP (va_runV (As := [.int p1, .int p2]) (rest := [.int 0, .ref ao]) hcf (mX5_number l D cs ad N σ p1 p2 r hf) (kcX5_number htk (kw_627 htk) ⟨Nat.le_of_ble_eq_true rfl, Nat.le_of_ble_eq_true rfl⟩) ⟨k_blind, va_recv (ci := 5) (q0 := 0) hK hw.1 rfl rfl, k_pre hK hZ hw⟩ rfl rfl hl.1 rfl (lv_room (Nat.le_of_ble_eq_true rfl)) dL_number_5 ⟨Nat.zero_le _, Nat.zero_le _⟩) ?_
  refine k_hstore hcf h0 hw dL_number_8 (fun H locs hP hD hPo hS => ?_)
  refine lv_goto (tgt := 16) hx hb dL_number_9 (by decide) ?_
  refine lv_iconst (v := 0) hx hb dL_number_16 rfl ?_
  exact k_hret hcf hr hlk h0 hP hD hPo hS dL_number_17
set_option maxRecDepth 100000 in
set_option maxHeartbeats 4000000 in
theorem gL_number_2 (l : Launch) (hfl : l.flags = flags0) (D : va_G) (cs : Nat → ClassId) (ad : Nat → Nat) (ao : Nat) (N : Nat) (σ : vS) (ov : Nat → Int64) (p1 : Int32) (p2 : Int32) (hf : fX5_number N σ p1 p2 = some (.inr 2)) : Met l yL_number wsL_number rtL_number (va_Pc [.ref (ad 0), .int p1, .int p2, .ref ao] (fun U => k_HP D cs ad ao σ ov U ∧ k_X U)) (k_HT 1) 1 6 (fun _ => False) := by
  refine k_ofW (cc := cL_number) (maxL := 5) (ret := some .int) (hh := [(0, 9, 12, 21)]) (by decide) rfl (Nat.le_of_ble_eq_true rfl) ?_
  intro p e s m args below meth c ls hcf hr hlk htab h1 hl
  obtain ⟨h0, hX⟩ := h1
  have hx := hcf.1
  have hb := hcf.2.1
  have htk := hcf.2.2.2.2
  have hown := hcf.2.2.2.1
  have hK := h0.1.2.1
  have hZ := h0.2.2.2.1
  replace hl : lv_has ls 5 [(0, .ref (ad 0)), (1, .int p1), (2, .int p2), (3, .ref ao)] := hl
  refine lv_aload_n hx hb dL_number_0 rfl (lv_at hl 3 rfl) ?_
  refine lv_iconst (v := 0) hx hb dL_number_1 rfl ?_
  refine lv_aload_n hx hb dL_number_2 rfl (lv_at hl 0 rfl) ?_
  refine lv_iload_n hx hb dL_number_3 rfl (lv_at hl 1 rfl) ?_
  refine lv_iload_n hx hb dL_number_4 rfl (lv_at hl 2 rfl) ?_
  refine k_callT (n := 2) (As := [.int p1, .int p2]) (rest := [.int 0, .ref ao]) (C := RX5) hcf (tX5_number l hfl D cs ad N σ p1 p2 2 hf) kc_630 (kw_52 htk) (kw_627 htk) (kw_628 htk) (kw_629 htk) ⟨by decide, by decide, by decide +kernel⟩ rfl ⟨Nat.le_of_ble_eq_true rfl, Nat.le_of_ble_eq_true rfl⟩ (Nat.le_of_ble_eq_true rfl) (Nat.le_of_ble_eq_true rfl) (va_recv (ci := 5) (q0 := 0) hK h0.1.1 rfl rfl) (k_hpre h0) hl.1 (Nat.le_of_ble_eq_true rfl) dL_number_5 [] ⟨0, 9, 12, 21⟩ [] htab rfl (by decide) (kw_572 htk) (va_Nw.use rfl (kn_13 hZ)) (fun _ _ _ z hz => by cases hz) (fun a H1 hz hq => ?_)
  refine W.widen (k := 1) (n := 6) (Nat.le_of_ble_eq_true rfl) (Nat.le_of_ble_eq_true rfl) ?_
  refine lv_astore hx hb dL_number_12 hl (Nat.le_of_ble_eq_true rfl) rfl (fun ls (hl : lv_has ls 5 [(4, .ref a), (0, .ref (ad 0)), (1, .int p1), (2, .int p2), (3, .ref ao)]) => ?_)
  refine lv_iconst (v := 1) hx hb dL_number_14 rfl ?_
  exact k_hthr hcf hr hlk hz hq dL_number_15
abbrev rmL_weight : Room := { frames := 7, cells := 0, slots := 0, locals := 145 }
abbrev rtL_weight : Room := { frames := 7, cells := 1, slots := 6, locals := 145 }
abbrev wsL_weight : List Cond := .codeWith yL_weight cL_weight 4 (some .int) [(0, 8, 11, 21), (0, 8, 14, 42)] :: kws
set_option maxRecDepth 100000 in
set_option maxHeartbeats 4000000 in
theorem hL_weight (l : Launch) (D : va_G) (cs : Nat → ClassId) (ad : Nat → Nat) (ao : Nat) (N : Nat) (σ : vS) (ov : Nat → Int64) (p1 : Int32) (r : Int64) (hf : fX5_weight N σ p1 = some (.inl r)) : Met l yL_weight wsL_weight rmL_weight (va_Pc [.ref (ad 0), .int p1, .ref ao] (fun U => k_HP D cs ad ao σ ov U ∧ k_X U)) (k_HQ D cs ad ao 0 σ (vp_updL ov 0 r)) 0 0 (k_HA ad ao) := by
  refine k_ofW (cc := cL_weight) (maxL := 4) (ret := some .int) (hh := [(0, 8, 11, 21), (0, 8, 14, 42)]) (by decide) rfl (Nat.le_of_ble_eq_true rfl) ?_
  intro p e s m args below meth c ls hcf hr hlk htab h1 hl
  obtain ⟨h0, hX⟩ := h1
  have hx := hcf.1
  have hb := hcf.2.1
  have htk := hcf.2.2.2.2
  have hown := hcf.2.2.2.1
  have hK := h0.1.2.1
  have hZ := h0.2.2.2.1
  replace hl : lv_has ls 4 [(0, .ref (ad 0)), (1, .int p1), (2, .ref ao)] := hl
  refine lv_aload_n hx hb dL_weight_0 rfl (lv_at hl 2 rfl) ?_
  refine lv_iconst (v := 0) hx hb dL_weight_1 rfl ?_
  refine lv_aload_n hx hb dL_weight_2 rfl (lv_at hl 0 rfl) ?_
  refine lv_iload_n hx hb dL_weight_3 rfl (lv_at hl 1 rfl) ?_
  have hw : k_H D (wK cs ad) (k_A 41 ad) σ s.heap s.heap [] := k_HPw h0
  refine k_callP (va_runV (As := [.int p1]) (rest := [.int 0, .ref ao]) hcf (mX5_weight l D cs ad N σ p1 r hf) (kcX5_weight htk (kw_635 htk) ⟨Nat.le_of_ble_eq_true rfl, Nat.le_of_ble_eq_true rfl⟩) ⟨k_blind, va_recv (ci := 5) (q0 := 0) hK hw.1 rfl rfl, k_pre hK hZ hw⟩ rfl rfl hl.1 rfl (lv_room (Nat.le_of_ble_eq_true rfl)) dL_weight_4 ⟨Nat.zero_le _, Nat.zero_le _⟩) ?_
  refine k_hstore hcf h0 hw dL_weight_7 (fun H locs hP hD hPo hS => ?_)
  refine lv_goto (tgt := 17) hx hb dL_weight_8 (by decide) ?_
  refine lv_iconst (v := 0) hx hb dL_weight_17 rfl ?_
  exact k_hret hcf hr hlk h0 hP hD hPo hS dL_weight_18
set_option maxRecDepth 100000 in
set_option maxHeartbeats 4000000 in
theorem gL_weight_2 (l : Launch) (hfl : l.flags = flags0) (D : va_G) (cs : Nat → ClassId) (ad : Nat → Nat) (ao : Nat) (N : Nat) (σ : vS) (ov : Nat → Int64) (p1 : Int32) (hf : fX5_weight N σ p1 = some (.inr 2)) : Met l yL_weight wsL_weight rtL_weight (va_Pc [.ref (ad 0), .int p1, .ref ao] (fun U => k_HP D cs ad ao σ ov U ∧ k_X U)) (k_HT 1) 1 6 (fun _ => False) := by
  refine k_ofW (cc := cL_weight) (maxL := 4) (ret := some .int) (hh := [(0, 8, 11, 21), (0, 8, 14, 42)]) (by decide) rfl (Nat.le_of_ble_eq_true rfl) ?_
  intro p e s m args below meth c ls hcf hr hlk htab h1 hl
  obtain ⟨h0, hX⟩ := h1
  have hx := hcf.1
  have hb := hcf.2.1
  have htk := hcf.2.2.2.2
  have hown := hcf.2.2.2.1
  have hK := h0.1.2.1
  have hZ := h0.2.2.2.1
  replace hl : lv_has ls 4 [(0, .ref (ad 0)), (1, .int p1), (2, .ref ao)] := hl
  refine lv_aload_n hx hb dL_weight_0 rfl (lv_at hl 2 rfl) ?_
  refine lv_iconst (v := 0) hx hb dL_weight_1 rfl ?_
  refine lv_aload_n hx hb dL_weight_2 rfl (lv_at hl 0 rfl) ?_
  refine lv_iload_n hx hb dL_weight_3 rfl (lv_at hl 1 rfl) ?_
  refine k_callT (n := 1) (As := [.int p1]) (rest := [.int 0, .ref ao]) (C := RX5) hcf (tX5_weight l hfl D cs ad N σ p1 2 hf) kc_638 (kw_52 htk) (kw_635 htk) (kw_636 htk) (kw_637 htk) ⟨by decide, by decide, by decide +kernel⟩ rfl ⟨Nat.le_of_ble_eq_true rfl, Nat.le_of_ble_eq_true rfl⟩ (Nat.le_of_ble_eq_true rfl) (Nat.le_of_ble_eq_true rfl) (va_recv (ci := 5) (q0 := 0) hK h0.1.1 rfl rfl) (k_hpre h0) hl.1 (Nat.le_of_ble_eq_true rfl) dL_weight_4 [] ⟨0, 8, 11, 21⟩ [⟨0, 8, 14, 42⟩] htab rfl (by decide) (kw_572 htk) (va_Nw.use rfl (kn_13 hZ)) (fun _ _ _ z hz => by cases hz) (fun a H1 hz hq => ?_)
  refine W.widen (k := 1) (n := 6) (Nat.le_of_ble_eq_true rfl) (Nat.le_of_ble_eq_true rfl) ?_
  refine lv_astore_n hx hb dL_weight_11 rfl hl (Nat.le_of_ble_eq_true rfl) rfl (fun ls (hl : lv_has ls 4 [(3, .ref a), (0, .ref (ad 0)), (1, .int p1), (2, .ref ao)]) => ?_)
  refine lv_iconst (v := 1) hx hb dL_weight_12 rfl ?_
  exact k_hthr hcf hr hlk hz hq dL_weight_13
set_option maxRecDepth 100000 in
set_option maxHeartbeats 4000000 in
theorem gL_weight_3 (l : Launch) (hfl : l.flags = flags0) (D : va_G) (cs : Nat → ClassId) (ad : Nat → Nat) (ao : Nat) (N : Nat) (σ : vS) (ov : Nat → Int64) (p1 : Int32) (hf : fX5_weight N σ p1 = some (.inr 3)) : Met l yL_weight wsL_weight rtL_weight (va_Pc [.ref (ad 0), .int p1, .ref ao] (fun U => k_HP D cs ad ao σ ov U ∧ k_X U)) (k_HT 2) 1 6 (fun _ => False) := by
  refine k_ofW (cc := cL_weight) (maxL := 4) (ret := some .int) (hh := [(0, 8, 11, 21), (0, 8, 14, 42)]) (by decide) rfl (Nat.le_of_ble_eq_true rfl) ?_
  intro p e s m args below meth c ls hcf hr hlk htab h1 hl
  obtain ⟨h0, hX⟩ := h1
  have hx := hcf.1
  have hb := hcf.2.1
  have htk := hcf.2.2.2.2
  have hown := hcf.2.2.2.1
  have hK := h0.1.2.1
  have hZ := h0.2.2.2.1
  replace hl : lv_has ls 4 [(0, .ref (ad 0)), (1, .int p1), (2, .ref ao)] := hl
  refine lv_aload_n hx hb dL_weight_0 rfl (lv_at hl 2 rfl) ?_
  refine lv_iconst (v := 0) hx hb dL_weight_1 rfl ?_
  refine lv_aload_n hx hb dL_weight_2 rfl (lv_at hl 0 rfl) ?_
  refine lv_iload_n hx hb dL_weight_3 rfl (lv_at hl 1 rfl) ?_
  have hps : e.platform.magicAccessors = ({} : Platform).magicAccessors → ∀ cX : ClassId, s.vm.findClass (kx_n 3) = some cX → ∀ z ∈ ([⟨0, 8, 11, 21⟩] : List ExceptionTableEntry), kh_pass e.platform s m.cls 4 cX z := fun hpl cX hcX z hz => by
    rw [List.mem_singleton.mp hz]
    exact k_passed (x := ⟨0, 8, 11, 21⟩) (cls := kx_n 3) (name := kx_n 2) hown (kw_572 htk) hX.2 rfl (by decide) hpl hcX
  refine k_callT (n := 1) (As := [.int p1]) (rest := [.int 0, .ref ao]) (C := RX5) hcf (tX5_weight l hfl D cs ad N σ p1 3 hf) kc_638 (kw_52 htk) (kw_635 htk) (kw_636 htk) (kw_637 htk) ⟨by decide, by decide, by decide +kernel⟩ rfl ⟨Nat.le_of_ble_eq_true rfl, Nat.le_of_ble_eq_true rfl⟩ (Nat.le_of_ble_eq_true rfl) (Nat.le_of_ble_eq_true rfl) (va_recv (ci := 5) (q0 := 0) hK h0.1.1 rfl rfl) (k_hpre h0) hl.1 (Nat.le_of_ble_eq_true rfl) dL_weight_4 [⟨0, 8, 11, 21⟩] ⟨0, 8, 14, 42⟩ [] htab rfl (by decide) (kw_634 htk) (va_Nw.use rfl (kn_14 hZ)) hps (fun a H1 hz hq => ?_)
  refine W.widen (k := 1) (n := 6) (Nat.le_of_ble_eq_true rfl) (Nat.le_of_ble_eq_true rfl) ?_
  refine lv_astore_n hx hb dL_weight_14 rfl hl (Nat.le_of_ble_eq_true rfl) rfl (fun ls (hl : lv_has ls 4 [(3, .ref a), (0, .ref (ad 0)), (1, .int p1), (2, .ref ao)]) => ?_)
  refine lv_iconst (v := 2) hx hb dL_weight_15 rfl ?_
  exact k_hthr hcf hr hlk hz hq dL_weight_16
abbrev rmL_written : Room := { frames := 7, cells := 0, slots := 0, locals := 141 }
abbrev rtL_written : Room := { frames := 7, cells := 1, slots := 6, locals := 141 }
abbrev wsL_written : List Cond := .codeWith yL_written cL_written 4 (some .int) [(0, 9, 12, 42)] :: kws
set_option maxRecDepth 100000 in
set_option maxHeartbeats 4000000 in
theorem hL_written (l : Launch) (D : va_G) (cs : Nat → ClassId) (ad : Nat → Nat) (ao : Nat) (N : Nat) (σ : vS) (ov : Nat → Int64) (p1 : Int32) (r : Int32) (hf : fX5_written N σ p1 = some (.inl r)) : Met l yL_written wsL_written rmL_written (va_Pc [.ref (ad 0), .int p1, .ref ao] (fun U => k_HP D cs ad ao σ ov U ∧ k_X U)) (k_HQ D cs ad ao 0 σ (vp_updL ov 0 (r).toInt64)) 0 0 (k_HA ad ao) := by
  refine k_ofW (cc := cL_written) (maxL := 4) (ret := some .int) (hh := [(0, 9, 12, 42)]) (by decide) rfl (Nat.le_of_ble_eq_true rfl) ?_
  intro p e s m args below meth c ls hcf hr hlk htab h1 hl
  obtain ⟨h0, hX⟩ := h1
  have hx := hcf.1
  have hb := hcf.2.1
  have htk := hcf.2.2.2.2
  have hown := hcf.2.2.2.1
  have hK := h0.1.2.1
  have hZ := h0.2.2.2.1
  replace hl : lv_has ls 4 [(0, .ref (ad 0)), (1, .int p1), (2, .ref ao)] := hl
  refine lv_aload_n hx hb dL_written_0 rfl (lv_at hl 2 rfl) ?_
  refine lv_iconst (v := 0) hx hb dL_written_1 rfl ?_
  refine lv_aload_n hx hb dL_written_2 rfl (lv_at hl 0 rfl) ?_
  refine lv_iload_n hx hb dL_written_3 rfl (lv_at hl 1 rfl) ?_
  have hw : k_H D (wK cs ad) (k_A 41 ad) σ s.heap s.heap [] := k_HPw h0
  refine k_callP (va_runV (As := [.int p1]) (rest := [.int 0, .ref ao]) hcf (mX5_written l D cs ad N σ p1 r hf) (kcX5_written htk (kw_657 htk) ⟨Nat.le_of_ble_eq_true rfl, Nat.le_of_ble_eq_true rfl⟩) ⟨k_blind, va_recv (ci := 5) (q0 := 0) hK hw.1 rfl rfl, k_pre hK hZ hw⟩ rfl rfl hl.1 rfl (lv_room (Nat.le_of_ble_eq_true rfl)) dL_written_4 ⟨Nat.zero_le _, Nat.zero_le _⟩) ?_
  refine lv_i2l hx hb dL_written_7 rfl ?_
  refine k_hstore hcf h0 hw dL_written_8 (fun H locs hP hD hPo hS => ?_)
  refine lv_goto (tgt := 15) hx hb dL_written_9 (by decide) ?_
  refine lv_iconst (v := 0) hx hb dL_written_15 rfl ?_
  exact k_hret hcf hr hlk h0 hP hD hPo hS dL_written_16
set_option maxRecDepth 100000 in
set_option maxHeartbeats 4000000 in
theorem gL_written_3 (l : Launch) (hfl : l.flags = flags0) (D : va_G) (cs : Nat → ClassId) (ad : Nat → Nat) (ao : Nat) (N : Nat) (σ : vS) (ov : Nat → Int64) (p1 : Int32) (hf : fX5_written N σ p1 = some (.inr 3)) : Met l yL_written wsL_written rtL_written (va_Pc [.ref (ad 0), .int p1, .ref ao] (fun U => k_HP D cs ad ao σ ov U ∧ k_X U)) (k_HT 1) 1 6 (fun _ => False) := by
  refine k_ofW (cc := cL_written) (maxL := 4) (ret := some .int) (hh := [(0, 9, 12, 42)]) (by decide) rfl (Nat.le_of_ble_eq_true rfl) ?_
  intro p e s m args below meth c ls hcf hr hlk htab h1 hl
  obtain ⟨h0, hX⟩ := h1
  have hx := hcf.1
  have hb := hcf.2.1
  have htk := hcf.2.2.2.2
  have hown := hcf.2.2.2.1
  have hK := h0.1.2.1
  have hZ := h0.2.2.2.1
  replace hl : lv_has ls 4 [(0, .ref (ad 0)), (1, .int p1), (2, .ref ao)] := hl
  refine lv_aload_n hx hb dL_written_0 rfl (lv_at hl 2 rfl) ?_
  refine lv_iconst (v := 0) hx hb dL_written_1 rfl ?_
  refine lv_aload_n hx hb dL_written_2 rfl (lv_at hl 0 rfl) ?_
  refine lv_iload_n hx hb dL_written_3 rfl (lv_at hl 1 rfl) ?_
  refine k_callT (n := 1) (As := [.int p1]) (rest := [.int 0, .ref ao]) (C := RX5) hcf (tX5_written l hfl D cs ad N σ p1 3 hf) kc_660 (kw_52 htk) (kw_657 htk) (kw_658 htk) (kw_659 htk) ⟨by decide, by decide, by decide +kernel⟩ rfl ⟨Nat.le_of_ble_eq_true rfl, Nat.le_of_ble_eq_true rfl⟩ (Nat.le_of_ble_eq_true rfl) (Nat.le_of_ble_eq_true rfl) (va_recv (ci := 5) (q0 := 0) hK h0.1.1 rfl rfl) (k_hpre h0) hl.1 (Nat.le_of_ble_eq_true rfl) dL_written_4 [] ⟨0, 9, 12, 42⟩ [] htab rfl (by decide) (kw_634 htk) (va_Nw.use rfl (kn_14 hZ)) (fun _ _ _ z hz => by cases hz) (fun a H1 hz hq => ?_)
  refine W.widen (k := 1) (n := 6) (Nat.le_of_ble_eq_true rfl) (Nat.le_of_ble_eq_true rfl) ?_
  refine lv_astore_n hx hb dL_written_12 rfl hl (Nat.le_of_ble_eq_true rfl) rfl (fun ls (hl : lv_has ls 4 [(3, .ref a), (0, .ref (ad 0)), (1, .int p1), (2, .ref ao)]) => ?_)
  refine lv_iconst (v := 1) hx hb dL_written_13 rfl ?_
  exact k_hthr hcf hr hlk hz hq dL_written_14
abbrev rmL_solves : Room := { frames := 7, cells := 0, slots := 0, locals := 149 }
abbrev rtL_solves : Room := { frames := 7, cells := 1, slots := 6, locals := 149 }
abbrev wsL_solves : List Cond := .codeWith yL_solves cL_solves 8 (some .int) [(0, 23, 26, 42)] :: kws
set_option maxRecDepth 100000 in
set_option maxHeartbeats 4000000 in
theorem hL_solves (l : Launch) (D : va_G) (cs : Nat → ClassId) (ad : Nat → Nat) (ao : Nat) (N : Nat) (σ : vS) (ov : Nat → Int64) (p1 : Int32) (p2 : Int32) (p3 : Int32) (p4 : Int32) (p5 : Int32) (r : Int32) (hf : fX5_solves N σ p1 p2 p3 p4 p5 = some (.inl r)) : Met l yL_solves wsL_solves rmL_solves (va_Pc [.ref (ad 0), .int p1, .int p2, .int p3, .int p4, .int p5, .ref ao] (fun U => k_HP D cs ad ao σ ov U ∧ k_X U)) (k_HQ D cs ad ao 0 σ (vp_updL ov 0 (k_b2l r))) 0 0 (k_HA ad ao) := by
  refine k_ofW (cc := cL_solves) (maxL := 8) (ret := some .int) (hh := [(0, 23, 26, 42)]) (by decide) rfl (Nat.le_of_ble_eq_true rfl) ?_
  intro p e s m args below meth c ls hcf hr hlk htab h1 hl
  obtain ⟨h0, hX⟩ := h1
  have hx := hcf.1
  have hb := hcf.2.1
  have htk := hcf.2.2.2.2
  have hown := hcf.2.2.2.1
  have hK := h0.1.2.1
  have hZ := h0.2.2.2.1
  replace hl : lv_has ls 8 [(0, .ref (ad 0)), (1, .int p1), (2, .int p2), (3, .int p3), (4, .int p4), (5, .int p5), (6, .ref ao)] := hl
  refine lv_aload hx hb dL_solves_0 (lv_at hl 6 rfl) ?_
  refine lv_iconst (v := 0) hx hb dL_solves_2 rfl ?_
  refine lv_aload_n hx hb dL_solves_3 rfl (lv_at hl 0 rfl) ?_
  refine lv_iload_n hx hb dL_solves_4 rfl (lv_at hl 1 rfl) ?_
  refine lv_iload_n hx hb dL_solves_5 rfl (lv_at hl 2 rfl) ?_
  refine lv_iload_n hx hb dL_solves_6 rfl (lv_at hl 3 rfl) ?_
  refine lv_iload hx hb dL_solves_7 (lv_at hl 4 rfl) ?_
  refine lv_iload hx hb dL_solves_9 (lv_at hl 5 rfl) ?_
  have hw : k_H D (wK cs ad) (k_A 41 ad) σ s.heap s.heap [] := k_HPw h0
  refine k_callP (va_runV (As := [.int p1, .int p2, .int p3, .int p4, .int p5]) (rest := [.int 0, .ref ao]) hcf (mX5_solves l D cs ad N σ p1 p2 p3 p4 p5 r hf) (kcX5_solves htk (kw_668 htk) ⟨Nat.le_of_ble_eq_true rfl, Nat.le_of_ble_eq_true rfl⟩) ⟨k_blind, va_recv (ci := 5) (q0 := 0) hK hw.1 rfl rfl, k_pre hK hZ hw⟩ rfl rfl hl.1 rfl (lv_room (Nat.le_of_ble_eq_true rfl)) dL_solves_11 ⟨Nat.zero_le _, Nat.zero_le _⟩) ?_
  refine lv_if_eq (tgt := 21) hx hb dL_solves_14 (by decide) (fun c1 => ?_) (fun c1 => ?_)
  · rw [show k_b2l r = 0 from if_pos c1]
    refine lv_lconst (v := 0) hx hb dL_solves_21 rfl ?_
    refine k_hstore hcf h0 hw dL_solves_22 (fun H locs hP hD hPo hS => ?_)
    refine lv_goto (tgt := 30) hx hb dL_solves_23 (by decide) ?_
    refine lv_iconst (v := 0) hx hb dL_solves_30 rfl ?_
    exact k_hret hcf hr hlk h0 hP hD hPo hS dL_solves_31
  · rw [show k_b2l r = 1 from if_neg c1]
    refine lv_lconst (v := 1) hx hb dL_solves_17 rfl ?_
    refine lv_goto (tgt := 22) hx hb dL_solves_18 (by decide) ?_
    refine k_hstore hcf h0 hw dL_solves_22 (fun H locs hP hD hPo hS => ?_)
    refine lv_goto (tgt := 30) hx hb dL_solves_23 (by decide) ?_
    refine lv_iconst (v := 0) hx hb dL_solves_30 rfl ?_
    exact k_hret hcf hr hlk h0 hP hD hPo hS dL_solves_31
set_option maxRecDepth 100000 in
set_option maxHeartbeats 4000000 in
theorem gL_solves_3 (l : Launch) (hfl : l.flags = flags0) (D : va_G) (cs : Nat → ClassId) (ad : Nat → Nat) (ao : Nat) (N : Nat) (σ : vS) (ov : Nat → Int64) (p1 : Int32) (p2 : Int32) (p3 : Int32) (p4 : Int32) (p5 : Int32) (hf : fX5_solves N σ p1 p2 p3 p4 p5 = some (.inr 3)) : Met l yL_solves wsL_solves rtL_solves (va_Pc [.ref (ad 0), .int p1, .int p2, .int p3, .int p4, .int p5, .ref ao] (fun U => k_HP D cs ad ao σ ov U ∧ k_X U)) (k_HT 1) 1 6 (fun _ => False) := by
  refine k_ofW (cc := cL_solves) (maxL := 8) (ret := some .int) (hh := [(0, 23, 26, 42)]) (by decide) rfl (Nat.le_of_ble_eq_true rfl) ?_
  intro p e s m args below meth c ls hcf hr hlk htab h1 hl
  obtain ⟨h0, hX⟩ := h1
  have hx := hcf.1
  have hb := hcf.2.1
  have htk := hcf.2.2.2.2
  have hown := hcf.2.2.2.1
  have hK := h0.1.2.1
  have hZ := h0.2.2.2.1
  replace hl : lv_has ls 8 [(0, .ref (ad 0)), (1, .int p1), (2, .int p2), (3, .int p3), (4, .int p4), (5, .int p5), (6, .ref ao)] := hl
  refine lv_aload hx hb dL_solves_0 (lv_at hl 6 rfl) ?_
  refine lv_iconst (v := 0) hx hb dL_solves_2 rfl ?_
  refine lv_aload_n hx hb dL_solves_3 rfl (lv_at hl 0 rfl) ?_
  refine lv_iload_n hx hb dL_solves_4 rfl (lv_at hl 1 rfl) ?_
  refine lv_iload_n hx hb dL_solves_5 rfl (lv_at hl 2 rfl) ?_
  refine lv_iload_n hx hb dL_solves_6 rfl (lv_at hl 3 rfl) ?_
  refine lv_iload hx hb dL_solves_7 (lv_at hl 4 rfl) ?_
  refine lv_iload hx hb dL_solves_9 (lv_at hl 5 rfl) ?_
  refine k_callT (n := 5) (As := [.int p1, .int p2, .int p3, .int p4, .int p5]) (rest := [.int 0, .ref ao]) (C := RX5) hcf (tX5_solves l hfl D cs ad N σ p1 p2 p3 p4 p5 3 hf) kc_671 (kw_52 htk) (kw_668 htk) (kw_669 htk) (kw_670 htk) ⟨by decide, by decide, by decide +kernel⟩ rfl ⟨Nat.le_of_ble_eq_true rfl, Nat.le_of_ble_eq_true rfl⟩ (Nat.le_of_ble_eq_true rfl) (Nat.le_of_ble_eq_true rfl) (va_recv (ci := 5) (q0 := 0) hK h0.1.1 rfl rfl) (k_hpre h0) hl.1 (Nat.le_of_ble_eq_true rfl) dL_solves_11 [] ⟨0, 23, 26, 42⟩ [] htab rfl (by decide) (kw_634 htk) (va_Nw.use rfl (kn_14 hZ)) (fun _ _ _ z hz => by cases hz) (fun a H1 hz hq => ?_)
  refine W.widen (k := 1) (n := 6) (Nat.le_of_ble_eq_true rfl) (Nat.le_of_ble_eq_true rfl) ?_
  refine lv_astore hx hb dL_solves_26 hl (Nat.le_of_ble_eq_true rfl) rfl (fun ls (hl : lv_has ls 8 [(7, .ref a), (0, .ref (ad 0)), (1, .int p1), (2, .int p2), (3, .int p3), (4, .int p4), (5, .int p5), (6, .ref ao)]) => ?_)
  refine lv_iconst (v := 1) hx hb dL_solves_28 rfl ?_
  exact k_hthr hcf hr hlk hz hq dL_solves_29
