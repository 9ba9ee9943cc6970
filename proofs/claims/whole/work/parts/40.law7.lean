/-! The law's start: the classes, the array classes, what the tables and the Statement say. -/
theorem kv_i5 {args : Array Value} {s : State} (h : ∀ w ∈ kws, w.before args s = true) : (Cond.instantiable RX5 3).before args s = true := h _ (k_in (by decide +kernel) (by decide +kernel))
theorem kv_i6 {args : Array Value} {s : State} (h : ∀ w ∈ kws, w.before args s = true) : (Cond.instantiable RX6 31).before args s = true := h _ (k_in (by decide +kernel) (by decide +kernel))
theorem kv_l5 {args : Array Value} {s : State} (h : ∀ w ∈ kws, w.before args s = true) : (Cond.classLink RL 8 RX5).before args s = true := h _ (k_in (by decide +kernel) (by decide +kernel))
theorem kv_l6 {args : Array Value} {s : State} (h : ∀ w ∈ kws, w.before args s = true) : (Cond.classLink RL 52 RX6).before args s = true := h _ (k_in (by decide +kernel) (by decide +kernel))
theorem kv_m5 {args : Array Value} {s : State} (h : ∀ w ∈ kws, w.before args s = true) : (Cond.methodLink RL 51 yX5_init).before args s = true := h _ (k_in (by decide +kernel) (by decide +kernel))
theorem kv_m6 {args : Array Value} {s : State} (h : ∀ w ∈ kws, w.before args s = true) : (Cond.methodLink RL 54 yX6_init).before args s = true := h _ (k_in (by decide +kernel) (by decide +kernel))
theorem kv_n5 {args : Array Value} {s : State} (h : ∀ w ∈ kws, w.before args s = true) : (Cond.instanceMethod yX5_init).before args s = true := h _ (k_in (by decide +kernel) (by decide +kernel))
theorem kv_n6 {args : Array Value} {s : State} (h : ∀ w ∈ kws, w.before args s = true) : (Cond.instanceMethod yX6_init).before args s = true := h _ (k_in (by decide +kernel) (by decide +kernel))
theorem kv_z5 {args : Array Value} {s : State} (h : ∀ w ∈ kws, w.before args s = true) : (Cond.initialized RX5).before args s = true := h _ (k_in (by decide +kernel) (by decide +kernel))
theorem kv_z6 {args : Array Value} {s : State} (h : ∀ w ∈ kws, w.before args s = true) : (Cond.initialized RX6).before args s = true := h _ (k_in (by decide +kernel) (by decide +kernel))
theorem kv_c5 : Cond.code yX5_init cX5_init 1 none ∈ kws := k_in (by decide +kernel) (by decide +kernel)
theorem kv_c6 : Cond.code yX6_init cX6_init 1 none ∈ kws := k_in (by decide +kernel) (by decide +kernel)
theorem kv_nest : ∀ w ∈ k_nest, w ∈ lw_tbl ∧ w.onTables = true := by decide +kernel
theorem kv_o4 : Cond.arrayOver (.array .int) ∈ lw_tbl := by decide +kernel
theorem kv_o5 : Cond.arrayOver (.array .long) ∈ lw_tbl := by decide +kernel
theorem kv_s1 : Cond.laysStatic Bundle.tN "UNASSIGNED_STACK" Bundle.steD ∈ lw_tbl := by decide +kernel
theorem kv_s2 : Cond.laysStatic Bundle.tN "SUPPRESSED_SENTINEL" Bundle.listD ∈ lw_tbl := by decide +kernel
theorem kv_arr {s : State} {args : Array Value} {ty : FieldType} (h : (Cond.arrayClass ty).before args s = true) (hobj : ∀ C, ty ≠ .object C) : ∃ (c : ClassId) (k : Class) (cp : ClassId), s.vm.classes[c]? = some k ∧ k.kind = .array cp ty ∧ s.vm.findClass ("[" ++ ty.toString) = some c ∧ ArrOfT s c ty ∧ va_RA s c ty := by
  obtain ⟨c, k, cp, h1, h2, h3⟩ := Cond.arrayClass_spec h
  refine ⟨c, k, cp, h2, h3, h1, fun n z => ⟨fun k h => (by cases h), k, h2, cp, h3⟩, ?_⟩
  cases ty with
  | object C => exact absurd rfl (hobj C)
  | _ => exact h1
theorem kv_env {b : Nat} {s : State} (hts : ∀ w ∈ lw_tbl, w.before #[Value.ref b] s = true) (hgv : (Cond.and given_1 narrow_1).before #[Value.ref b] s = true) : ∃ (D : va_G) (cs : Nat → ClassId), k_EN D cs s ∧ k_G cs s := by
  have htk : ∀ w ∈ kws, w.before #[Value.ref b] s = true := fun w h => hts w (List.mem_filter.mp h).1
  obtain ⟨c0, i0, h0⟩ := u_known htk hinX0 (kw_184 htk)
  obtain ⟨c1, i1, h1⟩ := u_known htk hinX1 (kw_103 htk)
  obtain ⟨c2, i2, h2⟩ := u_known htk hinX2 (kw_227 htk)
  obtain ⟨c3, i3, h3⟩ := u_known htk hinX3 (kw_77 htk)
  obtain ⟨c4, i4, h4⟩ := u_known htk hinX4 (kw_83 htk)
  obtain ⟨c5, i5, h5⟩ := u_known htk hinX5 (kv_i5 htk)
  obtain ⟨c6, i6, h6⟩ := u_known htk hinX6 (kv_i6 htk)
  obtain ⟨a0, k0, p0, -, -, n0, e0, r0⟩ := kv_arr (kw_147 htk) (fun C h => by cases h)
  obtain ⟨a1, k1, p1, -, -, n1, e1, r1⟩ := kv_arr (kw_101 htk) (fun C h => by cases h)
  obtain ⟨a2, k2, p2, -, -, n2, e2, r2⟩ := kv_arr (kw_225 htk) (fun C h => by cases h)
  obtain ⟨a3, k3, p3, -, -, n3, e3, r3⟩ := kv_arr (kw_182 htk) (fun C h => by cases h)
  obtain ⟨p4, a4, k4, q4, -, m4, d4, n4⟩ := arrayOverA_spec (hts _ kv_o4)
  obtain ⟨p5, a5, k5, q5, -, m5, d5, n5⟩ := arrayOverA_spec (hts _ kv_o5)
  have x4 : p4 = a0 := Option.some.inj (q4.symm.trans n0)
  have x5 : p5 = a3 := Option.some.inj (q5.symm.trans n3)
  subst x4; subst x5
  have hs := flat_of_before _ hgv
  refine ⟨(fun k => match k with | 0 => c0 | 1 => c1 | 2 => c2 | 3 => c3 | 4 => c4 | 5 => c5 | _ => c6, fun k => match k with | 0 => i0 | 1 => i1 | 2 => i2 | 3 => i3 | 4 => i4 | 5 => i5 | _ => i6), fun k => match k with | 0 => p4 | 1 => a1 | 2 => a2 | 3 => p5 | 4 => a4 | _ => a5, ⟨⟨fun c q hq => ?_, fun k q hk => ?_⟩, ?_, ⟨?_, ?_⟩, ⟨?_, ?_⟩⟩, ⟨k5, m5, d5⟩, k4, m4, d4⟩
  · have hc : c < 7 := (List.getElem?_eq_some_iff.mp hq).1
    rcases (show c = 0 ∨ c = 1 ∨ c = 2 ∨ c = 3 ∨ c = 4 ∨ c = 5 ∨ c = 6 by omega) with rfl | rfl | rfl | rfl | rfl | rfl | rfl <;> cases hq <;> assumption
  · have hc : k < 6 := (List.getElem?_eq_some_iff.mp hk).1
    rcases (show k = 0 ∨ k = 1 ∨ k = 2 ∨ k = 3 ∨ k = 4 ∨ k = 5 by omega) with rfl | rfl | rfl | rfl | rfl | rfl <;> cases hk
    · exact ⟨e0, r0⟩
    · exact ⟨e1, r1⟩
    · exact ⟨e2, r2⟩
    · exact ⟨e3, r3⟩
    · exact ⟨fun n z => ⟨fun k h => (by cases h), k4, m4, _, d4⟩, n4⟩
    · exact ⟨fun n z => ⟨fun k h => (by cases h), k5, m5, _, d5⟩, n5⟩
  · exact fun w hw => va_Nw.of (kv_nest w hw).2 (hts w (kv_nest w hw).1)
  · exact k_Zs.of (hts _ kv_s1) (hs _ (by decide +kernel))
  · exact k_Zs.of (hts _ kv_s2) (hs _ (by decide +kernel))
  · exact va_Nc.of (args := #[Value.ref b]) (hs _ (by decide +kernel))
  · exact va_Nc.of (args := #[Value.ref b]) (hs _ (by decide +kernel))
