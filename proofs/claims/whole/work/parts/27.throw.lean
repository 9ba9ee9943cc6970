/-! Throwing: a new exception of the library, made and thrown by a method with no handlers. -/
def kx_n : Nat → String
  | 0 => "java/lang/IllegalArgumentException"
  | 1 => "java/lang/UnsupportedOperationException"
  | 2 => "java/util/NoSuchElementException"
  | _ => "java/lang/IllegalStateException"
def kx_up : List String := ["java/lang/RuntimeException", "java/lang/Exception"]
def k_Zs (n d : String) (U : State) (H : Heap) : Prop := ∃ (c : ClassId) (k : Class) (i : Nat) (f : Field) (a : Addr) (cell : Cell) (v : Value), U.vm.findClass Bundle.tN = some c ∧ U.fieldFound? Bundle.tN n d = some (c, k, i, f) ∧ f.isStatic = true ∧ k.statics = some a ∧ H[a]? = some cell ∧ cell.vm.isStatics = true ∧ cell.cls = c ∧ f.slot < cell.slots.size ∧ k.staticTypes[f.slot]? = some f.type ∧ cell.slots[f.slot]? = some v ∧ (v = .null ∨ ∃ t, v = .ref t)
theorem k_Zs.of {n d : String} {args : Array Value} {s : State} (h : (Cond.laysStatic Bundle.tN n d).before args s = true) (h2 : (Cond.isRef (.static Bundle.tN n d)).before args s = true) : k_Zs n d s s.heap := by
  obtain ⟨c, k, i, f, a, cell, hc, hi, hst, ha, hcell, hs, hcls, hlt, hty⟩ := Cond.laysStatic_spec h
  have hv : cell.slots[f.slot]? = some (cell.slots[f.slot]'hlt) := Array.getElem?_eq_getElem hlt
  refine ⟨c, k, i, f, a, cell, _, hc, hi, hst, ha, hcell, hs, hcls, hlt, hty, hv, ?_⟩
  simp [Cond.before, Cond.holds, Cond.value, Term.eval, State.fieldNamed?, hi, hst, ha, hcell, hs, hv] at h2
  cases hq : cell.slots[f.slot]'hlt with
  | null => exact Or.inl rfl
  | ref t => exact Or.inr ⟨t, rfl⟩
  | _ => simp [hq] at h2
theorem k_Zs.kept {n d : String} {s U : State} {H H1 : Heap} (hvm : s.vm.Alike U.vm) (h : k_Zs n d s H) (hq : ∀ q : Nat, q < H.size → H1[q]? = H[q]?) : k_Zs n d U H1 := by
  obtain ⟨c, k, i, f, a, cell, v, h0, h1, h2, h3, h4, h5, h6, h7, h8, h9, h10⟩ := h
  obtain ⟨k', hi', he⟩ := State.fieldFound?_setVm hvm h1
  exact ⟨c, k', i, f, a, cell, v, by rw [hvm.findClass]; exact h0, hi', h2, by rw [he]; exact h3, by rw [hq a (Array.getElem?_eq_some_iff.mp h4).1]; exact h4, h5, h6, h7, by rw [he]; exact h8, h9, h10⟩
theorem k_Zs.ref {n d : String} {args : Array Value} {s : State} (h : k_Zs n d s s.heap) : (Cond.isRef (.static Bundle.tN n d)).before args s = true := by
  obtain ⟨c, k, i, f, a, cell, v, h0, h1, h2, h3, h4, h5, h6, h7, h8, h9, h10⟩ := h
  rcases h10 with rfl | ⟨t, rfl⟩
  · simp [Cond.before, Cond.holds, Cond.value, Term.eval, State.fieldNamed?, h1, h2, h3, h4, h5, h9]
  · simp [Cond.before, Cond.holds, Cond.value, Term.eval, State.fieldNamed?, h1, h2, h3, h4, h5, h9]
theorem k_Zs.lays {n d : String} {args : Array Value} {s : State} (h : k_Zs n d s s.heap) : (Cond.laysStatic Bundle.tN n d).before args s = true := by
  obtain ⟨c, k, i, f, a, cell, v, h0, h1, h2, h3, h4, h5, h6, h7, h8, h9, h10⟩ := h
  simp [Cond.before, Cond.holds, Cond.value, h0, h1, h2, h3, h4, h5, h6, h7, h8]
def k_S (U : State) : Prop := k_Zs "UNASSIGNED_STACK" Bundle.steD U U.heap ∧ k_Zs "SUPPRESSED_SENTINEL" Bundle.listD U U.heap
def k_TE (cls : String) (s : State) (o : Outcome) (t : State) : Prop := ∃ (a : Addr) (ce : Cell), o = .threw a ∧ s.WarmedH t.vm ∧ s.sameButNew ({ t with vm := s.vm } : State) [] 1 6 ∧ t.heap[a]? = some ce ∧ ce.vm.isStatics = false ∧ s.vm.findClass cls = some ce.cls
def k_MT (l : Launch) (y : MethodName) (ws : List Cond) (rm : Room) (D : va_G) (tys : List (ClassId × FieldType)) (wf : vS → va_W) (av : List Value) (σ : vS) (cls : String) : Prop :=
  MetFree l y (headSpec ws rm) (va_Pc av (fun U => k_B D tys wf σ U ∧ k_N U ∧ k_S U)) (fun _ _ _ _ _ => True) (fun _ st o t => k_TE cls st o t)
def k_TQ (below : List Frame) (cls : String) (s : State) : State → Prop := fun t => ∃ o, t.status = .running ∧ Ended t below o ∧ k_TE cls s o t
theorem k_ofT {l : Launch} {y : MethodName} {ws ws' : List Cond} {rm : Room} {D : va_G} {tys : List (ClassId × FieldType)} {wf : vS → va_W} {A : Nat → Prop} {av : List Value} {σ : vS} {cls : String} {cc : ByteArray} {maxL : Nat} {ret : Option FieldType}
    (hy : plainName y.cls = true) (hw : ws = Cond.code y cc maxL ret :: ws') (hav : (lg_sl av).length ≤ maxL)
    (body : ∀ (p : Program) (e : Env) (s : State) (m : MethodId) (args : Array Value) (below : List Frame) (meth : Method) (c : Code) (ls : Array Slot), CallFix p m c cc maxL s args ws' y.cls → meth.sig.returnType = ret → meth.locks = false → va_K D vwCl tys s → k_N s → k_S s → c.exceptionTable.isEmpty = true →
      lv_has ls maxL (lv_args 0 av) → k_H D wf A σ s.heap s.heap [] → W p l e rm s m args below meth c s.heap [] 0 0 (k_TQ below cls s) (F0 m 0 ls [])) :
    k_MT l y ws rm D tys wf av σ cls := by
  refine MetFree.of_bodyS (code := cc) (maxLocals := maxL) (ret := ret) hy ?_ ?_
  · intro args s m h hn
    obtain ⟨meth, c, h1, h2, h3, h4, h5, h6, -, -⟩ := Cond.code_spec hn (atoms_spec (ws := ws) h _ (by rw [hw]; exact List.mem_cons_self))
    exact ⟨meth, c, h1, h2, h3, h4, h5, h6⟩
  · intro p e s m args below meth c s₁ B hml hP _
    obtain ⟨rfl, ⟨hP, hK, hD⟩, hZ, hS⟩ := hP
    have hh0 : s₁.heap = s.heap := by rw [B.state]; rfl
    have hts := atoms_spec (ws := ws) B.pre
    rw [hw] at hts
    have hnh := B.noHandlers (hts _ List.mem_cons_self)
    have hl := lv_entry av (n := maxL) hav
    have hb := body p e s m av.toArray below meth c _ ⟨B.exec, B.bytes, hml, findClass_of_methodNamed B.named, fun w h => hts w (List.mem_cons_of_mem _ h)⟩ B.returns B.notSynchronized hK hZ hS hnh hl ⟨hP, hD, va_S.rf⟩
    rw [← lg_entry_eq] at hb
    obtain ⟨t, a1, o, b1, b2, b3⟩ := hb s₁ hh0 (Stand.of_body B)
    exact ⟨t, o, a1, b1, b2, b3⟩
def k_okw (w : Cond) : Bool := (decide (w ∈ lw_tbl) && goodWord w) || (decide (w ∈ k_nest) && w.onTables) || decide (w = .laysStatic Bundle.tN "UNASSIGNED_STACK" Bundle.steD) || decide (w = .laysStatic Bundle.tN "SUPPRESSED_SENTINEL" Bundle.listD) || decide (w = .isRef (.static Bundle.tN "UNASSIGNED_STACK" Bundle.steD)) || decide (w = .isRef (.static Bundle.tN "SUPPRESSED_SENTINEL" Bundle.listD))
theorem k_okw_use {args : Array Value} {s : State} {ws : List Cond} (h : ws.all k_okw = true) (htk : ∀ w ∈ kws, w.before args s = true) (hZ : k_N s) (hS : k_S s) : ∀ w ∈ ws, w.before args s = true := by
  intro w hw
  have h1 := List.all_eq_true.mp h w hw
  simp only [k_okw, Bool.or_eq_true, Bool.and_eq_true, decide_eq_true_eq] at h1
  rcases h1 with ((((h1 | h1) | h1) | h1) | h1) | h1
  · exact htk w (k_in h1.1 h1.2)
  · exact va_Nw.use h1.2 (hZ w h1.1)
  · rw [h1]; exact hS.1.lays
  · rw [h1]; exact hS.2.lays
  · rw [h1]; exact hS.1.ref
  · rw [h1]; exact hS.2.ref
section KT
variable {p : Program} {l : Launch} {e : Env} {R : Room} {s : State} {m : MethodId} {args : Array Value} {below : List Frame} {meth : Method} {c : Code} {H : Heap} {locs : List Loc} {Q : State → Prop}
variable {cc : ByteArray} {nL pc : Nat} {ls : Array Slot} {rest st0 : List Value} {D : va_G} {tys : List (ClassId × FieldType)} {wf : vS → va_W} {A : Nat → Prop} {σ σ' : vS} {Ts : List Cond} {own : String}
theorem k_throw {cls : String} {ic ix : Nat} {lv : List (Nat × Value)} (hcf : CallFix p m c cc nL s args kws own) (hfl : l.flags = flags0) (hlk : meth.locks = false) (hZ : k_N s) (hS : k_S s) (hnh : c.exceptionTable.isEmpty = true)
    (hat : (Bundle.ownAtoms0 own ic cls kx_up).all k_okw = true) (hcls : Bundle.fit cls = true)
    (hcl : (Cond.classLink own ix cls).before args s = true) (hin : (Cond.instantiable cls 6).before args s = true) (hini : (Cond.initialized cls).before args s = true) (hl : lv_has ls nL lv)
    (d0 : decode cc pc = .ok (.new ix, 3)) (d1 : decode cc (pc + 3) = .ok (.dup, 1)) (d2 : decode cc (pc + 3 + 1) = .ok (.invokespecial ic, 3)) (d3 : decode cc (pc + 3 + 1 + 3) = .ok (.athrow, 1))
    (hRc : 1 ≤ R.cells) (hRs : 6 ≤ R.slots) (hRf : 5 < R.frames) (hRl : 90 ≤ R.locals) :
    W p l e R s m args below meth c s.heap [] 0 0 (k_TQ below cls s) (F0 m pc ls []) := by
  refine W.newc hcf.1 hcf.2.1 hcf.2.2.2.1 hcl hin hini rfl d0 (by simpa using hRc) (by simpa using hRs) (fun cC kC hfc hkC hord hsz => ?_)
  refine W.eq (g2 := F0 m (pc + 3) ls [.ref s.heap.size]) rfl ?_
  refine lv_dup hcf.1 hcf.2.1 d1 rfl ?_
  intro T hT X
  have hlk := hlk
  obtain ⟨U, st, hrun, hend, hW, hsame, ce, hce, ho⟩ := X.ctorThrow0 hcf.1 (Launch.traces_off hfl X.admits) (own := own) (cls := cls) (names := kx_up) (ic := ic) hcf.2.2.2.1 hcls (by decide) (k_okw_use hat hcf.2.2.2.2 hZ hS) (fun x hx => by cases hx) hfc hkC
    (a := s.heap.size) (by rw [hT]; exact State.heap_pushCell_size _ _) (Nat.le_refl _) (g := F0 m (pc + 3 + 1) ls [.ref s.heap.size, .ref s.heap.size]) rfl (hl.1.trans hcf.2.2.1.symm) rfl rfl (rest := []) rfl (by rw [hcf.2.1]; exact d2) (by rw [hcf.2.1]; exact d3)
    (fun x hx => by
      have h0 : c.exceptionTable.toList = [] := by
        have h1 : c.exceptionTable.size = 0 := by simpa [Array.isEmpty] using hnh
        exact List.eq_nil_of_length_eq_zero (by simpa using h1)
      rw [h0] at hx; cases hx) hRf (Nat.le_trans (Nat.le_of_ble_eq_true rfl) hRl) hlk
  exact ⟨U, st, _, hrun, hend, _, ce, rfl, hW, hsame, hce, by rw [ho.vm]; rfl, ho.cls⟩
end KT
theorem rts1 {α β : Type} {T : Option (α ⊕ β)} {u v : α} (h : T = some (.inl u)) (h2 : T = some (.inl v)) : u = v := by
  have h3 := Option.some.inj (h.symm.trans h2)
  exact Sum.inl.inj h3
theorem rts2 {α β : Type} {T : Option ((α × vS) ⊕ β)} {r x : α} {u v : vS} (h : T = some (.inl (r, u))) (h2 : T = some (.inl (x, v))) : r = x ∧ u = v := by
  have h3 := Sum.inl.inj (Option.some.inj (h.symm.trans h2))
  exact ⟨congrArg Prod.fst h3, congrArg Prod.snd h3⟩
theorem rtsx {α β : Type} {T : Option (α ⊕ β)} {u : α} {v : β} {P : Prop} (h : T = some (.inl u)) (h2 : T = some (.inr v)) : P := by
  have h3 := Option.some.inj (h.symm.trans h2)
  exact nomatch h3
theorem rtsn {α : Type} {T : Option (α ⊕ Nat)} {n k : Nat} (h : T = some (.inr n)) (h2 : T = some (.inr k)) : n = k := Sum.inr.inj (Option.some.inj (h.symm.trans h2))
theorem ka_X5_57 : (Bundle.ownAtoms0 RX5 57 (kx_n 1) kx_up).all k_okw = true := by decide +kernel
theorem ka_X5_44 : (Bundle.ownAtoms0 RX5 44 (kx_n 0) kx_up).all k_okw = true := by decide +kernel
theorem ka_X5_114 : (Bundle.ownAtoms0 RX5 114 (kx_n 2) kx_up).all k_okw = true := by decide +kernel
theorem ka_X5_135 : (Bundle.ownAtoms0 RX5 135 (kx_n 3) kx_up).all k_okw = true := by decide +kernel
