/-! The law's own helpers: each calls one method of the class, keeps its answer in 'out', or says which exception came. -/
abbrev k_out (cs : Nat → ClassId) (ov : Nat → Int64) : va_E := .inl (cs 3, 1, .inr (.inl ov))
def k_HP (D : va_G) (cs : Nat → ClassId) (ad : Nat → Nat) (ao : Nat) (σ : vS) (ov : Nat → Int64) : State → Prop := fun U => k_B D (tK cs) (wK cs ad) σ U ∧ va_P D vwCl [(ao, k_out cs ov)] U.heap ∧ (∀ k, k < 41 → ad k ≠ ao) ∧ k_N U ∧ k_S U
def k_HA (ad : Nat → Nat) (ao : Nat) : Nat → Prop := fun q => k_A 41 ad q ∨ q = ao
def k_HQ (D : va_G) (cs : Nat → ClassId) (ad : Nat → Nat) (ao : Nat) (r : Int32) (σ' : vS) (ov' : Nat → Int64) : Array Value → State → Outcome → State → Prop :=
  fun _ st o t => o = .returned (some (.int r)) ∧ k_B D (tK cs) (wK cs ad) σ' t ∧ va_P D vwCl [(ao, k_out cs ov')] t.heap ∧ va_F (k_HA ad ao) st t
def k_HT (r : Int32) : Array Value → State → Outcome → State → Prop := fun _ st o t => o = .returned (some (.int r)) ∧ st.heap.size ≤ t.heap.size ∧ ∀ q : Nat, q < st.heap.size → t.heap[q]? = st.heap[q]?
def k_tab (hh : List (Nat × Nat × Nat × Nat)) : List ExceptionTableEntry := hh.map fun t => { startPc := t.1, endPc := t.2.1, handlerPc := t.2.2.1, catchType := t.2.2.2 }
theorem k_tab_of {c : Code} {hh : List (Nat × Nat × Nat × Nat)} (h : c.exceptionTable.toList.map (fun h => (h.startPc, h.endPc, h.handlerPc, h.catchType)) = hh) : c.exceptionTable.toList = k_tab hh := by
  subst hh
  unfold k_tab
  rw [List.map_map]
  exact (List.map_id _).symm
theorem k_ofW {l : Launch} {y : MethodName} {ws ws' : List Cond} {rm : Room} {Pc : State → Prop} {Qc : Array Value → State → Outcome → State → Prop} {A : Addr → Prop} {av : List Value} {cc : ByteArray} {maxL mc ms : Nat} {ret : Option FieldType} {hh : List (Nat × Nat × Nat × Nat)}
    (hy : plainName y.cls = true) (hw : ws = Cond.codeWith y cc maxL ret hh :: ws') (hav : (lg_sl av).length ≤ maxL)
    (body : ∀ (p : Program) (e : Env) (s : State) (m : MethodId) (args : Array Value) (below : List Frame) (meth : Method) (c : Code) (ls : Array Slot), CallFix p m c cc maxL s args ws' y.cls → meth.sig.returnType = ret → meth.locks = false → c.exceptionTable.toList = k_tab hh → Pc s →
      lv_has ls maxL (lv_args 0 av) → W p l e rm s m args below meth c s.heap [] 0 0 (MQ below Qc args s mc ms A) (F0 m 0 ls [])) :
    Met l y ws rm (va_Pc av Pc) Qc mc ms A := by
  refine va_MetW (cc := cc) (maxL := maxL) (ret := ret) (hh := hh) hy hw ?_
  intro p e s m args below meth c s₁ B hml hv
  obtain ⟨rfl, hP⟩ := hv
  have hts := atoms_spec (ws := ws) B.pre
  rw [hw] at hts
  obtain ⟨m9, meth9, c9, hn9, hm9, hc9, -, -, ht9, -⟩ := Cond.codeWith_spec (hts _ List.mem_cons_self)
  cases B.named.symm.trans hn9
  cases B.method.symm.trans hm9
  cases (Stand.of_body B).code.symm.trans hc9
  have hl := lv_entry av (n := maxL) hav
  rw [lg_entry_eq]
  exact body p e s m _ below meth c _ ⟨B.exec, B.bytes, hml, findClass_of_methodNamed B.named, fun w h => hts w (List.mem_cons_of_mem _ h)⟩ B.returns B.notSynchronized (k_tab_of ht9) hP hl
def k_X (U : State) : Prop := va_Nc (kx_n 1) (kx_n 0) U ∧ va_Nc (kx_n 3) (kx_n 2) U
def k_b2l (r : Int32) : Int64 := if r = 0 then 0 else 1
theorem k_passed {s : State} {m : MethodId} {e : Env} {args : Array Value} {own cls name : String} {pc : Nat} {x : ExceptionTableEntry} (hown : s.vm.findClass own = some m.cls) (hlink : (Cond.classLink own x.catchType name).before args s = true) (hnc : va_Nc cls name s) (hx : covers x pc = true) (h0 : x.catchType ≠ 0) (hpl : e.platform.magicAccessors = ({} : Platform).magicAccessors) {cX : ClassId} (hcX : s.vm.findClass cls = some cX) : kh_pass e.platform s m.cls pc cX x := by
  obtain ⟨c', hc', hcl⟩ := Cond.classLink_spec hown hlink e.platform hpl
  obtain ⟨c1, t1, h1, h2, h3⟩ := hnc
  cases hcX.symm.trans h1
  cases hc'.symm.trans h2
  exact ⟨hx, h0, c', hcl, h3⟩
section KL1
variable {p : Program} {l : Launch} {e : Env} {R : Room} {s : State} {m : MethodId} {args : Array Value} {below : List Frame} {meth : Method} {c : Code} {H : Heap} {locs : List Loc} {Q : State → Prop}
variable {cc : ByteArray} {nL pc : Nat} {ls : Array Slot} {rest : List Value} {D : va_G} {cs : Nat → ClassId} {ad : Nat → Nat} {ao : Nat} {σ σ' : vS} {ov ov' : Nat → Int64} {own : String}
theorem k_HPw (h : k_HP D cs ad ao σ ov s) {A : Nat → Prop} : k_H D (wK cs ad) A σ s.heap s.heap [] := ⟨h.1.1, h.1.2.2, va_S.rf⟩
theorem k_hstore {v : Int64} (hcf : CallFix p m c cc nL s args kws own) (h0 : k_HP D cs ad ao σ ov s) (hw : k_H D (wK cs ad) (k_A 41 ad) σ' s.heap H locs) (hdg : decode cc pc = .ok (.lastore, 1))
    (kk : ∀ (H1 : Heap) (locs1 : List Loc), va_P D vwCl (wK cs ad σ') H1 → va_D (fun _ => True) (wK cs ad σ') → va_P D vwCl [(ao, k_out cs (vp_updL ov 0 v))] H1 → va_S (k_HA ad ao) s.heap H1 locs1 → W p l e R s m args below meth c H1 locs1 0 0 Q (F0 m (pc + 1) ls rest)) :
    W p l e R s m args below meth c H locs 0 0 Q (F0 m pc ls (.long v :: .int 0 :: .ref ao :: rest)) := by
  have hnA : ¬ k_A 41 ad ao := fun ⟨k, hk, e⟩ => h0.2.2.1 k hk e.symm
  have hlt : ao < s.heap.size := (h0.2.1 0 _ rfl).lt
  have hPo : va_P D vwCl [(ao, k_out cs ov)] H := h0.2.1.kept (fun k q hk => by
    cases k with
    | zero => cases hk; exact hw.2.2.2.1 ao hlt hnA
    | succ k => cases hk)
  have hD2 : va_D (k_HA ad ao) (wK cs ad σ' ++ [(ao, k_out cs ov)]) := by
    refine va_D.app ((wK_D hw.2.1).weaken (fun _ _ _ h => Or.inl h)) ⟨fun i j x y hx hy _ => ?_, fun k x hx => ?_⟩ (fun i j x y hx hy hxy => ?_)
    · have h1 := (List.getElem?_eq_some_iff.mp hx).1
      have h2 := (List.getElem?_eq_some_iff.mp hy).1
      simp at h1 h2
      omega
    · cases k with
      | zero => cases hx; exact Or.inr rfl
      | succ k => cases hx
    · obtain ⟨k, hk, e⟩ := (wK_D hw.2.1).2 i x hx
      cases j with
      | zero => cases hy; exact h0.2.2.1 k hk (by rw [← e, hxy])
      | succ j => cases hy
  have hS2 : va_S (k_HA ad ao) s.heap H locs := ⟨hw.2.2.1, fun q h1 h2 => hw.2.2.2.1 q h1 (fun h => h2 (Or.inl h)), fun q hq => Or.inl (hw.2.2.2.2 q hq)⟩
  refine va_last (D := D) (cl := vwCl) (ws := wK cs ad σ' ++ [(ao, k_out cs ov)]) hcf.1 hcf.2.1 h0.1.2.1 (va_P.app hw.1 hPo) hD2 hS2 41 3 rfl rfl (i := 0) (by unfold vp_in; decide) hdg (fun H1 locs1 hP1 hD1 hS1 => ?_)
  have e1 : (wK cs ad σ' ++ [(ao, k_out cs ov)]).set 41 (ao, .inl (cs 3, 1, .inr (.inl (vp_updL ov (0 : Int32).toNatClampNeg v)))) = wK cs ad σ' ++ [(ao, k_out cs (vp_updL ov 0 v))] := rfl
  rw [e1] at hP1
  exact kk H1 locs1 (fun k q hk => hP1 k q (by rw [List.getElem?_append_left ((List.getElem?_eq_some_iff.mp hk).1)]; exact hk)) hw.2.1 (fun k q hk => by
    cases k with
    | zero => cases hk; exact hP1 41 _ rfl
    | succ k => cases hk) hS1
theorem k_hret {r : Int32} (hcf : CallFix p m c cc nL s args kws own) (hr : meth.sig.returnType = some .int) (hlk : meth.locks = false) (h0 : k_HP D cs ad ao σ ov s) (hP : va_P D vwCl (wK cs ad σ') H) (hD : va_D (fun _ => True) (wK cs ad σ')) (hPo : va_P D vwCl [(ao, k_out cs ov')] H) (hS : va_S (k_HA ad ao) s.heap H locs)
    (hdg : decode cc pc = .ok (.ireturn, 1)) : W p l e R s m args below meth c H locs 0 0 (MQ below (k_HQ D cs ad ao r σ' ov') args s 0 0 (k_HA ad ao)) (F0 m pc ls [.int r]) :=
  W.iret hcf.1 hcf.2.1 hr (fun t ht hW => ⟨rfl, ⟨by rw [ht]; exact hP, va_K.moved hW.alike h0.1.2.1, hD⟩, by rw [ht]; exact hPo, hS.F ht⟩) hS.2.2 hdg hlk
theorem k_hthr {r : Int32} (hcf : CallFix p m c cc nL s args kws own) (hr : meth.sig.returnType = some .int) (hlk : meth.locks = false) (hz : s.heap.size ≤ H.size) (hq : ∀ q : Nat, q < s.heap.size → H[q]? = s.heap[q]?)
    (hdg : decode cc pc = .ok (.ireturn, 1)) : W p l e R s m args below meth c H [] 1 6 (MQ below (k_HT r) args s 1 6 (fun _ => False)) (F0 m pc ls [.int r]) :=
  W.iret hcf.1 hcf.2.1 hr (fun t ht hW => ⟨rfl, by rw [ht]; exact hz, fun q h => by rw [ht]; exact hq q h⟩) (fun q hq => by cases hq) hdg hlk
theorem k_hpre {av : List Value} (h0 : k_HP D cs ad ao σ ov s) : ∀ U : State, U.heap = s.heap → s.WarmedH U.vm → va_Pc av (fun U => k_B D (tK cs) (wK cs ad) σ U ∧ k_N U ∧ k_S U) av.toArray U :=
  fun U hU hW => ⟨rfl, ⟨by rw [hU]; exact h0.1.1, va_K.moved hW.alike h0.1.2.1, h0.1.2.2⟩, h0.2.2.2.1.warm hW, h0.2.2.2.2.1.kept hW.alike (fun q _ => by rw [hU]), h0.2.2.2.2.2.kept hW.alike (fun q _ => by rw [hU])⟩
/-- a static call of a method with a table of handlers -/
theorem k_runSW {y : MethodName} {bytes : ByteArray} {maxL mc ms n index cells slots : Nat} {ret : Option FieldType} {hh : List (Nat × Nat × Nat × Nat)} {rm : Room} {Pc : Array Value → State → Prop} {Qc : Array Value → State → Outcome → State → Prop} {free : Addr → Prop} {As : List Value} {g : JFrame}
    (S : CallFix p m c cc nL s args kws own) (hM : Met l y (.codeWith y bytes maxL ret hh :: kws) rm Pc Qc mc ms free) (hcw : Cond.codeWith y bytes maxL ret hh ∈ kws) (hini : (Cond.initialized y.cls).before args s = true) (hstt : (Cond.static y).before args s = true) (hlk : (Cond.methodLink own index y).before args s = true)
    (hd : y.cls ≠ "java/lang/invoke/MethodHandle" ∧ y.cls ≠ "java/lang/invoke/VarHandle" ∧ (parseMethodDescriptor y.desc).map (fun d => d.parameters.length) = some n) (hrc : rm.cells = mc) (hrs : rm.slots = ms) (hR : rm.frames + 1 ≤ R.frames ∧ 8 + (maxL + 11) + rm.locals ≤ R.locals) (hp : PreS s H Pc As)
    (hg : g.method = m) (hn : As.length = n) (hsize : g.locals.size = nL) (hstack : g.stack = As.reverse ++ rest) (hW : 2 * g.monitorRoom + (rest.map fun v => v.category).sum ≤ 8) (hdg : decode cc g.pc = .ok (.invokestatic index, 3)) (hf : cells + mc ≤ R.cells ∧ slots + ms ≤ R.slots) :
    va_Run p l e R s m args below meth c H locs cells slots mc ms g rest (Qc As.toArray) (free) := by
  obtain ⟨hx, hb, hml, ho, htk⟩ := S
  have hK : Back l R p e below s args y 3 8 (PreOf R mc ms Pc) (PostOf Qc mc ms free) := va_backW (hh := hh) (bytes := bytes) (maxL := maxL) (ret := ret) hM hp.1 hrc hrs hR.1 hR.2 (pay_in htk (k_good hcw)) List.mem_cons_self (fun a' U hW => word_at hW (Or.inl (by first | rfl | simp [Cond.onTables, Cond.keeps, Cond.steady])) hini)
  obtain ⟨mk, methM, cM, hnamed, hmethM, -, -, -, -, -, -, hsigM⟩ := Cond.codeWith_spec (htk _ hcw)
  have hstatic : methM.isStatic = true := Cond.static_spec hnamed hmethM hstt
  obtain ⟨kP, hkP, -⟩ := className_of_methodNamed hnamed
  have hinitP : kP.init = .initialized := Cond.initialized_spec (findClass_of_methodNamed hnamed) hkP hini
  have hlen : ∀ sig, parseMethodDescriptor y.desc = some sig → As.length = sig.parameters.length := fun sig h => by
    have h2 := hd.2.2
    rw [h] at h2
    rw [hn]; exact (Option.some.inj h2).symm
  intro T hT X
  obtain ⟨vm₁, X₁, hstep₁⟩ := X.invokestatic hx ho hlk hnamed hmethM hstatic hkP hinitP ⟨hd.1, hd.2.1⟩ (g := g) hg (argsL := As) (rest := rest) (hlen _ hsigM) hstack (by rw [hb]; exact hdg)
  obtain ⟨v, B, X', hpost, hsteps⟩ := hK m meth c ⟨T.setVm vm₁, locs, cells, slots⟩ { g with stack := rest } (.invokestatic index) mk As.toArray X₁ hg (hsize.trans hml.symm) (by rw [hb]; exact hdg) hW (X₁.named hnamed) ⟨hf.1, hf.2, hp.2 (T.setVm vm₁) hT X₁.warmed⟩
  obtain ⟨U', l2, c2, s2⟩ := B
  obtain ⟨g', mk', t, L, e1, e2, hq, h1, hL, h2, h3⟩ := hpost
  dsimp only [Pt.U, Pt.locs, Pt.cells, Pt.slots] at X' e1 e2 h1 h2 h3 hsteps
  subst h1; subst h2; subst h3
  exact ⟨v, (T.setVm vm₁).calling g' mk' As.toArray, t, U', L, hT, X', hL, e1, e2, hq, fun target h => hstep₁ _ fun acts => by rw [doInvoke_state]; exact hsteps.trans h⟩
end KL1
