/-! The state of a system as plain functions; pure functions with 'none' for what can't be; loops by fuel; contracts that say 'as the pure function has it'. -/
abbrev vS : Type := (Nat → Int32) × (Nat → Nat → Int32) × (Nat → Int64) × (Nat → Nat → Int64)
def p_i (σ : vS) (k : Nat) (v : Int32) : vS := (upd σ.1 k v, σ.2.1, σ.2.2.1, σ.2.2.2)
def p_a (σ : vS) (a i : Nat) (v : Int32) : vS := (σ.1, va_up σ.2.1 a (upd (σ.2.1 a) i v), σ.2.2.1, σ.2.2.2)
def p_j (σ : vS) (k : Nat) (v : Int64) : vS := (σ.1, σ.2.1, vp_updL σ.2.2.1 k v, σ.2.2.2)
def p_b (σ : vS) (b i : Nat) (v : Int64) : vS := (σ.1, σ.2.1, σ.2.2.1, va_up σ.2.2.2 b (vp_updL (σ.2.2.2 b) i v))
def k_lt {α β : Type} (a : α) (F : α → β) : β := F a
theorem k_lte {α β : Type} {T : β} {a : α} {F : α → β} (h : T = k_lt a F) : ∃ x, x = a ∧ T = F x := ⟨a, rfl, h⟩
theorem k_lts {α β : Type} {T : β} {a x : α} {F : α → β} (h : T = k_lt a F) (e : x = a) : T = F x := by rw [e]; exact h
theorem ite_t {c : Prop} {d : Decidable c} {α : Type} {T A B : α} (h : T = @ite α c d A B) (hc : c) : T = A := by rw [if_pos hc] at h; exact h
theorem ite_f {c : Prop} {d : Decidable c} {α : Type} {T A B : α} (h : T = @ite α c d A B) (hc : ¬ c) : T = B := by rw [if_neg hc] at h; exact h
theorem gd_e {c : Prop} {d : Decidable c} {α : Type} {T A : Option α} (h : T = @ite _ c d none A) (hn : T ≠ none) : ¬ c ∧ T = A := by
  by_cases hc : c
  · rw [if_pos hc] at h; exact absurd h hn
  · rw [if_neg hc] at h; exact ⟨hc, h⟩
def bd1 {α β : Type} (X : Option α) (F : α → Option β) : Option β := match X with
  | none => none
  | some a => F a
def bd2 {α β γ : Type} (X : Option (α × β)) (F : α → β → Option γ) : Option γ := match X with
  | none => none
  | some q => F q.1 q.2
def bds {E T : Type} (X : Option (E ⊕ T)) (F : E → Option T) : Option T := match X with
  | none => none
  | some (.inl e) => F e
  | some (.inr t) => some t
theorem bd1_e {α β : Type} {T : Option β} {X : Option α} {F : α → Option β} (h : T = bd1 X F) (hn : T ≠ none) : ∃ a, X = some a ∧ T = F a := by
  cases X with
  | none => exact absurd h hn
  | some a => exact ⟨a, rfl, h⟩
theorem bd2_e {α β γ : Type} {T : Option γ} {X : Option (α × β)} {F : α → β → Option γ} (h : T = bd2 X F) (hn : T ≠ none) : ∃ a b, X = some (a, b) ∧ T = F a b := by
  cases X with
  | none => exact absurd h hn
  | some q => exact ⟨q.1, q.2, rfl, h⟩
theorem bds_e {E T : Type} {Y : Option T} {X : Option (E ⊕ T)} {F : E → Option T} (h : Y = bds X F) (hn : Y ≠ none) : ∃ q, X = some q ∧ (∀ e, q = .inl e → Y = F e) ∧ (∀ t, q = .inr t → Y = some t) := by
  cases X with
  | none => exact absurd h hn
  | some q =>
    cases q with
    | inl e => exact ⟨_, rfl, (fun e' he => by cases he; exact h), (fun t ht => by cases ht)⟩
    | inr t => exact ⟨_, rfl, (fun e' he => by cases he), (fun t' ht => by cases ht; exact h)⟩
def k_itr {S R : Type} (body : S → Option (S ⊕ R)) : Nat → S → Option R
  | 0, _ => none
  | n + 1, s => match body s with
    | none => none
    | some (.inl s') => k_itr body n s'
    | some (.inr r) => some r
theorem k_ind {S R : Type} {body : S → Option (S ⊕ R)} {P : S → Prop} {r : R}
    (hb : ∀ (s : S) (T : Option (S ⊕ R)), T = body s → T ≠ none → (∀ s', T = some (.inl s') → P s') → (∀ r', T = some (.inr r') → r' = r) → P s) :
    ∀ (n : Nat) (s : S), k_itr body n s = some r → P s := by
  intro n
  induction n with
  | zero => intro s h; cases h
  | succ n ih =>
    intro s h
    cases ho : body s with
    | none => simp [k_itr, ho] at h
    | some o =>
      cases o with
      | inl s' =>
        have h2 : k_itr body n s' = some r := by simpa [k_itr, ho] using h
        exact hb s _ ho.symm (fun q => by cases q) (fun s2 e2 => by cases e2; exact ih s' h2) (fun r' e2 => by cases e2)
      | inr r1 =>
        have h2 : r1 = r := by simpa [k_itr, ho] using h
        exact hb s _ ho.symm (fun q => by cases q) (fun s2 e2 => by cases e2) (fun r' e2 => by cases e2; exact h2)
theorem rt1 {α : Type} {T : Option α} {u v : α} (h : T = some u) (h2 : T = some v) : u = v := Option.some.inj (h.symm.trans h2)
theorem rt2 {α : Type} {T : Option (α × vS)} {r x : α} {u v : vS} (h : T = some (r, u)) (h2 : T = some (x, v)) : r = x ∧ u = v := by
  have h3 := Option.some.inj (h.symm.trans h2)
  exact ⟨congrArg Prod.fst h3, congrArg Prod.snd h3⟩
theorem nr_b {v : Int32} (h : ¬ ¬ (v &&& 1 = v)) : narrow .boolean (.int v) = .int v := by
  have h := Decidable.not_not.mp h
  show Value.int (v &&& 1) = .int v
  rw [h]
theorem nr_c {v : Int32} (h : ¬ ¬ (v.toUInt32.toUInt16.toUInt32.toInt32 = v)) : narrow .char (.int v) = .int v := by
  have h := Decidable.not_not.mp h
  show Value.int (v.toUInt32.toUInt16.toUInt32.toInt32) = .int v
  rw [h]
/-- the cells of a world, by number -/
def k_A (n : Nat) (ad : Nat → Nat) : Nat → Prop := fun q => ∃ k, k < n ∧ q = ad k
def k_H (D : va_G) (wf : vS → va_W) (A : Nat → Prop) (σ : vS) (H0 H : Heap) (locs : List Loc) : Prop := va_P D vwCl (wf σ) H ∧ va_D (fun _ => True) (wf σ) ∧ va_S A H0 H locs
def k_B (D : va_G) (tys : List (ClassId × FieldType)) (wf : vS → va_W) (σ : vS) (t : State) : Prop := va_P D vwCl (wf σ) t.heap ∧ va_K D vwCl tys t ∧ va_D (fun _ => True) (wf σ)
def k_Q (D : va_G) (tys : List (ClassId × FieldType)) (wf : vS → va_W) (A : Nat → Prop) (r : Option Value) (σ : vS) : Array Value → State → Outcome → State → Prop :=
  fun _ st o t => o = .returned r ∧ k_B D tys wf σ t ∧ va_F A st t
def k_QP (r : Value) : Array Value → State → Outcome → State → Prop := fun _ st o t => o = .returned (some r) ∧ t.heap = st.heap
/-- the method y, called with av at the state σ, returns r and leaves the state σ'; no other cell changes -/
def k_Met (l : Launch) (y : MethodName) (ws : List Cond) (rm : Room) (D : va_G) (tys : List (ClassId × FieldType)) (wf : vS → va_W) (A : Nat → Prop) (av : List Value) (σ : vS) (r : Option Value) (σ' : vS) : Prop :=
  Met l y ws rm (va_Pc av (fun U => k_B D tys wf σ U ∧ k_N U)) (k_Q D tys wf A r σ') 0 0 A
/-- the method y, called with av at the state σ, returns r and changes nothing -/
def k_MP (l : Launch) (y : MethodName) (ws : List Cond) (rm : Room) (D : va_G) (tys : List (ClassId × FieldType)) (wf : vS → va_W) (av : List Value) (σ : vS) (r : Value) : Prop :=
  Met l y ws rm (va_Pc av (fun U => k_B D tys wf σ U ∧ k_N U)) (k_QP r) 0 0 (fun _ => False)
theorem k_of {l : Launch} {y : MethodName} {ws ws' : List Cond} {rm : Room} {D : va_G} {tys : List (ClassId × FieldType)} {wf : vS → va_W} {A : Nat → Prop} {av : List Value} {σ : vS} {r : Option Value} {σ' : vS} {cc : ByteArray} {maxL : Nat} {ret : Option FieldType}
    (hy : plainName y.cls = true) (hw : ws = Cond.code y cc maxL ret :: ws') (hav : (lg_sl av).length ≤ maxL)
    (body : ∀ (p : Program) (e : Env) (s : State) (m : MethodId) (args : Array Value) (below : List Frame) (meth : Method) (c : Code) (ls : Array Slot) (H : Heap) (locs : List Loc), CallFix p m c cc maxL s args ws' y.cls → meth.sig.returnType = ret → meth.locks = false → va_K D vwCl tys s → k_N s →
      lv_has ls maxL (lv_args 0 av) → k_H D wf A σ s.heap H locs → W p l e rm s m args below meth c H locs 0 0 (MQ below (k_Q D tys wf A r σ') args s 0 0 A) (F0 m 0 ls [])) :
    k_Met l y ws rm D tys wf A av σ r σ' := by
  refine Met.ofW (cc := cc) (maxL := maxL) (ret := ret) hy hw ?_
  intro p e s m args below meth c s₁ B hml hv
  obtain ⟨rfl, ⟨hP, hK, hD⟩, hZ⟩ := hv
  have hts := atoms_spec (ws := ws) B.pre
  rw [hw] at hts
  have hl := lv_entry av (n := maxL) hav
  rw [lg_entry_eq]
  exact body p e s m _ below meth c _ _ _ ⟨B.exec, B.bytes, hml, findClass_of_methodNamed B.named, fun w h => hts w (List.mem_cons_of_mem _ h)⟩ B.returns B.notSynchronized hK hZ hl ⟨hP, hD, va_S.rf⟩
theorem k_of0 {l : Launch} {y : MethodName} {ws ws' : List Cond} {rm : Room} {D : va_G} {tys : List (ClassId × FieldType)} {wf : vS → va_W} {A : Nat → Prop} {av : List Value} {σ : vS} {r : Option Value} {σ' : vS} {cc : ByteArray} {maxL : Nat} {ret : Option FieldType}
    (hy : plainName y.cls = true) (hw : ws = Cond.code y cc maxL ret :: ws') (hav : (lg_sl av).length ≤ maxL)
    (body : ∀ (p : Program) (e : Env) (s : State) (m : MethodId) (args : Array Value) (below : List Frame) (meth : Method) (c : Code) (ls : Array Slot), CallFix p m c cc maxL s args ws' y.cls → meth.sig.returnType = ret → meth.locks = false → va_K D vwCl tys s → k_N s →
      lv_has ls maxL (lv_args 0 av) → k_H D wf A σ s.heap s.heap [] → W p l e rm s m args below meth c s.heap [] 0 0 (MQ below (k_Q D tys wf A r σ') args s 0 0 A) (F0 m 0 ls [])) :
    k_Met l y ws rm D tys wf A av σ r σ' := by
  refine Met.ofW (cc := cc) (maxL := maxL) (ret := ret) hy hw ?_
  intro p e s m args below meth c s₁ B hml hv
  obtain ⟨rfl, ⟨hP, hK, hD⟩, hZ⟩ := hv
  have hts := atoms_spec (ws := ws) B.pre
  rw [hw] at hts
  have hl := lv_entry av (n := maxL) hav
  rw [lg_entry_eq]
  exact body p e s m _ below meth c _ ⟨B.exec, B.bytes, hml, findClass_of_methodNamed B.named, fun w h => hts w (List.mem_cons_of_mem _ h)⟩ B.returns B.notSynchronized hK hZ hl ⟨hP, hD, va_S.rf⟩
theorem k_ofP {l : Launch} {y : MethodName} {ws ws' : List Cond} {rm : Room} {D : va_G} {tys : List (ClassId × FieldType)} {wf : vS → va_W} {av : List Value} {σ : vS} {r : Value} {cc : ByteArray} {maxL : Nat} {ret : Option FieldType}
    (hy : plainName y.cls = true) (hw : ws = Cond.code y cc maxL ret :: ws') (hav : (lg_sl av).length ≤ maxL)
    (body : ∀ (p : Program) (e : Env) (s : State) (m : MethodId) (args : Array Value) (below : List Frame) (meth : Method) (c : Code) (ls : Array Slot), CallFix p m c cc maxL s args ws' y.cls → meth.sig.returnType = ret → meth.locks = false → va_K D vwCl tys s → k_N s →
      lv_has ls maxL (lv_args 0 av) → k_H D wf (fun _ => False) σ s.heap s.heap [] → W p l e rm s m args below meth c s.heap [] 0 0 (MQ below (k_QP r) args s 0 0 (fun _ => False)) (F0 m 0 ls [])) :
    k_MP l y ws rm D tys wf av σ r := by
  refine Met.ofW (cc := cc) (maxL := maxL) (ret := ret) hy hw ?_
  intro p e s m args below meth c s₁ B hml hv
  obtain ⟨rfl, ⟨hP, hK, hD⟩, hZ⟩ := hv
  have hts := atoms_spec (ws := ws) B.pre
  rw [hw] at hts
  have hl := lv_entry av (n := maxL) hav
  rw [lg_entry_eq]
  exact body p e s m _ below meth c _ ⟨B.exec, B.bytes, hml, findClass_of_methodNamed B.named, fun w h => hts w (List.mem_cons_of_mem _ h)⟩ B.returns B.notSynchronized hK hZ hl ⟨hP, hD, va_S.rf⟩
section KW
variable {p : Program} {l : Launch} {e : Env} {R : Room} {s : State} {m : MethodId} {args : Array Value} {below : List Frame} {meth : Method} {c : Code} {H : Heap} {locs : List Loc} {Q : State → Prop}
variable {cc : ByteArray} {nL pc : Nat} {ls : Array Slot} {rest st0 : List Value} {D : va_G} {tys : List (ClassId × FieldType)} {wf : vS → va_W} {A : Nat → Prop} {σ σ' : vS} {Ts : List Cond} {own : String}
theorem kret_v (hcf : CallFix p m c cc nL s args Ts own) (hr : meth.sig.returnType = none) (hlk : meth.locks = false) (hK : va_K D vwCl tys s) (hw : k_H D wf A σ s.heap H locs) (h : σ' = σ)
    (hQ : MQ below (k_Q D tys wf A none σ') args s 0 0 A = Q) (hdg : decode cc pc = .ok (.return_, 1)) : W p l e R s m args below meth c H locs 0 0 Q (F0 m pc ls []) := by
  subst hQ; subst h
  exact W.vret hcf.1 hcf.2.1 hr (fun t ht hW => ⟨rfl, ⟨by rw [ht]; exact hw.1, va_K.moved hW.alike hK, hw.2.1⟩, hw.2.2.F ht⟩) hw.2.2.2.2 hdg hlk
theorem kret_i {v r : Int32} (hcf : CallFix p m c cc nL s args Ts own) (hr : meth.sig.returnType = some .int) (hlk : meth.locks = false) (hK : va_K D vwCl tys s) (hw : k_H D wf A σ s.heap H locs) (h : r = v ∧ σ' = σ)
    (hQ : MQ below (k_Q D tys wf A (some (.int r)) σ') args s 0 0 A = Q) (hdg : decode cc pc = .ok (.ireturn, 1)) : W p l e R s m args below meth c H locs 0 0 Q (F0 m pc ls [.int v]) := by
  subst hQ; obtain ⟨rfl, rfl⟩ := h
  exact W.iret hcf.1 hcf.2.1 hr (fun t ht hW => ⟨rfl, ⟨by rw [ht]; exact hw.1, va_K.moved hW.alike hK, hw.2.1⟩, hw.2.2.F ht⟩) hw.2.2.2.2 hdg hlk
theorem kretP_i {v r : Int32} (hcf : CallFix p m c cc nL s args Ts own) (hr : meth.sig.returnType = some .int) (hlk : meth.locks = false) (hK : va_K D vwCl tys s) (hw : k_H D wf A σ s.heap s.heap []) (h : r = v)
    (hQ : MQ below (k_QP (.int r)) args s 0 0 (fun _ => False) = Q) (hdg : decode cc pc = .ok (.ireturn, 1)) : W p l e R s m args below meth c s.heap [] 0 0 Q (F0 m pc ls [.int v]) := by
  subst hQ; subst h
  exact W.iret hcf.1 hcf.2.1 hr (fun t ht hW => ⟨rfl, ht⟩) (fun q hq => by cases hq) hdg hlk
theorem kret_l {v r : Int64} (hcf : CallFix p m c cc nL s args Ts own) (hr : meth.sig.returnType = some .long) (hlk : meth.locks = false) (hK : va_K D vwCl tys s) (hw : k_H D wf A σ s.heap H locs) (h : r = v ∧ σ' = σ)
    (hQ : MQ below (k_Q D tys wf A (some (.long r)) σ') args s 0 0 A = Q) (hdg : decode cc pc = .ok (.lreturn, 1)) : W p l e R s m args below meth c H locs 0 0 Q (F0 m pc ls [.long v]) := by
  subst hQ; obtain ⟨rfl, rfl⟩ := h
  exact W.lret hcf.1 hcf.2.1 hr (fun t ht hW => ⟨rfl, ⟨by rw [ht]; exact hw.1, va_K.moved hW.alike hK, hw.2.1⟩, hw.2.2.F ht⟩) hw.2.2.2.2 hdg hlk
theorem kretP_l {v r : Int64} (hcf : CallFix p m c cc nL s args Ts own) (hr : meth.sig.returnType = some .long) (hlk : meth.locks = false) (hK : va_K D vwCl tys s) (hw : k_H D wf A σ s.heap s.heap []) (h : r = v)
    (hQ : MQ below (k_QP (.long r)) args s 0 0 (fun _ => False) = Q) (hdg : decode cc pc = .ok (.lreturn, 1)) : W p l e R s m args below meth c s.heap [] 0 0 Q (F0 m pc ls [.long v]) := by
  subst hQ; subst h
  exact W.lret hcf.1 hcf.2.1 hr (fun t ht hW => ⟨rfl, ht⟩) (fun q hq => by cases hq) hdg hlk
theorem kret_z {v r : Int32} {ty : FieldType} (hcf : CallFix p m c cc nL s args Ts own) (hr : meth.sig.returnType = some ty) (hlk : meth.locks = false) (hK : va_K D vwCl tys s) (hw : k_H D wf A σ s.heap H locs) (h : r = v ∧ σ' = σ)
    (hQ : MQ below (k_Q D tys wf A (some (.int r)) σ') args s 0 0 A = Q) (hn : narrow ty (.int v) = .int v) (hdg : decode cc pc = .ok (.ireturn, 1)) : W p l e R s m args below meth c H locs 0 0 Q (F0 m pc ls [.int v]) := by
  subst hQ; obtain ⟨rfl, rfl⟩ := h
  exact W.zret hcf.1 hcf.2.1 hr hn (fun t ht hW => ⟨rfl, ⟨by rw [ht]; exact hw.1, va_K.moved hW.alike hK, hw.2.1⟩, hw.2.2.F ht⟩) hw.2.2.2.2 hdg hlk
theorem kretP_z {v r : Int32} {ty : FieldType} (hcf : CallFix p m c cc nL s args Ts own) (hr : meth.sig.returnType = some ty) (hlk : meth.locks = false) (hK : va_K D vwCl tys s) (hw : k_H D wf A σ s.heap s.heap []) (h : r = v)
    (hQ : MQ below (k_QP (.int r)) args s 0 0 (fun _ => False) = Q) (hn : narrow ty (.int v) = .int v) (hdg : decode cc pc = .ok (.ireturn, 1)) : W p l e R s m args below meth c s.heap [] 0 0 Q (F0 m pc ls [.int v]) := by
  subst hQ; subst h
  exact W.zret hcf.1 hcf.2.1 hr hn (fun t ht hW => ⟨rfl, ht⟩) (fun q hq => by cases hq) hdg hlk
theorem k_call {r : Option Value} {a : Array Value} (hr : va_Run p l e R s m args below meth c H locs 0 0 0 0 (F0 m pc ls st0) rest (k_Q D tys wf A r σ' a) A) (hw : k_H D wf A σ s.heap H locs)
    (kk : ∀ (H1 : Heap) (locs1 : List Loc), k_H D wf A σ' s.heap H1 locs1 → W p l e R s m args below meth c H1 locs1 0 0 Q (F0 m (pc + 3) ls (r.toList ++ rest))) : W p l e R s m args below meth c H locs 0 0 Q (F0 m pc ls st0) := by
  intro T hT X
  obtain ⟨v, st₀, t, T', L, h0, X', hL, e1, e2, ⟨hv, hB, hz, hk⟩, st⟩ := hr T hT X
  cases hv
  rw [h0] at hz hk
  have hS := hw.2.2
  obtain ⟨t2, a1, b1⟩ := kk T'.heap (locs ++ L) ⟨by rw [e1]; exact hB.1, hB.2.2,
    Nat.le_trans hS.1 (by rw [e1]; exact hz), fun q h1 h2 => by rw [e1, hk q (Nat.lt_of_lt_of_le h1 hS.1) h2]; exact hS.2.1 q h1 h2, fun q hq => by
      rcases List.mem_append.mp hq with h | h
      · exact hS.2.2 q h
      · exact hL q h⟩ T' rfl X'
  exact ⟨t2, st t2 a1, b1⟩
theorem k_callP {r : Value} {a : Array Value} (hr : va_Run p l e R s m args below meth c H locs 0 0 0 0 (F0 m pc ls st0) rest (k_QP r a) (fun _ => False))
    (kk : W p l e R s m args below meth c H locs 0 0 Q (F0 m (pc + 3) ls (r :: rest))) : W p l e R s m args below meth c H locs 0 0 Q (F0 m pc ls st0) := by
  intro T hT X
  obtain ⟨v, st₀, t, T', L, h0, X', hL, e1, e2, ⟨hv, hh⟩, st⟩ := hr T hT X
  cases hv
  have hL0 : L = [] := by
    cases L with
    | nil => rfl
    | cons q L => exact absurd (hL q List.mem_cons_self) (fun h => h)
  subst hL0
  rw [List.append_nil] at X'
  obtain ⟨t2, a1, b1⟩ := kk T' (by rw [e1, hh, h0]) X'
  exact ⟨t2, st t2 a1, b1⟩
theorem k_blind {av : List Value} : FrameBlind (va_Pc av (fun U => k_B D tys wf σ U ∧ k_N U)) := fun a U g mk q => ⟨q.1, ⟨q.2.1.1, va_K.moved (u := U) (U := U.calling g mk a) (Vm.Alike.refl U.vm) q.2.1.2.1, q.2.1.2.2⟩, k_N.same (s := U) rfl q.2.2⟩
theorem k_pre {av : List Value} (hK : va_K D vwCl tys s) (hZ : k_N s) (hw : k_H D wf A σ s.heap H locs) : ∀ U : State, U.heap = H → s.WarmedH U.vm → va_Pc av (fun U => k_B D tys wf σ U ∧ k_N U) av.toArray U :=
  fun U hU hW => ⟨rfl, ⟨by rw [hU]; exact hw.1, va_K.moved hW.alike hK, hw.2.1⟩, hZ.warm hW⟩
end KW
theorem nz_0 : narrow .boolean (.int 0) = .int 0 ∧ fits .boolean (.int 0) = true := ⟨rfl, rfl⟩
theorem nz_1 : narrow .boolean (.int 1) = .int 1 ∧ fits .boolean (.int 1) = true := ⟨rfl, rfl⟩
abbrev k_abs (x : Int64) : Int64 := if 0 < x then x else -x
