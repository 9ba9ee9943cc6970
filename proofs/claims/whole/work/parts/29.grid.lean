/-! A new array of arrays (two dimensions): the machine's own steps, and the row for a walk. -/
section KMA
def km_in (cI : ClassId) (k : Nat) (z : Value) : Cell := { cls := cI, slots := Array.replicate k z, vm := .none }
def km_out (cO : ClassId) (n b : Nat) : Nat → Cell
  | 0 => { cls := cO, slots := Array.replicate n .null, vm := .none }
  | i + 1 => (km_out cO n b i).setSlot i (.ref (b + 1 + i))
def km_st (u : State) (cO cI : ClassId) (n k : Nat) (z : Value) : Nat → State
  | 0 => u.pushCell (km_out cO n u.heap.size 0)
  | i + 1 => ((km_st u cO cI n k z i).pushCell (km_in cI k z)).setCell u.heap.size (km_out cO n u.heap.size (i + 1))
theorem km_out_f (cO : ClassId) (n b i : Nat) : (km_out cO n b i).cls = cO ∧ (km_out cO n b i).vm = .none ∧ (km_out cO n b i).slots.size = n := by
  induction i with
  | zero => exact ⟨rfl, rfl, by simp [km_out]⟩
  | succ i ih => exact ⟨by simp [km_out, Cell.setSlot, ih.1], by simp [km_out, Cell.setSlot, ih.2.1], by simp [km_out, Cell.setSlot, ih.2.2]⟩
theorem km_st_f (u : State) (cO cI : ClassId) (n k : Nat) (z : Value) (i : Nat) : (km_st u cO cI n k z i).heap.size = u.heap.size + 1 + i ∧ (km_st u cO cI n k z i).heap[u.heap.size]? = some (km_out cO n u.heap.size i) ∧ (km_st u cO cI n k z i).vm = u.vm ∧ (km_st u cO cI n k z i).slotsUsed = u.slotsUsed + n + i * k := by
  induction i with
  | zero => exact ⟨by simp [km_st], by simp [km_st], rfl, by simp [km_st, km_out]⟩
  | succ i ih =>
    obtain ⟨a, b, d, w⟩ := ih
    have hlt : u.heap.size < (km_st u cO cI n k z i).heap.size := by omega
    have hb : ((km_st u cO cI n k z i).pushCell (km_in cI k z)).heap[u.heap.size]? = some (km_out cO n u.heap.size i) := by rw [State.heap_pushCell_of_lt (h := hlt)]; exact b
    refine ⟨?_, State.heap_setCell_self hb, by simp [km_st, d], ?_⟩
    · simp [km_st, State.setCell, a]; omega
    · simp [km_st, w, km_in, Nat.succ_mul]; omega
theorem km_st_top (u : State) (f : JFrame) (cO cI : ClassId) (n k : Nat) (z : Value) (i : Nat) : km_st (u.setTop f) cO cI n k z i = (km_st u cO cI n k z i).setTop f := by
  induction i with
  | zero => rfl
  | succ i ih => simp only [km_st, ih, State.heap_setTop, State.pushCell_setTop, State.setCell_setTop]
theorem km_st_old (u : State) (cO cI : ClassId) (n k : Nat) (z : Value) {q : Addr} (hq : q < u.heap.size) (i : Nat) : (km_st u cO cI n k z i).heap[q]? = u.heap[q]? := by
  induction i with
  | zero => exact State.heap_pushCell_of_lt _ _ hq
  | succ i ih =>
    have f1 := (km_st_f u cO cI n k z i).1
    have hlt : q < (km_st u cO cI n k z i).heap.size := Nat.lt_of_lt_of_le hq (by rw [f1]; omega)
    show (((km_st u cO cI n k z i).pushCell (km_in cI k z)).setCell u.heap.size _).heap[q]? = _
    rw [State.heap_setCell_other (Nat.ne_of_gt hq), State.heap_pushCell_of_lt (h := hlt)]
    exact ih
theorem km_st_in (u : State) (cO cI : ClassId) (n k : Nat) (z : Value) (i j : Nat) (hj : j < i) : (km_st u cO cI n k z i).heap[u.heap.size + 1 + j]? = some (km_in cI k z) := by
  induction i with
  | zero => exact absurd hj (Nat.not_lt_zero _)
  | succ i ih =>
    have f1 := (km_st_f u cO cI n k z i).1
    show (((km_st u cO cI n k z i).pushCell (km_in cI k z)).setCell u.heap.size _).heap[u.heap.size + 1 + j]? = _
    rw [State.heap_setCell_other (show u.heap.size ≠ u.heap.size + 1 + j by omega)]
    rcases Nat.lt_or_ge j i with h | h
    · have hlt2 : u.heap.size + 1 + j < (km_st u cO cI n k z i).heap.size := by rw [f1]; omega
      rw [State.heap_pushCell_of_lt (h := hlt2)]
      exact ih h
    · have e : j = i := by omega
      subst e
      rw [← f1]
      exact State.heap_pushCell_size _ _
theorem km_out_s (cO : ClassId) (n b i j : Nat) (hj : j < n) : (km_out cO n b i).slots[j]? = some (if j < i then .ref (b + 1 + j) else .null) := by
  induction i with
  | zero => simp [km_out, hj]
  | succ i ih =>
    have hs := (km_out_f cO n b i).2.2
    show ((km_out cO n b i).setSlot i (.ref (b + 1 + i))).slots[j]? = _
    simp only [Cell.setSlot, Array.getElem?_setIfInBounds]
    by_cases e : i = j
    · subst e; simp [hs, hj]
    · rw [if_neg e, ih]
      by_cases h : j < i
      · rw [if_pos h, if_pos (by omega)]
      · rw [if_neg h, if_neg (by omega)]
end KMA
theorem km_out_e (cO : ClassId) (n b : Nat) : km_out cO n b n = arrV cO n (fun j => va_rf (some (b + 1 + j))) := by
  have h : ∀ i, km_out cO n b i = { cls := cO, slots := (km_out cO n b i).slots, vm := .none } := by
    intro i
    induction i with
    | zero => rfl
    | succ i ih =>
      show (km_out cO n b i).setSlot i (.ref (b + 1 + i)) = _
      rw [ih]
      rfl
  rw [h n]
  show ({ cls := cO, slots := (km_out cO n b n).slots, vm := .none } : Cell) = { cls := cO, slots := Array.ofFn (n := n) fun j => va_rf (some (b + 1 + j.val)), vm := .none }
  have e : (km_out cO n b n).slots = Array.ofFn (n := n) fun j => va_rf (some (b + 1 + j.val)) := by
    apply Array.ext
    · rw [(km_out_f cO n b n).2.2]; simp
    · intro i h1 h2
      have hi : i < n := by rw [(km_out_f cO n b n).2.2] at h1; exact h1
      have h3 := km_out_s cO n b n i hi
      rw [if_pos hi, Array.getElem?_eq_getElem h1] at h3
      rw [Option.some.inj h3]
      simp [va_rf]
  rw [e]
theorem km_in_e (cI : ClassId) (k : Nat) (z : Value) : km_in cI k z = arrV cI k (fun _ => z) := by
  show ({ cls := cI, slots := Array.replicate k z, vm := .none } : Cell) = { cls := cI, slots := Array.ofFn (n := k) fun _ => z, vm := .none }
  have e : Array.replicate k z = Array.ofFn (n := k) fun _ => z := by
    apply Array.ext
    · simp
    · intro i h1 h2; simp
  rw [e]
section KMW
variable {E : CtlPost} {e : Env} {d : Bool} {acts : List Action} {u : State}
theorem km_row {cI cc : ClassId} {kI : Class} {type : FieldType} {m : Int32} (hk : u.vm.classes[cI]? = some kI) (hkind : kI.kind = .array cc type) (hm : ¬ m < 0)
    (hl : ¬ m.toNatClampNeg > e.platform.arrayLengthLimit) (hh : ¬ m.toNatClampNeg * componentBytes type > e.platform.maxHeapBytes) (hf : fits type (defaultValue type) = true)
    (h1 : u.heap.size < e.platform.maxCells) (h2 : u.slotsUsed + m.toNatClampNeg ≤ e.platform.maxSlots) {Q : Addr → Pre} (hq : ∀ acts', Q u.heap.size d acts' (u.pushCell (km_in cI m.toNatClampNeg (defaultValue type)))) :
    wp (Op.multianewarray.make cI [m]) Q E e d acts u := by
  rw [Op.multianewarray.make]
  simp only [wp_bind', W.ite, hm, if_false, wp_pure', W.theClass, hk, hkind, Option.some.injEq, exists_eq_left']
  exact W.newArray_of hk hkind hl hh h1 h2 hf hq
theorem km_grid {cO cI cc : ClassId} {kO kI : Class} {t0 type : FieldType} {n m : Int32} (hk : u.vm.classes[cO]? = some kO) (hkind : kO.kind = .array cI t0) (hr : t0.isReference = true) (hk2 : u.vm.classes[cI]? = some kI) (hkind2 : kI.kind = .array cc type) (hn : ¬ n < 0) (hm : ¬ m < 0)
    (hl : ¬ n.toNatClampNeg > e.platform.arrayLengthLimit) (hh : ¬ n.toNatClampNeg * componentBytes t0 > e.platform.maxHeapBytes) (hl2 : ¬ m.toNatClampNeg > e.platform.arrayLengthLimit) (hh2 : ¬ m.toNatClampNeg * componentBytes type > e.platform.maxHeapBytes) (hf : fits type (defaultValue type) = true)
    (h1 : u.heap.size + 1 + n.toNatClampNeg ≤ e.platform.maxCells) (h2 : u.slotsUsed + n.toNatClampNeg + n.toNatClampNeg * m.toNatClampNeg ≤ e.platform.maxSlots)
    {Q : Addr → Pre} (hq : ∀ d' acts', Q u.heap.size d' acts' (km_st u cO cI n.toNatClampNeg m.toNatClampNeg (defaultValue type) n.toNatClampNeg)) : wp (Op.multianewarray.make cO [n, m]) Q E e d acts u := by
  have hfr : ∀ v : Value, (v = .null ∨ ∃ a, v = .ref a) → fits t0 v = true := by
    intro v hv
    rcases hv with rfl | ⟨a, rfl⟩ <;> cases t0 <;> simp [FieldType.isReference] at hr <;> rfl
  have hfind : ([m].find? (· < 0)) = none := by simp [hm]
  rw [Op.multianewarray.make]
  simp only [wp_bind', W.ite, hn, if_false, wp_pure', W.theClass, hk, hkind, Option.some.injEq, exists_eq_left']
  refine W.newArray_of hk hkind hl hh (by omega) (by have := Nat.zero_le (n.toNatClampNeg * m.toNatClampNeg); omega) (hfr _ (Or.inl rfl)) (fun acts1 => ?_)
  simp only [hfind]
  rw [ite_self, wp_bind', Std.Legacy.Range.forIn_eq_forIn_range']
  have hsz : ([:n.toNatClampNeg] : Std.Legacy.Range).size = n.toNatClampNeg := by simp [Std.Legacy.Range.size]
  rw [hsz]
  show wp (forIn (List.range' 0 n.toNatClampNeg 1) PUnit.unit _) _ E e d acts1 _
  refine wp_forIn_inv (fun rest v => ∃ i, i ≤ n.toNatClampNeg ∧ rest = List.range' i (n.toNatClampNeg - i) ∧ v = km_st u cO cI n.toNatClampNeg m.toNatClampNeg (defaultValue type) i) _ _ ⟨0, Nat.zero_le _, rfl, rfl⟩ ?_ ?_
  · rintro x rest v d' acts' Q' ⟨i, hi, hlist, rfl⟩ hnext
    have hlt : i < n.toNatClampNeg := by
      rcases Nat.lt_or_ge i n.toNatClampNeg with h | h
      · exact h
      · rw [show n.toNatClampNeg - i = 0 by omega] at hlist; simp at hlist
    rw [show n.toNatClampNeg - i = (n.toNatClampNeg - (i + 1)) + 1 by omega, List.range'_succ] at hlist
    obtain ⟨rfl, hrest⟩ : x = i ∧ rest = List.range' (i + 1) (n.toNatClampNeg - (i + 1)) := ⟨(List.cons.inj hlist).1, (List.cons.inj hlist).2⟩
    obtain ⟨f1, f2, f3, f4⟩ := km_st_f u cO cI n.toNatClampNeg m.toNatClampNeg (defaultValue type) x
    obtain ⟨o1, o2, o3⟩ := km_out_f cO n.toNatClampNeg u.heap.size x
    have hmul : x * m.toNatClampNeg + m.toNatClampNeg ≤ n.toNatClampNeg * m.toNatClampNeg := by
      have := Nat.mul_le_mul_right m.toNatClampNeg (show x + 1 ≤ n.toNatClampNeg from hlt)
      rw [Nat.succ_mul] at this; exact this
    simp only [wp_bind']
    refine km_row (by rw [f3]; exact hk2) hkind2 hm hl2 hh2 hf (by rw [f1]; omega) (by rw [f4]; omega) (fun acts2 => ?_)
    have hlt0 : u.heap.size < (km_st u cO cI n.toNatClampNeg m.toNatClampNeg (defaultValue type) x).heap.size := by rw [f1]; omega
    simp only [wp_bind', W.writeLoc, wp_pure']
    refine ⟨km_out cO n.toNatClampNeg u.heap.size x, by rw [State.heap_pushCell_of_lt (h := hlt0)]; exact f2, by rw [o2]; simp, by rw [o3]; exact hlt, ?_, hnext _ _ _ ⟨x + 1, hlt, hrest, ?_⟩⟩
    · rw [o1, o2]
      simp [State.fitsSlot, State.slotType?, f3, hk, hkind, hfr _ (Or.inr ⟨_, rfl⟩)]
    · rw [f1]; rfl
  · rintro v d' acts' ⟨i, hi, hlist, rfl⟩
    have hin : i = n.toNatClampNeg := by
      rcases Nat.lt_or_ge i n.toNatClampNeg with h | h
      · rw [show n.toNatClampNeg - i = (n.toNatClampNeg - (i + 1)) + 1 by omega, List.range'_succ] at hlist; cases hlist
      · omega
    subst hin
    simp only [wp_pure']
    exact hq _ _
end KMW
section KMS
variable {p : Program} {l : Launch} {e : Env} {R : Room} {s : State} {m : MethodId} {args : Array Value} {below : List Frame} {meth : Method} {c : Code} {H H0 : Heap} {locs : List Loc} {cells slots : Nat} {Q : State → Prop}
variable {cc : ByteArray} {nL pc : Nat} {ls : Array Slot} {rest : List Value} {D : va_G} {A : Nat → Prop} {own : String} {L : va_W}
theorem km_stand {T : State} (X : Stand p l e R s m args below meth c T locs cells slots) (cO cI : ClassId) (n k : Nat) (z : Value) (i : Nat) :
    Stand p l e R s m args below meth c (km_st T cO cI n k z i) (locs ++ (List.range i).map fun j => ⟨T.heap.size, j⟩) (cells + 1 + i) (slots + n + i * k) := by
  induction i with
  | zero =>
    have h := X.pushed (km_out cO n T.heap.size 0)
    rw [(km_out_f cO n T.heap.size 0).2.2] at h
    simpa [km_st] using h
  | succ i ih =>
    obtain ⟨f1, f2, f3, f4⟩ := km_st_f T cO cI n k z i
    have hlt0 : T.heap.size < (km_st T cO cI n k z i).heap.size := by rw [f1]; omega
    have hcell : ((km_st T cO cI n k z i).pushCell (km_in cI k z)).heap[T.heap.size]? = some (km_out cO n T.heap.size i) := by rw [State.heap_pushCell_of_lt (h := hlt0)]; exact f2
    have h := (ih.pushed (km_in cI k z)).stored hcell i (.ref (T.heap.size + 1 + i))
    have e1 : (km_in cI k z).slots.size = k := by simp [km_in]
    rw [e1] at h
    have e2 : (locs ++ (List.range (i + 1)).map fun j => (⟨T.heap.size, j⟩ : Loc)) = (locs ++ (List.range i).map fun j => (⟨T.heap.size, j⟩ : Loc)) ++ [⟨T.heap.size, i⟩] := by simp [List.range_succ, List.append_assoc]
    have e3 : slots + n + (i + 1) * k = slots + n + i * k + k := by rw [Nat.succ_mul]; omega
    rw [e2, e3]
    exact h
def km_L (q n : Nat) (cO cI : ClassId) (E : vp_A) : va_W := (q, .inl (cO, n, .inr (.inr (.inr (.inr fun j => some (q + 1 + j)))))) :: (List.range n).map (fun j => (q + 1 + j, .inl (cI, E)))
theorem km_L_at {q n : Nat} {cO cI : ClassId} {E : vp_A} {k : Nat} {x : Nat × va_E} (h : (km_L q n cO cI E)[k]? = some x) : x.1 = q + k ∧ ((k = 0 ∧ x.2 = .inl (cO, n, .inr (.inr (.inr (.inr fun j => some (q + 1 + j)))))) ∨ (1 ≤ k ∧ k - 1 < n ∧ x.2 = .inl (cI, E))) := by
  cases k with
  | zero =>
    simp [km_L] at h
    subst h
    exact ⟨rfl, Or.inl ⟨rfl, rfl⟩⟩
  | succ k =>
    simp [km_L] at h
    obtain ⟨j, hj, rfl⟩ := h
    have hk : k < n := by have := (List.getElem?_eq_some_iff.mp hj).1; simpa using this
    rw [List.getElem?_range hk] at hj
    cases hj
    exact ⟨by show q + 1 + k = q + (k + 1); omega, Or.inr ⟨by omega, by omega, rfl⟩⟩
theorem k_manew {cO cI c0 : ClassId} {kO kI : Class} {ty : FieldType} {index N K : Nat} {n k : Int32} {E : vp_A} (hcf : CallFix p m c cc nL s args kws own)
    (hcl : (Cond.classLink own index ("[" ++ (FieldType.array ty).toString)).before args s = true) (hfA : s.vm.findClass ("[" ++ (FieldType.array ty).toString) = some cO)
    (hkO : s.vm.classes[cO]? = some kO) (hkindO : kO.kind = .array cI (.array ty)) (hkI : s.vm.classes[cI]? = some kI) (hkindI : kI.kind = .array c0 ty)
    (hE : vp_cell cI E = arrV cI K (fun _ => defaultValue ty)) (hf : fits ty (defaultValue ty) = true)
    (hP : va_P D vwCl L H) (hD : va_D A L) (hS : va_S A H0 H locs) (hA : ∀ q, H0.size ≤ q → A q)
    (hn : ¬ n < 0) (hk : ¬ k < 0) (hN : n.toNatClampNeg = N) (hKn : k.toNatClampNeg = K) (hb1 : N * 4 ≤ 536870912) (hb2 : K * componentBytes ty ≤ 536870912) (hb3 : K ≤ 536870912)
    (hcells : cells + (1 + N) ≤ R.cells) (hslots : slots + (N + N * K) ≤ R.slots) (hdg : decode cc pc = .ok (.multianewarray index 2, 4))
    (kk : ∀ (q : Nat) (H1 : Heap) (locs1 : List Loc), va_P D vwCl (L ++ km_L q N cO cI E) H1 → va_D A (L ++ km_L q N cO cI E) → va_S A H0 H1 locs1 → W p l e R s m args below meth c H1 locs1 (cells + 1 + N) (slots + N + N * K) Q (F0 m (pc + 4) ls (.ref q :: rest))) :
    W p l e R s m args below meth c H locs cells slots Q (F0 m pc ls (.int k :: .int n :: rest)) := by
  intro T hT X
  subst hN; subst hKn
  obtain ⟨hexec, hb, -, hown, -⟩ := hcf
  have hpl : e.platform.magicAccessors = ({} : Platform).magicAccessors := by rw [X.admits.platform]
  obtain ⟨cO', hfc0, hcl2⟩ := Cond.classLink_spec hown hcl e.platform hpl
  cases hfA.symm.trans hfc0
  obtain ⟨hg₁, hwarm₁, hready₁⟩ := State.classEntry (e := e) X.warmed hcl2
  generalize T.vm.noted m.cls index (.cls cO) = vm₁ at hg₁ hwarm₁ hready₁
  have hal : s.vm.Alike vm₁ := hwarm₁.alike
  obtain ⟨kO₁, hkO₁, heO⟩ := hal.2.2 _ _ hkO
  obtain ⟨kI₁, hkI₁, heI⟩ := hal.2.2 _ _ hkI
  have hkindO₁ : kO₁.kind = .array cI (.array ty) := by rw [heO]; exact hkindO
  have hkindI₁ : kI₁.kind = .array c0 ty := by rw [heI]; exact hkindI
  have X₁ := X.noted hwarm₁
  obtain ⟨hr1, hr2⟩ := X.roomAbove hcells hslots
  have XF := km_stand X₁ cO cI n.toNatClampNeg k.toNatClampNeg (defaultValue ty) n.toNatClampNeg
  have hTs : (T.setVm vm₁).heap.size = H.size := by show T.heap.size = _; rw [hT]
  have hold : ∀ q : Nat, q < H.size → (km_st (T.setVm vm₁) cO cI n.toNatClampNeg k.toNatClampNeg (defaultValue ty) n.toNatClampNeg).heap[q]? = H[q]? := by
    intro q hq
    rw [km_st_old (T.setVm vm₁) cO cI _ _ _ (by rw [hTs]; exact hq)]
    show T.heap[q]? = _
    rw [hT]
  have hnew : va_P D vwCl (km_L H.size n.toNatClampNeg cO cI E) (km_st (T.setVm vm₁) cO cI n.toNatClampNeg k.toNatClampNeg (defaultValue ty) n.toNatClampNeg).heap := by
    intro i x hx
    obtain ⟨e1, h | h⟩ := km_L_at hx
    · obtain ⟨a, b⟩ := x
      obtain ⟨rfl, hb2⟩ := h
      simp only at e1 hb2
      subst hb2; subst e1
      show _ = some (vp_cell cO _)
      rw [vp_cell_q, ← km_out_e, ← hTs]
      exact (km_st_f (T.setVm vm₁) cO cI n.toNatClampNeg k.toNatClampNeg (defaultValue ty) n.toNatClampNeg).2.1
    · obtain ⟨a, b⟩ := x
      obtain ⟨h1, h2, hb2⟩ := h
      simp only at e1 hb2
      subst hb2; subst e1
      show _ = some (vp_cell cI E)
      rw [hE, ← km_in_e, ← hTs]
      have := km_st_in (T.setVm vm₁) cO cI n.toNatClampNeg k.toNatClampNeg (defaultValue ty) n.toNatClampNeg (i - 1) h2
      rw [show (T.setVm vm₁).heap.size + 1 + (i - 1) = (T.setVm vm₁).heap.size + i by omega] at this
      exact this
  have hDn : va_D A (km_L H.size n.toNatClampNeg cO cI E) := by
    refine ⟨fun i j x y hx hy hxy => ?_, fun i x hx => ?_⟩
    · have h1 := (km_L_at hx).1
      have h2 := (km_L_at hy).1
      omega
    · rw [(km_L_at hx).1]
      exact hA _ (Nat.le_trans hS.1 (Nat.le_add_right _ _))
  obtain ⟨t, a1, b1⟩ := kk H.size _ _
    (va_P.app (fun i x hx => (hP i x hx).kept (hold x.1 (hP i x hx).lt)) hnew)
    (va_D.app hD hDn (fun i j x y hx hy hxy => by
      have h1 := (hP i x hx).lt
      have h2 := (km_L_at hy).1
      omega))
    (show va_S A H0 (km_st (T.setVm vm₁) cO cI n.toNatClampNeg k.toNatClampNeg (defaultValue ty) n.toNatClampNeg).heap (locs ++ (List.range n.toNatClampNeg).map fun j => ⟨(T.setVm vm₁).heap.size, j⟩) from
      ⟨by rw [(km_st_f (T.setVm vm₁) cO cI _ _ _ _).1, hTs]; have := hS.1; omega, fun q h1 h2 => by rw [hold q (Nat.lt_of_lt_of_le h1 hS.1)]; exact hS.2.1 q h1 h2, fun q hq => by
        rcases List.mem_append.mp hq with h | h
        · exact hS.2.2 q h
        · obtain ⟨j, -, rfl⟩ := List.mem_map.mp h
          exact hA _ (by show H0.size ≤ (T.setVm vm₁).heap.size; rw [hTs]; exact hS.1)⟩)
    _ rfl XF
  refine ⟨t, ?_, b1⟩
  have hl1 : ¬ n.toNatClampNeg > e.platform.arrayLengthLimit := by rw [Launch.admits_arrayLengthLimit X.admits]; omega
  have hh1 : ¬ n.toNatClampNeg * componentBytes (.array ty) > e.platform.maxHeapBytes := by
    rw [Launch.admits_maxHeapBytes X.admits]; show ¬ n.toNatClampNeg * 4 > 536870912; omega
  have hl2 : ¬ k.toNatClampNeg > e.platform.arrayLengthLimit := by rw [Launch.admits_arrayLengthLimit X.admits]; omega
  have hh2 : ¬ k.toNatClampNeg * componentBytes ty > e.platform.maxHeapBytes := by rw [Launch.admits_maxHeapBytes X.admits]; omega
  have hdg' : decode c.code pc = .ok (.multianewarray index 2, 4) := by rw [hb]; exact hdg
  jvm_step X.here [hexec, hdg']
  simp only [Op.multianewarray.sem, wp_bind', W.resolveClassAt_links (State.method?_setTop (F0 m pc ls (.int k :: .int n :: rest)) X.here.top) hg₁]
  rw [W.popN, if_neg (by decide)]
  refine ⟨F0 m pc ls (.int k :: .int n :: rest), State.topJava?_setTop' (s := T.setVm vm₁) _ X.here.top, [.int n, .int k], rest, rfl, rfl, ?_⟩
  simp only [List.mapM_cons, List.mapM_nil, wp_bind', wp_pure']
  refine km_grid (kO := kO₁) (kI := kI₁) (cI := cI) (cc := c0) (t0 := .array ty) (type := ty) hkO₁ hkindO₁ rfl hkI₁ hkindI₁ hn hk hl1 hh1 hl2 hh2 hf (by show T.heap.size + 1 + _ ≤ _; omega) (by show T.slotsUsed + _ + _ ≤ _; omega) (fun d' acts' => ?_)
  have eS : ((T.setTop (F0 m pc ls (.int k :: .int n :: rest))).setVm vm₁).setTop { F0 m pc ls (.int k :: .int n :: rest) with stack := rest } = (T.setVm vm₁).setTop { F0 m pc ls (.int k :: .int n :: rest) with stack := rest } := by
    show ((T.setVm vm₁).setTop _).setTop _ = _
    rw [State.setTop_setTop]
  rw [eS, km_st_top]
  simp only [wp_bind', W.mark, W.pushRef, State.topJava?_setTop' _ XF.here.top, Option.some.injEq, exists_eq_left', State.setTop_setTop, State.heap_setTop]
  intro acts
  simp [jvm, XF.here.top]
  rw [← hT] at a1
  exact a1
end KMS
