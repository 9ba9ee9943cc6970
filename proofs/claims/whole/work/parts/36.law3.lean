/-! The law's own walk: both systems, the answer's cell, the script. -/
def k_L (D : va_G) (cs : Nat → ClassId) (ad am : Nat → Nat) (ao : Nat) (s : State) (σK σM : vS) (ov : Nat → Int64) (H : Heap) (locs : List Loc) : Prop :=
  va_P D vwCl (wK cs ad σK) H ∧ va_P D vwCl (wM cs am σM) H ∧ va_P D vwCl [(ao, k_out cs ov)] H ∧ va_S (fun q => s.heap.size ≤ q) s.heap H locs
def k_AP (cs : Nat → ClassId) (ad am : Nat → Nat) (ao z : Nat) : Prop :=
  (∀ σ, va_D (fun _ => True) (wK cs ad σ)) ∧ (∀ σ, va_D (fun _ => True) (wM cs am σ)) ∧ (∀ i, i < 41 → z ≤ ad i) ∧ (∀ i, i < 17 → z ≤ am i) ∧ z ≤ ao ∧ (∀ i j, i < 41 → j < 17 → ad i ≠ am j) ∧ (∀ i, i < 41 → ad i ≠ ao) ∧ (∀ i, i < 17 → am i ≠ ao)
def k_EN (D : va_G) (cs : Nat → ClassId) (s : State) : Prop := va_K D vwCl (tK cs) s ∧ k_N s ∧ k_S s ∧ k_X s
section KL3
variable {p : Program} {l : Launch} {e : Env} {R : Room} {s : State} {m : MethodId} {args : Array Value} {below : List Frame} {meth : Method} {c : Code} {H : Heap} {locs : List Loc} {Q : State → Prop} {cells slots : Nat}
variable {pc : Nat} {ls : Array Slot} {rest st0 : List Value} {D : va_G} {cs : Nat → ClassId} {ad am : Nat → Nat} {ao : Nat} {σK σM σK' σM' : vS} {ov ov' : Nat → Int64} {a : Array Value}
theorem wK_in {k : Nat} {q : Nat × va_E} {σ : vS} (h : (wK cs ad σ)[k]? = some q) : k_A 41 ad q.1 := by
  have h1 : q.1 ∈ (wK cs ad σ).map Prod.fst := List.mem_map.mpr ⟨q, List.mem_of_getElem? h, rfl⟩
  rw [wK_ad] at h1
  obtain ⟨j, hj, e⟩ := List.mem_map.mp h1
  exact ⟨j, List.mem_range.mp hj, e.symm⟩
theorem wM_in {k : Nat} {q : Nat × va_E} {σ : vS} (h : (wM cs am σ)[k]? = some q) : k_A 17 am q.1 := by
  have h1 : q.1 ∈ (wM cs am σ).map Prod.fst := List.mem_map.mpr ⟨q, List.mem_of_getElem? h, rfl⟩
  rw [wM_ad] at h1
  obtain ⟨j, hj, e⟩ := List.mem_map.mp h1
  exact ⟨j, List.mem_range.mp hj, e.symm⟩
theorem k_one {k : Nat} {q : Nat × va_E} {x : Nat × va_E} (h : ([x] : va_W)[k]? = some q) : q = x := by
  cases k with
  | zero => cases h; rfl
  | succ k => cases h
theorem k_lcallP {r : Value} (hr : va_Run p l e R s m args below meth c H locs cells slots 0 0 (F0 m pc ls st0) rest (k_QP r a) (fun _ => False))
    (kk : W p l e R s m args below meth c H locs cells slots Q (F0 m (pc + 3) ls (r :: rest))) : W p l e R s m args below meth c H locs cells slots Q (F0 m pc ls st0) := by
  intro T hT X
  obtain ⟨v, st₀, t, T', L, h0, X', hL, e1, e2, ⟨hv, hh⟩, st⟩ := hr T hT X
  cases hv
  have hL0 : L = [] := by
    cases L with
    | nil => rfl
    | cons q L => exact absurd (hL q List.mem_cons_self) (fun h => h)
  subst hL0
  rw [List.append_nil] at X'
  obtain ⟨t2, a1, b1⟩ := kk T' (by rw [e1, hh, h0]) X'
  exact ⟨t2, st t2 a1, b1⟩
theorem k_lcallK {r : Option Value} (hap : k_AP cs ad am ao s.heap.size) (hr : va_Run p l e R s m args below meth c H locs cells slots 0 0 (F0 m pc ls st0) rest (k_Q D (tK cs) (wK cs ad) (k_A 41 ad) r σK' a) (k_A 41 ad)) (hL : k_L D cs ad am ao s σK σM ov H locs)
    (kk : ∀ (H1 : Heap) (locs1 : List Loc), k_L D cs ad am ao s σK' σM ov H1 locs1 → W p l e R s m args below meth c H1 locs1 cells slots Q (F0 m (pc + 3) ls (r.toList ++ rest))) : W p l e R s m args below meth c H locs cells slots Q (F0 m pc ls st0) := by
  intro T hT X
  obtain ⟨v, st₀, t, T', L, h0, X', hLf, e1, e2, ⟨hv, hB, hz, hk⟩, st⟩ := hr T hT X
  cases hv
  rw [h0] at hz hk
  obtain ⟨hPK, hPM, hPo, hS⟩ := hL
  obtain ⟨t2, a1, b1⟩ := kk T'.heap (locs ++ L) ⟨by rw [e1]; exact hB.1, fun i q hq => (hPM i q hq).kept (by
      rw [e1]; refine hk q.1 (hPM i q hq).lt (fun ⟨k, hk1, hk2⟩ => ?_)
      obtain ⟨j, hj1, hj2⟩ := wM_in hq
      exact hap.2.2.2.2.2.1 k j hk1 hj1 (hk2.symm.trans hj2)), fun i q hq => (hPo i q hq).kept (by
      have e := k_one hq
      rw [e1]; refine hk q.1 (hPo i q hq).lt (fun ⟨k, hk1, hk2⟩ => ?_)
      rw [e] at hk2
      exact hap.2.2.2.2.2.2.1 k hk1 hk2.symm),
    Nat.le_trans hS.1 (by rw [e1]; exact hz), fun q h1 h2 => by rw [e1, hk q (Nat.lt_of_lt_of_le h1 hS.1) (fun ⟨k, hk1, hk2⟩ => h2 (by rw [hk2]; exact hap.2.2.1 k hk1))]; exact hS.2.1 q h1 h2, fun q hq => by
      rcases List.mem_append.mp hq with h | h
      · exact hS.2.2 q h
      · obtain ⟨k, hk1, hk2⟩ := hLf q h
        show s.heap.size ≤ q.base
        rw [hk2]; exact hap.2.2.1 k hk1⟩ T' rfl X'
  exact ⟨t2, st t2 a1, b1⟩
theorem k_lcallM {r : Option Value} (hap : k_AP cs ad am ao s.heap.size) (hr : va_Run p l e R s m args below meth c H locs cells slots 0 0 (F0 m pc ls st0) rest (k_Q D (tM cs) (wM cs am) (k_A 17 am) r σM' a) (k_A 17 am)) (hL : k_L D cs ad am ao s σK σM ov H locs)
    (kk : ∀ (H1 : Heap) (locs1 : List Loc), k_L D cs ad am ao s σK σM' ov H1 locs1 → W p l e R s m args below meth c H1 locs1 cells slots Q (F0 m (pc + 3) ls (r.toList ++ rest))) : W p l e R s m args below meth c H locs cells slots Q (F0 m pc ls st0) := by
  intro T hT X
  obtain ⟨v, st₀, t, T', L, h0, X', hLf, e1, e2, ⟨hv, hB, hz, hk⟩, st⟩ := hr T hT X
  cases hv
  rw [h0] at hz hk
  obtain ⟨hPK, hPM, hPo, hS⟩ := hL
  obtain ⟨t2, a1, b1⟩ := kk T'.heap (locs ++ L) ⟨fun i q hq => (hPK i q hq).kept (by
      rw [e1]; refine hk q.1 (hPK i q hq).lt (fun ⟨k, hk1, hk2⟩ => ?_)
      obtain ⟨j, hj1, hj2⟩ := wK_in hq
      exact hap.2.2.2.2.2.1 j k hj1 hk1 (hj2.symm.trans hk2)), by rw [e1]; exact hB.1, fun i q hq => (hPo i q hq).kept (by
      have e := k_one hq
      rw [e1]; refine hk q.1 (hPo i q hq).lt (fun ⟨k, hk1, hk2⟩ => ?_)
      rw [e] at hk2
      exact hap.2.2.2.2.2.2.2 k hk1 hk2.symm),
    Nat.le_trans hS.1 (by rw [e1]; exact hz), fun q h1 h2 => by rw [e1, hk q (Nat.lt_of_lt_of_le h1 hS.1) (fun ⟨k, hk1, hk2⟩ => h2 (by rw [hk2]; exact hap.2.2.2.1 k hk1))]; exact hS.2.1 q h1 h2, fun q hq => by
      rcases List.mem_append.mp hq with h | h
      · exact hS.2.2 q h
      · obtain ⟨k, hk1, hk2⟩ := hLf q h
        show s.heap.size ≤ q.base
        rw [hk2]; exact hap.2.2.2.1 k hk1⟩ T' rfl X'
  exact ⟨t2, st t2 a1, b1⟩
theorem k_lcallH {r : Int32} (hap : k_AP cs ad am ao s.heap.size) (hr : va_Run p l e R s m args below meth c H locs cells slots 0 0 (F0 m pc ls st0) rest (k_HQ D cs ad ao r σK' ov' a) (k_HA ad ao)) (hL : k_L D cs ad am ao s σK σM ov H locs)
    (kk : ∀ (H1 : Heap) (locs1 : List Loc), k_L D cs ad am ao s σK' σM ov' H1 locs1 → W p l e R s m args below meth c H1 locs1 cells slots Q (F0 m (pc + 3) ls (.int r :: rest))) : W p l e R s m args below meth c H locs cells slots Q (F0 m pc ls st0) := by
  intro T hT X
  obtain ⟨v, st₀, t, T', L, h0, X', hLf, e1, e2, ⟨hv, hB, hBo, hz, hk⟩, st⟩ := hr T hT X
  cases hv
  rw [h0] at hz hk
  obtain ⟨hPK, hPM, hPo, hS⟩ := hL
  have big : ∀ q, k_HA ad ao q → s.heap.size ≤ q := fun q h => by
    rcases h with ⟨k, hk1, hk2⟩ | h
    · rw [hk2]; exact hap.2.2.1 k hk1
    · rw [h]; exact hap.2.2.2.2.1
  obtain ⟨t2, a1, b1⟩ := kk T'.heap (locs ++ L) ⟨by rw [e1]; exact hB.1, fun i q hq => (hPM i q hq).kept (by
      rw [e1]; refine hk q.1 (hPM i q hq).lt (fun h => ?_)
      obtain ⟨j, hj1, hj2⟩ := wM_in hq
      rcases h with ⟨k, hk1, hk2⟩ | h
      · exact hap.2.2.2.2.2.1 k j hk1 hj1 (hk2.symm.trans hj2)
      · exact hap.2.2.2.2.2.2.2 j hj1 (hj2.symm.trans h)), by rw [e1]; exact hBo,
    Nat.le_trans hS.1 (by rw [e1]; exact hz), fun q h1 h2 => by rw [e1, hk q (Nat.lt_of_lt_of_le h1 hS.1) (fun h => h2 (big q h))]; exact hS.2.1 q h1 h2, fun q hq => by
      rcases List.mem_append.mp hq with h | h
      · exact hS.2.2 q h
      · exact big _ (hLf q h)⟩ T' rfl X'
  exact ⟨t2, st t2 a1, b1⟩
theorem k_lcallT {r : Int32} (hr : va_Run p l e R s m args below meth c H locs cells slots 1 6 (F0 m pc ls st0) rest (k_HT r a) (fun _ => False)) (hL : k_L D cs ad am ao s σK σM ov H locs)
    (kk : ∀ (H1 : Heap) (locs1 : List Loc), k_L D cs ad am ao s σK σM ov H1 locs1 → W p l e R s m args below meth c H1 locs1 (cells + 1) (slots + 6) Q (F0 m (pc + 3) ls (.int r :: rest))) : W p l e R s m args below meth c H locs cells slots Q (F0 m pc ls st0) := by
  intro T hT X
  obtain ⟨v, st₀, t, T', L, h0, X', hLf, e1, e2, ⟨hv, hz, hk⟩, st⟩ := hr T hT X
  cases hv
  rw [h0] at hz hk
  obtain ⟨hPK, hPM, hPo, hS⟩ := hL
  obtain ⟨t2, a1, b1⟩ := kk T'.heap (locs ++ L) ⟨fun i q hq => (hPK i q hq).kept (by rw [e1]; exact hk q.1 (hPK i q hq).lt), fun i q hq => (hPM i q hq).kept (by rw [e1]; exact hk q.1 (hPM i q hq).lt), fun i q hq => (hPo i q hq).kept (by rw [e1]; exact hk q.1 (hPo i q hq).lt),
    Nat.le_trans hS.1 (by rw [e1]; exact hz), fun q h1 h2 => by rw [e1, hk q (Nat.lt_of_lt_of_le h1 hS.1)]; exact hS.2.1 q h1 h2, fun q hq => by
      rcases List.mem_append.mp hq with h | h
      · exact hS.2.2 q h
      · exact absurd (hLf q h) (fun h => h)⟩ T' rfl X'
  exact ⟨t2, st t2 a1, b1⟩
theorem k_lpreK {av : List Value} (hap : k_AP cs ad am ao s.heap.size) (hE : k_EN D cs s) (hL : k_L D cs ad am ao s σK σM ov H locs) : ∀ U : State, U.heap = H → s.WarmedH U.vm → va_Pc av (fun U => k_B D (tK cs) (wK cs ad) σK U ∧ k_N U) av.toArray U :=
  fun U hU hW => ⟨rfl, ⟨by rw [hU]; exact hL.1, va_K.moved hW.alike hE.1, hap.1 _⟩, hE.2.1.warm hW⟩
theorem k_tM (h : va_K D vwCl (tK cs) s) : va_K D vwCl (tM cs) s := h.sub [0, 1, 2, 3] rfl
theorem k_lpreM {av : List Value} (hap : k_AP cs ad am ao s.heap.size) (hE : k_EN D cs s) (hL : k_L D cs ad am ao s σK σM ov H locs) : ∀ U : State, U.heap = H → s.WarmedH U.vm → va_Pc av (fun U => k_B D (tM cs) (wM cs am) σM U ∧ k_N U) av.toArray U :=
  fun U hU hW => ⟨rfl, ⟨by rw [hU]; exact hL.2.1, va_K.moved hW.alike (k_tM hE.1), hap.2.1 _⟩, hE.2.1.warm hW⟩
theorem k_lpreH {av : List Value} (hap : k_AP cs ad am ao s.heap.size) (hE : k_EN D cs s) (hL : k_L D cs ad am ao s σK σM ov H locs) : ∀ U : State, U.heap = H → s.WarmedH U.vm → va_Pc av (fun U => k_HP D cs ad ao σK ov U ∧ k_X U) av.toArray U :=
  fun U hU hW => ⟨rfl, ⟨⟨by rw [hU]; exact hL.1, va_K.moved hW.alike hE.1, hap.1 _⟩, by rw [hU]; exact hL.2.2.1, hap.2.2.2.2.2.2.1, hE.2.1.warm hW,
    hE.2.2.1.1.kept hW.alike (fun q hq => by rw [hU]; exact hL.2.2.2.2.1 q hq (by omega)), hE.2.2.1.2.kept hW.alike (fun q hq => by rw [hU]; exact hL.2.2.2.2.1 q hq (by omega))⟩, hE.2.2.2.1.moved hW.alike, hE.2.2.2.2.moved hW.alike⟩
theorem k_lblindH {av : List Value} : FrameBlind (va_Pc av (fun U => k_HP D cs ad ao σK ov U ∧ k_X U)) := fun a U g mk q => ⟨q.1, ⟨⟨q.2.1.1.1, va_K.moved (u := U) (U := U.calling g mk a) (Vm.Alike.refl U.vm) q.2.1.1.2.1, q.2.1.1.2.2⟩, q.2.1.2.1, q.2.1.2.2.1, k_N.same (s := U) rfl q.2.1.2.2.2.1, q.2.1.2.2.2.2⟩, q.2.2⟩
end KL3
