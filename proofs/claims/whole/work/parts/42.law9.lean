/-! THE CLAIM OUT OF ONE WALK OF THE LAW'S BODY. Your part is whole_start (and what it stands on); all else here is the same for every law, but numbers. -/
def R_law : String := "FormulaScalesLaw"
def lw_P (b : Addr) (xs : List Int32) (args : Array Value) (s : State) : Prop := args = #[.ref b] ∧ s.IntsAt b xs ∧ xs.length ≤ 3072 ∧ (Jvm.Cond.and given_1 narrow_1).before args s = true
def lw_Q (_ : Array Value) (s : State) (o : Outcome) (t : State) : Prop := o = .returned (some (.int 1)) ∧ Framed s o t [] 623897 7224412
def lw_Z (below : List Frame) (a : Array Value) (s : State) : State → Prop := fun t => ∃ o, t.status = .running ∧ Ended t below o ∧ lw_Q a s o t
/-- the law's own end, with 1 on the stack, nothing written that was there before, its room as the claim has it -/
theorem lw_ret {p : Program} {l : Launch} {e : Env} {s : State} {m : MethodId} {below : List Frame} {meth : Method} {c : Code} {b : Nat} (hx : p.tables.exec = Jvm.exec) (hb : c.code = code) (hr : meth.sig.returnType = ret) (hlocks : meth.locks = false) {pc : Nat} {H : Heap} {ls : Array Slot} (hdg : decode code pc = .ok (.ireturn, 1)) : W p l e room_1 s m #[Value.ref b] below meth c H [] 623897 7224412 (lw_Z below #[Value.ref b] s) (F0 m pc ls [.int 1]) := by
  intro T hT X
  obtain ⟨fs, hret, hrun, hended, hW, hframe⟩ := X.leave (v := some (.int 1)) (hlocks := hlocks) (fun h => by rw [hr] at h; cases h)
  have hmeth' : T.vm.method? m = some meth := X.method'
  refine ⟨T.setFrames fs, ?_, .returned (some (.int 1)), hrun, hended, rfl, ⟨_, rfl⟩, hW, hframe⟩
  jvm_step X.here [X.here.top, hx, hb, hdg, hmeth', hr, ret, narrow_b1]
  (try refine ⟨rfl, ?_⟩); (try refine ⟨rfl, ?_⟩)
  first | (intro acts; rw [hret _ acts rfl rfl rfl]) | rw [hret _ _ rfl rfl rfl]
  exact Steps.refl _
/-- what holds at the law's entry: the machine, the code, the tables' words (any of lw_tbl by 'hts w (by decide +kernel)'), the script of L ints xs at the cell b, what the Statement gives of the start (any of its parts by flat_of_before) -/
def lw_At (p : Program) (s : State) (m : MethodId) (meth : Method) (c : Code) (b L : Nat) (xs : Nat → Int32) : Prop :=
  p.tables.exec = Jvm.exec ∧ c.code = code ∧ meth.sig.returnType = ret ∧ c.maxLocals = 8 ∧ s.vm.findClass R_law = some m.cls ∧ (∀ w ∈ lw_tbl, w.before #[Value.ref b] s = true) ∧ va_X b L xs s s.heap ∧ b < s.heap.size ∧ meth.locks = false ∧ (Jvm.Cond.and given_1 narrow_1).before #[Value.ref b] s = true
set_option maxRecDepth 100000 in
set_option maxHeartbeats 4000000 in
theorem law_start {p : Program} {e : Env} {s : State} {m : MethodId} {below : List Frame} {meth : Method} {c : Code} (l : Launch) (hfl : l.flags = flags0) {b L N : Nat} {xs : Nat → Int32} (hL2 : L ≤ 3072) (C0 : lw_At p s m meth c b L xs) (Inv : Nat → vS → vS → Prop) (hI0 : Inv 0 sK0 sM0)
    (hsim : ∀ (j : Nat) (σK σM : vS), 6 * j + 6 ≤ L → Inv j σK σM → k_turn N (Inv (j + 1)) σK σM xs (6 * j)) : W p l e room_1 s m #[Value.ref b] below meth c s.heap [] 0 0 (lw_Z below #[Value.ref b] s) (entryFrame m ([Value.ref b] : List Value).toArray 8) := by
  obtain ⟨hx, hb, hr, hml, hown, hts, hX, hbl, hlk, hgv⟩ := C0
  obtain ⟨D, cs, hE, hG⟩ := kv_env hts hgv
  have htk : ∀ w ∈ kws, w.before #[Value.ref b] s = true := fun w h => hts w (List.mem_filter.mp h).1
  have hcf : CallFix p m c cL_law 8 s #[Value.ref b] kws RL := ⟨hx, hb, hml, hown, htk⟩
  have hK := hE.1
  have hZ := hE.2.1
  have hend : ∀ (σK σM : vS) (ov : Nat → Int64) (ad am : Nat → Nat) (ao : Nat) (H : Heap) (locs : List Loc) (ls : Array Slot) (cells slots : Nat), k_L D cs ad am ao s σK σM ov H locs → cells ≤ 600 → slots ≤ 5000 → W p l e room_1 s m #[Value.ref b] below meth c H locs cells slots (lw_Z below #[Value.ref b] s) (F0 m 827 ls []) := by
    intro σK σM ov ad am ao H locs ls cells slots hL h1 h2
    refine lv_iconst (v := 1) hx hb dL_law_827 rfl ?_
    refine va_forget (fun q hq => hL.2.2.2.2.2 q hq) ?_
    refine W.widen (k := 623897) (n := 7224412) (by omega) (by omega) ?_
    exact lw_ret hx hb hr hlk dL_law_828
  have hl := lv_entry ([.ref b]) (n := 8) (Nat.le_of_ble_eq_true rfl)
  rw [lg_entry_eq]
  generalize (lg_sl ([.ref b]) ++ List.replicate (8 - (lg_sl ([.ref b])).length) Slot.unset).toArray = ls at hl ⊢
  replace hl : lv_has ls 8 [(0, .ref b)] := hl
  have hA : ∀ q : Nat, s.heap.size ≤ q → (fun q => s.heap.size ≤ q) q := fun q h => h
  have hS : va_S (fun q => s.heap.size ≤ q) s.heap s.heap [] := va_S.rf
  have hP : va_P D vwCl [] s.heap := (fun k q h => by cases h)
  have hD : va_D (fun q => s.heap.size ≤ q) [] := ⟨(fun i j p q h => by cases h), (fun k q h => by cases h)⟩
  refine va_new (ci := 5) (fs := [.null, .null, .null]) (C := RX5) (T := TX5) (N := 3) hx hb htk hinX5 tyX5 tyX5_ok hown (kv_l5 htk) (kv_i5 htk) (kv_z5 htk) hK hP hD hS hA rfl (fun j hj => by rcases (show j = 0 ∨ j = 1 ∨ j = 2 by omega) with rfl | rfl | rfl <;> rfl) (Nat.le_of_ble_eq_true rfl) (Nat.le_of_ble_eq_true rfl) dL_law_0 (fun q0 H hP hD hS => ?_)
  replace hP : va_P D vwCl [(q0, .inr (5, [.null, .null, .null]))] H := hP
  replace hD : va_D (fun q => s.heap.size ≤ q) [(q0, .inr (5, [.null, .null, .null]))] := hD
  refine lv_dup hx hb dL_law_3 rfl ?_
  have hFc := va_free (wc := [(q0, .inr (5, [.null, .null, .null]))]) hD hS hA [0] rfl
  refine va_callv (va_runI (As := []) (rest := [.ref q0]) hcf (iX5_init l D cs q0 H.size) (cwI 0 htk (k_good kv_c5) rfl rfl rfl (kv_z5 htk) (kv_m5 htk) (kv_n5 htk) rfl (by decide +kernel) ⟨Nat.le_of_ble_eq_true rfl, Nat.le_of_ble_eq_true rfl⟩) ⟨k_iblind, k_ipre hP hK hD hZ hG⟩ rfl rfl hl.1 rfl (lv_room (Nat.le_of_ble_eq_true rfl)) dL_law_4 ⟨Nat.le_of_ble_eq_true rfl, Nat.le_of_ble_eq_true rfl⟩) hS (fun q _ h => hFc q h) hFc (fun u t H1 locs ht hvm hw hB hz1 hk1 hS => ?_)
  obtain ⟨hP1, hK1, hD1⟩ := hB
  rw [ht] at hP1
  obtain ⟨hP, hD⟩ := va_join (wr := []) (w1 := LX5_init cs q0 u) hP hD [0] [] rfl rfl rfl (by decide) hk1 hFc hP1 hD1
  generalize H1 = H at hP hS ⊢
  replace hP : va_P D vwCl (LX5_init cs q0 u) H := hP
  replace hD : va_D (fun q => s.heap.size ≤ q) (LX5_init cs q0 u) := hD
  refine lv_astore_n hx hb dL_law_7 rfl hl (Nat.le_of_ble_eq_true rfl) rfl (fun ls (hl : lv_has ls 8 [(1, .ref q0), (0, .ref b)]) => ?_)
  refine va_new (ci := 6) (fs := [.int 0, .int 0, .null, .int 0, .null, .int 0, .int 0, .int 0, .int 0, .int 0, .int 0, .null, .null, .null, .null, .null, .int 0, .null, .int 0, .null, .null, .int 0, .int 0, .null, .null, .int 0, .null, .null, .null, .int 0, .null]) (C := RX6) (T := TX6) (N := 31) hx hb htk hinX6 tyX6 tyX6_ok hown (kv_l6 htk) (kv_i6 htk) (kv_z6 htk) hK hP hD hS hA rfl (fun j hj => by rcases (show j = 0 ∨ j = 1 ∨ j = 2 ∨ j = 3 ∨ j = 4 ∨ j = 5 ∨ j = 6 ∨ j = 7 ∨ j = 8 ∨ j = 9 ∨ j = 10 ∨ j = 11 ∨ j = 12 ∨ j = 13 ∨ j = 14 ∨ j = 15 ∨ j = 16 ∨ j = 17 ∨ j = 18 ∨ j = 19 ∨ j = 20 ∨ j = 21 ∨ j = 22 ∨ j = 23 ∨ j = 24 ∨ j = 25 ∨ j = 26 ∨ j = 27 ∨ j = 28 ∨ j = 29 ∨ j = 30 by omega) with rfl | rfl | rfl | rfl | rfl | rfl | rfl | rfl | rfl | rfl | rfl | rfl | rfl | rfl | rfl | rfl | rfl | rfl | rfl | rfl | rfl | rfl | rfl | rfl | rfl | rfl | rfl | rfl | rfl | rfl | rfl <;> rfl) (Nat.le_of_ble_eq_true rfl) (Nat.le_of_ble_eq_true rfl) dL_law_8 (fun q8 H hP hD hS => ?_)
  refine lv_dup hx hb dL_law_11 rfl ?_
  have hPc := hP.sub (ws' := [(q8, .inr (6, [.int 0, .int 0, .null, .int 0, .null, .int 0, .int 0, .int 0, .int 0, .int 0, .int 0, .null, .null, .null, .null, .null, .int 0, .null, .int 0, .null, .null, .int 0, .int 0, .null, .null, .int 0, .null, .null, .null, .int 0, .null]))]) [41] rfl
  have hDc := hD.sub (ws' := [(q8, .inr (6, [.int 0, .int 0, .null, .int 0, .null, .int 0, .int 0, .int 0, .int 0, .int 0, .int 0, .null, .null, .null, .null, .null, .int 0, .null, .int 0, .null, .null, .int 0, .int 0, .null, .null, .int 0, .null, .null, .null, .int 0, .null]))]) [41] (by decide) rfl
  have hFc := va_free (wc := [(q8, .inr (6, [.int 0, .int 0, .null, .int 0, .null, .int 0, .int 0, .int 0, .int 0, .int 0, .int 0, .null, .null, .null, .null, .null, .int 0, .null, .int 0, .null, .null, .int 0, .int 0, .null, .null, .int 0, .null, .null, .null, .int 0, .null]))]) hD hS hA [41] rfl
  refine va_callv (va_runI (As := []) (rest := [.ref q8]) hcf (iX6_init l D cs q8 H.size) (cwI 0 htk (k_good kv_c6) rfl rfl rfl (kv_z6 htk) (kv_m6 htk) (kv_n6 htk) rfl (by decide +kernel) ⟨Nat.le_of_ble_eq_true rfl, Nat.le_of_ble_eq_true rfl⟩) ⟨k_iblind, k_ipre hPc hK hDc hZ hG⟩ rfl rfl hl.1 rfl (lv_room (Nat.le_of_ble_eq_true rfl)) dL_law_12 ⟨Nat.le_of_ble_eq_true rfl, Nat.le_of_ble_eq_true rfl⟩) hS (fun q _ h => hFc q h) hFc (fun v t H1 locs ht hvm hw hB hz1 hk1 hS => ?_)
  obtain ⟨hP1, hK1, hD1⟩ := hB
  rw [ht] at hP1
  obtain ⟨hP, hD⟩ := va_join (wr := LX5_init cs q0 u) (w1 := LX6_init cs q8 v) hP hD [41] [0, 1, 2, 3, 4, 5, 6, 7, 8, 9, 10, 11, 12, 13, 14, 15, 16, 17, 18, 19, 20, 21, 22, 23, 24, 25, 26, 27, 28, 29, 30, 31, 32, 33, 34, 35, 36, 37, 38, 39, 40] rfl rfl (by decide) (by decide) hk1 hFc hP1 hD1
  generalize H1 = H at hP hS ⊢
  refine lv_astore_n hx hb dL_law_15 rfl hl (Nat.le_of_ble_eq_true rfl) rfl (fun ls (hl : lv_has ls 8 [(2, .ref q8), (1, .ref q0), (0, .ref b)]) => ?_)
  refine lv_iconst (v := 1) hx hb dL_law_16 rfl ?_
  refine k_newa (atype := .long) (ty := .long) (tt := 3) (cA0 := cs 3) (N' := 1) (a0 := (1, .inr (.inl fun _ => 0))) hx hb (kw_182 htk) rfl hK rfl hP hD hS hA (fun cA => rfl) (by decide) rfl (by decide) (Nat.le_of_ble_eq_true rfl) (Nat.le_of_ble_eq_true rfl) dL_law_17 (fun ao H hP hD hS => ?_)
  refine lv_astore_n hx hb dL_law_19 rfl hl (Nat.le_of_ble_eq_true rfl) rfl (fun ls (hl : lv_has ls 8 [(3, .ref ao), (2, .ref q8), (1, .ref q0), (0, .ref b)]) => ?_)
  refine lv_iconst (v := 0) hx hb dL_law_20 rfl ?_
  refine lv_istore hx hb dL_law_21 hl (Nat.le_of_ble_eq_true rfl) rfl (fun ls (hl : lv_has ls 8 [(4, .int (0 : Int32)), (3, .ref ao), (2, .ref q8), (1, .ref q0), (0, .ref b)]) => ?_)
  have hap := k_startAP hD
  have hLk : k_L D cs (aK q0 u) (aM q8 v) ao s sK0 sM0 (fun _ => 0) H locs := by
    refine ⟨k_startK (fun k q hk => hP k q ?_), k_startM (fun k q hk => hP (41 + k) q ?_), fun k q hk => ?_, hS⟩
    · have h41 : k < 41 := (List.getElem?_eq_some_iff.mp hk).1
      rw [List.append_assoc, List.getElem?_append_left (show k < (LX5_init cs q0 u).length from h41)]
      exact hk
    · have h17 : k < 17 := (List.getElem?_eq_some_iff.mp hk).1
      rw [List.append_assoc, List.getElem?_append_right (show (LX5_init cs q0 u).length ≤ 41 + k from Nat.le_add_right 41 k), show 41 + k - (LX5_init cs q0 u).length = k from Nat.add_sub_cancel_left 41 k, List.getElem?_append_left (show k < (LX6_init cs q8 v).length from h17)]
      exact hk
    · cases k with
      | zero => cases hk; exact hP 58 _ rfl
      | succ k => cases hk
  exact law_loop (N := N) hcf hfl hE hap hX hbl hL2 Inv hsim (fun σK σM ov H locs ls cells slots hL h1 h2 => hend σK σM ov _ _ _ H locs ls cells slots hL h1 h2) (L / 6) 0 (by omega) (by omega) sK0 sM0 _ H locs ls hI0 (lv_sub hl [4, 3, 2, 1, 0] rfl) hLk
