/-! The law's loop over the script. -/
def k_st (o N : Nat) (I : vS → vS → Prop) (σK σM : vS) (xs : Nat → Int32) (n : Nat) : Prop := match o with
  | 0 => st_0 N I σK σM xs n
  | 1 => st_1 N I σK σM xs n
  | 2 => st_2 N I σK σM xs n
  | 3 => st_3 N I σK σM xs n
  | 4 => st_4 N I σK σM xs n
  | 5 => st_5 N I σK σM xs n
  | 6 => st_6 N I σK σM xs n
  | 7 => st_7 N I σK σM xs n
  | 8 => st_8 N I σK σM xs n
  | 9 => st_9 N I σK σM xs n
  | 10 => st_10 N I σK σM xs n
  | 11 => st_11 N I σK σM xs n
  | 12 => st_12 N I σK σM xs n
  | 13 => st_13 N I σK σM xs n
  | _ => st_14 N I σK σM xs n
def k_turn (N : Nat) (I : vS → vS → Prop) (σK σM : vS) (xs : Nat → Int32) (n : Nat) : Prop :=
  (∀ o, o < 15 → xs n &&& 15 = nI o → k_st o N I σK σM xs n) ∧ (xs n &&& 15 = nI 15 → I σK σM)
theorem k_lcmp {L n : Nat} (hL : L ≤ 3072) (hn : n ≤ 4000) : (Int32.ofNat L - 6 < nI n) ↔ (L < n + 6) := by
  have e : Int32.ofNat L - 6 = nI L - nI 6 := rfl
  rw [e, Int32.lt_iff_toInt_lt, pk_sub_toInt (by omega) (by omega), nI_toInt (by omega)]
  omega
section KL6
variable {p : Program} {l : Launch} {e : Env} {s : State} {m : MethodId} {args : Array Value} {below : List Frame} {meth : Method} {c : Code} {Q : State → Prop} {D : va_G} {cs : Nat → ClassId} {ad am : Nat → Nat} {ao b L N : Nat} {xs : Nat → Int32}
theorem law_sw_0 {cells slots : Nat} {H : Heap} {locs : List Loc} {ls : Array Slot} (hx : p.tables.exec = Jvm.exec) (hb : c.code = cL_law) (kk : W p l e room_1 s m args below meth c H locs cells slots Q (F0 m 116 ls [])) : W p l e room_1 s m args below meth c H locs cells slots Q (F0 m 40 ls [.int (nI 0)]) :=
  lv_tableIn (tgt := 116) hx hb dL_law_40 (by decide) (by decide) (off := 76) (by decide) (by decide) kk
theorem law_sw_1 {cells slots : Nat} {H : Heap} {locs : List Loc} {ls : Array Slot} (hx : p.tables.exec = Jvm.exec) (hb : c.code = cL_law) (kk : W p l e room_1 s m args below meth c H locs cells slots Q (F0 m 204 ls [])) : W p l e room_1 s m args below meth c H locs cells slots Q (F0 m 40 ls [.int (nI 1)]) :=
  lv_tableIn (tgt := 204) hx hb dL_law_40 (by decide) (by decide) (off := 164) (by decide) (by decide) kk
theorem law_sw_2 {cells slots : Nat} {H : Heap} {locs : List Loc} {ls : Array Slot} (hx : p.tables.exec = Jvm.exec) (hb : c.code = cL_law) (kk : W p l e room_1 s m args below meth c H locs cells slots Q (F0 m 217 ls [])) : W p l e room_1 s m args below meth c H locs cells slots Q (F0 m 40 ls [.int (nI 2)]) :=
  lv_tableIn (tgt := 217) hx hb dL_law_40 (by decide) (by decide) (off := 177) (by decide) (by decide) kk
theorem law_sw_3 {cells slots : Nat} {H : Heap} {locs : List Loc} {ls : Array Slot} (hx : p.tables.exec = Jvm.exec) (hb : c.code = cL_law) (kk : W p l e room_1 s m args below meth c H locs cells slots Q (F0 m 230 ls [])) : W p l e room_1 s m args below meth c H locs cells slots Q (F0 m 40 ls [.int (nI 3)]) :=
  lv_tableIn (tgt := 230) hx hb dL_law_40 (by decide) (by decide) (off := 190) (by decide) (by decide) kk
theorem law_sw_4 {cells slots : Nat} {H : Heap} {locs : List Loc} {ls : Array Slot} (hx : p.tables.exec = Jvm.exec) (hb : c.code = cL_law) (kk : W p l e room_1 s m args below meth c H locs cells slots Q (F0 m 243 ls [])) : W p l e room_1 s m args below meth c H locs cells slots Q (F0 m 40 ls [.int (nI 4)]) :=
  lv_tableIn (tgt := 243) hx hb dL_law_40 (by decide) (by decide) (off := 203) (by decide) (by decide) kk
theorem law_sw_5 {cells slots : Nat} {H : Heap} {locs : List Loc} {ls : Array Slot} (hx : p.tables.exec = Jvm.exec) (hb : c.code = cL_law) (kk : W p l e room_1 s m args below meth c H locs cells slots Q (F0 m 256 ls [])) : W p l e room_1 s m args below meth c H locs cells slots Q (F0 m 40 ls [.int (nI 5)]) :=
  lv_tableIn (tgt := 256) hx hb dL_law_40 (by decide) (by decide) (off := 216) (by decide) (by decide) kk
theorem law_sw_6 {cells slots : Nat} {H : Heap} {locs : List Loc} {ls : Array Slot} (hx : p.tables.exec = Jvm.exec) (hb : c.code = cL_law) (kk : W p l e room_1 s m args below meth c H locs cells slots Q (F0 m 269 ls [])) : W p l e room_1 s m args below meth c H locs cells slots Q (F0 m 40 ls [.int (nI 6)]) :=
  lv_tableIn (tgt := 269) hx hb dL_law_40 (by decide) (by decide) (off := 229) (by decide) (by decide) kk
theorem law_sw_7 {cells slots : Nat} {H : Heap} {locs : List Loc} {ls : Array Slot} (hx : p.tables.exec = Jvm.exec) (hb : c.code = cL_law) (kk : W p l e room_1 s m args below meth c H locs cells slots Q (F0 m 282 ls [])) : W p l e room_1 s m args below meth c H locs cells slots Q (F0 m 40 ls [.int (nI 7)]) :=
  lv_tableIn (tgt := 282) hx hb dL_law_40 (by decide) (by decide) (off := 242) (by decide) (by decide) kk
theorem law_sw_8 {cells slots : Nat} {H : Heap} {locs : List Loc} {ls : Array Slot} (hx : p.tables.exec = Jvm.exec) (hb : c.code = cL_law) (kk : W p l e room_1 s m args below meth c H locs cells slots Q (F0 m 338 ls [])) : W p l e room_1 s m args below meth c H locs cells slots Q (F0 m 40 ls [.int (nI 8)]) :=
  lv_tableIn (tgt := 338) hx hb dL_law_40 (by decide) (by decide) (off := 298) (by decide) (by decide) kk
theorem law_sw_9 {cells slots : Nat} {H : Heap} {locs : List Loc} {ls : Array Slot} (hx : p.tables.exec = Jvm.exec) (hb : c.code = cL_law) (kk : W p l e room_1 s m args below meth c H locs cells slots Q (F0 m 406 ls [])) : W p l e room_1 s m args below meth c H locs cells slots Q (F0 m 40 ls [.int (nI 9)]) :=
  lv_tableIn (tgt := 406) hx hb dL_law_40 (by decide) (by decide) (off := 366) (by decide) (by decide) kk
theorem law_sw_10 {cells slots : Nat} {H : Heap} {locs : List Loc} {ls : Array Slot} (hx : p.tables.exec = Jvm.exec) (hb : c.code = cL_law) (kk : W p l e room_1 s m args below meth c H locs cells slots Q (F0 m 469 ls [])) : W p l e room_1 s m args below meth c H locs cells slots Q (F0 m 40 ls [.int (nI 10)]) :=
  lv_tableIn (tgt := 469) hx hb dL_law_40 (by decide) (by decide) (off := 429) (by decide) (by decide) kk
theorem law_sw_11 {cells slots : Nat} {H : Heap} {locs : List Loc} {ls : Array Slot} (hx : p.tables.exec = Jvm.exec) (hb : c.code = cL_law) (kk : W p l e room_1 s m args below meth c H locs cells slots Q (F0 m 532 ls [])) : W p l e room_1 s m args below meth c H locs cells slots Q (F0 m 40 ls [.int (nI 11)]) :=
  lv_tableIn (tgt := 532) hx hb dL_law_40 (by decide) (by decide) (off := 492) (by decide) (by decide) kk
theorem law_sw_12 {cells slots : Nat} {H : Heap} {locs : List Loc} {ls : Array Slot} (hx : p.tables.exec = Jvm.exec) (hb : c.code = cL_law) (kk : W p l e room_1 s m args below meth c H locs cells slots Q (F0 m 599 ls [])) : W p l e room_1 s m args below meth c H locs cells slots Q (F0 m 40 ls [.int (nI 12)]) :=
  lv_tableIn (tgt := 599) hx hb dL_law_40 (by decide) (by decide) (off := 559) (by decide) (by decide) kk
theorem law_sw_13 {cells slots : Nat} {H : Heap} {locs : List Loc} {ls : Array Slot} (hx : p.tables.exec = Jvm.exec) (hb : c.code = cL_law) (kk : W p l e room_1 s m args below meth c H locs cells slots Q (F0 m 654 ls [])) : W p l e room_1 s m args below meth c H locs cells slots Q (F0 m 40 ls [.int (nI 13)]) :=
  lv_tableIn (tgt := 654) hx hb dL_law_40 (by decide) (by decide) (off := 614) (by decide) (by decide) kk
theorem law_sw_14 {cells slots : Nat} {H : Heap} {locs : List Loc} {ls : Array Slot} (hx : p.tables.exec = Jvm.exec) (hb : c.code = cL_law) (kk : W p l e room_1 s m args below meth c H locs cells slots Q (F0 m 710 ls [])) : W p l e room_1 s m args below meth c H locs cells slots Q (F0 m 40 ls [.int (nI 14)]) :=
  lv_tableIn (tgt := 710) hx hb dL_law_40 (by decide) (by decide) (off := 670) (by decide) (by decide) kk
theorem law_sw_15 {cells slots : Nat} {H : Heap} {locs : List Loc} {ls : Array Slot} (hx : p.tables.exec = Jvm.exec) (hb : c.code = cL_law) (kk : W p l e room_1 s m args below meth c H locs cells slots Q (F0 m 821 ls [])) : W p l e room_1 s m args below meth c H locs cells slots Q (F0 m 40 ls [.int (nI 15)]) :=
  lv_tableOut (tgt := 821) hx hb dL_law_40 (by decide) (by decide) kk
set_option maxRecDepth 100000 in
set_option maxHeartbeats 4000000 in
theorem law_loop (hcf : CallFix p m c cL_law 8 s args kws RL) (hfl : l.flags = flags0) (hE : k_EN D cs s) (hap : k_AP cs ad am ao s.heap.size) (hX : va_X b L xs s s.heap) (hbl : b < s.heap.size) (hL2 : L ≤ 3072) (Inv : Nat → vS → vS → Prop)
    (hsim : ∀ (j : Nat) (σK σM : vS), 6 * j + 6 ≤ L → Inv j σK σM → k_turn N (Inv (j + 1)) σK σM xs (6 * j))
    (hend : ∀ (σK σM : vS) (ov : Nat → Int64) (H : Heap) (locs : List Loc) (ls : Array Slot) (cells slots : Nat), k_L D cs ad am ao s σK σM ov H locs → cells ≤ 600 → slots ≤ 5000 → W p l e room_1 s m args below meth c H locs cells slots Q (F0 m 827 ls [])) :
    ∀ (k j : Nat), 6 * (j + k) ≤ L → L < 6 * (j + k) + 6 → ∀ (σK σM : vS) (ov : Nat → Int64) (H : Heap) (locs : List Loc) (ls : Array Slot), Inv j σK σM → lv_has ls 8 [(0, .ref b), (1, .ref (ad 0)), (2, .ref (am 0)), (3, .ref ao), (4, .int (nI (6 * j)))] → k_L D cs ad am ao s σK σM ov H locs →
      W p l e room_1 s m args below meth c H locs (59 + j) (1150 + 6 * j) Q (F0 m 23 ls []) := by
  have hx := hcf.1
  have hb := hcf.2.1
  intro k
  induction k with
  | zero =>
    intro j h1 h2 σK σM ov H locs ls hI hl hL
    refine lv_iload hx hb dL_law_23 (lv_at hl 4 rfl) ?_
    refine lv_aload_n hx hb dL_law_25 rfl (lv_at hl 0 rfl) ?_
    refine va_slen (A := fun q => s.heap.size ≤ q) (H0 := s.heap) hx hb hX hbl (by omega) hL.2.2.2 dL_law_26 ?_
    refine lv_bipush (v := 6) hx hb dL_law_27 rfl ?_
    refine lv_isub hx hb dL_law_29 ?_
    refine lv_icmp_gt (tgt := 827) hx hb dL_law_30 (by decide) (fun c1 => ?_) (fun c1 => absurd ((k_lcmp hL2 (by omega)).mpr (by omega)) c1)
    exact hend σK σM ov H locs ls _ _ hL (by omega) (by omega)
  | succ k ih =>
    intro j h1 h2 σK σM ov H locs ls hI hl hL
    have ht := hsim j σK σM (by omega) hI
    have J821 : ∀ (σK σM : vS) (ov : Nat → Int64) (H : Heap) (locs : List Loc) (ls : Array Slot) (cells slots : Nat), lv_has ls 8 [(0, .ref b), (1, .ref (ad 0)), (2, .ref (am 0)), (3, .ref ao), (4, .int (nI (6 * j)))] → k_L D cs ad am ao s σK σM ov H locs → cells ≤ 59 + (j + 1) → slots ≤ 1150 + 6 * (j + 1) → Inv (j + 1) σK σM → W p l e room_1 s m args below meth c H locs cells slots Q (F0 m 821 ls []) := by
      intro σK σM ov H locs ls cells slots hl hL hc hs hI
      refine W.widen (k := 59 + (j + 1)) (n := 1150 + 6 * (j + 1)) hc hs ?_
      refine lv_iinc (k := 4) (v := nI (6 * (j + 1))) hx hb dL_law_821 hl rfl ?_ (Nat.le_of_ble_eq_true rfl) rfl (fun ls (hl : lv_has ls 8 [(4, .int (nI (6 * (j + 1)))), (0, .ref b), (1, .ref (ad 0)), (2, .ref (am 0)), (3, .ref ao)]) => ?_)
      · show nI (6 * j) + nI 6 = _
        rw [nI_add]
        rfl
      refine lv_goto (tgt := 23) hx hb dL_law_824 (by decide) ?_
      exact ih (j + 1) (by omega) (by omega) σK σM ov H locs ls hI (lv_sub hl [1, 2, 3, 4, 0] rfl) hL
    generalize hn : 6 * j = n at hl ht J821 h1 h2
    refine lv_iload hx hb dL_law_23 (lv_at hl 4 rfl) ?_
    refine lv_aload_n hx hb dL_law_25 rfl (lv_at hl 0 rfl) ?_
    refine va_slen (A := fun q => s.heap.size ≤ q) (H0 := s.heap) hx hb hX hbl (by omega) hL.2.2.2 dL_law_26 ?_
    refine lv_bipush (v := 6) hx hb dL_law_27 rfl ?_
    refine lv_isub hx hb dL_law_29 ?_
    refine lv_icmp_gt (tgt := 827) hx hb dL_law_30 (by decide) (fun c1 => absurd ((k_lcmp hL2 (by omega)).mp c1) (by omega)) (fun c1 => ?_)
    refine lv_aload_n hx hb dL_law_33 rfl (lv_at hl 0 rfl) ?_
    refine lv_iload hx hb dL_law_34 (lv_at hl 4 rfl) ?_
    refine k_sld (v := xs n) hX hbl hL hx hb (vp_in_nI (by omega) (by omega)) (by rw [nI_clamp (by omega)]) dL_law_36 ?_
    refine lv_bipush (v := 15) hx hb dL_law_37 rfl ?_
    refine lv_iand hx hb dL_law_39 ?_
    obtain ⟨o, ho, hop⟩ := pk_andE (xs n) (m := 15) 4 rfl
    rw [hop]
    have hcases : o = 0 ∨ o = 1 ∨ o = 2 ∨ o = 3 ∨ o = 4 ∨ o = 5 ∨ o = 6 ∨ o = 7 ∨ o = 8 ∨ o = 9 ∨ o = 10 ∨ o = 11 ∨ o = 12 ∨ o = 13 ∨ o = 14 ∨ o = 15 := by omega
    rcases hcases with rfl | rfl | rfl | rfl | rfl | rfl | rfl | rfl | rfl | rfl | rfl | rfl | rfl | rfl | rfl | rfl
    · exact law_sw_0 hx hb (law_0 (N := N) (n := n) (c1 := 59 + (j + 1)) (s1 := 1150 + 6 * (j + 1)) hcf hfl hE hap hX hbl (by omega) hL2 (by omega) (by omega) (by omega) (by omega) J821 (ht.1 0 (by omega) hop) hl hL)
    · exact law_sw_1 hx hb (law_1 (N := N) (n := n) (c1 := 59 + (j + 1)) (s1 := 1150 + 6 * (j + 1)) hcf hfl hE hap hX hbl (by omega) hL2 (by omega) (by omega) (by omega) (by omega) J821 (ht.1 1 (by omega) hop) hl hL)
    · exact law_sw_2 hx hb (law_2 (N := N) (n := n) (c1 := 59 + (j + 1)) (s1 := 1150 + 6 * (j + 1)) hcf hfl hE hap hX hbl (by omega) hL2 (by omega) (by omega) (by omega) (by omega) J821 (ht.1 2 (by omega) hop) hl hL)
    · exact law_sw_3 hx hb (law_3 (N := N) (n := n) (c1 := 59 + (j + 1)) (s1 := 1150 + 6 * (j + 1)) hcf hfl hE hap hX hbl (by omega) hL2 (by omega) (by omega) (by omega) (by omega) J821 (ht.1 3 (by omega) hop) hl hL)
    · exact law_sw_4 hx hb (law_4 (N := N) (n := n) (c1 := 59 + (j + 1)) (s1 := 1150 + 6 * (j + 1)) hcf hfl hE hap hX hbl (by omega) hL2 (by omega) (by omega) (by omega) (by omega) J821 (ht.1 4 (by omega) hop) hl hL)
    · exact law_sw_5 hx hb (law_5 (N := N) (n := n) (c1 := 59 + (j + 1)) (s1 := 1150 + 6 * (j + 1)) hcf hfl hE hap hX hbl (by omega) hL2 (by omega) (by omega) (by omega) (by omega) J821 (ht.1 5 (by omega) hop) hl hL)
    · exact law_sw_6 hx hb (law_6 (N := N) (n := n) (c1 := 59 + (j + 1)) (s1 := 1150 + 6 * (j + 1)) hcf hfl hE hap hX hbl (by omega) hL2 (by omega) (by omega) (by omega) (by omega) J821 (ht.1 6 (by omega) hop) hl hL)
    · exact law_sw_7 hx hb (law_7 (N := N) (n := n) (c1 := 59 + (j + 1)) (s1 := 1150 + 6 * (j + 1)) hcf hfl hE hap hX hbl (by omega) hL2 (by omega) (by omega) (by omega) (by omega) J821 (ht.1 7 (by omega) hop) hl hL)
    · exact law_sw_8 hx hb (law_8 (N := N) (n := n) (c1 := 59 + (j + 1)) (s1 := 1150 + 6 * (j + 1)) hcf hfl hE hap hX hbl (by omega) hL2 (by omega) (by omega) (by omega) (by omega) J821 (ht.1 8 (by omega) hop) hl hL)
    · exact law_sw_9 hx hb (law_9 (N := N) (n := n) (c1 := 59 + (j + 1)) (s1 := 1150 + 6 * (j + 1)) hcf hfl hE hap hX hbl (by omega) hL2 (by omega) (by omega) (by omega) (by omega) J821 (ht.1 9 (by omega) hop) hl hL)
    · exact law_sw_10 hx hb (law_10 (N := N) (n := n) (c1 := 59 + (j + 1)) (s1 := 1150 + 6 * (j + 1)) hcf hfl hE hap hX hbl (by omega) hL2 (by omega) (by omega) (by omega) (by omega) J821 (ht.1 10 (by omega) hop) hl hL)
    · exact law_sw_11 hx hb (law_11 (N := N) (n := n) (c1 := 59 + (j + 1)) (s1 := 1150 + 6 * (j + 1)) hcf hfl hE hap hX hbl (by omega) hL2 (by omega) (by omega) (by omega) (by omega) J821 (ht.1 11 (by omega) hop) hl hL)
    · exact law_sw_12 hx hb (law_12 (N := N) (n := n) (c1 := 59 + (j + 1)) (s1 := 1150 + 6 * (j + 1)) hcf hfl hE hap hX hbl (by omega) hL2 (by omega) (by omega) (by omega) (by omega) J821 (ht.1 12 (by omega) hop) hl hL)
    · exact law_sw_13 hx hb (law_13 (N := N) (n := n) (c1 := 59 + (j + 1)) (s1 := 1150 + 6 * (j + 1)) hcf hfl hE hap hX hbl (by omega) hL2 (by omega) (by omega) (by omega) (by omega) J821 (ht.1 13 (by omega) hop) hl hL)
    · exact law_sw_14 hx hb (law_14 (N := N) (n := n) (c1 := 59 + (j + 1)) (s1 := 1150 + 6 * (j + 1)) hcf hfl hE hap hX hbl (by omega) hL2 (by omega) (by omega) (by omega) (by omega) J821 (ht.1 14 (by omega) hop) hl hL)
    · exact law_sw_15 hx hb (J821 σK σM ov H locs ls _ _ hl hL (by omega) (by omega) (ht.2 hop))
end KL6
