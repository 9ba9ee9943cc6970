/-! A whole formula, from its beginning to its end. -/
theorem k_addF {N w : Nat} {σ : vS} {b e q : Int32} {tot : Nat → Nat} (hN : 300 < N) (hw : w < 6) (h2 : σ.1 2 = nI w) (h0 : ∀ t, t < 5 → σ.2.2.2 0 t = lI (tot t)) : ∃ σ', fX1_addFormula N σ b e q = some σ' ∧ σ'.1 = (p_i σ 2 (nI (w + 1))).1 ∧ (∀ k, k ≠ 2 → k ≠ 3 → k ≠ 4 → k ≠ 9 + w → σ'.2.1 k = σ.2.1 k) ∧ (∀ j, j ≠ w → σ'.2.1 2 j = σ.2.1 2 j ∧ σ'.2.1 3 j = σ.2.1 3 j ∧ σ'.2.1 4 j = σ.2.1 4 j) ∧ σ'.2.1 2 w = q ∧ σ'.2.1 3 w = b ∧ σ'.2.1 4 w = e ∧ ∀ t, t < 5 → σ'.2.1 (9 + w) t = Int32.ofInt (tot t) := by
  unfold fX1_addFormula
  rw [h2, if_neg (show ¬ (6 : Int32) ≤ nI w from nI_ge (b := 6) hw (by omega))]
  have hk : kok (k_itr (fun zz => bX1_addFormula_12 N b e q zz.1 zz.2) N ((0 : Int32), σ)) (fun σ1 => σ1.1 = σ.1 ∧ (∀ k, k ≠ 9 + w → σ1.2.1 k = σ.2.1 k) ∧ σ1.2.2.2 = σ.2.2.2 ∧ ∀ t, t < 5 → σ1.2.1 (9 + w) t = Int32.ofInt (tot t)) := by
    refine kok_for (body := fun zz => bX1_addFormula_12 N b e q zz.1 zz.2) 5 (fun t σ1 => σ1.1 = σ.1 ∧ (∀ k, k ≠ 9 + w → σ1.2.1 k = σ.2.1 k) ∧ σ1.2.2.2 = σ.2.2.2 ∧ ∀ t', t' < t → σ1.2.1 (9 + w) t' = Int32.ofInt (tot t')) (fun t σ1 ht hI => ?_) (fun σ1 hI => ?_) N 0 _ (by omega) (Nat.zero_le _) ⟨rfl, fun _ _ => rfl, rfl, fun t' h => by omega⟩
    · obtain ⟨g1, g2, g3, g4⟩ := hI
      show kok (bX1_addFormula_12 N b e q (nI t) σ1) _
      unfold bX1_addFormula_12
      rw [g1, h2]
      refine kok_f (nI_ge (b := 5) ht (by omega)) (kok_g (nI_in (by omega) (by omega)) (kok_g (nI_in (by omega) (by omega)) (kok_g (nI_in (by omega) (by omega)) (kok_lt (kok_some ⟨_, Prod.ext (nI_1 _) rfl, g1, fun k hk => ?_, g3, fun t' ht' => ?_⟩)))))
      · funext j
        rw [nI_clamp (by omega), paA, if_neg hk]; exact congrFun (g2 k hk) j
      · rw [nI_clamp (by omega), nI_clamp (by omega), paA, if_pos rfl]
        by_cases e9 : t' = t
        · rw [if_pos e9, e9, g3, h0 t ht, lI_32]
        · rw [if_neg e9]; exact g4 t' (by omega)
    · show kok (bX1_addFormula_12 N b e q (nI 5) σ1) _
      unfold bX1_addFormula_12
      exact kok_t (nI_le (a := 5) (by omega) (by omega)) (kok_some hI)
  obtain ⟨σ1, e1, g1, g2, g3, g4⟩ := hk
  rw [e1, bd1_s]
  unfold jX1_addFormula_41
  rw [g1, h2, if_neg (nI_in (by omega) (by omega)), if_neg (nI_in (by omega) (by omega)), if_neg (nI_in (by omega) (by omega)), nI_clamp (by omega), nI_1]
  refine ⟨_, rfl, ?_, fun k a1 a2 a3 a4 => ?_, fun j hj => ⟨?_, ?_, ?_⟩, ?_, ?_, ?_, fun t ht => ?_⟩
  · show upd σ1.1 2 (nI (w + 1)) = upd σ.1 2 (nI (w + 1))
    rw [g1]
  · funext j
    show (p_a (p_a (p_a σ1 2 w q) 3 w b) 4 w e).2.1 k j = _
    rw [paA, if_neg a3, paA, if_neg a2, paA, if_neg a1]; exact congrFun (g2 k a4) j
  · show (p_a (p_a (p_a σ1 2 w q) 3 w b) 4 w e).2.1 2 j = _
    rw [paA, if_neg (by decide), paA, if_neg (by decide), paA, if_pos rfl, if_neg hj]; exact congrFun (g2 2 (by omega)) j
  · show (p_a (p_a (p_a σ1 2 w q) 3 w b) 4 w e).2.1 3 j = _
    rw [paA, if_neg (by decide), paA, if_pos rfl, if_neg hj, paA, if_neg (by decide)]; exact congrFun (g2 3 (by omega)) j
  · show (p_a (p_a (p_a σ1 2 w q) 3 w b) 4 w e).2.1 4 j = _
    rw [paA, if_pos rfl, if_neg hj, paA, if_neg (by decide), paA, if_neg (by decide)]; exact congrFun (g2 4 (by omega)) j
  · show (p_a (p_a (p_a σ1 2 w q) 3 w b) 4 w e).2.1 2 w = _
    rw [paA, if_neg (by decide), paA, if_neg (by decide), paA, if_pos rfl, if_pos rfl]
  · show (p_a (p_a (p_a σ1 2 w q) 3 w b) 4 w e).2.1 3 w = _
    rw [paA, if_neg (by decide), paA, if_pos rfl, if_pos rfl]
  · show (p_a (p_a (p_a σ1 2 w q) 3 w b) 4 w e).2.1 4 w = _
    rw [paA, if_pos rfl, if_pos rfl]
  · show (p_a (p_a (p_a σ1 2 w q) 3 w b) 4 w e).2.1 (9 + w) t = _
    rw [paA, if_neg (by omega), paA, if_neg (by omega), paA, if_neg (by omega)]; exact g4 t ht
theorem k_mstart {N w : Nat} {σ : vS} (hN : 300 < N) (hw : w < 6) (h8 : σ.1 8 = nI w) : ∃ σ', k_itr (fun zz => bX6_readFormula_35 N zz.1 zz.2) N ((0 : Int32), σ) = some σ' ∧ σ'.1 = σ.1 ∧ σ'.2.1 = σ.2.1 ∧ (∀ b, b ≠ 1 → σ'.2.2.2 b = σ.2.2.2 b) ∧ (∀ i, i < 5 * w → σ'.2.2.2 1 i = σ.2.2.2 1 i) ∧ ∀ t, t < 5 → σ'.2.2.2 1 (5 * w + t) = lI 0 := by
  refine kok_for (body := fun zz => bX6_readFormula_35 N zz.1 zz.2) 5 (fun t σ' => σ'.1 = σ.1 ∧ σ'.2.1 = σ.2.1 ∧ (∀ b, b ≠ 1 → σ'.2.2.2 b = σ.2.2.2 b) ∧ (∀ i, i < 5 * w → σ'.2.2.2 1 i = σ.2.2.2 1 i) ∧ ∀ t', t' < t → σ'.2.2.2 1 (5 * w + t') = lI 0) (fun t σ' ht hI => ?_) (fun σ' hI => ?_) N 0 _ (by omega) (Nat.zero_le _) ⟨rfl, rfl, fun _ _ => rfl, fun _ _ => rfl, fun t' h => by omega⟩
  · obtain ⟨g1, g2, g3, g4, g5⟩ := hI
    show kok (bX6_readFormula_35 N (nI t) σ') _
    unfold bX6_readFormula_35
    rw [g1, h8, k_ix5]
    refine kok_f (nI_ge (b := 5) ht (by omega)) (kok_g (nI_in (by omega) (by omega)) (kok_lt (kok_some ⟨_, Prod.ext (nI_1 _) rfl, g1, g2, fun b hb => ?_, fun i hi => ?_, fun t' ht' => ?_⟩)))
    · funext j; rw [pbB, if_neg hb]; exact congrFun (g3 b hb) j
    · rw [pbB, if_pos rfl, nI_clamp (by omega), if_neg (by omega)]; exact g4 i hi
    · rw [pbB, if_pos rfl, nI_clamp (by omega)]
      by_cases e : t' = t
      · rw [if_pos (by omega)]; rfl
      · rw [if_neg (by omega)]; exact g5 t' (by omega)
  · show kok (bX6_readFormula_35 N (nI 5) σ') _
    unfold bX6_readFormula_35
    exact kok_t (nI_le (a := 5) (by omega) (by omega)) (kok_some hI)
/-- a formula, fault or not -/
def kRes (σK' σM' : vS) (L : Nat) (c : Nat → Nat) (p w rc : Nat) : Prop := (∃ p' el' ch' bg' en' Am' Ac', p < p' ∧ kQ σK' σM' L c p' (w + 1) rc el' ch' bg' en' Am' Ac') ∨ (kB σK' σM' ∧ kTx σK' σM' L c ∧ σM'.1 1 = 0)
theorem k_form {N : Nat} {σK σM : vS} {L p w rc el ch : Nat} {c : Nat → Nat} {bg en : Nat → Nat} {Am : Nat → Nat → Int} {Ac : Nat → Int} (hN : 300 < N) (h : kQ σK σM L c p w rc el ch bg en Am Ac) (hw : w < 6) (p1 : Int32) (hp1 : p1 = if rc = 0 then 0 else 1) :
    ∃ σ4 σ6 σK' σM', fX3_beginFormula N σK = some σ4 ∧ σ4.1 2 = nI w ∧ fX4_here N σ4 = some (nI (c p)) ∧ (if nI (c p) = 101 then fX3_readElectron N σ4 else fX3_readFormula N σ4) = some σ6 ∧ fX3_endFormula N σ6 (nI p) = some σK' ∧ fX6_readFormula N σM p1 = some σM' ∧ kRes σK' σM' L c p w rc := by
  obtain ⟨hT, hC, ⟨q1, q2, q3, q4, q5, q6⟩, hF⟩ := h
  have hL := hT.1
  have hC' := hC
  obtain ⟨a0, a1, a2, a3, a4, a5, a6, a7, a8, a9, a10, a11, a12⟩ := hC'
  obtain ⟨σ1, e1, f1, f2, f3, f4, f5⟩ := k_fill (σ := σK) (b := 0) (v := 0) (show 10 < N by omega)
  obtain ⟨σ2, e2, g1, g2, g3, g4, g5⟩ := k_mstart (σ := p_b (p_a (p_a σM 2 w (nI p)) 4 w (vp_nar .boolean p1)) 0 w 0) hN hw q2
  have eB : fX3_beginFormula N σK = some (p_i σ1 9 0) := by
    unfold fX3_beginFormula
    rw [e1, bd1_s]
  have fK : fpK σK (p_i σ1 9 0) := (fpK.of f1 f2).tr (fpK.i _ 9 _ (by decide) (by decide) (by decide))
  have fM : fqM w σM σ2 := by
    refine ⟨fun i hi => ?_, ?_, fun j hj => ⟨?_, ?_, ?_⟩, fun j hj => ?_, fun i hi => ?_⟩
    · rw [g1]; rfl
    · rw [g2]; rfl
    · rw [g2]; show (p_a (p_a σM 2 w (nI p)) 4 w (vp_nar .boolean p1)).2.1 2 j = _; rw [paA, if_neg (by decide), paA, if_pos rfl, if_neg (by omega)]
    · rw [g2]; rfl
    · rw [g2]; show (p_a (p_a σM 2 w (nI p)) 4 w (vp_nar .boolean p1)).2.1 4 j = _; rw [paA, if_pos rfl, if_neg (by omega)]; rfl
    · rw [g3 0 (by decide), pbB, if_pos rfl, if_neg (by omega)]; rfl
    · rw [g4 i hi, pbB, if_neg (by decide)]; rfl
  have eM : fX6_readFormula N σM p1 = jX6_readFormula_60 N σ2 := by
    unfold fX6_readFormula
    rw [q2, if_neg (nI_in (by omega) (by omega)), if_neg (nI_in (by omega) (by omega)), if_neg (nI_in (by omega) (by omega)), nI_clamp (by omega), a2, e2, bd1_s]
  have m2 : σ2.2.1 2 w = nI p := by
    rw [g2]; show (p_a (p_a σM 2 w (nI p)) 4 w (vp_nar .boolean p1)).2.1 2 w = _; rw [paA, if_neg (by decide), paA, if_pos rfl, if_pos rfl]
  have m4 : σ2.2.1 4 w = if rc = 0 then 0 else 1 := by
    rw [g2]; show (p_a (p_a σM 2 w (nI p)) 4 w (vp_nar .boolean p1)).2.1 4 w = _; rw [paA, if_pos rfl, if_pos rfl, hp1]
    by_cases e : rc = 0
    · rw [if_pos e]; rfl
    · rw [if_neg e]; rfl
  have hT2 : kTx (p_i σ1 9 0) σ2 L c := hT.fq (fK.q w) fM
  have hU : kU (p_i σ1 9 0) σ2 L c p w el ch (fun _ => 0) 0 := by
    refine ⟨hT2, hC.fr ?_ ?_ ?_ ?_ ?_ ?_ ?_ ?_ ?_ ?_ ?_, ⟨hw, by rw [g1]; exact q2, fun t ht => ⟨(f5 t (by rw [k_len5 (by omega)]; exact ht)).trans rfl, g5 t ht⟩, ?_, ?_⟩⟩
    · rw [piI, if_neg (by decide), f1]
    · rw [piI, if_neg (by decide), f1]
    · rw [piI, if_neg (by decide), f1]
    · rw [piI, if_neg (by decide), f1]
    · rw [piI, if_neg (by decide), f1]
    · show σ1.2.1 1 = _; rw [f2]
    · rw [g1]; rfl
    · rw [g1]; rfl
    · rw [g1]; rfl
    · rw [g1]; rfl
    · rw [g2]; rfl
    · rw [pi_at]; rfl
    · rw [g3 0 (by decide), pbB, if_pos rfl, if_pos rfl]; rfl
  obtain ⟨σ6, σ7, z1, z2, z3, z4, z5⟩ := k_fbody hN hU
  refine ⟨p_i σ1 9 0, σ6, ?_⟩
  have hh : fX4_here N (p_i σ1 9 0) = some (nI (c p)) := k_here hT2 hU.2.1.2.1 (by omega)
  have hi2 : (p_i σ1 9 0).1 2 = nI w := (fK.1 2 (by omega)).trans q1
  have fK6 : fpK σK σ6 := fK.tr z3
  have fM7 : fqM w σM σ7 := fM.tr z4.q
  have hT7 : kTx σ6 σ7 L c := hT.fq (fK6.q w) fM7
  rw [eM, z2]
  have h67 : σ7.1 8 = nI w := (z4.1 8 (by omega)).trans (by rw [g1]; exact q2)
  rcases z5 with ⟨p2, el2, ch2, tot2, q2', u1, u2, u3, u4⟩ | hB
  · obtain ⟨v1, v2, v3⟩ := u2
    have hbt : ∀ t, t < 5 → tot2 t < 2 ^ 62 := fun t ht => by
      have h9 := u3 t ht
      have h8 : p2 ≤ 100 := Nat.le_trans v2.1 hL
      have := Nat.mul_le_mul_left (99 ^ 5 * 100) h8
      omega
    obtain ⟨r, er, hr⟩ := k_tooK hN (fun t ht => (v3.2.2.1 t ht).1) hbt v3.2.2.2.1 u4
    obtain ⟨v, hv, ev⟩ := k_tooM hN hw h67 (fun t ht => (v3.2.2.1 t ht).2) hbt v3.2.2.2.2 u4
    rw [ev]
    unfold fX3_endFormula jX6_readFormula_310
    have y9 := v2.2.2.2.2.2.2.2.2.2.1
    have y10 := v2.2.2.2.2.2.2.2.2.2.2.1
    have y1 := v2.2.1
    have y3 := v2.2.2.1
    rw [if_pos y9, er, bd1_s, show (p_a σ7 3 w (σ7.1 3)).1 8 = nI w from h67, if_neg (nI_in (by omega) (by omega)), nI_clamp (by omega)]
    have m2' : (p_a σ7 3 w (σ7.1 3)).2.1 2 w = nI p := by
      rw [paA, if_neg (by decide), z4.2.1 2 (by decide) (by decide)]; exact m2
    rw [m2']
    by_cases ht : kTM tot2 q2'
    · have er2 : r = 1 := by
        rcases hr with ⟨_, h9⟩ | ⟨h9, _⟩
        · exact absurd ht h9
        · exact h9
      have ev2 : v = 1 := by
        rcases hv with ⟨_, h9⟩ | ⟨h9, _⟩
        · exact absurd ht h9
        · exact h9
      subst er2 ev2
      rw [if_neg (show ¬ (1 : Int32) = 0 by decide), k_failY (σ := p_a σ7 3 w (σ7.1 3)) y10, bd1_s]
      unfold fX3_meet jX3_endFormula_21
      rw [bd1_s, if_neg (show ¬ (p_i (p_i σ6 6 (-6)) 7 (nI p)).1 6 = 0 from (by decide : ¬ ((-6 : Int32) = 0)))]
      refine ⟨_, _, eB, hi2, hh, z1, rfl, rfl, Or.inr ⟨⟨-6, nI p, p2, by decide, rfl, rfl, rfl, rfl, y3, ?_⟩, hT7.fr rfl rfl rfl rfl, ?_⟩⟩
      · have := v2.1
        omega
      · exact (fM7.1 1 (by omega)).trans q6
    · have er2 : r = 0 := by
        rcases hr with ⟨h9, _⟩ | ⟨_, h9⟩
        · exact h9
        · exact absurd h9 ht
      have ev2 : v = 0 := by
        rcases hv with ⟨h9, _⟩ | ⟨_, h9⟩
        · exact h9
        · exact absurd h9 ht
      subst er2 ev2
      rw [if_pos rfl, k_failN, bd1_s, show (p_a σ7 3 w (σ7.1 3)).1 8 = nI w from h67, nI_1]
      unfold jX3_endFormula_21
      rw [if_pos y9]
      obtain ⟨σ8, w1, w2, w3, w4, w5, w6, w7, w8⟩ := k_addF (σ := σ6) (b := nI p) (e := σ6.1 1) (q := σ6.1 9) hN hw ((fK6.1 2 (by omega)).trans q1) (fun t ht => (v3.2.2.1 t ht).1)
      rw [w1, bd1_s]
      have hI8 : ∀ i, i ≠ 2 → σ8.1 i = σ6.1 i := fun i hi => by rw [w2, piI, if_neg hi]
      have gK : fqK w σ6 σ8 := ⟨fun i hi => hI8 i (by omega), w3 0 (by decide) (by decide) (by decide) (by omega), fun j hj => ⟨(w4 j (by omega)).1, (w4 j (by omega)).2.1, (w4 j (by omega)).2.2, w3 (9 + j) (by omega) (by omega) (by omega) (by omega)⟩⟩
      have gM : fqM w σ7 (p_i (p_a σ7 3 w (σ7.1 3)) 8 (nI (w + 1))) := by
        refine ⟨fun i hi => ?_, rfl, fun j hj => ⟨rfl, ?_, rfl⟩, fun j hj => rfl, fun i hi => rfl⟩
        · rw [piI, if_neg (by omega)]; rfl
        · show (p_a σ7 3 w (σ7.1 3)).2.1 3 j = _
          rw [paA, if_pos rfl, if_neg (by omega)]
      have hnt : (∀ t, t < 5 → tot2 t ≤ 40) ∧ q2'.natAbs ≤ 40 := by
        refine ⟨fun t h9 => ?_, ?_⟩
        · rcases Nat.lt_or_ge 40 (tot2 t) with h8 | h8
          · exact absurd (Or.inl ⟨t, h9, h8⟩) ht
          · exact h8
        · rcases Nat.lt_or_ge 40 q2'.natAbs with h8 | h8
          · exact absurd (Or.inr h8) ht
          · exact h8
      have hF2 := hF.fr ((fK6.q w).tr gK) (fM7.tr gM) (show p ≤ p2 by omega)
      refine ⟨σ8, _, eB, hi2, hh, z1, rfl, rfl, Or.inl ⟨p2, el2, ch2, fun j => if j = w then p else bg j, fun j => if j = w then p2 else en j, fun j t => if j = w then (tot2 t : Int) else Am j t, fun j => if j = w then q2' else Ac j, u1, hT7.fq gK gM, v2.fr ?_ ?_ ?_ ?_ ?_ ?_ ?_ ?_ ?_ ?_ ?_, ⟨?_, ?_, by omega, ?_, by omega, ?_⟩, fun j hj => ?_, fun j hj => ?_⟩⟩
      · exact hI8 1 (by decide)
      · exact hI8 4 (by decide)
      · exact hI8 5 (by decide)
      · exact hI8 6 (by decide)
      · exact hI8 7 (by decide)
      · exact w3 1 (by decide) (by decide) (by decide) (by omega)
      · rfl
      · rfl
      · rfl
      · rfl
      · rfl
      · rw [w2, pi_at]
      · rw [pi_at]
      · exact (hI8 3 (by decide)).trans ((fK6.1 3 (by omega)).trans q4)
      · exact (gM.1 1 (by omega)).trans ((fM7.1 1 (by omega)).trans q6)
      · by_cases e : j = w
        · subst e
          refine ⟨fun t h9 => ⟨?_, ?_, ?_⟩, ⟨?_, ?_, ?_⟩, ⟨?_, ?_, ?_, ?_, ?_, ?_⟩, ?_⟩
          · simp only [if_true]
            have := hnt.1 t h9
            omega
          · simp only [if_true]; exact w8 t h9
          · simp only [if_true]; exact (v3.2.2.1 t h9).2
          · simp only [if_true]; exact hnt.2
          · simp only [if_true]; rw [w5]; exact v3.2.2.2.1
          · simp only [if_true]; exact v3.2.2.2.2
          · simp only [if_true]; exact w6
          · simp only [if_true]; exact m2'
          · simp only [if_true]; rw [w7]; exact y1
          · simp only [if_true]
            show (p_a σ7 3 j (σ7.1 3)).2.1 3 j = _
            rw [paA, if_pos rfl, if_pos rfl]; exact y3
          · simp only [if_true]; omega
          · simp only [if_true]; omega
          · show (p_a σ7 3 j (σ7.1 3)).2.1 4 j = _
            rw [paA, if_neg (by decide), z4.2.1 4 (by decide) (by decide), m4]
            by_cases e : rc = 0
            · rw [if_pos e, if_pos (Or.inl e)]
            · rw [if_neg e, if_neg (by omega)]
        · have h9 := hF2.1 j (by omega)
          unfold kF1 at h9 ⊢
          simp only [if_neg e]
          exact h9
      · by_cases e : j + 1 = w
        · simp only [e, if_true, if_neg (show ¬ j = w by omega)]
          exact (hF.1 j (by omega)).2.2.1.2.2.2.2.2
        · simp only [if_neg e, if_neg (show ¬ j = w by omega)]
          exact hF.2 j (by omega)
  · obtain ⟨fa, qa, pa, x1, x2, x3, x4, x5, x6, x7⟩ := hB
    have hne : σ7.1 4 ≠ 0 := by rw [x4]; exact x1
    rw [k_216F hN hw h67 hne]
    refine ⟨σ6, _, eB, hi2, hh, z1, ?_, rfl, Or.inr ⟨⟨fa, qa, pa, x1, x2, x3, x4, x5, x6, x7⟩, hT7.fr rfl rfl rfl rfl, (fM7.1 1 (by omega)).trans q6⟩⟩
    unfold fX3_endFormula jX3_endFormula_21
    rw [if_neg (by rw [x2]; exact x1), if_neg (by rw [x2]; exact x1)]
