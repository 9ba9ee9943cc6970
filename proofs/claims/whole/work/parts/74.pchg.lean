/-! Charges, electrons, a formula's body. -/
theorem k_noteF {N : Nat} {σ : vS} {q : Int32} (h : σ.1 4 ≠ 0) : fX6_noteCharge N σ q = some (p_i σ 10 1) := by
  unfold fX6_noteCharge
  rw [k_failX h, k_failX h, bd1_s]
  split
  · split <;> rfl
  · rfl
theorem k_note1 {N el ch : Nat} {σ : vS} {q : Int32} (h4 : σ.1 4 = 0) (h9 : σ.1 9 = nI el) (h10 : σ.1 10 = nI ch) (hch : ch ≤ 1) (hel : el + ch ≤ 5) (hok : ¬ (ch = 0 ∧ el = 5)) : fX6_noteCharge N σ q = some (p_i σ 10 1) := by
  unfold fX6_noteCharge
  rw [h10, h9, k_failN, bd1_s]
  by_cases e : ch = 0
  · rw [if_pos (show nI ch = 0 by rw [e]; rfl), if_neg (nlN 5 5 rfl (by omega) (by omega) (show el ≠ 5 by omega))]
  · rw [if_neg (nI_ne0 (by omega) (by omega))]
theorem k_note0 {N : Nat} {σ : vS} {q : Int32} (h4 : σ.1 4 = 0) (h9 : σ.1 9 = nI 5) (h10 : σ.1 10 = nI 0) : fX6_noteCharge N σ q = some (p_i (p_i (p_i σ 4 (-5)) 5 q) 10 1) := by
  unfold fX6_noteCharge
  rw [h10, h9, k_failY h4, bd1_s, if_pos (show nI 0 = 0 from rfl), if_pos (show nI 5 = 5 from rfl)]
theorem k_admit {N el ch : Nat} {σ : vS} (h4 : σ.1 4 = nI el) (h5 : σ.1 5 = nI ch) (hch : ch ≤ 1) (hel : el + ch ≤ 5) : fX1_admitCharge N σ = if ch = 0 ∧ el = 5 then some (0, p_i σ 5 0) else some (1, p_i σ 5 1) := by
  unfold fX1_admitCharge
  rw [h5, h4]
  by_cases e : ch = 0
  · rw [if_pos (show nI ch = 0 by rw [e]; rfl)]
    by_cases e2 : el = 5
    · rw [if_pos (show (5 : Int32) ≤ nI el by rw [e2]; decide), if_pos ⟨e, e2⟩]
    · rw [if_neg (show ¬ (5 : Int32) ≤ nI el from nI_ge (b := 5) (by omega) (by omega)), if_neg (fun h => e2 h.2)]
  · rw [if_neg (nI_ne0 (by omega) (by omega)), if_neg (fun h => e h.1)]
def kBd (σK σM σK' σM' : vS) (L : Nat) (c : Nat → Nat) (p w : Nat) : Prop := fpK σK σK' ∧ fpM w σM σM' ∧ ((∃ p' el' ch' tot' q', p < p' ∧ kU σK' σM' L c p' w el' ch' tot' q' ∧ (∀ t, t < 5 → tot' t ≤ 99 ^ 5 * 100 * p') ∧ q'.natAbs ≤ 99) ∨ kB σK' σM')
theorem nI_of_int (n : Nat) : Int32.ofInt (n : Int) = nI n := by
  show Int32.ofInt (n : Int) = Int32.ofNat n
  first | rfl | simp
theorem kU.chg {σK σM : vS} {L p w el ch : Nat} {c : Nat → Nat} {tot : Nat → Nat} {q : Int} (h : kU σK σM L c p w el ch tot q) (hok : ¬ (ch = 0 ∧ el = 5)) : kU (p_i σK 5 1) (p_i σM 10 1) L c p w el 1 tot q := by
  obtain ⟨h1, ⟨g0, g1, g2, g3, g4, g5, g6, g7, g8, g9, g10, g11, g12⟩, h3⟩ := h
  exact ⟨h1.fr rfl rfl rfl rfl, ⟨g0, g1, g2, g3, g4, rfl, rfl, by omega, by omega, g9, g10, g11, g12⟩, h3.fr rfl rfl rfl rfl rfl⟩
theorem kU.qp {σK σM : vS} {L p w el ch p' : Nat} {c : Nat → Nat} {tot : Nat → Nat} {q : Int} (h : kU σK σM L c p w el ch tot q) (hp : p' ≤ L) (q' : Int) : kU (p_i (p_i σK 9 (Int32.ofInt q')) 1 (nI p')) (p_i (p_b σM 0 w (lI q')) 3 (nI p')) L c p' w el ch tot q' := by
  obtain ⟨h1, ⟨g0, g1, g2, g3, g4, g5, g6, g7, g8, g9, g10, g11, g12⟩, ⟨k0, k1, k2, k3, k4⟩⟩ := h
  refine ⟨h1.fr rfl rfl rfl rfl, ⟨hp, rfl, rfl, g3, g4, g5, g6, g7, g8, g9, g10, g11, g12⟩, ⟨k0, k1, fun t ht => ⟨(k2 t ht).1, ?_⟩, rfl, ?_⟩⟩
  · show (p_b σM 0 w (lI q')).2.2.2 1 (5 * w + t) = _
    rw [pbB, if_neg (by decide)]; exact (k2 t ht).2
  · show (p_b σM 0 w (lI q')).2.2.2 0 w = _
    rw [pbB, if_pos rfl, if_pos rfl]
theorem k_rc70 {N w p : Nat} {σ : vS} {v : Int64} {r : Int32} (h8 : σ.1 8 = nI w) (hw : w < 6) (h3 : σ.1 3 = nI p) : jX6_readCharge_70 N σ v r = some (p_i (p_b σ 0 w (if r = 43 then v else -v)) 3 (nI (p + 1))) := by
  unfold jX6_readCharge_70
  rw [h8, if_neg (nI_in (by omega) (by omega)), nI_clamp (by omega), h3, nI_1]
  by_cases e : r = 43
  · rw [if_pos e, if_pos e]
  · rw [if_neg e, if_neg e, if_neg (nI_g (by omega) (by omega))]
theorem k_rc34F {N w p L : Nat} {c : Nat → Nat} {σK σ : vS} {v : Int64} (hT : kTx σK σ L c) (h4 : σ.1 4 ≠ 0) (h8 : σ.1 8 = nI w) (hw : w < 6) (h3 : σ.1 3 = nI p) (hp : p < 900) : ∃ x, jX6_readCharge_34 N σ v = some (p_i (p_b σ 0 w x) 3 (nI (p + 1))) := by
  unfold jX6_readCharge_34
  rw [h3, k_charAt hT (by omega), bd1_s, k_failX h4, k_failX h4, bd1_s, k_rc70 h8 hw h3]
  refine ⟨if nI (c p) = 43 then v else -v, ?_⟩
  split
  · rfl
  · split <;> rfl
theorem k_charge {N : Nat} {σK σM : vS} {L p w el ch : Nat} {c : Nat → Nat} {tot : Nat → Nat} {q : Int} (hN : 300 < N) (h : kU σK σM L c p w el ch tot q) (hb : ∀ t, t < 5 → tot t ≤ 99 ^ 5 * 100 * p) (hc : c p = 94) :
    ∃ σK' σM', fX3_readCharge N σK = some σK' ∧ fX6_readCharge N σM = some σM' ∧ kBd σK σM σK' σM' L c p w := by
  have h0 := h
  obtain ⟨hT, hC, hO⟩ := h
  have hL := hT.1
  have hC' := hC
  obtain ⟨a0, a1, a2, a3, a4, a5, a6, a7, a8, a9, a10, a11, a12⟩ := hC'
  have hw := hO.1
  have h8 := hO.2.1
  have hp : p < L := hT.p (by omega)
  unfold fX3_readCharge fX6_readCharge
  rw [k_admit a3 a5 a7 a8, a2]
  by_cases hbad : ch = 0 ∧ el = 5
  · rw [if_pos hbad, bd2_s, if_pos rfl]
    obtain ⟨e1, e2⟩ := hbad
    subst e1 e2
    rw [k_note0 a10 a4 a6, bd1_s]
    have hne : ¬ (p_i (p_i (p_i σM 4 (-5)) 5 (nI p)) 10 1).1 4 = 0 := by show ¬ ((-5 : Int32) = 0); decide
    rw [if_neg hne]
    have hT2 : kTx σK (p_i (p_i (p_i (p_i σM 4 (-5)) 5 (nI p)) 10 1) 3 (nI p + 1)) L c := hT.fr rfl rfl rfl rfl
    obtain ⟨x, hx⟩ := k_rc34F (N := N) (w := w) (p := p + 1) (v := 0) hT2 hne h8 hw (show nI p + 1 = nI (p + 1) from nI_1 p) (by omega)
    rw [show (p_i (p_i (p_i σM 4 (-5)) 5 (nI p)) 10 1).1 3 = nI p from a2]
    rw [hx]
    unfold fX3_meet
    rw [bd1_s]
    refine ⟨_, _, rfl, rfl, ?_, ?_, Or.inr ⟨-5, nI p, p + 1 + 1, by decide, rfl, a1, rfl, rfl, rfl, by omega⟩⟩
    · exact ((fpK.i _ 5 _ (by decide) (by decide) (by decide)).tr (fpK.i _ 6 _ (by decide) (by decide) (by decide))).tr (fpK.i _ 7 _ (by decide) (by decide) (by decide))
    · exact (((((fpM.i w _ 4 _ (by decide) (by decide) (by decide)).tr (fpM.i w _ 5 _ (by decide) (by decide) (by decide))).tr (fpM.i w _ 10 _ (by decide) (by decide) (by decide))).tr (fpM.i w _ 3 _ (by decide) (by decide) (by decide))).tr (fpM.b0 w _ _)).tr (fpM.i w _ 3 _ (by decide) (by decide) (by decide))
  · rw [if_neg hbad, bd2_s, if_neg (by decide), k_note1 a10 a4 a6 a7 a8 hbad, bd1_s]
    rw [if_pos (show (p_i σM 10 1).1 4 = 0 from a10), show (p_i σM 10 1).1 3 = nI p from a2, show (p_i σK 5 1).1 1 = nI p from a1, nI_1]
    have hU1 := (h0.chg hbad).pl (p' := p + 1) (by omega)
    obtain ⟨e, g1, g2, g3⟩ := k_num hN hU1.1 hU1.2.1.1 hU1.2.1.2.1 hU1.2.1.2.2.1 hU1.2.1.2.2.2.2.2.2.2.2.2.2.1
    rw [pi_pi, pi_pi] at g3
    have fK : fpK σK (p_i (p_i σK 5 1) 1 (nI e)) := (fpK.i _ 5 _ (by decide) (by decide) (by decide)).tr (fpK.i _ 1 _ (by decide) (by decide) (by decide))
    have fM : fpM w σM (p_i (p_i σM 10 1) 3 (nI e)) := (fpM.i w _ 10 _ (by decide) (by decide) (by decide)).tr (fpM.i w _ 3 _ (by decide) (by decide) (by decide))
    rcases g3 with ⟨v, hv9, eK, eM⟩ | ⟨r, r', eK, eM⟩
    · rw [eK, eM, bd2_s, bd2_s]
      have hU2 := hU1.pl (p' := e) g2
      rw [pi_pi, pi_pi] at hU2
      rw [if_pos (show (p_i (p_i σK 5 1) 1 (nI e)).1 6 = 0 from a9), k_here hU2.1 (pi_at _ _ _) (by omega), bd1_s]
      unfold jX6_readCharge_34
      rw [show (p_i (p_i σM 10 1) 3 (nI e)).1 3 = nI e from pi_at _ _ _, k_charAt hU2.1 (by omega), bd1_s, k_failN, bd1_s]
      have hcb := hT.b e
      have f4 : (p_i (p_i σM 10 1) 3 (nI e)).1 4 = 0 := a10
      by_cases h1 : c e = 43
      · have heL : e < L := hT.p (by omega)
        rw [if_pos (nlE 43 43 rfl h1), if_pos (nlE 43 43 rfl h1), k_rc70 (σ := p_i (p_i σM 10 1) 3 (nI e)) h8 hw (pi_at _ _ _), if_pos (nlE 43 43 rfl h1)]
        unfold jX3_readCharge_84
        rw [if_pos (nlE 43 43 rfl h1), show (p_i (p_i σK 5 1) 1 (nI e)).1 1 = nI e from pi_at _ _ _, nI_1, ← nI_of_int v]
        exact ⟨_, _, rfl, rfl, (fK.tr (fpK.i _ 9 _ (by decide) (by decide) (by decide))).tr (fpK.i _ 1 _ (by decide) (by decide) (by decide)), (fM.tr (fpM.b0 w _ _)).tr (fpM.i w _ 3 _ (by decide) (by decide) (by decide)), Or.inl ⟨e + 1, el, 1, tot, v, by omega, hU2.qp (by omega) v, fun t ht => Nat.le_trans (hb t ht) (Nat.mul_le_mul_left _ (by omega)), by omega⟩⟩
      · rw [if_neg (nlN 43 43 rfl hcb (by omega) h1), if_neg (nlN 43 43 rfl hcb (by omega) h1)]
        by_cases h2 : c e = 45
        · have heL : e < L := hT.p (by omega)
          rw [if_pos (nlE 45 45 rfl h2), if_pos (nlE 45 45 rfl h2), k_rc70 (σ := p_i (p_i σM 10 1) 3 (nI e)) h8 hw (pi_at _ _ _), if_neg (nlN 43 43 rfl hcb (by omega) h1)]
          unfold jX3_readCharge_84
          rw [if_neg (nlN 43 43 rfl hcb (by omega) h1), show (p_i (p_i σK 5 1) 1 (nI e)).1 1 = nI e from pi_at _ _ _, nI_1, lI_neg]
          rw [show - nI v = Int32.ofInt (-(v : Int)) by rw [← nI_of_int v]; exact (Int32.ofInt_neg _).symm]
          exact ⟨_, _, rfl, rfl, (fK.tr (fpK.i _ 9 _ (by decide) (by decide) (by decide))).tr (fpK.i _ 1 _ (by decide) (by decide) (by decide)), (fM.tr (fpM.b0 w _ _)).tr (fpM.i w _ 3 _ (by decide) (by decide) (by decide)), Or.inl ⟨e + 1, el, 1, tot, -(v : Int), by omega, hU2.qp (by omega) _, fun t ht => Nat.le_trans (hb t ht) (Nat.mul_le_mul_left _ (by omega)), by omega⟩⟩
        · rw [if_neg (nlN 45 45 rfl hcb (by omega) h2), if_neg (nlN 45 45 rfl hcb (by omega) h2), k_failY f4, bd1_s]
          rw [k_rc70 (σ := p_i (p_i (p_i (p_i σM 10 1) 3 (nI e)) 4 (-2)) 5 (nI e)) h8 hw rfl]
          unfold fX3_meet
          rw [bd1_s]
          refine ⟨_, _, rfl, rfl, (fK.tr (fpK.i _ 6 _ (by decide) (by decide) (by decide))).tr (fpK.i _ 7 _ (by decide) (by decide) (by decide)), (((fM.tr (fpM.i w _ 4 _ (by decide) (by decide) (by decide))).tr (fpM.i w _ 5 _ (by decide) (by decide) (by decide))).tr (fpM.b0 w _ _)).tr (fpM.i w _ 3 _ (by decide) (by decide) (by decide)), Or.inr ⟨-2, nI e, e + 1, by decide, rfl, rfl, rfl, rfl, rfl, by omega⟩⟩
    · rw [eK, eM, bd2_s, bd2_s, if_neg (by show ¬ ((-3 : Int32) = 0); decide)]
      have hT2 : kTx σK (p_i (p_i (p_i (p_i σM 10 1) 3 (nI e)) 4 (-3)) 5 (nI (p + 1))) L c := hT.fr rfl rfl rfl rfl
      obtain ⟨x, hx⟩ := k_rc34F (N := N) (w := w) (p := e) (v := r') hT2 (by show ¬ ((-3 : Int32) = 0); decide) h8 hw rfl (by omega)
      rw [hx]
      refine ⟨_, _, rfl, rfl, (fK.tr (fpK.i _ 6 _ (by decide) (by decide) (by decide))).tr (fpK.i _ 7 _ (by decide) (by decide) (by decide)), (((fM.tr (fpM.i w _ 4 _ (by decide) (by decide) (by decide))).tr (fpM.i w _ 5 _ (by decide) (by decide) (by decide))).tr (fpM.b0 w _ _)).tr (fpM.i w _ 3 _ (by decide) (by decide) (by decide)), Or.inr ⟨-3, nI (p + 1), e + 1, by decide, rfl, rfl, rfl, rfl, rfl, by omega⟩⟩
/-- a formula behind its beginning -/
theorem k_fbody {N : Nat} {σK σM : vS} {L p w el ch : Nat} {c : Nat → Nat} (hN : 300 < N) (h : kU σK σM L c p w el ch (fun _ => 0) 0) :
    ∃ σK' σM', (if nI (c p) = 101 then fX3_readElectron N σK else fX3_readFormula N σK) = some σK' ∧ jX6_readFormula_60 N σM = jX6_readFormula_216 N σM' ∧ kBd σK σM σK' σM' L c p w := by
  have h0 := h
  obtain ⟨hT, hC, hO⟩ := h
  have hL := hT.1
  have hC' := hC
  obtain ⟨a0, a1, a2, a3, a4, a5, a6, a7, a8, a9, a10, a11, a12⟩ := hC'
  have hw := hO.1
  have h8 := hO.2.1
  have hcb := hT.b p
  unfold jX6_readFormula_60
  rw [a2, k_charAt hT (by omega), bd1_s]
  by_cases hc : c p = 101
  · have hp : p < L := hT.p (by omega)
    rw [if_pos (nlE 101 101 rfl hc), if_pos (nlE 101 101 rfl hc)]
    have c1 := k_charAt (N := N) (p := p + 1) hT (by omega)
    have c2 := k_charAt (N := N) (p := p + 2) hT (by omega)
    have d1 : fX4_ahead N σK 1 = some (nI (c (p + 1))) := k_ahead hT a1 (by omega) 1 (by omega)
    have d2 : fX4_ahead N σK 2 = some (nI (c (p + 2))) := k_ahead hT a1 (by omega) 2 (by omega)
    unfold fX3_readElectron
    rw [d1, bd1_s, nI_1, c1, bd1_s]
    -- the sign is missing
    have bad : ∃ σK' σM', (bd1 (fX3_meet N σK (-2) (σK.1 1)) fun σ2 => some σ2) = some σK' ∧ (bd1 (fX6_failIf N σM 1 (-2) (nI p)) fun σ29 => jX6_readFormula_118 N σ29) = jX6_readFormula_216 N σM' ∧ kBd σK σM σK' σM' L c p w := by
      rw [k_failY a10, bd1_s]
      unfold jX6_readFormula_118 fX3_meet
      rw [k_noteF (σ := p_i (p_i σM 4 (-2)) 5 (nI p)) (by show ¬ ((-2 : Int32) = 0); decide), bd1_s, bd1_s, show (p_i (p_i (p_i σM 4 (-2)) 5 (nI p)) 10 1).1 8 = nI w from h8, if_neg (nI_in (by omega) (by omega)), nI_clamp (by omega), a1]
      rw [show (p_i (p_i (p_i σM 4 (-2)) 5 (nI p)) 10 1).1 3 + 3 = nI (p + 3) by rw [show (p_i (p_i (p_i σM 4 (-2)) 5 (nI p)) 10 1).1 3 = nI p from a2]; exact nI_add p 3]
      refine ⟨_, _, rfl, rfl, (fpK.i _ 6 _ (by decide) (by decide) (by decide)).tr (fpK.i _ 7 _ (by decide) (by decide) (by decide)), ((((fpM.i w _ 4 _ (by decide) (by decide) (by decide)).tr (fpM.i w _ 5 _ (by decide) (by decide) (by decide))).tr (fpM.i w _ 10 _ (by decide) (by decide) (by decide))).tr (fpM.b0 w _ _)).tr (fpM.i w _ 3 _ (by decide) (by decide) (by decide)), Or.inr ⟨-2, nI p, p + 3, by decide, rfl, rfl, rfl, rfl, rfl, by omega⟩⟩
    have hb1 := hT.b (p + 1)
    have hb2 := hT.b (p + 2)
    by_cases h1 : c (p + 1) = 94
    · rw [if_pos (nlE 94 94 rfl h1), if_pos (nlE 94 94 rfl h1), d2, bd1_s, show nI p + 2 = nI (p + 2) from nI_add p 2, c2, bd1_s]
      by_cases h2 : c (p + 2) = 45
      · have hp2 : p + 2 < L := hT.p (by omega)
        rw [if_pos (nlE 45 45 rfl h2), if_pos (nlE 45 45 rfl h2), k_failN, bd1_s, k_admit a3 a5 a7 a8]
        unfold jX6_readFormula_118
        rw [a2]
        by_cases hbad : ch = 0 ∧ el = 5
        · rw [if_pos hbad, bd2_s, if_pos rfl]
          obtain ⟨e1, e2⟩ := hbad
          subst e1 e2
          rw [k_note0 a10 a4 a6, bd1_s, show (p_i (p_i (p_i σM 4 (-5)) 5 (nI p)) 10 1).1 8 = nI w from h8, if_neg (nI_in (by omega) (by omega)), nI_clamp (by omega)]
          rw [show (p_i (p_i (p_i σM 4 (-5)) 5 (nI p)) 10 1).1 3 + 3 = nI (p + 3) by rw [show (p_i (p_i (p_i σM 4 (-5)) 5 (nI p)) 10 1).1 3 = nI p from a2]; exact nI_add p 3]
          unfold fX3_meet
          rw [bd1_s]
          refine ⟨_, _, rfl, rfl, ((fpK.i _ 5 _ (by decide) (by decide) (by decide)).tr (fpK.i _ 6 _ (by decide) (by decide) (by decide))).tr (fpK.i _ 7 _ (by decide) (by decide) (by decide)), ((((fpM.i w _ 4 _ (by decide) (by decide) (by decide)).tr (fpM.i w _ 5 _ (by decide) (by decide) (by decide))).tr (fpM.i w _ 10 _ (by decide) (by decide) (by decide))).tr (fpM.b0 w _ _)).tr (fpM.i w _ 3 _ (by decide) (by decide) (by decide)), Or.inr ⟨-5, nI p, p + 3, by decide, rfl, a1, rfl, rfl, rfl, by omega⟩⟩
        · rw [if_neg hbad, bd2_s, if_neg (by decide), k_note1 a10 a4 a6 a7 a8 hbad, bd1_s, show (p_i σM 10 1).1 8 = nI w from h8, if_neg (nI_in (by omega) (by omega)), nI_clamp (by omega)]
          rw [show (p_i σM 10 1).1 3 + 3 = nI (p + 3) by rw [show (p_i σM 10 1).1 3 = nI p from a2]; exact nI_add p 3]
          rw [show (p_i σK 5 1).1 1 + 3 = nI (p + 3) by rw [show (p_i σK 5 1).1 1 = nI p from a1]; exact nI_add p 3]
          rw [show (-1 : Int32) = Int32.ofInt (-1) by decide, show (-1 : Int64) = lI (-1) by decide]
          refine ⟨_, _, rfl, rfl, ((fpK.i _ 5 _ (by decide) (by decide) (by decide)).tr (fpK.i _ 9 _ (by decide) (by decide) (by decide))).tr (fpK.i _ 1 _ (by decide) (by decide) (by decide)), ((fpM.i w _ 10 _ (by decide) (by decide) (by decide)).tr (fpM.b0 w _ _)).tr (fpM.i w _ 3 _ (by decide) (by decide) (by decide)), Or.inl ⟨p + 3, el, 1, fun _ => 0, -1, by omega, (h0.chg hbad).qp (by omega) (-1), fun _ _ => Nat.zero_le _, by decide⟩⟩
      · rw [if_neg (nlN 45 45 rfl hb2 (by omega) h2), if_neg (nlN 45 45 rfl hb2 (by omega) h2)]
        exact bad
    · rw [if_neg (nlN 94 94 rfl hb1 (by omega) h1), if_neg (nlN 94 94 rfl hb1 (by omega) h1)]
      exact bad
  · rw [if_neg (nlN 101 101 rfl hcb (by omega) hc), if_neg (nlN 101 101 rfl hcb (by omega) hc)]
    obtain ⟨σA, σB, z1, z2, z3, z4, z5⟩ := k_parts (c := c) (w := w) (ch := ch) (q := 0) hN L σK σM p el 0 (fun _ => 0) (by omega) h0 (fun _ _ => Nat.zero_le _) (by omega) N N (by omega) (by omega)
    unfold fX3_readFormula
    rw [show (k_itr (fun zz => bX3_readFormula_4 N zz.1 zz.2.1 zz.2.2) N ((1 : Int32), (0 : Int32), σK)) = some σA from z1, bd1_s, bd1_as, z2, bd1_s]
    unfold jX3_readFormula_92 jX6_readFormula_192
    rcases z5 with ⟨p2, el2, tot2, q1, q2, q3⟩ | hB
    · have b9 := q2.2.1.2.2.2.2.2.2.2.2.2.1
      have b10 := q2.2.1.2.2.2.2.2.2.2.2.2.2.1
      have b1 := q2.2.1.2.1
      have b2 := q2.2.1.2.2.1
      have p2L := q2.2.1.1
      rw [if_pos b9, if_pos b10, k_here q2.1 b1 (by omega), bd1_s, b2, k_charAt q2.1 (by omega), bd1_s]
      by_cases h9 : c p2 = 94
      · rw [if_pos (nlE 94 94 rfl h9), if_pos (nlE 94 94 rfl h9)]
        obtain ⟨σC, σD, w1, w2, w3, w4, w5⟩ := k_charge hN q2 q3 h9
        rw [w1, w2, bd1_s, bd1_s]
        refine ⟨σC, σD, rfl, rfl, z3.tr w3, z4.tr w4, ?_⟩
        rcases w5 with ⟨p3, el3, ch3, tot3, q3, u1, u2⟩ | u
        · exact Or.inl ⟨p3, el3, ch3, tot3, q3, by omega, u2⟩
        · exact Or.inr u
      · rw [if_neg (nlN 94 94 rfl (hT.b p2) (by omega) h9), if_neg (nlN 94 94 rfl (hT.b p2) (by omega) h9)]
        exact ⟨σA, σB, rfl, rfl, z3, z4, Or.inl ⟨p2, el2, ch, tot2, 0, q1, q2, q3, by decide⟩⟩
    · obtain ⟨fa, qa, pa, x1, x2, x3, x4, x5, x6, x7⟩ := hB
      rw [if_neg (by rw [x2]; exact x1), if_neg (by rw [x4]; exact x1)]
      exact ⟨σA, σB, rfl, rfl, z3, z4, Or.inr ⟨fa, qa, pa, x1, x2, x3, x4, x5, x6, x7⟩⟩
