/-! An element with its number. -/
theorem kSc.fr {σK σM σK' σM' : vS} {L p el ch : Nat} (h : kSc σK σM L p el ch) (a1 : σK'.1 1 = σK.1 1) (a4 : σK'.1 4 = σK.1 4) (a5 : σK'.1 5 = σK.1 5) (a6 : σK'.1 6 = σK.1 6) (a7 : σK'.1 7 = σK.1 7) (an : σK'.2.1 1 = σK.2.1 1) (b3 : σM'.1 3 = σM.1 3) (b4 : σM'.1 4 = σM.1 4) (b9 : σM'.1 9 = σM.1 9) (b10 : σM'.1 10 = σM.1 10) (bn : σM'.2.1 5 = σM.2.1 5) : kSc σK' σM' L p el ch := by
  obtain ⟨h0, h1, h2, h3, h4, h5, h6, h7, h8, h9, h10, h11, h12⟩ := h
  exact ⟨h0, a1.trans h1, b3.trans h2, a4.trans h3, b9.trans h4, a5.trans h5, b10.trans h6, h7, h8, a6.trans h9, b4.trans h10, a7.trans h11, fun i hi => by rw [an, bn]; exact h12 i hi⟩
theorem kTo.fr {σK σM σK' σM' : vS} {w : Nat} {tot : Nat → Nat} {q : Int} (h : kTo σK σM w tot q) (a0 : σK'.2.2.2 0 = σK.2.2.2 0) (a9 : σK'.1 9 = σK.1 9) (b8 : σM'.1 8 = σM.1 8) (b1 : σM'.2.2.2 1 = σM.2.2.2 1) (b0 : σM'.2.2.2 0 = σM.2.2.2 0) : kTo σK' σM' w tot q := by
  obtain ⟨h0, h1, h2, h3, h4⟩ := h
  exact ⟨h0, b8.trans h1, fun t ht => by rw [a0, b1]; exact h2 t ht, a9.trans h3, by rw [b0]; exact h4⟩
theorem kS.fr {σK σM σK' σM' : vS} {d : Nat} {s : Nat → Nat → Nat} (h : kS σK σM d s) (a8 : σK'.1 8 = σK.1 8) (a5 : σK'.2.1 5 = σK.2.1 5) (aB : σK'.2.2.2 = σK.2.2.2) (b11 : σM'.1 11 = σM.1 11) (b6 : σM'.2.1 6 = σM.2.1 6) (b2 : σM'.2.2.2 2 = σM.2.2.2 2) : kS σK' σM' d s := by
  obtain ⟨h0, h1, h2, h3, h4⟩ := h
  exact ⟨h0, a8.trans h1, b11.trans h2, fun i x y => by rw [a5, b6]; exact h3 i x y, fun i hi t ht => by rw [aB, b2]; exact h4 i hi t ht⟩
theorem kU.pl {σK σM : vS} {L p w el ch p' : Nat} {c : Nat → Nat} {tot : Nat → Nat} {q : Int} (h : kU σK σM L c p w el ch tot q) (hp : p' ≤ L) : kU (p_i σK 1 (nI p')) (p_i σM 3 (nI p')) L c p' w el ch tot q := by
  obtain ⟨h1, ⟨g0, g1, g2, g3, g4, g5, g6, g7, g8, g9, g10, g11, g12⟩, h3⟩ := h
  exact ⟨h1.fr rfl rfl rfl rfl, ⟨hp, pi_at _ _ _, pi_at _ _ _, g3, g4, g5, g6, g7, g8, g9, g10, g11, g12⟩, h3.fr rfl rfl rfl rfl rfl⟩
theorem kU.sm {σK σM : vS} {L p w el ch d k i : Nat} {c : Nat → Nat} {tot : Nat → Nat} {q : Int} {v v' : Int64} (h : kU σK σM L c p w el ch tot q) : kU (p_b σK (1 + d) k v) (p_b σM 2 i v') L c p w el ch tot q := by
  obtain ⟨h1, h2, h3⟩ := h
  refine ⟨h1.fr rfl rfl rfl rfl, h2.fr rfl rfl rfl rfl rfl rfl rfl rfl rfl rfl rfl, h3.fr ?_ rfl rfl rfl rfl⟩
  funext j
  rw [pbB, if_neg (by omega)]
theorem kS.up {σK σM : vS} {d k v : Nat} {s : Nat → Nat → Nat} (h : kS σK σM d s) (hk : k < 5) : kS (p_b σK (1 + d) k (lI (s d k) + lI v)) (p_b σM 2 (5 * d + k) (lI (s d k) + lI v)) d (fun i t => if i = d ∧ t = k then s i t + v else s i t) := by
  obtain ⟨h0, h1, h2, h3, h4⟩ := h
  refine ⟨h0, h1, h2, h3, fun i hi t ht => ?_⟩
  rw [pbB, pbB, if_pos rfl]
  by_cases e : i = d ∧ t = k
  · obtain ⟨rfl, rfl⟩ := e
    rw [if_pos rfl, if_pos rfl, if_pos rfl, lI_add]
    simp only [and_self, if_true]
    constructor <;> rfl
  · rw [if_neg (show ¬ 5 * i + t = 5 * d + k by omega)]
    simp only [if_neg e]
    by_cases e2 : 1 + i = 1 + d
    · rw [if_pos e2, if_neg (by omega)]
      have : i = d := by omega
      subst this
      exact h4 i hi t ht
    · rw [if_neg e2]
      exact h4 i hi t ht
theorem kpw3 : ∀ d, d ≤ 3 → 99 ^ d * 99 ≤ 99 ^ 4 := by decide
def kOut (σK σM σK' σM' : vS) (L : Nat) (c : Nat → Nat) (p w ch : Nat) (tot : Nat → Nat) (q : Int) (d : Nat) : Prop := fpK σK σK' ∧ fpM w σM σM' ∧ ((∃ p' el' s', p < p' ∧ kU σK' σM' L c p' w el' ch tot q ∧ kS σK' σM' d s' ∧ ∀ t, t < 5 → kPh s' t d ≤ 99 ^ 4 * p') ∨ kB σK' σM')
theorem k_elem2 {N : Nat} {σK σM : vS} {L p w el ch d k : Nat} {c : Nat → Nat} {tot : Nat → Nat} {q : Int} {s : Nat → Nat → Nat} (hN : 300 < N) (h : kU σK σM L c (p + 1) w el ch tot q) (hS : kS σK σM d s) (hk : k < 5) (hb : ∀ t, t < 5 → kPh s t d ≤ 99 ^ 4 * p) :
    ∃ σK' σM', jX3_readElement_79 N σK (nI k) = some σK' ∧ (bd2 (fX6_number0 N σM) fun r29 σ29 => jX6_readStep_128 N σ29 (nI k) r29) = some (1, σM') ∧ kOut σK σM σK' σM' L c p w ch tot q d := by
  have hd := hS.1
  obtain ⟨hT, hC, hO⟩ := h
  have hL := hT.1
  obtain ⟨e, g1, g2, g3⟩ := k_num hN hT hC.1 hC.2.1 hC.2.2.1 hC.2.2.2.2.2.2.2.2.2.2.1
  unfold jX3_readElement_79
  rw [hS.2.1, if_neg (nI_in (by omega) (by omega)), if_neg (nI_in (by omega) (by omega)), nI_clamp (by omega), nI_clamp (by omega)]
  have hv := hS.2.2.2.2 d (Nat.le_refl _) k hk
  rcases g3 with ⟨v, hv9, eK, eM⟩ | ⟨r, r', eK, eM⟩
  · have hU2 := kU.pl ⟨hT, hC, hO⟩ g2
    have hS2 : kS (p_i σK 1 (nI e)) (p_i σM 3 (nI e)) d s := hS.fr rfl rfl rfl rfl rfl rfl
    refine ⟨p_b (p_i σK 1 (nI e)) (1 + d) k (lI (s d k) + lI v), p_b (p_i σM 3 (nI e)) 2 (5 * d + k) (lI (s d k) + lI v), ?_, ?_, ?_, ?_, Or.inl ⟨e, el, _, by omega, kU.sm hU2, kS.up hS2 hk, fun t ht => ?_⟩⟩
    · rw [eK, bd2_s, if_neg (nI_g (by omega) (by omega)), hv.1, nI_L (by omega)]
    · rw [eM, bd2_s]
      unfold jX6_readStep_128
      rw [show (p_i σM 3 (nI e)).1 11 = nI d from hS.2.2.1, k_ix5, if_neg (nI_in (by omega) (by omega)), if_neg (nI_in (by omega) (by omega)), nI_clamp (by omega)]
      rw [show (p_i σM 3 (nI e)).2.2.2 2 (5 * d + k) = lI (s d k) from hv.2]
    · exact (fpK.i σK 1 (nI e) (by decide) (by decide) (by decide)).tr (fpK.b _ _ _ _)
    · exact (fpM.i w σM 3 (nI e) (by decide) (by decide) (by decide)).tr (fpM.b2 _ _ _ _)
    · have h1 := kPh_up (s := s) (t := t) (d := d) (k := k) hv9 d (Nat.le_refl _)
      rw [if_pos rfl] at h1
      have h2 := hb t ht
      have h3 := kpw3 d hd
      have h4 : 99 ^ 4 * p + 99 ^ 4 ≤ 99 ^ 4 * e := by
        rw [← Nat.mul_succ]
        exact Nat.mul_le_mul_left _ g1
      omega
  · refine ⟨p_b (p_i (p_i (p_i σK 1 (nI e)) 6 (-3)) 7 (nI (p + 1))) (1 + d) k (lI (s d k) + r.toInt64), p_b (p_i (p_i (p_i σM 3 (nI e)) 4 (-3)) 5 (nI (p + 1))) 2 (5 * d + k) (lI (s d k) + r'), ?_, ?_, ?_, ?_, Or.inr ⟨-3, nI (p + 1), e, by decide, rfl, rfl, rfl, rfl, rfl, by omega⟩⟩
    · rw [eK, bd2_s, if_neg (nI_g (by omega) (by omega)), hv.1]
    · rw [eM, bd2_s]
      unfold jX6_readStep_128
      rw [show (p_i (p_i (p_i σM 3 (nI e)) 4 (-3)) 5 (nI (p + 1))).1 11 = nI d from hS.2.2.1, k_ix5, if_neg (nI_in (by omega) (by omega)), if_neg (nI_in (by omega) (by omega)), nI_clamp (by omega)]
      rw [show (p_i (p_i (p_i σM 3 (nI e)) 4 (-3)) 5 (nI (p + 1))).2.2.2 2 (5 * d + k) = lI (s d k) from hv.2]
    · exact (((fpK.i σK 1 (nI e) (by decide) (by decide) (by decide)).tr (fpK.i _ 6 _ (by decide) (by decide) (by decide))).tr (fpK.i _ 7 _ (by decide) (by decide) (by decide))).tr (fpK.b _ _ _ _)
    · exact (((fpM.i w σM 3 (nI e) (by decide) (by decide) (by decide)).tr (fpM.i w _ 4 _ (by decide) (by decide) (by decide))).tr (fpM.i w _ 5 _ (by decide) (by decide) (by decide))).tr (fpM.b2 _ _ _ _)
theorem k_small (c : Nat) (hc : c ≤ 126) (N : Nat) (σ : vS) : fX5_isSmall N σ (nI c) = some (if 97 ≤ c ∧ c ≤ 122 then 1 else 0) := by
  unfold fX5_isSmall
  by_cases h1 : c < 97
  · rw [if_pos (nlLt 97 97 rfl (by omega) h1), if_neg (by omega)]
  · rw [if_neg (nlNl 97 97 rfl (by omega) (show 97 ≤ c by omega))]
    by_cases h2 : 122 < c
    · rw [if_pos (nlGt 122 122 rfl (by omega) h2), if_neg (by omega)]
    · rw [if_neg (nlNg 122 122 rfl (by omega) (show c ≤ 122 by omega)), if_pos (by omega)]
theorem k_cap (c : Nat) (hc : c ≤ 126) (N : Nat) (σ : vS) : fX5_isCapital N σ (nI c) = some (if 65 ≤ c ∧ c ≤ 90 then 1 else 0) ∧ fX6_isCapital N σ (nI c) = some (if 65 ≤ c ∧ c ≤ 90 then 1 else 0) := by
  have main : (if nI c < 65 then some (0 : Int32) else if 90 < nI c then some 0 else some 1) = some (if 65 ≤ c ∧ c ≤ 90 then 1 else 0) := by
    by_cases h1 : c < 65
    · rw [if_pos (nlLt 65 65 rfl (by omega) h1), if_neg (by omega)]
    · rw [if_neg (nlNl 65 65 rfl (by omega) (show 65 ≤ c by omega))]
      by_cases h2 : 90 < c
      · rw [if_pos (nlGt 90 90 rfl (by omega) h2), if_neg (by omega)]
      · rw [if_neg (nlNg 90 90 rfl (by omega) (show c ≤ 90 by omega)), if_pos (by omega)]
  exact ⟨main, main⟩
/-- the kind is found or made (the place is p1 behind the name), then the number -/
theorem k_elem3 {N : Nat} {σK σM : vS} {L p p1 w el ch d : Nat} {c : Nat → Nat} {tot : Nat → Nat} {q : Int} {s : Nat → Nat → Nat} (hN : 300 < N) (x : Int32) (h : kU σK σM L c p w el ch tot q) (hS : kS σK σM d s) (hb : ∀ t, t < 5 → kPh s t d ≤ 99 ^ 4 * p) (hp1 : p1 = p + 1 ∨ p1 = p + 2) (hpL : p1 ≤ L) :
    ∃ σK' σM', (bd2 (fX1_elementKind N σK x) fun r3 σ3 => jX3_readElement_38 N σ3 (if p1 = p + 1 then 0 else 1) r3) = some σK' ∧ (bd2 (jX6_element_64 N (p_i σM 3 (nI p1)) (nI p) x) fun r26 σ26 => if σ26.1 4 = 0 then (bd2 (fX6_number0 N σ26) fun r29 σ29 => jX6_readStep_128 N σ29 r26 r29) else jX6_readStep_128 N σ26 r26 0) = some (1, σM') ∧ kOut σK σM σK' σM' L c p w ch tot q d := by
  have hd := hS.1
  obtain ⟨hT, hC, hO⟩ := h
  have hL := hT.1
  have hC' := hC
  obtain ⟨a0, a1, a2, a3, a4, a5, a6, a7, a8, a9, a10, a11, a12⟩ := hC'
  have hpl : ∀ σ1 : vS, σ1.1 1 = nI p → ∀ k, k < 5 → jX3_readElement_38 N σ1 (if p1 = p + 1 then 0 else 1) (nI k) = jX3_readElement_79 N (p_i σ1 1 (nI p1)) (nI k) := fun σ1 h1 k hk => by
    unfold jX3_readElement_38
    rw [if_neg (show ¬ nI k = -1 from fun e => by
      rcases lt5 hk with rfl | rfl | rfl | rfl | rfl <;> exact absurd e (by decide)), h1]
    rcases hp1 with e | e
    · rw [if_pos e, if_pos rfl, nI_1, e]
    · rw [if_neg (show ¬ p1 = p + 1 by omega), if_neg (show ¬ (1 : Int32) = 0 by decide), e, show nI p + 2 = nI (p + 2) from nI_add p 2]
  have hU1 : kU (p_i σK 1 (nI p1)) (p_i σM 3 (nI p1)) L c p1 w el ch tot q := kU.pl ⟨hT, hC, hO⟩ hpL
  have fin : ∀ (σK1 σM1 : vS) (k el' : Nat), k < 5 → σK1.1 1 = nI p → fpK σK (p_i σK1 1 (nI p1)) → fpM w σM σM1 → kU (p_i σK1 1 (nI p1)) σM1 L c p1 w el' ch tot q → kS (p_i σK1 1 (nI p1)) σM1 d s → ∃ σK' σM', jX3_readElement_38 N σK1 (if p1 = p + 1 then 0 else 1) (nI k) = some σK' ∧ (if σM1.1 4 = 0 then (bd2 (fX6_number0 N σM1) fun r29 σ29 => jX6_readStep_128 N σ29 (nI k) r29) else jX6_readStep_128 N σM1 (nI k) 0) = some (1, σM') ∧ kOut σK σM σK' σM' L c p w ch tot q d := fun σK1 σM1 k el' hk h1 f1 f2 hU hS1 => by
    rw [hpl σK1 h1 k hk, if_pos hU.2.1.2.2.2.2.2.2.2.2.2.2.1]
    obtain ⟨pp, hpp⟩ : ∃ pp, p1 = pp + 1 := ⟨p1 - 1, by omega⟩
    rw [hpp] at hU hS1 f1
    have hpp2 : p ≤ pp := by omega
    obtain ⟨σK', σM', e1, e2, o1, o2, o3⟩ := k_elem2 (p := pp) hN hU hS1 hk (fun t ht => Nat.le_trans (hb t ht) (Nat.mul_le_mul_left _ hpp2))
    refine ⟨σK', σM', by rw [hpp]; exact e1, e2, f1.tr o1, f2.tr o2, ?_⟩
    rcases o3 with ⟨p', el2, s', q1, q2⟩ | q1
    · exact Or.inl ⟨p', el2, s', by omega, q2⟩
    · exact Or.inr q1
  have hTp : (p_i σM 3 (nI p1)).1 4 = 0 := a10
  rcases k_kind (p0 := p) (σM := p_i σM 3 (nI p1)) hN x a3 a4 a5 a6 a7 a8 hTp a12 with ⟨i, hi, eK, eM⟩ | ⟨hlt, eK, eM⟩ | ⟨eK, eM⟩
  · rw [eK, eM, bd2_s, bd2_s]
    exact fin σK (p_i σM 3 (nI p1)) i el (by omega) a1 (fpK.i _ _ _ (by decide) (by decide) (by decide)) (fpM.i _ _ _ _ (by decide) (by decide) (by decide)) hU1 (hS.fr rfl rfl rfl rfl rfl rfl)
  · rw [eK, eM, bd2_s, bd2_s]
    refine fin (p_i (p_a σK 1 el x) 4 (nI (el + 1))) (p_i (p_a (p_i σM 3 (nI p1)) 5 el x) 9 (nI (el + 1))) el (el + 1) (by omega) a1 ?_ ?_ ?_ ?_
    · exact ((fpK.a σK 1 el x (by omega)).tr (fpK.i _ 4 _ (by decide) (by decide) (by decide))).tr (fpK.i _ 1 _ (by decide) (by decide) (by decide))
    · exact ((fpM.i w σM 3 _ (by decide) (by decide) (by decide)).tr (fpM.a w _ 5 el x (by omega))).tr (fpM.i w _ 9 _ (by decide) (by decide) (by decide))
    · refine ⟨hT.fr rfl rfl rfl rfl, ⟨hpL, rfl, rfl, rfl, rfl, a5, a6, a7, by omega, a9, a10, a11, fun i hi => ?_⟩, hO.fr rfl rfl rfl rfl rfl⟩
      show (p_a σK 1 el x).2.1 1 i = (p_a (p_i σM 3 (nI p1)) 5 el x).2.1 5 i
      rw [paA, paA, if_pos rfl, if_pos rfl]
      by_cases e : i = el
      · rw [if_pos e, if_pos e]
      · rw [if_neg e, if_neg e]; exact a12 i (by omega)
    · exact hS.fr rfl rfl rfl rfl rfl rfl
  · rw [eK, eM, bd2_s, bd2_s]
    have e4 : ¬ (p_i (p_i (p_i σM 3 (nI p1)) 4 (-5)) 5 (nI p)).1 4 = 0 := by
      rw [piI, if_neg (by decide), pi_at]; decide
    rw [if_neg e4]
    unfold jX3_readElement_38 jX6_readStep_128 fX3_meet
    rw [if_pos rfl, bd1_s, a1, show (p_i (p_i (p_i σM 3 (nI p1)) 4 (-5)) 5 (nI p)).1 11 = nI d from hS.2.2.1, show (5 : Int32) * nI d + 0 = nI (5 * d + 0) from k_ix5 d 0, if_neg (nI_in (by omega) (by omega)), if_neg (nI_in (by omega) (by omega))]
    refine ⟨_, _, rfl, rfl, (fpK.i _ 6 _ (by decide) (by decide) (by decide)).tr (fpK.i _ 7 _ (by decide) (by decide) (by decide)), ((((fpM.i w σM 3 _ (by decide) (by decide) (by decide)).tr (fpM.i w _ 4 _ (by decide) (by decide) (by decide))).tr (fpM.i w _ 5 _ (by decide) (by decide) (by decide))).tr (fpM.b2 _ _ _ _)), Or.inr ⟨-5, nI p, p1, by decide, rfl, rfl, rfl, rfl, rfl, by omega⟩⟩
theorem k_elem {N : Nat} {σK σM : vS} {L p w el ch d : Nat} {c : Nat → Nat} {tot : Nat → Nat} {q : Int} {s : Nat → Nat → Nat} (hN : 300 < N) (h : kU σK σM L c p w el ch tot q) (hS : kS σK σM d s) (hb : ∀ t, t < 5 → kPh s t d ≤ 99 ^ 4 * p) (hc : 65 ≤ c p ∧ c p ≤ 90) :
    ∃ σK' σM', fX3_readElement N σK (nI (c p)) = some σK' ∧ (bd2 (fX6_element N σM) fun r26 σ26 => if σ26.1 4 = 0 then (bd2 (fX6_number0 N σ26) fun r29 σ29 => jX6_readStep_128 N σ29 r26 r29) else jX6_readStep_128 N σ26 r26 0) = some (1, σM') ∧ kOut σK σM σK' σM' L c p w ch tot q d := by
  have hT := h.1
  have hC := h.2.1
  have hL := hT.1
  have hp : p < L := hT.p (by omega)
  have hah : fX4_ahead N σK 1 = some (nI (c (p + 1))) := k_ahead (N := N) hT hC.2.1 (by omega) 1 (by omega)
  have hsm := k_small (c (p + 1)) (hT.b _) N σK
  have hT2 : kTx σK (p_i σM 3 (nI (p + 1))) L c := hT.fr rfl rfl rfl rfl
  have hca := k_charAt (N := N) (p := p + 1) hT2 (by omega)
  have eM : fX6_element N σM = if 97 ≤ c (p + 1) ∧ c (p + 1) ≤ 122 then jX6_element_64 N (p_i σM 3 (nI (p + 2))) (nI p) (nI (c p) + 256 * nI (c (p + 1))) else jX6_element_64 N (p_i σM 3 (nI (p + 1))) (nI p) (nI (c p)) := by
    unfold fX6_element
    rw [hC.2.2.1, k_lt_e, if_neg (nI_in (by omega) (by omega)), nI_clamp (by omega), hT.2.2.2.2.2.2 p hp, k_lt_e, nI_1, hca, bd1_s, pi_pi, nI_1]
    have hb1 := hT.b (p + 1)
    by_cases h1 : c (p + 1) < 97
    · rw [if_pos (nlLt 97 97 rfl (by omega) h1), if_neg (by omega)]
    · rw [if_neg (nlNl 97 97 rfl (by omega) (show 97 ≤ c (p + 1) by omega))]
      by_cases h2 : 122 < c (p + 1)
      · rw [if_pos (nlGt 122 122 rfl (by omega) h2), if_neg (by omega)]
      · rw [if_neg (nlNg 122 122 rfl (by omega) (show c (p + 1) ≤ 122 by omega)), if_pos (by omega), k_lt_e]
  unfold fX3_readElement
  rw [hah, bd1_s, hsm, bd1_s, eM]
  by_cases hs : 97 ≤ c (p + 1) ∧ c (p + 1) ≤ 122
  · have hp2 : p + 1 < L := hT.p (by omega)
    rw [if_pos hs, if_pos hs, if_neg (show ¬ (1 : Int32) = 0 by decide)]
    have := k_elem3 (p1 := p + 2) hN (nI (c p) + 256 * nI (c (p + 1))) h hS hb (Or.inr rfl) (by omega)
    rw [if_neg (show ¬ p + 2 = p + 1 by omega)] at this
    exact this
  · rw [if_neg hs, if_neg hs, if_pos rfl]
    have := k_elem3 (p1 := p + 1) hN (nI (c p)) h hS hb (Or.inl rfl) (by omega)
    rw [if_pos rfl] at this
    exact this
