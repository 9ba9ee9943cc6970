/-! The reference's elimination. -/
theorem k_dpiv {N n p : Nat} {σ : vS} {R : Nat → Nat → Int} {v4 v6 : Int64} (hN : 300 < N) (hn : n ≤ 5) (hp : p < n) (hc : kce n p σ R) (hb : ∀ i, p ≤ i → i < n → (R i p).natAbs < 2 ^ 63) :
    kok (k_itr (fun zz => bX6_determinant_120 N σ (nI n) v4 v6 (nI p) zz) N (nI p)) (fun q => (q = nI n ∧ ∀ i, p ≤ i → i < n → R i p = 0) ∨ ∃ r, q = nI r ∧ p ≤ r ∧ r < n ∧ R r p ≠ 0) := by
  refine kok_for0 (body := fun zz => bX6_determinant_120 N σ (nI n) v4 v6 (nI p) zz) n (fun i => p ≤ i ∧ ∀ i', p ≤ i' → i' < i → R i' p = 0) (fun i hi hI => ?_) (fun hI => ?_) N p (by omega) (by omega) ⟨Nat.le_refl _, fun i' h1 h2 => by omega⟩
  · obtain ⟨h1, h2⟩ := hI
    show kok (bX6_determinant_120 N σ (nI n) v4 v6 (nI p) (nI i)) _
    unfold bX6_determinant_120
    refine kok_f (nI_ge hi (by omega)) ?_
    rw [k_ix5]
    refine kok_g (nI_in (by omega) (by omega)) ?_
    rw [nI_clamp (by omega), hc i h1 hi p (Nat.le_refl _) hp]
    have hiff : (lg_cmp (lI (R i p)) 0 = 0) ↔ R i p = 0 := (lg_cmp_eq _ _).trans (lI_eq0 (hb i h1 hi))
    refine kok_i (fun h => kok_lt (kok_some ⟨nI_1 i, by omega, fun i' g1 g2 => ?_⟩)) (fun h => kok_some (Or.inr ⟨i, rfl, h1, hi, fun e => h (hiff.mpr e)⟩))
    by_cases e : i' = i
    · rw [e]; exact hiff.mp h
    · exact h2 i' g1 (by omega)
  · obtain ⟨h1, h2⟩ := hI
    show kok (bX6_determinant_120 N σ (nI n) v4 v6 (nI p) (nI n)) _
    unfold bX6_determinant_120
    exact kok_t (nI_le (Nat.le_refl _) (by omega)) (kok_some (Or.inl ⟨rfl, h2⟩))
theorem k_dswap {N n p r : Nat} {σ : vS} {R : Nat → Nat → Int} {v4 v6 : Int64} (hN : 300 < N) (hn : n ≤ 5) (hp : p ≤ r) (hr : r < n) (hc : kce n p σ R) :
    kok (k_itr (fun zz => bX6_determinant_160 N (nI n) v4 v6 (nI p) (nI r) zz.1 zz.2) N ((0 : Int32), σ)) (fun σ' => kce n p σ' (if r = p then R else ksw R p r) ∧ kf4 σ σ') := by
  refine kok_for (body := fun zz => bX6_determinant_160 N (nI n) v4 v6 (nI p) (nI r) zz.1 zz.2) n (fun j σ' => kf4 σ σ' ∧ (r = p → σ' = σ) ∧ (r ≠ p → ∀ i, p ≤ i → i < n → ∀ j', p ≤ j' → j' < n → σ'.2.2.2 4 (5 * i + j') = if j' < j then lI (ksw R p r i j') else lI (R i j'))) (fun j σ' hj hI => ?_) (fun σ' hI => ?_) N 0 _ (by omega) (by omega) ⟨kf4.rf σ, fun _ => rfl, fun _ i h1 h2 j' h3 h4 => by rw [if_neg (Nat.not_lt_zero _)]; exact hc i h1 h2 j' h3 h4⟩
  · obtain ⟨h1, h2, h3⟩ := hI
    show kok (bX6_determinant_160 N (nI n) v4 v6 (nI p) (nI r) (nI j) σ') _
    unfold bX6_determinant_160
    refine kok_f (nI_ge hj (by omega)) ?_
    by_cases e : r = p
    · refine kok_t (nI_le (by omega) (by omega)) (kok_some ?_)
      rw [h2 e, if_pos e]
      exact ⟨hc, kf4.rf σ⟩
    · refine kok_f (nI_ge (by omega) (by omega)) ?_
      rw [k_ix5, k_ix5]
      refine kok_g (nI_in (by omega) (by omega)) (kok_lt (kok_g (nI_in (by omega) (by omega)) (kok_g (nI_in (by omega) (by omega)) (kok_g (nI_in (by omega) (by omega)) (kok_lt (kok_some ⟨_, Prod.ext (nI_1 _) rfl, (h1.tr (kf4.p _ _ _)).tr (kf4.p _ _ _), fun e9 => absurd e9 e, fun _ i g1 g2 j' g3 g4 => ?_⟩))))))
      rw [nI_clamp (by omega), nI_clamp (by omega), pbB, if_pos rfl, pbB, if_pos rfl]
      have f0 := h3 e
      by_cases g5 : j' = j
      · subst g5
        have fp := f0 p (Nat.le_refl _) (by omega) j' g3 g4
        have fr := f0 r hp hr j' g3 g4
        rw [if_neg (by omega)] at fp fr
        rw [if_pos (show j' < j' + 1 by omega)]
        unfold ksw
        by_cases g6 : i = r
        · rw [if_pos (by omega), if_neg (by omega), if_pos g6]
          exact fp
        · rw [if_neg (by omega)]
          by_cases g7 : i = p
          · rw [if_pos (by omega), if_pos g7]
            exact fr
          · rw [if_neg (by omega), if_neg g7, if_neg g6]
            have fi := f0 i g1 g2 j' g3 g4
            rw [if_neg (by omega)] at fi
            exact fi
      · rw [if_neg (by omega), if_neg (by omega), f0 i g1 g2 j' g3 g4]
        by_cases g6 : j' < j
        · rw [if_pos g6, if_pos (by omega)]
        · rw [if_neg g6, if_neg (by omega)]
  · obtain ⟨h1, h2, h3⟩ := hI
    show kok (bX6_determinant_160 N (nI n) v4 v6 (nI p) (nI r) (nI n) σ') _
    unfold bX6_determinant_160
    refine kok_t (nI_le (Nat.le_refl _) (by omega)) (kok_some ⟨?_, h1⟩)
    by_cases e : r = p
    · rw [h2 e, if_pos e]; exact hc
    · rw [if_neg e]
      intro i g1 g2 j' g3 g4
      rw [h3 e i g1 g2 j' g3 g4, if_pos g4]
theorem k_delim {N n p : Nat} {σ : vS} {R R' : Nat → Nat → Int} {pv : Int} {v6 : Int64} (hN : 300 < N) (hn : n ≤ 5) (hp : p < n) (hc : kce n p σ R) (hp0 : pv ≠ 0) (hpb : pv.natAbs < 2 ^ 63) (hR : ∀ i, p < i → i < n → ∀ j, p < j → j < n → R i j * R p p - R i p * R p j = pv * R' i j ∧ (pv * R' i j).natAbs < 2 ^ 63) :
    kok (k_itr (fun zz => bX6_determinant_254 N (nI n) (lI pv) v6 (nI p) zz.1 zz.2) N (nI (p + 1), σ)) (fun σ' => kce n (p + 1) σ' R' ∧ σ'.2.2.2 4 (5 * p + p) = lI (R p p) ∧ kf4 σ σ') := by
  have hpl : ¬ lI pv = 0 := fun e => hp0 ((lI_eq0 hpb).mp e)
  refine kok_for (body := fun zz => bX6_determinant_254 N (nI n) (lI pv) v6 (nI p) zz.1 zz.2) n (fun i σ' => p + 1 ≤ i ∧ kf4 σ σ' ∧ ∀ i', p ≤ i' → i' < n → ∀ j, p ≤ j → j < n → σ'.2.2.2 4 (5 * i' + j) = if p < i' ∧ i' < i ∧ p < j then lI (R' i' j) else lI (R i' j)) (fun i σ' hi hI => ?_) (fun σ' hI => ?_) N (p + 1) _ (by omega) (by omega) ⟨Nat.le_refl _, kf4.rf σ, fun i' g1 g2 j g3 g4 => by rw [if_neg (by omega)]; exact hc i' g1 g2 j g3 g4⟩
  · obtain ⟨h0, h1, h2⟩ := hI
    show kok (bX6_determinant_254 N (nI n) (lI pv) v6 (nI p) (nI i) σ') _
    unfold bX6_determinant_254
    refine kok_f (nI_ge hi (by omega)) (kok_lt ?_)
    rw [nI_1]
    refine kok_bd1 (P := fun σ2 => kf4 σ σ2 ∧ ∀ i', p ≤ i' → i' < n → ∀ j, p ≤ j → j < n → σ2.2.2.2 4 (5 * i' + j) = if p < i' ∧ i' < i + 1 ∧ p < j then lI (R' i' j) else lI (R i' j)) ?_ (fun σ2 hs2 => ?_)
    · refine kok_for (body := fun zz => bX6_determinant_266 N (nI n) (lI pv) v6 (nI p) (nI i) zz.1 zz.2) n (fun j σ2 => p + 1 ≤ j ∧ kf4 σ σ2 ∧ ∀ i', p ≤ i' → i' < n → ∀ j', p ≤ j' → j' < n → σ2.2.2.2 4 (5 * i' + j') = if p < i' ∧ p < j' ∧ (i' < i ∨ i' = i ∧ j' < j) then lI (R' i' j') else lI (R i' j')) (fun j σ2 hj hI2 => ?_) (fun σ2 hI2 => ?_) N (p + 1) _ (by omega) (by omega) ⟨Nat.le_refl _, h1, fun i' g1 g2 j' g3 g4 => ?_⟩
      · obtain ⟨k0, k1, k2⟩ := hI2
        show kok (bX6_determinant_266 N (nI n) (lI pv) v6 (nI p) (nI i) (nI j) σ2) _
        unfold bX6_determinant_266
        rw [k_ix5, k_ix5, k_ix5, k_ix5]
        refine kok_f (nI_ge hj (by omega)) (kok_g (nI_in (by omega) (by omega)) (kok_g (nI_in (by omega) (by omega)) (kok_g (nI_in (by omega) (by omega)) (kok_g (nI_in (by omega) (by omega)) (kok_g hpl (kok_g (nI_in (by omega) (by omega)) (kok_lt (kok_some ⟨_, Prod.ext (nI_1 _) rfl, by omega, k1.tr (kf4.p _ _ _), fun i' g1 g2 j' g3 g4 => ?_⟩))))))))
        rw [nI_clamp (by omega), nI_clamp (by omega), nI_clamp (by omega), nI_clamp (by omega), pbB, if_pos rfl]
        by_cases g5 : i' = i ∧ j' = j
        · obtain ⟨rfl, rfl⟩ := g5
          obtain ⟨q1, q2⟩ := hR i' (by omega) g2 j' (by omega) g4
          rw [if_pos rfl, if_pos (by omega), k2 i' g1 g2 j' g3 g4, if_neg (by omega), k2 p (Nat.le_refl _) hp p (Nat.le_refl _) hp, if_neg (by omega), k2 i' g1 g2 p (Nat.le_refl _) hp, if_neg (by omega), k2 p (Nat.le_refl _) hp j' g3 g4, if_neg (by omega), lI_mul, lI_mul, lI_sub, q1, lI_div q2 hpb, Int.mul_tdiv_cancel_left _ hp0]
        · rw [if_neg (by omega), k2 i' g1 g2 j' g3 g4]
          by_cases g6 : p < i' ∧ p < j' ∧ (i' < i ∨ i' = i ∧ j' < j)
          · rw [if_pos g6, if_pos (by omega)]
          · rw [if_neg g6, if_neg (by omega)]
      · obtain ⟨k0, k1, k2⟩ := hI2
        show kok (bX6_determinant_266 N (nI n) (lI pv) v6 (nI p) (nI i) (nI n) σ2) _
        unfold bX6_determinant_266
        refine kok_t (nI_le (Nat.le_refl _) (by omega)) (kok_some ⟨k1, fun i' g1 g2 j g3 g4 => ?_⟩)
        rw [k2 i' g1 g2 j g3 g4]
        by_cases g6 : p < i' ∧ p < j ∧ (i' < i ∨ i' = i ∧ j < n)
        · rw [if_pos g6, if_pos (by omega)]
        · rw [if_neg g6, if_neg (by omega)]
      · rw [h2 i' g1 g2 j' g3 g4]
        by_cases g6 : p < i' ∧ i' < i ∧ p < j'
        · rw [if_pos g6, if_pos (by omega)]
        · rw [if_neg g6, if_neg (by omega)]
    · unfold jX6_determinant_344_254
      exact kok_lt (kok_some ⟨_, Prod.ext (nI_1 _) rfl, by omega, hs2.1, hs2.2⟩)
  · obtain ⟨h0, h1, h2⟩ := hI
    show kok (bX6_determinant_254 N (nI n) (lI pv) v6 (nI p) (nI n) σ') _
    unfold bX6_determinant_254
    refine kok_t (nI_le (Nat.le_refl _) (by omega)) (kok_some ⟨fun i g1 g2 j g3 g4 => ?_, ?_, h1⟩)
    · rw [h2 i (by omega) g2 j (by omega) g4, if_pos (by omega)]
    · rw [h2 p (Nat.le_refl _) hp p (Nat.le_refl _) hp, if_neg (by omega)]
theorem kpw1 : ∀ p, p < 4 → 120 * 40 ^ p * (120 * 40 ^ (p + 2)) < 2 ^ 63 := by decide
theorem kpw2 : ∀ p, p < 6 → 120 * 40 ^ p < 2 ^ 63 := by decide
theorem k_det {N n m w rc el ch : Nat} {σ : vS} {Am : Nat → Nat → Int} {c : Nat → Nat} (hN : 300 < N) (h : kEM σ w rc el ch Am) (hn : n ≤ 5) (hm : m < 2 ^ (el + ch)) (hs : ps m 5 = n) (hc : ∀ i, i < n → σ.2.1 9 i = nI (c i) ∧ c i < w) :
    kok (fX6_determinant N σ (nI n) (nI m)) (fun q => q.1 = lI (qs m * dt (mf n (fun i => kco w rc (el + ch) Am (c i)) (qE m))) ∧ kf4 σ q.2) := by
  have hel := h.2.2.2.2.2.2.1
  have hw := h.2.2.2.1
  have hm32 := two_h hel hm
  have hq1 := qs_1 m hm32
  unfold fX6_determinant
  refine kok_bd1 (k_dfill hN h hn hm hs hc) (fun σ1 h1 => ?_)
  obtain ⟨e1, e2⟩ := h1
  have hcb : ∀ j, j < n → ∀ t, t < 5 → (kco w rc (el + ch) Am (c j) t).natAbs ≤ 40 := fun j hj t ht => (kco_in h.2.2.2.2.2.2.2.2.2.2).2 (c j) (by have := (hc j hj).2; omega) t ht
  generalize hce : (fun i => kco w rc (el + ch) Am (c i)) = cc
  have hcb2 : ∀ j, j < n → ∀ t, t < 5 → (cc j t).natAbs ≤ 40 := by rw [← hce]; exact hcb
  have e1' : kce n 0 σ1 (fun i j => cc j (qp m i)) := by rw [← hce]; exact e1
  unfold jX6_determinant_99
  refine kok_bds ?_
  by_cases hn0 : n = 0
  · subst hn0
    refine kok_itr (fun v q => v = 0 ∧ q = (lI 1, lI 1, nI 0, σ1)) (fun v q hI => ?_) N 0 _ (by omega) ⟨rfl, rfl⟩
    obtain ⟨rfl, rfl⟩ := hI
    show kok (bX6_determinant_108 N (nI 0) (lI 1) (lI 1) (nI 0) σ1) _
    unfold bX6_determinant_108
    refine kok_t (by decide) (kok_some ?_)
    show kok (jX6_determinant_370 N σ1 (nI 0) (lI 1)) _
    unfold jX6_determinant_370
    refine kok_t rfl (kok_some ⟨?_, e2⟩)
    show (1 : Int64) = lI (qs m * dt (mf 0 cc (qE m)))
    have e9 : dt (mf 0 cc (qE m)) = qs m := by
      refine dt_congr (fun i _ t _ => ?_)
      unfold mf
      rw [if_neg (Nat.not_lt_zero _)]
    rw [e9]
    rcases hq1 with e | e <;> rw [e] <;> rfl
  · refine kok_up (body := fun zz => bX6_determinant_108 N (nI n) zz.1 zz.2.1 zz.2.2.1 zz.2.2.2) (n - 1) (fun p q => ∃ B s sn pv R, q.1 = lI pv ∧ q.2.1 = lI sn ∧ q.2.2.1 = nI p ∧ (sn = 1 ∨ sn = -1) ∧ s = qs m * sn ∧ kd_st n p cc (qE m) B s pv R ∧ kce n p q.2.2.2 R ∧ kf4 σ q.2.2.2) (fun p q hp hI => ?_) (fun q hI => ?_) N 0 _ (by omega) (by omega) ?_
    · obtain ⟨v4, v6, v8, σ2⟩ := q
      obtain ⟨B, s, sn, pv, R, a1, a2, a3, a4, a5, a6, a7, a8⟩ := hI
      dsimp only at a1 a2 a3 a7 a8
      subst a1 a2 a3
      have hb1 := kd_bdp a6 (by omega) (fun j hj => hcb2 j (by omega))
      have hb1' := kpw2 p (by omega)
      show kok (bX6_determinant_108 N (nI n) (lI pv) (lI sn) (nI p) σ2) _
      unfold bX6_determinant_108
      rw [nI_1]
      refine kok_f (nI_ge (by omega) (by omega)) (kok_bd1 (k_dpiv hN hn (by omega) a7 (fun i g1 g2 => ?_)) (fun r hr => ?_))
      · have := kd_bdR a6 hn (by omega) hcb2 g1 (by omega) (show p < n by omega)
        have := kpw2 (p + 1) (by omega)
        omega
      unfold jX6_determinant_149_108
      rcases hr with ⟨rfl, hz⟩ | ⟨r, rfl, g1, g2, g3⟩
      · refine kok_t rfl (kok_some ⟨?_, a8⟩)
        show (0 : Int64) = lI _
        rw [kd_zero a6 hn (by omega) hz, Int.mul_zero]; rfl
      · refine kok_f (fun e => by rw [nI_eq (by omega) (by omega)] at e; omega) (kok_bd1 (k_dswap hN hn g1 g2 a7) (fun σ3 h3 => ?_))
        obtain ⟨b1, b2⟩ := h3
        have mid : ∀ (sn' : Int) (B' R2 : Nat → Nat → Int), (sn' = 1 ∨ sn' = -1) → kd_st n p cc (qE m) B' (qs m * sn') pv R2 → R2 p p ≠ 0 → kce n p σ3 R2 → kok (jX6_determinant_248_108 N σ3 (nI n) (lI pv) (lI sn') (nI p)) (kso (fun q => ∃ B s sn pv R, q.1 = lI pv ∧ q.2.1 = lI sn ∧ q.2.2.1 = nI (p + 1) ∧ (sn = 1 ∨ sn = -1) ∧ s = qs m * sn ∧ kd_st n (p + 1) cc (qE m) B s pv R ∧ kce n (p + 1) q.2.2.2 R ∧ kf4 σ q.2.2.2) (kso (fun e => kok (jX6_determinant_370 N e.2 (nI n) e.1) (fun q => q.1 = lI (qs m * dt (mf n cc (qE m))) ∧ kf4 σ q.2)) (fun q => q.1 = lI (qs m * dt (mf n cc (qE m))) ∧ kf4 σ q.2))) := fun sn' B' R2 hsn hS h0 hR2 => by
          obtain ⟨R', hS', hR'⟩ := kd_piv hS hn (by omega) h0
          unfold jX6_determinant_248_108
          refine kok_lt ?_
          rw [nI_1]
          refine kok_bd1 (k_delim (R' := R') hN hn (by omega) hR2 hS.2.2.1 (by omega) (fun i g4 g5 j g6 g7 => ⟨hR' i (by omega) (by omega) j g7, ?_⟩)) (fun σ4 h4 => ?_)
          · have c1 := kd_bdR hS' hn (by omega) hcb2 (show p + 1 ≤ i by omega) (by omega) g7
            have c2 := d_nm (kd_bdp hS (by omega) (fun j hj => hcb2 j (by omega))) c1
            exact Nat.lt_of_le_of_lt c2 (kpw1 p (by omega))
          · obtain ⟨d1, d2, d3⟩ := h4
            unfold jX6_determinant_350_108
            rw [k_ix5]
            refine kok_g (nI_in (by omega) (by omega)) (kok_lt (kok_lt (kok_some ⟨_, _, sn', R2 p p, R', ?_, rfl, nI_1 p, hsn, rfl, hS', d1, (a8.tr b2).tr d3⟩)))
            rw [nI_clamp (by omega)]
            exact d2
        unfold jX6_determinant_231_108
        by_cases er : r = p
        · subst er
          rw [if_pos rfl] at b1
          refine kok_t (nI_le (Nat.le_refl _) (by omega)) ?_
          rw [a5] at a6
          exact mid sn B R a4 a6 g3 b1
        · rw [if_neg er] at b1
          refine kok_f (nI_ge (by omega) (by omega)) (kok_lt ?_)
          obtain ⟨B', hB'⟩ := kd_swap a6 hn (show p < r by omega) g2
          rw [lI_neg]
          refine mid (-sn) B' (ksw R p r) (by omega) ?_ ?_ b1
          · rw [Int.mul_neg, ← a5]; exact hB'
          · unfold ksw; rw [if_pos rfl]; exact g3
    · obtain ⟨v4, v6, v8, σ2⟩ := q
      obtain ⟨B, s, sn, pv, R, a1, a2, a3, a4, a5, a6, a7, a8⟩ := hI
      dsimp only at a1 a2 a3 a7 a8
      subst a1 a2 a3
      obtain ⟨p, rfl⟩ : ∃ p, n = p + 1 := ⟨n - 1, by omega⟩
      rw [show p + 1 - 1 = p by omega] at *
      show kok (bX6_determinant_108 N (nI (p + 1)) (lI pv) (lI sn) (nI p) σ2) _
      unfold bX6_determinant_108
      rw [nI_1]
      refine kok_t (nI_le (Nat.le_refl _) (by omega)) (kok_some ?_)
      show kok (jX6_determinant_370 N σ2 (nI (p + 1)) (lI sn)) _
      unfold jX6_determinant_370
      have ei : (5 : Int32) * nI (p + 1) - 5 + nI (p + 1) - 1 = nI (5 * p + p) := by
        rw [show (5 : Int32) = nI 5 from rfl, pk_mul, pk_sub (by omega), nI_add, show (1 : Int32) = nI 1 from rfl, pk_sub (by omega)]
        exact congrArg nI (by omega)
      refine kok_f (nI_ne0 (by omega) (by omega)) ?_
      rw [ei]
      refine kok_g (nI_in (by omega) (by omega)) (kok_some ⟨?_, a8⟩)
      show lI sn * σ2.2.2.2 4 (nI (5 * p + p)).toNatClampNeg = _
      rw [nI_clamp (by omega), a7 p (Nat.le_refl _) (by omega) p (Nat.le_refl _) (by omega), lI_mul, kd_end a6 (by omega), a5]
      congr 1
      rcases a4 with rfl | rfl
      · grind
      · grind
    · refine ⟨qE m, qs m, 1, 1, _, rfl, rfl, rfl, Or.inl rfl, (Int.mul_one _).symm, ?_, e1', e2⟩
      rcases kd_start (n := n) (c := cc) hm32 with h9 | h9
      · exact h9
      · omega
