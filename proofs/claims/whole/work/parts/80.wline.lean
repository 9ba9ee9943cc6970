/-! The written line. -/
theorem k_isBal {N w : Nat} {σ : vS} {a : Nat → Nat → Int} (hN : 300 < N) (hw : w ≤ 6) (h7 : σ.1 7 = 1) (h8 : σ.1 8 = nI w) (h13 : σ.1 13 = nI (kcn a w)) (hB : ∀ m, m < kcn a w → ∀ j, j < w → σ.2.2.2 3 (6 * m + j) = lI (kbr a m j)) (hb : ∀ m, m < kcn a w → ∀ j, j < w → (kbr a m j).natAbs ≤ 12288000000) : kok (fX6_isBalanced N σ) (fun r => (r = 1 ∧ kvd a w = 0) ∨ (r = 0 ∧ kvd a w ≠ 0)) := by
  have hc := kcn_b a w
  unfold fX6_isBalanced
  rw [h7, h13]
  refine kok_f (by decide) ?_
  by_cases h1 : kcn a w = 1
  · refine kok_t (by rw [h1]; rfl) ?_
    unfold jX6_isBalanced_21
    refine kok_bd1 (P := fun r => (r = 1 ∧ kvd a w = 0) ∨ (r = 0 ∧ kvd a w ≠ 0)) ?_ (fun r hr => ?_)
    · refine kok_up (body := fun zz => bX6_isBalanced_23 N σ zz.1 zz.2) w (fun i s => s.2 = nI i ∧ ((s.1 = 1 ∧ ∀ j, j < i → 0 < kbr a 0 j) ∨ (s.1 = 0 ∧ ∃ j, j < w ∧ ¬ 0 < kbr a 0 j))) (fun i s hi hI => ?_) (fun s hI => ?_) N 0 _ (by omega) (Nat.zero_le _) ⟨rfl, Or.inl ⟨rfl, fun j hj => by omega⟩⟩
      · obtain ⟨v, ii⟩ := s
        obtain ⟨e1, e2⟩ := hI
        dsimp only at e1 e2
        subst e1
        show kok (bX6_isBalanced_23 N σ v (nI i)) _
        unfold bX6_isBalanced_23
        rw [h8]
        refine kok_f (nI_ge hi (by omega)) ?_
        rcases e2 with ⟨rfl, e3⟩ | ⟨rfl, e3⟩
        · refine kok_f (by decide) (kok_g (nI_in (by omega) (by omega)) ?_)
          have hv := hB 0 (by omega) i hi
          have hvb := hb 0 (by omega) i hi
          rw [Nat.mul_zero, Nat.zero_add] at hv
          rw [nI_clamp (by omega), hv]
          have hiff : (lg_cmp (lI (kbr a 0 i)) 0 ≤ 0) ↔ kbr a 0 i ≤ 0 := by rw [lg_cmp_le, lI_0, lI_le (by omega) (by decide)]
          refine kok_i (fun h => kok_lt (kok_some ⟨nI_1 i, Or.inr ⟨rfl, i, hi, ?_⟩⟩)) (fun h => kok_lt (kok_some ⟨nI_1 i, Or.inl ⟨rfl, fun j hj => ?_⟩⟩))
          · rw [hiff] at h; omega
          · rw [hiff] at h
            by_cases e : j = i
            · rw [e]; omega
            · exact e3 j (by omega)
        · refine kok_t rfl (kok_some (Or.inr ⟨rfl, ?_⟩))
          unfold kvd
          rw [if_neg (by omega), if_pos (by omega), if_neg (fun hp : kpos a w => by obtain ⟨j, hj, h9⟩ := e3; exact h9 (hp j hj))]
          decide
      · obtain ⟨v, ii⟩ := s
        obtain ⟨e1, e2⟩ := hI
        dsimp only at e1 e2
        subst e1
        show kok (bX6_isBalanced_23 N σ v (nI w)) _
        unfold bX6_isBalanced_23
        rw [h8]
        refine kok_t (nI_le (Nat.le_refl _) (by omega)) (kok_some ?_)
        rcases e2 with ⟨rfl, e3⟩ | ⟨rfl, e3⟩
        · refine Or.inl ⟨rfl, ?_⟩
          unfold kvd
          rw [if_neg (by omega), if_pos (by omega), if_pos (show kpos a w from e3)]
        · refine Or.inr ⟨rfl, ?_⟩
          unfold kvd
          rw [if_neg (by omega), if_pos (by omega), if_neg (fun hp : kpos a w => by obtain ⟨j, hj, h9⟩ := e3; exact h9 (hp j hj))]
          decide
    · unfold jX6_isBalanced_58
      rcases hr with ⟨rfl, hr⟩ | ⟨rfl, hr⟩
      · exact kok_g (by decide) (kok_some (Or.inl ⟨rfl, hr⟩))
      · exact kok_g (by decide) (kok_some (Or.inr ⟨rfl, hr⟩))
  · refine kok_f (fun e => h1 ((nI_eq (b := 1) (by omega) (by omega)).mp e)) ?_
    unfold jX6_isBalanced_19 jX6_isBalanced_21
    have hv : kvd a w ≠ 0 := by
      unfold kvd
      by_cases h0 : kcn a w = 0
      · rw [if_pos h0]; decide
      · rw [if_neg h0, if_neg (by omega)]; decide
    rw [k_itr_1 (body := fun zz => bX6_isBalanced_23 N σ zz.1 zz.2) (s := ((0 : Int32), (0 : Int32))) (r := 0) (by
      show bX6_isBalanced_23 N σ 0 0 = _
      unfold bX6_isBalanced_23
      by_cases h9 : σ.1 8 ≤ 0
      · rw [if_pos h9]
      · rw [if_neg h9, if_pos rfl]) N (by omega), bd1_s]
    unfold jX6_isBalanced_58
    exact kok_g (by decide) (kok_some (Or.inr ⟨rfl, hv⟩))
/-- all that writing needs -/
def kW (σK σM : vS) (L : Nat) (c : Nat → Nat) (w rc : Nat) (bg en : Nat → Nat) (x : Nat → Nat) : Prop := kTx σK σM L c ∧ w ≤ 6 ∧ (0 < rc ∧ rc ≤ w) ∧ σK.1 2 = nI w ∧ σM.1 8 = nI w ∧ σK.1 3 = nI rc ∧ (∀ j, j < w → σK.2.1 3 j = nI (bg j) ∧ σM.2.1 2 j = nI (bg j) ∧ σK.2.1 4 j = nI (en j) ∧ σM.2.1 3 j = nI (en j) ∧ bg j ≤ en j ∧ en j ≤ L ∧ σM.2.1 4 j = (if j < rc then 0 else 1)) ∧ (∀ j, j + 1 < w → en j ≤ bg (j + 1)) ∧ (∀ j, j < w → σK.2.2.2 5 j = lI (x j) ∧ σM.2.2.2 3 j = lI (x j) ∧ 0 < x j ∧ x j ≤ 12288000000)
theorem kW.fr {σK σM σK' σM' : vS} {L w rc : Nat} {c : Nat → Nat} {bg en x : Nat → Nat} (h : kW σK σM L c w rc bg en x) (h1 : fwK σK σK') (h2 : fwM σM σM') : kW σK' σM' L c w rc bg en x := by
  obtain ⟨a1, a2, a3, a4, a5, a6, a7, a8, a9⟩ := h
  refine ⟨a1.fr (h1.1 0 (by decide)) (h1.2.1 0 (by decide)) (h2.1 2 (by decide)) (h2.2.1 1 (by decide)), a2, a3, (h1.1 2 (by decide)).trans a4, (h2.1 8 (by decide)).trans a5, (h1.1 3 (by decide)).trans a6, fun j hj => ?_, a8, fun j hj => ?_⟩
  · rw [h1.2.1 3 (by decide), h2.2.1 2 (by decide), h1.2.1 4 (by decide), h2.2.1 3 (by decide), h2.2.1 4 (by decide)]
    exact a7 j hj
  · rw [h1.2.2.2, h2.2.2.2]
    exact a9 j hj
def kCh (σ : vS) (n : Nat) : Prop := ∀ i, i < n → ∃ x, x < 127 ∧ σ.2.1 8 i = nI x
theorem k_ch2 {N n x : Nat} {σK σM : vS} (h : kLn σK σM n) (hC : kCh σK n) (hn : n < 200) (hx : x < 127) : ∃ σK' σM', fX2_add N σK (nI x) = some σK' ∧ fX6_put N σM (nI x) = some σM' ∧ kLn σK' σM' (n + 1) ∧ kCh σK' (n + 1) ∧ fwK σK σK' ∧ fwM σM σM' := by
  obtain ⟨σK', σM', e1, e2, e3, e4, e5⟩ := k_ch (N := N) h hn hx
  refine ⟨σK', σM', e1, e2, e3, fun i hi => ?_, e4, e5⟩
  rw [k_addc h.1 hn hx] at e1
  cases e1
  show ∃ y, y < 127 ∧ (p_a σK 8 n (nI x)).2.1 8 i = nI y
  rw [paA, if_pos rfl]
  by_cases e : i = n
  · rw [if_pos e]; exact ⟨x, hx, rfl⟩
  · rw [if_neg e]; exact hC i (by omega)
/-- the formula's text -/
theorem k_wtext {N : Nat} {σK σM : vS} {L w rc i n : Nat} {c : Nat → Nat} {bg en x : Nat → Nat} (hN : 300 < N) (h : kW σK σM L c w rc bg en x) (hi : i < w) (hl : kLn σK σM n) (hC : kCh σK n) (hn : n + (en i - bg i) ≤ 200) : ∃ σK' σM', jX2_write_65_8 N σK (nI i) = some (.inl (nI (i + 1), σK')) ∧ jX6_write_93_7 N σM (nI i) = some (.inl (nI (i + 1), σM')) ∧ kLn σK' σM' (n + (en i - bg i)) ∧ kCh σK' (n + (en i - bg i)) ∧ fwK σK σK' ∧ fwM σM σM' := by
  have hw := h.2.1
  have hL := h.1.1
  obtain ⟨b1, b2, b3, b4, b5, b6, b7⟩ := h.2.2.2.2.2.2.1 i hi
  have main : ∃ r r', k_itr (fun zz => bX2_write_74 N (nI i) zz.1 zz.2) N (nI (bg i), σK) = some r ∧ k_itr (fun zz => bX6_write_100 N (nI i) zz.1 zz.2) N (nI (bg i), σM) = some r' ∧ kLn r r' (n + (en i - bg i)) ∧ kCh r (n + (en i - bg i)) ∧ fwK σK r ∧ fwM σM r' := by
    refine kk_itr (fun v s s' => ∃ q σA σB, s = (nI q, σA) ∧ s' = (nI q, σB) ∧ bg i ≤ q ∧ q ≤ en i ∧ v = en i - q ∧ kLn σA σB (n + (q - bg i)) ∧ kCh σA (n + (q - bg i)) ∧ fwK σK σA ∧ fwM σM σB) _ (fun v s s' hI => ?_) N N (en i - bg i) _ _ (by omega) (by omega) ⟨bg i, σK, σM, rfl, rfl, Nat.le_refl _, b5, rfl, by rw [Nat.sub_self]; exact hl, by rw [Nat.sub_self]; exact hC, fwK.rf _, fwM.rf _⟩
    obtain ⟨q, σA, σB, rfl, rfl, h1, h2, rfl, h3, h4, h5, h6⟩ := hI
    have hA := h.fr h5 h6
    obtain ⟨d1, d2, d3, d4, d5, d6, d7⟩ := hA.2.2.2.2.2.2.1 i hi
    by_cases hq : q < en i
    · left
      have hcq := (hA.1.2.1 q (by omega)).2
      obtain ⟨σA', σB', e1, e2, e3, e4, e5, e6⟩ := k_ch2 (N := N) (x := c q) h3 h4 (by omega) (by omega)
      refine ⟨(nI (q + 1), σA'), (nI (q + 1), σB'), en i - (q + 1), ?_, ?_, by omega, q + 1, σA', σB', rfl, rfl, by omega, by omega, rfl, ?_, ?_, h5.tr e5, h6.tr e6⟩
      · show bX2_write_74 N (nI i) (nI q) σA = _
        unfold bX2_write_74
        rw [if_neg (nI_in (by omega) (by omega)), nI_clamp (by omega), d3, if_neg (nI_ge hq (by omega)), if_neg (nI_in (by omega) (by omega)), nI_clamp (by omega), hA.1.2.2.2.2.1 q (by omega), e1, bd1_s, k_lt_e, nI_1]
      · show bX6_write_100 N (nI i) (nI q) σB = _
        unfold bX6_write_100
        rw [if_neg (nI_in (by omega) (by omega)), nI_clamp (by omega), d4, if_neg (nI_ge hq (by omega)), if_neg (nI_in (by omega) (by omega)), nI_clamp (by omega), hA.1.2.2.2.2.2.2 q (by omega), e2, bd1_s, k_lt_e, nI_1]
      · rw [show n + (q + 1 - bg i) = n + (q - bg i) + 1 by omega]; exact e3
      · rw [show n + (q + 1 - bg i) = n + (q - bg i) + 1 by omega]; exact e4
    · right
      have e : q = en i := by omega
      subst e
      refine ⟨σA, σB, ?_, fun m hm => k_itr_1 ?_ m (by omega), h3, h4, h5, h6⟩
      · show bX2_write_74 N (nI i) (nI (en i)) σA = _
        unfold bX2_write_74
        rw [if_neg (nI_in (by omega) (by omega)), nI_clamp (by omega), d3, if_pos (nI_le (Nat.le_refl _) (by omega))]
      · show bX6_write_100 N (nI i) (nI (en i)) σB = _
        unfold bX6_write_100
        rw [if_neg (nI_in (by omega) (by omega)), nI_clamp (by omega), d4, if_pos (nI_le (Nat.le_refl _) (by omega))]
  obtain ⟨r, r', m1, m2, m3, m4, m5, m6⟩ := main
  refine ⟨r, r', ?_, ?_, m3, m4, m5, m6⟩
  · unfold jX2_write_65_8
    rw [if_neg (nI_in (by omega) (by omega)), nI_clamp (by omega), b1, k_lt_e, m1, bd1_s]
    unfold jX2_write_103_8
    rw [k_lt_e, nI_1]
  · unfold jX6_write_93_7
    rw [if_neg (nI_in (by omega) (by omega)), nI_clamp (by omega), b2, k_lt_e, m2, bd1_s]
    unfold jX6_write_126_7
    rw [k_lt_e, nI_1]
/-- number and text -/
theorem k_wform {N : Nat} {σK σM : vS} {L w rc i n : Nat} {c : Nat → Nat} {bg en x : Nat → Nat} (hN : 300 < N) (h : kW σK σM L c w rc bg en x) (hi : i < w) (hl : kLn σK σM n) (hC : kCh σK n) (hn : n + 12 + (en i - bg i) ≤ 200) : ∃ n' σK' σM', n' ≤ n + 12 + (en i - bg i) ∧ jX2_write_42_8 N σK (nI i) = some (.inl (nI (i + 1), σK')) ∧ jX6_write_66_7 N σM (nI i) = some (.inl (nI (i + 1), σM')) ∧ kLn σK' σM' n' ∧ kCh σK' n' ∧ fwK σK σK' ∧ fwM σM σM' := by
  have hw := h.2.1
  obtain ⟨x1, x2, x3, x4⟩ := h.2.2.2.2.2.2.2.2 i hi
  unfold jX2_write_42_8 jX6_write_66_7
  rw [if_neg (nI_in (by omega) (by omega)), if_neg (nI_in (by omega) (by omega)), if_neg (nI_in (by omega) (by omega)), if_neg (nI_in (by omega) (by omega)), nI_clamp (by omega), x1, x2]
  have hiff : (lg_cmp (lI (x i : Int)) 1 = 0) ↔ x i = 1 := by
    rw [lg_cmp_eq, lI_1, lI_eq (by omega) (by decide)]; omega
  by_cases h1 : x i = 1
  · rw [if_pos (hiff.mpr h1), if_pos (hiff.mpr h1)]
    obtain ⟨σK', σM', e⟩ := k_wtext hN h hi hl hC (by omega)
    exact ⟨_, σK', σM', by omega, e⟩
  · rw [if_neg (fun e => h1 (hiff.mp e)), if_neg (fun e => h1 (hiff.mp e))]
    obtain ⟨D, σA, σB, d1, d2, d3, d4, d5, d6, d7⟩ := k_numb hN x3 x4 hl (by omega) hC
    rw [d2, d3, bd1_s, bd1_s]
    obtain ⟨σC, σD, e1, e2, e3, e4, e5, e6⟩ := k_ch2 (N := N) (x := 32) d4 d7 (by omega) (by omega)
    rw [show (32 : Int32) = nI 32 from rfl, e1, e2, bd1_s, bd1_s]
    obtain ⟨σE, σF, g1, g2, g3, g4, g5, g6⟩ := k_wtext hN (h.fr (d5.tr e5) (d6.tr e6)) hi e3 e4 (by omega)
    exact ⟨_, σE, σF, by omega, g1, g2, g3, g4, (d5.tr e5).tr g5, (d6.tr e6).tr g6⟩
theorem k_write {N : Nat} {σK σM : vS} {L w rc : Nat} {c : Nat → Nat} {bg en x : Nat → Nat} (hN : 300 < N) (h : kW σK σM L c w rc bg en x) (hbal : ∀ σ, fwM σM σ → fX6_isBalanced N σ = some 1) : ∃ σK' σM' n, fX2_write N σK = some σK' ∧ fX6_write N σM = some σM' ∧ n ≤ 200 ∧ kLn σK' σM' n ∧ fwK σK σK' ∧ fwM σM σM' := by
  have hw := h.2.1
  have hL := h.1.1
  have hrc := h.2.2.1
  have main : ∃ r r', k_itr (fun zz => bX2_write_8 N zz.1 zz.2) N ((0 : Int32), p_i σK 15 0) = some r ∧ k_itr (fun zz => bX6_write_7 N zz.1 zz.2) N ((0 : Int32), p_i σM 14 0) = some r' ∧ ∃ n, n ≤ 200 ∧ kLn r r' n ∧ fwK σK r ∧ fwM σM r' := by
    refine kk_itr (fun v s s' => ∃ i n σA σB, s = (nI i, σA) ∧ s' = (nI i, σB) ∧ i ≤ w ∧ v = w - i ∧ n ≤ (if i = 0 then 0 else en (i - 1)) + 15 * i ∧ kLn σA σB n ∧ kCh σA n ∧ fwK σK σA ∧ fwM σM σB) _ (fun v s s' hI => ?_) N N w _ _ (by omega) (by omega) ⟨0, 0, p_i σK 15 0, p_i σM 14 0, rfl, rfl, Nat.zero_le _, rfl, Nat.zero_le _, ⟨rfl, rfl, fun i hi => by omega⟩, fun i hi => by omega, ⟨fun i hi => by rw [piI, if_neg hi], fun _ _ => rfl, rfl, rfl⟩, ⟨fun i hi => by rw [piI, if_neg hi], fun _ _ => rfl, rfl, rfl⟩⟩
    obtain ⟨i, n, σA, σB, rfl, rfl, h1, rfl, h2, h3, h4, h5, h6⟩ := hI
    have hA := h.fr h5 h6
    by_cases hi : i < w
    · left
      obtain ⟨b1, b2, b3, b4, b5, b6, b7⟩ := hA.2.2.2.2.2.2.1 i hi
      have eK : bX2_write_8 N (nI i) σA = (if nI i ≤ 0 then jX2_write_42_8 N σA (nI i) else if nI i = nI rc then (bd1 (fX2_addSign N σA 61) fun σ15 => jX2_write_42_8 N σ15 (nI i)) else (bd1 (fX2_addSign N σA 43) fun σ14 => jX2_write_42_8 N σ14 (nI i))) := by
        unfold bX2_write_8
        rw [hA.2.2.2.1, if_neg (nI_ge hi (by omega)), hA.2.2.2.2.2.1]
      have eM : bX6_write_7 N (nI i) σB = (if nI i ≤ 0 then jX6_write_66_7 N σB (nI i) else (bd1 (fX6_put N σB (32 : Int32)) fun σ15 => if (nI i < 0 ∨ 6 ≤ (nI i).toNatClampNeg) then none else if ((nI i - (1 : Int32)) < 0 ∨ 6 ≤ ((nI i - (1 : Int32))).toNatClampNeg) then none else if ((σ15.2.1 4 ((nI i).toNatClampNeg)) = (σ15.2.1 4 (((nI i - (1 : Int32))).toNatClampNeg))) then (bd1 (fX6_put N σ15 (43 : Int32)) fun σ18 => jX6_write_60_7 N σ18 (nI i)) else (bd1 (fX6_put N σ15 (61 : Int32)) fun σ20 => jX6_write_60_7 N σ20 (nI i)))) := by
        unfold bX6_write_7
        rw [hA.2.2.2.2.1, if_neg (nI_ge hi (by omega)), hbal σB h6, bd1_s, if_neg (by decide)]
      by_cases hi0 : i = 0
      · subst hi0
        rw [if_pos rfl] at h2
        obtain ⟨n', σC, σD, d1, d2, d3, d4, d5, d6, d7⟩ := k_wform hN hA hi h3 h4 (by omega)
        refine ⟨_, _, w - (0 + 1), by rw [eK, if_pos (by decide)]; exact d2, by rw [eM, if_pos (by decide)]; exact d3, by omega, 0 + 1, n', σC, σD, rfl, rfl, by omega, rfl, ?_, d4, d5, h5.tr d6, h6.tr d7⟩
        rw [if_neg (by omega), show 0 + 1 - 1 = 0 by omega]
        omega
      · rw [if_neg hi0] at h2
        rw [if_neg (nI_nle (by omega) (by omega))] at eK eM
        have hen := hA.2.2.2.2.2.2.2.1 (i - 1) (by omega)
        rw [show i - 1 + 1 = i by omega] at hen
        obtain ⟨c1, c2, c3, c4, c5, c6, c7⟩ := hA.2.2.2.2.2.2.1 (i - 1) (by omega)
        obtain ⟨σ1, τ1, e1, f1, g1, k1, l1, m1⟩ := k_ch2 (N := N) (x := 32) h3 h4 (by omega) (by omega)
        have em1 : nI i - 1 = nI (i - 1) := by rw [show (1 : Int32) = nI 1 from rfl, pk_sub (by omega)]
        rw [show fX6_put N σB 32 = some τ1 from f1, bd1_s, if_neg (nI_in (by omega) (by omega)), em1, if_neg (nI_in (by omega) (by omega)), nI_clamp (by omega), nI_clamp (by omega), m1.2.1 4 (by decide), b7, c7] at eM
        have fin : ∀ sg : Nat, sg < 127 → ∃ n' σC σD, n' ≤ n + 15 + (en i - bg i) ∧ (bd1 (fX2_addSign N σA (nI sg)) fun σ15 => jX2_write_42_8 N σ15 (nI i)) = some (.inl (nI (i + 1), σC)) ∧ (bd1 (fX6_put N τ1 (nI sg)) fun σ18 => jX6_write_60_7 N σ18 (nI i)) = some (.inl (nI (i + 1), σD)) ∧ kLn σC σD n' ∧ kCh σC n' ∧ fwK σA σC ∧ fwM σB σD := fun sg hsg => by
          obtain ⟨σ2, τ2, e2, f2, g2, k2, l2, m2⟩ := k_ch2 (N := N) (x := sg) g1 k1 (by omega) hsg
          obtain ⟨σ3, τ3, e3, f3, g3, k3, l3, m3⟩ := k_ch2 (N := N) (x := 32) g2 k2 (by omega) (by omega)
          have l := (l1.tr l2).tr l3
          have m := (m1.tr m2).tr m3
          obtain ⟨n', σC, σD, d1, d2, d3, d4, d5, d6, d7⟩ := k_wform hN (hA.fr l m) hi g3 k3 (by omega)
          refine ⟨n', σC, σD, by omega, ?_, ?_, d4, d5, l.tr d6, m.tr d7⟩
          · unfold fX2_addSign
            rw [show fX2_add N σA 32 = some σ1 from e1, bd1_s, e2, bd1_s, show fX2_add N σ2 32 = some σ3 from e3, bd1_s, bd1_s]
            exact d2
          · rw [f2, bd1_s]
            unfold jX6_write_60_7
            rw [show fX6_put N τ2 32 = some τ3 from f3, bd1_s]
            exact d3
        have wrap : ∀ n' σC σD, n' ≤ n + 15 + (en i - bg i) → bX2_write_8 N (nI i) σA = some (.inl (nI (i + 1), σC)) → bX6_write_7 N (nI i) σB = some (.inl (nI (i + 1), σD)) → kLn σC σD n' → kCh σC n' → fwK σA σC → fwM σB σD → ∃ t t' v', bX2_write_8 N (nI i) σA = some (.inl t) ∧ bX6_write_7 N (nI i) σB = some (.inl t') ∧ v' < w - i ∧ ∃ i n σA σB, t = (nI i, σA) ∧ t' = (nI i, σB) ∧ i ≤ w ∧ v' = w - i ∧ n ≤ (if i = 0 then 0 else en (i - 1)) + 15 * i ∧ kLn σA σB n ∧ kCh σA n ∧ fwK σK σA ∧ fwM σM σB := fun n' σC σD q1 q2 q3 q4 q5 q6 q7 => by
          refine ⟨_, _, w - (i + 1), q2, q3, by omega, i + 1, n', σC, σD, rfl, rfl, by omega, rfl, ?_, q4, q5, h5.tr q6, h6.tr q7⟩
          rw [if_neg (by omega), show i + 1 - 1 = i by omega]
          omega
        by_cases hir : i = rc
        · rw [if_pos (by rw [hir])] at eK
          rw [if_neg (show ¬ ((if i < rc then (0 : Int32) else 1) = (if i - 1 < rc then 0 else 1)) by rw [if_neg (by omega), if_pos (by omega)]; decide)] at eM
          obtain ⟨n', σC, σD, q1, q2, q3, q4, q5, q6, q7⟩ := fin 61 (by omega)
          exact wrap n' σC σD q1 (eK.trans q2) (eM.trans q3) q4 q5 q6 q7
        · rw [if_neg (fun e => hir ((nI_eq (by omega) (by omega)).mp e))] at eK
          rw [if_pos (show ((if i < rc then (0 : Int32) else 1) = (if i - 1 < rc then 0 else 1)) by
            by_cases h9 : i < rc
            · rw [if_pos h9, if_pos (by omega)]
            · rw [if_neg h9, if_neg (by omega)])] at eM
          obtain ⟨n', σC, σD, q1, q2, q3, q4, q5, q6, q7⟩ := fin 43 (by omega)
          exact wrap n' σC σD q1 (eK.trans q2) (eM.trans q3) q4 q5 q6 q7
    · right
      have e : i = w := by omega
      subst e
      refine ⟨σA, σB, ?_, fun m hm => k_itr_1 ?_ m (by omega), n, ?_, h3, h5, h6⟩
      · show bX2_write_8 N (nI i) σA = _
        unfold bX2_write_8
        rw [hA.2.2.2.1, if_pos (nI_le (Nat.le_refl _) (by omega))]
      · show bX6_write_7 N (nI i) σB = _
        unfold bX6_write_7
        rw [hA.2.2.2.2.1, if_pos (nI_le (Nat.le_refl _) (by omega))]
      · by_cases h9 : i = 0
        · rw [if_pos h9] at h2; omega
        · rw [if_neg h9] at h2
          have := (hA.2.2.2.2.2.2.1 (i - 1) (by omega)).2.2.2.2.2.1
          omega
  obtain ⟨r, r', m1, m2, n, m3, m4, m5, m6⟩ := main
  refine ⟨r, r', n, ?_, ?_, m3, m4, m5, m6⟩
  · unfold fX2_write
    rw [m1]; rfl
  · unfold fX6_write
    rw [m2]; rfl
