/-! The units of a part. -/
theorem k_units {N : Nat} {σK σM : vS} {L p w el ch : Nat} {c : Nat → Nat} {tot : Nat → Nat} {q : Int} {r1 : Int64} (hN : 300 < N) (h : kU σK σM L c p w el ch tot q) :
    ∃ σK' σM', fX3_readUnits N σK = some σK' ∧ (bd1 (fX6_clearSums N (p_i σM 11 (0 : Int32))) fun σ2 => k_itr (fun zz => bX6_readPart_19 N r1 zz.1 zz.2.1 zz.2.2) N ((1 : Int32), (1 : Int32), σ2)) = some σM' ∧ kOut σK σM σK' σM' L c p w ch tot q 0 := by
  obtain ⟨hT, hC, hO⟩ := h
  have hL := hT.1
  have hpL := hC.1
  obtain ⟨σ1, e1, f1, f2, f3, f4, f5⟩ := k_fill (σ := p_i σK 8 0) (b := 1) (v := 0) (show 10 < N by omega)
  obtain ⟨σ2, e2, g1, g2, g3, g4, g5⟩ := k_clearS (σ := p_i σM 11 0) (d := 0) hN (by omega) rfl
  have fK1 : fpK σK σ1 := (fpK.i σK 8 _ (by decide) (by decide) (by decide)).tr (fpK.of f1 f2)
  have fM1 : fpM w σM σ2 := (fpM.i w σM 11 _ (by decide) (by decide) (by decide)).tr (fpM.of g1 g2 g3)
  have hU1 : kU σ1 σ2 L c p w el ch tot q := by
    refine ⟨hT.fp fK1 fM1, hC.fr ?_ ?_ ?_ ?_ ?_ ?_ ?_ ?_ ?_ ?_ ?_, hO.fr ?_ ?_ ?_ ?_ ?_⟩
    · rw [f1]; rfl
    · rw [f1]; rfl
    · rw [f1]; rfl
    · rw [f1]; rfl
    · rw [f1]; rfl
    · rw [f2]; rfl
    · rw [g1]; rfl
    · rw [g1]; rfl
    · rw [g1]; rfl
    · rw [g1]; rfl
    · rw [g2]; rfl
    · rw [f4 0 (by omega)]; rfl
    · rw [f1]; rfl
    · rw [g1]; rfl
    · rw [g3 1 (by decide)]; rfl
    · rw [g3 0 (by decide)]; rfl
  have hS1 : kS σ1 σ2 0 (fun _ _ => 0) := by
    refine ⟨by omega, by rw [f1]; rfl, by rw [g1]; rfl, fun i h1 h2 => by omega, fun i hi t ht => ?_⟩
    have e : i = 0 := by omega
    subst e
    exact ⟨(f5 t (by rw [k_len5 (by omega)]; exact ht)).trans rfl, g5 t ht⟩
  unfold fX3_readUnits
  rw [e1, e2, bd1_s, bd1_s]
  have fin : ∀ (ex : Int32) (σA σB : vS) (p' el' d : Nat) (sm : Nat → Nat → Nat), (ex = 0 ∨ ex = 1) → kU σA σB L c p' w el' ch tot q → kS σA σB d sm → (∀ t, t < 5 → kPh sm t d ≤ 99 ^ 4 * p') → fpK σK σA → fpM w σM σB → (p < p' ∨ ex = 1) → ¬ (65 ≤ c p' ∧ c p' ≤ 90) → c p' ≠ 40 → c p' ≠ 91 → ¬ (1 ≤ d ∧ nI (c p') = σA.2.1 5 d ∧ ex = 0) → ∃ σB', fX6_readStep N σB ex = some (0, σB') ∧ ∃ σK', jX3_readUnits_141 N σA ex = some σK' ∧ kOut σK σM σK' σB' L c p w ch tot q 0 := fun ex σA σB p' el' d sm hex hU hS hb fA fB hprog n1 n2 n3 n4 => by
    obtain ⟨hT', ⟨a0, a1, a2, a3, a4, a5, a6, a7, a8, a9, a10, a11, a12⟩, hO'⟩ := hU
    have hS' := hS
    obtain ⟨b0, b1, b2, b3, b4⟩ := hS'
    have hcb := hT'.b p'
    have e249 : fX6_readStep N σB ex = jX6_readStep_249 N σB ex := by
      unfold fX6_readStep
      rw [a2, k_charAt hT' (by omega), bd1_s, if_neg (nlN 40 40 rfl hcb (by omega) n2), if_neg (nlN 91 91 rfl hcb (by omega) n3), (k_cap (c p') hcb N σB).2, if_neg n1, bd1_s, if_pos rfl]
      by_cases h0 : ex = 0
      · rw [if_pos h0, b2]
        by_cases hd : d = 0
        · rw [if_pos (show nI d ≤ 0 by rw [hd]; decide)]
        · rw [if_neg (nI_nle (by omega) (by omega)), if_neg (nI_in (by omega) (by omega)), nI_clamp (by omega), ← (b3 d (by omega) (Nat.le_refl _)).1, if_neg (fun e => n4 ⟨by omega, e, h0⟩)]
      · rw [if_neg h0]
    rw [e249]
    unfold jX6_readStep_249 jX3_readUnits_141
    rw [if_pos a9, b2, b1, a2]
    have bad : ∃ σB', (bd1 (fX6_failIf N σB 1 (-2) (nI p')) fun σ13 => some ((0 : Int32), σ13)) = some (0, σB') ∧ ∃ σK', (bd1 (fX3_meet N σA (-2) (σA.1 1)) fun σ3 => some σ3) = some σK' ∧ kOut σK σM σK' σB' L c p w ch tot q 0 := by
      rw [k_failY a10, bd1_s, a1]
      exact ⟨_, rfl, _, rfl, fA.tr ((fpK.i _ 6 _ (by decide) (by decide) (by decide)).tr (fpK.i _ 7 _ (by decide) (by decide) (by decide))), fB.tr ((fpM.i w _ 4 _ (by decide) (by decide) (by decide)).tr (fpM.i w _ 5 _ (by decide) (by decide) (by decide))), Or.inr ⟨-2, nI p', p', by decide, rfl, rfl, rfl, rfl, a2, by omega⟩⟩
    by_cases h0 : ex = 0
    · rw [if_pos h0, if_pos h0]
      by_cases hd : d = 0
      · rw [if_pos (show nI d ≤ 0 by rw [hd]; decide), if_pos (show nI d ≤ 0 by rw [hd]; decide), k_failN]
        subst hd
        refine ⟨σB, rfl, σA, rfl, fA, fB, Or.inl ⟨p', el', sm, ?_, ⟨hT', ⟨a0, a1, a2, a3, a4, a5, a6, a7, a8, a9, a10, a11, a12⟩, hO'⟩, hS, hb⟩⟩
        rcases hprog with e | e
        · exact e
        · rw [h0] at e; exact absurd e (by decide)
      · rw [if_neg (nI_nle (by omega) (by omega)), if_neg (nI_nle (by omega) (by omega))]
        exact bad
    · rw [if_neg h0, if_neg h0]
      exact bad
  have main : ∃ r r', k_itr (fun zz => bX3_readUnits_21 N zz.1 zz.2.1 zz.2.2.1 zz.2.2.2) N ((1 : Int32), (1 : Int32), (0 : Int32), σ1) = some r ∧ k_itr (fun zz => bX6_readPart_19 N r1 zz.1 zz.2.1 zz.2.2) N ((1 : Int32), (1 : Int32), σ2) = some r' ∧ ∃ σK', jX3_readUnits_141 N r.2 r.1 = some σK' ∧ kOut σK σM σK' r' L c p w ch tot q 0 := by
    refine kk_itr (fun v s s' => (∃ (ex : Int32) (i : Nat) (σA σB : vS) (p' el' d : Nat) (sm : Nat → Nat → Nat), s = (ex, 1, nI i, σA) ∧ s' = (1, ex, σB) ∧ (ex = 0 ∨ ex = 1) ∧ kU σA σB L c p' w el' ch tot q ∧ kS σA σB d sm ∧ (∀ t, t < 5 → kPh sm t d ≤ 99 ^ 4 * p') ∧ fpK σK σA ∧ fpM w σM σB ∧ p ≤ p' ∧ i ≤ p' - p ∧ (p < p' ∨ ex = 1) ∧ v = L - p' + 1) ∨ (v = 0 ∧ ∃ (ex i' : Int32) (σA : vS) (g e' : Int32) (σB : vS), s = (ex, 0, i', σA) ∧ s' = (g, e', σB) ∧ (g = 0 ∨ σB.1 4 ≠ 0) ∧ ∃ σK', jX3_readUnits_141 N σA ex = some σK' ∧ kOut σK σM σK' σB L c p w ch tot q 0)) _ (fun v s s' hI => ?_) N N (L - p + 1) _ _ (by omega) (by omega) (Or.inl ⟨1, 0, σ1, σ2, p, el, 0, fun _ _ => 0, rfl, rfl, Or.inr rfl, hU1, hS1, fun t ht => Nat.zero_le _, fK1, fM1, Nat.le_refl _, Nat.zero_le _, Or.inr rfl, rfl⟩)
    rcases hI with ⟨ex, i, σA, σB, p', el', d, sm, rfl, rfl, hex, hU, hS, hb, fA, fB, hpp, hip, hprog, rfl⟩ | ⟨rfl, ex, i', σA, g, e', σB, rfl, rfl, hg, hQ⟩
    · have hU' := hU
      obtain ⟨hT', ⟨a0, a1, a2, a3, a4, a5, a6, a7, a8, a9, a10, a11, a12⟩, hO'⟩ := hU'
      have hS' := hS
      obtain ⟨b0, b1, b2, b3, b4⟩ := hS'
      have hcb := hT'.b p'
      have eM : ∀ (r : Int32) (σ : vS), fX6_readStep N σB ex = some (r, σ) → bX6_readPart_19 N r1 1 ex σB = some (.inl (r, (if c p' = 40 ∨ c p' = 91 then 1 else 0), σ)) := fun r σ hr => by
        unfold bX6_readPart_19
        rw [if_neg (by decide), if_pos a10, a2, k_charAt hT' (by omega), bd1_s, hr, bd2_s]
        by_cases n2 : c p' = 40
        · rw [if_pos (nlE 40 40 rfl n2), if_pos (Or.inl n2)]
        · rw [if_neg (nlN 40 40 rfl hcb (by omega) n2)]
          by_cases n3 : c p' = 91
          · rw [if_pos (nlE 91 91 rfl n3), if_pos (Or.inr n3)]
          · rw [if_neg (nlN 91 91 rfl hcb (by omega) n3), if_neg (fun h9 => h9.elim n2 n3)]
      by_cases hi : i = 100
      · -- the program stops: all is read
        have hc0 : c p' = 0 := hT'.2.2.1 p' (by omega)
        obtain ⟨σB', s1, s2⟩ := fin ex σA σB p' el' d sm hex hU hS hb fA fB hprog (by omega) (by omega) (by omega) (fun h9 => by
          have := (b3 d h9.1 (Nat.le_refl _)).2
          rw [← h9.2.1, hc0] at this
          exact this rfl)
        right
        refine ⟨(ex, σA), σB', ?_, fun n hn => ?_, s2⟩
        · show bX3_readUnits_21 N ex 1 (nI i) σA = _
          unfold bX3_readUnits_21
          rw [if_pos (show (100 : Int32) ≤ nI i by rw [hi]; decide)]
        · obtain ⟨n', rfl⟩ : ∃ n', n = n' + 1 := ⟨n - 1, by omega⟩
          rw [k_itr_s (body := fun zz => bX6_readPart_19 N r1 zz.1 zz.2.1 zz.2.2) (eM 0 σB' s1)]
          refine k_itr_1 ?_ n' (by omega)
          show bX6_readPart_19 N r1 0 _ σB' = _
          unfold bX6_readPart_19
          rw [if_pos rfl]
      · have hi' : i < 100 := by omega
        left
        have eK : bX3_readUnits_21 N ex 1 (nI i) σA = (if (if 65 ≤ c p' ∧ c p' ≤ 90 then (1 : Int32) else 0) = 0 then (if nI (c p') = 40 then jX3_readUnits_73_21 N σA 1 (nI i) (nI (c p')) else if nI (c p') = 91 then jX3_readUnits_73_21 N σA 1 (nI i) (nI (c p')) else if nI d ≤ 0 then jX3_readUnits_116_21 N σA ex (nI i) else if nI d < 0 ∨ 4 ≤ (nI d).toNatClampNeg then none else if nI (c p') = σA.2.1 5 (nI d).toNatClampNeg then (if ex = 0 then bd1 (fX3_closeGroup N σA) fun σ16 => jX3_readUnits_118_21 N σ16 ex 1 (nI i) else jX3_readUnits_116_21 N σA ex (nI i)) else jX3_readUnits_116_21 N σA ex (nI i)) else bd1 (fX3_readElement N σA (nI (c p'))) fun σ22 => jX3_readUnits_118_21 N σ22 0 1 (nI i)) := by
          unfold bX3_readUnits_21
          rw [if_neg (show ¬ (100 : Int32) ≤ nI i from nI_ge (b := 100) hi' (by omega)), if_neg (show ¬ (1 : Int32) = 0 by decide), k_here hT' a1 (by omega), bd1_s, (k_cap (c p') hcb N σA).1, bd1_s, b1]
        have e118 : ∀ (σ : vS) (x : Int32), jX3_readUnits_118_21 N σ x 1 (nI i) = some (.inl (x, (if σ.1 6 = 0 then 1 else 0), nI (i + 1), σ)) := fun σ x => by
          unfold jX3_readUnits_118_21
          rw [if_neg (by decide), k_lt_e, k_lt_e, nI_1]
          split <;> rfl
        -- both went on
        have go : ∀ (σA' σB' : vS) (ex' : Int32) (d' : Nat), (ex' = 0 ∨ ex' = 1) → kOut σA σB σA' σB' L c p' w ch tot q d' → ex' = (if c p' = 40 ∨ c p' = 91 then 1 else 0) → bX3_readUnits_21 N ex 1 (nI i) σA = some (.inl (ex', (if σA'.1 6 = 0 then 1 else 0), nI (i + 1), σA')) → fX6_readStep N σB ex = some (1, σB') → ∃ t t' v', bX3_readUnits_21 N ex 1 (nI i) σA = some (.inl t) ∧ bX6_readPart_19 N r1 1 ex σB = some (.inl t') ∧ v' < L - p' + 1 ∧ ((∃ (ex : Int32) (i : Nat) (σA σB : vS) (p' el' d : Nat) (sm : Nat → Nat → Nat), t = (ex, 1, nI i, σA) ∧ t' = (1, ex, σB) ∧ (ex = 0 ∨ ex = 1) ∧ kU σA σB L c p' w el' ch tot q ∧ kS σA σB d sm ∧ (∀ t, t < 5 → kPh sm t d ≤ 99 ^ 4 * p') ∧ fpK σK σA ∧ fpM w σM σB ∧ p ≤ p' ∧ i ≤ p' - p ∧ (p < p' ∨ ex = 1) ∧ v' = L - p' + 1) ∨ (v' = 0 ∧ ∃ (ex i' : Int32) (σA : vS) (g e' : Int32) (σB : vS), t = (ex, 0, i', σA) ∧ t' = (g, e', σB) ∧ (g = 0 ∨ σB.1 4 ≠ 0) ∧ ∃ σK', jX3_readUnits_141 N σA ex = some σK' ∧ kOut σK σM σK' σB L c p w ch tot q 0)) := fun σA' σB' ex' d' hex' hO eex hKe hMe => by
          have hMe2 := eM 1 σB' hMe
          rw [← eex] at hMe2
          obtain ⟨o1, o2, o3⟩ := hO
          rcases o3 with ⟨p2, el2, s2, q1, q2, q3, q4⟩ | ⟨fa, qa, pa, y1, y2, y3, y4, y5, y6, y7⟩
          · rw [if_pos q2.2.1.2.2.2.2.2.2.2.2.2.1] at hKe
            have q0 := q2.2.1.1
            exact ⟨_, _, L - p2 + 1, hKe, hMe2, by omega, Or.inl ⟨ex', i + 1, σA', σB', p2, el2, d', s2, rfl, rfl, hex', q2, q3, q4, fA.tr o1, fB.tr o2, by omega, by omega, Or.inl (by omega), rfl⟩⟩
          · have y9 : ¬ σA'.1 6 = 0 := by rw [y2]; exact y1
            rw [if_neg y9] at hKe
            refine ⟨_, _, 0, hKe, hMe2, by omega, Or.inr ⟨rfl, ex', nI (i + 1), σA', 1, ex', σB', rfl, rfl, Or.inr (by rw [y4]; exact y1), σA', ?_, fA.tr o1, fB.tr o2, Or.inr ⟨fa, qa, pa, y1, y2, y3, y4, y5, y6, y7⟩⟩⟩
            unfold jX3_readUnits_141
            rw [if_neg y9]
        by_cases n1 : 65 ≤ c p' ∧ c p' ≤ 90
        · obtain ⟨σA', σB', z1, z2, z3⟩ := k_elem hN hU hS hb n1
          refine go σA' σB' 0 d (Or.inl rfl) z3 ?_ ?_ ?_
          · rw [if_neg (by omega)]
          · rw [eK, if_pos n1, if_neg (show ¬ (1 : Int32) = 0 by decide), z1, bd1_s, e118]
          · unfold fX6_readStep
            rw [a2, k_charAt hT' (by omega), bd1_s, if_neg (nlN 40 40 rfl hcb (by omega) (show c p' ≠ 40 by omega)), if_neg (nlN 91 91 rfl hcb (by omega) (show c p' ≠ 91 by omega)), (k_cap (c p') hcb N σB).2, if_pos n1, bd1_s, if_neg (show ¬ (1 : Int32) = 0 by decide)]
            exact z2
        · rw [if_neg n1, if_pos rfl] at eK
          by_cases n2 : c p' = 40 ∨ c p' = 91
          · obtain ⟨σA', σB', z1, z2, z3⟩ := k_open hN hU hS hb n2
            have hO2 : ∃ d', kOut σA σB σA' σB' L c p' w ch tot q d' := by
              rcases z3 with ⟨_, z4⟩ | ⟨z4, z5, z6⟩
              · exact ⟨d + 1, z4⟩
              · exact ⟨d, z4, z5, Or.inr z6⟩
            obtain ⟨d', hO2⟩ := hO2
            refine go σA' σB' 1 d' (Or.inr rfl) hO2 ?_ ?_ ?_
            · rw [if_pos n2]
            · have e73 : jX3_readUnits_73_21 N σA 1 (nI i) (nI (c p')) = some (.inl (1, (if σA'.1 6 = 0 then 1 else 0), nI (i + 1), σA')) := by
                unfold jX3_readUnits_73_21
                rw [z1, bd1_s, e118]
              rw [eK]
              rcases n2 with n2 | n2
              · rw [if_pos (nlE 40 40 rfl n2)]; exact e73
              · rw [if_neg (nlN 40 40 rfl hcb (by omega) (show c p' ≠ 40 by omega)), if_pos (nlE 91 91 rfl n2)]; exact e73
            · unfold fX6_readStep
              rw [a2, k_charAt hT' (by omega), bd1_s]
              rcases n2 with n2 | n2
              · rw [if_pos (nlE 40 40 rfl n2)]; exact z2
              · rw [if_neg (nlN 40 40 rfl hcb (by omega) (show c p' ≠ 40 by omega)), if_pos (nlE 91 91 rfl n2)]; exact z2
          · rw [if_neg (nlN 40 40 rfl hcb (by omega) (show c p' ≠ 40 by omega)), if_neg (nlN 91 91 rfl hcb (by omega) (show c p' ≠ 91 by omega))] at eK
            by_cases n4 : 1 ≤ d ∧ nI (c p') = σA.2.1 5 d ∧ ex = 0
            · obtain ⟨n5, n6, n7⟩ := n4
              have hb3 := b3 d n5 (Nat.le_refl _)
              have hcn : c p' ≠ 0 := fun e9 => by
                rw [← n6, e9] at hb3
                exact hb3.2 rfl
              have hpl : p' < L := hT'.p hcn
              obtain ⟨d0, rfl⟩ : ∃ d0, d = d0 + 1 := ⟨d - 1, by omega⟩
              obtain ⟨σA', σB', z1, z2, z3⟩ := k_close hN hU hS hb hpl
              refine go σA' σB' 0 d0 (Or.inl rfl) z3 ?_ ?_ ?_
              · rw [if_neg n2]
              · rw [eK, if_neg (nI_nle (by omega) (by omega)), if_neg (nI_in (by omega) (by omega)), nI_clamp (by omega), if_pos n6, if_pos n7, z1, bd1_s, e118, n7]
              · unfold fX6_readStep
                rw [a2, k_charAt hT' (by omega), bd1_s, if_neg (nlN 40 40 rfl hcb (by omega) (show c p' ≠ 40 by omega)), if_neg (nlN 91 91 rfl hcb (by omega) (show c p' ≠ 91 by omega)), (k_cap (c p') hcb N σB).2, if_neg n1, bd1_s, if_pos rfl, if_pos n7, b2, if_neg (nI_nle (by omega) (by omega)), if_neg (nI_in (by omega) (by omega)), nI_clamp (by omega), ← hb3.1, if_pos n6]
                exact z2
            · obtain ⟨σB', s1, s2⟩ := fin ex σA σB p' el' d sm hex hU hS hb fA fB hprog n1 (by omega) (by omega) n4
              have e116 : jX3_readUnits_116_21 N σA ex (nI i) = some (.inl (ex, 0, nI (i + 1), σA)) := by
                unfold jX3_readUnits_116_21 jX3_readUnits_118_21
                rw [if_pos rfl, k_lt_e, nI_1]
              have eK2 : bX3_readUnits_21 N ex 1 (nI i) σA = some (.inl (ex, 0, nI (i + 1), σA)) := by
                rw [eK, ← e116]
                by_cases hd : d = 0
                · rw [if_pos (show nI d ≤ 0 by rw [hd]; decide)]
                · rw [if_neg (nI_nle (by omega) (by omega)), if_neg (nI_in (by omega) (by omega)), nI_clamp (by omega)]
                  by_cases n6 : nI (c p') = σA.2.1 5 d
                  · rw [if_pos n6, if_neg (fun n7 => n4 ⟨by omega, n6, n7⟩)]
                  · rw [if_neg n6]
              exact ⟨_, _, 0, eK2, eM 0 σB' s1, by omega, Or.inr ⟨rfl, ex, nI (i + 1), σA, 0, _, σB', rfl, rfl, Or.inl rfl, s2⟩⟩
    · right
      refine ⟨(ex, σA), σB, ?_, fun n hn => k_itr_1 ?_ n (by omega), hQ⟩
      · show bX3_readUnits_21 N ex 0 i' σA = _
        unfold bX3_readUnits_21
        by_cases h9 : (100 : Int32) ≤ i'
        · rw [if_pos h9]
        · rw [if_neg h9, if_pos rfl]
      · show bX6_readPart_19 N r1 g e' σB = _
        unfold bX6_readPart_19
        by_cases h9 : g = 0
        · rw [if_pos h9]
        · rw [if_neg h9, if_neg (hg.resolve_left h9)]
  obtain ⟨r, r', m1, m2, σK', m3, m4⟩ := main
  exact ⟨σK', r', by rw [m1, bd1_s]; exact m3, m2, m4⟩
