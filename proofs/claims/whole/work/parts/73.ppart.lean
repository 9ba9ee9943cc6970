/-! Parts of a formula. -/
theorem bd1_as {α β γ : Type} (X : Option α) (G : α → Option β) (F : β → Option γ) : bd1 X (fun a => bd1 (G a) F) = bd1 (bd1 X G) F := by
  cases X <;> rfl
def kPt (σK σM σK' σM' : vS) (L : Nat) (c : Nat → Nat) (p w ch : Nat) (q : Int) : Prop := fpK σK σK' ∧ fpM w σM σM' ∧ ((∃ p' el' tot', p < p' ∧ kU σK' σM' L c p' w el' ch tot' q ∧ ∀ t, t < 5 → tot' t ≤ 99 ^ 5 * 100 * p') ∨ kB σK' σM')
theorem k_p71F {N : Nat} {σ : vS} {r : Int64} (hN : 300 < N) (h : σ.1 4 ≠ 0) : jX6_readPart_71 N σ r = some σ := by
  unfold jX6_readPart_71
  rw [k_itr_1 (r := σ) ?_ N (by omega)]
  · rfl
  · show bX6_readPart_74 N r 0 σ = _
    unfold bX6_readPart_74
    rw [if_neg (by decide), if_neg h]
theorem k_p71 {N w : Nat} {σ : vS} {r : Int64} (hN : 300 < N) (hw : w < 6) (h4 : σ.1 4 = 0) (h8 : σ.1 8 = nI w) : ∃ σ', jX6_readPart_71 N σ r = some σ' ∧ σ'.1 = σ.1 ∧ σ'.2.1 = σ.2.1 ∧ (∀ b, b ≠ 1 → σ'.2.2.2 b = σ.2.2.2 b) ∧ (∀ i, i < 5 * w → σ'.2.2.2 1 i = σ.2.2.2 1 i) ∧ ∀ t, t < 5 → σ'.2.2.2 1 (5 * w + t) = σ.2.2.2 1 (5 * w + t) + r * σ.2.2.2 2 t := by
  unfold jX6_readPart_71
  refine kok_bd1 (P := fun σ' => σ'.1 = σ.1 ∧ σ'.2.1 = σ.2.1 ∧ (∀ b, b ≠ 1 → σ'.2.2.2 b = σ.2.2.2 b) ∧ (∀ i, i < 5 * w → σ'.2.2.2 1 i = σ.2.2.2 1 i) ∧ ∀ t, t < 5 → σ'.2.2.2 1 (5 * w + t) = σ.2.2.2 1 (5 * w + t) + r * σ.2.2.2 2 t) ?_ (fun σ' h => kok_some h)
  refine kok_for (body := fun zz => bX6_readPart_74 N r zz.1 zz.2) 5 (fun t σ' => σ'.1 = σ.1 ∧ σ'.2.1 = σ.2.1 ∧ (∀ b, b ≠ 1 → σ'.2.2.2 b = σ.2.2.2 b) ∧ (∀ i, i < 5 * w → σ'.2.2.2 1 i = σ.2.2.2 1 i) ∧ ∀ t', t' < 5 → σ'.2.2.2 1 (5 * w + t') = if t' < t then σ.2.2.2 1 (5 * w + t') + r * σ.2.2.2 2 t' else σ.2.2.2 1 (5 * w + t')) (fun t σ' ht hI => ?_) (fun σ' hI => ?_) N 0 _ (by omega) (Nat.zero_le _) ⟨rfl, rfl, fun _ _ => rfl, fun _ _ => rfl, fun t' _ => by rw [if_neg (Nat.not_lt_zero _)]⟩
  · obtain ⟨g1, g2, g3, g5, g4⟩ := hI
    show kok (bX6_readPart_74 N r (nI t) σ') _
    unfold bX6_readPart_74
    rw [g1, h8, k_ix5]
    refine kok_f (nI_ge (b := 5) ht (by omega)) (kok_t h4 (kok_g (nI_in (by omega) (by omega)) (kok_g (nI_in (by omega) (by omega)) (kok_g (nI_in (by omega) (by omega)) (kok_lt (kok_some ⟨_, Prod.ext (nI_1 _) rfl, g1, g2, fun b hb => ?_, fun i hi => ?_, fun t' ht' => ?_⟩))))))
    · funext j; rw [pbB, if_neg hb]; exact congrFun (g3 b hb) j
    · rw [pbB, if_pos rfl, nI_clamp (by omega), if_neg (by omega)]; exact g5 i hi
    · rw [pbB, if_pos rfl, nI_clamp (by omega), nI_clamp (by omega)]
      by_cases e : t' = t
      · subst e
        rw [if_pos rfl, if_pos (by omega), g4 t' ht', if_neg (by omega), g3 2 (by decide)]
      · rw [if_neg (by omega), g4 t' ht']
        by_cases e2 : t' < t
        · rw [if_pos e2, if_pos (by omega)]
        · rw [if_neg e2, if_neg (by omega)]
  · obtain ⟨g1, g2, g3, g5, g4⟩ := hI
    show kok (bX6_readPart_74 N r (nI 5) σ') _
    unfold bX6_readPart_74
    exact kok_t (nI_le (a := 5) (by omega) (by omega)) (kok_some ⟨g1, g2, g3, g5, fun t ht => by rw [g4 t ht, if_pos ht]⟩)
theorem k_part {N : Nat} {σK σM : vS} {L p w el ch : Nat} {c : Nat → Nat} {tot : Nat → Nat} {q : Int} (hN : 300 < N) (h : kU σK σM L c p w el ch tot q) (hb : ∀ t, t < 5 → tot t ≤ 99 ^ 5 * 100 * p) :
    ∃ σK' σM', (∀ F : vS → Option ((Int32 × Int32 × vS) ⊕ vS), (bd2 (fX3_readNumber N σK) fun r5 σ5 => if (σ5.1 6) = 0 then (bd1 (fX3_readUnits N σ5) fun σ12 => bd1 (fX3_addTimes N σ12 0 1 r5) fun σ13 => F σ13) else F σ5) = F σK') ∧ fX6_readPart N σM = some σM' ∧ kPt σK σM σK' σM' L c p w ch q := by
  obtain ⟨hT, hC, hO⟩ := h
  have hL := hT.1
  have hw := hO.1
  obtain ⟨e, g1, g2, g3⟩ := k_num hN hT hC.1 hC.2.1 hC.2.2.1 hC.2.2.2.2.2.2.2.2.2.2.1
  unfold fX6_readPart
  rcases g3 with ⟨v, hv9, eK, eM⟩ | ⟨r, r', eK, eM⟩
  · have hU2 := kU.pl ⟨hT, hC, hO⟩ g2
    obtain ⟨σA, σB, z1, z2, z3, z4, z5⟩ := k_units (r1 := lI v) hN hU2
    have fA : fpK σK σA := (fpK.i σK 1 (nI e) (by decide) (by decide) (by decide)).tr z3
    have fB : fpM w σM σB := (fpM.i w σM 3 (nI e) (by decide) (by decide) (by decide)).tr z4
    obtain ⟨σC, y1, y2, y3, y4, y5⟩ := k_addT (σ := σA) (r := nI v) (b0 := 0) (b1 := 1) hN (by omega) (by omega) (by omega)
    have fC : fpK σK σC := fA.tr (fpK.of y2 y3)
    rw [eK, eM, bd2_s]
    have h60 : (p_i σK 1 (nI e)).1 6 = 0 := hC.2.2.2.2.2.2.2.2.2.1
    have eKF : ∀ F : vS → Option ((Int32 × Int32 × vS) ⊕ vS), (bd2 (some (nI v, p_i σK 1 (nI e))) fun r5 σ5 => if (σ5.1 6) = 0 then (bd1 (fX3_readUnits N σ5) fun σ12 => bd1 (fX3_addTimes N σ12 0 1 r5) fun σ13 => F σ13) else F σ5) = F σC := fun F => by
      rw [bd2_s, if_pos h60, z1, bd1_s, y1, bd1_s]
    have eMF : ∀ G : vS → Option vS, (bd1 (fX6_clearSums N (p_i (p_i σM 3 (nI e)) 11 0)) fun σ2 => bd1 (k_itr (fun zz => bX6_readPart_19 N (lI v) zz.1 zz.2.1 zz.2.2) N ((1 : Int32), (1 : Int32), σ2)) fun q => G q) = G σB := fun G => by
      rw [bd1_as, z2, bd1_s]
    rw [eMF]
    rcases z5 with ⟨p2, el2, s2, q1, q2, q3, q4⟩ | ⟨fa, qa, pa, x1, x2, x3, x4, x5, x6, x7⟩
    · obtain ⟨t1, t2, t3⟩ := q2
      obtain ⟨σD, w1, w2, w3, w4, w5, w6⟩ := k_p71 (σ := σB) (r := lI v) hN hw t2.2.2.2.2.2.2.2.2.2.2.1 t3.2.1
      have fD : fpM w σM σD := fB.tr ⟨fun i _ => by rw [w2], fun b _ _ => by rw [w3], fun j _ => by rw [w4 0 (by decide)], w5⟩
      refine ⟨σC, σD, eKF, w1, fC, fD, Or.inl ⟨p2, el2, fun t => tot t + v * s2 0 t, by omega, ⟨hT.fp fC fD, t2.fr ?_ ?_ ?_ ?_ ?_ ?_ ?_ ?_ ?_ ?_ ?_, ⟨hw, by rw [w2]; exact t3.2.1, fun t ht => ?_, by rw [y2]; exact t3.2.2.2.1, by rw [w4 0 (by decide)]; exact t3.2.2.2.2⟩⟩, fun t ht => ?_⟩⟩
      · rw [y2]
      · rw [y2]
      · rw [y2]
      · rw [y2]
      · rw [y2]
      · rw [y3]
      · rw [w2]
      · rw [w2]
      · rw [w2]
      · rw [w2]
      · rw [w3]
      · have u1 := t3.2.2.1 t ht
        have u2 := q3.2.2.2.2 0 (Nat.zero_le _) t ht
        rw [y5 t ht, w6 t ht, u1.1, u1.2]
        have u3 : σA.2.2.2 1 t = lI (s2 0 t) := u2.1
        have u4 : σB.2.2.2 2 t = lI (s2 0 t) := by
          have := u2.2
          rw [Nat.mul_zero, Nat.zero_add] at this
          exact this
        rw [u3, u4, nI_L (by omega), lI_mul, lI_add]
        constructor <;> rfl
      · have u1 : s2 0 t ≤ 99 ^ 4 * p2 := q4 t ht
        have u2 : p2 ≤ L := t2.1
        have u3 := hb t ht
        have u4 : v * s2 0 t ≤ 99 * (99 ^ 4 * 100) := Nat.mul_le_mul hv9 (Nat.le_trans u1 (Nat.mul_le_mul_left _ (by omega)))
        have u5 : 99 ^ 5 * 100 * p + 99 ^ 5 * 100 ≤ 99 ^ 5 * 100 * p2 := by
          rw [← Nat.mul_succ]
          exact Nat.mul_le_mul_left _ (by omega)
        show tot t + v * s2 0 t ≤ _
        omega
    · have x9 : σB.1 4 ≠ 0 := by rw [x4]; exact x1
      exact ⟨σC, σB, eKF, k_p71F hN x9, fC, fB, Or.inr ⟨fa, qa, pa, x1, by rw [y2]; exact x2, by rw [y2]; exact x3, x4, x5, x6, x7⟩⟩
  · rw [eK, eM, bd2_s]
    obtain ⟨σ2, e2, j1, j2, j3, j4, j5⟩ := k_clearS (σ := p_i (p_i (p_i (p_i σM 3 (nI e)) 4 (-3)) 5 (nI p)) 11 0) (d := 0) hN (by omega) rfl
    rw [e2, bd1_s]
    have x9 : σ2.1 4 ≠ 0 := by rw [j1]; show ¬ ((-3 : Int32) = 0); decide
    rw [k_itr_1 (body := fun zz => bX6_readPart_19 N r' zz.1 zz.2.1 zz.2.2) (s := ((1 : Int32), (1 : Int32), σ2)) (r := σ2) (by
      show bX6_readPart_19 N r' 1 1 σ2 = _
      unfold bX6_readPart_19
      rw [if_neg (by decide), if_neg x9]) N (by omega), bd1_s]
    refine ⟨p_i (p_i (p_i σK 1 (nI e)) 6 (-3)) 7 (nI p), σ2, fun F => ?_, k_p71F hN x9, ?_, ?_, Or.inr ⟨-3, nI p, e, by decide, rfl, rfl, by rw [j1]; rfl, by rw [j1]; rfl, by rw [j1]; rfl, by omega⟩⟩
    · rw [bd2_s, if_neg (by show ¬ ((-3 : Int32) = 0); decide)]
    · exact ((fpK.i σK 1 (nI e) (by decide) (by decide) (by decide)).tr (fpK.i _ 6 (-3) (by decide) (by decide) (by decide))).tr (fpK.i _ 7 (nI p) (by decide) (by decide) (by decide))
    · exact ((((fpM.i w σM 3 (nI e) (by decide) (by decide) (by decide)).tr (fpM.i w _ 4 (-3) (by decide) (by decide) (by decide))).tr (fpM.i w _ 5 (nI p) (by decide) (by decide) (by decide))).tr (fpM.i w _ 11 0 (by decide) (by decide) (by decide))).tr (fpM.of j1 j2 j3)
/-- all parts -/
theorem k_parts {N : Nat} {L w ch : Nat} {c : Nat → Nat} {q : Int} (hN : 300 < N) : ∀ n (σK σM : vS) (p el i : Nat) (tot : Nat → Nat), L - p ≤ n → kU σK σM L c p w el ch tot q → (∀ t, t < 5 → tot t ≤ 99 ^ 5 * 100 * p) → 2 * i ≤ p → ∀ m m', n + 3 ≤ m → n + 3 ≤ m' →
    ∃ σK' σM', k_itr (fun zz => bX3_readFormula_4 N zz.1 zz.2.1 zz.2.2) m ((1 : Int32), nI i, σK) = some σK' ∧ (bd1 (fX6_readPart N σM) fun σ5 => k_itr (fun zz => bX6_readFormula_155 N zz) m' σ5) = some σM' ∧ kPt σK σM σK' σM' L c p w ch q := by
  intro n
  induction n with
  | zero =>
    intro σK σM p el i tot hn hU hb hi m m' hm hm'
    obtain ⟨σA, σB, z1, z2, z3, z4, z5⟩ := k_part hN hU hb
    have hL := hU.1.1
    have hpL := hU.2.1.1
    rcases z5 with ⟨p2, el2, tot2, q1, q2, q3⟩ | hB
    · have := q2.2.1.1
      omega
    · obtain ⟨fa, qa, pa, x1, x2, x3, x4, x5, x6, x7⟩ := hB
      refine ⟨σA, σB, ?_, ?_, z3, z4, Or.inr ⟨fa, qa, pa, x1, x2, x3, x4, x5, x6, x7⟩⟩
      · obtain ⟨m1, rfl⟩ : ∃ m1, m = m1 + 1 := ⟨m - 1, by omega⟩
        rw [k_itr_s (t := ((0 : Int32), nI (i + 1), σA)) (by
          show bX3_readFormula_4 N 1 (nI i) σK = _
          unfold bX3_readFormula_4
          rw [if_neg (show ¬ (100 : Int32) ≤ nI i from nI_ge (b := 100) (by omega) (by omega)), if_neg (by decide), z1]
          unfold jX3_readFormula_44_4
          rw [if_neg (by rw [x2]; exact x1)]
          unfold jX3_readFormula_67_4 jX3_readFormula_69_4
          rw [if_pos rfl, k_lt_e, nI_1])]
        refine k_itr_1 ?_ m1 (by omega)
        show bX3_readFormula_4 N 0 (nI (i + 1)) σA = _
        unfold bX3_readFormula_4
        by_cases h9 : (100 : Int32) ≤ nI (i + 1)
        · rw [if_pos h9]
        · rw [if_neg h9, if_pos rfl]
      · rw [z2, bd1_s]
        refine k_itr_1 ?_ m' (by omega)
        show bX6_readFormula_155 N σB = _
        unfold bX6_readFormula_155
        rw [if_neg (by rw [x4]; exact x1)]
  | succ n ih =>
    intro σK σM p el i tot hn hU hb hi m m' hm hm'
    obtain ⟨σA, σB, z1, z2, z3, z4, z5⟩ := k_part hN hU hb
    have hL := hU.1.1
    have hpL := hU.2.1.1
    obtain ⟨m1, rfl⟩ : ∃ m1, m = m1 + 1 := ⟨m - 1, by omega⟩
    have eK : bX3_readFormula_4 N 1 (nI i) σK = jX3_readFormula_44_4 N σA (nI i) := by
      unfold bX3_readFormula_4
      rw [if_neg (show ¬ (100 : Int32) ≤ nI i from nI_ge (b := 100) (by omega) (by omega)), if_neg (by decide), z1]
    have eK0 : ∀ σ : vS, ∀ k, 0 < k → k_itr (fun zz => bX3_readFormula_4 N zz.1 zz.2.1 zz.2.2) k ((0 : Int32), nI (i + 1), σ) = some σ := fun σ k hk => by
      refine k_itr_1 ?_ k hk
      show bX3_readFormula_4 N 0 (nI (i + 1)) σ = _
      unfold bX3_readFormula_4
      by_cases h9 : (100 : Int32) ≤ nI (i + 1)
      · rw [if_pos h9]
      · rw [if_neg h9, if_pos rfl]
    rcases z5 with ⟨p2, el2, tot2, q1, q2, q3⟩ | hB
    · have a9 := q2.2.1.2.2.2.2.2.2.2.2.2.1
      have a10 := q2.2.1.2.2.2.2.2.2.2.2.2.2.1
      have a1 := q2.2.1.2.1
      have a2 := q2.2.1.2.2.1
      have p2L := q2.2.1.1
      by_cases hd : c p2 = 46
      · have hp2 : p2 < L := q2.1.p (by omega)
        obtain ⟨m1', rfl⟩ : ∃ m1', m' = m1' + 1 := ⟨m' - 1, by omega⟩
        have hU2 := q2.pl (p' := p2 + 1) (by omega)
        obtain ⟨σC, σD, w1, w2, w3, w4, w5⟩ := ih (p_i σA 1 (nI (p2 + 1))) (p_i σB 3 (nI (p2 + 1))) (p2 + 1) el2 (i + 1) tot2 (by omega) hU2 (fun t ht => Nat.le_trans (q3 t ht) (Nat.mul_le_mul_left _ (by omega))) (by omega) m1 m1' (by omega) (by omega)
        refine ⟨σC, σD, ?_, ?_, z3.tr ((fpK.i _ 1 _ (by decide) (by decide) (by decide)).tr w3), z4.tr ((fpM.i w _ 3 _ (by decide) (by decide) (by decide)).tr w4), ?_⟩
        · rw [k_itr_s (t := ((1 : Int32), nI (i + 1), p_i σA 1 (nI (p2 + 1)))) (by
            show bX3_readFormula_4 N 1 (nI i) σK = _
            rw [eK]
            unfold jX3_readFormula_44_4
            rw [if_pos a9, k_here q2.1 a1 (by omega), bd1_s, if_pos (nlE 46 46 rfl hd)]
            unfold jX3_readFormula_69_4
            rw [if_neg (by decide), k_lt_e, nI_1, a1, nI_1])]
          exact w1
        · rw [z2, bd1_s]
          cases hr : fX6_readPart N (p_i σB 3 (nI (p2 + 1))) with
          | none => rw [hr] at w2; exact absurd w2 (by intro h; cases h)
          | some σ25 =>
            rw [hr, bd1_s] at w2
            rw [k_itr_s (t := σ25) (by
              show bX6_readFormula_155 N σB = _
              unfold bX6_readFormula_155
              rw [if_pos a10, a2, k_charAt q2.1 (by omega), bd1_s, if_pos (nlE 46 46 rfl hd), nI_1, hr, bd1_s])]
            exact w2
        · rcases w5 with ⟨p3, el3, tot3, u1, u2, u3⟩ | u1
          · exact Or.inl ⟨p3, el3, tot3, by omega, u2, u3⟩
          · exact Or.inr u1
      · refine ⟨σA, σB, ?_, ?_, z3, z4, Or.inl ⟨p2, el2, tot2, q1, q2, q3⟩⟩
        · rw [k_itr_s (t := ((0 : Int32), nI (i + 1), σA)) (by
            show bX3_readFormula_4 N 1 (nI i) σK = _
            rw [eK]
            unfold jX3_readFormula_44_4
            rw [if_pos a9, k_here q2.1 a1 (by omega), bd1_s, if_neg (nlN 46 46 rfl (q2.1.b p2) (by omega) hd)]
            unfold jX3_readFormula_67_4 jX3_readFormula_69_4
            rw [if_pos rfl, k_lt_e, nI_1])]
          exact eK0 σA m1 (by omega)
        · rw [z2, bd1_s]
          refine k_itr_1 ?_ m' (by omega)
          show bX6_readFormula_155 N σB = _
          unfold bX6_readFormula_155
          rw [if_pos a10, a2, k_charAt q2.1 (by omega), bd1_s, if_neg (nlN 46 46 rfl (q2.1.b p2) (by omega) hd)]
    · obtain ⟨fa, qa, pa, x1, x2, x3, x4, x5, x6, x7⟩ := hB
      refine ⟨σA, σB, ?_, ?_, z3, z4, Or.inr ⟨fa, qa, pa, x1, x2, x3, x4, x5, x6, x7⟩⟩
      · rw [k_itr_s (t := ((0 : Int32), nI (i + 1), σA)) (by
          show bX3_readFormula_4 N 1 (nI i) σK = _
          rw [eK]
          unfold jX3_readFormula_44_4
          rw [if_neg (by rw [x2]; exact x1)]
          unfold jX3_readFormula_67_4 jX3_readFormula_69_4
          rw [if_pos rfl, k_lt_e, nI_1])]
        exact eK0 σA m1 (by omega)
      · rw [z2, bd1_s]
        refine k_itr_1 ?_ m' (by omega)
        show bX6_readFormula_155 N σB = _
        unfold bX6_readFormula_155
        rw [if_neg (by rw [x4]; exact x1)]
