/-! The program's solve, whole. -/
def kpos (a : Nat → Nat → Int) (w : Nat) : Prop := ∀ i, i < w → 0 < kbr a 0 i
noncomputable def kvd (a : Nat → Nat → Int) (w : Nat) : Int32 := if kcn a w = 0 then 1 else if kcn a w ≤ 1 then (@ite _ (kpos a w) (Classical.propDecidable _) 0 2) else 3
def kSol (σ : vS) (w : Nat) (a : Nat → Nat → Int) : Prop := σ.1 10 = nI (kcn a w) ∧ σ.1 11 = kvd a w ∧ (∀ j, j < w → (σ.2.1 6 j = 0 ∨ σ.2.1 6 j = 1) ∧ (σ.2.1 6 j = 0 ↔ kl a j)) ∧ ∀ m, m < kcn a w → ∀ j, j < w → σ.2.2.2 (5 + m) j = lI (kbr a m j) ∧ (kbr a m j).natAbs ≤ 12288000000
theorem k_judge {N w : Nat} {σ : vS} {a : Nat → Nat → Int} (hN : 300 < N) (hw : w ≤ 6) (h10 : σ.1 10 = nI (kcn a w)) (h14 : σ.1 14 = nI w) (hB : ∀ m, m < kcn a w → ∀ j, j < w → σ.2.2.2 (5 + m) j = lI (kbr a m j) ∧ (kbr a m j).natAbs ≤ 12288000000) : kok (fX0_judge N σ) (fun r => r = kvd a w) := by
  have hc := kcn_b a w
  unfold fX0_judge kvd
  rw [h10]
  by_cases h0 : kcn a w = 0
  · rw [if_pos h0]
    exact kok_t (by rw [h0]; rfl) (kok_some rfl)
  · rw [if_neg h0]
    refine kok_f (nI_ne0 (by omega) (by omega)) ?_
    by_cases h1 : kcn a w ≤ 1
    · rw [if_pos h1]
      refine kok_t (nI_le (b := 1) h1 (by decide)) (kok_bds ?_)
      have hB0 : ∀ j, j < w → σ.2.2.2 5 j = lI (kbr a 0 j) ∧ (kbr a 0 j).natAbs ≤ 12288000000 := fun j hj => hB 0 (by omega) j hj
      refine kok_for0 (body := fun zz => bX0_judge_21 N σ zz) w (fun i => ∀ j, j < i → 0 < kbr a 0 j) (fun i hi hI => ?_) (fun hI => ?_) N 0 (by omega) (Nat.zero_le _) (fun j hj => by omega)
      · show kok (bX0_judge_21 N σ (nI i)) _
        unfold bX0_judge_21
        rw [h14]
        refine kok_f (nI_ge hi (by omega)) (kok_g (nI_in (by omega) (by omega)) ?_)
        rw [nI_clamp (by omega), (hB0 i hi).1]
        have hb := (hB0 i hi).2
        have hiff : (0 < lg_cmp (lI (kbr a 0 i)) 0) ↔ 0 < kbr a 0 i := (lg_cmp_gt _ _).trans (lI_lt (a := 0) (by decide) (by omega))
        refine kok_i (fun h => kok_lt (kok_some ⟨nI_1 i, fun j hj => ?_⟩)) (fun h => kok_some ?_)
        · by_cases e : j = i
          · rw [e]; exact hiff.mp h
          · exact hI j (by omega)
        · show (2 : Int32) = _
          rw [if_neg (fun hp : kpos a w => h (hiff.mpr (hp i hi)))]
      · show kok (bX0_judge_21 N σ (nI w)) _
        unfold bX0_judge_21
        rw [h14]
        refine kok_t (nI_le (Nat.le_refl _) (by omega)) (kok_some (kok_some ?_))
        rw [if_pos (show kpos a w from hI)]
    · rw [if_neg h1]
      exact kok_f (nI_ge (a := 1) (by omega) (by omega)) (kok_some rfl)
theorem k_solve {N : Nat} {σ : vS} {w rc el ch : Nat} {Am : Nat → Nat → Int} (hN : 300 < N) (h : kEq σ w rc el ch Am) : kok (fX0_solve N σ) (fun σ' => kSol σ' w (kco w rc (el + ch) Am) ∧ kfrS σ σ') := by
  have hw := h.2.2.2.2.1
  have hel := h.2.2.2.2.2.2.2.1
  have ha : kx_in (el + ch) (kco w rc (el + ch) Am) := kco_in h.2.2.2.2.2.2.2.2.2.2
  generalize hae : kco w rc (el + ch) Am = a at ha
  unfold fX0_solve
  refine kok_bd1 (k_takeRows hN h) (fun σ1 h1 => ?_)
  obtain ⟨e13, e14, eR, eF⟩ := h1
  rw [hae] at eR
  refine kok_bd1 (k_reduce_c (by omega) hel hw ha e13 e14 eR) (fun σ2 h2 => ?_)
  obtain ⟨k, le, B, s, p, R, hS, hl, hT, h7, h6, hF⟩ := h2
  have hkh := hS.1
  refine kok_bd1 (P := fun σ' => σ'.1 14 = nI w ∧ σ'.1 10 = nI (kcn a w) ∧ σ'.2.1 = σ2.2.1 ∧ (∀ m, m < kcn a w → ∀ j, j < w → σ'.2.2.2 (5 + m) j = lI (kbr a m j) ∧ (kbr a m j).natAbs ≤ 12288000000) ∧ kfrS σ σ') ?_ (fun σ' h' => ?_)
  · refine kok_for (body := fun zz => bX0_solve_16 N zz.1 zz.2) w (fun i σ' => kT (el + ch) w σ' k p R ∧ σ'.1 10 = nI (kcn a i) ∧ σ'.2.1 = σ2.2.1 ∧ (∀ m, m < kcn a i → ∀ j, j < w → σ'.2.2.2 (5 + m) j = lI (kbr a m j) ∧ (kbr a m j).natAbs ≤ 12288000000) ∧ kfrS σ σ') (fun i σ' hi hI => ?_) (fun σ' hI => ?_) N 0 _ (by omega) (Nat.zero_le _) ⟨⟨?_, ?_, ?_, hT.2.2.2.1, hT.2.2.2.2⟩, ?_, rfl, fun m hm => absurd hm (Nat.not_lt_zero _), (eF.tr hF).tr ⟨fun i hi => ?_, fun _ _ _ => rfl⟩⟩
    · obtain ⟨f1, f2, f3, f4, f5⟩ := hI
      show kok (bX0_solve_16 N (nI i) σ') _
      unfold bX0_solve_16
      rw [f1.2.2.1]
      refine kok_f (nI_ge hi (by omega)) (kok_g (nI_in (by omega) (by omega)) ?_)
      rw [nI_clamp (by omega), f3]
      refine kok_i (fun h0 => kok_lt (kok_some ⟨_, Prod.ext (nI_1 _) rfl, f1, ?_, f3, ?_, f5⟩)) (fun h0 => ?_)
      · rw [kcn_l ((h6 i hi).2.mp h0)]; exact f2
      · rw [kcn_l ((h6 i hi).2.mp h0)]; exact f4
      · have hnl : ¬ kl a i := fun h9 => h0 ((h6 i hi).2.mpr h9)
        have hcb := kcn_b a i
        rw [f2]
        refine kok_g (nI_in (by omega) (by omega)) ?_
        rw [nI_clamp (by omega)]
        refine kok_bd1 (k_makeBase hN hw ha hS hl f1 (fun m hm => by rw [f3]; exact h7 m hm) hi hnl (by omega) (by omega)) (fun σ3 h3 => ?_)
        obtain ⟨⟨x, hx, hxB, hxb⟩, g1, g2, g3, g4⟩ := h3
        refine kok_lt (kok_some ⟨_, Prod.ext (nI_1 _) rfl, ⟨?_, ?_, ?_, ?_, fun i' hi' j hj => ?_⟩, ?_, ?_, fun m hm j hj => ?_, f5.tr ⟨fun i' hi' => ?_, fun b hb6 hb7 => ?_⟩⟩)
        · rw [piI, if_neg (by decide), g1]; exact f1.1
        · rw [piI, if_neg (by decide), g1]; exact f1.2.1
        · rw [piI, if_neg (by decide), g1]; exact f1.2.2.1
        · show σ3.2.2.1 0 = lI p
          rw [g3]; exact f1.2.2.2.1
        · show σ3.2.2.2 (11 + i') j = _
          rw [g4 (11 + i') (by omega)]; exact f1.2.2.2.2 i' hi' j hj
        · rw [piI, if_pos rfl, g1, f2, kcn_f hnl]; exact nI_1 _
        · show σ3.2.1 = _
          rw [g2]; exact f3
        · show σ3.2.2.2 (5 + m) j = _ ∧ _
          rw [kcn_f hnl] at hm
          by_cases e : m = kcn a i
          · subst e
            rw [hxB j hj, kbr_eq hnl, kbv_eq hx j (by omega)]
            exact ⟨rfl, hxb j (by omega)⟩
          · rw [g4 (5 + m) (by omega)]
            exact f4 m (by omega) j hj
        · rw [piI, if_neg (by omega), g1]
        · show σ3.2.1 b = _
          rw [g2]
    · obtain ⟨f1, f2, f3, f4, f5⟩ := hI
      show kok (bX0_solve_16 N (nI w) σ') _
      unfold bX0_solve_16
      rw [f1.2.2.1]
      exact kok_t (nI_le (Nat.le_refl _) (by omega)) (kok_some ⟨f1.2.2.1, f2, f3, f4, f5⟩)
    · rw [piI, if_neg (by decide)]; exact hT.1
    · rw [piI, if_neg (by decide)]; exact hT.2.1
    · rw [piI, if_neg (by decide)]; exact hT.2.2.1
    · rw [piI, if_pos rfl]; rfl
    · rw [piI, if_neg (by omega)]
  · obtain ⟨f1, f2, f3, f4, f5⟩ := h'
    unfold jX0_solve_63
    refine kok_bd1 (k_judge hN hw f2 f1 f4) (fun r hr => kok_some ⟨⟨?_, ?_, fun j hj => ?_, f4⟩, f5.tr ⟨fun i hi => ?_, fun _ _ _ => rfl⟩⟩)
    · rw [piI, if_neg (by decide)]; exact f2
    · rw [piI, if_pos rfl]; exact hr
    · show (σ'.2.1 6 j = 0 ∨ σ'.2.1 6 j = 1) ∧ _
      rw [show (p_i σ' 11 r).2.1 = σ2.2.1 from f3, f3]
      exact h6 j hj
    · rw [piI, if_neg (by omega)]
