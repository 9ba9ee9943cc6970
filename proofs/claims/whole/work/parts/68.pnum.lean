/-! Numbers. -/
def kdg (a : Nat) : Prop := 48 ≤ a ∧ a ≤ 57
def kdv (c : Nat → Nat) (p : Nat) : Nat → Int32
  | 0 => 0
  | n + 1 => 10 * kdv c p n + (nI (c (p + n)) - 48)
theorem nI_L {n : Nat} (h : n < 2 ^ 31) : (nI n).toInt64 = lI n := by rw [lI_i, nI_toInt h]
theorem kdv_1 {c : Nat → Nat} {p : Nat} (h : kdg (c p)) : kdv c p 1 = nI (c p - 48) := by
  show (10 : Int32) * 0 + (nI (c p) - 48) = _
  rw [show (48 : Int32) = nI 48 from rfl, pk_sub h.1, show (10 : Int32) * 0 = nI 0 from rfl, nI_add, Nat.zero_add]
theorem kdv_2 {c : Nat → Nat} {p : Nat} (h : kdg (c p)) (h2 : kdg (c (p + 1))) : kdv c p 2 = nI (10 * (c p - 48) + (c (p + 1) - 48)) := by
  show (10 : Int32) * kdv c p 1 + (nI (c (p + 1)) - 48) = _
  rw [kdv_1 h, show (48 : Int32) = nI 48 from rfl, pk_sub h2.1, show (10 : Int32) = nI 10 from rfl, pk_mul, nI_add]
theorem k_failY {N : Nat} {σ : vS} {f q : Int32} (h : σ.1 4 = 0) : fX6_failIf N σ 1 f q = some (p_i (p_i σ 4 f) 5 q) := by
  unfold fX6_failIf fX6_fail
  rw [if_neg (by decide), if_pos h]; rfl
theorem k_failN {N : Nat} {σ : vS} {f q : Int32} : fX6_failIf N σ 0 f q = some σ := by
  unfold fX6_failIf
  rw [if_pos rfl]
theorem k_failX {N : Nat} {σ : vS} {v f q : Int32} (h : σ.1 4 ≠ 0) : fX6_failIf N σ v f q = some σ := by
  unfold fX6_failIf fX6_fail
  by_cases hv : v = 0
  · rw [if_pos hv]
  · rw [if_neg hv, if_neg h]; rfl
theorem k_num {N : Nat} {σK σM : vS} {L p : Nat} {c : Nat → Nat} (hN : 300 < N) (h : kTx σK σM L c) (hpL : p ≤ L) (hK : σK.1 1 = nI p) (hM : σM.1 3 = nI p) (hf : σM.1 4 = 0) : ∃ e, p ≤ e ∧ e ≤ L ∧ ((∃ v, v ≤ 99 ∧ fX3_readNumber N σK = some (nI v, p_i σK 1 (nI e)) ∧ fX6_number0 N σM = some (lI v, p_i σM 3 (nI e))) ∨ ∃ r r', fX3_readNumber N σK = some (r, p_i (p_i (p_i σK 1 (nI e)) 6 (-3)) 7 (nI p)) ∧ fX6_number0 N σM = some (r', p_i (p_i (p_i σM 3 (nI e)) 4 (-3)) 5 (nI p))) := by
  have hL := h.1
  have main : ∀ z : Int32, ∃ r r', k_itr (fun zz => bX3_readNumber_31 N (nI p) z zz.1 zz.2.1 zz.2.2) N ((0 : Int32), (0 : Int32), σK) = some r ∧ k_itr (fun zz => bX6_number0_5 N (nI p) zz) N σM = some r' ∧ ∃ e, p ≤ e ∧ e ≤ L ∧ (∀ q, p ≤ q → q < e → kdg (c q)) ∧ ¬ kdg (c e) ∧ r = (kdv c p (e - p), p_i σK 1 (nI e)) ∧ r' = p_i σM 3 (nI e) := fun z => by
    refine kk_itr (fun v s s' => ∃ e, p ≤ e ∧ e ≤ L ∧ v = L - e ∧ (∀ q, p ≤ q → q < e → kdg (c q)) ∧ s = (kdv c p (e - p), nI (e - p), p_i σK 1 (nI e)) ∧ s' = p_i σM 3 (nI e)) _ (fun v s s' hI => ?_) N N (L - p) _ _ (by omega) (by omega) ⟨p, Nat.le_refl _, hpL, rfl, fun q h1 h2 => by omega, ?_, (pi_self hM).symm⟩
    · obtain ⟨e, h1, h2, rfl, h3, rfl, rfl⟩ := hI
      have hT : kTx (p_i σK 1 (nI e)) (p_i σM 3 (nI e)) L c := h.fr rfl rfl rfl rfl
      have hca := k_charAt (N := N) (p := e) hT (by omega)
      have hhe := k_here (N := N) (p := e) hT (pi_at _ _ _) (by omega)
      have hd1 := (k_dig (c e) (h.b e) N (p_i σK 1 (nI e))).1
      have hd2 := (k_dig (c e) (h.b e) N (p_i σM 3 (nI e))).2
      by_cases hb : kdg (c e)
      · have heL : e < L := h.p (by have := hb.1; omega)
        left
        refine ⟨(kdv c p (e + 1 - p), nI (e + 1 - p), p_i σK 1 (nI (e + 1))), p_i σM 3 (nI (e + 1)), L - (e + 1), ?_, ?_, by omega, e + 1, by omega, by omega, rfl, fun q g1 g2 => ?_, rfl, rfl⟩
        · show bX3_readNumber_31 N (nI p) z (kdv c p (e - p)) (nI (e - p)) (p_i σK 1 (nI e)) = _
          unfold bX3_readNumber_31
          rw [if_neg (show ¬ (100 : Int32) ≤ nI (e - p) from nI_ge (b := 100) (by omega) (by omega)), hhe, bd1_s, hd1, bd1_s, if_pos (show 48 ≤ c e ∧ c e ≤ 57 from hb), if_neg (by decide), bd1_s, k_lt_e, k_lt_e, pi_at, pi_pi, nI_1, nI_1]
          rw [show e + 1 - p = (e - p) + 1 by omega]
          show _ = some (Sum.inl ((10 : Int32) * kdv c p (e - p) + (nI (c (p + (e - p))) - 48), _, _))
          rw [show p + (e - p) = e by omega]
        · show bX6_number0_5 N (nI p) (p_i σM 3 (nI e)) = _
          unfold bX6_number0_5
          rw [pi_at, hca, bd1_s, hd2, bd1_s, if_pos (show 48 ≤ c e ∧ c e ≤ 57 from hb), if_neg (by decide), pi_pi, nI_1]
        · by_cases e9 : q = e
          · rw [e9]; exact hb
          · exact h3 q g1 (by omega)
      · right
        refine ⟨(kdv c p (e - p), p_i σK 1 (nI e)), p_i σM 3 (nI e), ?_, fun n hn => k_itr_1 ?_ n (by omega), e, h1, h2, h3, hb, rfl, rfl⟩
        · show bX3_readNumber_31 N (nI p) z (kdv c p (e - p)) (nI (e - p)) (p_i σK 1 (nI e)) = _
          unfold bX3_readNumber_31
          by_cases h9 : 100 ≤ e - p
          · rw [if_pos (show (100 : Int32) ≤ nI (e - p) from nI_le (a := 100) h9 (by omega))]
          · rw [if_neg (show ¬ (100 : Int32) ≤ nI (e - p) from nI_ge (b := 100) (by omega) (by omega)), hhe, bd1_s, hd1, bd1_s, if_neg (show ¬ (48 ≤ c e ∧ c e ≤ 57) from hb), if_pos rfl]
        · show bX6_number0_5 N (nI p) (p_i σM 3 (nI e)) = _
          unfold bX6_number0_5
          rw [pi_at, hca, bd1_s, hd2, bd1_s, if_neg (show ¬ (48 ≤ c e ∧ c e ≤ 57) from hb), if_pos rfl]
    · rw [Nat.sub_self, pi_self hK]; rfl
  have hhe := k_here (N := N) (p := p) h hK (by omega)
  by_cases h0 : c p = 48
  · obtain ⟨r, r', e1, e2, e, g1, g2, g3, g4, rfl, rfl⟩ := main 1
    have hpe : p < e := by
      rcases Nat.lt_or_ge p e with h9 | h9
      · exact h9
      · exfalso
        apply g4
        rw [show e = p by omega, h0]
        exact ⟨by omega, by omega⟩
    refine ⟨e, g1, g2, Or.inr ?_⟩
    refine ⟨if nI (e - p) = 0 then 1 else kdv c p (e - p), ?_⟩
    have hKe : fX3_readNumber N σK = some (if nI (e - p) = 0 then 1 else kdv c p (e - p), p_i (p_i (p_i σK 1 (nI e)) 6 (-3)) 7 (nI p)) := by
      unfold fX3_readNumber
      rw [hK, k_lt_e, hhe, bd1_s, if_pos (nlE 48 48 rfl h0)]
      unfold jX3_readNumber_26
      rw [e1, bd1_s]
      show jX3_readNumber_86 N (p_i σK 1 (nI e)) (nI p) 1 (kdv c p (e - p)) = _
      unfold jX3_readNumber_86
      rw [pi_at, k_lt_e, pk_sub g1, if_neg (by decide)]
      unfold jX3_readNumber_107 fX3_meet
      rw [bd1_s]
      split <;> rfl
    have hfi : (p_i σM 3 (nI e)).1 4 = 0 := hf
    have h71 : ∀ σ : vS, σ.2.1 1 = σM.2.1 1 → ∃ r', jX6_number0_71 N σ (nI p) (nI (e - p)) = some (r', σ) := fun σ hσ => by
      unfold jX6_number0_71
      by_cases q1 : e - p = 1
      · rw [if_pos (show nI (e - p) = 1 by rw [q1]; rfl), if_neg (nI_in (by omega) (by omega))]
        exact ⟨_, rfl⟩
      · rw [if_neg (nlN 1 1 rfl (by omega) (by omega) q1)]
        by_cases q2 : e - p = 2
        · rw [if_pos (show nI (e - p) = 2 by rw [q2]; rfl), if_neg (nI_in (by omega) (by omega)), nI_1, if_neg (nI_in (by omega) (by omega))]
          exact ⟨_, rfl⟩
        · rw [if_neg (nlN 2 2 rfl (by omega) (by omega) q2)]
          exact ⟨_, rfl⟩
    obtain ⟨r', hr'⟩ := h71 (p_i (p_i (p_i σM 3 (nI e)) 4 (-3)) 5 (nI p)) rfl
    refine ⟨r', hKe, ?_⟩
    unfold fX6_number0
    rw [hM, k_lt_e, e2, bd1_s]
    unfold jX6_number0_32
    rw [pi_at, k_lt_e, pk_sub g1]
    by_cases q2 : 2 < e - p
    · rw [if_pos (nlGt 2 2 rfl (by omega) q2), k_failY hfi, bd1_s]
      exact hr'
    · rw [if_neg (nlNg 2 2 rfl (by omega) (show e - p ≤ 2 by omega)), if_neg (nI_nle (by omega) (by omega)), if_neg (nI_in (by omega) (by omega)), nI_clamp (by omega)]
      rw [show (p_i σM 3 (nI e)).2.1 1 p = nI (c p) from h.2.2.2.2.2.2 p (by omega), if_pos (nlE 48 48 rfl h0), k_failY hfi, bd1_s]
      exact hr'
  · obtain ⟨r, r', e1, e2, e, g1, g2, g3, g4, rfl, rfl⟩ := main 0
    refine ⟨e, g1, g2, ?_⟩
    have hfi : (p_i σM 3 (nI e)).1 4 = 0 := hf
    have hK0 : fX3_readNumber N σK = jX3_readNumber_86 N (p_i σK 1 (nI e)) (nI p) 0 (kdv c p (e - p)) := by
      unfold fX3_readNumber
      rw [hK, k_lt_e, hhe, bd1_s, if_neg (nlN 48 48 rfl (h.b p) (by omega) h0)]
      unfold jX3_readNumber_26
      rw [e1, bd1_s]
    have hM0 : fX6_number0 N σM = jX6_number0_32 N (p_i σM 3 (nI e)) (nI p) := by
      unfold fX6_number0
      rw [hM, k_lt_e, e2, bd1_s]
    rw [hK0, hM0]
    unfold jX3_readNumber_86 jX6_number0_32
    rw [pi_at, pi_at, k_lt_e, k_lt_e, pk_sub g1, if_pos rfl]
    by_cases q2 : 2 < e - p
    · right
      rw [if_neg (show ¬ nI (e - p) ≤ 2 from nI_ge (a := 2) q2 (by omega)), if_pos (nlGt 2 2 rfl (by omega) q2), k_failY hfi, bd1_s]
      refine ⟨kdv c p (e - p), 1, ?_, ?_⟩
      · unfold jX3_readNumber_107 fX3_meet
        rw [bd1_s, if_neg (nI_ne0 (by omega) (by omega))]
      · unfold jX6_number0_71
        rw [if_neg (nlN 1 1 rfl (by omega) (by omega) (show e - p ≠ 1 by omega)), if_neg (nlN 2 2 rfl (by omega) (by omega) (show e - p ≠ 2 by omega))]
    · left
      rw [if_pos (show nI (e - p) ≤ 2 from nI_le (b := 2) (by omega) (by omega)), if_neg (nlNg 2 2 rfl (by omega) (show e - p ≤ 2 by omega))]
      by_cases q0 : e - p = 0
      · refine ⟨1, by omega, ?_, ?_⟩
        · rw [q0]; rfl
        · rw [q0, if_pos (by decide), k_failN, bd1_s]
          unfold jX6_number0_71
          rw [if_neg (by decide), if_neg (by decide)]; rfl
      · rw [if_neg (nI_ne0 (by omega) (by omega)), if_neg (nI_nle (by omega) (by omega)), if_neg (nI_in (by omega) (by omega)), nI_clamp (by omega)]
        have t0 : (p_i σM 3 (nI e)).2.1 1 p = nI (c p) := h.2.2.2.2.2.2 p (by omega)
        have d0 := g3 p (Nat.le_refl _) (by omega)
        have d0' := d0.1
        have d0'' := d0.2
        rw [t0, if_neg (nlN 48 48 rfl (h.b p) (by omega) h0), k_failN, bd1_s]
        unfold jX6_number0_71
        rw [if_neg (nI_in (by omega) (by omega)), nI_clamp (by omega), t0]
        by_cases q1 : e - p = 1
        · refine ⟨c p - 48, by omega, ?_, ?_⟩
          · rw [q1, kdv_1 d0]
          · rw [q1, if_pos (show nI 1 = 1 from rfl), show (48 : Int32) = nI 48 from rfl, pk_sub d0.1, nI_L (by omega)]
        · have q2' : e - p = 2 := by omega
          have d1 := g3 (p + 1) (by omega) (by omega)
          have d1' := d1.1
          have d1'' := d1.2
          have t1 : (p_i σM 3 (nI e)).2.1 1 (p + 1) = nI (c (p + 1)) := h.2.2.2.2.2.2 (p + 1) (by omega)
          refine ⟨10 * (c p - 48) + (c (p + 1) - 48), by omega, ?_, ?_⟩
          · rw [q2', kdv_2 d0 d1]
          · rw [q2', if_neg (show ¬ nI 2 = 1 by decide), if_pos (show nI 2 = 2 from rfl), nI_1, if_neg (nI_in (by omega) (by omega)), nI_clamp (by omega), t1, show (48 : Int32) = nI 48 from rfl, pk_sub d0.1, show (10 : Int32) = nI 10 from rfl, pk_mul, nI_add, pk_sub (by omega), nI_L (by omega)]
            rw [show 10 * (c p - 48) + c (p + 1) - 48 = 10 * (c p - 48) + (c (p + 1) - 48) by omega, if_neg (nI_g (by omega) (by omega))]
