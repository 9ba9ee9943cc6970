/-! Typing, sums and solutions. -/
theorem k_byK (y : Int64) : y.toInt32 &&& 255 = nI (y.toBitVec.toNat % 256) := by
  rw [pk_and y.toInt32 (m := 255) 8 (by decide)]
  rw [Int64.toBitVec_toInt32, BitVec.signExtend_eq_setWidth_of_le _ (by decide), BitVec.toNat_setWidth]
  exact congrArg nI (by omega)
theorem k_byM (y : Int64) : y &&& 255 = lI ((y.toBitVec.toNat % 256 : Nat) : Int) := by
  rw [← Int64.toBitVec_inj, Int64.toBitVec_and]
  apply BitVec.eq_of_toNat_eq
  rw [BitVec.toNat_and]
  have e : (255 : Int64).toBitVec.toNat = 2 ^ 8 - 1 := by decide
  rw [e, Nat.and_two_pow_sub_one_eq_mod]
  unfold lI
  simp
  omega
/-- the i-th byte -/
def kby (x : Int64) (i : Nat) : Nat := ((x.toUInt64 >>> (((8 : Int32) * nI i).toInt64.toUInt64 &&& Int64.toUInt64 63)).toInt64).toBitVec.toNat % 256
theorem kby_lt (x : Int64) (i : Nat) : kby x i < 256 := Nat.mod_lt _ (by decide)
theorem k_byteOf {N : Nat} {σ : vS} (x : Int64) (i : Nat) : fX5_byteOf N σ x (nI i) = some (nI (kby x i)) := by
  unfold fX5_byteOf
  rw [k_byK]; rfl
theorem k_byteM (x : Int64) (i : Nat) : (x.toUInt64 >>> (((8 : Int32) * nI i).toInt64.toUInt64 &&& Int64.toUInt64 63)).toInt64 &&& (255 : Int64) = lI (kby x i) := k_byM _
theorem k_charsIn {N : Nat} {σ : vS} (hN : 300 < N) (x : Int64) : ∃ n, n ≤ 8 ∧ (∀ i, i < n → kby x i ≠ 0) ∧ (n < 8 → kby x n = 0) ∧ fX5_charactersIn N σ x = some (nI n) := by
  have hk : kok (fX5_charactersIn N σ x) (fun r => ∃ n, n ≤ 8 ∧ (∀ i, i < n → kby x i ≠ 0) ∧ (n < 8 → kby x n = 0) ∧ r = nI n) := by
    unfold fX5_charactersIn
    refine kok_bd1 (P := fun r => ∃ n, n ≤ 8 ∧ (∀ i, i < n → kby x i ≠ 0) ∧ (n < 8 → kby x n = 0) ∧ r = nI n) ?_ (fun r hr => kok_some hr)
    refine kok_for0 (body := fun zz => bX5_charactersIn_2 N σ x zz) 8 (fun i => ∀ i', i' < i → kby x i' ≠ 0) (fun i hi hI => ?_) (fun hI => ?_) N 0 (by omega) (by omega) (fun i' h => by omega)
    · show kok (bX5_charactersIn_2 N σ x (nI i)) _
      unfold bX5_charactersIn_2
      rw [k_byteOf, bd1_s]
      have hb := kby_lt x i
      refine kok_f (show ¬ (8 : Int32) ≤ nI i from nI_ge (b := 8) hi (by omega)) (kok_i (fun h => kok_some ⟨i, by omega, hI, fun _ => ?_, rfl⟩) (fun h => kok_lt (kok_some ⟨nI_1 i, fun i' hi' => ?_⟩)))
      · rcases Nat.eq_zero_or_pos (kby x i) with e | e
        · exact e
        · exact absurd h (nI_ne0 e (by omega))
      · by_cases e : i' = i
        · rw [e]; intro e2; rw [e2] at h; exact h rfl
        · exact hI i' (by omega)
    · show kok (bX5_charactersIn_2 N σ x (nI 8)) _
      unfold bX5_charactersIn_2
      exact kok_t (show (8 : Int32) ≤ nI 8 by decide) (kok_some ⟨8, by omega, hI, fun h => by omega, rfl⟩)
  obtain ⟨r, e1, n, h1, h2, h3, rfl⟩ := hk
  exact ⟨n, h1, h2, h3, e1⟩
theorem k_printK {N b : Nat} {σ : vS} (hb : b < 256) : fX5_isPrintable N σ (nI b) = some (if 32 ≤ b ∧ b ≤ 126 then 1 else 0) := by
  unfold fX5_isPrintable
  by_cases h1 : b < 32
  · rw [if_pos (nlLt 32 32 rfl (by omega) h1), if_neg (by omega)]
  · rw [if_neg (nlNl 32 32 rfl (by omega) (show 32 ≤ b by omega))]
    by_cases h2 : 126 < b
    · rw [if_pos (nlGt 126 126 rfl (by omega) h2), if_neg (by omega)]
    · rw [if_neg (nlNg 126 126 rfl (by omega) (show b ≤ 126 by omega)), if_pos (by omega)]
def kpr (x : Int64) (n : Nat) : Prop := ∀ i, i < n → 32 ≤ kby x i ∧ kby x i ≤ 126
theorem k_typeM1 {N n : Nat} {σ : vS} (hN : 300 < N) (x : Int64) (hn : n ≤ 8) (h1 : ∀ i, i < n → kby x i ≠ 0) (h2 : n < 8 → kby x n = 0) : kok (k_itr (fun zz => bX6_type_8 N σ x zz.1 zz.2.1 zz.2.2) N ((0 : Int32), (1 : Int32), (0 : Int32))) (fun r => r.1 = nI n ∧ ((r.2 = 1 ∧ kpr x n) ∨ (r.2 = 0 ∧ ¬ kpr x n))) := by
  refine kok_itr (fun v s => (∃ i, i ≤ n ∧ v = 20 - i ∧ s.1 = nI i ∧ s.2.2 = nI i ∧ ((s.2.1 = 1 ∧ kpr x i) ∨ (s.2.1 = 0 ∧ ¬ kpr x i))) ∨ (v = 0 ∧ n < 8 ∧ s.1 = nI n ∧ s.2.2 = nI (n + 1) ∧ ((s.2.1 = 1 ∧ kpr x n) ∨ (s.2.1 = 0 ∧ ¬ kpr x n)))) (fun v s hI => ?_) N 20 _ (by omega) (Or.inl ⟨0, Nat.zero_le _, rfl, rfl, rfl, Or.inl ⟨rfl, fun i hi => by omega⟩⟩)
  obtain ⟨a, b, c⟩ := s
  rcases hI with ⟨i, hi, rfl, e1, e2, e3⟩ | ⟨rfl, hn8, e1, e2, e3⟩
  · dsimp only at e1 e2 e3
    subst e1 e2
    show kok (bX6_type_8 N σ x (nI i) b (nI i)) _
    unfold bX6_type_8
    rw [k_byteM]
    by_cases h8 : i = 8
    · have : n = 8 := by omega
      subst this
      subst h8
      exact kok_t (show (8 : Int32) ≤ nI 8 by decide) (kok_some ⟨rfl, e3⟩)
    · refine kok_f (show ¬ (8 : Int32) ≤ nI i from nI_ge (b := 8) (by omega) (by omega)) (kok_t rfl (kok_lt ?_))
      have hb := kby_lt x i
      have z0 : (lg_cmp (lI (kby x i : Int)) 0 = 0) ↔ kby x i = 0 := by rw [lg_cmp_eq, lI_eq0 (by omega)]; omega
      have z1 : (lg_cmp (lI (kby x i : Int)) 32 < 0) ↔ kby x i < 32 := by rw [lg_cmp_lt, show (32 : Int64) = lI 32 from rfl, lI_lt (by omega) (by decide)]; omega
      have z2 : (0 < lg_cmp (lI (kby x i : Int)) 126) ↔ 126 < kby x i := by rw [lg_cmp_gt, show (126 : Int64) = lI 126 from rfl, lI_lt (by decide) (by omega)]; omega
      -- behind the flag
      have e71 : ∀ f : Int32, ((f = 1 ∧ (i < n → kpr x (i + 1)) ∧ (i = n → kpr x n)) ∨ (f = 0 ∧ (i < n → ¬ kpr x (i + 1)) ∧ (i = n → ¬ kpr x n))) → kok (jX6_type_71_8 N σ x (nI i) f (nI i) (lI (kby x i))) (kso (fun s' => ∃ v', v' < 20 - i ∧ ((∃ i, i ≤ n ∧ v' = 20 - i ∧ s'.1 = nI i ∧ s'.2.2 = nI i ∧ ((s'.2.1 = 1 ∧ kpr x i) ∨ (s'.2.1 = 0 ∧ ¬ kpr x i))) ∨ (v' = 0 ∧ n < 8 ∧ s'.1 = nI n ∧ s'.2.2 = nI (n + 1) ∧ ((s'.2.1 = 1 ∧ kpr x n) ∨ (s'.2.1 = 0 ∧ ¬ kpr x n))))) (fun r => r.1 = nI n ∧ ((r.2 = 1 ∧ kpr x n) ∨ (r.2 = 0 ∧ ¬ kpr x n)))) := fun f hf => by
        unfold jX6_type_71_8
        refine kok_i (fun h => kok_lt (kok_some ?_)) (fun h => kok_lt (kok_lt (kok_some ?_)))
        · have hin : i = n := by
            rcases Nat.lt_or_ge i n with h9 | h9
            · exact absurd (z0.mp h) (h1 i h9)
            · omega
          subst hin
          refine ⟨0, by omega, Or.inr ⟨rfl, by omega, rfl, nI_1 _, ?_⟩⟩
          rcases hf with ⟨q1, _, q2⟩ | ⟨q1, _, q2⟩
          · exact Or.inl ⟨q1, q2 rfl⟩
          · exact Or.inr ⟨q1, q2 rfl⟩
        · have hin : i < n := by
            rcases Nat.lt_or_ge i n with h9 | h9
            · exact h9
            · have : i = n := by omega
              subst this
              exact absurd (z0.mpr (h2 (by omega))) h
          refine ⟨20 - (i + 1), by omega, Or.inl ⟨i + 1, by omega, rfl, nI_1 _, nI_1 _, ?_⟩⟩
          rcases hf with ⟨q1, q2, _⟩ | ⟨q1, q2, _⟩
          · exact Or.inl ⟨q1, q2 hin⟩
          · exact Or.inr ⟨q1, q2 hin⟩
      have np : ¬ kpr x i → ¬ kpr x (i + 1) := fun h9 h8 => h9 (fun i' hi' => h8 i' (by omega))
      rcases e3 with ⟨rfl, e4⟩ | ⟨rfl, e4⟩
      · refine kok_f (by decide) (kok_i (fun h => ?_) (fun h => kok_i (fun h5 => ?_) (fun h5 => kok_i (fun h6 => ?_) (fun h6 => ?_))))
        · unfold jX6_type_64_8
          refine e71 1 (Or.inl ⟨rfl, fun h9 => absurd (z0.mp h) (h1 i h9), fun h9 => ?_⟩)
          rw [← h9]; exact e4
        · unfold jX6_type_68_8
          refine e71 0 (Or.inr ⟨rfl, fun _ h9 => ?_, fun h9 => ?_⟩)
          · have := (h9 i (by omega)).1
            have := z1.mp h5
            omega
          · have : n < 8 := by omega
            rw [h9] at z0 h
            exact absurd (z0.mpr (h2 this)) h
        · unfold jX6_type_68_8
          refine e71 0 (Or.inr ⟨rfl, fun _ h9 => ?_, fun h9 => ?_⟩)
          · have := (h9 i (by omega)).2
            have := z2.mp h6
            omega
          · have : n < 8 := by omega
            rw [h9] at z0 h
            exact absurd (z0.mpr (h2 this)) h
        · unfold jX6_type_64_8
          refine e71 1 (Or.inl ⟨rfl, fun _ i' hi' => ?_, fun h9 => ?_⟩)
          · by_cases e : i' = i
            · rw [e]
              rw [z1] at h5
              rw [z2] at h6
              omega
            · exact e4 i' (by omega)
          · rw [← h9]; exact e4
      · refine kok_t rfl ?_
        unfold jX6_type_68_8
        refine e71 0 (Or.inr ⟨rfl, fun _ => np e4, fun h9 => ?_⟩)
        rw [← h9]; exact e4
  · dsimp only at e1 e2 e3
    subst e1 e2
    show kok (bX6_type_8 N σ x (nI n) b (nI (n + 1))) _
    unfold bX6_type_8
    refine kok_i (fun h => kok_some ⟨rfl, e3⟩) (fun h => kok_f (fun e => ?_) (kok_some ⟨rfl, e3⟩))
    rw [nI_eq (by omega) (by omega)] at e
    omega
theorem q_0 {N : Nat} {σK σM : vS} {xs : Nat → Int32} {n : Nat} (hN : 300 < N) (h : kRel σK σM) : st_0 N kRel σK σM xs n := by
  unfold st_0
  generalize ((xs (n + 1)).toInt64 <<< ((32 : Int32).toInt64 &&& 63)) ||| ((xs (n + 2)).toInt64 &&& (4294967295 : Int64)) = x
  obtain ⟨k, hk, h1, h2, eC⟩ := k_charsIn (N := N) (σ := σK) hN x
  obtain ⟨rM, eM, eM1, eM2⟩ := k_typeM1 (N := N) (σ := σM) hN x hk h1 h2
  obtain ⟨⟨L, c, hD⟩, h7, hc⟩ := h
  have hR : kRel σK σM := ⟨⟨L, c, hD⟩, h7, hc⟩
  obtain ⟨d1, d2, d3, d4, d5, d6, d7⟩ := hD
  have hloop : kok (k_itr (fun zz => bX5_type_8 N σK x (nI k) zz) N (0 : Int32)) (fun r => (r = .inl () ∧ kpr x k) ∨ (r = .inr (.inr 0) ∧ ¬ kpr x k)) := by
    refine kok_for0 (body := fun zz => bX5_type_8 N σK x (nI k) zz) k (fun i => kpr x i) (fun i hi hI => ?_) (fun hI => ?_) N 0 (by omega) (Nat.zero_le _) (fun i' h => by omega)
    · show kok (bX5_type_8 N σK x (nI k) (nI i)) _
      unfold bX5_type_8
      rw [k_byteOf, bd1_s, k_printK (kby_lt x i), bd1_s]
      refine kok_f (nI_ge hi (by omega)) ?_
      by_cases hp : 32 ≤ kby x i ∧ kby x i ≤ 126
      · rw [if_pos hp]
        refine kok_f (by decide) (kok_lt (kok_some ⟨nI_1 i, fun i' hi' => ?_⟩))
        by_cases e : i' = i
        · rw [e]; exact hp
        · exact hI i' (by omega)
      · rw [if_neg hp]
        exact kok_t rfl (kok_some (Or.inr ⟨rfl, fun h9 => hp (h9 i hi)⟩))
    · show kok (bX5_type_8 N σK x (nI k) (nI k)) _
      unfold bX5_type_8
      exact kok_t (nI_le (Nat.le_refl _) (by omega)) (kok_some (Or.inl ⟨rfl, hI⟩))
  obtain ⟨rK, eK, hrK⟩ := hloop
  unfold fX5_type fX6_type
  rw [eC, bd1_s, eK, eM, bd1_s, eM1]
  unfold jX6_type_92
  have thr : ∀ v : Int32, v ≠ 0 → jX6_type_121 N (p_i σM 0 v) x (nI k) = some (0, p_i σM 0 v) := fun v hv => by
    unfold jX6_type_121
    rw [if_neg (by rw [pi_at]; exact hv)]
  by_cases hp : kpr x k
  · have rK1 : rK = .inl () := by
      rcases hrK with ⟨e, _⟩ | ⟨_, e⟩
      · exact e
      · exact absurd hp e
    have rM1 : rM.2 = 1 := by
      rcases eM2 with ⟨e, _⟩ | ⟨_, e⟩
      · exact e
      · exact absurd hp e
    rw [rK1, rM1, if_neg (show ¬ (1 : Int32) = 0 by decide), d6, nI_add]
    show (∃ (r : Int32) (σK' : vS) (σM' : vS), jX5_type_40 N σK x (nI k) = _ ∧ _) ∨ (∃ (b : Int32) (σM' : vS), jX5_type_40 N σK x (nI k) = _ ∧ _) ∨ (∃ (b : Int32) (σM' : vS), jX5_type_40 N σK x (nI k) = _ ∧ _)
    unfold jX5_type_40
    rw [d4, nI_add]
    by_cases hl : L + k ≤ 100
    · left
      rw [if_pos (show nI (L + k) ≤ 100 from nI_le (b := 100) hl (by omega)), if_pos (show nI (L + k) ≤ 100 from nI_le (b := 100) hl (by omega))]
      have hA : ∃ σK', k_itr (fun zz => bX5_type_72 N x (nI k) zz.1 zz.2) N ((0 : Int32), σK) = some σK' ∧ σK'.1 = (p_i σK 0 (nI (L + k))).1 ∧ (∀ b, b ≠ 0 → σK'.2.1 b = σK.2.1 b) ∧ σK'.2.2.1 = σK.2.2.1 ∧ σK'.2.2.2 = σK.2.2.2 ∧ (∀ q, q < L → σK'.2.1 0 q = nI (c q)) ∧ ∀ i, i < k → σK'.2.1 0 (L + i) = nI (kby x i) := by
        refine kok_for (body := fun zz => bX5_type_72 N x (nI k) zz.1 zz.2) k (fun i σ' => σ'.1 = (p_i σK 0 (nI (L + i))).1 ∧ (∀ b, b ≠ 0 → σ'.2.1 b = σK.2.1 b) ∧ σ'.2.2.1 = σK.2.2.1 ∧ σ'.2.2.2 = σK.2.2.2 ∧ (∀ q, q < L → σ'.2.1 0 q = nI (c q)) ∧ ∀ i', i' < i → σ'.2.1 0 (L + i') = nI (kby x i')) (fun i σ' hi hI => ?_) (fun σ' hI => ?_) N 0 _ (by omega) (Nat.zero_le _) ⟨by rw [pi_self (σ := σK) (show σK.1 0 = nI (L + 0) from d4)], fun _ _ => rfl, rfl, rfl, d5, fun i' h => by omega⟩
        · obtain ⟨g1, g2, g3, g4, g5, g6⟩ := hI
          have hpi := hp i hi
          show kok (bX5_type_72 N x (nI k) (nI i) σ') _
          unfold bX5_type_72 fX4_add
          rw [k_byteOf, bd1_s, nI_c16 _ (by omega), nr_char _ (by omega), g1, pi_at, nI_1, nI_1]
          refine kok_f (nI_ge hi (by omega)) ?_
          rw [if_neg (show ¬ (100 : Int32) ≤ nI (L + i) from nI_ge (b := 100) (by omega) (by omega)), if_neg (nI_in (by omega) (by omega)), nI_clamp (by omega), bd1_s]
          refine kok_lt (kok_some ⟨_, rfl, ?_, fun b hb => ?_, g3, g4, fun q hq => ?_, fun i' hi' => ?_⟩)
          · show upd σ'.1 0 (nI (L + i + 1)) = upd σK.1 0 (nI (L + (i + 1)))
            rw [g1]
            show upd (upd σK.1 0 (nI (L + i))) 0 (nI (L + i + 1)) = upd σK.1 0 (nI (L + i + 1))
            funext j
            unfold upd
            by_cases hj : j = 0
            · rw [if_pos hj, if_pos hj]
            · rw [if_neg hj, if_neg hj, if_neg hj]
          · funext j
            show (p_a σ' 0 (L + i) (nI (kby x i))).2.1 b j = _
            rw [paA, if_neg hb]; exact congrFun (g2 b hb) j
          · show (p_a σ' 0 (L + i) (nI (kby x i))).2.1 0 q = _
            rw [paA, if_pos rfl, if_neg (by omega)]; exact g5 q hq
          · show (p_a σ' 0 (L + i) (nI (kby x i))).2.1 0 (L + i') = _
            rw [paA, if_pos rfl]
            by_cases e : i' = i
            · rw [if_pos (by omega), e]
            · rw [if_neg (by omega)]; exact g6 i' (by omega)
        · show kok (bX5_type_72 N x (nI k) (nI k) σ') _
          unfold bX5_type_72
          exact kok_t (nI_le (Nat.le_refl _) (by omega)) (kok_some hI)
      have hB : ∃ σM', k_itr (fun zz => bX6_type_133 N x (nI k) zz.1 zz.2) N ((0 : Int32), p_i σM 0 0) = some σM' ∧ σM'.1 = (p_i (p_i σM 0 0) 1 (nI (L + k))).1 ∧ (∀ b, b ≠ 0 → σM'.2.1 b = σM.2.1 b) ∧ σM'.2.2.1 = σM.2.2.1 ∧ σM'.2.2.2 = σM.2.2.2 ∧ (∀ q, q < L → σM'.2.1 0 q = nI (c q)) ∧ ∀ i, i < k → σM'.2.1 0 (L + i) = nI (kby x i) := by
        refine kok_for (body := fun zz => bX6_type_133 N x (nI k) zz.1 zz.2) k (fun i σ' => σ'.1 = (p_i (p_i σM 0 0) 1 (nI (L + i))).1 ∧ (∀ b, b ≠ 0 → σ'.2.1 b = σM.2.1 b) ∧ σ'.2.2.1 = σM.2.2.1 ∧ σ'.2.2.2 = σM.2.2.2 ∧ (∀ q, q < L → σ'.2.1 0 q = nI (c q)) ∧ ∀ i', i' < i → σ'.2.1 0 (L + i') = nI (kby x i')) (fun i σ' hi hI => ?_) (fun σ' hI => ?_) N 0 _ (by omega) (Nat.zero_le _) ⟨by rw [pi_self (σ := p_i σM 0 0) (show (p_i σM 0 0).1 1 = nI (L + 0) from d6)], fun _ _ => rfl, rfl, rfl, d7, fun i' h => by omega⟩
        · obtain ⟨g1, g2, g3, g4, g5, g6⟩ := hI
          have hpi := hp i hi
          show kok (bX6_type_133 N x (nI k) (nI i) σ') _
          unfold bX6_type_133
          rw [k_byteM, lI_32, nI_of_int, nI_c16 _ (by omega), nr_char _ (by omega), g1, pi_at, nI_1, nI_1]
          refine kok_f (nI_ge hi (by omega)) (kok_g (nI_in (by omega) (by omega)) ?_)
          rw [nI_clamp (by omega)]
          refine kok_lt (kok_some ⟨_, rfl, ?_, fun b hb => ?_, g3, g4, fun q hq => ?_, fun i' hi' => ?_⟩)
          · show upd σ'.1 1 (nI (L + i + 1)) = upd (p_i σM 0 0).1 1 (nI (L + (i + 1)))
            rw [g1]
            show upd (upd (p_i σM 0 0).1 1 (nI (L + i))) 1 (nI (L + i + 1)) = upd (p_i σM 0 0).1 1 (nI (L + i + 1))
            funext j
            unfold upd
            by_cases hj : j = 1
            · rw [if_pos hj, if_pos hj]
            · rw [if_neg hj, if_neg hj, if_neg hj]
          · funext j
            show (p_a σ' 0 (L + i) (nI (kby x i))).2.1 b j = _
            rw [paA, if_neg hb]; exact congrFun (g2 b hb) j
          · show (p_a σ' 0 (L + i) (nI (kby x i))).2.1 0 q = _
            rw [paA, if_pos rfl, if_neg (by omega)]; exact g5 q hq
          · show (p_a σ' 0 (L + i) (nI (kby x i))).2.1 0 (L + i') = _
            rw [paA, if_pos rfl]
            by_cases e : i' = i
            · rw [if_pos (by omega), e]
            · rw [if_neg (by omega)]; exact g6 i' (by omega)
        · show kok (bX6_type_133 N x (nI k) (nI k) σ') _
          unfold bX6_type_133
          exact kok_t (nI_le (Nat.le_refl _) (by omega)) (kok_some hI)
      obtain ⟨σA, a1, a2, a3, a4, a5, a6, a7⟩ := hA
      obtain ⟨σB, b1, b2, b3, b4, b5, b6, b7⟩ := hB
      unfold jX6_type_121
      rw [a1, bd1_s, if_pos (show (p_i σM 0 0).1 0 = 0 from pi_at _ _ _), b1, bd1_s]
      unfold jX5_type_96 jX6_type_177
      have iK : ∀ i, i ≠ 0 → σA.1 i = σK.1 i := fun i hi => by rw [a2, piI, if_neg hi]
      have iM : ∀ i, i ≠ 0 → i ≠ 1 → σB.1 i = σM.1 i := fun i hi hj => by rw [b2, piI, if_neg hj, piI, if_neg hi]
      have lK : σA.1 0 = nI (L + k) := by rw [a2, pi_at]
      have lM : σB.1 1 = nI (L + k) := by rw [b2, pi_at]
      rw [lK, lM]
      refine ⟨_, _, _, rfl, rfl, by rw [b2]; rfl, ⟨⟨L + k, fun q => if q < L then c q else if q < L + k then kby x (q - L) else 0, hl, fun q hq => ?_, fun q hq => ?_, lK, fun q hq => ?_, lM, fun q hq => ?_⟩, ?_, ?_⟩⟩
      · dsimp only
        by_cases e : q < L
        · rw [if_pos e]; exact d2 q e
        · rw [if_neg e, if_pos hq]; exact hp (q - L) (by omega)
      · dsimp only
        rw [if_neg (by omega), if_neg (by omega)]
      · dsimp only
        by_cases e : q < L
        · rw [if_pos e]; exact a6 q e
        · rw [if_neg e, if_pos hq]
          have := a7 (q - L) (by omega)
          rw [show L + (q - L) = q by omega] at this
          exact this
      · dsimp only
        by_cases e : q < L
        · rw [if_pos e]; exact b6 q e
        · rw [if_neg e, if_pos hq]
          have := b7 (q - L) (by omega)
          rw [show L + (q - L) = q by omega] at this
          exact this
      · rw [iK 7 (by decide), iM 6 (by decide) (by decide)]; exact h7
      · rw [iM 7 (by decide) (by decide)]
        rcases hc with ⟨c1, c2, c3, c4, c5, c6⟩ | ⟨c1, w, rc, el, ch, Am, c2, c3, c4, c5, c6, c7, c8⟩
        · exact Or.inl ⟨c1, (iK 2 (by decide)).trans c2, (iK 4 (by decide)).trans c3, (iK 5 (by decide)).trans c4, (iK 10 (by decide)).trans c5, (iK 11 (by decide)).trans c6⟩
        · refine Or.inr ⟨c1, w, rc, el, ch, Am, c2, c3.f2 (fun i g1 g2 => iK i (by omega)) (fun b hb => a3 b (by omega)), c4.f2 (fun i g1 g2 => iM i (by omega) (by omega)) (b3 4 (by decide)) (by rw [b5]) (by rw [b5]), fun i hi => ?_, c6.f2 (iK 10 (by decide)) (iK 11 (by decide)) (a3 6 (by decide)) a5, c7.f2 (iM 13 (by decide) (by decide)) (b3 8 (by decide)) (by rw [b5]), fun hv => ?_⟩
          · rw [a3 1 (by decide), b3 5 (by decide)]; exact c5 i hi
          · obtain ⟨m, m1, m2, m3, m4⟩ := c8 hv
            exact ⟨m, m1, (iK 15 (by decide)).trans m2, (iM 14 (by decide) (by decide)).trans m3, fun i hi => by rw [a3 8 (by decide), b3 10 (by decide)]; exact m4 i hi⟩
    · right; right
      rw [if_neg (show ¬ nI (L + k) ≤ 100 from nI_ge (a := 100) (by omega) (by omega)), if_neg (show ¬ nI (L + k) ≤ 100 from nI_ge (a := 100) (by omega) (by omega)), thr 2 (by decide)]
      exact ⟨_, _, rfl, rfl, pi_at _ _ _, hR.t 2⟩
  · have rK1 : rK = .inr (.inr 0) := by
      rcases hrK with ⟨_, e⟩ | ⟨e, _⟩
      · exact absurd e hp
      · exact e
    have rM1 : rM.2 = 0 := by
      rcases eM2 with ⟨_, e⟩ | ⟨e, _⟩
      · exact absurd e hp
      · exact e
    right; left
    rw [rK1, rM1, if_pos rfl, thr 1 (by decide)]
    exact ⟨_, _, rfl, rfl, pi_at _ _ _, hR.t 1⟩
