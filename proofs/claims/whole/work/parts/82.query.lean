/-! The questions. -/
def kTh (σK σM : vS) : Prop := σM.1 7 = 0 ∧ σK.1 2 = 0 ∧ σK.1 4 = 0 ∧ σK.1 5 = 0 ∧ σK.1 10 = 0 ∧ σK.1 11 = -1
def kHr (σK σM : vS) (w rc el ch : Nat) (Am : Nat → Nat → Int) : Prop := σM.1 7 = 1 ∧ 0 < w ∧ kEq σK w rc el ch Am ∧ kEM σM w rc el ch Am ∧ (∀ i, i < el → σK.2.1 1 i = σM.2.1 5 i) ∧ kSol σK w (kco w rc (el + ch) Am) ∧ kSM σM w (kco w rc (el + ch) Am) ∧ (kvd (kco w rc (el + ch) Am) w = 0 → ∃ n, n ≤ 200 ∧ kLn σK σM n)
theorem kRel.c {σK σM : vS} (h : kRel σK σM) : kTh σK σM ∨ ∃ w rc el ch Am, kHr σK σM w rc el ch Am := by
  rcases h.2.2 with h | ⟨h1, w, rc, el, ch, Am, h2⟩
  · exact Or.inl h
  · exact Or.inr ⟨w, rc, el, ch, Am, h1, h2⟩
theorem k_ge0 (x : Int32) : ¬ x < 0 → (0 : Int32) ≤ x := fun h => by
  rw [Int32.lt_iff_toInt_lt] at h
  rw [Int32.le_iff_toInt_le]
  omega
theorem k_bal {N : Nat} {σK σM : vS} {w rc el ch : Nat} {Am : Nat → Nat → Int} (hN : 300 < N) (h : kHr σK σM w rc el ch Am) (v : Int32) : kok (fX6_isBalanced N (p_i σM 0 v)) (fun r => (r = 1 ∧ kvd (kco w rc (el + ch) Am) w = 0) ∨ (r = 0 ∧ kvd (kco w rc (el + ch) Am) w ≠ 0)) := by
  obtain ⟨h1, h2, h3, h4, h5, h6, h7, h8⟩ := h
  exact k_isBal hN h3.2.2.2.2.1 h1 h4.1 h7.1 h7.2.2 (fun m hm j hj => (h6.2.2.2 m hm j hj).2)
theorem k_bal' {N : Nat} {σK σM : vS} {w rc el ch : Nat} {Am : Nat → Nat → Int} (hN : 300 < N) (h : kHr σK σM w rc el ch Am) : kok (fX6_isBalanced N σM) (fun r => (r = 1 ∧ kvd (kco w rc (el + ch) Am) w = 0) ∨ (r = 0 ∧ kvd (kco w rc (el + ch) Am) w ≠ 0)) := by
  obtain ⟨h1, h2, h3, h4, h5, h6, h7, h8⟩ := h
  exact k_isBal hN h3.2.2.2.2.1 h1 h4.1 h7.1 h7.2.2 (fun m hm j hj => (h6.2.2.2 m hm j hj).2)
theorem k_bal0 {N : Nat} {σ : vS} (hN : 300 < N) (h : σ.1 7 = 0) : fX6_isBalanced N σ = some 0 := by
  unfold fX6_isBalanced jX6_isBalanced_19 jX6_isBalanced_21
  rw [if_pos h, k_itr_1 (body := fun zz => bX6_isBalanced_23 N σ zz.1 zz.2) (s := ((0 : Int32), (0 : Int32))) (r := 0) (by
      show bX6_isBalanced_23 N σ 0 0 = _
      unfold bX6_isBalanced_23
      by_cases h9 : σ.1 8 ≤ 0
      · rw [if_pos h9]
      · rw [if_neg h9, if_pos rfl]) N (by omega), bd1_s]
  unfold jX6_isBalanced_58
  rw [if_neg (by decide)]
/-- formulas and kinds that there are -/
theorem k_cf0 {N : Nat} {σK σM : vS} (h : kTh σK σM) (x : Int32) : fX1_containsFormula N σK x = some 0 ∧ fX6_isFormula N σM x = some 0 := by
  obtain ⟨h1, h2, h3, h4, h5, h6⟩ := h
  unfold fX1_containsFormula fX6_isFormula
  rw [if_pos h1, h2]
  refine ⟨?_, rfl⟩
  by_cases hx : x < 0
  · rw [if_pos hx]
  · rw [if_neg hx, if_pos (k_ge0 x hx)]
theorem k_ck0 {N : Nat} {σK σM : vS} (h : kTh σK σM) (x : Int32) : fX1_containsKind N σK x = some 0 ∧ fX6_isKind N σM x = some 0 := by
  obtain ⟨h1, h2, h3, h4, h5, h6⟩ := h
  unfold fX1_containsKind fX6_isKind fX1_kindCount
  rw [if_pos h1, h4, if_pos rfl, h3, bd1_s]
  refine ⟨?_, rfl⟩
  by_cases hx : x < 0
  · rw [if_pos hx]
  · rw [if_neg hx, if_pos (k_ge0 x hx)]
theorem k_cf {N : Nat} {σK σM : vS} {w rc el ch : Nat} {Am : Nat → Nat → Int} (h : kHr σK σM w rc el ch Am) (x : Int32) : (fX1_containsFormula N σK x = some 0 ∧ fX6_isFormula N σM x = some 0) ∨ ∃ j, j < w ∧ x = nI j ∧ fX1_containsFormula N σK x = some 1 ∧ fX6_isFormula N σM x = some 1 := by
  obtain ⟨h1, h2, h3, h4, h5, h6, h7, h8⟩ := h
  have hw := h3.2.2.2.2.1
  unfold fX1_containsFormula fX6_isFormula
  rw [if_neg (show ¬ σM.1 7 = 0 by rw [h1]; decide), h3.1, h4.1]
  by_cases hx : x < 0
  · rw [if_pos hx]; exact Or.inl ⟨rfl, rfl⟩
  · rw [if_neg hx]
    by_cases hx2 : nI w ≤ x
    · rw [if_pos hx2]; exact Or.inl ⟨rfl, rfl⟩
    · rw [if_neg hx2]
      rcases pk_ix x (n := w) (by omega) with h9 | h9 | ⟨j, hj, e⟩
      · exact absurd h9 hx
      · exact absurd h9 hx2
      · exact Or.inr ⟨j, hj, e, rfl, rfl⟩
theorem k_ck {N : Nat} {σK σM : vS} {w rc el ch : Nat} {Am : Nat → Nat → Int} (h : kHr σK σM w rc el ch Am) (x : Int32) : (fX1_containsKind N σK x = some 0 ∧ fX6_isKind N σM x = some 0) ∨ ∃ j, j < el + ch ∧ x = nI j ∧ fX1_containsKind N σK x = some 1 ∧ fX6_isKind N σM x = some 1 := by
  obtain ⟨h1, h2, h3, h4, h5, h6, h7, h8⟩ := h
  have hel := h3.2.2.2.2.2.2.2.1
  unfold fX1_containsKind fX6_isKind
  rw [if_neg (show ¬ σM.1 7 = 0 by rw [h1]; decide), k_kindCount h3, k_kindM h4, bd1_s]
  by_cases hx : x < 0
  · rw [if_pos hx]; exact Or.inl ⟨rfl, rfl⟩
  · rw [if_neg hx]
    by_cases hx2 : nI (el + ch) ≤ x
    · rw [if_pos hx2]; exact Or.inl ⟨rfl, rfl⟩
    · rw [if_neg hx2]
      rcases pk_ix x (n := el + ch) (by omega) with h9 | h9 | ⟨j, hj, e⟩
      · exact absurd h9 hx
      · exact absurd h9 hx2
      · exact Or.inr ⟨j, hj, e, rfl, rfl⟩
theorem q_2 {N : Nat} {σK σM : vS} {xs : Nat → Int32} {n : Nat} (h : kRel σK σM) : st_2 N kRel σK σM xs n := ⟨σK.1 7, p_i σM 0 0, rfl, by unfold fX6_at; rw [h.2.1], h.t 0⟩
theorem q_3 {N : Nat} {σK σM : vS} {xs : Nat → Int32} {n : Nat} (hN : 300 < N) (h : kRel σK σM) : st_3 N kRel σK σM xs n := by
  refine ⟨σK.1 11, p_i σM 0 0, rfl, ?_, h.t 0⟩
  unfold fX6_state
  rcases h.c with ⟨h1, h2, h3, h4, h5, h6⟩ | ⟨w, rc, el, ch, Am, hr⟩
  · rw [if_pos h1, h6]
  · have hr' := hr
    obtain ⟨h1, h2, h3, h4, h5, h6, h7, h8⟩ := hr'
    have hw := h3.2.2.2.2.1
    have hcb := kcn_b (kco w rc (el + ch) Am) w
    rw [if_neg (show ¬ σM.1 7 = 0 by rw [h1]; decide), h7.1, h6.2.1]
    obtain ⟨r, e1, e2⟩ := k_bal hN hr 0
    rw [e1, bd1_s]
    unfold kvd at e2 ⊢
    by_cases g0 : kcn (kco w rc (el + ch) Am) w = 0
    · rw [if_pos (show nI (kcn (kco w rc (el + ch) Am) w) = 0 by rw [g0]; rfl), if_pos g0]
    · rw [if_neg (nI_ne0 (by omega) (by omega)), if_neg g0]
      rw [if_neg g0] at e2
      by_cases g1 : kcn (kco w rc (el + ch) Am) w ≤ 1
      · rw [if_pos (show nI (kcn (kco w rc (el + ch) Am) w) ≤ 1 from nI_le (b := 1) g1 (by omega)), if_pos g1]
        rw [if_pos g1] at e2
        by_cases g2 : kpos (kco w rc (el + ch) Am) w
        · rw [if_pos g2] at e2 ⊢
          rcases e2 with ⟨rfl, _⟩ | ⟨_, e3⟩
          · rw [if_neg (by decide)]
          · exact absurd rfl e3
        · rw [if_neg g2] at e2 ⊢
          rcases e2 with ⟨_, e3⟩ | ⟨rfl, _⟩
          · exact absurd e3 (by decide)
          · rw [if_pos rfl]
      · rw [if_neg (show ¬ nI (kcn (kco w rc (el + ch) Am) w) ≤ 1 from nI_ge (a := 1) (by omega) (by omega)), if_neg g1]
theorem kvd_ne (a : Nat → Nat → Int) (w : Nat) : kvd a w ≠ -1 := by
  unfold kvd
  by_cases g0 : kcn a w = 0
  · rw [if_pos g0]; decide
  · rw [if_neg g0]
    by_cases g1 : kcn a w ≤ 1
    · rw [if_pos g1]
      by_cases g2 : kpos a w
      · rw [if_pos g2]; decide
      · rw [if_neg g2]; decide
    · rw [if_neg g1]; decide
theorem q_4 {N : Nat} {σK σM : vS} {xs : Nat → Int32} {n : Nat} (h : kRel σK σM) : st_4 N kRel σK σM xs n := by
  unfold st_4 fX5_freedom fX6_freedom
  rcases h.c with ⟨h1, h2, h3, h4, h5, h6⟩ | ⟨w, rc, el, ch, Am, h1, h2, h3, h4, h5, h6, h7, h8⟩
  · rw [if_pos h6, if_pos h1]; exact ⟨_, _, rfl, rfl, h.t 0⟩
  · rw [if_neg (by rw [h6.2.1]; exact kvd_ne _ _), if_neg (show ¬ σM.1 7 = 0 by rw [h1]; decide), h6.1, h7.1]; exact ⟨_, _, rfl, rfl, h.t 0⟩
theorem q_5 {N : Nat} {σK σM : vS} {xs : Nat → Int32} {n : Nat} (h : kRel σK σM) : st_5 N kRel σK σM xs n := by
  unfold st_5 fX5_formulas fX6_formulas
  rcases h.c with ⟨h1, h2, h3, h4, h5, h6⟩ | ⟨w, rc, el, ch, Am, h1, h2, h3, h4, h5, h6, h7, h8⟩
  · rw [if_pos h1, h2]; exact ⟨_, _, rfl, rfl, h.t 0⟩
  · rw [if_neg (show ¬ σM.1 7 = 0 by rw [h1]; decide), h3.1, h4.1]; exact ⟨_, _, rfl, rfl, h.t 0⟩
theorem q_6 {N : Nat} {σK σM : vS} {xs : Nat → Int32} {n : Nat} (h : kRel σK σM) : st_6 N kRel σK σM xs n := by
  unfold st_6 fX5_kinds fX6_kinds
  rcases h.c with ⟨h1, h2, h3, h4, h5, h6⟩ | ⟨w, rc, el, ch, Am, h1, h2, h3, h4, h5, h6, h7, h8⟩
  · unfold fX1_kindCount
    rw [if_pos h1, h4, if_pos rfl, h3, bd1_s]; exact ⟨_, _, rfl, rfl, h.t 0⟩
  · have h4' : kEM (p_i σM 0 0) w rc el ch Am := h4.f2 (fun i _ _ => pi_ne (by omega)) rfl rfl rfl
    rw [if_neg (show ¬ σM.1 7 = 0 by rw [h1]; decide), k_kindCount h3, k_kindM h4', bd1_s, bd1_s]; exact ⟨_, _, rfl, rfl, h.t 0⟩
theorem q_7 {N : Nat} {σK σM : vS} {xs : Nat → Int32} {n : Nat} (h : kRel σK σM) : st_7 N kRel σK σM xs n := by
  unfold st_7 fX5_name fX6_name
  have thr : fX1_containsKind N σK (xs (n + 1)) = some 0 → fX6_isKind N σM (xs (n + 1)) = some 0 → (∃ (b : Int32) (σM' : vS), (bd1 (fX1_containsKind N σK (xs (n + 1))) fun r1 => if (r1 = 0) then some (.inr 2) else (bd1 (fX1_kindName N σK (xs (n + 1))) fun r2 => some (.inl r2)) : Option (Int32 ⊕ Nat)) = some (.inr 2) ∧ (bd1 (fX6_isKind N σM (xs (n + 1))) fun r1 => if (r1 = 0) then jX6_name_17 N (p_i σM 0 (1 : Int32)) (xs (n + 1)) else jX6_name_17 N (p_i σM 0 (0 : Int32)) (xs (n + 1))) = some (b, σM') ∧ σM'.1 0 = 1 ∧ kRel σK σM') := fun e1 e2 => by
    rw [e1, e2, bd1_s, bd1_s, if_pos rfl, if_pos rfl]
    unfold jX6_name_17
    rw [if_neg (by rw [pi_at]; decide)]
    exact ⟨_, _, rfl, rfl, pi_at _ _ _, h.t 1⟩
  rcases h.c with h0 | ⟨w, rc, el, ch, Am, hr⟩
  · right
    exact thr (k_ck0 h0 _).1 (k_ck0 h0 _).2
  · rcases k_ck (N := N) hr (xs (n + 1)) with ⟨e1, e2⟩ | ⟨t, ht, ex, e1, e2⟩
    · right
      exact thr e1 e2
    · left
      obtain ⟨h1, h2, h3, h4, h5, h6, h7, h8⟩ := hr
      have hel := h3.2.2.2.2.2.2.2.1
      rw [e1, e2, bd1_s, bd1_s, if_neg (show ¬ (1 : Int32) = 0 by decide), if_neg (show ¬ (1 : Int32) = 0 by decide)]
      unfold fX1_kindName jX6_name_17
      rw [ex, h3.2.2.1, if_pos (show (p_i σM 0 0).1 0 = 0 from pi_at _ _ _), show (p_i σM 0 0).1 9 = nI el from h4.2.1]
      by_cases he : el ≤ t
      · rw [if_pos (nI_le he (by omega)), if_pos (nI_le he (by omega))]
        exact ⟨_, _, rfl, rfl, pi_at _ _ _, h.t 0⟩
      · rw [if_neg (nI_ge (by omega) (by omega)), if_neg (nI_ge (by omega) (by omega)), if_neg (nI_in (by omega) (by omega)), if_neg (nI_in (by omega) (by omega)), nI_clamp (by omega), h5 t (by omega)]
        exact ⟨_, _, rfl, rfl, pi_at _ _ _, h.t 0⟩
theorem q_8 {N : Nat} {σK σM : vS} {xs : Nat → Int32} {n : Nat} (h : kRel σK σM) : st_8 N kRel σK σM xs n := by
  unfold st_8 fX5_has fX6_has
  have e25 : jX6_has_25 N (p_i σM 0 1) (xs (n + 1)) (xs (n + 2)) = some (0, p_i σM 0 1) := by
    unfold jX6_has_25
    rw [if_neg (by rw [pi_at]; decide)]
  rcases h.c with h0 | ⟨w, rc, el, ch, Am, hr⟩
  · right
    rw [(k_cf0 h0 _).1, (k_cf0 h0 _).2, bd1_s, bd1_s, if_pos rfl, if_pos rfl, e25]
    exact ⟨_, _, rfl, rfl, pi_at _ _ _, h.t 1⟩
  · rcases k_cf (N := N) hr (xs (n + 1)) with ⟨e1, e2⟩ | ⟨j, hj, ex, e1, e2⟩
    · right
      rw [e1, e2, bd1_s, bd1_s, if_pos rfl, if_pos rfl, e25]
      exact ⟨_, _, rfl, rfl, pi_at _ _ _, h.t 1⟩
    · rw [e1, e2, bd1_s, bd1_s, if_neg (show ¬ (1 : Int32) = 0 by decide), if_neg (show ¬ (1 : Int32) = 0 by decide)]
      rcases k_ck (N := N) hr (xs (n + 2)) with ⟨f1, f2⟩ | ⟨t, ht, fx, f1, f2⟩
      · right
        rw [f1, f2, bd1_s, bd1_s, if_pos rfl, if_pos rfl, e25]
        exact ⟨_, _, rfl, rfl, pi_at _ _ _, h.t 1⟩
      · left
        obtain ⟨h1, h2, h3, h4, h5, h6, h7, h8⟩ := hr
        have h4' : kEM (p_i σM 0 0) w rc el ch Am := h4.f2 (fun i _ _ => pi_ne (by omega)) rfl rfl rfl
        rw [f1, f2, bd1_s, bd1_s, if_neg (show ¬ (1 : Int32) = 0 by decide), if_neg (show ¬ (1 : Int32) = 0 by decide), ex, fx, k_amount h3 hj ht, bd1_s]
        unfold jX6_has_25
        rw [if_pos (show (p_i σM 0 0).1 0 = 0 from pi_at _ _ _), k_hasOf h4' hj ht, bd1_s, lI_32]
        exact ⟨_, _, rfl, rfl, pi_at _ _ _, h.t 0⟩
theorem q_9 {N : Nat} {σK σM : vS} {xs : Nat → Int32} {n : Nat} (h : kRel σK σM) : st_9 N kRel σK σM xs n := by
  unfold st_9 fX5_product fX6_product
  have e25 : jX6_product_17 N (p_i σM 0 1) (xs (n + 1)) = some (0, p_i σM 0 1) := by
    unfold jX6_product_17
    rw [if_neg (by rw [pi_at]; decide)]
  rcases h.c with h0 | ⟨w, rc, el, ch, Am, hr⟩
  · right
    rw [(k_cf0 h0 _).1, (k_cf0 h0 _).2, bd1_s, bd1_s, if_pos rfl, if_pos rfl, e25]
    exact ⟨_, _, rfl, rfl, pi_at _ _ _, h.t 1⟩
  · rcases k_cf (N := N) hr (xs (n + 1)) with ⟨e1, e2⟩ | ⟨j, hj, ex, e1, e2⟩
    · right
      rw [e1, e2, bd1_s, bd1_s, if_pos rfl, if_pos rfl, e25]
      exact ⟨_, _, rfl, rfl, pi_at _ _ _, h.t 1⟩
    · left
      obtain ⟨h1, h2, h3, h4, h5, h6, h7, h8⟩ := hr
      have hw := h3.2.2.2.2.1
      have h4' := h4.2.2.2.2.2.2.2.2.2.1 j hj
      rw [e1, e2, bd1_s, bd1_s, if_neg (show ¬ (1 : Int32) = 0 by decide), if_neg (show ¬ (1 : Int32) = 0 by decide), ex, k_isProd h3 hj, bd1_s]
      unfold jX6_product_17
      rw [if_pos (show (p_i σM 0 0).1 0 = 0 from pi_at _ _ _), if_neg (nI_in (by omega) (by omega)), nI_clamp (by omega), show (p_i σM 0 0).2.1 4 j = _ from h4']
      by_cases hjr : j < rc
      · simp only [hjr, if_true]
        rw [if_neg (by decide)]
        exact ⟨_, _, rfl, rfl, pi_at _ _ _, h.t 0⟩
      · simp only [hjr, if_false]
        rw [if_neg (by decide), if_neg (by decide)]
        exact ⟨_, _, rfl, rfl, pi_at _ _ _, h.t 0⟩
theorem q_10 {N : Nat} {σK σM : vS} {xs : Nat → Int32} {n : Nat} (h : kRel σK σM) : st_10 N kRel σK σM xs n := by
  unfold st_10 fX5_free fX6_free
  have e25 : jX6_free_17 N (p_i σM 0 1) (xs (n + 1)) = some (0, p_i σM 0 1) := by
    unfold jX6_free_17
    rw [if_neg (by rw [pi_at]; decide)]
  rcases h.c with h0 | ⟨w, rc, el, ch, Am, hr⟩
  · right
    rw [(k_cf0 h0 _).1, (k_cf0 h0 _).2, bd1_s, bd1_s, if_pos rfl, if_pos rfl, e25]
    exact ⟨_, _, rfl, rfl, pi_at _ _ _, h.t 1⟩
  · rcases k_cf (N := N) hr (xs (n + 1)) with ⟨e1, e2⟩ | ⟨j, hj, ex, e1, e2⟩
    · right
      rw [e1, e2, bd1_s, bd1_s, if_pos rfl, if_pos rfl, e25]
      exact ⟨_, _, rfl, rfl, pi_at _ _ _, h.t 1⟩
    · left
      obtain ⟨h1, h2, h3, h4, h5, h6, h7, h8⟩ := hr
      have hw := h3.2.2.2.2.1
      have k6 := h6.2.2.1 j hj
      have m8 := h7.2.1 j hj
      rw [e1, e2, bd1_s, bd1_s, if_neg (show ¬ (1 : Int32) = 0 by decide), if_neg (show ¬ (1 : Int32) = 0 by decide), ex, if_neg (nI_in (by omega) (by omega)), nI_clamp (by omega)]
      unfold jX6_free_17
      rw [if_pos (show (p_i σM 0 0).1 0 = 0 from pi_at _ _ _), if_neg (nI_in (by omega) (by omega)), nI_clamp (by omega), show (p_i σM 0 0).2.1 8 j = σM.2.1 8 j from rfl]
      by_cases hl : kl (kco w rc (el + ch) Am) j
      · rw [k6.2.mpr hl, m8.2.mpr hl, if_neg (by decide), if_pos rfl]
        exact ⟨_, _, rfl, rfl, pi_at _ _ _, h.t 0⟩
      · have k1 : σK.2.1 6 j = 1 := k6.1.resolve_left (fun e => hl (k6.2.mp e))
        have m1 : ¬ σM.2.1 8 j = 0 := fun e => hl (m8.2.mp e)
        rw [k1, if_neg (by decide), if_neg m1]
        exact ⟨_, _, rfl, rfl, pi_at _ _ _, h.t 0⟩
theorem q_11 {N : Nat} {σK σM : vS} {xs : Nat → Int32} {n : Nat} (h : kRel σK σM) : st_11 N kRel σK σM xs n := by
  unfold st_11 fX5_number fX6_number
  have e25 : jX6_number_29 N (p_i σM 0 1) (xs (n + 1)) (xs (n + 2)) = some (0, p_i σM 0 1) := by
    unfold jX6_number_29
    rw [if_neg (by rw [pi_at]; decide)]
  rcases h.c with h0 | ⟨w, rc, el, ch, Am, hr⟩
  · right
    rw [(k_cf0 h0 _).2, bd1_s, if_pos rfl, e25, h0.2.2.2.2.1]
    by_cases hx : xs (n + 1) < 0
    · rw [if_pos hx]
      exact ⟨_, _, rfl, rfl, pi_at _ _ _, h.t 1⟩
    · rw [if_neg hx, if_pos (k_ge0 _ hx)]
      exact ⟨_, _, rfl, rfl, pi_at _ _ _, h.t 1⟩
  · have hr' := hr
    obtain ⟨h1, h2, h3, h4, h5, h6, h7, h8⟩ := hr'
    have hw := h3.2.2.2.2.1
    have hcb := kcn_b (kco w rc (el + ch) Am) w
    rw [h6.1, h7.1, e25]
    by_cases hx : xs (n + 1) < 0
    · right
      rw [if_pos hx]
      refine ⟨0, p_i σM 0 1, rfl, ?_, pi_at _ _ _, h.t 1⟩
      rcases k_cf (N := N) hr (xs (n + 2)) with ⟨e1, e2⟩ | ⟨j, hj, ex, e1, e2⟩
      · rw [e2, bd1_s, if_pos rfl]
      · rw [e2, bd1_s, if_neg (by decide), if_pos hx]
    · rw [if_neg hx]
      by_cases hx2 : nI (kcn (kco w rc (el + ch) Am) w) ≤ xs (n + 1)
      · right
        rw [if_pos hx2]
        refine ⟨0, p_i σM 0 1, rfl, ?_, pi_at _ _ _, h.t 1⟩
        rcases k_cf (N := N) hr (xs (n + 2)) with ⟨e1, e2⟩ | ⟨j, hj, ex, e1, e2⟩
        · rw [e2, bd1_s, if_pos rfl]
        · rw [e2, bd1_s, if_neg (by decide), if_neg hx, if_pos hx2]
      · rw [if_neg hx2]
        rcases k_cf (N := N) hr (xs (n + 2)) with ⟨e1, e2⟩ | ⟨j, hj, ex, e1, e2⟩
        · right
          rw [e1, e2, bd1_s, bd1_s, if_pos rfl, if_pos rfl]
          exact ⟨_, _, rfl, rfl, pi_at _ _ _, h.t 1⟩
        · left
          rcases pk_ix (xs (n + 1)) (n := kcn (kco w rc (el + ch) Am) w) (by omega) with h9 | h9 | ⟨m, hm, em⟩
          · exact absurd h9 hx
          · exact absurd h9 hx2
          · rw [e1, e2, bd1_s, bd1_s, if_neg (show ¬ (1 : Int32) = 0 by decide), if_neg (show ¬ (1 : Int32) = 0 by decide), if_neg hx, if_neg hx2, em, ex, if_neg (nI_in (by omega) (by omega)), if_neg (nI_in (by omega) (by omega)), nI_clamp (by omega), nI_clamp (by omega)]
            unfold jX6_number_29
            rw [if_pos (show (p_i σM 0 0).1 0 = 0 from pi_at _ _ _), k_ix6, if_neg (nI_in (by omega) (by omega)), nI_clamp (by omega), show (p_i σM 0 0).2.2.2 3 (6 * m + j) = _ from h7.2.2 m hm j hj, (h6.2.2.2 m hm j hj).1]
            exact ⟨_, _, rfl, rfl, pi_at _ _ _, h.t 0⟩
theorem q_13 {N : Nat} {σK σM : vS} {xs : Nat → Int32} {n : Nat} (hN : 300 < N) (h : kRel σK σM) : st_13 N kRel σK σM xs n := by
  unfold st_13 fX5_written fX6_written
  have e25 : jX6_written_16 N (p_i σM 0 1) (xs (n + 1)) = some (0, p_i σM 0 1) := by
    unfold jX6_written_16
    rw [if_neg (by rw [pi_at]; decide)]
  rcases h.c with h0 | ⟨w, rc, el, ch, Am, hr⟩
  · right
    rw [k_bal0 hN h0.1, bd1_s, if_pos rfl, e25, if_neg (by rw [h0.2.2.2.2.2]; decide)]
    exact ⟨_, _, rfl, rfl, pi_at _ _ _, h.t 1⟩
  · obtain ⟨r, e1, e2⟩ := k_bal' hN hr
    obtain ⟨h1, h2, h3, h4, h5, h6, h7, h8⟩ := hr
    rw [e1, bd1_s, h6.2.1, e25]
    rcases e2 with ⟨rfl, hv⟩ | ⟨rfl, hv⟩
    · left
      obtain ⟨l, l1, l2, l3, l4⟩ := h8 hv
      rw [if_pos hv, if_neg (by decide)]
      unfold fX2_characterAt jX6_written_16
      rw [if_pos (show (p_i σM 0 0).1 0 = 0 from pi_at _ _ _), l2, show (p_i σM 0 0).1 14 = nI l from l3]
      by_cases hx : xs (n + 1) < 0
      · rw [if_pos hx, if_pos hx, bd1_s]
        exact ⟨_, _, rfl, rfl, pi_at _ _ _, h.t 0⟩
      · rw [if_neg hx, if_neg hx]
        rcases pk_ix (xs (n + 1)) (n := l) (by omega) with h9 | h9 | ⟨m, hm, em⟩
        · exact absurd h9 hx
        · rw [if_pos h9, bd1_s, if_neg (fun h10 => by
            rw [Int32.lt_iff_toInt_lt] at h10
            rw [Int32.le_iff_toInt_le] at h9
            omega)]
          exact ⟨_, _, rfl, rfl, pi_at _ _ _, h.t 0⟩
        · rw [em, if_neg (nI_ge hm (by omega)), if_neg (nI_in (by omega) (by omega)), bd1_s, if_pos (nI_lt hm (by omega)), if_neg (nI_in (by omega) (by omega)), nI_clamp (by omega), l4 m hm]
          exact ⟨_, _, rfl, rfl, pi_at _ _ _, h.t 0⟩
    · right
      rw [if_neg hv, if_pos rfl]
      exact ⟨_, _, rfl, rfl, pi_at _ _ _, h.t 1⟩
