/-! The program's solve. -/
theorem kx_base_uniq {a : Nat → Nat → Int} {ld : Nat → Prop} {f : Nat} {x y : Nat → Int} (hl : ∀ j, j < f → j < 6 → ld j → ¬ kx_dep a ld j) (hx : kx_base a ld f x) (hy : kx_base a ld f y) : ∀ j, j < 6 → x j = y j := by
  obtain ⟨b1, b2, b3, b4⟩ := hx
  obtain ⟨c1, c2, c3, c4⟩ := hy
  have hz : ∀ j, j < 6 → y f * x j - x f * y j = 0 := by
    have hh := kx_indep (a := a) (ld := ld) (f := f) (z := fun j => y f * x j - x f * y j) hl (fun j hj h0 => by
      by_cases e : j = f
      · subst e
        exact absurd (by grind) h0
      · by_cases e1 : x j = 0
        · by_cases e2 : y j = 0
          · exact absurd (by simp [e1, e2]) h0
          · rcases c2 j hj e2 with h | h
            · exact absurd h e
            · exact h
        · rcases b2 j hj e1 with h | h
          · exact absurd h e
          · exact h) (kx_ker_lin _ _ b3 c3)
    intro j hj
    exact (hh 5 0 (by decide)).2 j (Nat.zero_le _) hj
  have hp : (y f).natAbs * 1 = (x f).natAbs * 1 := by
    have q1 := g6_mul (y f).natAbs x
    have q2 := g6_mul (x f).natAbs y
    rw [b4] at q1
    rw [c4] at q2
    rw [← q1, ← q2]
    refine g6_congr (fun j hj => ?_)
    have := hz j hj
    rw [Int.natAbs_of_nonneg (by omega), Int.natAbs_of_nonneg (by omega)]
    omega
  have hpp : y f = x f := by omega
  intro j hj
  have h3 := hz j hj
  rw [hpp] at h3
  have h4 : x f * (x j - y j) = 0 := by rw [Int.mul_sub]; exact h3
  rcases Int.mul_eq_zero.mp h4 with h5 | h5
  · omega
  · omega
noncomputable def kbv (a : Nat → Nat → Int) (f : Nat) : Nat → Int := Classical.epsilon (fun x => kx_base a (kl a) f x)
theorem kbv_eq {a : Nat → Nat → Int} {f : Nat} {x : Nat → Int} (hx : kx_base a (kl a) f x) : ∀ j, j < 6 → kbv a f j = x j := by
  have h1 : kx_base a (kl a) f (kbv a f) := Classical.epsilon_spec (p := fun x => kx_base a (kl a) f x) ⟨x, hx⟩
  exact kx_base_uniq (fun j _ _ hj => (kl_iff a j).mp hj) h1 hx
/-- how many columns below i are free -/
noncomputable def kcn (a : Nat → Nat → Int) : Nat → Nat
  | 0 => 0
  | i + 1 => kcn a i + @ite _ (kl a i) (Classical.propDecidable _) 0 1
theorem kcn_l {a : Nat → Nat → Int} {i : Nat} (h : kl a i) : kcn a (i + 1) = kcn a i := by
  show kcn a i + @ite _ (kl a i) (Classical.propDecidable _) 0 1 = _
  rw [if_pos h, Nat.add_zero]
theorem kcn_f {a : Nat → Nat → Int} {i : Nat} (h : ¬ kl a i) : kcn a (i + 1) = kcn a i + 1 := by
  show kcn a i + @ite _ (kl a i) (Classical.propDecidable _) 0 1 = _
  rw [if_neg h]
theorem kcn_le (a : Nat → Nat → Int) : ∀ n i, kcn a i ≤ kcn a (i + n) := by
  intro n
  induction n with
  | zero => intro i; exact Nat.le_refl _
  | succ n ih =>
    intro i
    refine Nat.le_trans (ih i) ?_
    show kcn a (i + n) ≤ kcn a (i + n) + @ite _ (kl a (i + n)) (Classical.propDecidable _) 0 1
    exact Nat.le_add_right _ _
theorem kcn_lt {a : Nat → Nat → Int} {f i : Nat} (h : ¬ kl a f) (hi : f < i) : kcn a f < kcn a i := by
  have h1 := kcn_f h
  have h2 := kcn_le a (i - (f + 1)) (f + 1)
  rw [show f + 1 + (i - (f + 1)) = i by omega] at h2
  omega
theorem kcn_b (a : Nat → Nat → Int) : ∀ i, kcn a i ≤ i := by
  intro i
  induction i with
  | zero => exact Nat.le_refl _
  | succ i ih =>
    show kcn a i + @ite _ (kl a i) (Classical.propDecidable _) 0 1 ≤ i + 1
    by_cases h : kl a i
    · rw [if_pos h]; omega
    · rw [if_neg h]; omega
theorem kcn_inj {a : Nat → Nat → Int} {f g : Nat} (hf : ¬ kl a f) (hg : ¬ kl a g) (h : kcn a f = kcn a g) : f = g := by
  rcases Nat.lt_trichotomy f g with h1 | h1 | h1
  · have := kcn_lt hf h1
    omega
  · exact h1
  · have := kcn_lt hg h1
    omega
theorem kcn_ex {a : Nat → Nat → Int} : ∀ i m, m < kcn a i → ∃ f, f < i ∧ ¬ kl a f ∧ kcn a f = m := by
  intro i
  induction i with
  | zero => intro m hm; exact absurd hm (Nat.not_lt_zero _)
  | succ i ih =>
    intro m hm
    by_cases h : kl a i
    · rw [kcn_l h] at hm
      obtain ⟨f, h1, h2⟩ := ih m hm
      exact ⟨f, by omega, h2⟩
    · rw [kcn_f h] at hm
      by_cases e : m = kcn a i
      · exact ⟨i, by omega, h, e.symm⟩
      · obtain ⟨f, h1, h2⟩ := ih m (by omega)
        exact ⟨f, by omega, h2⟩
/-- the m-th base -/
noncomputable def kbr (a : Nat → Nat → Int) (m : Nat) : Nat → Int := kbv a (Classical.epsilon (fun f => ¬ kl a f ∧ kcn a f = m))
theorem kbr_eq {a : Nat → Nat → Int} {f : Nat} (hf : ¬ kl a f) : kbr a (kcn a f) = kbv a f := by
  have h1 := Classical.epsilon_spec (p := fun g => ¬ kl a g ∧ kcn a g = kcn a f) ⟨f, hf, rfl⟩
  unfold kbr
  rw [kcn_inj h1.1 hf h1.2]
/-- the equation in the program's state: w formulas, rc of them reactants, el elements, ch charged; what each formula has -/
def kEq (σ : vS) (w rc el ch : Nat) (Am : Nat → Nat → Int) : Prop := σ.1 2 = nI w ∧ σ.1 3 = nI rc ∧ σ.1 4 = nI el ∧ σ.1 5 = nI ch ∧ w ≤ 6 ∧ rc ≤ w ∧ ch ≤ 1 ∧ el + ch ≤ 5 ∧
  (∀ j, j < w → ∀ t, t < el → σ.2.1 (9 + j) t = Int32.ofInt (Am j t)) ∧ (∀ j, j < w → ch = 1 → σ.2.1 2 j = Int32.ofInt (Am j el)) ∧ ∀ j, j < w → ∀ t, t < el + ch → (Am j t).natAbs ≤ 40
def kco (w rc h : Nat) (Am : Nat → Nat → Int) : Nat → Nat → Int := fun j t => if j < w ∧ t < h then (if j < rc then Am j t else - Am j t) else 0
theorem kco_in {w rc h : Nat} {Am : Nat → Nat → Int} (hb : ∀ j, j < w → ∀ t, t < h → (Am j t).natAbs ≤ 40) : kx_in h (kco w rc h Am) := by
  refine ⟨fun j _ t ht _ => ?_, fun j _ t ht => ?_⟩
  · unfold kco; rw [if_neg (by omega)]
  · unfold kco
    by_cases h1 : j < w ∧ t < h
    · rw [if_pos h1]
      have := hb j h1.1 t h1.2
      split <;> omega
    · rw [if_neg h1]; exact Nat.zero_le _
theorem iI_toInt {z : Int} (h : z.natAbs < 2 ^ 31) : (Int32.ofInt z).toInt = z := Int32.toInt_ofInt_of_le (by omega) (by omega)
theorem bd1_s {α β : Type} (a : α) (F : α → Option β) : bd1 (some a) F = F a := rfl
theorem bd2_s {α β γ : Type} (a : α) (b : β) (F : α → β → Option γ) : bd2 (some (a, b)) F = F a b := rfl
theorem k_lt_e {α β : Type} (a : α) (F : α → β) : k_lt a F = F a := rfl
theorem k_kindCount {N : Nat} {σ : vS} {w rc el ch : Nat} {Am : Nat → Nat → Int} (h : kEq σ w rc el ch Am) : fX1_kindCount N σ = some (nI (el + ch)) := by
  obtain ⟨h2, h3, h4, h5, hw, hrc, hch, hel, hA, hC, hb⟩ := h
  unfold fX1_kindCount
  rw [h5, h4]
  rcases (show ch = 0 ∨ ch = 1 by omega) with rfl | rfl
  · rw [if_pos (by decide)]; rfl
  · rw [if_neg (by decide), nI_1]
theorem k_amount {N : Nat} {σ : vS} {w rc el ch j t : Nat} {Am : Nat → Nat → Int} (h : kEq σ w rc el ch Am) (hj : j < w) (ht : t < el + ch) : fX1_amount N σ (nI j) (nI t) = some (Int32.ofInt (Am j t)) := by
  obtain ⟨h2, h3, h4, h5, hw, hrc, hch, hel, hA, hC, hb⟩ := h
  unfold fX1_amount
  rw [h4]
  by_cases hte : t < el
  · rw [if_neg (nI_ge hte (by omega)), if_neg (nI_in (by omega) (by omega)), if_neg (nI_in (by omega) (by omega)), nI_clamp (by omega), nI_clamp (by omega), hA j hj t hte]
  · have e : t = el := by omega
    subst e
    rw [if_pos (nI_le (Nat.le_refl _) (by omega)), if_neg (nI_in (by omega) (by omega)), nI_clamp (by omega), hC j hj (by omega)]
theorem k_contF {N : Nat} {σ : vS} {w rc el ch : Nat} {Am : Nat → Nat → Int} (h : kEq σ w rc el ch Am) (x : Int32) : fX1_containsFormula N σ x = some (if x < 0 ∨ nI w ≤ x then 0 else 1) := by
  unfold fX1_containsFormula
  rw [h.1]
  by_cases h0 : x < 0
  · rw [if_pos h0, if_pos (Or.inl h0)]
  · rw [if_neg h0]
    by_cases h1 : nI w ≤ x
    · rw [if_pos h1, if_pos (Or.inr h1)]
    · rw [if_neg h1, if_neg (fun h => h.elim h0 h1)]
theorem k_isProd {N : Nat} {σ : vS} {w rc el ch j : Nat} {Am : Nat → Nat → Int} (h : kEq σ w rc el ch Am) (hj : j < w) : fX1_isProduct N σ (nI j) = some (if j < rc then 0 else 1) := by
  obtain ⟨h2, h3, h4, h5, hw, hrc, hch, hel, hA, hC, hb⟩ := h
  unfold fX1_isProduct
  rw [h3]
  by_cases hjr : j < rc
  · rw [if_pos (nI_lt hjr (by omega)), if_pos hjr]
  · rw [if_neg (nI_nlt (by omega) (by omega)), if_neg hjr]
theorem k_share {N : Nat} {σ : vS} {w rc el ch j t : Nat} {Am : Nat → Nat → Int} (h : kEq σ w rc el ch Am) (hj : j < w) (ht : t < el + ch) (q : Int) : fX1_share N σ (nI j) (nI t) (lI q) = some (lI (q * kco w rc (el + ch) Am j t)) := by
  have hw := h.2.2.2.2.1
  have hb := h.2.2.2.2.2.2.2.2.2.2 j hj t ht
  unfold fX1_share
  rw [k_contF h, if_neg (fun h9 => h9.elim (fun h0 => nI_pos (by omega) h0) (fun h1 => nI_ge hj (by omega) h1))]
  rw [bd1_s, if_neg (by decide), k_amount h hj ht, bd1_s, k_lt_e, k_isProd h hj, bd1_s, lI_i, iI_toInt (by omega), lI_mul]
  unfold kco
  rw [if_pos (show j < w ∧ t < el + ch from ⟨hj, ht⟩)]
  by_cases hjr : j < rc
  · simp [hjr]
  · simp [hjr, lI_neg, Int.mul_neg]
theorem kEq.fr {σ σ' : vS} {w rc el ch : Nat} {Am : Nat → Nat → Int} (h : kEq σ w rc el ch Am) (hf : kfrS σ σ') : kEq σ' w rc el ch Am := by
  obtain ⟨h2, h3, h4, h5, hw, hrc, hch, hel, hA, hC, hb⟩ := h
  refine ⟨(hf.1 2 (by omega)).trans h2, (hf.1 3 (by omega)).trans h3, (hf.1 4 (by omega)).trans h4, (hf.1 5 (by omega)).trans h5, hw, hrc, hch, hel, fun j hj t ht => ?_, fun j hj hc => ?_, hb⟩
  · rw [hf.2 (9 + j) (by omega) (by omega)]; exact hA j hj t ht
  · rw [hf.2 2 (by omega) (by omega)]; exact hC j hj hc
theorem k_takeRows {N : Nat} {σ : vS} {w rc el ch : Nat} {Am : Nat → Nat → Int} (hN : 300 < N) (h : kEq σ w rc el ch Am) : kok (fX0_takeRows N σ) (fun σ' => σ'.1 13 = nI (el + ch) ∧ σ'.1 14 = nI w ∧ (∀ i, i < el + ch → ∀ j, j < w → σ'.2.2.2 (11 + i) j = lI (kco w rc (el + ch) Am j i)) ∧ kfrS σ σ') := by
  unfold fX0_takeRows
  rw [k_kindCount h]
  have hw := h.2.2.2.2.1
  have hel := h.2.2.2.2.2.2.2.1
  have hF0 : kfrS σ (p_i (p_i σ 13 (nI (el + ch))) 14 (nI w)) := ⟨fun i hi => by rw [piI, if_neg (by omega), piI, if_neg (by omega)], fun _ _ _ => rfl⟩
  show kok (bd1 (k_itr (fun zz => bX0_takeRows_18 N zz.1 zz.2) N ((0 : Int32), (p_i (p_i σ 13 (nI (el + ch))) 14 (σ.1 2)))) fun q => jX0_takeRows_63 N q) _
  rw [h.1]
  refine kok_bd1 (P := fun σ' => σ'.1 13 = nI (el + ch) ∧ σ'.1 14 = nI w ∧ (∀ i, i < el + ch → ∀ j, j < w → σ'.2.2.2 (11 + i) j = lI (kco w rc (el + ch) Am j i)) ∧ kfrS σ σ') ?_ (fun σ' h => kok_some h)
  refine kok_for (body := fun zz => bX0_takeRows_18 N zz.1 zz.2) (el + ch) (fun i σ' => σ'.1 13 = nI (el + ch) ∧ σ'.1 14 = nI w ∧ (∀ i', i' < i → ∀ j, j < w → σ'.2.2.2 (11 + i') j = lI (kco w rc (el + ch) Am j i')) ∧ kfrS σ σ') (fun i σ' hi hI => ?_) (fun σ' hI => ?_) N 0 _ (by omega) (Nat.zero_le _) ⟨by rw [piI, if_neg (by decide), piI, if_pos rfl], by rw [piI, if_pos rfl], fun i' hi' => by omega, hF0⟩
  · obtain ⟨e1, e2, e3, e4⟩ := hI
    show kok (bX0_takeRows_18 N (nI i) σ') _
    unfold bX0_takeRows_18
    rw [e1]
    refine kok_f (nI_ge hi (by omega)) (kok_bd1 (P := fun σ2 => σ2.1 13 = nI (el + ch) ∧ σ2.1 14 = nI w ∧ (∀ i', i' < i + 1 → ∀ j, j < w → σ2.2.2.2 (11 + i') j = lI (kco w rc (el + ch) Am j i')) ∧ kfrS σ σ2) ?_ (fun σ2 h2 => kok_lt (kok_some ⟨σ2, Prod.ext (nI_1 _) rfl, h2⟩)))
    refine kok_for (body := fun zz => bX0_takeRows_28 N (nI i) zz.1 zz.2) w (fun n σ2 => σ2.1 13 = nI (el + ch) ∧ σ2.1 14 = nI w ∧ (∀ i', i' < i + 1 → ∀ j, j < w → (i' < i ∨ j < n) → σ2.2.2.2 (11 + i') j = lI (kco w rc (el + ch) Am j i')) ∧ kfrS σ σ2) (fun n σ2 hn hI2 => ?_) (fun σ2 hI2 => ?_) N 0 _ (by omega) (Nat.zero_le _) ⟨e1, e2, fun i' hi' j hj h9 => e3 i' (by omega) j hj, e4⟩
    · obtain ⟨f1, f2, f3, f4⟩ := hI2
      show kok (bX0_takeRows_28 N (nI i) (nI n) σ2) _
      unfold bX0_takeRows_28
      rw [f2]
      refine kok_f (nI_ge hn (by omega)) (kok_g (nI_in (by omega) (by omega)) ?_)
      rw [lI_1, k_share (h.fr f4) hn hi, Int.one_mul]
      refine kok_g (nI_in (by omega) (by omega)) (kok_lt (kok_some ⟨_, Prod.ext (nI_1 _) rfl, f1, f2, fun i' hi' j hj h9 => ?_, f4.tr ⟨fun _ _ => rfl, fun _ _ _ => rfl⟩⟩))
      rw [pbB, nI_clamp (by omega), nI_clamp (by omega)]
      by_cases g1 : i' = i
      · subst g1
        rw [if_pos rfl]
        by_cases g2 : j = n
        · rw [if_pos g2, g2]
        · rw [if_neg g2]; exact f3 i' hi' j hj (by omega)
      · rw [if_neg (by omega)]; exact f3 i' hi' j hj (by omega)
    · obtain ⟨f1, f2, f3, f4⟩ := hI2
      show kok (bX0_takeRows_28 N (nI i) (nI w) σ2) _
      unfold bX0_takeRows_28
      rw [f2]
      exact kok_t (nI_le (Nat.le_refl _) (by omega)) (kok_some ⟨f1, f2, fun i' hi' j hj => f3 i' hi' j hj (Or.inr hj), f4⟩)
  · obtain ⟨e1, e2, e3, e4⟩ := hI
    show kok (bX0_takeRows_18 N (nI (el + ch)) σ') _
    unfold bX0_takeRows_18
    rw [e1]
    exact kok_t (nI_le (Nat.le_refl _) (by omega)) (kok_some ⟨e1, e2, e3, e4⟩)
