/-! The reference's determinant as a plain function. -/
theorem kok_up {S R : Type} {body : S → Option (S ⊕ R)} {Q : R → Prop} (n : Nat) (I : Nat → S → Prop) (hb : ∀ i s, i < n → I i s → kok (body s) (kso (fun s' => I (i + 1) s') Q)) (he : ∀ s, I n s → kok (body s) (kso (fun _ => False) Q)) (N i : Nat) (s : S) (hN : n < N) (hi : i ≤ n) (h : I i s) : kok (k_itr body N s) Q := by
  refine kok_itr (fun v s => ∃ i, i ≤ n ∧ v = n - i ∧ I i s) ?_ N (n - i) _ (by omega) ⟨i, hi, rfl, h⟩
  rintro v s ⟨i, hi, rfl, h⟩
  by_cases hin : i < n
  · refine kok_mono (hb i s hin h) (fun o ho => ?_)
    cases o with
    | inl q => exact ⟨n - (i + 1), by omega, i + 1, by omega, rfl, ho⟩
    | inr r => exact ho
  · have e : i = n := by omega
    subst e
    refine kok_mono (he s h) (fun o ho => ?_)
    cases o with
    | inl q => exact absurd ho (fun h => h)
    | inr r => exact ho
theorem k_ix5 (a b : Nat) : (5 : Int32) * nI a + nI b = nI (5 * a + b) := by
  rw [show (5 : Int32) = nI 5 from rfl, pk_mul, nI_add]
theorem k_ix6 (a b : Nat) : (6 : Int32) * nI a + nI b = nI (6 * a + b) := by
  rw [show (6 : Int32) = nI 6 from rfl, pk_mul, nI_add]
/-- the equation in the reference's state -/
def kEM (σ : vS) (w rc el ch : Nat) (Am : Nat → Nat → Int) : Prop := σ.1 8 = nI w ∧ σ.1 9 = nI el ∧ σ.1 10 = nI ch ∧ w ≤ 6 ∧ rc ≤ w ∧ ch ≤ 1 ∧ el + ch ≤ 5 ∧
  (∀ j, j < w → ∀ t, t < el → σ.2.2.2 1 (5 * j + t) = lI (Am j t)) ∧ (∀ j, j < w → ch = 1 → σ.2.2.2 0 j = lI (Am j el)) ∧ (∀ j, j < w → σ.2.1 4 j = if j < rc then 0 else 1) ∧ ∀ j, j < w → ∀ t, t < el + ch → (Am j t).natAbs ≤ 40
def kfM (σ σ' : vS) : Prop := (∀ i, i ≠ 12 → i ≠ 13 → σ'.1 i = σ.1 i) ∧ (∀ b, b ≠ 7 → b ≠ 8 → b ≠ 9 → σ'.2.1 b = σ.2.1 b) ∧ σ'.2.2.1 = σ.2.2.1 ∧ ∀ b, b ≠ 3 → b ≠ 4 → σ'.2.2.2 b = σ.2.2.2 b
theorem kfM.rf (σ : vS) : kfM σ σ := ⟨fun _ _ _ => rfl, fun _ _ _ _ => rfl, rfl, fun _ _ _ => rfl⟩
theorem kfM.tr {σ σ' σ2 : vS} (h1 : kfM σ σ') (h2 : kfM σ' σ2) : kfM σ σ2 := ⟨fun i a b => (h2.1 i a b).trans (h1.1 i a b), fun i a b c => (h2.2.1 i a b c).trans (h1.2.1 i a b c), h2.2.2.1.trans h1.2.2.1, fun i a b => (h2.2.2.2 i a b).trans (h1.2.2.2 i a b)⟩
theorem kEM.fr {σ σ' : vS} {w rc el ch : Nat} {Am : Nat → Nat → Int} (h : kEM σ w rc el ch Am) (hf : kfM σ σ') : kEM σ' w rc el ch Am := by
  obtain ⟨h8, h9, h10, hw, hrc, hch, hel, hA, hC, hR, hb⟩ := h
  refine ⟨(hf.1 8 (by decide) (by decide)).trans h8, (hf.1 9 (by decide) (by decide)).trans h9, (hf.1 10 (by decide) (by decide)).trans h10, hw, hrc, hch, hel, ?_, ?_, ?_, hb⟩
  · rw [hf.2.2.2 1 (by decide) (by decide)]; exact hA
  · rw [hf.2.2.2 0 (by decide) (by decide)]; exact hC
  · rw [hf.2.1 4 (by decide) (by decide) (by decide)]; exact hR
/-- only the cells change -/
def kf4 (σ σ' : vS) : Prop := σ'.1 = σ.1 ∧ σ'.2.1 = σ.2.1 ∧ σ'.2.2.1 = σ.2.2.1 ∧ ∀ b, b ≠ 4 → σ'.2.2.2 b = σ.2.2.2 b
theorem kf4.rf (σ : vS) : kf4 σ σ := ⟨rfl, rfl, rfl, fun _ _ => rfl⟩
theorem kf4.tr {σ σ' σ2 : vS} (h1 : kf4 σ σ') (h2 : kf4 σ' σ2) : kf4 σ σ2 := ⟨h2.1.trans h1.1, h2.2.1.trans h1.2.1, h2.2.2.1.trans h1.2.2.1, fun b hb => (h2.2.2.2 b hb).trans (h1.2.2.2 b hb)⟩
theorem kf4.m {σ σ' : vS} (h : kf4 σ σ') : kfM σ σ' := ⟨fun _ _ _ => by rw [h.1], fun _ _ _ _ => by rw [h.2.1], h.2.2.1, fun b _ h4 => h.2.2.2 b h4⟩
theorem kf4.p (σ : vS) (i : Nat) (v : Int64) : kf4 σ (p_b σ 4 i v) := ⟨rfl, rfl, rfl, fun b hb => by funext j; rw [pbB, if_neg hb]⟩
theorem k_hasOf {N : Nat} {σ : vS} {w rc el ch j t : Nat} {Am : Nat → Nat → Int} (h : kEM σ w rc el ch Am) (hj : j < w) (ht : t < el + ch) : fX6_hasOf N σ (nI j) (nI t) = some (lI (Am j t)) := by
  obtain ⟨h8, h9, h10, hw, hrc, hch, hel, hA, hC, hR, hb⟩ := h
  unfold fX6_hasOf
  rw [h9]
  by_cases hte : t < el
  · rw [if_neg (nI_ge hte (by omega)), k_ix5, if_neg (nI_in (by omega) (by omega)), nI_clamp (by omega), hA j hj t hte]
  · have e : t = el := by omega
    subst e
    rw [if_pos (nI_le (Nat.le_refl _) (by omega)), if_neg (nI_in (by omega) (by omega)), nI_clamp (by omega), hC j hj (by omega)]
theorem k_kindM {N : Nat} {σ : vS} {w rc el ch : Nat} {Am : Nat → Nat → Int} (h : kEM σ w rc el ch Am) : fX6_kindCount N σ = some (nI (el + ch)) := by
  obtain ⟨h8, h9, h10, hw, hrc, hch, hel, hA, hC, hR, hb⟩ := h
  unfold fX6_kindCount
  rw [h9, h10]
  rcases (show ch = 0 ∨ ch = 1 by omega) with rfl | rfl
  · rw [if_pos (by decide)]; exact congrArg some (nI_add el 0)
  · rw [if_neg (by decide), nI_1]
theorem k_bit : ∀ m, m < 32 → ∀ r, r < 5 → ((nI m) >>> ((nI r) &&& 31)) &&& 1 = nI (qb m r) := by decide +kernel
theorem k_sizeOf {N m : Nat} {σ : vS} (hN : 300 < N) (hm : m < 32) : kok (fX6_sizeOf N σ (nI m)) (fun r => r = nI (ps m 5)) := by
  unfold fX6_sizeOf
  refine kok_bd1 (P := fun r => r = nI (ps m 5)) ?_ (fun r hr => kok_some hr)
  refine kok_up (body := fun zz => bX6_sizeOf_4 N σ (nI m) zz.1 zz.2) 5 (fun r q => q = (nI (ps m r), nI r)) (fun r q hr hq => ?_) (fun q hq => ?_) N 0 _ (by omega) (by omega) rfl
  · subst hq
    show kok (bX6_sizeOf_4 N σ (nI m) (nI (ps m r)) (nI r)) _
    unfold bX6_sizeOf_4
    refine kok_f (nI_ge (b := 5) hr (by omega)) (kok_lt (kok_lt (kok_some ?_)))
    show (_, _) = (_, _)
    rw [k_bit m hm r hr, nI_add, nI_1]
    rfl
  · subst hq
    show kok (bX6_sizeOf_4 N σ (nI m) (nI (ps m 5)) (nI 5)) _
    unfold bX6_sizeOf_4
    exact kok_t (nI_le (a := 5) (by omega) (by omega)) (kok_some rfl)
/-- the cells hold R from p on -/
def kce (n p : Nat) (σ : vS) (R : Nat → Nat → Int) : Prop := ∀ i, p ≤ i → i < n → ∀ j, p ≤ j → j < n → σ.2.2.2 4 (5 * i + j) = lI (R i j)
theorem k_dfill {N n m w rc el ch : Nat} {σ : vS} {Am : Nat → Nat → Int} {c : Nat → Nat} (hN : 300 < N) (h : kEM σ w rc el ch Am) (hn : n ≤ 5) (hm : m < 2 ^ (el + ch)) (hs : ps m 5 = n) (hc : ∀ i, i < n → σ.2.1 9 i = nI (c i) ∧ c i < w) :
    kok (k_itr (fun zz => bX6_determinant_5 N (nI n) (nI m) zz.1 zz.2.1 zz.2.2) N ((0 : Int32), (0 : Int32), σ)) (fun σ' => kce n 0 σ' (fun i j => kco w rc (el + ch) Am (c j) (qp m i)) ∧ kf4 σ σ') := by
  have hel := h.2.2.2.2.2.2.1
  have hw := h.2.2.2.1
  have hm32 := two_h hel hm
  refine kok_up (body := fun zz => bX6_determinant_5 N (nI n) (nI m) zz.1 zz.2.1 zz.2.2) 5 (fun r q => q.1 = nI (ps m r) ∧ q.2.1 = nI r ∧ (∀ i, i < ps m r → ∀ j, j < n → q.2.2.2.2.2 4 (5 * i + j) = lI (kco w rc (el + ch) Am (c j) (qp m i))) ∧ kf4 σ q.2.2) (fun r q hr hI => ?_) (fun q hI => ?_) N 0 _ (by omega) (by omega) ⟨rfl, rfl, fun i hi => absurd hi (Nat.not_lt_zero _), kf4.rf σ⟩
  · obtain ⟨i0, r0, σ1⟩ := q
    obtain ⟨e1, e2, e3, e4⟩ := hI
    dsimp only at e1 e2 e3 e4
    subst e1 e2
    have hpm := ps_mono m hm32 r (by omega)
    have hpm1 := ps_mono m hm32 (r + 1) (by omega)
    have hps : ps m (r + 1) = ps m r + qb m r := rfl
    show kok (bX6_determinant_5 N (nI n) (nI m) (nI (ps m r)) (nI r) σ1) _
    unfold bX6_determinant_5
    refine kok_f (nI_ge (b := 5) hr (by omega)) ?_
    by_cases hd : n ≤ ps m r
    · refine kok_t (nI_le hd (by omega)) (kok_some ⟨fun i _ hi j _ hj => e3 i (by omega) j hj, e4⟩)
    · refine kok_f (nI_ge (by omega) (by omega)) ?_
      rw [k_bit m hm32 r hr]
      rcases qb_01 m r with hb | hb
      · rw [hb]
        refine kok_f (by decide) (kok_lt (kok_some ⟨?_, nI_1 r, ?_, e4⟩))
        · show nI (ps m r) = nI (ps m (r + 1))
          rw [hps, hb]; rfl
        · rw [hps, hb]; exact e3
      · rw [hb]
        have hqr := qp_ps m hm32 r hr hb
        have hrh := qp_hi (el + ch) (by omega) m hm (ps m r) (by omega)
        rw [hqr] at hrh
        refine kok_t (by decide) (kok_bd1 (P := fun σ2 => (∀ i, i < ps m r + 1 → ∀ j, j < n → σ2.2.2.2 4 (5 * i + j) = lI (kco w rc (el + ch) Am (c j) (qp m i))) ∧ kf4 σ σ2) ?_ (fun σ2 h2 => ?_))
        · refine kok_for (body := fun zz => bX6_determinant_29 N (nI n) (nI m) (nI (ps m r)) (nI r) zz.1 zz.2) n (fun j σ2 => (∀ i, i < ps m r + 1 → ∀ j', j' < n → (i < ps m r ∨ j' < j) → σ2.2.2.2 4 (5 * i + j') = lI (kco w rc (el + ch) Am (c j') (qp m i))) ∧ kf4 σ σ2) (fun j σ2 hj hI2 => ?_) (fun σ2 hI2 => ?_) N 0 _ (by omega) (Nat.zero_le _) ⟨fun i hi j' hj' h9 => e3 i (by omega) j' hj', e4⟩
          · obtain ⟨f1, f2⟩ := hI2
            show kok (bX6_determinant_29 N (nI n) (nI m) (nI (ps m r)) (nI r) (nI j) σ2) _
            unfold bX6_determinant_29
            have hE2 := h.fr f2.m
            obtain ⟨hcj, hcw⟩ := hc j hj
            refine kok_f (nI_ge hj (by omega)) (kok_g (nI_in (by omega) (by omega)) ?_)
            rw [nI_clamp (by omega), f2.2.1, hcj, k_hasOf hE2 hcw hrh, bd1_s]
            refine kok_g (nI_g (by omega) (by omega)) (kok_g (nI_in (by omega) (by omega)) ?_)
            rw [nI_clamp (by omega), k_ix5, ← f2.2.1, hE2.2.2.2.2.2.2.2.2.2.1 _ hcw]
            have fin : ∀ v : Int64, v = lI (kco w rc (el + ch) Am (c j) r) → kok (some (.inl (nI j + 1, p_b σ2 4 (nI (5 * ps m r + j)).toNatClampNeg v)) : Option ((Int32 × vS) ⊕ vS)) (kso (fun q => ∃ s', q = (nI (j + 1), s') ∧ ((∀ i, i < ps m r + 1 → ∀ j', j' < n → (i < ps m r ∨ j' < j + 1) → s'.2.2.2 4 (5 * i + j') = lI (kco w rc (el + ch) Am (c j') (qp m i))) ∧ kf4 σ s')) (fun σ2 => (∀ i, i < ps m r + 1 → ∀ j, j < n → σ2.2.2.2 4 (5 * i + j) = lI (kco w rc (el + ch) Am (c j) (qp m i))) ∧ kf4 σ σ2)) := fun v hv => by
              refine kok_some ⟨_, Prod.ext (nI_1 _) rfl, fun i hi j' hj' h9 => ?_, f2.tr (kf4.p σ2 _ v)⟩
              rw [pbB, if_pos rfl, nI_clamp (by omega)]
              by_cases g1 : 5 * i + j' = 5 * ps m r + j
              · have g2 : i = ps m r := by omega
                have g3 : j' = j := by omega
                rw [if_pos g1, hv, g2, g3, hqr]
              · rw [if_neg g1]; exact f1 i hi j' hj' (by omega)
            by_cases hrc2 : c j < rc
            · rw [if_pos hrc2]
              refine kok_t rfl (kok_g (nI_in (by omega) (by omega)) (kok_lt (fin _ ?_)))
              unfold kco
              rw [if_pos (show c j < w ∧ r < el + ch from ⟨hcw, hrh⟩), if_pos hrc2]
            · rw [if_neg hrc2]
              refine kok_f (by decide) (kok_g (nI_in (by omega) (by omega)) (kok_lt (fin _ ?_)))
              unfold kco
              rw [if_pos (show c j < w ∧ r < el + ch from ⟨hcw, hrh⟩), if_neg hrc2, lI_neg]
          · obtain ⟨f1, f2⟩ := hI2
            show kok (bX6_determinant_29 N (nI n) (nI m) (nI (ps m r)) (nI r) (nI n) σ2) _
            unfold bX6_determinant_29
            exact kok_t (nI_le (Nat.le_refl _) (by omega)) (kok_some ⟨fun i hi j hj => f1 i hi j hj (Or.inr hj), f2⟩)
        · obtain ⟨f1, f2⟩ := h2
          unfold jX6_determinant_90_5
          refine kok_lt (kok_lt (kok_some ⟨?_, nI_1 r, ?_, f2⟩))
          · show nI (ps m r) + 1 = nI (ps m (r + 1))
            rw [hps, hb]; exact nI_1 _
          · rw [hps, hb]; exact f1
  · obtain ⟨i0, r0, σ1⟩ := q
    obtain ⟨e1, e2, e3, e4⟩ := hI
    dsimp only at e1 e2 e3 e4
    subst e1 e2
    show kok (bX6_determinant_5 N (nI n) (nI m) (nI (ps m 5)) (nI 5) σ1) _
    unfold bX6_determinant_5
    exact kok_t (nI_le (a := 5) (by omega) (by omega)) (kok_some ⟨fun i _ hi j _ hj => e3 i (by omega) j hj, e4⟩)
