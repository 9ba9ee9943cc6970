/-! Sums, solutions, and the simulation as a whole. -/
def kwt (a b : Nat → Int) : Nat → Int
  | 0 => 0
  | i + 1 => kwt a b i + a i * b i
theorem q_12 {N : Nat} {σK σM : vS} {xs : Nat → Int32} {n : Nat} (hN : 300 < N) (h : kRel σK σM) : st_12 N kRel σK σM xs n := by
  unfold st_12 fX5_weight fX6_weight
  have thr : ∀ v : Int32, v ≠ 0 → ∃ b, jX6_weight_28 N (p_i σM 0 v) (xs (n + 1)) = some (b, p_i σM 0 v) := fun v hv => by
    unfold jX6_weight_28
    rw [k_itr_1 (body := fun zz => bX6_weight_33 N (p_i σM 0 v) (xs (n + 1)) zz.1 zz.2) (s := ((0 : Int64), (0 : Int32))) (r := 0) (by
      show bX6_weight_33 N (p_i σM 0 v) (xs (n + 1)) 0 0 = _
      unfold bX6_weight_33
      by_cases h9 : (p_i σM 0 v).1 8 ≤ 0
      · rw [if_pos h9]
      · rw [if_neg h9, if_neg (by rw [pi_at]; exact hv)]) N (by omega), bd1_s]
    exact ⟨_, rfl⟩
  obtain ⟨b1, t1⟩ := thr 1 (by decide)
  obtain ⟨b2, t2⟩ := thr 2 (by decide)
  rcases h.c with h0 | ⟨w, rc, el, ch, Am, hr⟩
  · right; left
    rw [(k_ck0 h0 _).1, (k_ck0 h0 _).2, bd1_s, bd1_s, if_pos rfl, if_pos rfl, t1]
    exact ⟨_, _, rfl, rfl, pi_at _ _ _, h.t 1⟩
  · rcases k_ck (N := N) hr (xs (n + 1)) with ⟨e1, e2⟩ | ⟨t, ht, ex, e1, e2⟩
    · right; left
      rw [e1, e2, bd1_s, bd1_s, if_pos rfl, if_pos rfl, t1]
      exact ⟨_, _, rfl, rfl, pi_at _ _ _, h.t 1⟩
    · rw [e1, e2, bd1_s, bd1_s, if_neg (show ¬ (1 : Int32) = 0 by decide), if_neg (show ¬ (1 : Int32) = 0 by decide)]
      obtain ⟨r, r1, r2⟩ := k_bal' hN hr
      obtain ⟨h1, h2, h3, h4, h5, h6, h7, h8⟩ := hr
      have hw := h3.2.2.2.2.1
      have hrc := h3.2.2.2.2.2.1
      rw [r1, bd1_s, h6.2.1]
      rcases r2 with ⟨rfl, hv⟩ | ⟨rfl, hv⟩
      · left
        rw [if_pos hv, if_neg (by decide), ex]
        have hk1 : 0 < kcn (kco w rc (el + ch) Am) w := by
          rcases Nat.eq_zero_or_pos (kcn (kco w rc (el + ch) Am) w) with e | e
          · unfold kvd at hv
            rw [if_pos e] at hv
            exact absurd hv (by decide)
          · exact e
        have hK : kok (k_itr (fun zz => bX5_weight_47 N σK (nI t) zz.1 zz.2) N ((0 : Int64), (0 : Int32))) (fun r => r = lI (kwt (kbr (kco w rc (el + ch) Am) 0) (fun j => Am j t) rc)) := by
          refine kok_up (body := fun zz => bX5_weight_47 N σK (nI t) zz.1 zz.2) rc (fun i s => s.2 = nI i ∧ s.1 = lI (kwt (kbr (kco w rc (el + ch) Am) 0) (fun j => Am j t) i)) (fun i s hi hI => ?_) (fun s hI => ?_) N 0 _ (by omega) (Nat.zero_le _) ⟨rfl, rfl⟩
          · obtain ⟨a, b⟩ := s
            obtain ⟨g1, g2⟩ := hI
            dsimp only at g1 g2
            subst g1 g2
            show kok (bX5_weight_47 N σK (nI t) _ (nI i)) _
            unfold bX5_weight_47
            have hb := h3.2.2.2.2.2.2.2.2.2.2 i (by omega) t ht
            rw [h3.2.1, k_amount h3 (show i < w by omega) ht, bd1_s]
            refine kok_f (nI_ge hi (by omega)) (kok_g (nI_in (by omega) (by omega)) (kok_lt (kok_lt (kok_some ⟨nI_1 i, ?_⟩))))
            show lI _ + σK.2.2.2 5 (nI i).toNatClampNeg * (Int32.ofInt (Am i t)).toInt64 = lI (kwt _ _ i + _ * _)
            rw [nI_clamp (by omega), show σK.2.2.2 5 i = lI (kbr (kco w rc (el + ch) Am) 0 i) from (h6.2.2.2 0 hk1 i (by omega)).1, lI_i, iI_toInt (by omega), lI_mul, lI_add]
          · obtain ⟨a, b⟩ := s
            obtain ⟨g1, g2⟩ := hI
            dsimp only at g1 g2
            subst g1 g2
            show kok (bX5_weight_47 N σK (nI t) _ (nI rc)) _
            unfold bX5_weight_47
            rw [h3.2.1]
            exact kok_t (nI_le (Nat.le_refl _) (by omega)) (kok_some rfl)
        have h4' : kEM (p_i σM 0 0) w rc el ch Am := h4.f2 (fun i _ _ => pi_ne (by omega)) rfl rfl rfl
        have hM : kok (k_itr (fun zz => bX6_weight_33 N (p_i σM 0 0) (nI t) zz.1 zz.2) N ((0 : Int64), (0 : Int32))) (fun r => r = lI (kwt (kbr (kco w rc (el + ch) Am) 0) (fun j => Am j t) rc)) := by
          refine kok_up (body := fun zz => bX6_weight_33 N (p_i σM 0 0) (nI t) zz.1 zz.2) w (fun i s => s.2 = nI i ∧ s.1 = lI (kwt (kbr (kco w rc (el + ch) Am) 0) (fun j => Am j t) (if i < rc then i else rc))) (fun i s hi hI => ?_) (fun s hI => ?_) N 0 _ (by omega) (Nat.zero_le _) ⟨rfl, ?_⟩
          · obtain ⟨a, b⟩ := s
            obtain ⟨g1, g2⟩ := hI
            dsimp only at g1 g2
            subst g1 g2
            show kok (bX6_weight_33 N (p_i σM 0 0) (nI t) _ (nI i)) _
            unfold bX6_weight_33
            rw [h4'.1, k_hasOf h4' hi ht, bd1_s]
            refine kok_f (nI_ge hi (by omega)) (kok_t (pi_at _ _ _) (kok_g (nI_in (by omega) (by omega)) ?_))
            rw [nI_clamp (by omega), h4'.2.2.2.2.2.2.2.2.2.1 i hi]
            by_cases hir : i < rc
            · rw [if_pos hir]
              refine kok_t rfl (kok_g (nI_g (by omega) (by omega)) (kok_lt (kok_lt (kok_some ⟨nI_1 i, ?_⟩))))
              have hm := h7.2.2 0 hk1 i hi
              rw [Nat.mul_zero, Nat.zero_add] at hm
              show lI (kwt _ _ (if i < rc then i else rc)) + σM.2.2.2 3 i * lI (Am i t) = _
              rw [if_pos hir, hm, lI_mul, lI_add]
              by_cases hir2 : i + 1 < rc
              · rw [if_pos hir2]; rfl
              · rw [if_neg hir2, show rc = i + 1 by omega]; rfl
            · rw [if_neg hir]
              refine kok_f (by decide) (kok_lt (kok_lt (kok_some ⟨nI_1 i, ?_⟩)))
              show lI (kwt _ _ (if i < rc then i else rc)) + 0 = _
              rw [if_neg hir, if_neg (by omega), lI_0, lI_add, Int.add_zero]
          · obtain ⟨a, b⟩ := s
            obtain ⟨g1, g2⟩ := hI
            dsimp only at g1 g2
            subst g1 g2
            show kok (bX6_weight_33 N (p_i σM 0 0) (nI t) _ (nI w)) _
            unfold bX6_weight_33
            rw [h4'.1]
            refine kok_t (nI_le (Nat.le_refl _) (by omega)) (kok_some ?_)
            show lI _ = lI _
            rw [if_neg (show ¬ w < rc by omega)]
          · by_cases hir : 0 < rc
            · rw [if_pos hir]; rfl
            · rw [if_neg hir, show rc = 0 by omega]; rfl
        obtain ⟨x1, y1, z1⟩ := hK
        obtain ⟨x2, y2, z2⟩ := hM
        unfold jX6_weight_28
        rw [y1, y2, bd1_s, bd1_s, z1, z2]
        exact ⟨_, _, rfl, rfl, pi_at _ _ _, h.t 0⟩
      · right; right
        rw [if_neg hv, if_pos rfl, t2]
        exact ⟨_, _, rfl, rfl, pi_at _ _ _, h.t 2⟩
/-- the sum of a solution at a kind -/
def kzz (q : Nat → Int) (a : Nat → Nat → Int) (t : Nat) : Nat → Int
  | 0 => 0
  | i + 1 => kzz q a t i + q i * a i t
theorem kzz_ext {q : Nat → Int} {a : Nat → Nat → Int} {t w : Nat} (h : ∀ j, w ≤ j → a j t = 0) : ∀ n, kzz q a t (w + n) = kzz q a t w := by
  intro n
  induction n with
  | zero => rfl
  | succ n ih =>
    show kzz q a t (w + n) + q (w + n) * a (w + n) t = _
    rw [ih, h (w + n) (by omega), Int.mul_zero, Int.add_zero]
theorem k_share2 {N : Nat} {σ : vS} {w rc el ch j t : Nat} {Am : Nat → Nat → Int} (h : kEq σ w rc el ch Am) (ht : t < el + ch) (hj : j < 6) (x : Int32) : fX1_share N σ (nI j) (nI t) x.toInt64 = some (lI (x.toInt * kco w rc (el + ch) Am j t)) := by
  have hw := h.2.2.2.2.1
  by_cases hjw : j < w
  · rw [lI_i, k_share h hjw ht]
  · unfold fX1_share
    rw [k_contF h, if_pos (Or.inr (nI_le (by omega) (by omega))), bd1_s, if_pos rfl]
    unfold kco
    rw [if_neg (by omega), Int.mul_zero]; rfl
theorem q_14 {N : Nat} {σK σM : vS} {xs : Nat → Int32} {n : Nat} (hN : 300 < N) (h : kRel σK σM) : st_14 N kRel σK σM xs n := by
  unfold st_14 fX5_solves fX6_solves
  have thr : jX6_solves_25 N (p_i σM 0 1) (xs (n + 1)) (xs (n + 2)) (xs (n + 3)) (xs (n + 4)) (xs (n + 5)) = some (0, p_i σM 0 1) := by
    unfold jX6_solves_25
    rw [if_neg (by rw [pi_at]; decide)]
    unfold jX6_solves_39
    rw [k_itr_1 (body := fun zz => bX6_solves_42 N (p_i σM 0 1) (xs (n + 1)) (xs (n + 2)) (xs (n + 3)) (xs (n + 4)) (xs (n + 5)) zz.1 zz.2) (s := ((0 : Int32), (0 : Int32))) (r := 0) (by
      show bX6_solves_42 N (p_i σM 0 1) (xs (n + 1)) (xs (n + 2)) (xs (n + 3)) (xs (n + 4)) (xs (n + 5)) 0 0 = _
      unfold bX6_solves_42
      have hk : ∃ r, fX6_kindCount N (p_i σM 0 1) = some r := by
        unfold fX6_kindCount
        split <;> exact ⟨_, rfl⟩
      obtain ⟨r, hr⟩ := hk
      rw [hr, bd1_s]
      by_cases h9 : r ≤ 0
      · rw [if_pos h9]
      · rw [if_neg h9, if_pos rfl]) N (by omega), bd1_s]
    unfold jX6_solves_182
    rw [if_neg (by decide)]
  rcases h.c with h0 | ⟨w, rc, el, ch, Am, h1, h2, h3, h4, h5, h6, h7, h8⟩
  · right
    rw [if_pos h0.2.1, if_pos h0.1, thr]
    exact ⟨_, _, rfl, rfl, pi_at _ _ _, h.t 1⟩
  · have hw := h3.2.2.2.2.1
    have hrc := h3.2.2.2.2.2.1
    have hel := h3.2.2.2.2.2.2.2.1
    rw [h3.1, h4.1, if_neg (nI_ne0 h2 (by omega)), if_neg (show ¬ σM.1 7 = 0 by rw [h1]; decide)]
    by_cases hw6 : w = 6
    · right
      rw [if_pos (nlE 6 6 rfl hw6), if_pos (nlE 6 6 rfl hw6), thr]
      exact ⟨_, _, rfl, rfl, pi_at _ _ _, h.t 1⟩
    · left
      rw [if_neg (nlN 6 6 rfl (by omega) (by omega) hw6), if_neg (nlN 6 6 rfl (by omega) (by omega) hw6)]
      have hall : ∃ q : Nat → Int, q 0 = (xs (n + 1)).toInt ∧ q 1 = (xs (n + 2)).toInt ∧ q 2 = (xs (n + 3)).toInt ∧ q 3 = (xs (n + 4)).toInt ∧ q 4 = (xs (n + 5)).toInt := ⟨fun i => if i = 0 then (xs (n + 1)).toInt else if i = 1 then (xs (n + 2)).toInt else if i = 2 then (xs (n + 3)).toInt else if i = 3 then (xs (n + 4)).toInt else (xs (n + 5)).toInt, rfl, rfl, rfl, rfl, rfl⟩
      obtain ⟨q, q0, q1, q2, q3, q4⟩ := hall
      have hzw : ∀ t, kzz q (kco w rc (el + ch) Am) t 5 = kzz q (kco w rc (el + ch) Am) t w := fun t => by
        have := kzz_ext (q := q) (a := kco w rc (el + ch) Am) (t := t) (w := w) (fun j hj => by unfold kco; rw [if_neg (by omega)]) (5 - w)
        rw [show w + (5 - w) = 5 by omega] at this
        exact this
      have hK : kok (bds (k_itr (fun zz => bX5_solves_38 N σK (xs (n + 1)) (xs (n + 2)) (xs (n + 3)) (xs (n + 4)) (xs (n + 5)) zz) N (0 : Int32)) fun _ => jX5_solves_121 N σK) (fun r => (r = .inl 1 ∧ ∀ t, t < el + ch → lI (kzz q (kco w rc (el + ch) Am) t w) = 0) ∨ (r = .inl 0 ∧ ∃ t, t < el + ch ∧ lI (kzz q (kco w rc (el + ch) Am) t w) ≠ 0)) := by
        refine kok_bds ?_
        refine kok_for0 (body := fun zz => bX5_solves_38 N σK (xs (n + 1)) (xs (n + 2)) (xs (n + 3)) (xs (n + 4)) (xs (n + 5)) zz) (el + ch) (fun t => ∀ t', t' < t → lI (kzz q (kco w rc (el + ch) Am) t' w) = 0) (fun t ht hI => ?_) (fun hI => ?_) N 0 (by omega) (Nat.zero_le _) (fun t' h => by omega)
        · show kok (bX5_solves_38 N σK (xs (n + 1)) (xs (n + 2)) (xs (n + 3)) (xs (n + 4)) (xs (n + 5)) (nI t)) _
          unfold bX5_solves_38
          rw [k_kindCount h3, bd1_s]
          refine kok_f (nI_ge ht (by omega)) ?_
          have s0 : fX1_share N σK 0 (nI t) (xs (n + 1)).toInt64 = _ := k_share2 (j := 0) h3 ht (by omega) _
          have s1 : fX1_share N σK 1 (nI t) (xs (n + 2)).toInt64 = _ := k_share2 (j := 1) h3 ht (by omega) _
          have s2 : fX1_share N σK 2 (nI t) (xs (n + 3)).toInt64 = _ := k_share2 (j := 2) h3 ht (by omega) _
          have s3 : fX1_share N σK 3 (nI t) (xs (n + 4)).toInt64 = _ := k_share2 (j := 3) h3 ht (by omega) _
          have s4 : fX1_share N σK 4 (nI t) (xs (n + 5)).toInt64 = _ := k_share2 (j := 4) h3 ht (by omega) _
          rw [s0, bd1_s, s1, bd1_s, s2, bd1_s, s3, bd1_s, s4, bd1_s, k_lt_e, lI_add, lI_add, lI_add, lI_add]
          have hz : (xs (n + 1)).toInt * kco w rc (el + ch) Am 0 t + (xs (n + 2)).toInt * kco w rc (el + ch) Am 1 t + (xs (n + 3)).toInt * kco w rc (el + ch) Am 2 t + (xs (n + 4)).toInt * kco w rc (el + ch) Am 3 t + (xs (n + 5)).toInt * kco w rc (el + ch) Am 4 t = kzz q (kco w rc (el + ch) Am) t w := by
            rw [← hzw t]
            show _ = 0 + q 0 * _ + q 1 * _ + q 2 * _ + q 3 * _ + q 4 * _
            rw [q0, q1, q2, q3, q4, Int.zero_add]
          rw [hz]
          refine kok_i (fun h9 => kok_lt (kok_some ⟨nI_1 t, fun t' ht' => ?_⟩)) (fun h9 => kok_some (Or.inr ⟨rfl, t, ht, fun e => h9 ((lg_cmp_eq _ _).mpr e)⟩))
          by_cases e : t' = t
          · rw [e]; exact (lg_cmp_eq _ _).mp h9
          · exact hI t' (by omega)
        · show kok (bX5_solves_38 N σK (xs (n + 1)) (xs (n + 2)) (xs (n + 3)) (xs (n + 4)) (xs (n + 5)) (nI (el + ch))) _
          unfold bX5_solves_38
          rw [k_kindCount h3, bd1_s]
          refine kok_t (nI_le (Nat.le_refl _) (by omega)) (kok_some ?_)
          show kok (jX5_solves_121 N σK) _
          exact kok_some (Or.inl ⟨rfl, hI⟩)
      have h4' : kEM (p_i σM 0 0) w rc el ch Am := h4.f2 (fun i _ _ => pi_ne (by omega)) rfl rfl rfl
      have hin : ∀ t, t < el + ch → k_itr (fun zz => bX6_solves_62 N (p_i σM 0 0) (xs (n + 1)) (xs (n + 2)) (xs (n + 3)) (xs (n + 4)) (xs (n + 5)) (nI t) zz.1 zz.2) N ((0 : Int64), (0 : Int32)) = some (lI (kzz q (kco w rc (el + ch) Am) t w)) := fun t ht => by
        have hk : kok (k_itr (fun zz => bX6_solves_62 N (p_i σM 0 0) (xs (n + 1)) (xs (n + 2)) (xs (n + 3)) (xs (n + 4)) (xs (n + 5)) (nI t) zz.1 zz.2) N ((0 : Int64), (0 : Int32))) (fun r => r = lI (kzz q (kco w rc (el + ch) Am) t w)) := by
          refine kok_up (body := fun zz => bX6_solves_62 N (p_i σM 0 0) (xs (n + 1)) (xs (n + 2)) (xs (n + 3)) (xs (n + 4)) (xs (n + 5)) (nI t) zz.1 zz.2) w (fun i s => s.2 = nI i ∧ s.1 = lI (kzz q (kco w rc (el + ch) Am) t i)) (fun i s hi hI => ?_) (fun s hI => ?_) N 0 _ (by omega) (Nat.zero_le _) ⟨rfl, rfl⟩
          · obtain ⟨a, b⟩ := s
            obtain ⟨g1, g2⟩ := hI
            dsimp only at g1 g2
            subst g1 g2
            show kok (bX6_solves_62 N (p_i σM 0 0) (xs (n + 1)) (xs (n + 2)) (xs (n + 3)) (xs (n + 4)) (xs (n + 5)) (nI t) _ (nI i)) _
            unfold bX6_solves_62
            rw [h4'.1]
            refine kok_f (nI_ge hi (by omega)) ?_
            have e120 : ∀ y : Int32, y.toInt = q i → kok (jX6_solves_120_62 N (p_i σM 0 0) (xs (n + 1)) (xs (n + 2)) (xs (n + 3)) (xs (n + 4)) (xs (n + 5)) (nI t) (lI (kzz q (kco w rc (el + ch) Am) t i)) (nI i) y.toInt64) (kso (fun s' => s'.2 = nI (i + 1) ∧ s'.1 = lI (kzz q (kco w rc (el + ch) Am) t (i + 1))) (fun r => r = lI (kzz q (kco w rc (el + ch) Am) t w))) := fun y hy => by
              unfold jX6_solves_120_62
              rw [k_hasOf h4' hi ht, bd1_s, lI_i, hy, lI_mul]
              refine kok_lt (kok_g (nI_in (by omega) (by omega)) ?_)
              rw [nI_clamp (by omega), h4'.2.2.2.2.2.2.2.2.2.1 i hi]
              by_cases hir : i < rc
              · rw [if_pos hir]
                refine kok_t rfl (kok_lt (kok_lt (kok_some ⟨nI_1 i, ?_⟩)))
                show lI _ + lI _ = lI (kzz _ _ t i + q i * kco w rc (el + ch) Am i t)
                unfold kco
                rw [if_pos (show i < w ∧ t < el + ch from ⟨hi, ht⟩), if_pos hir, lI_add]
              · rw [if_neg hir]
                refine kok_f (by decide) (kok_lt (kok_lt (kok_some ⟨nI_1 i, ?_⟩)))
                show lI _ + - lI _ = lI (kzz _ _ t i + q i * kco w rc (el + ch) Am i t)
                unfold kco
                rw [if_pos (show i < w ∧ t < el + ch from ⟨hi, ht⟩), if_neg hir, lI_neg, lI_add, Int.mul_neg]
            rcases (show i = 0 ∨ i = 1 ∨ i = 2 ∨ i = 3 ∨ i = 4 by omega) with rfl | rfl | rfl | rfl | rfl
            · exact kok_t rfl (kok_lt (e120 _ q0.symm))
            · exact kok_f (by decide) (kok_t rfl (kok_lt (e120 _ q1.symm)))
            · exact kok_f (by decide) (kok_f (by decide) (kok_t rfl (kok_lt (e120 _ q2.symm))))
            · exact kok_f (by decide) (kok_f (by decide) (kok_f (by decide) (kok_t rfl (kok_lt (e120 _ q3.symm)))))
            · exact kok_f (by decide) (kok_f (by decide) (kok_f (by decide) (kok_f (by decide) (kok_lt (e120 _ q4.symm)))))
          · obtain ⟨a, b⟩ := s
            obtain ⟨g1, g2⟩ := hI
            dsimp only at g1 g2
            subst g1 g2
            show kok (bX6_solves_62 N (p_i σM 0 0) (xs (n + 1)) (xs (n + 2)) (xs (n + 3)) (xs (n + 4)) (xs (n + 5)) (nI t) _ (nI w)) _
            unfold bX6_solves_62
            rw [h4'.1]
            exact kok_t (nI_le (Nat.le_refl _) (by omega)) (kok_some rfl)
        obtain ⟨r, e1, e2⟩ := hk
        rw [e1, e2]
      have hM : kok (k_itr (fun zz => bX6_solves_42 N (p_i σM 0 0) (xs (n + 1)) (xs (n + 2)) (xs (n + 3)) (xs (n + 4)) (xs (n + 5)) zz.1 zz.2) N ((1 : Int32), (0 : Int32))) (fun r => (r = 1 ∧ ∀ t, t < el + ch → lI (kzz q (kco w rc (el + ch) Am) t w) = 0) ∨ (r = 0 ∧ ∃ t, t < el + ch ∧ lI (kzz q (kco w rc (el + ch) Am) t w) ≠ 0)) := by
        refine kok_up (body := fun zz => bX6_solves_42 N (p_i σM 0 0) (xs (n + 1)) (xs (n + 2)) (xs (n + 3)) (xs (n + 4)) (xs (n + 5)) zz.1 zz.2) (el + ch) (fun t s => s.2 = nI t ∧ ((s.1 = 1 ∧ ∀ t', t' < t → lI (kzz q (kco w rc (el + ch) Am) t' w) = 0) ∨ (s.1 = 0 ∧ ∃ t', t' < el + ch ∧ lI (kzz q (kco w rc (el + ch) Am) t' w) ≠ 0))) (fun t s ht hI => ?_) (fun s hI => ?_) N 0 _ (by omega) (Nat.zero_le _) ⟨rfl, Or.inl ⟨rfl, fun t' h => by omega⟩⟩
        · obtain ⟨a, b⟩ := s
          obtain ⟨g1, g2⟩ := hI
          dsimp only at g1 g2
          subst g1
          show kok (bX6_solves_42 N (p_i σM 0 0) (xs (n + 1)) (xs (n + 2)) (xs (n + 3)) (xs (n + 4)) (xs (n + 5)) a (nI t)) _
          unfold bX6_solves_42
          rw [k_kindM h4', bd1_s]
          refine kok_f (nI_ge ht (by omega)) ?_
          rcases g2 with ⟨rfl, g3⟩ | ⟨rfl, g3⟩
          · refine kok_f (by decide) ?_
            rw [hin t ht, bd1_s]
            unfold jX6_solves_162_42
            refine kok_i (fun h9 => kok_lt (kok_some ⟨nI_1 t, Or.inl ⟨rfl, fun t' ht' => ?_⟩⟩)) (fun h9 => kok_lt (kok_some ⟨nI_1 t, Or.inr ⟨rfl, t, ht, fun e => h9 ((lg_cmp_eq _ _).mpr e)⟩⟩))
            by_cases e : t' = t
            · rw [e]; exact (lg_cmp_eq _ _).mp h9
            · exact g3 t' (by omega)
          · exact kok_t rfl (kok_some (Or.inr ⟨rfl, g3⟩))
        · obtain ⟨a, b⟩ := s
          obtain ⟨g1, g2⟩ := hI
          dsimp only at g1 g2
          subst g1
          show kok (bX6_solves_42 N (p_i σM 0 0) (xs (n + 1)) (xs (n + 2)) (xs (n + 3)) (xs (n + 4)) (xs (n + 5)) a (nI (el + ch))) _
          unfold bX6_solves_42
          rw [k_kindM h4', bd1_s]
          exact kok_t (nI_le (Nat.le_refl _) (by omega)) (kok_some g2)
      obtain ⟨x1, y1, z1⟩ := hK
      obtain ⟨x2, y2, z2⟩ := hM
      unfold jX6_solves_25
      rw [if_pos (show (p_i σM 0 0).1 0 = 0 from pi_at _ _ _)]
      unfold jX6_solves_39
      rw [y1, y2, bd1_s]
      unfold jX6_solves_182
      rcases z1 with ⟨rfl, c1⟩ | ⟨rfl, t, ht, c1⟩
      · rcases z2 with ⟨rfl, c2⟩ | ⟨rfl, t, ht, c2⟩
        · rw [if_neg (by decide)]
          exact ⟨_, _, rfl, rfl, pi_at _ _ _, h.t 0⟩
        · exact absurd (c1 t ht) c2
      · rcases z2 with ⟨rfl, c2⟩ | ⟨rfl, t, ht, c2⟩
        · exact absurd (c2 t ht) c1
        · rw [if_neg (by decide)]
          exact ⟨_, _, rfl, rfl, pi_at _ _ _, h.t 0⟩
theorem q_1 {N : Nat} {σK σM : vS} {xs : Nat → Int32} {n : Nat} (hN : 1000 < N) (h : kRel σK σM) : st_1 N kRel σK σM xs n := k_read hN h
theorem k_sim : k_Sim := by
  refine ⟨100000, fun _ => kRel, ⟨kDr0 rfl rfl, rfl, Or.inl ⟨rfl, rfl, rfl, rfl, rfl, rfl⟩⟩, fun xs j σK σM _ h => ⟨fun o ho _ => ?_, fun _ => h⟩⟩
  rcases (show o = 0 ∨ o = 1 ∨ o = 2 ∨ o = 3 ∨ o = 4 ∨ o = 5 ∨ o = 6 ∨ o = 7 ∨ o = 8 ∨ o = 9 ∨ o = 10 ∨ o = 11 ∨ o = 12 ∨ o = 13 ∨ o = 14 by omega) with rfl | rfl | rfl | rfl | rfl | rfl | rfl | rfl | rfl | rfl | rfl | rfl | rfl | rfl | rfl
  · exact q_0 (xs := xs) (n := 6 * j) (by omega) h
  · exact q_1 (xs := xs) (n := 6 * j) (by omega) h
  · exact q_2 (xs := xs) (n := 6 * j) h
  · exact q_3 (xs := xs) (n := 6 * j) (by omega) h
  · exact q_4 (xs := xs) (n := 6 * j) h
  · exact q_5 (xs := xs) (n := 6 * j) h
  · exact q_6 (xs := xs) (n := 6 * j) h
  · exact q_7 (xs := xs) (n := 6 * j) h
  · exact q_8 (xs := xs) (n := 6 * j) h
  · exact q_9 (xs := xs) (n := 6 * j) h
  · exact q_10 (xs := xs) (n := 6 * j) h
  · exact q_11 (xs := xs) (n := 6 * j) h
  · exact q_12 (xs := xs) (n := 6 * j) (by omega) h
  · exact q_13 (xs := xs) (n := 6 * j) (by omega) h
  · exact q_14 (xs := xs) (n := 6 * j) (by omega) h
