/-! The reference's solve. -/
theorem ps_h : ∀ h, h < 6 → ∀ m, m < 2 ^ h → ps m 5 ≤ h := by decide +kernel
def kSM (σ : vS) (w : Nat) (a : Nat → Nat → Int) : Prop := σ.1 13 = nI (kcn a w) ∧ (∀ j, j < w → (σ.2.1 8 j = 0 ∨ σ.2.1 8 j = 1) ∧ (σ.2.1 8 j = 0 ↔ kl a j)) ∧ ∀ m, m < kcn a w → ∀ j, j < w → σ.2.2.2 3 (6 * m + j) = lI (kbr a m j)
def kSt (el ch w f : Nat) (a : Nat → Nat → Int) (σ σ' : vS) (k : Nat) (le : Nat → Nat) : Prop := k ≤ el + ch ∧ σ'.1 12 = nI k ∧ (∀ i, i < k → σ'.2.1 7 i = nI (le i)) ∧ kx_ll f k le (kl a) ∧ (∃ T, T < 2 ^ (el + ch) ∧ ps T 5 = k ∧ dt (mf k (fun i => a (le i)) (qE T)) ≠ 0) ∧ σ'.1 13 = nI (kcn a f) ∧ (∀ j, j < f → (σ'.2.1 8 j = 0 ∨ σ'.2.1 8 j = 1) ∧ (σ'.2.1 8 j = 0 ↔ kl a j)) ∧ (∀ m, m < kcn a f → ∀ j, j < w → σ'.2.2.2 3 (6 * m + j) = lI (kbr a m j)) ∧ kfM σ σ'
theorem k_solveM {N w rc el ch : Nat} {σ : vS} {Am : Nat → Nat → Int} (hN : 300 < N) (h : kEM σ w rc el ch Am) : kok (fX6_solve N σ) (fun σ' => kSM σ' w (kco w rc (el + ch) Am) ∧ kfM σ σ') := by
  have hel := h.2.2.2.2.2.2.1
  have hw := h.2.2.2.1
  have ha : kx_in (el + ch) (kco w rc (el + ch) Am) := kco_in h.2.2.2.2.2.2.2.2.2.2
  generalize hae : kco w rc (el + ch) Am = a at ha
  unfold fX6_solve
  refine kok_bd1 (P := fun σ' => ∃ k le, kSt el ch w w a σ σ' k le) ?_ (fun σ' hq => ?_)
  · refine kok_for (body := fun zz => bX6_solve_12 N zz.1 zz.2) w (fun f σ' => ∃ k le, kSt el ch w f a σ σ' k le) (fun f σ' hf hI => ?_) (fun σ' hI => ?_) N 0 _ (by omega) (Nat.zero_le _) ⟨0, fun i => i, Nat.zero_le _, ?_, fun i hi => by omega, ⟨fun m hm => by omega, fun l hl => by omega, fun m m' hm => by omega⟩, ⟨0, Nat.two_pow_pos _, rfl, ?_⟩, ?_, fun j hj => by omega, fun m hm => absurd hm (Nat.not_lt_zero _), ⟨fun i h1 h2 => ?_, fun _ _ _ _ => rfl, rfl, fun _ _ _ => rfl⟩⟩
    · obtain ⟨k, le, hkh, h12, h7, hl, hT, h13, h8, hB, hF⟩ := hI
      have hE := h.fr hF
      have hcb := kcn_b a f
      have hlew : ∀ i, i < k → le i < w := fun i hi => by have := (hl.1 i hi).1; omega
      show kok (bX6_solve_12 N (nI f) σ') _
      unfold bX6_solve_12
      rw [hE.1]
      refine kok_f (nI_ge hf (by omega)) (kok_bd1 (k_note hN (by omega) h12 h7) (fun σ1 h1 => ?_))
      obtain ⟨y1, y2⟩ := h1
      have e12 : σ1.1 12 = nI k := by rw [y1.1]; exact h12
      rw [e12]
      refine kok_g (nI_in (by omega) (by omega)) ?_
      rw [nI_clamp (by omega)]
      have hF1 : kf9 σ' (p_a σ1 9 k (nI f)) := y1.tr (kf9.p _ _ _)
      have hE1 := hE.fr hF1.m
      rw [k_kindM hE1, bd1_s]
      -- what comes behind, for a state that differs in the columns, cells and this formula's mark
      have fin : ∀ (σ2 : vS) (v : Int32), kf9 σ' σ2 → (v = 0 ∨ v = 1) → (v = 0 ↔ kl a f) → (v = 0 → k < el + ch ∧ ∃ T, T < 2 ^ (el + ch) ∧ ps T 5 = k + 1 ∧ dt (mf (k + 1) (fun i => a (if i = k then f else le i)) (qE T)) ≠ 0) → kok (jX6_solve_69_12 N (p_a σ2 8 f v) (nI f)) (kso (fun q => ∃ s', q = (nI (f + 1), s') ∧ ∃ k le, kSt el ch w (f + 1) a σ s' k le) (fun σ' => ∃ k le, kSt el ch w w a σ σ' k le)) := fun σ2 v hσ2 hv hvi hvT => by
        have q12 : σ2.1 12 = nI k := by rw [hσ2.1]; exact h12
        have q13 : σ2.1 13 = nI (kcn a f) := by rw [hσ2.1]; exact h13
        have q7 : ∀ i, i < k → σ2.2.1 7 i = nI (le i) := fun i hi => by rw [hσ2.2.1 7 (by decide)]; exact h7 i hi
        have q8 : ∀ j, j < f + 1 → ((p_a σ2 8 f v).2.1 8 j = 0 ∨ (p_a σ2 8 f v).2.1 8 j = 1) ∧ ((p_a σ2 8 f v).2.1 8 j = 0 ↔ kl a j) := fun j hj => by
          rw [paA, if_pos rfl]
          by_cases e : j = f
          · rw [if_pos e, e]; exact ⟨hv, hvi⟩
          · rw [if_neg e, hσ2.2.1 8 (by decide)]; exact h8 j (by omega)
        have qB : ∀ m, m < kcn a f → ∀ j, j < w → σ2.2.2.2 3 (6 * m + j) = lI (kbr a m j) := by rw [hσ2.2.2.2 3 (by decide)]; exact hB
        have qF : kfM σ (p_a σ2 8 f v) := (hF.tr hσ2.m).tr ⟨fun _ _ _ => rfl, fun b _ h8 _ => by funext j; rw [paA, if_neg h8], rfl, fun _ _ _ => rfl⟩
        unfold jX6_solve_69_12
        refine kok_g (nI_in (by omega) (by omega)) ?_
        rw [nI_clamp (by omega), paA, if_pos rfl, if_pos rfl]
        refine kok_i (fun h0 => ?_) (fun h0 => ?_)
        · obtain ⟨hk2, T, t1, t2, t3⟩ := hvT h0
          have hlf := hvi.mp h0
          rw [show (p_a σ2 8 f v).1 12 = nI k from q12]
          refine kok_g (nI_in (by omega) (by omega)) (kok_lt (kok_some ⟨_, Prod.ext (nI_1 _) rfl, k + 1, fun i => if i = k then f else le i, by omega, ?_, fun i hi => ?_, ⟨fun m hm => ?_, fun l hl' hll => ?_, fun m m' hm hm' e => ?_⟩, ⟨T, t1, t2, t3⟩, ?_, ?_, ?_, qF.tr ⟨fun i g1 g2 => ?_, fun b g1 g2 g3 => ?_, rfl, fun _ _ _ => rfl⟩⟩))
          · rw [piI, if_pos rfl]; exact nI_1 k
          · show (p_a (p_a σ2 8 f v) 7 (nI k).toNatClampNeg (nI f)).2.1 7 i = _
            rw [nI_clamp (by omega), paA, if_pos rfl]
            by_cases e : i = k
            · simp only [e, if_true]
            · simp only [e, if_false]
              rw [paA, if_neg (by decide)]; exact q7 i (by omega)
          · by_cases e : m = k
            · simp only [e, if_true]; exact ⟨by omega, hlf⟩
            · simp only [e, if_false]
              have := hl.1 m (by omega)
              exact ⟨by omega, this.2⟩
          · by_cases e : l = f
            · exact ⟨k, by omega, by simp only [if_true]; exact e.symm⟩
            · obtain ⟨m, hm, e2⟩ := hl.2.1 l (by omega) hll
              exact ⟨m, by omega, by simp only [show m ≠ k by omega, if_false]; exact e2⟩
          · by_cases e1 : m = k
            · by_cases e2 : m' = k
              · omega
              · simp only [e1, e2, if_true, if_false] at e
                have := (hl.1 m' (by omega)).1
                omega
            · by_cases e2 : m' = k
              · simp only [e1, e2, if_true, if_false] at e
                have := (hl.1 m (by omega)).1
                omega
              · simp only [e1, e2, if_false] at e
                exact hl.2.2 m m' (by omega) (by omega) e
          · rw [piI, if_neg (by decide), kcn_l hlf]; exact q13
          · intro j hj
            show ((p_a (p_a σ2 8 f v) 7 (nI k).toNatClampNeg (nI f)).2.1 8 j = 0 ∨ (p_a (p_a σ2 8 f v) 7 (nI k).toNatClampNeg (nI f)).2.1 8 j = 1) ∧ ((p_a (p_a σ2 8 f v) 7 (nI k).toNatClampNeg (nI f)).2.1 8 j = 0 ↔ kl a j)
            rw [paA (p_a σ2 8 f v), if_neg (by decide)]
            exact q8 j hj
          · rw [kcn_l hlf]; exact qB
          · rw [piI, if_neg g1]
            rfl
          · funext j
            show (p_a (p_a σ2 8 f v) 7 (nI k).toNatClampNeg (nI f)).2.1 b j = _
            rw [paA, if_neg g1]
        · have hnl : ¬ kl a f := fun h9 => h0 (hvi.mpr h9)
          have hE2 : kEM (p_a σ2 8 f v) w rc el ch Am := h.fr qF
          refine kok_bd1 (k_makeM (a := a) (le := le) (k := k) (fr := kcn a f) hN hE2 hae ha (by omega) q12 (fun i hi => by rw [paA, if_neg (by decide)]; exact q7 i hi) q13 (by omega) hl hf hnl hT) (fun σ3 h3 => ?_)
          obtain ⟨⟨x, x1, x2⟩, x3, x4⟩ := h3
          refine kok_lt (kok_some ⟨_, Prod.ext (nI_1 _) rfl, k, le, hkh, (x4.1 12 (by decide)).trans q12, fun i hi => ?_, ⟨fun m hm => ?_, fun l hl' hll => ?_, hl.2.2⟩, hT, ?_, ?_, fun m hm j hj => ?_, qF.tr x4.m⟩)
          · rw [x4.2.1 7 (by decide), paA, if_neg (by decide)]; exact q7 i hi
          · have := hl.1 m hm
            exact ⟨by omega, this.2⟩
          · by_cases e : l = f
            · exact absurd (e ▸ hll) hnl
            · exact hl.2.1 l (by omega) hll
          · rw [kcn_f hnl]; exact x3
          · rw [x4.2.1 8 (by decide)]; exact q8
          · rw [kcn_f hnl] at hm
            by_cases e : m = kcn a f
            · rw [e, x2 j (by omega), kbr_eq hnl, kbv_eq x1 j (by omega)]
            · rw [x4.2.2.2.2 _ (by omega)]
              exact qB m (by omega) j hj
      have hfree : (∀ m, m < 2 ^ (el + ch) → ps m 5 = k + 1 → dt (mf (k + 1) (fun i => if i = k then a f else a (le i)) (qE m)) = 0) → ¬ kl a f := fun hz => by
        obtain ⟨T, t1, t2, t3⟩ := hT
        have h0 := kr_zero (le := le) hel ha t1 t2 (show f < 6 by omega) (fun m hm => by have := hlew m hm; omega) hz
        intro hlf
        refine (kl_iff a f).mp hlf ?_
        have hfl : ∀ m, m < k → le m ≠ f := fun i hi => by have := (hl.1 i hi).1; omega
        refine ⟨kyv f (dt (mf k (fun i => a (le i)) (qE T))) le (fun i j => dt (bu (mf k (fun i => a (le i)) (qE T)) i (a j))) k, ?_, fun j hj hj0 => ?_, ?_⟩
        · rw [kyv_f hfl]; exact t3
        · by_cases e : j = f
          · exact Or.inl e
          · by_cases e2 : ∃ m, m < k ∧ le m = j
            · obtain ⟨m, hm, rfl⟩ := e2
              exact Or.inr (hl.1 m hm)
            · exact absurd (kyv_0 j e (fun m hm e3 => e2 ⟨m, hm, e3⟩)) hj0
        · exact kx_ker_of (le := le) (f := f) (k := k) (by omega) (by omega) (fun m hm => if_pos hm) (fun m hm => by have := hlew m hm; omega) hl.2.2 hfl h0 (kyv_f hfl) (kyv_l hl.2.2) (fun j _ e1 e2 => kyv_0 j e1 e2)
      by_cases hkk : k = el + ch
      · refine kok_t (by rw [hkk]) (kok_g (nI_in (by omega) (by omega)) ?_)
        rw [nI_clamp (by omega)]
        have hnl := hfree (fun m hm hp => by have := ps_h (el + ch) (by omega) m hm; omega)
        exact fin _ _ hF1 (Or.inr rfl) ⟨fun h9 => absurd h9 (by decide), fun h9 => absurd h9 hnl⟩ (fun h9 => absurd h9 (by decide))
      · refine kok_f (fun e => hkk ((nI_eq (by omega) (by omega)).mp e)) ?_
        rw [nI_1]
        have hfe : (fun i => a (if i = k then f else le i)) = (fun i => if i = k then a f else a (le i)) := by
          funext i
          by_cases e : i = k
          · simp [e]
          · simp [e]
        refine kok_bd2 (k_rows hN hE1 (show k + 1 ≤ 5 by omega) (c := fun i => if i = k then f else le i) (fun i hi => ?_)) (fun r3 σ3 h3 => ?_)
        · rw [paA, if_pos rfl]
          by_cases e : i = k
          · simp only [e, if_true]; exact ⟨trivial, hf⟩
          · simp only [e, if_false]; exact ⟨y2 i (by omega), hlew i (by omega)⟩
        obtain ⟨x1, x2⟩ := h3
        dsimp only at x1 x2
        rw [hae] at x2
        rcases x2 with ⟨rfl, hz⟩ | ⟨m, rfl, t1, t2, t3⟩
        · refine kok_f (by decide) (kok_g (nI_in (by omega) (by omega)) ?_)
          rw [nI_clamp (by omega)]
          rw [hfe] at hz
          have hnl := hfree hz
          exact fin _ _ (hF1.tr x1.n) (Or.inr rfl) ⟨fun h9 => absurd h9 (by decide), fun h9 => absurd h9 hnl⟩ (fun h9 => absurd h9 (by decide))
        · have hm32 := two_h hel t1
          refine kok_t (nI_pos' (by omega)) (kok_g (nI_in (by omega) (by omega)) ?_)
          rw [nI_clamp (by omega)]
          have hlf : kl a f := by
            rw [kl_iff]
            rintro ⟨x, x0, xs, xk⟩
            refine t3 ?_
            have h9 := kx_out (show f < 6 by omega) x0 xs xk (C := mf (k + 1) (fun i => a (if i = k then f else le i)) (qE m)) (i := k) (by omega) (fun j hj hlj => ?_)
            · have e9 : bu (mf (k + 1) (fun i => a (if i = k then f else le i)) (qE m)) k (a f) = mf (k + 1) (fun i => a (if i = k then f else le i)) (qE m) := by
                funext i
                unfold bu
                by_cases e : i = k
                · simp [e, mf]
                · simp [e]
              rw [e9] at h9
              exact h9
            · obtain ⟨i, hi, e⟩ := hl.2.1 j hj hlj
              exact ⟨i, by omega, by omega, by simp [mf, show i < k + 1 by omega, show i ≠ k by omega, e]⟩
          exact fin _ _ (hF1.tr x1.n) (Or.inl rfl) ⟨fun _ => hlf, fun _ => rfl⟩ (fun _ => ⟨by omega, m, t1, t2, t3⟩)
    · obtain ⟨k, le, hS⟩ := hI
      show kok (bX6_solve_12 N (nI w) σ') _
      unfold bX6_solve_12
      rw [(h.fr hS.2.2.2.2.2.2.2.2).1]
      exact kok_t (nI_le (Nat.le_refl _) (by omega)) (kok_some ⟨k, le, hS⟩)
    · rw [piI, if_neg (by decide), piI, if_pos rfl]; rfl
    · have e9 : dt (mf 0 (fun i => a i) (qE 0)) = qs 0 := by
        refine dt_congr (fun i _ t _ => ?_)
        unfold mf
        rw [if_neg (Nat.not_lt_zero _)]
      rw [e9]
      rcases qs_1 0 (by decide) with e | e <;> rw [e] <;> decide
    · rw [piI, if_pos rfl]; rfl
    · rw [piI, if_neg h2, piI, if_neg h1]
  · obtain ⟨k, le, hkh, h12, h7, hl, hT, h13, h8, hB, hF⟩ := hq
    exact kok_some ⟨⟨h13, h8, hB⟩, hF⟩
