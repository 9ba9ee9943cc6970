/-! Written lines: characters and numbers. -/
def fwK (σ σ' : vS) : Prop := (∀ i, i ≠ 15 → σ'.1 i = σ.1 i) ∧ (∀ b, b ≠ 8 → σ'.2.1 b = σ.2.1 b) ∧ σ'.2.2.1 = σ.2.2.1 ∧ σ'.2.2.2 = σ.2.2.2
def fwM (σ σ' : vS) : Prop := (∀ i, i ≠ 14 → σ'.1 i = σ.1 i) ∧ (∀ b, b ≠ 10 → σ'.2.1 b = σ.2.1 b) ∧ σ'.2.2.1 = σ.2.2.1 ∧ σ'.2.2.2 = σ.2.2.2
theorem fwK.rf (σ : vS) : fwK σ σ := ⟨fun _ _ => rfl, fun _ _ => rfl, rfl, rfl⟩
theorem fwM.rf (σ : vS) : fwM σ σ := ⟨fun _ _ => rfl, fun _ _ => rfl, rfl, rfl⟩
theorem fwK.tr {σ σ' σ2 : vS} (h1 : fwK σ σ') (h2 : fwK σ' σ2) : fwK σ σ2 := ⟨fun i hi => (h2.1 i hi).trans (h1.1 i hi), fun b hb => (h2.2.1 b hb).trans (h1.2.1 b hb), h2.2.2.1.trans h1.2.2.1, h2.2.2.2.trans h1.2.2.2⟩
theorem fwM.tr {σ σ' σ2 : vS} (h1 : fwM σ σ') (h2 : fwM σ' σ2) : fwM σ σ2 := ⟨fun i hi => (h2.1 i hi).trans (h1.1 i hi), fun b hb => (h2.2.1 b hb).trans (h1.2.1 b hb), h2.2.2.1.trans h1.2.2.1, h2.2.2.2.trans h1.2.2.2⟩
def kLn (σK σM : vS) (n : Nat) : Prop := σK.1 15 = nI n ∧ σM.1 14 = nI n ∧ ∀ i, i < n → σK.2.1 8 i = σM.2.1 10 i
theorem nI_c16 : ∀ n, n < 127 → ((nI n).toUInt32 % 65536).toInt32 = nI n := by decide +kernel
theorem k_addc {N n x : Nat} {σ : vS} (h : σ.1 15 = nI n) (hn : n < 200) (hx : x < 127) : fX2_add N σ (nI x) = some (p_i (p_a σ 8 n (nI x)) 15 (nI (n + 1))) := by
  unfold fX2_add
  rw [h, if_neg (show ¬ (200 : Int32) ≤ nI n from nI_ge (b := 200) hn (by omega)), if_neg (nI_in (by omega) (by omega)), nI_clamp (by omega), nr_char x hx, nI_1]
theorem k_putc {N n x : Nat} {σ : vS} (h : σ.1 14 = nI n) (hn : n < 200) (hx : x < 127) : fX6_put N σ (nI x) = some (p_i (p_a σ 10 n (nI x)) 14 (nI (n + 1))) := by
  unfold fX6_put
  rw [h, if_neg (nI_in (by omega) (by omega)), nI_clamp (by omega), nI_c16 x hx, nr_char x hx, nI_1]
theorem fwK.c (σ : vS) (n : Nat) (x y : Int32) : fwK σ (p_i (p_a σ 8 n x) 15 y) := ⟨fun i hi => by rw [piI, if_neg hi]; rfl, fun b hb => by funext j; show (p_a σ 8 n x).2.1 b j = _; rw [paA, if_neg hb], rfl, rfl⟩
theorem fwM.c (σ : vS) (n : Nat) (x y : Int32) : fwM σ (p_i (p_a σ 10 n x) 14 y) := ⟨fun i hi => by rw [piI, if_neg hi]; rfl, fun b hb => by funext j; show (p_a σ 10 n x).2.1 b j = _; rw [paA, if_neg hb], rfl, rfl⟩
theorem k_ch {N n x : Nat} {σK σM : vS} (h : kLn σK σM n) (hn : n < 200) (hx : x < 127) : ∃ σK' σM', fX2_add N σK (nI x) = some σK' ∧ fX6_put N σM (nI x) = some σM' ∧ kLn σK' σM' (n + 1) ∧ fwK σK σK' ∧ fwM σM σM' := by
  refine ⟨_, _, k_addc h.1 hn hx, k_putc h.2.1 hn hx, ⟨pi_at _ _ _, pi_at _ _ _, fun i hi => ?_⟩, fwK.c _ _ _ _, fwM.c _ _ _ _⟩
  show (p_a σK 8 n (nI x)).2.1 8 i = (p_a σM 10 n (nI x)).2.1 10 i
  rw [paA, paA, if_pos rfl, if_pos rfl]
  by_cases e : i = n
  · rw [if_pos e, if_pos e]
  · rw [if_neg e, if_neg e]; exact h.2.2 i (by omega)
/-- the k-th digit from the last -/
def kdi (n k : Nat) : Nat := n / 10 ^ k % 10
theorem kdi_lt (n k : Nat) : kdi n k < 10 := Nat.mod_lt _ (by decide)
theorem k_digK {N n D f : Nat} {σ : vS} {x1 : Int32} (hN : 300 < N) (hn : n < 2 ^ 62) (hD : n < 10 ^ D) (hD2 : D ≤ 11) (hmin : ∀ k, k < D → 10 ^ k ≤ n) (h15 : σ.1 15 = nI f) (hf : f + D ≤ 200) :
    kok (k_itr (fun zz => bX2_addNumber_11 N x1 zz.1 zz.2.1 zz.2.2) N (lI n, (0 : Int32), σ)) (fun σ' => σ'.1 15 = nI (f + D) ∧ (∀ i, i < f → σ'.2.1 8 i = σ.2.1 8 i) ∧ (∀ k, k < D → σ'.2.1 8 (f + k) = nI (48 + kdi n k)) ∧ fwK σ σ') := by
  refine kok_up (body := fun zz => bX2_addNumber_11 N x1 zz.1 zz.2.1 zz.2.2) D (fun k s => s.1 = lI ((n / 10 ^ k : Nat) : Int) ∧ s.2.1 = nI k ∧ s.2.2.1 15 = nI (f + k) ∧ (∀ i, i < f → s.2.2.2.1 8 i = σ.2.1 8 i) ∧ (∀ k', k' < k → s.2.2.2.1 8 (f + k') = nI (48 + kdi n k')) ∧ fwK σ s.2.2) (fun k s hk hI => ?_) (fun s hI => ?_) N 0 _ (by omega) (Nat.zero_le _) ⟨by rw [Nat.pow_zero, Nat.div_one], rfl, h15, fun _ _ => rfl, fun k' h => by omega, fwK.rf σ⟩
  · obtain ⟨r, i, σ'⟩ := s
    obtain ⟨g1, g2, g3, g4, g5, g6⟩ := hI
    dsimp only at g1 g2 g3 g4 g5 g6
    subst g1 g2
    show kok (bX2_addNumber_11 N x1 (lI ((n / 10 ^ k : Nat) : Int)) (nI k) σ') _
    unfold bX2_addNumber_11
    have hle : n / 10 ^ k ≤ n := Nat.div_le_self _ _
    have hpos : 0 < n / 10 ^ k := Nat.div_pos (hmin k hk) (Nat.pow_pos (by decide))
    have hd := kdi_lt n k
    have hrem : (48 : Int64) + (lI ((n / 10 ^ k : Nat) : Int) - lI ((n / 10 ^ k : Nat) : Int) / 10 * 10) = lI ((48 + kdi n k : Nat) : Int) := by
      rw [show (10 : Int64) = lI 10 from rfl, lI_rem (by omega) (by decide), show (48 : Int64) = lI 48 from rfl, lI_add]
      rfl
    refine kok_f (show ¬ (19 : Int32) ≤ nI k from nI_ge (b := 19) (by omega) (by omega)) (kok_f ?_ (kok_g (by decide) ?_))
    · rw [lg_cmp_le, lI_0, lI_le (by omega) (by decide)]; omega
    · rw [hrem, lI_32, nI_of_int, nI_c16 _ (by omega), k_addc g3 (by omega) (by omega), bd1_s]
      refine kok_g (by decide) (kok_lt (kok_lt (kok_some ⟨?_, nI_1 k, ?_, fun i hi => ?_, fun k' hk' => ?_, g6.tr (fwK.c _ _ _ _)⟩)))
      · show lI ((n / 10 ^ k : Nat) : Int) / 10 = lI ((n / 10 ^ (k + 1) : Nat) : Int)
        rw [show (10 : Int64) = lI 10 from rfl, lI_div (by omega) (by decide), Nat.pow_succ, ← Nat.div_div_eq_div_mul]
        rfl
      · exact pi_at _ _ _
      · show (p_a σ' 8 (f + k) (nI (48 + kdi n k))).2.1 8 i = _
        rw [paA, if_pos rfl, if_neg (by omega)]; exact g4 i hi
      · show (p_a σ' 8 (f + k) (nI (48 + kdi n k))).2.1 8 (f + k') = _
        rw [paA, if_pos rfl]
        by_cases e : k' = k
        · rw [if_pos (by omega), e]
        · rw [if_neg (by omega)]; exact g5 k' (by omega)
  · obtain ⟨r, i, σ'⟩ := s
    obtain ⟨g1, g2, g3, g4, g5, g6⟩ := hI
    dsimp only at g1 g2 g3 g4 g5 g6
    subst g1 g2
    show kok (bX2_addNumber_11 N x1 (lI ((n / 10 ^ D : Nat) : Int)) (nI D) σ') _
    unfold bX2_addNumber_11
    rw [Nat.div_eq_of_lt hD]
    refine kok_f (show ¬ (19 : Int32) ≤ nI D from nI_ge (b := 19) (by omega) (by omega)) (kok_t ?_ (kok_some ⟨g3, g4, g5, g6⟩))
    rw [lg_cmp_le]; decide
theorem k_turn2 {N D f : Nat} {σ : vS} (hN : 300 < N) (hD : 1 ≤ D) (hf : f + D ≤ 200) (h15 : σ.1 15 = nI (f + D)) (hc : ∀ i, i < f + D → ∃ x, x < 127 ∧ σ.2.1 8 i = nI x) :
    kok (fX2_turnRound N σ (nI f)) (fun σ' => σ'.1 15 = nI (f + D) ∧ (∀ i, i < f → σ'.2.1 8 i = σ.2.1 8 i) ∧ (∀ k, k < D → σ'.2.1 8 (f + k) = σ.2.1 8 (f + (D - 1 - k))) ∧ fwK σ σ') := by
  unfold fX2_turnRound
  refine kok_lt (kok_bd1 (P := fun σ' => σ'.1 15 = nI (f + D) ∧ (∀ i, i < f → σ'.2.1 8 i = σ.2.1 8 i) ∧ (∀ k, k < D → σ'.2.1 8 (f + k) = σ.2.1 8 (f + (D - 1 - k))) ∧ fwK σ σ') ?_ (fun σ' h => kok_some h))
  rw [h15, show nI (f + D) - 1 = nI (f + D - 1) from by rw [show (1 : Int32) = nI 1 from rfl, pk_sub (by omega)]]
  refine kok_itr (fun v s => ∃ j, s.1 = nI (f + (D - 1 - j)) ∧ s.2.1 = nI (f + j) ∧ 2 * j ≤ D ∧ v = D - 2 * j ∧ s.2.2.1 15 = nI (f + D) ∧ (∀ i, i < f → s.2.2.2.1 8 i = σ.2.1 8 i) ∧ (∀ k, k < D → s.2.2.2.1 8 (f + k) = if k < j ∨ D - 1 - j < k then σ.2.1 8 (f + (D - 1 - k)) else σ.2.1 8 (f + k)) ∧ fwK σ s.2.2) (fun v s hI => ?_) N D _ (by omega) ⟨0, by show nI (f + D - 1) = _; rw [show f + D - 1 = f + (D - 1 - 0) by omega], rfl, by omega, by omega, h15, fun _ _ => rfl, fun k hk => by rw [if_neg (by omega)], fwK.rf σ⟩
  obtain ⟨la, i, σ'⟩ := s
  obtain ⟨j, g1, g2, g3, rfl, g5, g6, g7, g8⟩ := hI
  dsimp only at g1 g2 g5 g6 g7 g8
  subst g1 g2
  show kok (bX2_turnRound_9 N (nI (f + (D - 1 - j))) (nI (f + j)) σ') _
  unfold bX2_turnRound_9
  by_cases hlt : j < D - 1 - j
  · refine kok_f (nI_ge (by omega) (by omega)) (kok_g (nI_in (by omega) (by omega)) (kok_lt (kok_g (nI_in (by omega) (by omega)) (kok_g (nI_in (by omega) (by omega)) (kok_g (nI_in (by omega) (by omega)) (kok_lt (kok_lt (kok_some ⟨D - 2 * (j + 1), by omega, j + 1, ?_, nI_1 _, by omega, rfl, g5, fun i hi => ?_, fun k hk => ?_, g8.tr ⟨fun _ _ => rfl, fun b hb => ?_, rfl, rfl⟩⟩))))))))
    · show nI (f + (D - 1 - j)) + (-1) = nI (f + (D - 1 - (j + 1)))
      rw [show f + (D - 1 - j) = (f + (D - 1 - (j + 1))) + 1 by omega, pk_m1]
    · rw [nI_clamp (by omega), nI_clamp (by omega), paA, if_pos rfl, if_neg (by omega), paA, if_pos rfl, if_neg (by omega)]
      exact g6 i hi
    · rw [nI_clamp (by omega), nI_clamp (by omega), paA, if_pos rfl, paA, if_pos rfl]
      have h1 := g7 j (by omega)
      have h2 := g7 (D - 1 - j) (by omega)
      rw [if_neg (by omega)] at h1 h2
      obtain ⟨x1, x1b, x1e⟩ := hc (f + j) (by omega)
      obtain ⟨x2, x2b, x2e⟩ := hc (f + (D - 1 - j)) (by omega)
      by_cases e1 : k = D - 1 - j
      · rw [if_pos (by omega), if_pos (by omega), h1, x1e, nr_char x1 x1b, ← x1e, show D - 1 - k = j by omega]
      · rw [if_neg (by omega)]
        by_cases e2 : k = j
        · rw [if_pos (by omega), if_pos (by omega), h2, x2e, nr_char x2 x2b, ← x2e, e2]
        · rw [if_neg (by omega), g7 k hk]
          by_cases e3 : k < j ∨ D - 1 - j < k
          · rw [if_pos e3, if_pos (by omega)]
          · rw [if_neg e3, if_neg (by omega)]
    · funext j'
      rw [paA, if_neg hb, paA, if_neg hb]
  · refine kok_t (nI_le (by omega) (by omega)) (kok_some ⟨g5, g6, fun k hk => ?_, g8⟩)
    rw [g7 k hk]
    by_cases e3 : k < j ∨ D - 1 - j < k
    · rw [if_pos e3]
    · rw [if_neg e3, show D - 1 - k = k by omega]
theorem k_digM {N n D f : Nat} {σ : vS} (hN : 300 < N) (hn : n < 2 ^ 62) (hD : n < 10 ^ D) (hD1 : 1 ≤ D) (hD2 : D ≤ 11) (hmin : ∀ k, k < D → 10 ^ k ≤ n) (h14 : σ.1 14 = nI f) (hf : f + D ≤ 200) :
    kok (fX6_putNumber N σ (lI n)) (fun σ' => σ'.1 14 = nI (f + D) ∧ (∀ i, i < f → σ'.2.1 10 i = σ.2.1 10 i) ∧ (∀ k, k < D → σ'.2.1 10 (f + k) = nI (48 + kdi n (D - 1 - k))) ∧ fwM σ σ') := by
  have hp : ∀ k, k ≤ 10 → 10 ^ k ≤ 10000000000 := by decide
  have hp0 : ∀ k, 0 < 10 ^ k := fun k => Nat.pow_pos (by decide)
  unfold fX6_putNumber
  refine kok_bd1 (P := fun r => r = lI ((10 ^ (D - 1) : Nat) : Int)) ?_ (fun r hr => ?_)
  · refine kok_up (body := fun zz => bX6_putNumber_2 N σ (lI n) zz) (D - 1) (fun k s => s = lI ((10 ^ k : Nat) : Int)) (fun k s hk hI => ?_) (fun s hI => ?_) N 0 _ (by omega) (Nat.zero_le _) rfl
    · subst hI
      have h1 := hp k (by omega)
      have h2 := hp0 k
      show kok (bX6_putNumber_2 N σ (lI n) (lI ((10 ^ k : Nat) : Int))) _
      unfold bX6_putNumber_2
      refine kok_g (fun e => by rw [lI_eq0 (by omega)] at e; omega) ?_
      rw [lI_div (by omega) (by omega)]
      have h3 : ((n : Int)).tdiv ((10 ^ k : Nat) : Int) = ((n / 10 ^ k : Nat) : Int) := rfl
      rw [h3]
      have h4 : n / 10 ^ k ≤ n := Nat.div_le_self _ _
      have h5 : 10 ≤ n / 10 ^ k := by
        rw [Nat.le_div_iff_mul_le h2, Nat.mul_comm, ← Nat.pow_succ]
        exact hmin (k + 1) (by omega)
      refine kok_f ?_ (kok_lt (kok_some ?_))
      · rw [lg_cmp_le, show (9 : Int64) = lI 9 from rfl, lI_le (by omega) (by decide)]; omega
      · show (10 : Int64) * lI ((10 ^ k : Nat) : Int) = lI ((10 ^ (k + 1) : Nat) : Int)
        rw [show (10 : Int64) = lI 10 from rfl, lI_mul, Nat.pow_succ, Nat.mul_comm]
        rfl
    · subst hI
      have h1 := hp (D - 1) (by omega)
      have h2 := hp0 (D - 1)
      show kok (bX6_putNumber_2 N σ (lI n) (lI ((10 ^ (D - 1) : Nat) : Int))) _
      unfold bX6_putNumber_2
      refine kok_g (fun e => by rw [lI_eq0 (by omega)] at e; omega) ?_
      rw [lI_div (by omega) (by omega)]
      have h3 : ((n : Int)).tdiv ((10 ^ (D - 1) : Nat) : Int) = ((n / 10 ^ (D - 1) : Nat) : Int) := rfl
      rw [h3]
      have h5 : n / 10 ^ (D - 1) < 10 := by
        rw [Nat.div_lt_iff_lt_mul h2, Nat.mul_comm, ← Nat.pow_succ, show (D - 1).succ = D by omega]
        exact hD
      refine kok_t ?_ (kok_some rfl)
      rw [lg_cmp_le, show (9 : Int64) = lI 9 from rfl, lI_le (kna (by omega)) (by decide)]; omega
  · subst hr
    unfold jX6_putNumber_21
    refine kok_bd1 (P := fun σ' => σ'.1 14 = nI (f + D) ∧ (∀ i, i < f → σ'.2.1 10 i = σ.2.1 10 i) ∧ (∀ k, k < D → σ'.2.1 10 (f + k) = nI (48 + kdi n (D - 1 - k))) ∧ fwM σ σ') ?_ (fun σ' h => kok_some h)
    refine kok_up (body := fun zz => bX6_putNumber_24 N (lI n) zz.1 zz.2) D (fun k s => s.1 = (if k < D then lI ((10 ^ (D - 1 - k) : Nat) : Int) else lI 0) ∧ s.2.1 14 = nI (f + k) ∧ (∀ i, i < f → s.2.2.1 10 i = σ.2.1 10 i) ∧ (∀ k', k' < k → s.2.2.1 10 (f + k') = nI (48 + kdi n (D - 1 - k'))) ∧ fwM σ s.2) (fun k s hk hI => ?_) (fun s hI => ?_) N 0 _ (by omega) (Nat.zero_le _) ⟨by rw [if_pos (by omega)]; rfl, h14, fun _ _ => rfl, fun k' h => by omega, fwM.rf σ⟩
    · obtain ⟨r, σ'⟩ := s
      obtain ⟨g1, g3, g4, g5, g6⟩ := hI
      dsimp only at g1 g3 g4 g5 g6
      rw [if_pos hk] at g1
      subst g1
      have h1 := hp (D - 1 - k) (by omega)
      have h2 := hp0 (D - 1 - k)
      have hd := kdi_lt n (D - 1 - k)
      show kok (bX6_putNumber_24 N (lI n) (lI ((10 ^ (D - 1 - k) : Nat) : Int)) σ') _
      unfold bX6_putNumber_24
      have h3 : ((n : Int)).tdiv ((10 ^ (D - 1 - k) : Nat) : Int) = ((n / 10 ^ (D - 1 - k) : Nat) : Int) := rfl
      have h4 : n / 10 ^ (D - 1 - k) ≤ n := Nat.div_le_self _ _
      have hrem : (48 : Int64) + (lI n / lI ((10 ^ (D - 1 - k) : Nat) : Int) - lI n / lI ((10 ^ (D - 1 - k) : Nat) : Int) / 10 * 10) = lI ((48 + kdi n (D - 1 - k) : Nat) : Int) := by
        rw [lI_div (by omega) (by omega), h3, show (10 : Int64) = lI 10 from rfl, lI_rem (kna (by omega)) (by decide), show (48 : Int64) = lI 48 from rfl, lI_add]
        rfl
      refine kok_f ?_ (kok_g (fun e => by rw [lI_eq0 (by omega)] at e; omega) (kok_g (by decide) ?_))
      · rw [lg_cmp_le, lI_0, lI_le (by omega) (by decide)]; omega
      · rw [hrem, lI_32, nI_of_int, k_putc g3 (by omega) (by omega), bd1_s]
        refine kok_g (by decide) (kok_lt (kok_some ⟨?_, pi_at _ _ _, fun i hi => ?_, fun k' hk' => ?_, g6.tr (fwM.c _ _ _ _)⟩))
        · show lI ((10 ^ (D - 1 - k) : Nat) : Int) / 10 = _
          rw [show (10 : Int64) = lI 10 from rfl, lI_div (by omega) (by decide)]
          by_cases e : k + 1 < D
          · rw [if_pos e, show D - 1 - k = (D - 1 - (k + 1)) + 1 by omega, Nat.pow_succ]
            show lI ((10 ^ (D - 1 - (k + 1)) * 10 / 10 : Nat) : Int) = _
            rw [Nat.mul_div_cancel _ (by decide)]
          · rw [if_neg e, show D - 1 - k = 0 by omega]
            rfl
        · show (p_a σ' 10 (f + k) (nI (48 + kdi n (D - 1 - k)))).2.1 10 i = _
          rw [paA, if_pos rfl, if_neg (by omega)]; exact g4 i hi
        · show (p_a σ' 10 (f + k) (nI (48 + kdi n (D - 1 - k)))).2.1 10 (f + k') = _
          rw [paA, if_pos rfl]
          by_cases e : k' = k
          · rw [if_pos (by omega), e]
          · rw [if_neg (by omega)]; exact g5 k' (by omega)
    · obtain ⟨r, σ'⟩ := s
      obtain ⟨g1, g3, g4, g5, g6⟩ := hI
      dsimp only at g1 g3 g4 g5 g6
      rw [if_neg (Nat.lt_irrefl _)] at g1
      subst g1
      show kok (bX6_putNumber_24 N (lI n) (lI 0) σ') _
      unfold bX6_putNumber_24
      refine kok_t ?_ (kok_some ⟨g3, g4, g5, g6⟩)
      rw [lg_cmp_le]; decide
theorem k_digits : ∀ D n, 0 < n → n < 10 ^ D → ∃ D', 1 ≤ D' ∧ D' ≤ D ∧ n < 10 ^ D' ∧ ∀ k, k < D' → 10 ^ k ≤ n := by
  intro D
  induction D with
  | zero => intro n h1 h2; rw [Nat.pow_zero] at h2; omega
  | succ D ih =>
    intro n h1 h2
    by_cases h : n < 10 ^ D
    · obtain ⟨D', a, b, c⟩ := ih n h1 h
      exact ⟨D', a, by omega, c⟩
    · refine ⟨D + 1, by omega, Nat.le_refl _, h2, fun k hk => Nat.le_trans (Nat.pow_le_pow_right (by decide) (show k ≤ D by omega)) (by omega)⟩
theorem k_numb {N n f : Nat} {σK σM : vS} (hN : 300 < N) (hn0 : 0 < n) (hn : n ≤ 12288000000) (h : kLn σK σM f) (hf : f + 11 ≤ 200) (hc : ∀ i, i < f → ∃ x, x < 127 ∧ σK.2.1 8 i = nI x) : ∃ D σK' σM', D ≤ 11 ∧ fX2_addNumber N σK (lI n) = some σK' ∧ fX6_putNumber N σM (lI n) = some σM' ∧ kLn σK' σM' (f + D) ∧ fwK σK σK' ∧ fwM σM σM' ∧ ∀ i, i < f + D → ∃ x, x < 127 ∧ σK'.2.1 8 i = nI x := by
  obtain ⟨D, d1, d2, d3, d4⟩ := k_digits 11 n hn0 (Nat.lt_of_le_of_lt hn (by decide))
  obtain ⟨σ1, e1, a1, a2, a3, a4⟩ := k_digK (σ := σK) (x1 := σK.1 15) hN (by omega) d3 d2 d4 h.1 (by omega)
  have hc1 : ∀ i, i < f + D → ∃ x, x < 127 ∧ σ1.2.1 8 i = nI x := fun i hi => by
    by_cases e : i < f
    · rw [a2 i e]; exact hc i e
    · have := a3 (i - f) (by omega)
      rw [show f + (i - f) = i by omega] at this
      have hd := kdi_lt n (i - f)
      exact ⟨_, by omega, this⟩
  obtain ⟨σ2, e2, b1, b2, b3, b4⟩ := k_turn2 (σ := σ1) (f := f) hN d1 (by omega) a1 hc1
  obtain ⟨σ3, e3, c1, c2, c3, c4⟩ := k_digM (σ := σM) hN (by omega) d3 d1 d2 d4 h.2.1 (by omega)
  refine ⟨D, σ2, σ3, d2, ?_, e3, ⟨b1, c1, fun i hi => ?_⟩, a4.tr b4, c4, fun i hi => ?_⟩
  · unfold fX2_addNumber
    rw [k_lt_e, e1, bd1_s]
    unfold jX2_addNumber_55
    rw [h.1, e2]
    rfl
  · by_cases e : i < f
    · rw [b2 i e, a2 i e, c2 i e]; exact h.2.2 i e
    · have h1 := b3 (i - f) (by omega)
      have h2 := a3 (D - 1 - (i - f)) (by omega)
      have h3 := c3 (i - f) (by omega)
      rw [show f + (i - f) = i by omega] at h1 h3
      rw [h1, h2, h3]
  · by_cases e : i < f
    · rw [b2 i e]; exact hc1 i (by omega)
    · have h1 := b3 (i - f) (by omega)
      rw [show f + (i - f) = i by omega] at h1
      rw [h1]
      exact hc1 _ (by omega)
