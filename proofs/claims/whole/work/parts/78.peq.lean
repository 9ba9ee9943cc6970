/-! Both sides of an equation. -/
def kEnd (σK σM : vS) (L : Nat) (c : Nat → Nat) : Prop := (∃ p w rc el ch bg en Am Ac, 0 < rc ∧ kQ σK σM L c p w rc el ch bg en Am Ac) ∨ (σK.1 6 ≠ 0 ∧ σM.1 4 = σK.1 6 ∧ σM.1 5 = σK.1 7 ∧ kTx σK σM L c ∧ σM.1 1 = 0)
def kE1 (N : Nat) (σ9 : vS) : Option (Int32 × vS) := if (σ9.1 2) ≤ (σ9.1 3) then (bd1 (fX6_failIf N σ9 (0 : Int32) (-2 : Int32) (σ9.1 3)) fun σ10 => jX6_read_152 N σ10) else (bd1 (fX6_failIf N σ9 (1 : Int32) (-2 : Int32) (σ9.1 3)) fun σ11 => jX6_read_152 N σ11)
def kE0 (N : Nat) (σ1 : vS) : Option (Int32 × vS) := bd1 (fX6_charAt N σ1 (σ1.1 3)) fun r2 => if (r2 = (61 : Int32)) then (bd1 (fX6_failIf N σ1 (0 : Int32) (-2 : Int32) (σ1.1 3)) fun σ3 => jX6_read_104 N σ3) else (bd1 (fX6_failIf N σ1 (1 : Int32) (-2 : Int32) (σ1.1 3)) fun σ14 => jX6_read_104 N σ14)
theorem k_exK {N : Nat} {i : Int32} {σ : vS} : ∀ n, 0 < n → k_itr (fun zz => bX3_readEquation_29 N zz.1 zz.2.1 zz.2.2) n ((0 : Int32), i, σ) = some σ := fun n hn => by
  refine k_itr_1 ?_ n hn
  show bX3_readEquation_29 N 0 i σ = _
  unfold bX3_readEquation_29
  by_cases h9 : (6 : Int32) < i
  · rw [if_pos h9]
  · rw [if_neg h9, if_pos rfl]
theorem k_exM {N : Nat} {p1 : Int32} {σ : vS} : ∀ n, 0 < n → k_itr (fun zz => bX6_readSide_2 N p1 zz.1 zz.2) n ((0 : Int32), σ) = some σ := fun n hn => by
  refine k_itr_1 ?_ n hn
  show bX6_readSide_2 N p1 0 σ = _
  unfold bX6_readSide_2
  rw [if_pos rfl]
theorem k_side1 {N L : Nat} {c : Nat → Nat} (hN : 300 < N) : ∀ n (σK σM : vS) (p w rc el ch : Nat) (bg en : Nat → Nat) (Am : Nat → Nat → Int) (Ac : Nat → Int), L - p ≤ n → 0 < rc → kQ σK σM L c p w rc el ch bg en Am Ac → ∀ m m', n + 3 ≤ m → n + 3 ≤ m' →
    ∃ σK' σ9 σF, k_itr (fun zz => bX3_readEquation_29 N zz.1 zz.2.1 zz.2.2) m ((1 : Int32), nI w, σK) = some σK' ∧ k_itr (fun zz => bX6_readSide_2 N 1 zz.1 zz.2) m' ((1 : Int32), σM) = some σ9 ∧ kE1 N σ9 = jX6_read_152 N σF ∧ kEnd σK' σF L c := by
  intro n
  induction n with
  | zero =>
    intro σK σM p w rc el ch bg en Am Ac hn hrc hQ m m' hm hm'
    have hL := hQ.1.1
    obtain ⟨a, b, σA, σB, eK, eM, hcase⟩ := k_iter hN hQ 1 (by rw [if_neg (by omega)])
    obtain ⟨m1, rfl⟩ : ∃ m1, m = m1 + 1 := ⟨m - 1, by omega⟩
    obtain ⟨m2, rfl⟩ : ∃ m2, m' = m2 + 1 := ⟨m' - 1, by omega⟩
    rw [k_itr_s (body := fun zz => bX3_readEquation_29 N zz.1 zz.2.1 zz.2.2) (s := ((1 : Int32), nI w, σK)) eK, k_itr_s (body := fun zz => bX6_readSide_2 N 1 zz.1 zz.2) (s := ((1 : Int32), σM)) eM]
    rcases hcase with ⟨rfl, rfl, p', el', ch', bg', en', Am', Ac', h1, h2⟩ | ⟨rfl, rfl, h1, _⟩ | ⟨rfl, rfl, h1, el', ch', bg', en', Am', Ac', h2⟩ | ⟨rfl, rfl, e, h1, h2, h3, h4, h5, h6, h7, h8, h9⟩ | ⟨rfl, rfl, h1, h2, h3, h4, h5, p', h6, h7⟩
    · have := h2.2.1.1
      omega
    · omega
    · rw [k_exK m1 (by omega), k_exM m2 (by omega)]
      refine ⟨σA, σB, σB, rfl, rfl, ?_, Or.inl ⟨L, w + 1, rc, el', ch', bg', en', Am', Ac', hrc, h2⟩⟩
      unfold kE1
      rw [h2.1.2.2.2.2.2.1, h2.2.1.2.2.1, if_pos (nI_le (Nat.le_refl _) (by omega)), k_failN, bd1_s]
    · rw [k_exK m1 (by omega), k_exM m2 (by omega)]
      refine ⟨σA, σB, p_i (p_i σB 4 (-2)) 5 (nI e), rfl, rfl, ?_, Or.inr ⟨by rw [h4]; decide, ?_, ?_, h6.fr rfl rfl rfl rfl, ?_⟩⟩
      · unfold kE1
        rw [h6.2.2.2.2.2.1, h2, if_neg (nI_ge (h9 hrc) (by omega)), k_failY h3, bd1_s]
      · rw [pi_ne (by decide), pi_at, h4]
      · rw [pi_at, h5]
      · rw [pi_ne (by decide), pi_ne (by decide)]; exact h7
    · rw [k_exK m1 (by omega), k_exM m2 (by omega)]
      have hne : σB.1 4 ≠ 0 := by rw [h2]; exact h1
      refine ⟨σA, σB, σB, rfl, rfl, ?_, Or.inr ⟨h1, h2, h3, h4, h5⟩⟩
      unfold kE1
      rw [k_failX hne, k_failX hne, bd1_s]
      split <;> rfl
  | succ n ih =>
    intro σK σM p w rc el ch bg en Am Ac hn hrc hQ m m' hm hm'
    have hL := hQ.1.1
    obtain ⟨a, b, σA, σB, eK, eM, hcase⟩ := k_iter hN hQ 1 (by rw [if_neg (by omega)])
    obtain ⟨m1, rfl⟩ : ∃ m1, m = m1 + 1 := ⟨m - 1, by omega⟩
    obtain ⟨m2, rfl⟩ : ∃ m2, m' = m2 + 1 := ⟨m' - 1, by omega⟩
    rw [k_itr_s (body := fun zz => bX3_readEquation_29 N zz.1 zz.2.1 zz.2.2) (s := ((1 : Int32), nI w, σK)) eK, k_itr_s (body := fun zz => bX6_readSide_2 N 1 zz.1 zz.2) (s := ((1 : Int32), σM)) eM]
    rcases hcase with ⟨rfl, rfl, p', el', ch', bg', en', Am', Ac', h1, h2⟩ | ⟨rfl, rfl, h1, _⟩ | ⟨rfl, rfl, h1, el', ch', bg', en', Am', Ac', h2⟩ | ⟨rfl, rfl, e, h1, h2, h3, h4, h5, h6, h7, h8, h9⟩ | ⟨rfl, rfl, h1, h2, h3, h4, h5, p', h6, h7⟩
    · exact ih σA σB p' (w + 1) rc el' ch' bg' en' Am' Ac' (by omega) hrc h2 m1 m2 (by omega) (by omega)
    · omega
    · rw [k_exK m1 (by omega), k_exM m2 (by omega)]
      refine ⟨σA, σB, σB, rfl, rfl, ?_, Or.inl ⟨L, w + 1, rc, el', ch', bg', en', Am', Ac', hrc, h2⟩⟩
      unfold kE1
      rw [h2.1.2.2.2.2.2.1, h2.2.1.2.2.1, if_pos (nI_le (Nat.le_refl _) (by omega)), k_failN, bd1_s]
    · rw [k_exK m1 (by omega), k_exM m2 (by omega)]
      refine ⟨σA, σB, p_i (p_i σB 4 (-2)) 5 (nI e), rfl, rfl, ?_, Or.inr ⟨by rw [h4]; decide, ?_, ?_, h6.fr rfl rfl rfl rfl, ?_⟩⟩
      · unfold kE1
        rw [h6.2.2.2.2.2.1, h2, if_neg (nI_ge (h9 hrc) (by omega)), k_failY h3, bd1_s]
      · rw [pi_ne (by decide), pi_at, h4]
      · rw [pi_at, h5]
      · rw [pi_ne (by decide), pi_ne (by decide)]; exact h7
    · rw [k_exK m1 (by omega), k_exM m2 (by omega)]
      have hne : σB.1 4 ≠ 0 := by rw [h2]; exact h1
      refine ⟨σA, σB, σB, rfl, rfl, ?_, Or.inr ⟨h1, h2, h3, h4, h5⟩⟩
      unfold kE1
      rw [k_failX hne, k_failX hne, bd1_s]
      split <;> rfl
theorem k_104F {N : Nat} {σ : vS} (h : σ.1 4 ≠ 0) : jX6_read_104 N σ = jX6_read_152 N (p_i σ 3 (σ.1 3 + 1)) := by
  unfold jX6_read_104
  rw [if_neg h]
theorem k_side0 {N L : Nat} {c : Nat → Nat} (hN : 300 < N) : ∀ n (σK σM : vS) (p w el ch : Nat) (bg en : Nat → Nat) (Am : Nat → Nat → Int) (Ac : Nat → Int), L - p ≤ n → kQ σK σM L c p w 0 el ch bg en Am Ac → ∀ m m', n + 3 ≤ m' → n + 200 ≤ m →
    ∃ σK' σ1 σF, k_itr (fun zz => bX3_readEquation_29 N zz.1 zz.2.1 zz.2.2) m ((1 : Int32), nI w, σK) = some σK' ∧ k_itr (fun zz => bX6_readSide_2 N 0 zz.1 zz.2) m' ((1 : Int32), σM) = some σ1 ∧ kE0 N σ1 = jX6_read_152 N σF ∧ kEnd σK' σF L c := by
  intro n
  induction n with
  | zero =>
    intro σK σM p w el ch bg en Am Ac hn hQ m m' hm' hm2
    have hL := hQ.1.1
    obtain ⟨a, b, σA, σB, eK, eM, hcase⟩ := k_iter hN hQ 0 (by rw [if_pos rfl])
    obtain ⟨m1, rfl⟩ : ∃ m1, m = m1 + 1 := ⟨m - 1, by omega⟩
    obtain ⟨m2, rfl⟩ : ∃ m2, m' = m2 + 1 := ⟨m' - 1, by omega⟩
    rw [k_itr_s (body := fun zz => bX3_readEquation_29 N zz.1 zz.2.1 zz.2.2) (s := ((1 : Int32), nI w, σK)) eK, k_itr_s (body := fun zz => bX6_readSide_2 N 0 zz.1 zz.2) (s := ((1 : Int32), σM)) eM]
    rcases hcase with ⟨rfl, rfl, p', el', ch', bg', en', Am', Ac', h1, h2⟩ | ⟨rfl, rfl, h1, e, el', ch', bg', en', Am', Ac', h2, h3, h4, h5, h6, h7, h8⟩ | ⟨rfl, rfl, h1, _⟩ | ⟨rfl, rfl, e, h1, h2, h3, h4, h5, h6, h7, h8, h9⟩ | ⟨rfl, rfl, h1, h2, h3, h4, h5, p', h6, h7⟩
    · have := h2.2.1.1
      omega
    · omega
    · omega
    · rw [k_exK m1 (by omega), k_exM m2 (by omega)]
      refine ⟨σA, σB, p_i (p_i (p_i σB 4 (-2)) 5 (nI e)) 3 (nI e + 1), rfl, rfl, ?_, Or.inr ⟨by rw [h4]; decide, ?_, ?_, h6.fr rfl rfl rfl rfl, ?_⟩⟩
      · unfold kE0
        rw [h2, k_charAt h6 (by omega), bd1_s, if_neg (nlN 61 61 rfl (h6.b e) (by omega) (h8 rfl)), k_failY h3, bd1_s, k_104F (by show ¬ ((-2 : Int32) = 0); decide), show (p_i (p_i σB 4 (-2)) 5 (nI e)).1 3 = nI e by rw [pi_ne (by decide), pi_ne (by decide)]; exact h2]
      · rw [pi_ne (by decide), pi_ne (by decide), pi_at, h4]
      · rw [pi_ne (by decide), pi_at, h5]
      · rw [pi_ne (by decide), pi_ne (by decide), pi_ne (by decide)]; exact h7
    · rw [k_exK m1 (by omega), k_exM m2 (by omega)]
      have hne : σB.1 4 ≠ 0 := by rw [h2]; exact h1
      refine ⟨σA, σB, p_i σB 3 (nI p' + 1), rfl, rfl, ?_, Or.inr ⟨h1, ?_, ?_, h4.fr rfl rfl rfl rfl, ?_⟩⟩
      · unfold kE0
        rw [h6, k_charAt h4 (by omega), bd1_s, k_failX hne, k_failX hne, bd1_s, k_104F hne, h6]
        split <;> rfl
      · rw [pi_ne (by decide)]; exact h2
      · rw [pi_ne (by decide)]; exact h3
      · rw [pi_ne (by decide)]; exact h5
  | succ n ih =>
    intro σK σM p w el ch bg en Am Ac hn hQ m m' hm' hm2
    have hL := hQ.1.1
    obtain ⟨a, b, σA, σB, eK, eM, hcase⟩ := k_iter hN hQ 0 (by rw [if_pos rfl])
    obtain ⟨m1, rfl⟩ : ∃ m1, m = m1 + 1 := ⟨m - 1, by omega⟩
    obtain ⟨m2, rfl⟩ : ∃ m2, m' = m2 + 1 := ⟨m' - 1, by omega⟩
    rw [k_itr_s (body := fun zz => bX3_readEquation_29 N zz.1 zz.2.1 zz.2.2) (s := ((1 : Int32), nI w, σK)) eK, k_itr_s (body := fun zz => bX6_readSide_2 N 0 zz.1 zz.2) (s := ((1 : Int32), σM)) eM]
    rcases hcase with ⟨rfl, rfl, p', el', ch', bg', en', Am', Ac', h1, h2⟩ | ⟨rfl, rfl, h1, e, el', ch', bg', en', Am', Ac', h2, h3, h4, h5, h6, h7, h8⟩ | ⟨rfl, rfl, h1, _⟩ | ⟨rfl, rfl, e, h1, h2, h3, h4, h5, h6, h7, h8, h9⟩ | ⟨rfl, rfl, h1, h2, h3, h4, h5, p', h6, h7⟩
    · exact ih σA σB p' (w + 1) el' ch' bg' en' Am' Ac' (by omega) h2 m1 m2 (by omega) (by omega)
    · rw [k_exM m2 (by omega)]
      obtain ⟨σK', σ9, σF, v1, v2, v3, v4⟩ := k_side1 (c := c) hN L σA (p_i σB 3 (nI (e + 1))) (e + 1) (w + 1) (w + 1) el' ch' bg' en' Am' Ac' (by omega) (by omega) h8 m1 N (by omega) (by omega)
      refine ⟨σK', σB, σF, v1, rfl, ?_, v4⟩
      unfold kE0
      rw [h4, k_charAt h7 (by omega), bd1_s, if_pos (nlE 61 61 rfl h6), k_failN, bd1_s]
      unfold jX6_read_104
      rw [if_pos h5, h4, nI_1]
      have e9 : fX6_readSide N (p_i σB 3 (nI (e + 1))) 1 = some σ9 := by
        unfold fX6_readSide
        rw [v2]; rfl
      rw [e9, bd1_s]
      exact v3
    · omega
    · rw [k_exK m1 (by omega), k_exM m2 (by omega)]
      refine ⟨σA, σB, p_i (p_i (p_i σB 4 (-2)) 5 (nI e)) 3 (nI e + 1), rfl, rfl, ?_, Or.inr ⟨by rw [h4]; decide, ?_, ?_, h6.fr rfl rfl rfl rfl, ?_⟩⟩
      · unfold kE0
        rw [h2, k_charAt h6 (by omega), bd1_s, if_neg (nlN 61 61 rfl (h6.b e) (by omega) (h8 rfl)), k_failY h3, bd1_s, k_104F (by show ¬ ((-2 : Int32) = 0); decide), show (p_i (p_i σB 4 (-2)) 5 (nI e)).1 3 = nI e by rw [pi_ne (by decide), pi_ne (by decide)]; exact h2]
      · rw [pi_ne (by decide), pi_ne (by decide), pi_at, h4]
      · rw [pi_ne (by decide), pi_at, h5]
      · rw [pi_ne (by decide), pi_ne (by decide), pi_ne (by decide)]; exact h7
    · rw [k_exK m1 (by omega), k_exM m2 (by omega)]
      have hne : σB.1 4 ≠ 0 := by rw [h2]; exact h1
      refine ⟨σA, σB, p_i σB 3 (nI p' + 1), rfl, rfl, ?_, Or.inr ⟨h1, ?_, ?_, h4.fr rfl rfl rfl rfl, ?_⟩⟩
      · unfold kE0
        rw [h6, k_charAt h4 (by omega), bd1_s, k_failX hne, k_failX hne, bd1_s, k_104F hne, h6]
        split <;> rfl
      · rw [pi_ne (by decide)]; exact h2
      · rw [pi_ne (by decide)]; exact h3
      · rw [pi_ne (by decide)]; exact h5
/-- the text of both, typed but not read -/
def kDr (σK σM : vS) (L : Nat) (c : Nat → Nat) : Prop := L ≤ 100 ∧ (∀ q, q < L → 32 ≤ c q ∧ c q ≤ 126) ∧ (∀ q, L ≤ q → c q = 0) ∧ σK.1 0 = nI L ∧ (∀ q, q < L → σK.2.1 0 q = nI (c q)) ∧ σM.1 1 = nI L ∧ ∀ q, q < L → σM.2.1 0 q = nI (c q)
theorem nr_char : ∀ n, n < 127 → vp_nar .char (nI n) = nI n := fun n hn => by rw [vp_nar_char]; exact nI_char n hn
theorem k_readEq {N : Nat} {σK σM : vS} {L : Nat} {c : Nat → Nat} (hN : 1000 < N) (h : kDr σK σM L c) : ∃ σK' σF, fX3_readEquation N σK = some σK' ∧ fX6_read N σM = jX6_read_152 N σF ∧ kEnd σK' σF L c := by
  obtain ⟨d1, d2, d3, d4, d5, d6, d7⟩ := h
  have hcopy : ∃ σ', k_itr (fun zz => bX6_read_15 N zz.1 zz.2) N ((0 : Int32), (p_i (p_i σM 0 (0 : Int32)) 2 (σM.1 1))) = some σ' ∧ σ'.1 2 = nI L ∧ ∀ q, q < L → σ'.2.1 1 q = nI (c q) := by
    refine kok_for (body := fun zz => bX6_read_15 N zz.1 zz.2) L (fun i σ' => σ'.1 2 = nI L ∧ σ'.2.1 0 = σM.2.1 0 ∧ ∀ q, q < i → σ'.2.1 1 q = nI (c q)) (fun i σ' hi hI => ?_) (fun σ' hI => ?_) N 0 _ (by omega) (Nat.zero_le _) ⟨by rw [pi_at]; exact d6, rfl, fun q hq => by omega⟩
    · obtain ⟨g1, g2, g3⟩ := hI
      show kok (bX6_read_15 N (nI i) σ') _
      unfold bX6_read_15
      rw [g1]
      refine kok_f (nI_ge hi (by omega)) (kok_g (nI_in (by omega) (by omega)) (kok_g (nI_in (by omega) (by omega)) (kok_lt (kok_some ⟨_, Prod.ext (nI_1 _) rfl, g1, ?_, fun q hq => ?_⟩))))
      · funext j; rw [paA, if_neg (by decide)]; exact congrFun g2 j
      · rw [nI_clamp (by omega), paA, if_pos rfl]
        by_cases e : q = i
        · rw [if_pos e, e, g2, d7 i hi]
          exact nr_char _ (by have := (d2 i hi).2; omega)
        · rw [if_neg e]; exact g3 q (by omega)
    · obtain ⟨g1, g2, g3⟩ := hI
      show kok (bX6_read_15 N (nI L) σ') _
      unfold bX6_read_15
      rw [g1]
      exact kok_t (nI_le (Nat.le_refl _) (by omega)) (kok_some ⟨g1, g3⟩)
  obtain ⟨σ', e1, e2, e3⟩ := hcopy
  unfold fX6_read
  rw [e1, bd1_s]
  unfold jX6_read_41
  unfold fX3_readEquation fX1_clear
  rw [bd1_s]
  have hQ : kQ (p_i (p_i (p_i (p_i (p_i (p_i (p_i σK 6 0) 7 (-1)) 1 0) 2 0) 3 0) 4 0) 5 0) (p_i (p_i (p_i (p_i (p_i (p_i σ' 1 0) 3 0) 4 0) 8 0) 9 0) 10 0) L c 0 0 0 0 0 (fun _ => 0) (fun _ => 0) (fun _ _ => 0) (fun _ => 0) :=
    ⟨⟨d1, d2, d3, d4, d5, e2, e3⟩, ⟨Nat.zero_le _, rfl, rfl, rfl, rfl, rfl, rfl, by omega, by omega, rfl, rfl, rfl, fun i hi => by omega⟩, ⟨rfl, rfl, by omega, rfl, by omega, rfl⟩, fun j hj => by omega, fun j hj => by omega⟩
  obtain ⟨σK', σ1, σF, v1, v2, v3, v4⟩ := k_side0 (c := c) (show 300 < N by omega) L _ _ 0 0 0 0 _ _ _ _ (by omega) hQ N N (by omega) (by omega)
  refine ⟨σK', σF, ?_, ?_, v4⟩
  · rw [show (k_itr (fun zz => bX3_readEquation_29 N zz.1 zz.2.1 zz.2.2) N ((1 : Int32), (0 : Int32), (p_i (p_i (p_i (p_i (p_i (p_i (p_i σK 6 0) 7 (-1)) 1 0) 2 0) 3 0) 4 0) 5 0))) = some σK' from v1]; rfl
  · have e9 : fX6_readSide N (p_i (p_i (p_i (p_i (p_i (p_i σ' 1 0) 3 0) 4 0) 8 0) 9 0) 10 0) 0 = some σ1 := by
      unfold fX6_readSide
      rw [v2]; rfl
    rw [e9, bd1_s]
    exact v3
