/-! The two between calls; reading. -/
def kRel (σK σM : vS) : Prop := (∃ L c, kDr σK σM L c) ∧ σK.1 7 = σM.1 6 ∧ ((σM.1 7 = 0 ∧ σK.1 2 = 0 ∧ σK.1 4 = 0 ∧ σK.1 5 = 0 ∧ σK.1 10 = 0 ∧ σK.1 11 = -1) ∨ (σM.1 7 = 1 ∧ ∃ w rc el ch Am, 0 < w ∧ kEq σK w rc el ch Am ∧ kEM σM w rc el ch Am ∧ (∀ i, i < el → σK.2.1 1 i = σM.2.1 5 i) ∧ kSol σK w (kco w rc (el + ch) Am) ∧ kSM σM w (kco w rc (el + ch) Am) ∧ (kvd (kco w rc (el + ch) Am) w = 0 → ∃ n, n ≤ 200 ∧ kLn σK σM n)))
theorem kEq.f2 {σ σ' : vS} {w rc el ch : Nat} {Am : Nat → Nat → Int} (h : kEq σ w rc el ch Am) (h1 : ∀ i, 2 ≤ i → i ≤ 5 → σ'.1 i = σ.1 i) (h2 : ∀ b, b = 2 ∨ 9 ≤ b → σ'.2.1 b = σ.2.1 b) : kEq σ' w rc el ch Am := by
  obtain ⟨a2, a3, a4, a5, hw, hrc, hch, hel, hA, hC, hb⟩ := h
  refine ⟨(h1 2 (by omega) (by omega)).trans a2, (h1 3 (by omega) (by omega)).trans a3, (h1 4 (by omega) (by omega)).trans a4, (h1 5 (by omega) (by omega)).trans a5, hw, hrc, hch, hel, fun j hj t ht => ?_, fun j hj hc => ?_, hb⟩
  · rw [h2 (9 + j) (by omega)]; exact hA j hj t ht
  · rw [h2 2 (by omega)]; exact hC j hj hc
theorem kEM.f2 {σ σ' : vS} {w rc el ch : Nat} {Am : Nat → Nat → Int} (h : kEM σ w rc el ch Am) (h1 : ∀ i, 8 ≤ i → i ≤ 10 → σ'.1 i = σ.1 i) (h2 : σ'.2.1 4 = σ.2.1 4) (h3 : σ'.2.2.2 0 = σ.2.2.2 0) (h4 : σ'.2.2.2 1 = σ.2.2.2 1) : kEM σ' w rc el ch Am := by
  obtain ⟨a8, a9, a10, hw, hrc, hch, hel, hA, hC, hR, hb⟩ := h
  refine ⟨(h1 8 (by omega) (by omega)).trans a8, (h1 9 (by omega) (by omega)).trans a9, (h1 10 (by omega) (by omega)).trans a10, hw, hrc, hch, hel, ?_, ?_, ?_, hb⟩
  · rw [h4]; exact hA
  · rw [h3]; exact hC
  · rw [h2]; exact hR
theorem kSol.f2 {σ σ' : vS} {w : Nat} {a : Nat → Nat → Int} (h : kSol σ w a) (h1 : σ'.1 10 = σ.1 10) (h2 : σ'.1 11 = σ.1 11) (h3 : σ'.2.1 6 = σ.2.1 6) (h4 : σ'.2.2.2 = σ.2.2.2) : kSol σ' w a := by
  obtain ⟨a1, a2, a3, a4⟩ := h
  exact ⟨h1.trans a1, h2.trans a2, by rw [h3]; exact a3, by rw [h4]; exact a4⟩
theorem kSM.f2 {σ σ' : vS} {w : Nat} {a : Nat → Nat → Int} (h : kSM σ w a) (h1 : σ'.1 13 = σ.1 13) (h3 : σ'.2.1 8 = σ.2.1 8) (h4 : σ'.2.2.2 3 = σ.2.2.2 3) : kSM σ' w a := by
  obtain ⟨a1, a2, a3⟩ := h
  exact ⟨h1.trans a1, by rw [h3]; exact a2, by rw [h4]; exact a3⟩
theorem kRel.t {σK σM : vS} (h : kRel σK σM) (v : Int32) : kRel σK (p_i σM 0 v) := by
  obtain ⟨⟨L, c, hD⟩, h7, hc⟩ := h
  refine ⟨⟨L, c, hD⟩, h7, ?_⟩
  rcases hc with hc | ⟨h1, w, rc, el, ch, Am, h2, h3, h4, h5, h6, h8, h9⟩
  · exact Or.inl hc
  · refine Or.inr ⟨h1, w, rc, el, ch, Am, h2, h3, h4.f2 (fun i _ _ => pi_ne (by omega)) rfl rfl rfl, h5, h6, h8.f2 rfl rfl rfl, fun h => ?_⟩
    obtain ⟨n, n1, n2⟩ := h9 h
    exact ⟨n, n1, n2⟩
theorem kDr0 {σK σM : vS} (h0 : σK.1 0 = 0) (h1 : σM.1 1 = 0) : ∃ L c, kDr σK σM L c := ⟨0, fun _ => 0, by omega, fun q hq => by omega, fun _ _ => rfl, h0, fun q hq => by omega, h1, fun q hq => by omega⟩
theorem k_read {N : Nat} {σK σM : vS} (hN : 1000 < N) (h : kRel σK σM) : ∃ r σK' σM', fX5_read N σK = some (r, σK') ∧ fX6_read N σM = some (r, σM') ∧ kRel σK' σM' := by
  obtain ⟨⟨L, c, hD⟩, -, -⟩ := h
  obtain ⟨σ1, σF, e1, e2, hE⟩ := k_readEq hN hD
  rw [e2]
  unfold fX5_read
  rw [e1, bd1_s]
  rcases hE with ⟨p, w, rc, el, ch, bg, en, Am, Ac, hrc, hT, hC, ⟨q1, q2, q3, q4, q5, q6⟩, hF⟩ | ⟨h1, h2, h3, h4, h5⟩
  · obtain ⟨a0, a1, a2, a3, a4, a5, a6, a7, a8, a9, a10, a11, a12⟩ := hC
    have hL := hT.1
    rw [if_pos a9]
    unfold jX6_read_152
    rw [if_pos a10]
    unfold jX6_read_168
    rw [if_neg (show ¬ (p_i σF 7 1).1 7 = 0 by rw [pi_at]; decide)]
    unfold jX6_read_187
    rw [if_neg (show ¬ (p_i (p_i σF 7 1) 6 (-1)).1 7 = 0 by rw [pi_ne (by decide), pi_at]; decide)]
    have hK : kEq σ1 w rc el ch (fun j t => if t < el then Am j t else Ac j) := by
      refine ⟨q1, q4, a3, a5, q3, q5, a7, a8, fun j hj t ht => ?_, fun j hj hc => ?_, fun j hj t ht => ?_⟩
      · dsimp only; rw [if_pos ht]; exact ((hF.1 j hj).1 t (by omega)).2.1
      · dsimp only; rw [if_neg (Nat.lt_irrefl _)]; exact (hF.1 j hj).2.1.2.1
      · dsimp only
        by_cases e : t < el
        · rw [if_pos e]; exact ((hF.1 j hj).1 t (by omega)).1
        · rw [if_neg e]; exact (hF.1 j hj).2.1.1
    have hM : kEM (p_i (p_i σF 7 1) 6 (-1)) w rc el ch (fun j t => if t < el then Am j t else Ac j) := by
      refine ⟨q2, a4, a6, q3, q5, a7, a8, fun j hj t ht => ?_, fun j hj hc => ?_, fun j hj => ?_, hK.2.2.2.2.2.2.2.2.2.2⟩
      · dsimp only; rw [if_pos ht]; exact ((hF.1 j hj).1 t (by omega)).2.2
      · dsimp only; rw [if_neg (Nat.lt_irrefl _)]; exact (hF.1 j hj).2.1.2.2
      · have h9 := (hF.1 j hj).2.2.2
        show σF.2.1 4 j = _
        rw [h9]
        by_cases e : j < rc
        · rw [if_pos (Or.inr e), if_pos e]
        · rw [if_neg (by omega), if_neg e]
    generalize hAe : (fun j t => if t < el then Am j t else Ac j) = AX at hK hM
    obtain ⟨σ2, s1, s2, s3⟩ := k_solve (show 300 < N by omega) hK
    obtain ⟨σ3, t1, t2, t3⟩ := k_solveM (show 300 < N by omega) hM
    rw [s1, t1, bd1_s, bd1_s]
    have hw0 : 0 < w := by omega
    have hb3 : ∀ m, m < kcn (kco w rc (el + ch) AX) w → ∀ j, j < w → (kbr (kco w rc (el + ch) AX) m j).natAbs ≤ 12288000000 := fun m hm j hj => (s2.2.2.2 m hm j hj).2
    have b7 : σ3.1 7 = 1 := (t3.1 7 (by decide) (by decide)).trans rfl
    have b8 : σ3.1 8 = nI w := (t3.1 8 (by decide) (by decide)).trans q2
    -- what comes behind the line
    have fin : ∀ σ4 σ5 : vS, fwK σ2 σ4 → fwM σ3 σ5 → (kvd (kco w rc (el + ch) AX) w = 0 → ∃ n, n ≤ 200 ∧ kLn σ4 σ5 n) → ∃ r σK' σM', jX5_read_81 N σ4 = some (r, σK') ∧ (some ((σ5.1 8), σ5) : Option (Int32 × vS)) = some (r, σM') ∧ kRel σK' σM' := fun σ4 σ5 f4 f5 hln => by
      unfold jX5_read_81 fX4_clear
      rw [bd1_s, if_pos (show (p_i (p_i σ4 0 0) 1 0).1 6 = 0 by rw [pi_ne (by decide), pi_ne (by decide), f4.1 6 (by decide), s3.1 6 (by omega)]; exact a9)]
      have i2 : (p_i (p_i σ4 0 0) 1 0).1 2 = nI w := by rw [pi_ne (by decide), pi_ne (by decide), f4.1 2 (by decide), s3.1 2 (by omega)]; exact q1
      have i8 : σ5.1 8 = nI w := (f5.1 8 (by decide)).trans b8
      rw [i2, i8]
      refine ⟨_, _, _, rfl, rfl, kDr0 rfl ?_, ?_, Or.inr ⟨?_, w, rc, el, ch, AX, hw0, ?_, ?_, fun i hi => ?_, ?_, ?_, fun hv => ?_⟩⟩
      · rw [f5.1 1 (by decide), t3.1 1 (by decide) (by decide)]; exact q6
      · rw [pi_ne (by decide), pi_ne (by decide), f4.1 7 (by decide), s3.1 7 (by omega), f5.1 6 (by decide), t3.1 6 (by decide) (by decide), pi_at]; exact a11
      · exact (f5.1 7 (by decide)).trans b7
      · refine hK.f2 (fun i g1 g2 => ?_) (fun b hb => ?_)
        · rw [pi_ne (by omega), pi_ne (by omega), f4.1 i (by omega), s3.1 i (by omega)]
        · show σ4.2.1 b = _
          rw [f4.2.1 b (by omega), s3.2 b (by omega) (by omega)]
      · refine hM.f2 (fun i g1 g2 => ?_) ?_ ?_ ?_
        · rw [f5.1 i (by omega), t3.1 i (by omega) (by omega)]
        · rw [f5.2.1 4 (by decide), t3.2.1 4 (by decide) (by decide) (by decide)]
        · rw [f5.2.2.2, t3.2.2.2 0 (by decide) (by decide)]
        · rw [f5.2.2.2, t3.2.2.2 1 (by decide) (by decide)]
      · show σ4.2.1 1 i = σ5.2.1 5 i
        rw [f4.2.1 1 (by decide), s3.2 1 (by decide) (by decide), f5.2.1 5 (by decide), t3.2.1 5 (by decide) (by decide) (by decide)]
        exact a12 i hi
      · refine s2.f2 ?_ ?_ ?_ ?_
        · rw [pi_ne (by decide), pi_ne (by decide), f4.1 10 (by decide)]
        · rw [pi_ne (by decide), pi_ne (by decide), f4.1 11 (by decide)]
        · show σ4.2.1 6 = _; rw [f4.2.1 6 (by decide)]
        · show σ4.2.2.2 = _; rw [f4.2.2.2]
      · exact t2.f2 (f5.1 13 (by decide)) (f5.2.1 8 (by decide)) (by rw [f5.2.2.2])
      · obtain ⟨n, n1, n2, n3, n4⟩ := hln hv
        exact ⟨n, n1, by rw [pi_ne (by decide), pi_ne (by decide)]; exact n2, n3, n4⟩
    unfold jX5_read_47
    rw [s2.2.1]
    by_cases hv : kvd (kco w rc (el + ch) AX) w = 0
    · rw [if_pos hv]
      have hk1 : kcn (kco w rc (el + ch) AX) w = 1 ∧ kpos (kco w rc (el + ch) AX) w := by
        unfold kvd at hv
        by_cases g0 : kcn (kco w rc (el + ch) AX) w = 0
        · rw [if_pos g0] at hv; exact absurd hv (by decide)
        · rw [if_neg g0] at hv
          by_cases g1 : kcn (kco w rc (el + ch) AX) w ≤ 1
          · rw [if_pos g1] at hv
            by_cases g2 : kpos (kco w rc (el + ch) AX) w
            · exact ⟨by omega, g2⟩
            · rw [if_neg g2] at hv; exact absurd hv (by decide)
          · rw [if_neg g1] at hv; exact absurd hv (by decide)
      have hW : kW σ2 σ3 L c w rc bg en (fun j => (kbr (kco w rc (el + ch) AX) 0 j).toNat) := by
        refine ⟨hT.fr (s3.1 0 (by omega)) (s3.2 0 (by decide) (by decide)) ((t3.1 2 (by decide) (by decide)).trans rfl) ((t3.2.1 1 (by decide) (by decide) (by decide)).trans rfl), q3, ⟨hrc, q5⟩, (s3.1 2 (by omega)).trans q1, b8, (s3.1 3 (by omega)).trans q4, fun j hj => ?_, hF.2, fun j hj => ?_⟩
        · obtain ⟨n1, n2, ⟨n3, n4, n5, n6, n7, n8⟩, n9⟩ := hF.1 j hj
          rw [s3.2 3 (by decide) (by decide), s3.2 4 (by decide) (by decide), t3.2.1 2 (by decide) (by decide) (by decide), t3.2.1 3 (by decide) (by decide) (by decide), t3.2.1 4 (by decide) (by decide) (by decide)]
          refine ⟨n3, n4, n5, n6, n7, by omega, ?_⟩
          show σF.2.1 4 j = _
          rw [n9]
          by_cases e : j < rc
          · rw [if_pos (Or.inr e), if_pos e]
          · rw [if_neg (by omega), if_neg e]
        · have g1 := s2.2.2.2 0 (by omega) j hj
          have g2 := t2.2.2 0 (by omega) j hj
          have g3 := hk1.2 j hj
          rw [Nat.mul_zero, Nat.zero_add] at g2
          have g4 : ((kbr (kco w rc (el + ch) AX) 0 j).toNat : Int) = kbr (kco w rc (el + ch) AX) 0 j := Int.toNat_of_nonneg (by omega)
          refine ⟨?_, ?_, ?_, ?_⟩
          · show σ2.2.2.2 5 j = lI ((kbr (kco w rc (el + ch) AX) 0 j).toNat : Int)
            rw [g4]; exact g1.1
          · show σ3.2.2.2 3 j = lI ((kbr (kco w rc (el + ch) AX) 0 j).toNat : Int)
            rw [g4]; exact g2
          · show 0 < (kbr (kco w rc (el + ch) AX) 0 j).toNat
            omega
          · show (kbr (kco w rc (el + ch) AX) 0 j).toNat ≤ _
            have := g1.2
            omega
      obtain ⟨σ4, σ5, n, w1, w2, w3, w4, w5, w6⟩ := k_write (show 300 < N by omega) hW (fun σ fσ => by
        obtain ⟨r, r1, r2⟩ := k_isBal (σ := σ) (a := kco w rc (el + ch) AX) (show 300 < N by omega) q3 ((fσ.1 7 (by decide)).trans b7) ((fσ.1 8 (by decide)).trans b8) ((fσ.1 13 (by decide)).trans t2.1) (by rw [fσ.2.2.2]; exact t2.2.2) hb3
        rcases r2 with ⟨rfl, _⟩ | ⟨_, r3⟩
        · exact r1
        · exact absurd hv r3)
      rw [w1, w2, bd1_s, bd1_s]
      exact fin σ4 σ5 w5 w6 (fun _ => ⟨n, w3, w4⟩)
    · rw [if_neg hv]
      have hw' : fX6_write N σ3 = some (p_i σ3 14 0) := by
        unfold fX6_write
        rw [k_itr_1 (body := fun zz => bX6_write_7 N zz.1 zz.2) (s := ((0 : Int32), p_i σ3 14 0)) (r := p_i σ3 14 0) ?_ N (by omega)]
        · rfl
        · show bX6_write_7 N 0 (p_i σ3 14 0) = _
          unfold bX6_write_7
          rw [show (p_i σ3 14 0).1 8 = nI w from b8, if_neg (nI_nle (by omega) (by omega))]
          obtain ⟨r, r1, r2⟩ := k_isBal (σ := p_i σ3 14 0) (a := kco w rc (el + ch) AX) (show 300 < N by omega) q3 b7 b8 t2.1 t2.2.2 hb3
          rcases r2 with ⟨_, r3⟩ | ⟨rfl, _⟩
          · exact absurd r3 hv
          · rw [r1, bd1_s, if_pos rfl]
      rw [hw', bd1_s]
      exact fin σ2 (p_i σ3 14 0) (fwK.rf _) ⟨fun i hi => pi_ne hi, fun _ _ => rfl, rfl, rfl⟩ (fun h9 => absurd h9 hv)
  · rw [if_neg h1]
    unfold fX1_clear fX0_forget
    rw [bd1_s, bd1_s]
    unfold jX5_read_47
    rw [if_neg (by rw [pi_at]; decide)]
    unfold jX5_read_81 fX4_clear
    rw [bd1_s]
    have i6 : (p_i (p_i (p_i (p_i (p_i (p_i (p_i (p_i σ1 2 0) 3 0) 4 0) 5 0) 10 0) 11 (-1)) 0 0) 1 0).1 6 = σ1.1 6 := rfl
    rw [i6, if_neg h1]
    unfold jX6_read_152
    rw [if_neg (by rw [h2]; exact h1)]
    unfold jX6_read_168
    rw [if_pos (show (p_i σF 7 0).1 7 = 0 from pi_at _ _ _)]
    unfold jX6_read_187
    rw [if_pos (show (p_i (p_i σF 7 0) 6 ((p_i σF 7 0).1 5)).1 7 = 0 by rw [pi_ne (by decide), pi_at])]
    have i4 : (p_i (p_i σF 7 0) 6 ((p_i σF 7 0).1 5)).1 4 = σ1.1 6 := by rw [pi_ne (by decide), pi_ne (by decide)]; exact h2
    rw [i4]
    refine ⟨_, _, _, rfl, rfl, kDr0 rfl ?_, ?_, Or.inl ⟨?_, rfl, rfl, rfl, rfl, rfl⟩⟩
    · rw [pi_ne (by decide), pi_ne (by decide)]; exact h5
    · show σ1.1 7 = _
      rw [pi_at, pi_ne (by decide), h3]
    · rw [pi_ne (by decide), pi_at]
