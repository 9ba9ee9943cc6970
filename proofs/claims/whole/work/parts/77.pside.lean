/-! One turn of both readers: a formula and the sign behind it. -/
theorem kF.pl {σK σM : vS} {p p' w rc : Nat} {bg en : Nat → Nat} {Am : Nat → Nat → Int} {Ac : Nat → Int} (h : kF σK σM p w rc bg en Am Ac) (hp : p ≤ p') : kF (p_i σK 1 (nI p')) (p_i σM 3 (nI p')) p' w rc bg en Am Ac :=
  h.fr ⟨fun i hi => by rw [piI, if_neg (by omega)], rfl, fun _ _ => ⟨rfl, rfl, rfl, rfl⟩⟩ ⟨fun i hi => by rw [piI, if_neg (by omega)], rfl, fun _ _ => ⟨rfl, rfl, rfl⟩, fun _ _ => rfl, fun _ _ => rfl⟩ hp
theorem kQ.pl {σK σM : vS} {L p w rc el ch p' : Nat} {c : Nat → Nat} {bg en : Nat → Nat} {Am : Nat → Nat → Int} {Ac : Nat → Int} (h : kQ σK σM L c p w rc el ch bg en Am Ac) (hp : p ≤ p') (hL : p' ≤ L) : kQ (p_i σK 1 (nI p')) (p_i σM 3 (nI p')) L c p' w rc el ch bg en Am Ac := by
  obtain ⟨h1, ⟨g0, g1, g2, g3, g4, g5, g6, g7, g8, g9, g10, g11, g12⟩, h3, h4⟩ := h
  exact ⟨h1.fr rfl rfl rfl rfl, ⟨hL, pi_at _ _ _, pi_at _ _ _, g3, g4, g5, g6, g7, g8, g9, g10, g11, g12⟩, h3, h4.pl hp⟩
theorem pi_ne {σ : vS} {k k' : Nat} {v : Int32} (h : k' ≠ k) : (p_i σ k v).1 k' = σ.1 k' := by rw [piI, if_neg h]
theorem k_skipX {N : Nat} {σK σM : vS} {L p : Nat} {c : Nat → Nat} (hN : 300 < N) (h : kTx σK σM L c) (hM : σM.1 3 = nI p) (hp : p < 900) : ∃ e, p ≤ e ∧ e ≤ L + p ∧ fX6_skip N σM = some (p_i σM 3 (nI e)) := by
  by_cases hpL : p ≤ L
  · obtain ⟨e, h1, h2, -, -, h5⟩ := k_skip (σK := p_i σK 1 (nI p)) hN (h.fr rfl rfl rfl rfl) hpL (pi_at _ _ _) hM
    exact ⟨e, h1, by omega, h5⟩
  · refine ⟨p, Nat.le_refl _, by omega, ?_⟩
    unfold fX6_skip
    rw [k_itr_1 (r := σM) ?_ N (by omega)]
    · rw [pi_self hM]; rfl
    · show bX6_skip_0 N σM = _
      unfold bX6_skip_0
      rw [hM, k_charAt h (by omega), bd1_s, h.2.2.1 p (by omega), if_neg (by decide)]
/-- behind a fault the reference's side ends -/
theorem k_53F {N : Nat} {σK σM : vS} {L : Nat} {c : Nat → Nat} {p1 : Int32} (hN : 300 < N) (hB : kB σK σM) (hT : kTx σK σM L c) (h1 : σM.1 1 = 0) : ∃ σM', jX6_readSide_53_2 N σM p1 = some (.inl (0, σM')) ∧ σM'.1 4 ≠ 0 ∧ σM'.1 4 = σM.1 4 ∧ σM'.1 5 = σM.1 5 ∧ kTx σK σM' L c ∧ σM'.1 1 = 0 ∧ ∃ p', σM'.1 3 = nI p' ∧ p' ≤ 300 := by
  obtain ⟨fa, qa, pa, x1, x2, x3, x4, x5, x6, x7⟩ := hB
  have hL := hT.1
  obtain ⟨e, e1, e2, e3⟩ := k_skipX hN hT x6 (by omega)
  unfold jX6_readSide_53_2
  rw [e3, bd1_s, if_neg (by rw [pi_ne (by decide), x4]; exact x1)]
  unfold jX6_readSide_81_2 jX6_readSide_83_2
  rw [if_pos rfl, pi_at, pi_pi]
  refine ⟨_, rfl, ?_, ?_, ?_, hT.fr rfl rfl rfl rfl, ?_, e, ?_, by omega⟩
  · rw [pi_ne (by decide), x4]; exact x1
  · rw [pi_ne (by decide)]
  · rw [pi_ne (by decide)]
  · rw [pi_ne (by decide)]; exact h1
  · rw [pi_at]; exact nI_add e 0
def kIt (N : Nat) (σK σM : vS) (L : Nat) (c : Nat → Nat) (p w rc : Nat) (p1 : Int32) : Prop :=
  ∃ (a b : Int32) (σK' σM' : vS), bX3_readEquation_29 N 1 (nI w) σK = some (.inl (a, nI (w + 1), σK')) ∧ bX6_readSide_2 N p1 1 σM = some (.inl (b, σM')) ∧
  ((a = 1 ∧ b = 1 ∧ ∃ p' el' ch' bg' en' Am' Ac', p < p' ∧ kQ σK' σM' L c p' (w + 1) rc el' ch' bg' en' Am' Ac') ∨
   (a = 1 ∧ b = 0 ∧ rc = 0 ∧ ∃ e el' ch' bg' en' Am' Ac', p < e ∧ e < L ∧ σM'.1 3 = nI e ∧ σM'.1 4 = 0 ∧ c e = 61 ∧ kTx σK' σM' L c ∧ kQ σK' (p_i σM' 3 (nI (e + 1))) L c (e + 1) (w + 1) (w + 1) el' ch' bg' en' Am' Ac') ∨
   (a = 0 ∧ b = 0 ∧ 0 < rc ∧ ∃ el' ch' bg' en' Am' Ac', kQ σK' σM' L c L (w + 1) rc el' ch' bg' en' Am' Ac') ∨
   (a = 0 ∧ b = 0 ∧ ∃ e, e ≤ L ∧ σM'.1 3 = nI e ∧ σM'.1 4 = 0 ∧ σK'.1 6 = -2 ∧ σK'.1 7 = nI e ∧ kTx σK' σM' L c ∧ σM'.1 1 = 0 ∧ (rc = 0 → c e ≠ 61) ∧ (0 < rc → e < L)) ∨
   (a = 0 ∧ b = 0 ∧ σK'.1 6 ≠ 0 ∧ σM'.1 4 = σK'.1 6 ∧ σM'.1 5 = σK'.1 7 ∧ kTx σK' σM' L c ∧ σM'.1 1 = 0 ∧ ∃ p', σM'.1 3 = nI p' ∧ p' ≤ 300))
theorem k_iter {N : Nat} {σK σM : vS} {L p w rc el ch : Nat} {c : Nat → Nat} {bg en : Nat → Nat} {Am : Nat → Nat → Int} {Ac : Nat → Int} (hN : 300 < N) (h : kQ σK σM L c p w rc el ch bg en Am Ac) (p1 : Int32) (hp1 : p1 = if rc = 0 then 0 else 1) : kIt N σK σM L c p w rc p1 := by
  have h0 := h
  obtain ⟨hT, hC, ⟨q1, q2, q3, q4, q5, q6⟩, hF⟩ := h
  have hL := hT.1
  obtain ⟨a0, a1, a2, a3, a4, a5, a6, a7, a8, a9, a10, a11, a12⟩ := hC
  obtain ⟨e, e1, e2, e3, eK, eM⟩ := k_skip hN hT a0 a1 a2
  have hQ := h0.pl e1 e2
  have hbK : bX3_readEquation_29 N 1 (nI w) σK = (bd1 (fX3_beginFormula N (p_i σK 1 (nI e))) fun σ4 => if (σ4.1 2) < (6 : Int32) then (bd1 (fX4_here N σ4) fun r5 => if r5 = (101 : Int32) then (bd1 (fX3_readElectron N σ4) fun σ14 => jX3_readEquation_103_29 N σ14 (nI w) (nI e)) else (bd1 (fX3_readFormula N σ4) fun σ6 => jX3_readEquation_103_29 N σ6 (nI w) (nI e))) else (bd1 (fX3_meet N σ4 (-5 : Int32) (nI e)) fun σ16 => jX3_readEquation_103_29 N σ16 (nI w) (nI e))) := by
    unfold bX3_readEquation_29
    rw [if_neg (show ¬ (6 : Int32) < nI w from nI_nlt (a := 6) (by omega) (by omega)), if_neg (by decide), eK, bd1_s, pi_at, k_lt_e]
  have hbM : bX6_readSide_2 N p1 1 σM = (if nI w = (6 : Int32) then (bd1 (fX6_failIf N (p_i σM 3 (nI e)) 1 (-5) (nI e)) fun σ10 => jX6_readSide_41_2 N σ10 p1) else (bd1 (fX6_failIf N (p_i σM 3 (nI e)) 0 (-5) (nI e)) fun σ2 => jX6_readSide_41_2 N σ2 p1)) := by
    unfold bX6_readSide_2
    rw [if_neg (by decide), if_pos a10, eM, bd1_s, pi_at, show (p_i σM 3 (nI e)).1 8 = nI w from q2]
  have hf0 : (p_i σM 3 (nI e)).1 4 = 0 := a10
  unfold kIt
  rw [hbK, hbM]
  by_cases hw : w = 6
  · obtain ⟨σ1, g0, g1, g2, g3, g4, g5⟩ := k_fill (σ := p_i σK 1 (nI e)) (b := 0) (v := 0) (show 10 < N by omega)
    have eB : fX3_beginFormula N (p_i σK 1 (nI e)) = some (p_i σ1 9 0) := by
      unfold fX3_beginFormula
      rw [g0, bd1_s]
    have i2 : (p_i σ1 9 0).1 2 = nI w := by rw [pi_ne (by decide), g1]; exact q1
    rw [eB, bd1_s, i2, if_neg (nlNl 6 6 rfl (by omega) (show 6 ≤ w by omega)), if_pos (nlE 6 6 rfl hw), k_failY hf0, bd1_s]
    unfold fX3_meet jX3_readEquation_103_29 fX3_endFormula jX3_endFormula_21
    have hne : ¬ (p_i (p_i (p_i σ1 9 0) 6 (-5)) 7 (nI e)).1 6 = 0 := (by decide : ¬ ((-5 : Int32) = 0))
    rw [bd1_s, if_neg hne, if_neg hne, bd1_s, if_neg hne, k_lt_e, nI_1]
    unfold jX6_readSide_41_2
    have hne2 : ¬ (p_i (p_i (p_i σM 3 (nI e)) 4 (-5)) 5 (nI e)).1 4 = 0 := (by decide : ¬ ((-5 : Int32) = 0))
    rw [if_neg hne2]
    have hTX : kTx (p_i (p_i (p_i σ1 9 0) 6 (-5)) 7 (nI e)) (p_i (p_i (p_i σM 3 (nI e)) 4 (-5)) 5 (nI e)) L c := by
      refine hT.fr ?_ ?_ rfl rfl
      · rw [pi_ne (by decide), pi_ne (by decide), pi_ne (by decide), g1]; rfl
      · show σ1.2.1 0 = _; rw [g2]; rfl
    obtain ⟨σM', s1, s2, s3, s4, s5, s6, s7⟩ := k_53F (p1 := p1) hN ⟨-5, nI e, e, by decide, rfl, rfl, rfl, rfl, rfl, by omega⟩ hTX q6
    rw [s1]
    refine ⟨0, 0, _, σM', rfl, rfl, Or.inr (Or.inr (Or.inr (Or.inr ⟨rfl, rfl, hne, s3.trans rfl, s4.trans rfl, s5, s6, s7⟩)))⟩
  · have hw6 : w < 6 := by omega
    obtain ⟨σ4, σ6, σ7, σ8, z1, z2, z3, z4, z5, z6, z7⟩ := k_form hN hQ hw6 p1 hp1
    rw [z1, bd1_s, z2, if_pos (nlLt 6 6 rfl (by omega) hw6), z3, bd1_s, if_neg (nlN 6 6 rfl (by omega) (by omega) hw), k_failN, bd1_s]
    have eK2 : (if nI (c e) = (101 : Int32) then (bd1 (fX3_readElectron N σ4) fun σ14 => jX3_readEquation_103_29 N σ14 (nI w) (nI e)) else (bd1 (fX3_readFormula N σ4) fun σ6 => jX3_readEquation_103_29 N σ6 (nI w) (nI e))) = jX3_readEquation_103_29 N σ6 (nI w) (nI e) := by
      by_cases h9 : nI (c e) = (101 : Int32)
      · rw [if_pos h9] at z4
        rw [if_pos h9, z4, bd1_s]
      · rw [if_neg h9] at z4
        rw [if_neg h9, z4, bd1_s]
    rw [eK2]
    unfold jX3_readEquation_103_29 jX6_readSide_41_2
    rw [z5, bd1_s, if_pos hf0, z6, bd1_s]
    rcases z7 with ⟨p2, el2, ch2, bg2, en2, Am2, Ac2, u1, u2⟩ | ⟨hB, hTX, h1⟩
    · have u0 := u2
      obtain ⟨hT2, ⟨b0, b1, b2, b3, b4, b5, b6, b7, b8, b9, b10, b11, b12⟩, ⟨r1, r2, r3, r4, r5, r6⟩, hF2⟩ := u2
      obtain ⟨e', t1, t2, t3, tK, tM⟩ := k_skip hN hT2 b0 b1 b2
      have hQ2 := u0.pl t1 t2
      have hT3 := hQ2.1
      have hcb := hT.b e'
      rw [if_pos b9]
      unfold fX3_readSign jX6_readSide_53_2
      rw [tK, bd1_s, tM, bd1_s, k_here hT3 (pi_at _ _ _) (by omega), bd1_s, if_pos (show (p_i σ8 3 (nI e')).1 4 = 0 from b10), pi_at, k_charAt hT3 (by omega), bd1_s, show (p_i σ7 1 (nI e')).1 3 = nI rc from r4]
      -- the reference's end of a turn
      have hM1 : jX6_readSide_83_2 N (p_i σ8 3 (nI e')) p1 1 = some (.inl (1, p_i σ8 3 (nI (e' + 1)))) := by
        unfold jX6_readSide_83_2
        rw [if_neg (by decide), pi_at, pi_pi, nI_1]
      have hM0 : jX6_readSide_81_2 N (p_i σ8 3 (nI e')) p1 = some (.inl (0, p_i σ8 3 (nI e'))) := by
        unfold jX6_readSide_81_2 jX6_readSide_83_2
        rw [if_pos rfl, pi_at, pi_pi, show nI e' + 0 = nI e' from nI_add e' 0]
      have hK89 : ∀ σ : vS, σ.1 1 = nI e' → jX3_readSign_89 N σ = some (1, p_i σ 1 (nI (e' + 1))) := fun σ hσ => by
        unfold jX3_readSign_89
        rw [hσ, nI_1]
      rw [hM1, hM0]
      have e31 : (if nI rc ≤ 0 then jX3_readSign_31 N (p_i σ7 1 (nI e')) (nI (c e')) 0 else jX3_readSign_31 N (p_i σ7 1 (nI e')) (nI (c e')) 1) = jX3_readSign_31 N (p_i σ7 1 (nI e')) (nI (c e')) (if rc = 0 then 0 else 1) := by
        by_cases h9 : rc = 0
        · rw [if_pos (show nI rc ≤ 0 by rw [h9]; decide), if_pos h9]
        · rw [if_neg (nI_nle (by omega) (by omega)), if_neg h9]
      rw [e31]
      by_cases hp : c e' = 43
      · have heL : e' < L := hT.p (by omega)
        have e41 : jX3_readSign_31 N (p_i σ7 1 (nI e')) (nI (c e')) (if rc = 0 then 0 else 1) = some (1, p_i σ7 1 (nI (e' + 1))) := by
          unfold jX3_readSign_31 jX3_readSign_41 jX3_readSign_68
          rw [if_neg (nlN 0 0 rfl hcb (by omega) (show c e' ≠ 0 by omega)), if_neg (nlN 61 61 rfl hcb (by omega) (show c e' ≠ 61 by omega)), if_pos (nlE 43 43 rfl hp), hK89 _ (pi_at _ _ _), pi_pi]
        rw [e41, bd2_s, if_neg (by decide), k_lt_e, nI_1, if_pos (nlE 43 43 rfl hp)]
        have hQ3 := hQ2.pl (p' := e' + 1) (by omega) (by omega)
        rw [pi_pi, pi_pi] at hQ3
        exact ⟨1, 1, _, _, rfl, rfl, Or.inl ⟨rfl, rfl, e' + 1, el2, ch2, bg2, en2, Am2, Ac2, by omega, hQ3⟩⟩
      · rw [if_neg (nlN 43 43 rfl hcb (by omega) hp)]
        have bad : (rc = 0 → c e' ≠ 61) → (0 < rc → e' < L) → ∃ (a b : Int32) (σK' σM' : vS), (bd2 (jX3_readSign_31 N (p_i σ7 1 (nI e')) (nI (c e')) (if rc = 0 then 0 else 1)) fun r9 σ9 => if r9 = 0 then (k_lt (nI w + 1) fun x10 => some (.inl ((0 : Int32), x10, σ9))) else (k_lt (nI w + 1) fun x11 => some (.inl ((1 : Int32), x11, σ9))) : Option ((Int32 × Int32 × vS) ⊕ vS)) = some (.inl (a, nI (w + 1), σK')) ∧ (some (.inl (0, p_i σ8 3 (nI e'))) : Option ((Int32 × vS) ⊕ vS)) = some (.inl (b, σM')) ∧ a = 0 ∧ b = 0 ∧ ∃ e, e ≤ L ∧ σM'.1 3 = nI e ∧ σM'.1 4 = 0 ∧ σK'.1 6 = -2 ∧ σK'.1 7 = nI e ∧ kTx σK' σM' L c ∧ σM'.1 1 = 0 ∧ (rc = 0 → c e ≠ 61) ∧ (0 < rc → e < L) := fun v1 v2 => by
          have e68 : jX3_readSign_68 N (p_i σ7 1 (nI e')) (nI (c e')) = some (0, p_i (p_i (p_i σ7 1 (nI e')) 6 (-2)) 7 (nI e')) := by
            unfold jX3_readSign_68 fX3_meet
            rw [if_neg (nlN 43 43 rfl hcb (by omega) hp), pi_at, bd1_s]
          have e31' : jX3_readSign_31 N (p_i σ7 1 (nI e')) (nI (c e')) (if rc = 0 then 0 else 1) = some (0, p_i (p_i (p_i σ7 1 (nI e')) 6 (-2)) 7 (nI e')) := by
            unfold jX3_readSign_31 jX3_readSign_41
            by_cases hrc : rc = 0
            · rw [if_pos hrc, if_pos rfl, if_pos rfl, if_neg (nlN 61 61 rfl hcb (by omega) (v1 hrc)), e68]
              split <;> rfl
            · have hlt := v2 (by omega)
              have := (hT.2.1 e' hlt).1
              rw [if_neg hrc, if_neg (nlN 0 0 rfl hcb (by omega) (show c e' ≠ 0 by omega)), if_neg (show ¬ (1 : Int32) = 0 by decide), e68]
              split <;> rfl
          rw [e31', bd2_s, if_pos rfl, k_lt_e, nI_1]
          exact ⟨0, 0, _, _, rfl, rfl, rfl, rfl, e', t2, pi_at _ _ _, b10, rfl, rfl, hT3.fr rfl rfl rfl rfl, r6, v1, v2⟩
        by_cases hrc : rc = 0
        · by_cases he : c e' = 61
          · have heL : e' < L := hT.p (by omega)
            have e41 : jX3_readSign_31 N (p_i σ7 1 (nI e')) (nI (c e')) (if rc = 0 then 0 else 1) = some (1, p_i (p_i (p_i σ7 1 (nI e')) 3 (nI (w + 1))) 1 (nI (e' + 1))) := by
              unfold jX3_readSign_31 jX3_readSign_41
              rw [if_neg (nlN 0 0 rfl hcb (by omega) (show c e' ≠ 0 by omega)), if_pos (nlE 61 61 rfl he), if_pos hrc, if_pos rfl, hK89 _ (by rw [pi_ne (by decide), pi_at]), show (p_i σ7 1 (nI e')).1 2 = nI (w + 1) from r1]
            rw [e41, bd2_s, if_neg (by decide), k_lt_e, nI_1]
            refine ⟨1, 0, _, _, rfl, rfl, Or.inr (Or.inl ⟨rfl, rfl, hrc, e', el2, ch2, bg2, en2, Am2, Ac2, by omega, heL, pi_at _ _ _, b10, he, hT3.fr rfl rfl rfl rfl, ?_⟩)⟩
            refine ⟨hT3.fr rfl rfl rfl rfl, ⟨by omega, rfl, rfl, b3, b4, b5, b6, b7, b8, b9, b10, b11, b12⟩, ⟨r1, r2, r3, rfl, Nat.le_refl _, r6⟩, fun j hj => ?_, hF2.2⟩
            obtain ⟨n1, n2, ⟨n3, n4, n5, n6, n7, n8⟩, n9⟩ := hF2.1 j hj
            refine ⟨n1, n2, ⟨n3, n4, n5, n6, n7, by omega⟩, ?_⟩
            show σ8.2.1 4 j = _
            rw [n9, if_pos (Or.inl hrc), if_pos (Or.inr hj)]
          · obtain ⟨a, b, σK', σM', v1, v2, v3⟩ := bad (fun _ => he) (fun h9 => by omega)
            exact ⟨a, b, σK', σM', v1, v2, Or.inr (Or.inr (Or.inr (Or.inl v3)))⟩
        · by_cases heL : e' < L
          · obtain ⟨a, b, σK', σM', v1, v2, v3⟩ := bad (fun h9 => absurd h9 hrc) (fun _ => heL)
            exact ⟨a, b, σK', σM', v1, v2, Or.inr (Or.inr (Or.inr (Or.inl v3)))⟩
          · have heq : e' = L := by omega
            have e41 : jX3_readSign_31 N (p_i σ7 1 (nI e')) (nI (c e')) (if rc = 0 then 0 else 1) = some (0, p_i σ7 1 (nI e')) := by
              unfold jX3_readSign_31
              rw [if_pos (nlE 0 0 rfl (hT.2.2.1 e' (by omega))), if_neg hrc, if_neg (by decide)]
            rw [e41, bd2_s, if_pos rfl, k_lt_e, nI_1]
            rw [heq] at hQ2 ⊢
            exact ⟨0, 0, _, _, rfl, rfl, Or.inr (Or.inr (Or.inl ⟨rfl, rfl, by omega, el2, ch2, bg2, en2, Am2, Ac2, hQ2⟩))⟩
    · obtain ⟨σM', s1, s2, s3, s4, s5, s6, s7⟩ := k_53F (p1 := p1) hN hB hTX h1
      obtain ⟨fa, qa, pa, x1, x2, x3, x4, x5, x6, x7⟩ := hB
      have hne : ¬ σ7.1 6 = 0 := by rw [x2]; exact x1
      rw [if_neg hne, s1, k_lt_e, nI_1]
      refine ⟨0, 0, _, σM', rfl, rfl, Or.inr (Or.inr (Or.inr (Or.inr ⟨rfl, rfl, hne, ?_, ?_, s5, s6, s7⟩)))⟩
      · rw [s3, x4, x2]
      · rw [s4, x5, x3]
