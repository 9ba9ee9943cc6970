/-! Groups. -/
theorem k_len5 {b : Nat} (h : b < 5) : k_len b = 5 := by unfold k_len; rw [if_pos h]
theorem k_ix5m {d t : Nat} (h : 1 ≤ d) : (5 : Int32) * nI d - 5 + nI t = nI (5 * (d - 1) + t) := by
  rw [show (5 : Int32) = nI 5 from rfl, pk_mul, pk_sub (by omega), nI_add]
  exact congrArg nI (by omega)
theorem k_clearS {N d : Nat} {σ : vS} (hN : 300 < N) (hd : d ≤ 3) (h11 : σ.1 11 = nI d) : ∃ σ', fX6_clearSums N σ = some σ' ∧ σ'.1 = σ.1 ∧ σ'.2.1 = σ.2.1 ∧ (∀ b, b ≠ 2 → σ'.2.2.2 b = σ.2.2.2 b) ∧ (∀ i, (i < 5 * d ∨ 5 * d + 5 ≤ i) → σ'.2.2.2 2 i = σ.2.2.2 2 i) ∧ ∀ t, t < 5 → σ'.2.2.2 2 (5 * d + t) = lI 0 := by
  unfold fX6_clearSums
  refine kok_bd1 (P := fun σ' => σ'.1 = σ.1 ∧ σ'.2.1 = σ.2.1 ∧ (∀ b, b ≠ 2 → σ'.2.2.2 b = σ.2.2.2 b) ∧ (∀ i, (i < 5 * d ∨ 5 * d + 5 ≤ i) → σ'.2.2.2 2 i = σ.2.2.2 2 i) ∧ ∀ t, t < 5 → σ'.2.2.2 2 (5 * d + t) = lI 0) ?_ (fun σ' h => kok_some h)
  refine kok_for (body := fun zz => bX6_clearSums_2 N zz.1 zz.2) 5 (fun t σ' => σ'.1 = σ.1 ∧ σ'.2.1 = σ.2.1 ∧ (∀ b, b ≠ 2 → σ'.2.2.2 b = σ.2.2.2 b) ∧ (∀ i, (i < 5 * d ∨ 5 * d + 5 ≤ i) → σ'.2.2.2 2 i = σ.2.2.2 2 i) ∧ ∀ t', t' < t → σ'.2.2.2 2 (5 * d + t') = lI 0) (fun t σ' ht hI => ?_) (fun σ' hI => ?_) N 0 _ (by omega) (Nat.zero_le _) ⟨rfl, rfl, fun _ _ => rfl, fun _ _ => rfl, fun t' h => by omega⟩
  · obtain ⟨g1, g2, g3, g4, g5⟩ := hI
    show kok (bX6_clearSums_2 N (nI t) σ') _
    unfold bX6_clearSums_2
    rw [g1, h11, k_ix5]
    refine kok_f (nI_ge (b := 5) ht (by omega)) (kok_g (nI_in (by omega) (by omega)) (kok_lt (kok_some ⟨_, Prod.ext (nI_1 _) rfl, g1, g2, fun b hb => ?_, fun i hi => ?_, fun t' ht' => ?_⟩)))
    · funext j; rw [pbB, if_neg hb]; exact congrFun (g3 b hb) j
    · rw [pbB, if_pos rfl, nI_clamp (by omega), if_neg (by omega)]; exact g4 i hi
    · rw [pbB, if_pos rfl, nI_clamp (by omega)]
      by_cases e : t' = t
      · rw [if_pos (by omega)]; rfl
      · rw [if_neg (by omega)]; exact g5 t' (by omega)
  · show kok (bX6_clearSums_2 N (nI 5) σ') _
    unfold bX6_clearSums_2
    exact kok_t (nI_le (a := 5) (by omega) (by omega)) (kok_some hI)
theorem k_addT {N b0 b1 : Nat} {σ : vS} {r : Int32} (hN : 300 < N) (h0 : b0 < 5) (h1 : b1 < 5) (hne : b0 ≠ b1) : ∃ σ', fX3_addTimes N σ b0 b1 r = some σ' ∧ σ'.1 = σ.1 ∧ σ'.2.1 = σ.2.1 ∧ (∀ b, b ≠ b0 → σ'.2.2.2 b = σ.2.2.2 b) ∧ ∀ t, t < 5 → σ'.2.2.2 b0 t = σ.2.2.2 b0 t + r.toInt64 * σ.2.2.2 b1 t := by
  unfold fX3_addTimes
  refine kok_bd1 (P := fun σ' => σ'.1 = σ.1 ∧ σ'.2.1 = σ.2.1 ∧ (∀ b, b ≠ b0 → σ'.2.2.2 b = σ.2.2.2 b) ∧ ∀ t, t < 5 → σ'.2.2.2 b0 t = σ.2.2.2 b0 t + r.toInt64 * σ.2.2.2 b1 t) ?_ (fun σ' h => kok_some h)
  refine kok_for (body := fun zz => bX3_addTimes_2 N b0 b1 r zz.1 zz.2) 5 (fun t σ' => σ'.1 = σ.1 ∧ σ'.2.1 = σ.2.1 ∧ (∀ b, b ≠ b0 → σ'.2.2.2 b = σ.2.2.2 b) ∧ ∀ t', t' < 5 → σ'.2.2.2 b0 t' = if t' < t then σ.2.2.2 b0 t' + r.toInt64 * σ.2.2.2 b1 t' else σ.2.2.2 b0 t') (fun t σ' ht hI => ?_) (fun σ' hI => ?_) N 0 _ (by omega) (Nat.zero_le _) ⟨rfl, rfl, fun _ _ => rfl, fun t' _ => by rw [if_neg (Nat.not_lt_zero _)]⟩
  · obtain ⟨g1, g2, g3, g4⟩ := hI
    show kok (bX3_addTimes_2 N b0 b1 r (nI t) σ') _
    unfold bX3_addTimes_2
    rw [k_len5 h0, k_len5 h1]
    refine kok_f (nI_ge (b := 5) ht (by omega)) (kok_g (nI_in (by omega) (by omega)) (kok_g (nI_in (by omega) (by omega)) (kok_g (nI_in (by omega) (by omega)) (kok_lt (kok_some ⟨_, Prod.ext (nI_1 _) rfl, g1, g2, fun b hb => ?_, fun t' ht' => ?_⟩)))))
    · funext j; rw [pbB, if_neg hb]; exact congrFun (g3 b hb) j
    · rw [pbB, if_pos rfl, nI_clamp (by omega)]
      by_cases e : t' = t
      · subst e
        rw [if_pos rfl, if_pos (by omega), g4 t' ht', if_neg (by omega), g3 b1 (Ne.symm hne)]
      · rw [if_neg e, g4 t' ht']
        by_cases e2 : t' < t
        · rw [if_pos e2, if_pos (by omega)]
        · rw [if_neg e2, if_neg (by omega)]
  · obtain ⟨g1, g2, g3, g4⟩ := hI
    show kok (bX3_addTimes_2 N b0 b1 r (nI 5) σ') _
    unfold bX3_addTimes_2
    exact kok_t (nI_le (a := 5) (by omega) (by omega)) (kok_some ⟨g1, g2, g3, fun t ht => by rw [g4 t ht, if_pos ht]⟩)
theorem k_addM {N d : Nat} {σ : vS} {r : Int64} (hN : 300 < N) (hd : d ≤ 3) (hd1 : 1 ≤ d) (h11 : σ.1 11 = nI d) : ∃ σ', k_itr (fun zz => bX6_readStep_190 N r zz.1 zz.2) N ((0 : Int32), σ) = some σ' ∧ σ'.1 = σ.1 ∧ σ'.2.1 = σ.2.1 ∧ (∀ b, b ≠ 2 → σ'.2.2.2 b = σ.2.2.2 b) ∧ (∀ i, (i < 5 * (d - 1) ∨ 5 * d ≤ i) → σ'.2.2.2 2 i = σ.2.2.2 2 i) ∧ ∀ t, t < 5 → σ'.2.2.2 2 (5 * (d - 1) + t) = σ.2.2.2 2 (5 * (d - 1) + t) + r * σ.2.2.2 2 (5 * d + t) := by
  refine kok_for (body := fun zz => bX6_readStep_190 N r zz.1 zz.2) 5 (fun t σ' => σ'.1 = σ.1 ∧ σ'.2.1 = σ.2.1 ∧ (∀ b, b ≠ 2 → σ'.2.2.2 b = σ.2.2.2 b) ∧ (∀ i, (i < 5 * (d - 1) ∨ 5 * d ≤ i) → σ'.2.2.2 2 i = σ.2.2.2 2 i) ∧ ∀ t', t' < 5 → σ'.2.2.2 2 (5 * (d - 1) + t') = if t' < t then σ.2.2.2 2 (5 * (d - 1) + t') + r * σ.2.2.2 2 (5 * d + t') else σ.2.2.2 2 (5 * (d - 1) + t')) (fun t σ' ht hI => ?_) (fun σ' hI => ?_) N 0 _ (by omega) (Nat.zero_le _) ⟨rfl, rfl, fun _ _ => rfl, fun _ _ => rfl, fun t' _ => by rw [if_neg (Nat.not_lt_zero _)]⟩
  · obtain ⟨g1, g2, g3, g5, g4⟩ := hI
    show kok (bX6_readStep_190 N r (nI t) σ') _
    unfold bX6_readStep_190
    rw [g1, h11, k_ix5m hd1, k_ix5]
    refine kok_f (nI_ge (b := 5) ht (by omega)) (kok_g (nI_in (by omega) (by omega)) (kok_g (nI_in (by omega) (by omega)) (kok_g (nI_in (by omega) (by omega)) (kok_lt (kok_some ⟨_, Prod.ext (nI_1 _) rfl, g1, g2, fun b hb => ?_, fun i hi => ?_, fun t' ht' => ?_⟩)))))
    · funext j; rw [pbB, if_neg hb]; exact congrFun (g3 b hb) j
    · rw [pbB, if_pos rfl, nI_clamp (by omega), if_neg (by omega)]; exact g5 i hi
    · rw [pbB, if_pos rfl, nI_clamp (by omega), nI_clamp (by omega)]
      by_cases e : t' = t
      · subst e
        rw [if_pos rfl, if_pos (by omega), g4 t' ht', if_neg (by omega), g5 (5 * d + t') (by omega)]
      · rw [if_neg (by omega), g4 t' ht']
        by_cases e2 : t' < t
        · rw [if_pos e2, if_pos (by omega)]
        · rw [if_neg e2, if_neg (by omega)]
  · obtain ⟨g1, g2, g3, g5, g4⟩ := hI
    show kok (bX6_readStep_190 N r (nI 5) σ') _
    unfold bX6_readStep_190
    exact kok_t (nI_le (a := 5) (by omega) (by omega)) (kok_some ⟨g1, g2, g3, g5, fun t ht => by rw [g4 t ht, if_pos ht]⟩)
theorem fpK.of {σ σ' : vS} (h1 : σ'.1 = σ.1) (h2 : σ'.2.1 = σ.2.1) : fpK σ σ' := ⟨fun i _ => by rw [h1], fun b _ _ => by rw [h2]⟩
theorem fpM.of {w : Nat} {σ σ' : vS} (h1 : σ'.1 = σ.1) (h2 : σ'.2.1 = σ.2.1) (h3 : ∀ b, b ≠ 2 → σ'.2.2.2 b = σ.2.2.2 b) : fpM w σ σ' := ⟨fun i _ => by rw [h1], fun b _ _ => by rw [h2], fun j _ => by rw [h3 0 (by decide)], fun j _ => by rw [h3 1 (by decide)]⟩
theorem kPh_eq {s s' : Nat → Nat → Nat} {t : Nat} : ∀ n, (∀ i, i ≤ n → s' i t = s i t) → kPh s' t n = kPh s t n := by
  intro n
  induction n with
  | zero => intro h; exact h 0 (Nat.le_refl _)
  | succ n ih =>
    intro h
    show kPh s' t n + 99 ^ (n + 1) * s' (n + 1) t = kPh s t n + 99 ^ (n + 1) * s (n + 1) t
    rw [ih (fun i hi => h i (by omega)), h (n + 1) (Nat.le_refl _)]
/-- an opening bracket -/
theorem k_open {N : Nat} {σK σM : vS} {L p w el ch d : Nat} {c : Nat → Nat} {tot : Nat → Nat} {q : Int} {s : Nat → Nat → Nat} (hN : 300 < N) (h : kU σK σM L c p w el ch tot q) (hS : kS σK σM d s) (hb : ∀ t, t < 5 → kPh s t d ≤ 99 ^ 4 * p) (hc : c p = 40 ∨ c p = 91) :
    ∃ σK' σM', fX3_openGroup N σK (nI (c p)) = some σK' ∧ jX6_readStep_21 N σM (nI (c p)) = some (1, σM') ∧ ((d < 3 ∧ kOut σK σM σK' σM' L c p w ch tot q (d + 1)) ∨ (fpK σK σK' ∧ fpM w σM σM' ∧ kB σK' σM')) := by
  obtain ⟨hT, hC, hO⟩ := h
  have hL := hT.1
  have hC' := hC
  obtain ⟨a0, a1, a2, a3, a4, a5, a6, a7, a8, a9, a10, a11, a12⟩ := hC'
  have hS' := hS
  obtain ⟨b0, b1, b2, b3, b4⟩ := hS'
  have hp : p < L := hT.p (by omega)
  unfold fX3_openGroup jX6_readStep_21
  rw [b1, b2, a2]
  by_cases hd : d < 3
  · rw [if_pos (nlLt 3 3 rfl (by omega) hd), if_neg (nlN 3 3 rfl (by omega) (by omega) (show d ≠ 3 by omega)), k_failN, bd1_s]
    unfold jX6_readStep_44
    rw [if_pos a10, b2, nI_1, if_neg (nI_in (by omega) (by omega)), if_neg (nI_in (by omega) (by omega)), nI_clamp (by omega)]
    have main : ∀ v : Int32, v ≠ 0 → ∃ σK' σM', jX3_openGroup_54 N (p_a (p_i σK 8 (nI (d + 1))) 5 (d + 1) v) = some σK' ∧ jX6_readStep_83 N (p_a (p_i σM 11 (nI (d + 1))) 6 (d + 1) v) = some (1, σM') ∧ ((d < 3 ∧ kOut σK σM σK' σM' L c p w ch tot q (d + 1)) ∨ (fpK σK σK' ∧ fpM w σM σM' ∧ kB σK' σM')) := fun v hv0 => by
      unfold jX3_openGroup_54 jX6_readStep_83
      rw [show (p_a (p_i σK 8 (nI (d + 1))) 5 (d + 1) v).1 8 = nI (d + 1) from rfl, if_neg (nI_in (by omega) (by omega)), nI_clamp (by omega)]
      obtain ⟨σ1, e1, f1, f2, f3, f4, f5⟩ := k_fill (σ := p_a (p_i σK 8 (nI (d + 1))) 5 (d + 1) v) (b := 1 + (d + 1)) (v := 0) (show 10 < N by omega)
      obtain ⟨σ2, e2, g1, g2, g3, g4, g5⟩ := k_clearS (σ := p_a (p_i σM 11 (nI (d + 1))) 6 (d + 1) v) (d := d + 1) hN (by omega) rfl
      rw [e1, e2, bd1_s, bd1_s]
      have i1 : σ1.1 1 = nI p := by rw [f1]; exact a1
      have i2 : σ2.1 3 = nI p := by rw [g1]; exact a2
      rw [i1, i2, nI_1]
      have fK : fpK σK σ1 := ((fpK.i σK 8 _ (by decide) (by decide) (by decide)).tr (fpK.a _ 5 _ v (by omega))).tr (fpK.of f1 f2)
      have fM : fpM w σM σ2 := ((fpM.i w σM 11 _ (by decide) (by decide) (by decide)).tr (fpM.a w _ 6 _ v (by omega))).tr (fpM.of g1 g2 g3)
      have hU1 : kU σ1 σ2 L c p w el ch tot q := by
        refine ⟨hT.fp fK fM, hC.fr ?_ ?_ ?_ ?_ ?_ ?_ ?_ ?_ ?_ ?_ ?_, hO.fr ?_ ?_ ?_ ?_ ?_⟩
        · rw [f1]; rfl
        · rw [f1]; rfl
        · rw [f1]; rfl
        · rw [f1]; rfl
        · rw [f1]; rfl
        · rw [f2]; rfl
        · rw [g1]; rfl
        · rw [g1]; rfl
        · rw [g1]; rfl
        · rw [g1]; rfl
        · rw [g2]; rfl
        · rw [f4 0 (by omega)]; rfl
        · rw [f1]; rfl
        · rw [g1]; rfl
        · rw [g3 1 (by decide)]; rfl
        · rw [g3 0 (by decide)]; rfl
      refine ⟨_, _, rfl, rfl, Or.inl ⟨hd, fK.tr (fpK.i _ 1 _ (by decide) (by decide) (by decide)), fM.tr (fpM.i w _ 3 _ (by decide) (by decide) (by decide)), Or.inl ⟨p + 1, el, fun i t => if i = d + 1 then 0 else s i t, by omega, hU1.pl (by omega), ⟨by omega, ?_, ?_, fun i h1 h2 => ?_, fun i hi t ht => ?_⟩, fun t ht => ?_⟩⟩⟩
      · rw [piI, if_neg (by decide), f1]; rfl
      · rw [piI, if_neg (by decide), g1]; rfl
      · show σ1.2.1 5 i = σ2.2.1 6 i ∧ σ1.2.1 5 i ≠ 0
        rw [f2, g2, paA, paA, if_pos rfl, if_pos rfl]
        by_cases e : i = d + 1
        · rw [if_pos e, if_pos e]; exact ⟨rfl, hv0⟩
        · rw [if_neg e, if_neg e]; exact b3 i h1 (by omega)
      · show σ1.2.2.2 (1 + i) t = _ ∧ σ2.2.2.2 2 (5 * i + t) = _
        by_cases e : i = d + 1
        · subst e
          rw [f5 t (by rw [k_len5 (by omega)]; exact ht), g5 t ht]
          simp only [if_true]
          constructor <;> rfl
        · rw [f4 (1 + i) (by omega), g4 (5 * i + t) (by omega)]
          simp only [if_neg e]
          exact b4 i (by omega) t ht
      · show kPh (fun i t => if i = d + 1 then 0 else s i t) t d + 99 ^ (d + 1) * (if d + 1 = d + 1 then 0 else s (d + 1) t) ≤ 99 ^ 4 * (p + 1)
        rw [if_pos rfl, kPh_eq d (fun i hi => by rw [if_neg (by omega)])]
        have := hb t ht
        have := Nat.mul_le_mul_left (99 ^ 4) (show p ≤ p + 1 by omega)
        omega
    rcases hc with e | e
    · rw [if_pos (nlE 40 40 rfl e), if_pos (nlE 40 40 rfl e), if_neg (nI_g (by omega) (by omega))]
      exact main _ (by decide)
    · rw [if_neg (nlN 40 40 rfl (by omega) (by omega) (show c p ≠ 40 by omega)), if_neg (nlN 40 40 rfl (by omega) (by omega) (show c p ≠ 40 by omega)), if_neg (nI_g (by omega) (by omega))]
      exact main _ (by decide)
  · have hd3 : d = 3 := by omega
    rw [if_neg (nlNl 3 3 rfl (by omega) (show 3 ≤ d by omega)), if_pos (nlE 3 3 rfl hd3), k_failY a10, bd1_s]
    unfold jX6_readStep_44 fX3_meet
    rw [if_neg (by rw [piI, if_neg (by decide), pi_at]; decide), bd1_s, a1]
    exact ⟨_, _, rfl, rfl, Or.inr ⟨(fpK.i _ 6 _ (by decide) (by decide) (by decide)).tr (fpK.i _ 7 _ (by decide) (by decide) (by decide)), (fpM.i w _ 4 _ (by decide) (by decide) (by decide)).tr (fpM.i w _ 5 _ (by decide) (by decide) (by decide)), -4, nI p, p, by decide, rfl, rfl, rfl, rfl, a2, by omega⟩⟩
/-- a closing bracket -/
theorem k_close {N : Nat} {σK σM : vS} {L p w el ch d : Nat} {c : Nat → Nat} {tot : Nat → Nat} {q : Int} {s : Nat → Nat → Nat} (hN : 300 < N) (h : kU σK σM L c p w el ch tot q) (hS : kS σK σM (d + 1) s) (hb : ∀ t, t < 5 → kPh s t (d + 1) ≤ 99 ^ 4 * p) (hp : p < L) :
    ∃ σK' σM', fX3_closeGroup N σK = some σK' ∧ (bd2 (fX6_number0 N (p_i σM 3 (nI p + 1))) fun r17 σ17 => bd1 (k_itr (fun zz => bX6_readStep_190 N r17 zz.1 zz.2) N ((0 : Int32), σ17)) fun q => jX6_readStep_237 N q) = some (1, σM') ∧ kOut σK σM σK' σM' L c p w ch tot q d := by
  have hU1 := h.pl (p' := p + 1) (by omega)
  obtain ⟨hT, hC, hO⟩ := h
  have hL := hT.1
  obtain ⟨a0, a1, a2, a3, a4, a5, a6, a7, a8, a9, a10, a11, a12⟩ := hC
  obtain ⟨b0, b1, b2, b3, b4⟩ := hS
  obtain ⟨e, g1, g2, g3⟩ := k_num hN hU1.1 hU1.2.1.1 hU1.2.1.2.1 hU1.2.1.2.2.1 hU1.2.1.2.2.2.2.2.2.2.2.2.2.1
  unfold fX3_closeGroup
  rw [a1, nI_1]
  -- behind the number, in any case
  have beh : ∀ (σ1 σ2 : vS) (r : Int32) (r' : Int64), σ1.1 8 = nI (d + 1) → σ2.1 11 = nI (d + 1) → ∃ σ3 σ4, (if σ1.1 8 - 1 < 0 ∨ 4 ≤ (σ1.1 8 - 1).toNatClampNeg then none else if σ1.1 8 - 1 + 1 < 0 ∨ 4 ≤ (σ1.1 8 - 1 + 1).toNatClampNeg then none else bd1 (fX3_addTimes N (p_i σ1 8 (σ1.1 8 - 1)) (1 + (σ1.1 8 - 1).toNatClampNeg) (1 + (σ1.1 8 - 1 + 1).toNatClampNeg) r) fun σ4 => some σ4) = some σ3 ∧ (bd1 (k_itr (fun zz => bX6_readStep_190 N r' zz.1 zz.2) N ((0 : Int32), σ2)) fun q => jX6_readStep_237 N q) = some (1, p_i σ4 11 (nI d)) ∧ (σ3.1 = (p_i σ1 8 (nI d)).1 ∧ σ3.2.1 = σ1.2.1 ∧ (∀ b, b ≠ 1 + d → σ3.2.2.2 b = σ1.2.2.2 b) ∧ ∀ t, t < 5 → σ3.2.2.2 (1 + d) t = σ1.2.2.2 (1 + d) t + r.toInt64 * σ1.2.2.2 (1 + (d + 1)) t) ∧ (σ4.1 = σ2.1 ∧ σ4.2.1 = σ2.2.1 ∧ (∀ b, b ≠ 2 → σ4.2.2.2 b = σ2.2.2.2 b) ∧ (∀ i, (i < 5 * d ∨ 5 * (d + 1) ≤ i) → σ4.2.2.2 2 i = σ2.2.2.2 2 i) ∧ ∀ t, t < 5 → σ4.2.2.2 2 (5 * d + t) = σ2.2.2.2 2 (5 * d + t) + r' * σ2.2.2.2 2 (5 * (d + 1) + t)) := fun σ1 σ2 r r' h8 h11 => by
    rw [h8, show nI (d + 1) - 1 = nI d from nI_pred d, nI_1, if_neg (nI_in (by omega) (by omega)), if_neg (nI_in (by omega) (by omega)), nI_clamp (by omega), nI_clamp (by omega)]
    obtain ⟨σ3, e1, f1, f2, f3, f4⟩ := k_addT (σ := p_i σ1 8 (nI d)) (r := r) (b0 := 1 + d) (b1 := 1 + (d + 1)) hN (by omega) (by omega) (by omega)
    obtain ⟨σ4, e2, k1, k2, k3, k4, k5⟩ := k_addM (σ := σ2) (r := r') (d := d + 1) hN (by omega) (by omega) h11
    refine ⟨σ3, σ4, by rw [e1]; rfl, ?_, ⟨f1, f2, f3, f4⟩, ⟨k1, k2, k3, k4, k5⟩⟩
    rw [e2, bd1_s]
    unfold jX6_readStep_237
    rw [k1, h11, show nI (d + 1) - 1 = nI d from nI_pred d]
  rcases g3 with ⟨v, hv9, eK, eM⟩ | ⟨r, r', eK, eM⟩
  · rw [eK, eM, bd2_s, bd2_s, pi_pi, pi_pi]
    have hU2 := (kU.pl hU1 (p' := e) g2)
    rw [pi_pi, pi_pi] at hU2
    obtain ⟨σ3, σ4, q1, q2, ⟨x1, x2, x3, x4⟩, ⟨y1, y2, y3, y4, y5⟩⟩ := beh (p_i σK 1 (nI e)) (p_i σM 3 (nI e)) (nI v) (lI v) b1 b2
    have fK : fpK σK σ3 := ((fpK.i σK 1 (nI e) (by decide) (by decide) (by decide)).tr (fpK.i _ 8 (nI d) (by decide) (by decide) (by decide))).tr (fpK.of x1 x2)
    have fM : fpM w σM (p_i σ4 11 (nI d)) := ((fpM.i w σM 3 (nI e) (by decide) (by decide) (by decide)).tr (fpM.of y1 y2 y3)).tr (fpM.i w _ 11 _ (by decide) (by decide) (by decide))
    refine ⟨σ3, _, q1, q2, fK, fM, Or.inl ⟨e, el, fun i t => if i = d then s d t + v * s (d + 1) t else s i t, by omega, ⟨hT.fp fK fM, hU2.2.1.fr ?_ ?_ ?_ ?_ ?_ ?_ ?_ ?_ ?_ ?_ ?_, hU2.2.2.fr ?_ ?_ ?_ ?_ ?_⟩, ⟨by omega, ?_, pi_at _ _ _, fun i h1 h2 => ?_, fun i hi t ht => ?_⟩, fun t ht => ?_⟩⟩
    · rw [x1]; rfl
    · rw [x1]; rfl
    · rw [x1]; rfl
    · rw [x1]; rfl
    · rw [x1]; rfl
    · rw [x2]
    · rw [piI, if_neg (by decide), y1]
    · rw [piI, if_neg (by decide), y1]
    · rw [piI, if_neg (by decide), y1]
    · rw [piI, if_neg (by decide), y1]
    · show σ4.2.1 5 = _; rw [y2]
    · rw [x3 0 (by omega)]
    · rw [x1]; rfl
    · rw [piI, if_neg (by decide), y1]
    · show σ4.2.2.2 1 = _; rw [y3 1 (by decide)]
    · show σ4.2.2.2 0 = _; rw [y3 0 (by decide)]
    · rw [x1]; rfl
    · show σ3.2.1 5 i = σ4.2.1 6 i ∧ σ3.2.1 5 i ≠ 0
      rw [x2, y2]
      exact b3 i h1 (by omega)
    · show σ3.2.2.2 (1 + i) t = _ ∧ σ4.2.2.2 2 (5 * i + t) = _
      by_cases ei : i = d
      · subst ei
        simp only [if_true]
        have z1 := b4 i (by omega) t ht
        have z2 := b4 (i + 1) (by omega) t ht
        rw [x4 t ht, y5 t ht]
        show σK.2.2.2 (1 + i) t + (nI v).toInt64 * σK.2.2.2 (1 + (i + 1)) t = _ ∧ σM.2.2.2 2 (5 * i + t) + lI v * σM.2.2.2 2 (5 * (i + 1) + t) = _
        rw [z1.1, z1.2, z2.1, z2.2, nI_L (by omega), lI_mul, lI_add]
        constructor <;> rfl
      · simp only [if_neg ei]
        rw [x3 (1 + i) (by omega), y4 (5 * i + t) (by omega)]
        exact b4 i (by omega) t ht
    · have z1 := hb t ht
      have z2 : kPh (fun i t => if i = d then s d t + v * s (d + 1) t else s i t) t d ≤ kPh s t (d + 1) := by
        show _ ≤ kPh s t d + 99 ^ (d + 1) * s (d + 1) t
        cases d with
        | zero =>
          show (if 0 = 0 then s 0 t + v * s (0 + 1) t else s 0 t) ≤ s 0 t + 99 ^ (0 + 1) * s (0 + 1) t
          rw [if_pos rfl]
          have := Nat.mul_le_mul_right (s (0 + 1) t) (show v ≤ 99 ^ (0 + 1) by omega)
          omega
        | succ d =>
          show kPh _ t d + 99 ^ (d + 1) * (if d + 1 = d + 1 then s (d + 1) t + v * s (d + 1 + 1) t else s (d + 1) t) ≤ kPh s t d + 99 ^ (d + 1) * s (d + 1) t + 99 ^ (d + 1 + 1) * s (d + 1 + 1) t
          rw [if_pos rfl, kPh_eq d (fun i hi => by rw [if_neg (by omega)]), Nat.mul_add]
          have : 99 ^ (d + 1) * (v * s (d + 1 + 1) t) ≤ 99 ^ (d + 1 + 1) * s (d + 1 + 1) t := by
            rw [← Nat.mul_assoc, Nat.pow_succ 99 (d + 1)]
            exact Nat.mul_le_mul_right _ (Nat.mul_le_mul_left _ hv9)
          omega
      have z3 := Nat.mul_le_mul_left (99 ^ 4) (show p ≤ e by omega)
      omega
  · rw [eK, eM, bd2_s, bd2_s, pi_pi, pi_pi]
    obtain ⟨σ3, σ4, q1, q2, ⟨x1, x2, x3, x4⟩, ⟨y1, y2, y3, y4, y5⟩⟩ := beh (p_i (p_i (p_i σK 1 (nI e)) 6 (-3)) 7 (nI (p + 1))) (p_i (p_i (p_i σM 3 (nI e)) 4 (-3)) 5 (nI (p + 1))) r r' b1 b2
    refine ⟨σ3, _, q1, q2, ?_, ?_, Or.inr ⟨-3, nI (p + 1), e, by decide, by rw [x1]; rfl, by rw [x1]; rfl, ?_, ?_, ?_, by omega⟩⟩
    · exact ((((fpK.i σK 1 (nI e) (by decide) (by decide) (by decide)).tr (fpK.i _ 6 (-3) (by decide) (by decide) (by decide))).tr (fpK.i _ 7 (nI (p + 1)) (by decide) (by decide) (by decide))).tr (fpK.i _ 8 (nI d) (by decide) (by decide) (by decide))).tr (fpK.of x1 x2)
    · exact ((((fpM.i w σM 3 (nI e) (by decide) (by decide) (by decide)).tr (fpM.i w _ 4 (-3) (by decide) (by decide) (by decide))).tr (fpM.i w _ 5 (nI (p + 1)) (by decide) (by decide) (by decide))).tr (fpM.of y1 y2 y3)).tr (fpM.i w _ 11 _ (by decide) (by decide) (by decide))
    · rw [piI, if_neg (by decide), y1]; rfl
    · rw [piI, if_neg (by decide), y1]; rfl
    · rw [piI, if_neg (by decide), y1]; rfl
