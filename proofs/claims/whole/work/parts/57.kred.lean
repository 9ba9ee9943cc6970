/-! The reduction of the program. -/
def klN (a : Nat → Nat → Int) : Nat → Nat → Prop
  | 0 => fun _ => False
  | n + 1 => fun j => if j = n then ¬ kx_dep a (klN a n) n else klN a n j
/-- the leading columns, by what they are -/
def kl (a : Nat → Nat → Int) (f : Nat) : Prop := klN a (f + 1) f
theorem klN_eq (a : Nat → Nat → Int) : ∀ n j, j < n → (klN a n j ↔ kl a j) := by
  intro n
  induction n with
  | zero => intro j h; omega
  | succ n ih =>
    intro j h
    by_cases e : j = n
    · subst e; exact Iff.rfl
    · show (if j = n then _ else klN a n j) ↔ _
      rw [if_neg e]
      exact ih j (by omega)
theorem kl_iff (a : Nat → Nat → Int) (f : Nat) : kl a f ↔ ¬ kx_dep a (kl a) f := by
  show (if f = f then ¬ kx_dep a (klN a f) f else _) ↔ _
  rw [if_pos rfl]
  constructor
  · intro h h2
    exact h (kx_dep_iff (fun j hj => (klN_eq a f j hj).symm) h2)
  · intro h h2
    exact h (kx_dep_iff (fun j hj => klN_eq a f j hj) h2)
theorem nI_g {n N : Nat} (h : n < N) (hn : n < 2 ^ 31) : ¬ (nI n < 0 ∨ N ≤ n) := fun h2 => by
  rcases h2 with h2 | h2
  · exact nI_pos hn h2
  · omega
def kT (h w : Nat) (σ : vS) (k : Nat) (p : Int) (R : Nat → Nat → Int) : Prop := σ.1 12 = nI k ∧ σ.1 13 = nI h ∧ σ.1 14 = nI w ∧ σ.2.2.1 0 = lI p ∧ ∀ i, i < h → ∀ j, j < w → σ.2.2.2 (11 + i) j = lI (R i j)
/-- what reduction and bases leave alone -/
def kfrS (σ σ' : vS) : Prop := (∀ i, i < 10 ∨ i = 15 → σ'.1 i = σ.1 i) ∧ ∀ a, a ≠ 6 → a ≠ 7 → σ'.2.1 a = σ.2.1 a
theorem kfrS.rf (σ : vS) : kfrS σ σ := ⟨fun _ _ => rfl, fun _ _ _ => rfl⟩
theorem kfrS.tr {σ σ' σ2 : vS} (h1 : kfrS σ σ') (h2 : kfrS σ' σ2) : kfrS σ σ2 := ⟨fun i hi => (h2.1 i hi).trans (h1.1 i hi), fun a h6 h7 => (h2.2 a h6 h7).trans (h1.2 a h6 h7)⟩
theorem k_pivotRow {N h w k c : Nat} {σ : vS} {p : Int} {R : Nat → Nat → Int} (hN : 10 < N) (hh : h ≤ 5) (hw : w ≤ 6) (hk : k ≤ h) (hc : c < w) (hT : kT h w σ k p R) (hb : ∀ i, i < h → (R i c).natAbs < 2 ^ 63) :
    kok (fX0_pivotRow N σ (nI c)) (fun r => (r = -1 ∧ ∀ i, k ≤ i → i < h → R i c = 0) ∨ ∃ i, r = nI i ∧ k ≤ i ∧ i < h ∧ R i c ≠ 0) := by
  obtain ⟨h12, h13, h14, hJ, hR⟩ := hT
  unfold fX0_pivotRow
  refine kok_lt (kok_bds ?_)
  rw [h12]
  refine kok_for0 (body := fun zz => bX0_pivotRow_5 N σ (nI c) zz) h (fun i => k ≤ i ∧ ∀ j, k ≤ j → j < i → R j c = 0) (fun i hi hI => ?_) (fun hI => ?_) N k (by omega) hk ⟨Nat.le_refl _, fun j h1 h2 => by omega⟩
  · show kok (bX0_pivotRow_5 N σ (nI c) (nI i)) _
    unfold bX0_pivotRow_5
    rw [h13]
    refine kok_f (nI_ge hi (by omega)) (kok_g (nI_in (by omega) (by omega)) (kok_g (nI_in (by omega) (by omega)) ?_))
    rw [nI_clamp (by omega), nI_clamp (by omega), hR i hi c hc]
    refine kok_i (fun h9 => kok_lt (kok_some ⟨nI_1 i, by omega, fun j h1 h2 => ?_⟩)) (fun h9 => kok_some (Or.inr ⟨i, rfl, hI.1, hi, fun e => h9 ((lg_cmp_eq _ _).mpr ((lI_eq0 (hb i hi)).mpr e))⟩))
    have h0 := (lI_eq0 (hb i hi)).mp ((lg_cmp_eq _ _).mp h9)
    by_cases e : j = i
    · rw [e]; exact h0
    · exact hI.2 j h1 (by omega)
  · show kok (bX0_pivotRow_5 N σ (nI c) (nI h)) _
    unfold bX0_pivotRow_5
    rw [h13]
    exact kok_t (nI_le (Nat.le_refl _) (by omega)) (kok_some (kok_some (Or.inl ⟨rfl, hI.2⟩)))
theorem k_swapRows {N h w k r : Nat} {σ : vS} {p : Int} {R : Nat → Nat → Int} (hN : 10 < N) (hh : h ≤ 5) (hw : w ≤ 6) (hk : k < h) (hr : r < h) (hT : kT h w σ k p R) :
    kok (fX0_swapRows N σ (nI k) (nI r)) (fun σ' => kT h w σ' k p (ksw R k r) ∧ σ'.1 = σ.1 ∧ σ'.2.1 = σ.2.1) := by
  obtain ⟨h12, h13, h14, hJ, hR⟩ := hT
  unfold fX0_swapRows
  refine kok_bd1 (P := fun σ' => kT h w σ' k p (ksw R k r) ∧ σ'.1 = σ.1 ∧ σ'.2.1 = σ.2.1) ?_ (fun σ' h => kok_some h)
  refine kok_for (body := fun zz => bX0_swapRows_2 N (nI k) (nI r) zz.1 zz.2) w (fun i σ' => σ'.1 = σ.1 ∧ σ'.2.1 = σ.2.1 ∧ σ'.2.2.1 = σ.2.2.1 ∧ ∀ i', i' < h → ∀ j, j < w → σ'.2.2.2 (11 + i') j = lI (if j < i then ksw R k r i' j else R i' j)) (fun i σ' hi hI => ?_) (fun σ' hI => ?_) N 0 σ (by omega) (Nat.zero_le _) ⟨rfl, rfl, rfl, fun i' hi' j hj => by rw [if_neg (Nat.not_lt_zero _)]; exact hR i' hi' j hj⟩
  · obtain ⟨e1, e2, e3, e4⟩ := hI
    show kok (bX0_swapRows_2 N (nI k) (nI r) (nI i) σ') _
    unfold bX0_swapRows_2
    rw [e1, h14]
    refine kok_f (nI_ge hi (by omega)) (kok_g (nI_in (by omega) (by omega)) (kok_g (nI_in (by omega) (by omega)) (kok_lt (kok_g (nI_in (by omega) (by omega)) (kok_g (nI_in (by omega) (by omega)) (kok_g (nI_in (by omega) (by omega)) (kok_g (nI_in (by omega) (by omega)) (kok_g (nI_in (by omega) (by omega)) (kok_g (nI_in (by omega) (by omega)) (kok_lt (kok_some ⟨_, Prod.ext (nI_1 _) rfl, e1, e2, e3, fun i' hi' j hj => ?_⟩)))))))))))
    rw [nI_clamp (by omega), nI_clamp (by omega), nI_clamp (by omega), pbB, pbB, pbB, e4 k (by omega) i (by omega), e4 r (by omega) i (by omega), if_neg (Nat.lt_irrefl i), if_neg (Nat.lt_irrefl i), e4 i' hi' j hj]
    rw [e4 r hr j hj, e4 k hk j hj]
    unfold ksw
    by_cases g1 : i' = r
    · subst g1
      by_cases g2 : i' = k
      · subst g2
        by_cases g3 : j = i
        · subst g3; simp
        · have g4 : (j < i + 1) = (j < i) := by apply propext; omega
          simp [g3, g4]
      · by_cases g3 : j = i
        · subst g3; simp [g2]
        · have g4 : (j < i + 1) = (j < i) := by apply propext; omega
          simp [g2, g3, g4]
    · by_cases g2 : i' = k
      · subst g2
        by_cases g3 : j = i
        · subst g3; simp [g1]
        · have g4 : (j < i + 1) = (j < i) := by apply propext; omega
          simp [g1, g3, g4]
      · have g5 : 11 + i' ≠ 11 + r := by omega
        have g6 : 11 + i' ≠ 11 + k := by omega
        simp [g1, g2]
  · obtain ⟨e1, e2, e3, e4⟩ := hI
    show kok (bX0_swapRows_2 N (nI k) (nI r) (nI w) σ') _
    unfold bX0_swapRows_2
    rw [e1, h14]
    refine kok_t (nI_le (Nat.le_refl _) (by omega)) (kok_some ⟨⟨by rw [e1]; exact h12, by rw [e1]; exact h13, by rw [e1]; exact h14, by rw [e3]; exact hJ, fun i' hi' j hj => ?_⟩, e1, e2⟩)
    rw [e4 i' hi' j hj, if_pos hj]
theorem k_quot {N : Nat} {σ : vS} {p z : Int} (hp : p ≠ 0) (hb : p.natAbs < 2 ^ 63) (hz : (p * z).natAbs < 2 ^ 63) : fX0_quotient N σ (lI (p * z)) (lI p) = some (lI z) := by
  have h0 : ¬ lI p = 0 := fun e => hp ((lI_eq0 hb).mp e)
  unfold fX0_quotient
  rw [if_neg (fun e => h0 ((lg_cmp_eq _ _).mp e)), if_neg h0, lI_div hz hb, Int.mul_tdiv_cancel_left _ hp]
theorem k_clear {N h w k c : Nat} {σ : vS} {p : Int} {R R' : Nat → Nat → Int} (hN : 10 < N) (hh : h ≤ 5) (hw : w ≤ 6) (hk : k < h) (hc : c < w) (hT : kT h w σ k p R) (hp : p ≠ 0) (hpb : p.natAbs < 2 ^ 63) (hRk : ∀ j, j < w → R' k j = R k j) (hRi : ∀ i, i < h → i ≠ k → ∀ j, j < w → R k c * R i j - R i c * R k j = p * R' i j) (hbd : ∀ i, i < h → i ≠ k → ∀ j, j < w → (p * R' i j).natAbs < 2 ^ 63) :
    kok (fX0_clearColumn N σ (nI c)) (fun σ' => kT h w σ' k (R k c) R' ∧ σ'.1 = σ.1 ∧ σ'.2.1 = σ.2.1) := by
  obtain ⟨h12, h13, h14, hJ, hR⟩ := hT
  unfold fX0_clearColumn
  refine kok_lt ?_
  rw [h12, hJ]
  refine kok_g (nI_in (by omega) (by omega)) (kok_g (nI_in (by omega) (by omega)) ?_)
  rw [nI_clamp (by omega), nI_clamp (by omega), hR k hk c hc]
  refine kok_bd1 (P := fun σ' => kT h w σ' k (R k c) R' ∧ σ'.1 = σ.1 ∧ σ'.2.1 = σ.2.1) ?_ (fun σ' h => kok_some h)
  refine kok_for (body := fun zz => bX0_clearColumn_23 N (nI c) (lI p) zz.1 zz.2) h (fun i σ' => σ'.1 = σ.1 ∧ σ'.2.1 = σ.2.1 ∧ σ'.2.2.1 0 = lI (R k c) ∧ ∀ i', i' < h → ∀ j, j < w → σ'.2.2.2 (11 + i') j = lI (if i' < i then R' i' j else R i' j)) (fun i σ' hi hI => ?_) (fun σ' hI => ?_) N 0 _ (by omega) (Nat.zero_le _) ⟨rfl, rfl, rfl, fun i' hi' j hj => by rw [if_neg (Nat.not_lt_zero _)]; exact hR i' hi' j hj⟩
  · obtain ⟨e1, e2, e3, e4⟩ := hI
    show kok (bX0_clearColumn_23 N (nI c) (lI p) (nI i) σ') _
    unfold bX0_clearColumn_23
    rw [e1, h13]
    refine kok_f (nI_ge hi (by omega)) (kok_g (nI_in (by omega) (by omega)) (kok_g (nI_in (by omega) (by omega)) (kok_lt ?_)))
    rw [nI_clamp (by omega), nI_clamp (by omega), e4 i hi c hc, if_neg (Nat.lt_irrefl i)]
    refine kok_bd1 (P := fun σ2 => σ2.1 = σ.1 ∧ σ2.2.1 = σ.2.1 ∧ σ2.2.2.1 0 = lI (R k c) ∧ ∀ i', i' < h → ∀ j, j < w → σ2.2.2.2 (11 + i') j = lI (if i' < i + 1 then R' i' j else R i' j)) ?_ (fun σ2 h2 => kok_lt (kok_some ⟨σ2, Prod.ext (nI_1 _) rfl, h2⟩))
    by_cases hik : i = k
    · subst hik
      refine kok_itr (fun v q => v = 0 ∧ q = (nI 0, σ')) (fun v q hq => ?_) N 0 _ (by omega) ⟨rfl, rfl⟩
      obtain ⟨-, rfl⟩ := hq
      show kok (bX0_clearColumn_46 N (nI c) (lI p) (nI i) (lI (R i c)) (nI 0) σ') _
      unfold bX0_clearColumn_46
      have hfin : ∀ i', i' < h → ∀ j, j < w → σ'.2.2.2 (11 + i') j = lI (if i' < i + 1 then R' i' j else R i' j) := fun i' hi' j hj => by
        rw [e4 i' hi' j hj]
        by_cases g : i' = i
        · subst g
          rw [if_neg (Nat.lt_irrefl _), if_pos (Nat.lt_succ_self _), hRk j hj]
        · have g4 : (i' < i + 1) = (i' < i) := by apply propext; omega
          simp only [g4]
      rw [e1, h14, h12]
      refine kok_i (fun _ => kok_some ⟨e1, e2, e3, hfin⟩) (fun _ => kok_t rfl (kok_some ⟨e1, e2, e3, hfin⟩))
    · refine kok_for (body := fun zz => bX0_clearColumn_46 N (nI c) (lI p) (nI i) (lI (R i c)) zz.1 zz.2) w (fun n σ2 => σ2.1 = σ.1 ∧ σ2.2.1 = σ.2.1 ∧ σ2.2.2.1 0 = lI (R k c) ∧ ∀ i', i' < h → ∀ j, j < w → σ2.2.2.2 (11 + i') j = lI (if i' < i ∨ (i' = i ∧ j < n) then R' i' j else R i' j)) (fun n σ2 hn hI2 => ?_) (fun σ2 hI2 => ?_) N 0 _ (by omega) (Nat.zero_le _) ⟨e1, e2, e3, fun i' hi' j hj => by
          rw [e4 i' hi' j hj]
          have g4 : (i' < i ∨ i' = i ∧ j < 0) = (i' < i) := by apply propext; omega
          simp only [g4]⟩
      · obtain ⟨f1, f2, f3, f4⟩ := hI2
        show kok (bX0_clearColumn_46 N (nI c) (lI p) (nI i) (lI (R i c)) (nI n) σ2) _
        unfold bX0_clearColumn_46
        rw [f1, h14, h12]
        refine kok_f (nI_ge hn (by omega)) (kok_f (fun e => hik ((nI_eq (by omega) (by omega)).mp e)) (kok_g (nI_in (by omega) (by omega)) (kok_g (nI_in (by omega) (by omega)) (kok_g (nI_in (by omega) (by omega)) (kok_g (nI_in (by omega) (by omega)) (kok_g (nI_in (by omega) (by omega)) ?_))))))
        have q1 : σ2.2.2.2 (11 + i) n = lI (R i n) := by
          rw [f4 i hi n hn, if_neg (by omega)]
        have q2 : σ2.2.2.2 (11 + k) n = lI (R k n) := by
          rw [f4 k hk n hn]
          by_cases g : k < i ∨ k = i ∧ n < n
          · rw [if_pos g, hRk n hn]
          · rw [if_neg g]
        rw [nI_clamp (by omega), nI_clamp (by omega), nI_clamp (by omega), f3, q1, q2, lI_mul, lI_mul, lI_sub, hRi i hi hik n hn, k_quot hp hpb (hbd i hi hik n hn)]
        refine kok_g (nI_g (by omega) (by omega)) (kok_lt (kok_some ⟨_, Prod.ext (nI_1 _) rfl, f1, f2, f3, fun i' hi' j hj => ?_⟩))
        rw [pbB]
        by_cases g1 : i' = i
        · subst g1
          rw [if_pos rfl]
          by_cases g2 : j = n
          · subst g2
            rw [if_pos rfl, if_pos (by omega)]
          · rw [if_neg g2, f4 i' hi' j hj]
            by_cases g3 : j < n
            · rw [if_pos (Or.inr ⟨rfl, g3⟩), if_pos (Or.inr ⟨rfl, by omega⟩)]
            · rw [if_neg (by omega), if_neg (by omega)]
        · rw [if_neg (by omega), f4 i' hi' j hj]
          have g4 : (i' < i ∨ i' = i ∧ j < n) = (i' < i ∨ i' = i ∧ j < n + 1) := by apply propext; omega
          simp only [g4]
      · obtain ⟨f1, f2, f3, f4⟩ := hI2
        show kok (bX0_clearColumn_46 N (nI c) (lI p) (nI i) (lI (R i c)) (nI w) σ2) _
        unfold bX0_clearColumn_46
        rw [f1, h14]
        refine kok_t (nI_le (Nat.le_refl _) (by omega)) (kok_some ⟨f1, f2, f3, fun i' hi' j hj => ?_⟩)
        rw [f4 i' hi' j hj]
        have g4 : (i' < i ∨ i' = i ∧ j < w) = (i' < i + 1) := by apply propext; omega
        simp only [g4]
  · obtain ⟨e1, e2, e3, e4⟩ := hI
    show kok (bX0_clearColumn_23 N (nI c) (lI p) (nI h) σ') _
    unfold bX0_clearColumn_23
    rw [e1, h13]
    refine kok_t (nI_le (Nat.le_refl _) (by omega)) (kok_some ⟨⟨by rw [e1]; exact h12, by rw [e1]; exact h13, by rw [e1]; exact h14, e3, fun i' hi' j hj => ?_⟩, e1, e2⟩)
    rw [e4 i' hi' j hj, if_pos hi']
theorem k_reduce_c {N h w : Nat} {σ : vS} {a : Nat → Nat → Int} (hN : 10 < N) (hh : h ≤ 5) (hw : w ≤ 6) (ha : kx_in h a) (h13 : σ.1 13 = nI h) (h14 : σ.1 14 = nI w) (hR : ∀ i, i < h → ∀ j, j < w → σ.2.2.2 (11 + i) j = lI (a j i)) :
    kok (fX0_reduce N σ) (fun σ' => ∃ k le B s p R, kx_st h k a le B s p R ∧ kx_ll w k le (kl a) ∧ kT h w σ' k p R ∧ (∀ m, m < k → σ'.2.1 7 m = nI (le m)) ∧ (∀ j, j < w → (σ'.2.1 6 j = 0 ∨ σ'.2.1 6 j = 1) ∧ (σ'.2.1 6 j = 0 ↔ kl a j)) ∧ kfrS σ σ') := by
  unfold fX0_reduce
  refine kok_bd1 (P := fun σ' => ∃ k le B s p R, kx_st h k a le B s p R ∧ kx_ll w k le (kl a) ∧ kT h w σ' k p R ∧ (∀ m, m < k → σ'.2.1 7 m = nI (le m)) ∧ (∀ j, j < w → (σ'.2.1 6 j = 0 ∨ σ'.2.1 6 j = 1) ∧ (σ'.2.1 6 j = 0 ↔ kl a j)) ∧ kfrS σ σ') ?_ (fun σ' h => kok_some h)
  refine kok_for (body := fun zz => bX0_reduce_12 N zz.1 zz.2) w (fun c σ' => ∃ k le B s p R, kx_st h k a le B s p R ∧ kx_ll c k le (kl a) ∧ kT h w σ' k p R ∧ (∀ m, m < k → σ'.2.1 7 m = nI (le m)) ∧ (∀ j, j < c → (σ'.2.1 6 j = 0 ∨ σ'.2.1 6 j = 1) ∧ (σ'.2.1 6 j = 0 ↔ kl a j)) ∧ kfrS σ σ') (fun c σ' hc hI => ?_) (fun σ' hI => ?_) N 0 _ (by omega) (Nat.zero_le _) ?_
  · obtain ⟨k, le, B, s, p, R, hS, hl, hT, h7, h6, hF⟩ := hI
    show kok (bX0_reduce_12 N (nI c) σ') _
    unfold bX0_reduce_12
    rw [hT.2.2.1]
    have hc6 : c < 6 := by omega
    have hk5 : k ≤ 5 := Nat.le_trans hS.1 hS.2.1
    have pw : ∀ e, e ≤ 5 → 120 * 40 ^ e ≤ 12288000000 := fun e he => by
      rcases (show e = 0 ∨ e = 1 ∨ e = 2 ∨ e = 3 ∨ e = 4 ∨ e = 5 by omega) with rfl | rfl | rfl | rfl | rfl | rfl <;> decide
    have hbR : ∀ i, i < h → ∀ j, j < 6 → (R i j).natAbs ≤ 12288000000 := fun i hi j hj => by
      refine Nat.le_trans (kx_bdR ha hS (by omega) hj) (pw _ ?_)
      have := hS.1
      split <;> omega
    refine kok_f (nI_ge hc (by omega)) (kok_bd1 (k_pivotRow hN hh hw hS.1 hc hT (fun i hi => Nat.lt_of_le_of_lt (hbR i hi c hc6) (by decide))) (fun r hr => ?_))
    rcases hr with ⟨rfl, h0⟩ | ⟨r, rfl, hkr, hrh, h0⟩
    · refine kok_t rfl (kok_g (nI_in (by omega) (by omega)) ?_)
      rw [nI_clamp (by omega)]
      unfold jX0_reduce_42_12
      have hdep : ¬ kl a c := fun hk => ((kl_iff a c).mp hk) (kx_isdep ha hS hl hc6 h0)
      refine kok_t rfl (kok_lt (kok_some ⟨_, Prod.ext (nI_1 _) rfl, k, le, B, s, p, R, hS, ⟨fun m hm => ⟨by have := (hl.1 m hm).1; omega, (hl.1 m hm).2⟩, fun l hlc hll => ?_, hl.2.2⟩, hT, fun m hm => ?_, fun j hj => ?_, hF.tr ⟨fun _ _ => rfl, fun b hb6 hb7 => ?_⟩⟩))
      · by_cases e : l = c
        · subst e; exact absurd hll hdep
        · exact hl.2.1 l (by omega) hll
      · rw [paA, if_neg (by decide)]; exact h7 m hm
      · rw [paA, if_pos rfl]
        by_cases e : j = c
        · subst e
          rw [if_pos rfl]
          exact ⟨Or.inr rfl, ⟨(fun e9 => absurd e9 (by decide)), (fun e9 => absurd e9 hdep)⟩⟩
        · rw [if_neg e]; exact h6 j (by omega)
      · funext i; rw [paA, if_neg hb6]
    · have hr5 : r < 5 := by omega
      have hkh : k < h := by omega
      refine kok_f (fun e => ?_) (kok_g (nI_in (by omega) (by omega)) ?_)
      · have e2 : (nI r).toInt = (-1 : Int32).toInt := by rw [e]
        rw [nI_toInt (by omega)] at e2
        have e3 : (-1 : Int32).toInt = -1 := by decide
        omega
      rw [nI_clamp (by omega)]
      unfold jX0_reduce_42_12
      refine kok_f (fun e => ?_) ?_
      · have e2 : (nI r).toInt = (-1 : Int32).toInt := by rw [e]
        rw [nI_toInt (by omega)] at e2
        have e3 : (-1 : Int32).toInt = -1 := by decide
        omega
      have hlead : kl a c := (kl_iff a c).mpr (kx_islead hS hl hc6 hkr hrh h0)
      obtain ⟨B1, s1, hS1⟩ := kx_swap hS hkr hrh
      have hk0 : ksw R k r k c ≠ 0 := by
        unfold ksw; rw [if_pos rfl]; exact h0
      obtain ⟨R2, hS2, hRk, hRi⟩ := kx_clear hS1 hkh hc6 hk0
      have hT1 : kT h w (p_a σ' 6 c (vp_nar .boolean 0)) k p R := hT
      have e12 : (p_a σ' 6 c (vp_nar .boolean 0)).1 12 = nI k := hT.1
      rw [e12]
      refine kok_bd1 (k_swapRows hN hh hw hkh hrh hT1) (fun σ4 h4 => ?_)
      obtain ⟨hT4, e41, e42⟩ := h4
      have hp0 : p ≠ 0 := hS.2.2.2.2.1
      have hpb : p.natAbs ≤ 120 * 40 ^ k := kx_bdp ha hS
      have hpR : ∀ i, i < h → i ≠ k → ∀ j, j < w → (p * R2 i j).natAbs < 2 ^ 63 := fun i hi hik j hj => by
        have g1 := kx_bdR ha hS2 (i := i) (j := j) (by omega) (by omega)
        have g2 : (p * R2 i j).natAbs ≤ (120 * 40 ^ k) * (120 * 40 ^ (if i < k + 1 then k + 1 else k + 1 + 1)) := by
          rw [Int.natAbs_mul]; exact Nat.mul_le_mul hpb g1
        refine Nat.lt_of_le_of_lt g2 ?_
        by_cases hik2 : i < k + 1
        · rw [if_pos hik2]
          rcases (show k = 0 ∨ k = 1 ∨ k = 2 ∨ k = 3 ∨ k = 4 by omega) with rfl | rfl | rfl | rfl | rfl <;> decide
        · rw [if_neg hik2]
          rcases (show k = 0 ∨ k = 1 ∨ k = 2 ∨ k = 3 by omega) with rfl | rfl | rfl | rfl <;> decide
      refine kok_bd1 (k_clear hN hh hw hkh hc hT4 hp0 (Nat.lt_of_le_of_lt (Nat.le_trans hpb (pw k hk5)) (by decide)) (fun j hj => hRk j (by omega)) (fun i hi hik j hj => hRi i (by omega) hik j (by omega)) hpR) (fun σ5 h5 => ?_)
      obtain ⟨hT5, e51, e52⟩ := h5
      have e512 : σ5.1 12 = nI k := hT5.1
      rw [e512]
      refine kok_g (nI_in (by omega) (by omega)) (kok_lt (kok_some ⟨_, Prod.ext (nI_1 _) rfl, k + 1, _, _, _, _, R2, hS2, ⟨fun m hm => ?_, fun l hlc hll => ?_, fun m m' hm hm' e => ?_⟩, ⟨?_, hT5.2.1, hT5.2.2.1, hT5.2.2.2.1, hT5.2.2.2.2⟩, fun m hm => ?_, fun j hj => ?_, ?_⟩))
      · show (if m = k then c else le m) < c + 1 ∧ kl a (if m = k then c else le m)
        by_cases e : m = k
        · rw [if_pos e]; exact ⟨by omega, hlead⟩
        · rw [if_neg e]
          have := hl.1 m (by omega)
          exact ⟨by omega, this.2⟩
      · by_cases e : l = c
        · exact ⟨k, by omega, by show (if k = k then c else le k) = l; rw [if_pos rfl, e]⟩
        · obtain ⟨m, hm, em⟩ := hl.2.1 l (by omega) hll
          exact ⟨m, by omega, by show (if m = k then c else le m) = l; rw [if_neg (by omega), em]⟩
      · have e' : (if m = k then c else le m) = (if m' = k then c else le m') := e
        by_cases g1 : m = k
        · by_cases g2 : m' = k
          · omega
          · rw [if_pos g1, if_neg g2] at e'
            have := (hl.1 m' (by omega)).1
            omega
        · by_cases g2 : m' = k
          · rw [if_neg g1, if_pos g2] at e'
            have := (hl.1 m (by omega)).1
            omega
          · rw [if_neg g1, if_neg g2] at e'
            exact hl.2.2 m m' (by omega) (by omega) e'
      · rw [piI, if_pos rfl]; exact nI_1 k
      · show (p_a σ5 7 _ (nI c)).2.1 7 m = nI (if m = k then c else le m)
        rw [paA, if_pos rfl, nI_clamp (by omega)]
        by_cases e : m = k
        · rw [if_pos e, if_pos e]
        · rw [if_neg e, if_neg e, e52, e42, paA, if_neg (by decide)]
          exact h7 m (by omega)
      · show ((p_a σ5 7 _ (nI c)).2.1 6 j = 0 ∨ (p_a σ5 7 _ (nI c)).2.1 6 j = 1) ∧ ((p_a σ5 7 _ (nI c)).2.1 6 j = 0 ↔ kl a j)
        rw [paA, if_neg (by decide), e52, e42, paA, if_pos rfl]
        by_cases e : j = c
        · subst e
          rw [if_pos rfl]
          exact ⟨Or.inl rfl, ⟨fun _ => hlead, fun _ => rfl⟩⟩
        · rw [if_neg e]; exact h6 j (by omega)
      · refine hF.tr ⟨fun i hi => ?_, fun b hb6 hb7 => ?_⟩
        · rw [piI, if_neg (by omega)]
          show σ5.1 i = σ'.1 i
          rw [e51, e41]
          rfl
        · show (p_a σ5 7 _ (nI c)).2.1 b = σ'.2.1 b
          funext i
          rw [paA, if_neg hb7, e52, e42, paA, if_neg hb6]
  · obtain ⟨k, le, B, s, p, R, hS, hl, hT, h7, h6, hF⟩ := hI
    show kok (bX0_reduce_12 N (nI w) σ') _
    unfold bX0_reduce_12
    rw [hT.2.2.1]
    exact kok_t (nI_le (Nat.le_refl _) (by omega)) (kok_some ⟨k, le, B, s, p, R, hS, hl, hT, h7, h6, hF⟩)
  · refine ⟨0, fun _ => 0, ev, 1, 1, fun i j => a j i, ⟨Nat.zero_le _, hh, Or.inl rfl, by decide, by decide, fun i hi j hj => ?_, ⟨fun m hm => by omega, fun m _ _ => ⟨m, rfl, fun h => h, fun _ => rfl⟩⟩, fun m hm => by omega⟩, ⟨fun m hm => by omega, fun l hl => by omega, fun m m' hm => by omega⟩, ⟨?_, ?_, ?_, rfl, hR⟩, fun m hm => by omega, fun j hj => by omega, ⟨fun i hi => ?_, fun _ _ _ => rfl⟩⟩
    · have e1 : dt ev = 1 := by decide
      have h1 := dt_cr ev (a j) hi
      rw [e1, s5_one hi (fun m hm hmi => by
        have : ev m i = 0 := by unfold ev; rw [if_neg (Ne.symm hmi)]
        rw [this, Int.mul_zero])] at h1
      have e2 : ev i i = 1 := by unfold ev; rw [if_pos rfl]
      rw [e2] at h1
      show a j i = 1 * dt (bu ev i (a j))
      omega
    · show (p_i σ 12 0).1 12 = nI 0
      rw [piI, if_pos rfl]; rfl
    · show (p_i σ 12 0).1 13 = nI h
      rw [piI, if_neg (by decide)]; exact h13
    · show (p_i σ 12 0).1 14 = nI w
      rw [piI, if_neg (by decide)]; exact h14
    · show (p_i σ 12 0).1 i = σ.1 i
      rw [piI, if_neg (by omega)]
