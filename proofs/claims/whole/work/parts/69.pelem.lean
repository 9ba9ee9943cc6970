/-! What reading a formula changes; elements. -/
def fpK (σ σ' : vS) : Prop := (∀ i, i = 0 ∨ i = 2 ∨ i = 3 → σ'.1 i = σ.1 i) ∧ ∀ b, b ≠ 1 → b ≠ 5 → σ'.2.1 b = σ.2.1 b
def fpM (w : Nat) (σ σ' : vS) : Prop := (∀ i, i = 1 ∨ i = 2 ∨ i = 8 → σ'.1 i = σ.1 i) ∧ (∀ b, b ≠ 5 → b ≠ 6 → σ'.2.1 b = σ.2.1 b) ∧ (∀ j, j ≠ w → σ'.2.2.2 0 j = σ.2.2.2 0 j) ∧ ∀ i, i < 5 * w → σ'.2.2.2 1 i = σ.2.2.2 1 i
theorem fpK.rf (σ : vS) : fpK σ σ := ⟨fun _ _ => rfl, fun _ _ _ => rfl⟩
theorem fpM.rf (w : Nat) (σ : vS) : fpM w σ σ := ⟨fun _ _ => rfl, fun _ _ _ => rfl, fun _ _ => rfl, fun _ _ => rfl⟩
theorem fpK.tr {σ σ' σ2 : vS} (h1 : fpK σ σ') (h2 : fpK σ' σ2) : fpK σ σ2 := ⟨fun i hi => (h2.1 i hi).trans (h1.1 i hi), fun b x y => (h2.2 b x y).trans (h1.2 b x y)⟩
theorem fpM.tr {w : Nat} {σ σ' σ2 : vS} (h1 : fpM w σ σ') (h2 : fpM w σ' σ2) : fpM w σ σ2 := ⟨fun i hi => (h2.1 i hi).trans (h1.1 i hi), fun b x y => (h2.2.1 b x y).trans (h1.2.1 b x y), fun j hj => (h2.2.2.1 j hj).trans (h1.2.2.1 j hj), fun i hi => (h2.2.2.2 i hi).trans (h1.2.2.2 i hi)⟩
theorem fpK.i (σ : vS) (k : Nat) (v : Int32) (h0 : k ≠ 0) (h2 : k ≠ 2) (h3 : k ≠ 3) : fpK σ (p_i σ k v) := ⟨fun i hi => by rw [piI, if_neg (by omega)], fun _ _ _ => rfl⟩
theorem fpK.a (σ : vS) (b i : Nat) (v : Int32) (hb : b = 1 ∨ b = 5) : fpK σ (p_a σ b i v) := ⟨fun i hi => rfl, fun b' h1 h5 => by funext j; rw [paA, if_neg (by omega)]⟩
theorem fpK.b (σ : vS) (b i : Nat) (v : Int64) : fpK σ (p_b σ b i v) := ⟨fun _ _ => rfl, fun _ _ _ => rfl⟩
theorem fpM.i (w : Nat) (σ : vS) (k : Nat) (v : Int32) (h1 : k ≠ 1) (h2 : k ≠ 2) (h8 : k ≠ 8) : fpM w σ (p_i σ k v) := ⟨fun i hi => by rw [piI, if_neg (by omega)], fun _ _ _ => rfl, fun _ _ => rfl, fun _ _ => rfl⟩
theorem fpM.a (w : Nat) (σ : vS) (b i : Nat) (v : Int32) (hb : b = 5 ∨ b = 6) : fpM w σ (p_a σ b i v) := ⟨fun i hi => rfl, fun b' h1 h5 => by funext j; rw [paA, if_neg (by omega)], fun _ _ => rfl, fun _ _ => rfl⟩
theorem fpM.b2 (w : Nat) (σ : vS) (i : Nat) (v : Int64) : fpM w σ (p_b σ 2 i v) := ⟨fun _ _ => rfl, fun _ _ _ => rfl, fun j _ => by rw [pbB, if_neg (by decide)], fun j _ => by rw [pbB, if_neg (by decide)]⟩
theorem fpM.b1 (w : Nat) (σ : vS) (i : Nat) (v : Int64) (hi : 5 * w ≤ i) : fpM w σ (p_b σ 1 i v) := ⟨fun _ _ => rfl, fun _ _ _ => rfl, fun j _ => by rw [pbB, if_neg (by decide)], fun j hj => by rw [pbB, if_pos rfl, if_neg (by omega)]⟩
theorem fpM.b0 (w : Nat) (σ : vS) (v : Int64) : fpM w σ (p_b σ 0 w v) := ⟨fun _ _ => rfl, fun _ _ _ => rfl, fun j hj => by rw [pbB, if_pos rfl, if_neg hj], fun j hj => by rw [pbB, if_neg (by decide)]⟩
theorem kTx.fp {σK σM σK' σM' : vS} {L w : Nat} {c : Nat → Nat} (h : kTx σK σM L c) (h1 : fpK σK σK') (h2 : fpM w σM σM') : kTx σK' σM' L c := h.fr (h1.1 0 (by omega)) (h1.2 0 (by decide) (by decide)) (h2.1 2 (by omega)) (h2.2.1 1 (by decide) (by decide))
/-- both have met the same fault -/
def kB (σK σM : vS) : Prop := ∃ (f q : Int32) (p : Nat), f ≠ 0 ∧ σK.1 6 = f ∧ σK.1 7 = q ∧ σM.1 4 = f ∧ σM.1 5 = q ∧ σM.1 3 = nI p ∧ p ≤ 120
/-- the places, kinds and names -/
def kSc (σK σM : vS) (L p el ch : Nat) : Prop := p ≤ L ∧ σK.1 1 = nI p ∧ σM.1 3 = nI p ∧ σK.1 4 = nI el ∧ σM.1 9 = nI el ∧ σK.1 5 = nI ch ∧ σM.1 10 = nI ch ∧ ch ≤ 1 ∧ el + ch ≤ 5 ∧ σK.1 6 = 0 ∧ σM.1 4 = 0 ∧ σK.1 7 = -1 ∧ ∀ i, i < el → σK.2.1 1 i = σM.2.1 5 i
/-- what the formula has so far -/
def kTo (σK σM : vS) (w : Nat) (tot : Nat → Nat) (q : Int) : Prop := w < 6 ∧ σM.1 8 = nI w ∧ (∀ t, t < 5 → σK.2.2.2 0 t = lI (tot t) ∧ σM.2.2.2 1 (5 * w + t) = lI (tot t)) ∧ σK.1 9 = Int32.ofInt q ∧ σM.2.2.2 0 w = lI q
def kU (σK σM : vS) (L : Nat) (c : Nat → Nat) (p w el ch : Nat) (tot : Nat → Nat) (q : Int) : Prop := kTx σK σM L c ∧ kSc σK σM L p el ch ∧ kTo σK σM w tot q
/-- the brackets that stand and their sums -/
def kS (σK σM : vS) (d : Nat) (s : Nat → Nat → Nat) : Prop := d ≤ 3 ∧ σK.1 8 = nI d ∧ σM.1 11 = nI d ∧ (∀ i, 1 ≤ i → i ≤ d → σK.2.1 5 i = σM.2.1 6 i ∧ σK.2.1 5 i ≠ 0) ∧ ∀ i, i ≤ d → ∀ t, t < 5 → σK.2.2.2 (1 + i) t = lI (s i t) ∧ σM.2.2.2 2 (5 * i + t) = lI (s i t)
def kPh (s : Nat → Nat → Nat) (t : Nat) : Nat → Nat
  | 0 => s 0 t
  | d + 1 => kPh s t d + 99 ^ (d + 1) * s (d + 1) t
theorem kPh_up {s : Nat → Nat → Nat} {t d k v : Nat} (hv : v ≤ 99) : ∀ n, n ≤ d → kPh (fun i t => if i = d ∧ t = k then s i t + v else s i t) t n ≤ kPh s t n + (if n = d then 99 ^ d * 99 else 0) := by
  intro n
  induction n with
  | zero =>
    intro _
    show (if 0 = d ∧ t = k then s 0 t + v else s 0 t) ≤ s 0 t + _
    by_cases e : 0 = d
    · subst e
      simp only [if_true]
      split <;> omega
    · rw [if_neg (by omega)]; omega
  | succ n ih =>
    intro hn
    have h1 := ih (by omega)
    rw [if_neg (by omega)] at h1
    show kPh _ t n + 99 ^ (n + 1) * (if n + 1 = d ∧ t = k then s (n + 1) t + v else s (n + 1) t) ≤ kPh s t n + 99 ^ (n + 1) * s (n + 1) t + _
    by_cases e : n + 1 = d
    · subst e
      rw [if_pos rfl]
      have h2 : 99 ^ (n + 1) * (if n + 1 = n + 1 ∧ t = k then s (n + 1) t + v else s (n + 1) t) ≤ 99 ^ (n + 1) * s (n + 1) t + 99 ^ (n + 1) * 99 := by
        rw [← Nat.mul_add]
        refine Nat.mul_le_mul_left _ ?_
        split <;> omega
      omega
    · rw [if_neg (show ¬ (n + 1 = d ∧ t = k) by omega)]
      omega
theorem k_kind {N : Nat} {σK σM : vS} {el ch p0 : Nat} (hN : 300 < N) (x : Int32) (h4 : σK.1 4 = nI el) (h9 : σM.1 9 = nI el) (h5 : σK.1 5 = nI ch) (h10 : σM.1 10 = nI ch) (hch : ch ≤ 1) (hel : el + ch ≤ 5) (hf : σM.1 4 = 0) (hnm : ∀ i, i < el → σK.2.1 1 i = σM.2.1 5 i) :
    (∃ i, i < el ∧ fX1_elementKind N σK x = some (nI i, σK) ∧ jX6_element_64 N σM (nI p0) x = some (nI i, σM)) ∨ (el + ch < 5 ∧ fX1_elementKind N σK x = some (nI el, p_i (p_a σK 1 el x) 4 (nI (el + 1))) ∧ jX6_element_64 N σM (nI p0) x = some (nI el, p_i (p_a σM 5 el x) 9 (nI (el + 1)))) ∨ (fX1_elementKind N σK x = some (-1, σK) ∧ jX6_element_64 N σM (nI p0) x = some (0, p_i (p_i σM 4 (-5)) 5 (nI p0))) := by
  have main : ∃ r r', k_itr (fun zz => bX1_elementKind_2 N σK x zz) N (0 : Int32) = some r ∧ k_itr (fun zz => bX6_element_67 N σM (nI p0) x zz) N (0 : Int32) = some r' ∧ ((∃ i, i < el ∧ r = .inr (nI i, σK) ∧ r' = .inr (nI i, σM)) ∨ (r = .inl () ∧ r' = .inl ())) := by
    refine kk_itr (fun v s s' => ∃ i, i ≤ el ∧ v = el - i ∧ s = nI i ∧ s' = nI i) _ (fun v s s' hI => ?_) N N el _ _ (by omega) (by omega) ⟨0, Nat.zero_le _, rfl, rfl, rfl⟩
    obtain ⟨i, h1, rfl, rfl, rfl⟩ := hI
    by_cases hi : i < el
    · by_cases hx : σK.2.1 1 i = x
      · right
        refine ⟨.inr (nI i, σK), .inr (nI i, σM), ?_, fun n hn => k_itr_1 ?_ n (by omega), Or.inl ⟨i, hi, rfl, rfl⟩⟩
        · show bX1_elementKind_2 N σK x (nI i) = _
          unfold bX1_elementKind_2
          rw [h4, if_neg (nI_ge hi (by omega)), if_neg (nI_in (by omega) (by omega)), nI_clamp (by omega), if_pos hx]
        · show bX6_element_67 N σM (nI p0) x (nI i) = _
          unfold bX6_element_67
          rw [h9, if_neg (nI_ge hi (by omega)), if_neg (nI_in (by omega) (by omega)), nI_clamp (by omega), ← hnm i hi, if_pos hx]
      · left
        refine ⟨nI (i + 1), nI (i + 1), el - (i + 1), ?_, ?_, by omega, i + 1, by omega, rfl, rfl, rfl⟩
        · show bX1_elementKind_2 N σK x (nI i) = _
          unfold bX1_elementKind_2
          rw [h4, if_neg (nI_ge hi (by omega)), if_neg (nI_in (by omega) (by omega)), nI_clamp (by omega), if_neg hx, k_lt_e, nI_1]
        · show bX6_element_67 N σM (nI p0) x (nI i) = _
          unfold bX6_element_67
          rw [h9, if_neg (nI_ge hi (by omega)), if_neg (nI_in (by omega) (by omega)), nI_clamp (by omega), ← hnm i hi, if_neg hx, k_lt_e, nI_1]
    · right
      refine ⟨.inl (), .inl (), ?_, fun n hn => k_itr_1 ?_ n (by omega), Or.inr ⟨rfl, rfl⟩⟩
      · show bX1_elementKind_2 N σK x (nI i) = _
        unfold bX1_elementKind_2
        rw [h4, if_pos (nI_le (by omega) (by omega))]
      · show bX6_element_67 N σM (nI p0) x (nI i) = _
        unfold bX6_element_67
        rw [h9, if_pos (nI_le (by omega) (by omega))]
  obtain ⟨r, r', e1, e2, ⟨i, hi, rfl, rfl⟩ | ⟨rfl, rfl⟩⟩ := main
  · left
    refine ⟨i, hi, ?_, ?_⟩
    · unfold fX1_elementKind; rw [e1]; rfl
    · unfold jX6_element_64; rw [e2]; rfl
  · right
    have eK : fX1_elementKind N σK x = jX1_elementKind_28 N σK x := by unfold fX1_elementKind; rw [e1]; rfl
    have eM : jX6_element_64 N σM (nI p0) x = jX6_element_96 N σM (nI p0) x := by unfold jX6_element_64; rw [e2]; rfl
    rw [eK, eM]
    have hkc : fX1_kindCount N σK = some (nI (el + ch)) := by
      unfold fX1_kindCount
      rw [h5, h4]
      rcases (show ch = 0 ∨ ch = 1 by omega) with rfl | rfl
      · rw [if_pos (by decide)]; rfl
      · rw [if_neg (by decide), nI_1]
    have hM96 : jX6_element_96 N σM (nI p0) x = if nI (el + ch) = 5 then jX6_element_129 N (p_i (p_i σM 4 (-5)) 5 (nI p0)) x else jX6_element_129 N σM x := by
      unfold jX6_element_96
      rw [h10, h9, k_failY hf, k_failN, bd1_s, bd1_s]
      rcases (show ch = 0 ∨ ch = 1 by omega) with rfl | rfl
      · rw [if_pos (by decide), show nI el + 0 = nI (el + 0) from nI_add el 0]
      · rw [if_neg (by decide), nI_1]
    rw [hM96]
    unfold jX1_elementKind_28
    rw [hkc, bd1_s, h4]
    by_cases hlt : el + ch < 5
    · left
      rw [if_pos (nlLt 5 5 rfl (by omega) hlt), if_neg (nI_in (by omega) (by omega)), nI_clamp (by omega), nI_1, if_neg (nlN 5 5 rfl (by omega) (by omega) (show el + ch ≠ 5 by omega)), show nI (el + 1) - 1 = nI el from nI_pred el]
      refine ⟨hlt, rfl, ?_⟩
      unfold jX6_element_129
      rw [if_pos hf, h9, if_neg (nI_in (by omega) (by omega)), nI_clamp (by omega), nI_1, show nI (el + 1) - 1 = nI el from nI_pred el]
    · right
      rw [if_neg (nlNl 5 5 rfl (by omega) (show 5 ≤ el + ch by omega)), if_pos (nlE 5 5 rfl (show el + ch = 5 by omega))]
      refine ⟨rfl, ?_⟩
      unfold jX6_element_129
      rw [if_neg (by rw [piI, if_neg (by decide), piI, if_pos rfl]; decide)]
