/-! A whole formula. -/
def fqM (w : Nat) (σ σ' : vS) : Prop := (∀ i, i = 1 ∨ i = 2 → σ'.1 i = σ.1 i) ∧ σ'.2.1 1 = σ.2.1 1 ∧ (∀ j, j < w → σ'.2.1 2 j = σ.2.1 2 j ∧ σ'.2.1 3 j = σ.2.1 3 j ∧ σ'.2.1 4 j = σ.2.1 4 j) ∧ (∀ j, j < w → σ'.2.2.2 0 j = σ.2.2.2 0 j) ∧ ∀ i, i < 5 * w → σ'.2.2.2 1 i = σ.2.2.2 1 i
def fqK (w : Nat) (σ σ' : vS) : Prop := (∀ i, i = 0 ∨ i = 3 → σ'.1 i = σ.1 i) ∧ σ'.2.1 0 = σ.2.1 0 ∧ ∀ j, j < w → σ'.2.1 2 j = σ.2.1 2 j ∧ σ'.2.1 3 j = σ.2.1 3 j ∧ σ'.2.1 4 j = σ.2.1 4 j ∧ σ'.2.1 (9 + j) = σ.2.1 (9 + j)
theorem fpM.q {w : Nat} {σ σ' : vS} (h : fpM w σ σ') : fqM w σ σ' := ⟨fun i hi => h.1 i (by omega), h.2.1 1 (by decide) (by decide), fun j _ => ⟨by rw [h.2.1 2 (by decide) (by decide)], by rw [h.2.1 3 (by decide) (by decide)], by rw [h.2.1 4 (by decide) (by decide)]⟩, fun j hj => h.2.2.1 j (by omega), h.2.2.2⟩
theorem fpK.q {σ σ' : vS} (w : Nat) (h : fpK σ σ') : fqK w σ σ' := ⟨fun i hi => h.1 i (by omega), h.2 0 (by decide) (by decide), fun j _ => ⟨by rw [h.2 2 (by decide) (by decide)], by rw [h.2 3 (by decide) (by decide)], by rw [h.2 4 (by decide) (by decide)], h.2 (9 + j) (by omega) (by omega)⟩⟩
theorem fqM.tr {w : Nat} {σ σ' σ2 : vS} (h1 : fqM w σ σ') (h2 : fqM w σ' σ2) : fqM w σ σ2 := ⟨fun i hi => (h2.1 i hi).trans (h1.1 i hi), h2.2.1.trans h1.2.1, fun j hj => ⟨(h2.2.2.1 j hj).1.trans (h1.2.2.1 j hj).1, (h2.2.2.1 j hj).2.1.trans (h1.2.2.1 j hj).2.1, (h2.2.2.1 j hj).2.2.trans (h1.2.2.1 j hj).2.2⟩, fun j hj => (h2.2.2.2.1 j hj).trans (h1.2.2.2.1 j hj), fun i hi => (h2.2.2.2.2 i hi).trans (h1.2.2.2.2 i hi)⟩
theorem fqK.tr {w : Nat} {σ σ' σ2 : vS} (h1 : fqK w σ σ') (h2 : fqK w σ' σ2) : fqK w σ σ2 := ⟨fun i hi => (h2.1 i hi).trans (h1.1 i hi), h2.2.1.trans h1.2.1, fun j hj => ⟨(h2.2.2 j hj).1.trans (h1.2.2 j hj).1, (h2.2.2 j hj).2.1.trans (h1.2.2 j hj).2.1, (h2.2.2 j hj).2.2.1.trans (h1.2.2 j hj).2.2.1, (h2.2.2 j hj).2.2.2.trans (h1.2.2 j hj).2.2.2⟩⟩
theorem kTx.fq {σK σM σK' σM' : vS} {L w : Nat} {c : Nat → Nat} (h : kTx σK σM L c) (h1 : fqK w σK σK') (h2 : fqM w σM σM') : kTx σK' σM' L c := h.fr (h1.1 0 (by omega)) h1.2.1 (h2.1 2 (by omega)) h2.2.1
/-- one formula that has been read -/
def kF1 (σK σM : vS) (p rc j : Nat) (bg en : Nat → Nat) (Am : Nat → Nat → Int) (Ac : Nat → Int) : Prop :=
  (∀ t, t < 5 → (Am j t).natAbs ≤ 40 ∧ σK.2.1 (9 + j) t = Int32.ofInt (Am j t) ∧ σM.2.2.2 1 (5 * j + t) = lI (Am j t)) ∧ ((Ac j).natAbs ≤ 40 ∧ σK.2.1 2 j = Int32.ofInt (Ac j) ∧ σM.2.2.2 0 j = lI (Ac j)) ∧ (σK.2.1 3 j = nI (bg j) ∧ σM.2.1 2 j = nI (bg j) ∧ σK.2.1 4 j = nI (en j) ∧ σM.2.1 3 j = nI (en j) ∧ bg j ≤ en j ∧ en j ≤ p) ∧ σM.2.1 4 j = (if rc = 0 ∨ j < rc then 0 else 1)
def kF (σK σM : vS) (p w rc : Nat) (bg en : Nat → Nat) (Am : Nat → Nat → Int) (Ac : Nat → Int) : Prop := (∀ j, j < w → kF1 σK σM p rc j bg en Am Ac) ∧ ∀ j, j + 1 < w → en j ≤ bg (j + 1)
def kQ (σK σM : vS) (L : Nat) (c : Nat → Nat) (p w rc el ch : Nat) (bg en : Nat → Nat) (Am : Nat → Nat → Int) (Ac : Nat → Int) : Prop := kTx σK σM L c ∧ kSc σK σM L p el ch ∧ (σK.1 2 = nI w ∧ σM.1 8 = nI w ∧ w ≤ 6 ∧ σK.1 3 = nI rc ∧ rc ≤ w ∧ σM.1 1 = 0) ∧ kF σK σM p w rc bg en Am Ac
theorem kF.fr {σK σM σK' σM' : vS} {p p' w rc : Nat} {bg en : Nat → Nat} {Am : Nat → Nat → Int} {Ac : Nat → Int} (h : kF σK σM p w rc bg en Am Ac) (h1 : fqK w σK σK') (h2 : fqM w σM σM') (hp : p ≤ p') : kF σK' σM' p' w rc bg en Am Ac := by
  refine ⟨fun j hj => ?_, h.2⟩
  obtain ⟨a1, ⟨a2, a3, a4⟩, ⟨b1, b2, b3, b4, b5, b6⟩, a5⟩ := h.1 j hj
  obtain ⟨k1, k2, k3, k4⟩ := h1.2.2 j hj
  obtain ⟨m1, m2, m3⟩ := h2.2.2.1 j hj
  refine ⟨fun t ht => ?_, ⟨a2, k1.trans a3, (h2.2.2.2.1 j hj).trans a4⟩, ⟨k2.trans b1, m1.trans b2, k3.trans b3, m2.trans b4, b5, by omega⟩, m3.trans a5⟩
  obtain ⟨c1, c2, c3⟩ := a1 t ht
  exact ⟨c1, by rw [k4]; exact c2, (h2.2.2.2.2 _ (by omega)).trans c3⟩
theorem lI_32 (z : Int) : (lI z).toInt32 = Int32.ofInt z := by
  unfold lI
  first | exact Int64.toInt32_ofInt z | simp
theorem iI_lt {a b : Int} (ha : a.natAbs < 2 ^ 31) (hb : b.natAbs < 2 ^ 31) : Int32.ofInt a < Int32.ofInt b ↔ a < b := by
  rw [Int32.lt_iff_toInt_lt, iI_toInt ha, iI_toInt hb]
theorem iI_le {a b : Int} (ha : a.natAbs < 2 ^ 31) (hb : b.natAbs < 2 ^ 31) : Int32.ofInt a ≤ Int32.ofInt b ↔ a ≤ b := by
  rw [Int32.le_iff_toInt_le, iI_toInt ha, iI_toInt hb]
/-- beyond forty of a kind -/
def kTM (tot : Nat → Nat) (q : Int) : Prop := (∃ t, t < 5 ∧ 40 < tot t) ∨ 40 < q.natAbs
theorem k_tooK {N : Nat} {σ : vS} {tot : Nat → Nat} {q : Int} (hN : 300 < N) (h0 : ∀ t, t < 5 → σ.2.2.2 0 t = lI (tot t)) (hb : ∀ t, t < 5 → tot t < 2 ^ 62) (h9 : σ.1 9 = Int32.ofInt q) (hq : q.natAbs ≤ 99) : kok (fX3_isTooMuch N σ) (fun r => (r = 0 ∧ ¬ kTM tot q) ∨ (r = 1 ∧ kTM tot q)) := by
  unfold fX3_isTooMuch
  refine kok_bds ?_
  refine kok_for0 (body := fun zz => bX3_isTooMuch_2 N σ zz) 5 (fun t => ∀ t', t' < t → tot t' ≤ 40) (fun t ht hI => ?_) (fun hI => ?_) N 0 (by omega) (Nat.zero_le _) (fun t' h => by omega)
  · show kok (bX3_isTooMuch_2 N σ (nI t)) _
    unfold bX3_isTooMuch_2
    refine kok_f (nI_ge (b := 5) ht (by omega)) (kok_g (nI_in (by omega) (by omega)) ?_)
    rw [nI_clamp (by omega), h0 t ht]
    have hbt := hb t ht
    have hiff : (lg_cmp (lI (tot t : Int)) 40 ≤ 0) ↔ tot t ≤ 40 := by
      rw [lg_cmp_le, show (40 : Int64) = lI 40 from rfl, lI_le (by omega) (by omega)]
      omega
    refine kok_i (fun h => kok_lt (kok_some ⟨nI_1 t, fun t' ht' => ?_⟩)) (fun h => kok_some (Or.inr ⟨rfl, Or.inl ⟨t, ht, ?_⟩⟩))
    · by_cases e : t' = t
      · rw [e]; exact hiff.mp h
      · exact hI t' (by omega)
    · rw [hiff] at h; omega
  · show kok (bX3_isTooMuch_2 N σ (nI 5)) _
    unfold bX3_isTooMuch_2
    refine kok_t (nI_le (a := 5) (by omega) (by omega)) (kok_some ?_)
    show kok (jX3_isTooMuch_28 N σ) _
    unfold jX3_isTooMuch_28
    rw [h9]
    have i1 : ((40 : Int32) < Int32.ofInt q) ↔ 40 < q := iI_lt (a := 40) (by decide) (by omega)
    have i2 : ((-40 : Int32) ≤ Int32.ofInt q) ↔ -40 ≤ q := by rw [show (-40 : Int32) = Int32.ofInt (-40) by decide]; exact iI_le (by decide) (by omega)
    refine kok_i (fun h => kok_some (Or.inr ⟨rfl, Or.inr ?_⟩)) (fun h => kok_i (fun h2 => kok_some (Or.inl ⟨rfl, ?_⟩)) (fun h2 => kok_some (Or.inr ⟨rfl, Or.inr ?_⟩)))
    · rw [i1] at h; omega
    · rw [i1] at h
      rw [i2] at h2
      rintro (⟨t, ht, h3⟩ | h3)
      · have := hI t ht
        omega
      · omega
    · rw [i2] at h2; omega
theorem k_tooM {N w : Nat} {σ : vS} {tot : Nat → Nat} {q : Int} (hN : 300 < N) (hw : w < 6) (h8 : σ.1 8 = nI w) (h1 : ∀ t, t < 5 → σ.2.2.2 1 (5 * w + t) = lI (tot t)) (hb : ∀ t, t < 5 → tot t < 2 ^ 62) (h0 : σ.2.2.2 0 w = lI q) (hq : q.natAbs ≤ 99) : ∃ v : Int32, ((v = 0 ∧ ¬ kTM tot q) ∨ (v = 1 ∧ kTM tot q)) ∧ jX6_readFormula_216 N σ = jX6_readFormula_310 N (p_a σ 3 w (σ.1 3)) v := by
  unfold jX6_readFormula_216
  rw [h8, if_neg (nI_in (by omega) (by omega)), if_neg (nI_in (by omega) (by omega)), if_neg (nI_in (by omega) (by omega)), nI_clamp (by omega), h0]
  have i1 : (0 < lg_cmp (lI q) 40) ↔ 40 < q := (lg_cmp_gt _ _).trans (lI_lt (a := 40) (by decide) (by omega))
  have i2 : (0 ≤ lg_cmp (lI q) (-40)) ↔ -40 ≤ q := by rw [show (-40 : Int64) = lI (-40) by decide, lg_cmp_ge]; exact lI_le (by decide) (by omega)
  have main : ∀ v0 : Int32, ((v0 = 0 ∧ q.natAbs ≤ 40) ∨ (v0 = 1 ∧ 40 < q.natAbs)) → ∃ v : Int32, ((v = 0 ∧ ¬ kTM tot q) ∨ (v = 1 ∧ kTM tot q)) ∧ jX6_readFormula_267 N (p_a σ 3 w (σ.1 3)) v0 = jX6_readFormula_310 N (p_a σ 3 w (σ.1 3)) v := fun v0 hv0 => by
    have hk : kok (k_itr (fun zz => bX6_readFormula_269 N (p_a σ 3 w (σ.1 3)) zz.1 zz.2) N (v0, (0 : Int32))) (fun v => (v = 0 ∧ ¬ kTM tot q) ∨ (v = 1 ∧ kTM tot q)) := by
      refine kok_up (body := fun zz => bX6_readFormula_269 N (p_a σ 3 w (σ.1 3)) zz.1 zz.2) 5 (fun t s => s.2 = nI t ∧ ((s.1 = 0 ∧ q.natAbs ≤ 40 ∧ ∀ t', t' < t → tot t' ≤ 40) ∨ (s.1 = 1 ∧ kTM tot q))) (fun t s ht hI => ?_) (fun s hI => ?_) N 0 _ (by omega) (Nat.zero_le _) ⟨rfl, ?_⟩
      · obtain ⟨v, tt⟩ := s
        obtain ⟨e1, e2⟩ := hI
        dsimp only at e1 e2
        subst e1
        show kok (bX6_readFormula_269 N (p_a σ 3 w (σ.1 3)) v (nI t)) _
        unfold bX6_readFormula_269
        refine kok_f (nI_ge (b := 5) ht (by omega)) ?_
        rcases e2 with ⟨rfl, e3, e4⟩ | ⟨rfl, e3⟩
        · refine kok_t rfl ?_
          rw [show (p_a σ 3 w (σ.1 3)).1 8 = nI w from h8, k_ix5]
          refine kok_g (nI_in (by omega) (by omega)) ?_
          rw [nI_clamp (by omega), show (p_a σ 3 w (σ.1 3)).2.2.2 1 (5 * w + t) = lI (tot t) from h1 t ht]
          have hbt := hb t ht
          have hiff : (lg_cmp (lI (tot t : Int)) 40 ≤ 0) ↔ tot t ≤ 40 := by
            rw [lg_cmp_le, show (40 : Int64) = lI 40 from rfl, lI_le (by omega) (by omega)]
            omega
          refine kok_i (fun h => kok_lt (kok_some ⟨nI_1 t, Or.inl ⟨rfl, e3, fun t' ht' => ?_⟩⟩)) (fun h => kok_lt (kok_some ⟨nI_1 t, Or.inr ⟨rfl, Or.inl ⟨t, ht, ?_⟩⟩⟩))
          · by_cases e : t' = t
            · rw [e]; exact hiff.mp h
            · exact e4 t' (by omega)
          · rw [hiff] at h; omega
        · exact kok_f (by decide) (kok_lt (kok_some ⟨nI_1 t, Or.inr ⟨rfl, e3⟩⟩))
      · obtain ⟨v, tt⟩ := s
        obtain ⟨e1, e2⟩ := hI
        dsimp only at e1 e2
        subst e1
        show kok (bX6_readFormula_269 N (p_a σ 3 w (σ.1 3)) v (nI 5)) _
        unfold bX6_readFormula_269
        refine kok_t (nI_le (a := 5) (by omega) (by omega)) (kok_some ?_)
        rcases e2 with ⟨rfl, e3, e4⟩ | ⟨rfl, e3⟩
        · refine Or.inl ⟨rfl, ?_⟩
          rintro (⟨t, ht, h3⟩ | h3)
          · have := e4 t ht
            omega
          · omega
        · exact Or.inr ⟨rfl, e3⟩
      · rcases hv0 with ⟨rfl, h9⟩ | ⟨rfl, h9⟩
        · exact Or.inl ⟨rfl, h9, fun t' h => by omega⟩
        · exact Or.inr ⟨rfl, Or.inr h9⟩
    obtain ⟨v, e1, e2⟩ := hk
    refine ⟨v, e2, ?_⟩
    unfold jX6_readFormula_267
    rw [e1, bd1_s]
  by_cases h1' : 40 < q
  · rw [if_pos (i1.mpr h1')]
    exact main 1 (Or.inr ⟨rfl, by omega⟩)
  · rw [if_neg (fun h9 => h1' (i1.mp h9))]
    by_cases h2' : -40 ≤ q
    · rw [if_pos (i2.mpr h2')]
      exact main 0 (Or.inl ⟨rfl, by omega⟩)
    · rw [if_neg (fun h9 => h2' (i2.mp h9))]
      exact main 1 (Or.inr ⟨rfl, by omega⟩)
theorem k_216F {N w : Nat} {σ : vS} (hN : 300 < N) (hw : w < 6) (h8 : σ.1 8 = nI w) (h4 : σ.1 4 ≠ 0) : jX6_readFormula_216 N σ = some (p_i (p_a σ 3 w (σ.1 3)) 8 (nI (w + 1))) := by
  have h310 : ∀ v : Int32, jX6_readFormula_310 N (p_a σ 3 w (σ.1 3)) v = some (p_i (p_a σ 3 w (σ.1 3)) 8 (nI (w + 1))) := fun v => by
    unfold jX6_readFormula_310
    rw [show (p_a σ 3 w (σ.1 3)).1 8 = nI w from h8, if_neg (nI_in (by omega) (by omega)), k_failX (show (p_a σ 3 w (σ.1 3)).1 4 ≠ 0 from h4), bd1_s, show (p_a σ 3 w (σ.1 3)).1 8 = nI w from h8, nI_1]
  have h267 : ∀ v0 : Int32, jX6_readFormula_267 N (p_a σ 3 w (σ.1 3)) v0 = some (p_i (p_a σ 3 w (σ.1 3)) 8 (nI (w + 1))) := fun v0 => by
    have hk : kok (k_itr (fun zz => bX6_readFormula_269 N (p_a σ 3 w (σ.1 3)) zz.1 zz.2) N (v0, (0 : Int32))) (fun v => True) := by
      refine kok_up (body := fun zz => bX6_readFormula_269 N (p_a σ 3 w (σ.1 3)) zz.1 zz.2) 5 (fun t s => s.2 = nI t) (fun t s ht hI => ?_) (fun s hI => ?_) N 0 _ (by omega) (Nat.zero_le _) rfl
      · obtain ⟨v, tt⟩ := s
        dsimp only at hI
        subst hI
        show kok (bX6_readFormula_269 N (p_a σ 3 w (σ.1 3)) v (nI t)) _
        unfold bX6_readFormula_269
        refine kok_f (nI_ge (b := 5) ht (by omega)) (kok_i (fun h => ?_) (fun h => kok_lt (kok_some (nI_1 t))))
        rw [show (p_a σ 3 w (σ.1 3)).1 8 = nI w from h8, k_ix5]
        exact kok_g (nI_in (by omega) (by omega)) (kok_i (fun h => kok_lt (kok_some (nI_1 t))) (fun h => kok_lt (kok_some (nI_1 t))))
      · obtain ⟨v, tt⟩ := s
        dsimp only at hI
        subst hI
        show kok (bX6_readFormula_269 N (p_a σ 3 w (σ.1 3)) v (nI 5)) _
        unfold bX6_readFormula_269
        exact kok_t (nI_le (a := 5) (by omega) (by omega)) (kok_some trivial)
    obtain ⟨v, e1, -⟩ := hk
    unfold jX6_readFormula_267
    rw [e1, bd1_s, h310]
  unfold jX6_readFormula_216 jX6_readFormula_261
  rw [h8, if_neg (nI_in (by omega) (by omega)), if_neg (nI_in (by omega) (by omega)), if_neg (nI_in (by omega) (by omega)), nI_clamp (by omega), h267, h267]
  split
  · rfl
  · split <;> rfl
