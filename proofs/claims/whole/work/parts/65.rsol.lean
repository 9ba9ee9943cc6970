/-! The reference's bases. -/
def kf9 (σ σ' : vS) : Prop := σ'.1 = σ.1 ∧ (∀ b, b ≠ 9 → σ'.2.1 b = σ.2.1 b) ∧ σ'.2.2.1 = σ.2.2.1 ∧ ∀ b, b ≠ 4 → σ'.2.2.2 b = σ.2.2.2 b
theorem kf9.rf (σ : vS) : kf9 σ σ := ⟨rfl, fun _ _ => rfl, rfl, fun _ _ => rfl⟩
theorem kf9.tr {σ σ' σ2 : vS} (h1 : kf9 σ σ') (h2 : kf9 σ' σ2) : kf9 σ σ2 := ⟨h2.1.trans h1.1, fun b hb => (h2.2.1 b hb).trans (h1.2.1 b hb), h2.2.2.1.trans h1.2.2.1, fun b hb => (h2.2.2.2 b hb).trans (h1.2.2.2 b hb)⟩
theorem kf9.m {σ σ' : vS} (h : kf9 σ σ') : kfM σ σ' := ⟨fun _ _ _ => by rw [h.1], fun b _ _ h9 => h.2.1 b h9, h.2.2.1, fun b _ h4 => h.2.2.2 b h4⟩
theorem kf4.n {σ σ' : vS} (h : kf4 σ σ') : kf9 σ σ' := ⟨h.1, fun b _ => by rw [h.2.1], h.2.2.1, h.2.2.2⟩
theorem kf9.p (σ : vS) (i : Nat) (v : Int32) : kf9 σ (p_a σ 9 i v) := ⟨rfl, fun b hb => by funext j; rw [paA, if_neg hb], rfl, fun _ _ => rfl⟩
theorem k_note {N k : Nat} {σ : vS} {le : Nat → Nat} (hN : 300 < N) (hk : k ≤ 5) (h12 : σ.1 12 = nI k) (h7 : ∀ i, i < k → σ.2.1 7 i = nI (le i)) : kok (fX6_noteLeads N σ) (fun σ' => kf9 σ σ' ∧ ∀ i, i < k → σ'.2.1 9 i = nI (le i)) := by
  unfold fX6_noteLeads
  refine kok_bd1 (P := fun σ' => kf9 σ σ' ∧ ∀ i, i < k → σ'.2.1 9 i = nI (le i)) ?_ (fun σ' h => kok_some h)
  refine kok_for (body := fun zz => bX6_noteLeads_2 N zz.1 zz.2) k (fun i σ' => kf9 σ σ' ∧ ∀ i', i' < i → σ'.2.1 9 i' = nI (le i')) (fun i σ' hi hI => ?_) (fun σ' hI => ?_) N 0 _ (by omega) (Nat.zero_le _) ⟨kf9.rf σ, fun i' hi' => by omega⟩
  · obtain ⟨h1, h2⟩ := hI
    show kok (bX6_noteLeads_2 N (nI i) σ') _
    unfold bX6_noteLeads_2
    rw [h1.1, h12]
    refine kok_f (nI_ge hi (by omega)) (kok_g (nI_in (by omega) (by omega)) (kok_g (nI_in (by omega) (by omega)) (kok_lt (kok_some ⟨_, Prod.ext (nI_1 _) rfl, h1.tr (kf9.p _ _ _), fun i' hi' => ?_⟩))))
    rw [nI_clamp (by omega), paA, if_pos rfl]
    by_cases e : i' = i
    · rw [if_pos e, e, h1.2.1 7 (by decide), h7 i hi]
    · rw [if_neg e]; exact h2 i' (by omega)
  · obtain ⟨h1, h2⟩ := hI
    show kok (bX6_noteLeads_2 N (nI k) σ') _
    unfold bX6_noteLeads_2
    rw [h1.1, h12]
    exact kok_t (nI_le (Nat.le_refl _) (by omega)) (kok_some ⟨h1, h2⟩)
theorem k_shl : ∀ h, h < 6 → (1 : Int32) <<< (nI h &&& 31) = nI (2 ^ h) := by decide +kernel
theorem kp2 : ∀ h, h < 6 → 2 ^ h ≤ 32 := by decide
theorem mf_bd {n : Nat} {c : Nat → Nat → Int} {m : Nat} (hn : n ≤ 5) (hc : ∀ j, j < n → ∀ t, t < 5 → (c j t).natAbs ≤ 40) : (dt (mf n c (qE m))).natAbs ≤ 120 * 40 ^ n := by
  refine kx_bd (b := fun m => if m < n then 40 else 1) (n := n) (fun m hm t ht => ?_) (fun m hm => ?_) ?_ (Nat.le_refl _)
  · by_cases hmk : m < n
    · simp only [hmk, if_true, mf]; exact hc m hmk t ht
    · simp only [hmk, if_false, mf]
      exact kx_ev _ t
  · by_cases h9 : m < n
    · simp [h9]
    · simp [h9]
  · rcases (show n = 0 ∨ n = 1 ∨ n = 2 ∨ n = 3 ∨ n = 4 ∨ n = 5 by omega) with rfl | rfl | rfl | rfl | rfl | rfl <;> rfl
theorem k_rows {N n w rc el ch : Nat} {σ : vS} {Am : Nat → Nat → Int} {c : Nat → Nat} (hN : 300 < N) (h : kEM σ w rc el ch Am) (hn : n ≤ 5) (hc : ∀ i, i < n → σ.2.1 9 i = nI (c i) ∧ c i < w) :
    kok (fX6_rowsFor N σ (nI n)) (fun q => kf4 σ q.2 ∧ ((q.1 = -1 ∧ ∀ m, m < 2 ^ (el + ch) → ps m 5 = n → dt (mf n (fun i => kco w rc (el + ch) Am (c i)) (qE m)) = 0) ∨ ∃ m, q.1 = nI m ∧ m < 2 ^ (el + ch) ∧ ps m 5 = n ∧ dt (mf n (fun i => kco w rc (el + ch) Am (c i)) (qE m)) ≠ 0)) := by
  have hel := h.2.2.2.2.2.2.1
  have hw := h.2.2.2.1
  have h2 := kp2 (el + ch) (by omega)
  have hcb : ∀ j, j < n → ∀ t, t < 5 → (kco w rc (el + ch) Am (c j) t).natAbs ≤ 40 := fun j hj t ht => (kco_in h.2.2.2.2.2.2.2.2.2.2).2 (c j) (by have := (hc j hj).2; omega) t ht
  unfold fX6_rowsFor
  refine kok_bds ?_
  refine kok_for (body := fun zz => bX6_rowsFor_2 N (nI n) zz.1 zz.2) (2 ^ (el + ch)) (fun m σ' => kf4 σ σ' ∧ ∀ m', m' < m → ps m' 5 = n → dt (mf n (fun i => kco w rc (el + ch) Am (c i)) (qE m')) = 0) (fun m σ' hm hI => ?_) (fun σ' hI => ?_) N 0 _ (by omega) (Nat.zero_le _) ⟨kf4.rf σ, fun m' hm' => by omega⟩
  · obtain ⟨h3, h4⟩ := hI
    show kok (bX6_rowsFor_2 N (nI n) (nI m) σ') _
    unfold bX6_rowsFor_2
    rw [k_kindM (h.fr h3.m), bd1_s, k_shl _ (by omega)]
    refine kok_f (nI_ge hm (by omega)) (kok_bd1 (k_sizeOf hN (by omega)) (fun r hr => ?_))
    subst hr
    have hpl := ps_le m (by omega)
    by_cases hpn : ps m 5 = n
    · refine kok_t (by rw [hpn]) (kok_bd2 (k_det hN (h.fr h3.m) hn hm hpn (fun i hi => by rw [h3.2.1]; exact hc i hi)) (fun r4 σ4 h5 => ?_))
      obtain ⟨h6, h7⟩ := h5
      dsimp only at h6 h7
      rw [h6]
      have hb := mf_bd (m := m) hn hcb
      have hpw := kpw2 n (by omega)
      have hq := qs_1 m (by omega)
      have hiff : (lg_cmp (lI (qs m * dt (mf n (fun i => kco w rc (el + ch) Am (c i)) (qE m)))) 0 = 0) ↔ dt (mf n (fun i => kco w rc (el + ch) Am (c i)) (qE m)) = 0 := by
        rw [lg_cmp_eq, lI_eq0 (by rw [kx_sgn hq]; omega)]
        rcases hq with e | e <;> rw [e] <;> omega
      refine kok_i (fun h0 => kok_lt (kok_some ⟨_, Prod.ext (nI_1 _) rfl, h3.tr h7, fun m' g1 g2 => ?_⟩)) (fun h0 => kok_some ⟨h3.tr h7, Or.inr ⟨m, rfl, hm, hpn, fun e => h0 (hiff.mpr e)⟩⟩)
      by_cases e : m' = m
      · rw [e]; exact hiff.mp h0
      · exact h4 m' (by omega) g2
    · refine kok_f (fun e => hpn ((nI_eq (by omega) (by omega)).mp e)) (kok_lt (kok_some ⟨_, Prod.ext (nI_1 _) rfl, h3, fun m' g1 g2 => ?_⟩))
      by_cases e : m' = m
      · exact absurd (e ▸ g2) hpn
      · exact h4 m' (by omega) g2
  · obtain ⟨h3, h4⟩ := hI
    show kok (bX6_rowsFor_2 N (nI n) (nI (2 ^ (el + ch))) σ') _
    unfold bX6_rowsFor_2
    rw [k_kindM (h.fr h3.m), bd1_s, k_shl _ (by omega)]
    refine kok_t (nI_le (Nat.le_refl _) (by omega)) (kok_some ?_)
    show kok (jX6_rowsFor_39 N σ') _
    exact kok_some ⟨h3, Or.inl ⟨rfl, h4⟩⟩
theorem kg6_iff {d : Nat} {y : Nat → Int} : d ∣ g6 y ↔ ∀ j, j < 6 → d ∣ (y j).natAbs := by
  unfold g6
  simp only [Nat.dvd_gcd_iff]
  constructor
  · rintro ⟨h0, h1, h2, h3, h4, h5⟩ j hj
    rcases lt6 hj with rfl | rfl | rfl | rfl | rfl | rfl <;> assumption
  · intro h
    exact ⟨h 0 (by decide), h 1 (by decide), h 2 (by decide), h 3 (by decide), h 4 (by decide), h 5 (by decide)⟩
/-- what making a base leaves alone -/
def kf3 (fr : Nat) (σ σ' : vS) : Prop := (∀ i, i ≠ 13 → σ'.1 i = σ.1 i) ∧ (∀ b, b ≠ 9 → σ'.2.1 b = σ.2.1 b) ∧ σ'.2.2.1 = σ.2.2.1 ∧ (∀ b, b ≠ 3 → b ≠ 4 → σ'.2.2.2 b = σ.2.2.2 b) ∧ ∀ j, (j < 6 * fr ∨ 6 * fr + 6 ≤ j) → σ'.2.2.2 3 j = σ.2.2.2 3 j
theorem kf3.rf (fr : Nat) (σ : vS) : kf3 fr σ σ := ⟨fun _ _ => rfl, fun _ _ => rfl, rfl, fun _ _ _ => rfl, fun _ _ => rfl⟩
theorem kf3.tr {fr : Nat} {σ σ' σ2 : vS} (h1 : kf3 fr σ σ') (h2 : kf3 fr σ' σ2) : kf3 fr σ σ2 := ⟨fun i a => (h2.1 i a).trans (h1.1 i a), fun i a => (h2.2.1 i a).trans (h1.2.1 i a), h2.2.2.1.trans h1.2.2.1, fun i a b => (h2.2.2.2.1 i a b).trans (h1.2.2.2.1 i a b), fun j hj => (h2.2.2.2.2 j hj).trans (h1.2.2.2.2 j hj)⟩
theorem kf3.m {fr : Nat} {σ σ' : vS} (h : kf3 fr σ σ') : kfM σ σ' := ⟨fun i _ h13 => h.1 i h13, fun b _ _ h9 => h.2.1 b h9, h.2.2.1, fun b h3 h4 => h.2.2.2.1 b h3 h4⟩
theorem kf9.q {σ σ' : vS} (fr : Nat) (h : kf9 σ σ') : kf3 fr σ σ' := ⟨fun i _ => by rw [h.1], h.2.1, h.2.2.1, fun b _ h4 => h.2.2.2 b h4, fun j _ => by rw [h.2.2.2 3 (by decide)]⟩
theorem kf3.p (σ : vS) (fr j : Nat) (v : Int64) (hj : j < 6) : kf3 fr σ (p_b σ 3 (6 * fr + j) v) := ⟨fun _ _ => rfl, fun _ _ => rfl, rfl, fun b h3 _ => by funext j; rw [pbB, if_neg h3], fun j' hj' => by rw [pbB, if_pos rfl, if_neg (by omega)]⟩
theorem kyv_s (f : Nat) (p : Int) (le : Nat → Nat) (R : Nat → Nat → Int) (n j : Nat) : kyv f p le R (n + 1) j = if j = le n then - R n f else kyv f p le R n j := rfl
theorem k_makeM {N w rc el ch k f fr : Nat} {σ : vS} {Am a : Nat → Nat → Int} {le : Nat → Nat} (hN : 300 < N) (h : kEM σ w rc el ch Am) (hae : kco w rc (el + ch) Am = a) (ha : kx_in (el + ch) a) (hk : k ≤ 5) (h12 : σ.1 12 = nI k) (h7 : ∀ i, i < k → σ.2.1 7 i = nI (le i)) (h13 : σ.1 13 = nI fr) (hfr : fr ≤ 5) (hl : kx_ll f k le (kl a)) (hf : f < w) (hnl : ¬ kl a f) (hT : ∃ T, T < 2 ^ (el + ch) ∧ ps T 5 = k ∧ dt (mf k (fun i => a (le i)) (qE T)) ≠ 0) :
    kok (fX6_makeBase N σ (nI f)) (fun σ' => (∃ x, kx_base a (kl a) f x ∧ ∀ j, j < 6 → σ'.2.2.2 3 (6 * fr + j) = lI (x j)) ∧ σ'.1 13 = nI (fr + 1) ∧ kf3 fr σ σ') := by
  have hel := h.2.2.2.2.2.2.1
  have hw := h.2.2.2.1
  obtain ⟨hl1, hl2, hl3⟩ := hl
  have hlew : ∀ i, i < k → le i < w := fun i hi => by have := (hl1 i hi).1; omega
  have hlef : ∀ i, i < k → le i ≠ f := fun i hi => by have := (hl1 i hi).1; omega
  unfold fX6_makeBase
  refine kok_bd1 (P := fun σ1 => (∀ j, j < 6 → σ1.2.2.2 3 (6 * fr + j) = lI 0) ∧ σ1.1 13 = nI fr ∧ kf3 fr σ σ1) ?_ (fun σ1 h1 => ?_)
  · refine kok_for (body := fun zz => bX6_makeBase_2 N (nI f) zz.1 zz.2) 6 (fun j σ1 => (∀ j', j' < j → σ1.2.2.2 3 (6 * fr + j') = lI 0) ∧ σ1.1 13 = nI fr ∧ kf3 fr σ σ1) (fun j σ1 hj hI => ?_) (fun σ1 hI => ?_) N 0 _ (by omega) (Nat.zero_le _) ⟨fun j' hj' => by omega, h13, kf3.rf fr σ⟩
    · obtain ⟨g1, g2, g3⟩ := hI
      show kok (bX6_makeBase_2 N (nI f) (nI j) σ1) _
      unfold bX6_makeBase_2
      rw [g2, k_ix6]
      refine kok_f (nI_ge (b := 6) hj (by omega)) (kok_g (nI_in (by omega) (by omega)) (kok_lt (kok_some ⟨_, Prod.ext (nI_1 _) rfl, fun j' hj' => ?_, g2, g3.tr ?_⟩)))
      · rw [nI_clamp (by omega), pbB, if_pos rfl]
        by_cases e : j' = j
        · rw [if_pos (by omega)]; rfl
        · rw [if_neg (by omega)]; exact g1 j' (by omega)
      · rw [nI_clamp (by omega)]; exact kf3.p _ _ _ _ hj
    · show kok (bX6_makeBase_2 N (nI f) (nI 6) σ1) _
      unfold bX6_makeBase_2
      exact kok_t (nI_le (a := 6) (by omega) (by omega)) (kok_some hI)
  obtain ⟨z1, z2, z3⟩ := h1
  unfold jX6_makeBase_29
  have h12' : σ1.1 12 = nI k := (z3.1 12 (by decide)).trans h12
  have h7' : ∀ i, i < k → σ1.2.1 7 i = nI (le i) := fun i hi => by rw [z3.2.1 7 (by decide)]; exact h7 i hi
  refine kok_bd1 (k_note hN hk h12' h7') (fun σ2 h2 => ?_)
  obtain ⟨y1, y2⟩ := h2
  have hf2 : kf3 fr σ σ2 := z3.tr (y1.q fr)
  rw [show σ2.1 12 = nI k by rw [y1.1]; exact h12']
  refine kok_bd2 (k_rows hN (h.fr hf2.m) hk (fun i hi => ⟨y2 i hi, hlew i hi⟩)) (fun r2 σ3 h3 => ?_)
  obtain ⟨x1, x2⟩ := h3
  dsimp only at x1 x2
  rw [hae] at x2
  obtain ⟨T, rfl, hT1, hT2, hT3⟩ : ∃ m, r2 = nI m ∧ m < 2 ^ (el + ch) ∧ ps m 5 = k ∧ dt (mf k (fun i => a (le i)) (qE m)) ≠ 0 := by
    rcases x2 with ⟨_, g⟩ | g
    · obtain ⟨T, t1, t2, t3⟩ := hT
      exact absurd (g T t1 t2) t3
    · exact g
  have hf3 : kf3 fr σ σ3 := hf2.tr (x1.n.q fr)
  have hT32 := two_h hel hT1
  have hq := qs_1 T hT32
  rw [show σ3.1 12 = nI k by rw [x1.1, y1.1]; exact h12']
  refine kok_bd2 (k_det hN (h.fr hf3.m) hk hT1 hT2 (c := le) (fun i hi => ⟨by rw [x1.2.1]; exact y2 i hi, hlew i hi⟩)) (fun r3 σ4 h4 => ?_)
  obtain ⟨w1, w2⟩ := h4
  dsimp only at w1 w2
  rw [hae] at w1
  subst w1
  have hf4 : kf3 fr σ σ4 := hf3.tr (w2.n.q fr)
  have h13' : σ4.1 13 = nI fr := by rw [w2.1, x1.1, y1.1]; exact z2
  rw [h13', k_ix6]
  refine kok_g (nI_in (by omega) (by omega)) ?_
  rw [nI_clamp (by omega)]
  have hab : ∀ j, j < 6 → ∀ t, t < 5 → (a j t).natAbs ≤ 40 := ha.2
  generalize hBe : mf k (fun i => a (le i)) (qE T) = B at hT3
  have hBl : ∀ m, m < k → B m = a (le m) := fun m hm => by rw [← hBe]; exact if_pos hm
  have hbu : ∀ i, i < k → mf k (fun i' => a (if i' = i then f else le i')) (qE T) = bu B i (a f) := fun i hi => by
    rw [← hBe]
    funext m
    unfold mf bu
    by_cases e1 : m = i
    · simp [e1, hi]
    · simp [e1]
  have hbd5 : ∀ i, i ≤ 5 → 120 * 40 ^ i ≤ 12288000000 := by decide
  generalize hDe : qs T * dt B = D
  generalize hRe : (fun i j => qs T * dt (bu B i (a j))) = RR
  have hD0 : D ≠ 0 := fun e => hT3 (by rw [e] at hDe; rcases hq with e9 | e9 <;> rw [e9] at hDe <;> omega)
  have hDb : D.natAbs ≤ 12288000000 := by
    rw [← hDe, kx_sgn hq, ← hBe]
    exact Nat.le_trans (mf_bd hk (fun j hj => hab _ (by have := hlew j hj; omega))) (hbd5 k hk)
  have hRb : ∀ i, i < k → (RR i f).natAbs ≤ 12288000000 := fun i hi => by
    rw [← hRe]
    show (qs T * dt (bu B i (a f))).natAbs ≤ _
    rw [kx_sgn hq, ← hbu i hi]
    refine Nat.le_trans (mf_bd hk (fun j hj => hab _ ?_)) (hbd5 k hk)
    have := hlew j hj
    split <;> omega
  have hyb := fun i => kyv_b (f := f) (p := D) (le := le) (R := RR) (k := i) (b := 12288000000) hDb
  refine kok_bd1 (P := fun q => ∃ g : Int, q.1 = lI g ∧ g.natAbs ≤ 12288000000 ∧ (∀ d : Nat, d ∣ g.natAbs ↔ d ∣ D.natAbs ∧ ∀ m, m < k → d ∣ (RR m f).natAbs) ∧ q.2.1 13 = nI fr ∧ kf3 fr σ q.2 ∧ ∀ j, j < 6 → q.2.2.2.2 3 (6 * fr + j) = lI (kyv f D le RR k j)) ?_ (fun q h5 => ?_)
  · refine kok_up (body := fun zz => bX6_makeBase_73 N (nI f) (nI T) (lI D) zz.1 zz.2.1 zz.2.2) k (fun i q => q.2.1 = nI i ∧ ∃ g : Int, q.1 = lI g ∧ g.natAbs ≤ 12288000000 ∧ (∀ d : Nat, d ∣ g.natAbs ↔ d ∣ D.natAbs ∧ ∀ m, m < i → d ∣ (RR m f).natAbs) ∧ q.2.2.1 13 = nI fr ∧ kf3 fr σ q.2.2 ∧ ∀ j, j < 6 → q.2.2.2.2.2 3 (6 * fr + j) = lI (kyv f D le RR i j)) (fun i q hi hI => ?_) (fun q hI => ?_) N 0 _ (by omega) (Nat.zero_le _) ?_
    · obtain ⟨v5, v7, σ5⟩ := q
      obtain ⟨s1, g, s2, s3, s4, s5, s6, s7⟩ := hI
      dsimp only at s1 s2 s5 s6 s7
      subst s1 s2
      have hle6 := hlew i hi
      have j12 : σ5.1 12 = nI k := (s6.1 12 (by decide)).trans h12
      have j7 : ∀ i, i < k → σ5.2.1 7 i = nI (le i) := fun i hi => by rw [s6.2.1 7 (by decide)]; exact h7 i hi
      show kok (bX6_makeBase_73 N (nI f) (nI T) (lI D) (lI g) (nI i) σ5) _
      unfold bX6_makeBase_73
      rw [j12]
      refine kok_f (nI_ge hi (by omega)) (kok_bd1 (k_note hN hk j12 j7) (fun σ6 h6 => ?_))
      obtain ⟨u1, u2⟩ := h6
      refine kok_g (nI_in (by omega) (by omega)) ?_
      rw [nI_clamp (by omega), show σ6.1 12 = nI k by rw [u1.1]; exact j12]
      have hf6 : kf3 fr σ (p_a σ6 9 i (nI f)) := s6.tr ((u1.tr (kf9.p _ _ _)).q fr)
      refine kok_bd2 (k_det hN (h.fr hf6.m) hk hT1 hT2 (c := fun i' => if i' = i then f else le i') (fun i' hi' => ?_)) (fun r7 σ7 h7 => ?_)
      · rw [paA, if_pos rfl]
        by_cases e : i' = i
        · rw [if_pos e]; exact ⟨by simp only [e, if_true], by simp only [e, if_true]; exact hf⟩
        · rw [if_neg e]; exact ⟨by simp only [e, if_false]; exact u2 i' hi', by simp only [e, if_false]; exact hlew i' hi'⟩
      obtain ⟨v1, v2⟩ := h7
      dsimp only at v1 v2
      rw [hae, hbu i hi] at v1
      have v1' : r7 = lI (RR i f) := by rw [v1, ← hRe]
      subst v1'
      have hf7 : kf3 fr σ σ7 := hf6.tr (v2.n.q fr)
      refine kok_lt (kok_g (nI_g (by omega) (by omega)) ?_)
      have e13 : σ7.1 13 = nI fr := by rw [v2.1]; show σ6.1 13 = _; rw [u1.1]; exact s5
      rw [e13, show σ7.2.1 7 i = nI (le i) by rw [hf7.2.1 7 (by decide)]; exact h7 i hi, k_ix6]
      refine kok_g (nI_in (by omega) (by omega)) ?_
      have hRi := hRb i hi
      rw [lI_neg, nI_clamp (by omega)]
      refine kok_bd1 (k_common hN (by omega) (by omega)) (fun r8 h8 => ?_)
      subst h8
      refine kok_lt (kok_some ⟨nI_1 i, _, rfl, ?_, fun d => ?_, e13, hf7.tr (kf3.p _ _ _ _ (by omega)), fun j hj => ?_⟩)
      · rw [Int.natAbs_natCast]
        by_cases e9 : g.natAbs = 0
        · rw [e9, Nat.gcd_zero_left]; omega
        · exact Nat.le_trans (Nat.gcd_le_left _ (by omega)) s3
      · rw [Int.natAbs_natCast, Nat.dvd_gcd_iff, s4 d, Int.natAbs_neg]
        constructor
        · rintro ⟨⟨q1, q2⟩, q3⟩
          refine ⟨q1, fun m hm => ?_⟩
          by_cases e : m = i
          · rw [e]; exact q3
          · exact q2 m (by omega)
        · rintro ⟨q1, q2⟩
          exact ⟨⟨q1, fun m hm => q2 m (by omega)⟩, q2 i (by omega)⟩
      · show (p_b σ7 3 (6 * fr + le i) (lI (-RR i f))).2.2.2 3 (6 * fr + j) = _
        rw [pbB, if_pos rfl, kyv_s]
        by_cases e : j = le i
        · rw [if_pos (by omega), if_pos e]
        · rw [if_neg (by omega), if_neg e, v2.2.2.2 3 (by decide)]
          show σ6.2.2.2 3 _ = _
          rw [u1.2.2.2 3 (by decide)]
          exact s7 j hj
    · obtain ⟨v5, v7, σ5⟩ := q
      obtain ⟨s1, g, s2, s3, s4, s5, s6, s7⟩ := hI
      dsimp only at s1 s2 s5 s6 s7
      subst s1
      have j12 : σ5.1 12 = nI k := (s6.1 12 (by decide)).trans h12
      show kok (bX6_makeBase_73 N (nI f) (nI T) (lI D) v5 (nI k) σ5) _
      unfold bX6_makeBase_73
      rw [j12]
      exact kok_t (nI_le (Nat.le_refl _) (by omega)) (kok_some ⟨g, s2, s3, s4, s5, s6, s7⟩)
    · refine ⟨rfl, D, rfl, hDb, fun d => ⟨fun h9 => ⟨h9, fun m hm => by omega⟩, fun h9 => h9.1⟩, h13', hf4.tr (kf3.p _ _ _ _ (by omega)), fun j hj => ?_⟩
      show (p_b σ4 3 (6 * fr + f) (lI D)).2.2.2 3 (6 * fr + j) = lI (if j = f then D else 0)
      rw [pbB, if_pos rfl]
      by_cases e : j = f
      · rw [if_pos (by omega), if_pos e]
      · rw [if_neg (by omega), if_neg e, w2.2.2.2 3 (by decide), x1.2.2.2 3 (by decide), y1.2.2.2 3 (by decide)]
        exact z1 j hj
  · obtain ⟨v5, σ5⟩ := q
    obtain ⟨g, s2, s3, s4, s5, s6, s7⟩ := h5
    dsimp only at s2 s5 s6 s7
    subst s2
    show kok (jX6_makeBase_143 N σ5 (lI D) (lI g)) _
    generalize hye : kyv f D le RR k = y at s7
    have hyf : y f = D := by rw [← hye]; exact kyv_f hlef
    have hyl : ∀ m, m < k → y (le m) = - RR m f := by rw [← hye]; exact kyv_l hl3
    have hy0 : ∀ j, j ≠ f → (∀ m, m < k → le m ≠ j) → y j = 0 := by rw [← hye]; exact kyv_0
    have hyB : ∀ j, (y j).natAbs ≤ 12288000000 := by rw [← hye]; exact hyb k hRb
    have hg6 : g.natAbs = g6 y := by
      refine Nat.dvd_antisymm ?_ ?_
      · rw [kg6_iff]
        have hs := (s4 g.natAbs).mp (Nat.dvd_refl _)
        intro j hj
        by_cases e : j = f
        · rw [e, hyf]; exact hs.1
        · by_cases e2 : ∃ m, m < k ∧ le m = j
          · obtain ⟨m, hm, rfl⟩ := e2
            rw [hyl m hm, Int.natAbs_neg]; exact hs.2 m hm
          · rw [hy0 j e (fun m hm e3 => e2 ⟨m, hm, e3⟩)]; exact Nat.dvd_zero _
      · rw [s4]
        have hs := kg6_iff.mp (Nat.dvd_refl (g6 y))
        refine ⟨by rw [← hyf]; exact hs f (by omega), fun m hm => ?_⟩
        have := hs (le m) (by have := hlew m hm; omega)
        rw [hyl m hm, Int.natAbs_neg] at this
        exact this
    have hdep : kx_dep a (kl a) f := Classical.byContradiction (fun h9 => hnl ((kl_iff a f).mpr h9))
    have hsup : kx_sup (kl a) f y := fun j hj h0 => by
      by_cases e : j = f
      · exact Or.inl e
      · by_cases e2 : ∃ m, m < k ∧ le m = j
        · obtain ⟨m, hm, rfl⟩ := e2
          exact Or.inr (hl1 m hm)
        · exact absurd (hy0 j e (fun m hm e3 => e2 ⟨m, hm, e3⟩)) h0
    have hker : kx_ker a y := by
      obtain ⟨x, x0, x1, x2⟩ := hdep
      have hk1 : kx_ker a (fun j => qs T * y j) := by
        refine kx_ker_of (le := le) (B := B) (f := f) (k := k) (by omega) hk hBl (fun m hm => by have := hlew m hm; omega) hl3 hlef (fun i hi hi5 => kx_out (by omega) x0 x1 x2 hi5 (fun j hj hlj => ?_)) ?_ (fun m hm => ?_) (fun j hj e1 e2 => ?_)
        · obtain ⟨m, hm, e⟩ := hl2 j hj hlj
          exact ⟨m, by omega, by omega, by rw [hBl m hm, e]⟩
        · show qs T * y f = dt B
          rw [hyf, ← hDe]
          rcases hq with e | e <;> rw [e] <;> omega
        · show qs T * y (le m) = - dt (bu B m (a f))
          rw [hyl m hm, ← hRe]
          show qs T * -(qs T * dt (bu B m (a f))) = _
          rcases hq with e | e <;> rw [e] <;> omega
        · show qs T * y j = 0
          rw [hy0 j e1 e2, Int.mul_zero]
      have hk2 := kx_ker_lin (qs T) 0 hk1 hk1
      have e : (fun j => qs T * (qs T * y j) - 0 * (qs T * y j)) = y := by
        funext j
        rcases hq with e | e <;> rw [e] <;> omega
      rw [e] at hk2
      exact hk2
    obtain ⟨n1, n2, x, n3, n4, n5, n6⟩ := kx_norm (sg := if y f < 0 then - (g6 y : Int) else (g6 y : Int)) (by omega) (by rw [hyf]; exact hD0) hsup hker rfl
    rw [hyf] at n1 n2 n3
    have hg0 := g6_pos (y := y) (f := f) (by omega) (by rw [hyf]; exact hD0)
    unfold jX6_makeBase_143
    refine kok_bd1 (k_common hN (by omega) (by omega)) (fun r5 h8 => ?_)
    rw [Nat.gcd_self, hg6] at h8
    subst h8
    have hiff : (0 ≤ lg_cmp (lI D) 0) ↔ 0 ≤ D := (lg_cmp_ge _ _).trans (lI_le (a := 0) (by decide) (by omega))
    refine kok_bd1 (P := fun σ6 => (∀ j, j < 6 → σ6.2.2.2 3 (6 * fr + j) = lI (x j)) ∧ σ6.1 13 = nI fr ∧ kf3 fr σ σ6) ?_ (fun σ6 h6 => ?_)
    · refine kok_for (body := fun zz => bX6_makeBase_155 N (lI D) (lI (g6 y : Int)) zz.1 zz.2) 6 (fun j σ6 => (∀ j', j' < 6 → σ6.2.2.2 3 (6 * fr + j') = if j' < j then lI (x j') else lI (y j')) ∧ σ6.1 13 = nI fr ∧ kf3 fr σ σ6) (fun j σ6 hj hI => ?_) (fun σ6 hI => ?_) N 0 _ (by omega) (Nat.zero_le _) ⟨fun j' hj' => by rw [if_neg (Nat.not_lt_zero _)]; exact s7 j' hj', s5, s6⟩
      · obtain ⟨g1, g2, g3⟩ := hI
        show kok (bX6_makeBase_155 N (lI D) (lI (g6 y : Int)) (nI j) σ6) _
        unfold bX6_makeBase_155
        rw [g2, k_ix6]
        have hyj := hyB j
        have hval := g1 j hj
        rw [if_neg (Nat.lt_irrefl _)] at hval
        have fin : ∀ v : Int64, v = lI (x j) → kok (some (.inl (nI j + 1, p_b σ6 3 (nI (6 * fr + j)).toNatClampNeg v)) : Option ((Int32 × vS) ⊕ vS)) (kso (fun q => ∃ s', q = (nI (j + 1), s') ∧ ((∀ j', j' < 6 → s'.2.2.2 3 (6 * fr + j') = if j' < j + 1 then lI (x j') else lI (y j')) ∧ s'.1 13 = nI fr ∧ kf3 fr σ s')) (fun σ6 => (∀ j, j < 6 → σ6.2.2.2 3 (6 * fr + j) = lI (x j)) ∧ σ6.1 13 = nI fr ∧ kf3 fr σ σ6)) := fun v hv => by
          refine kok_some ⟨_, Prod.ext (nI_1 _) rfl, fun j' hj' => ?_, g2, g3.tr ?_⟩
          · rw [nI_clamp (by omega), pbB, if_pos rfl]
            by_cases e : j' = j
            · rw [if_pos (by omega), if_pos (by omega), hv, e]
            · rw [if_neg (by omega), g1 j' hj']
              by_cases e2 : j' < j
              · rw [if_pos e2, if_pos (by omega)]
              · rw [if_neg e2, if_neg (by omega)]
          · rw [nI_clamp (by omega)]; exact kf3.p _ _ _ _ hj
        refine kok_f (nI_ge (b := 6) hj (by omega)) (kok_g (nI_in (by omega) (by omega)) ?_)
        have hgb : (g6 y) ≤ 12288000000 := by rw [← hg6]; exact s3
        refine kok_i (fun hp => ?_) (fun hp => ?_)
        · rw [hiff] at hp
          rw [if_neg (by omega)] at n1 n2 n3
          refine kok_g (fun e => n1 ((lI_eq0 (by omega)).mp e)) (kok_g (nI_in (by omega) (by omega)) (kok_lt (fin _ ?_)))
          rw [nI_clamp (by omega), hval, n3 j hj]
          rw [n3 j hj] at hyj
          rw [lI_div (by omega) (by omega), Int.mul_tdiv_cancel_left _ n1]
        · rw [hiff] at hp
          rw [if_pos (by omega)] at n1 n2 n3
          rw [lI_neg]
          refine kok_g (fun e => n1 ((lI_eq0 (by omega)).mp e)) (kok_g (nI_in (by omega) (by omega)) (kok_lt (fin _ ?_)))
          rw [nI_clamp (by omega), hval, n3 j hj]
          rw [n3 j hj] at hyj
          rw [lI_div (by omega) (by omega), Int.mul_tdiv_cancel_left _ n1]
      · obtain ⟨g1, g2, g3⟩ := hI
        show kok (bX6_makeBase_155 N (lI D) (lI (g6 y : Int)) (nI 6) σ6) _
        unfold bX6_makeBase_155
        exact kok_t (nI_le (a := 6) (by omega) (by omega)) (kok_some ⟨fun j hj => by rw [g1 j hj, if_pos hj], g2, g3⟩)
    · obtain ⟨g1, g2, g3⟩ := h6
      unfold jX6_makeBase_213
      refine kok_some ⟨⟨x, n4, g1⟩, ?_, g3.tr ⟨fun i hi => ?_, fun _ _ => rfl, rfl, fun _ _ _ => rfl, fun _ _ => rfl⟩⟩
      · rw [piI, if_pos rfl, g2]; exact nI_1 fr
      · rw [piI, if_neg hi]
