/-! The two readers side by side: characters, blanks, numbers. -/
theorem pi_self {σ : vS} {k : Nat} {v : Int32} (h : σ.1 k = v) : p_i σ k v = σ := by
  show (upd σ.1 k v, σ.2.1, σ.2.2.1, σ.2.2.2) = σ
  have e : upd σ.1 k v = σ.1 := by
    funext j
    unfold upd
    by_cases hj : j = k
    · rw [if_pos hj, hj, h]
    · rw [if_neg hj]
  rw [e]
theorem pi_pi (σ : vS) (k : Nat) (v v' : Int32) : p_i (p_i σ k v) k v' = p_i σ k v' := by
  show (upd (upd σ.1 k v) k v', σ.2.1, σ.2.2.1, σ.2.2.2) = (upd σ.1 k v', σ.2.1, σ.2.2.1, σ.2.2.2)
  have e : upd (upd σ.1 k v) k v' = upd σ.1 k v' := by
    funext j
    unfold upd
    by_cases hj : j = k
    · rw [if_pos hj, if_pos hj]
    · rw [if_neg hj, if_neg hj, if_neg hj]
  rw [e]
theorem pi_at (σ : vS) (k : Nat) (v : Int32) : (p_i σ k v).1 k = v := by rw [piI, if_pos rfl]
theorem k_itr_1 {S R : Type} {body : S → Option (S ⊕ R)} {s : S} {r : R} (h : body s = some (.inr r)) : ∀ n, 0 < n → k_itr body n s = some r := by
  intro n hn
  cases n with
  | zero => omega
  | succ n => simp only [k_itr, h]
theorem k_itr_s {S R : Type} {body : S → Option (S ⊕ R)} {s t : S} (h : body s = some (.inl t)) (n : Nat) : k_itr body (n + 1) s = k_itr body n t := by simp only [k_itr, h]
/-- loops of both, step by step; the first may end earlier -/
theorem kk_itr {S R S' R' : Type} {bK : S → Option (S ⊕ R)} {bM : S' → Option (S' ⊕ R')} (I : Nat → S → S' → Prop) (Q : R → R' → Prop)
    (h : ∀ v s s', I v s s' → (∃ t t' v', bK s = some (.inl t) ∧ bM s' = some (.inl t') ∧ v' < v ∧ I v' t t') ∨ ∃ r r', bK s = some (.inr r) ∧ (∀ n, 2 < n → k_itr bM n s' = some r') ∧ Q r r') :
    ∀ n m v s s', v < n → v + 3 < m → I v s s' → ∃ r r', k_itr bK n s = some r ∧ k_itr bM m s' = some r' ∧ Q r r' := by
  intro n
  induction n with
  | zero => intro m v s s' h1; omega
  | succ n ih =>
    intro m v s s' h1 h2 hI
    rcases h v s s' hI with ⟨t, t', v', e1, e2, hv, hI'⟩ | ⟨r, r', e1, e2, hQ⟩
    · cases m with
      | zero => omega
      | succ m =>
        obtain ⟨r, r', g1, g2, hQ⟩ := ih m v' t t' (by omega) (by omega) hI'
        exact ⟨r, r', by rw [k_itr_s e1]; exact g1, by rw [k_itr_s e2]; exact g2, hQ⟩
    · exact ⟨r, r', k_itr_1 e1 _ (by omega), e2 m (by omega), hQ⟩
/-- the text that is read -/
def kTx (σK σM : vS) (L : Nat) (c : Nat → Nat) : Prop := L ≤ 100 ∧ (∀ q, q < L → 32 ≤ c q ∧ c q ≤ 126) ∧ (∀ q, L ≤ q → c q = 0) ∧ σK.1 0 = nI L ∧ (∀ q, q < L → σK.2.1 0 q = nI (c q)) ∧ σM.1 2 = nI L ∧ ∀ q, q < L → σM.2.1 1 q = nI (c q)
theorem kTx.fr {σK σM σK' σM' : vS} {L : Nat} {c : Nat → Nat} (h : kTx σK σM L c) (h1 : σK'.1 0 = σK.1 0) (h2 : σK'.2.1 0 = σK.2.1 0) (h3 : σM'.1 2 = σM.1 2) (h4 : σM'.2.1 1 = σM.2.1 1) : kTx σK' σM' L c := by
  obtain ⟨a1, a2, a3, a4, a5, a6, a7⟩ := h
  exact ⟨a1, a2, a3, h1.trans a4, fun q hq => by rw [h2]; exact a5 q hq, h3.trans a6, fun q hq => by rw [h4]; exact a7 q hq⟩
theorem kTx.b {σK σM : vS} {L : Nat} {c : Nat → Nat} (h : kTx σK σM L c) (q : Nat) : c q ≤ 126 := by
  by_cases hq : q < L
  · exact (h.2.1 q hq).2
  · rw [h.2.2.1 q (by omega)]; omega
theorem kTx.p {σK σM : vS} {L : Nat} {c : Nat → Nat} (h : kTx σK σM L c) {q : Nat} (hq : c q ≠ 0) : q < L := by
  by_cases h1 : q < L
  · exact h1
  · exact absurd (h.2.2.1 q (by omega)) hq
theorem nI_char : ∀ n, n < 127 → (nI n).toUInt32.toUInt16.toUInt32.toInt32 = nI n := by decide +kernel
theorem k_here {N : Nat} {σK σM : vS} {L p : Nat} {c : Nat → Nat} (h : kTx σK σM L c) (hp : σK.1 1 = nI p) (hp9 : p < 1000) : fX4_here N σK = some (nI (c p)) := by
  obtain ⟨a1, a2, a3, a4, a5, a6, a7⟩ := h
  unfold fX4_here
  rw [hp, a4, if_neg (nI_pos (by omega))]
  by_cases hq : p < L
  · rw [if_neg (nI_ge hq (by omega)), if_neg (nI_in (by omega) (by omega)), nI_clamp (by omega), a5 p hq, if_neg (fun e => e (nI_char _ (by have := (a2 p hq).2; omega)))]
  · rw [if_pos (nI_le (by omega) (by omega)), a3 p (by omega)]; rfl
theorem k_ahead {N : Nat} {σK σM : vS} {L p : Nat} {c : Nat → Nat} (h : kTx σK σM L c) (hp : σK.1 1 = nI p) (hp9 : p < 1000) (k : Nat) (hk : k < 1000) : fX4_ahead N σK (nI k) = some (nI (c (p + k))) := by
  obtain ⟨a1, a2, a3, a4, a5, a6, a7⟩ := h
  unfold fX4_ahead
  rw [hp, k_lt_e, nI_add, a4, if_neg (nI_pos (by omega))]
  by_cases hq : p + k < L
  · rw [if_neg (nI_ge hq (by omega)), if_neg (nI_in (by omega) (by omega)), nI_clamp (by omega), a5 (p + k) hq, if_neg (fun e => e (nI_char _ (by have := (a2 (p + k) hq).2; omega)))]
  · rw [if_pos (nI_le (by omega) (by omega)), a3 (p + k) (by omega)]; rfl
theorem k_charAt {N : Nat} {σK σM : vS} {L p : Nat} {c : Nat → Nat} (h : kTx σK σM L c) (hp9 : p < 1000) : fX6_charAt N σM (nI p) = some (nI (c p)) := by
  obtain ⟨a1, a2, a3, a4, a5, a6, a7⟩ := h
  unfold fX6_charAt
  rw [a6]
  by_cases hq : p < L
  · rw [if_neg (nI_ge hq (by omega)), if_neg (nI_in (by omega) (by omega)), nI_clamp (by omega), a7 p hq, if_neg (fun e => e (nI_char _ (by have := (a2 p hq).2; omega)))]
  · rw [if_pos (nI_le (by omega) (by omega)), a3 p (by omega)]; rfl
theorem nI_lit {c k : Nat} (hc : c ≤ 126) (hk : k < 1000) : (nI c = nI k) ↔ c = k := nI_eq (by omega) (by omega)
theorem nlN {c : Nat} (k : Nat) (x : Int32) (hx : x = nI k) (hc : c ≤ 126) (hk : k < 1000) (h : c ≠ k) : ¬ nI c = x := by rw [hx]; exact fun e => h ((nI_lit hc hk).mp e)
theorem nlE {c : Nat} (k : Nat) (x : Int32) (hx : x = nI k) (h : c = k) : nI c = x := by rw [hx, h]
theorem nlLt {c : Nat} (k : Nat) (x : Int32) (hx : x = nI k) (hk : k < 1000) (h : c < k) : nI c < x := by rw [hx]; exact nI_lt h (by omega)
theorem nlNl {c : Nat} (k : Nat) (x : Int32) (hx : x = nI k) (hc : c < 1000) (h : k ≤ c) : ¬ nI c < x := by rw [hx]; exact nI_nlt h (by omega)
theorem nlGt {c : Nat} (k : Nat) (x : Int32) (hx : x = nI k) (hc : c < 1000) (h : k < c) : x < nI c := by rw [hx]; exact nI_lt h (by omega)
theorem nlNg {c : Nat} (k : Nat) (x : Int32) (hx : x = nI k) (hk : k < 1000) (h : c ≤ k) : ¬ x < nI c := by rw [hx]; exact nI_nlt h (by omega)
theorem k_skip {N : Nat} {σK σM : vS} {L p : Nat} {c : Nat → Nat} (hN : 300 < N) (h : kTx σK σM L c) (hpL : p ≤ L) (hK : σK.1 1 = nI p) (hM : σM.1 3 = nI p) : ∃ e, p ≤ e ∧ e ≤ L ∧ c e ≠ 32 ∧ fX4_skipBlanks N σK = some (p_i σK 1 (nI e)) ∧ fX6_skip N σM = some (p_i σM 3 (nI e)) := by
  have hL := h.1
  have main : ∃ r r', k_itr (fun zz => bX4_skipBlanks_0 N zz) N σK = some r ∧ k_itr (fun zz => bX6_skip_0 N zz) N σM = some r' ∧ ∃ e, p ≤ e ∧ e ≤ L ∧ c e ≠ 32 ∧ r = p_i σK 1 (nI e) ∧ r' = p_i σM 3 (nI e) := by
    refine kk_itr (fun v s s' => ∃ e, p ≤ e ∧ e ≤ L ∧ v = L - e ∧ s = p_i σK 1 (nI e) ∧ s' = p_i σM 3 (nI e)) _ (fun v s s' hI => ?_) N N (L - p) _ _ (by omega) (by omega) ⟨p, Nat.le_refl _, hpL, rfl, (pi_self hK).symm, (pi_self hM).symm⟩
    obtain ⟨e, h1, h2, rfl, rfl, rfl⟩ := hI
    have hT : kTx (p_i σK 1 (nI e)) (p_i σM 3 (nI e)) L c := h.fr rfl rfl rfl rfl
    have hca := k_charAt (N := N) (p := e) hT (by omega)
    by_cases hb : c e = 32
    · have heL : e < L := h.p (by omega)
      left
      refine ⟨p_i σK 1 (nI (e + 1)), p_i σM 3 (nI (e + 1)), L - (e + 1), ?_, ?_, by omega, e + 1, by omega, by omega, rfl, rfl, rfl⟩
      · show bX4_skipBlanks_0 N (p_i σK 1 (nI e)) = _
        unfold bX4_skipBlanks_0
        rw [pi_at, hT.2.2.2.1, if_neg (nI_ge heL (by omega)), if_neg (nI_in (by omega) (by omega)), nI_clamp (by omega), hT.2.2.2.2.1 e heL, if_pos (nlE 32 32 rfl hb), pi_pi, nI_1]
      · show bX6_skip_0 N (p_i σM 3 (nI e)) = _
        unfold bX6_skip_0
        rw [pi_at, hca, bd1_s, if_pos (nlE 32 32 rfl hb), pi_pi, nI_1]
    · right
      refine ⟨_, _, ?_, (fun n hn => k_itr_1 (r := p_i σM 3 (nI e)) ?_ n (by omega)), e, h1, h2, hb, rfl, rfl⟩
      · show bX4_skipBlanks_0 N (p_i σK 1 (nI e)) = _
        unfold bX4_skipBlanks_0
        rw [pi_at, hT.2.2.2.1]
        by_cases heL : e < L
        · rw [if_neg (nI_ge heL (by omega)), if_neg (nI_in (by omega) (by omega)), nI_clamp (by omega), hT.2.2.2.2.1 e heL, if_neg (nlN 32 32 rfl (h.b e) (by omega) hb)]
        · rw [if_pos (nI_le (by omega) (by omega))]
      · show bX6_skip_0 N (p_i σM 3 (nI e)) = _
        unfold bX6_skip_0
        rw [pi_at, hca, bd1_s, if_neg (nlN 32 32 rfl (h.b e) (by omega) hb)]
  obtain ⟨r, r', e1, e2, e, h1, h2, h3, rfl, rfl⟩ := main
  refine ⟨e, h1, h2, h3, ?_, ?_⟩
  · unfold fX4_skipBlanks; rw [e1]; rfl
  · unfold fX6_skip; rw [e2]; rfl
theorem k_dig (c : Nat) (hc : c ≤ 126) (N : Nat) (σ : vS) : fX5_isDigit N σ (nI c) = some (if 48 ≤ c ∧ c ≤ 57 then 1 else 0) ∧ fX6_isDigit N σ (nI c) = some (if 48 ≤ c ∧ c ≤ 57 then 1 else 0) := by
  have main : (if nI c < 48 then some (0 : Int32) else if 57 < nI c then some 0 else some 1) = some (if 48 ≤ c ∧ c ≤ 57 then 1 else 0) := by
    by_cases h1 : c < 48
    · rw [if_pos (nlLt 48 48 rfl (by omega) h1), if_neg (by omega)]
    · rw [if_neg (nlNl 48 48 rfl (by omega) (show 48 ≤ c by omega))]
      by_cases h2 : 57 < c
      · rw [if_pos (nlGt 57 57 rfl (by omega) h2), if_neg (by omega)]
      · rw [if_neg (nlNg 57 57 rfl (by omega) (show c ≤ 57 by omega)), if_pos (by omega)]
  exact ⟨main, main⟩
