/-! One step of the reduction: rows exchanged, a column cleared; how large the numbers get; the end: a vector of the kernel for each dependent column; and that all this is unique. -/
def ksw (R : Nat → Nat → Int) (k r : Nat) : Nat → Nat → Int := fun i => if i = k then R r else if i = r then R k else R i
theorem kx_swap {h k r : Nat} {a : Nat → Nat → Int} {le : Nat → Nat} {B R : Nat → Nat → Int} {s p : Int} (hS : kx_st h k a le B s p R) (hkr : k ≤ r) (hr : r < h) : ∃ B' s', kx_st h k a le B' s' p (ksw R k r) := by
  obtain ⟨hk, hh, hs, hp, hp0, hR, hB, hle⟩ := hS
  by_cases e : r = k
  · subst e
    have e2 : ksw R r r = R := by
      funext i
      unfold ksw
      by_cases h1 : i = r
      · simp [h1]
      · simp [h1]
    rw [e2]
    exact ⟨B, s, hk, hh, hs, hp, hp0, hR, hB, hle⟩
  · have hk5 : k < 5 := by omega
    have hr5 : r < 5 := by omega
    have key : ∀ x y, dt (bu (bu B k x) r y) = - dt (bu (bu B k y) r x) := fun x y => dt_swap B hk5 hr5 (Ne.symm e) x y
    have e0 : dt (bu (bu B k (B r)) r (B k)) = - dt B := by
      rw [key (B r) (B k)]
      rw [bu_self, bu_self]
    refine ⟨bu (bu B k (B r)) r (B k), -s, hk, hh, by omega, by rw [e0, hp]; grind, hp0, fun i hi j hj => ?_, ⟨fun m hm => ?_, fun m hm hm5 => ?_⟩, hle⟩
    · by_cases h1 : i = k
      · subst h1
        have e1 : bu (bu (bu B i (B r)) r (B i)) i (a j) = bu (bu B i (a j)) r (B i) := by
          rw [bu_comm _ _ _ (show r ≠ i from e), bu_bu]
        unfold ksw
        rw [if_pos rfl, e1, key (a j) (B i), bu_self, hR r hr5 j hj]
        grind
      · by_cases h2 : i = r
        · subst h2
          unfold ksw
          rw [if_neg h1, if_pos rfl, bu_bu, key (B i) (a j)]
          have e3 : bu (bu B k (a j)) i (B i) = bu B k (a j) := by
            rw [bu_comm _ _ _ (Ne.symm h1), bu_self]
          rw [e3, hR k hk5 j hj]
          grind
        · unfold ksw
          rw [if_neg h1, if_neg h2, hR i hi j hj]
          have e4 : dt (bu (bu (bu B k (B r)) r (B k)) i (a j)) = - dt (bu B i (a j)) := by
            rw [bu_comm _ _ _ (Ne.symm h2), bu_comm B _ _ (Ne.symm h1), dt_swap _ hk5 hr5 (Ne.symm e)]
            have e5 : bu (bu (bu B i (a j)) k (B k)) r (B r) = bu B i (a j) := by
              have f1 : bu (bu B i (a j)) k (B k) = bu B i (a j) := by
                rw [bu_comm _ _ _ h1, bu_self]
              rw [f1, bu_comm _ _ _ h2, bu_self]
            rw [e5]
          rw [e4]
          grind
    · rw [bu_ne _ _ (by omega), bu_ne _ _ (by omega)]
      exact hB.1 m hm
    · by_cases h1 : m = r
      · subst h1
        rw [bu_at]
        obtain ⟨q, e1, e2, e3⟩ := hB.2 k (Nat.le_refl _) hk5
        exact ⟨q, e1, fun _ => e2 (by omega), fun h9 => absurd hr (by omega)⟩
      · rw [bu_ne _ _ h1]
        by_cases h2 : m = k
        · subst h2
          rw [bu_at]
          obtain ⟨q, e1, e2, e3⟩ := hB.2 r hkr hr5
          exact ⟨q, e1, fun _ => e2 hr, fun h9 => by omega⟩
        · rw [bu_ne _ _ h2]
          exact hB.2 m hm hm5
/-- the column c cleared by row k: every division is exact -/
theorem kx_clear {h k c : Nat} {a : Nat → Nat → Int} {le : Nat → Nat} {B R : Nat → Nat → Int} {s p : Int} (hS : kx_st h k a le B s p R) (hk : k < h) (hc : c < 6) (h0 : R k c ≠ 0) :
    ∃ R', kx_st h (k + 1) a (fun m => if m = k then c else le m) (bu B k (a c)) s (R k c) R' ∧ (∀ j, j < 6 → R' k j = R k j) ∧ ∀ i, i < 5 → i ≠ k → ∀ j, j < 6 → R k c * R i j - R i c * R k j = p * R' i j := by
  obtain ⟨hk2, hh, hs, hp, hp0, hR, hB, hle⟩ := hS
  have hk5 : k < 5 := by omega
  have hss : s * s = 1 := by rcases hs with e | e <;> rw [e] <;> rfl
  refine ⟨fun i j => s * dt (bu (bu B k (a c)) i (a j)), ⟨by omega, hh, hs, hR k hk5 c hc, h0, fun i hi j hj => rfl, ⟨fun m hm => ?_, fun m hm hm5 => ?_⟩, fun m hm => ?_⟩, fun j hj => ?_, fun i hi hik j hj => ?_⟩
  · show _ = a (if m = k then c else le m)
    by_cases h1 : m = k
    · subst h1
      rw [bu_at, if_pos rfl]
    · rw [bu_ne _ _ h1, if_neg h1]
      exact hB.1 m (by omega)
  · rw [bu_ne _ _ (by omega)]
    exact hB.2 m (by omega) hm5
  · by_cases h1 : m = k
    · simp only [h1, if_true]; exact hc
    · simp only [h1, if_false]
      exact hle m (by omega)
  · show s * dt (bu (bu B k (a c)) k (a j)) = _
    rw [bu_bu, hR k hk5 j hj]
  · have h1 := dt_pl B hi hk5 hik (a c) (a j)
    show R k c * R i j - R i c * R k j = p * (s * dt (bu (bu B k (a c)) i (a j)))
    rw [hR k hk5 c hc, hR i hi j hj, hR i hi c hc, hR k hk5 j hj, hp]
    grind
theorem kx_ev (q t : Nat) : (ev q t).natAbs ≤ 1 := by
  unfold ev
  by_cases h : t = q
  · rw [if_pos h]; decide
  · rw [if_neg h]; decide
theorem kx_pw {k : Nat} {b : Nat → Nat} (n : Nat) (hb : ∀ m, m < 5 → b m = 1 ∨ b m = 40) (hn : (if b 0 = 40 then 1 else 0) + (if b 1 = 40 then 1 else 0) + (if b 2 = 40 then 1 else 0) + (if b 3 = 40 then 1 else 0) + (if b 4 = 40 then 1 else 0) = n) (hk : n ≤ k) : 120 * (b 0 * (b 1 * (b 2 * (b 3 * b 4)))) ≤ 120 * 40 ^ k := by
  refine Nat.mul_le_mul_left 120 (Nat.le_trans (Nat.le_of_eq ?_) (Nat.pow_le_pow_right (by decide) hk))
  subst hn
  rcases hb 0 (by decide) with h0 | h0 <;> rcases hb 1 (by decide) with h1 | h1 <;> rcases hb 2 (by decide) with h2 | h2 <;> rcases hb 3 (by decide) with h3 | h3 <;> rcases hb 4 (by decide) with h4 | h4 <;> rw [h0, h1, h2, h3, h4] <;> rfl
/-- a family of at most k columns, the rest unit vectors -/
theorem kx_bd {k n : Nat} {B : Nat → Nat → Int} {b : Nat → Nat} (hB : ∀ m, m < 5 → ∀ t, t < 5 → (B m t).natAbs ≤ b m) (hb : ∀ m, m < 5 → b m = 1 ∨ b m = 40) (hn : (if b 0 = 40 then 1 else 0) + (if b 1 = 40 then 1 else 0) + (if b 2 = 40 then 1 else 0) + (if b 3 = 40 then 1 else 0) + (if b 4 = 40 then 1 else 0) = n) (hk : n ≤ k) : (dt B).natAbs ≤ 120 * 40 ^ k :=
  Nat.le_trans (dt_bd hB) (kx_pw n hb hn hk)
theorem kx_sgn {s x : Int} (hs : s = 1 ∨ s = -1) : (s * x).natAbs = x.natAbs := by
  rcases hs with e | e <;> rw [e] <;> omega
theorem kx_bdp {h k : Nat} {a : Nat → Nat → Int} {le : Nat → Nat} {B R : Nat → Nat → Int} {s p : Int} (ha : kx_in h a) (hS : kx_st h k a le B s p R) : p.natAbs ≤ 120 * 40 ^ k := by
  obtain ⟨hk2, hh, hs, hp, hp0, hR, hB, hle⟩ := hS
  rw [hp, kx_sgn hs]
  refine kx_bd (b := fun m => if m < k then 40 else 1) (n := k) (fun m hm t ht => ?_) (fun m hm => ?_) ?_ (Nat.le_refl _)
  · by_cases hmk : m < k
    · simp only [hmk, if_true]; rw [hB.1 m hmk]; exact ha.2 _ (hle m hmk) t ht
    · simp only [hmk, if_false]
      obtain ⟨q, e, -⟩ := hB.2 m (by omega) hm
      rw [e]; exact kx_ev q t
  · by_cases hmk : m < k
    · simp [hmk]
    · simp [hmk]
  · rcases (show k = 0 ∨ k = 1 ∨ k = 2 ∨ k = 3 ∨ k = 4 ∨ k = 5 by omega) with rfl | rfl | rfl | rfl | rfl | rfl <;> rfl
theorem kx_bdR {h k : Nat} {a : Nat → Nat → Int} {le : Nat → Nat} {B R : Nat → Nat → Int} {s p : Int} (ha : kx_in h a) (hS : kx_st h k a le B s p R) {i j : Nat} (hi : i < 5) (hj : j < 6) : (R i j).natAbs ≤ 120 * 40 ^ (if i < k then k else k + 1) := by
  obtain ⟨hk2, hh, hs, hp, hp0, hR, hB, hle⟩ := hS
  rw [hR i hi j hj, kx_sgn hs]
  refine kx_bd (b := fun m => if m = i ∨ m < k then 40 else 1) (n := if i < k then k else k + 1) (fun m hm t ht => ?_) (fun m hm => ?_) ?_ (Nat.le_refl _)
  · by_cases hmi : m = i
    · subst hmi
      simp only [true_or, if_true]
      rw [bu_at]; exact ha.2 j hj t ht
    · rw [bu_ne _ _ hmi]
      by_cases hmk : m < k
      · simp only [hmk, or_true, if_true]; rw [hB.1 m hmk]; exact ha.2 _ (hle m hmk) t ht
      · simp only [hmi, hmk, or_false, if_false]
        obtain ⟨q, e, -⟩ := hB.2 m (by omega) hm
        rw [e]; exact kx_ev q t
  · by_cases h9 : m = i ∨ m < k
    · simp [h9]
    · simp [h9]
  · rcases (show k = 0 ∨ k = 1 ∨ k = 2 ∨ k = 3 ∨ k = 4 ∨ k = 5 by omega) with rfl | rfl | rfl | rfl | rfl | rfl <;> rcases lt5 hi with rfl | rfl | rfl | rfl | rfl <;> rfl
/-- leading columns are those that the list has -/
def kx_ll (c k : Nat) (le : Nat → Nat) (ld : Nat → Prop) : Prop := (∀ m, m < k → le m < c ∧ ld (le m)) ∧ (∀ l, l < c → ld l → ∃ m, m < k ∧ le m = l) ∧ ∀ m m', m < k → m' < k → le m = le m' → m = m'
theorem kx_isdep {h k c : Nat} {a : Nat → Nat → Int} {le : Nat → Nat} {ld : Nat → Prop} {B R : Nat → Nat → Int} {s p : Int} (ha : kx_in h a) (hS : kx_st h k a le B s p R) (hl : kx_ll c k le ld) (hc : c < 6) (h0 : ∀ i, k ≤ i → i < h → R i c = 0) : kx_dep a ld c := by
  obtain ⟨hk2, hh, hs, hp, hp0, hR, hB, hle⟩ := hS
  have hs0 : s ≠ 0 := by rcases hs with e | e <;> rw [e] <;> decide
  have hz : ∀ i, k ≤ i → i < 5 → dt (bu B i (a c)) = 0 := fun i hi hi5 => by
    by_cases hih : i < h
    · have := h0 i hi hih
      rw [hR i hi5 c hc] at this
      rcases Int.mul_eq_zero.mp this with e | e
      · exact absurd e hs0
      · exact e
    · exact kx_high ha hB hle hk2 (by omega) hi5 hc
  have hne : ∀ m, m < k → le m ≠ c := fun m hm e => by
    have := (hl.1 m hm).1
    omega
  -- the vector
  refine ⟨fun j => if j = c then dt B else if 0 < k ∧ j = le 0 then - dt (bu B 0 (a c)) else if 1 < k ∧ j = le 1 then - dt (bu B 1 (a c)) else if 2 < k ∧ j = le 2 then - dt (bu B 2 (a c)) else if 3 < k ∧ j = le 3 then - dt (bu B 3 (a c)) else if 4 < k ∧ j = le 4 then - dt (bu B 4 (a c)) else 0, ?_, fun j hj hx => ?_, ?_⟩
  · simp only [if_true]
    exact kx_dtne hp hp0
  · by_cases h1 : j = c
    · exact Or.inl h1
    · right
      simp only [h1, if_false] at hx
      by_cases g0 : 0 < k ∧ j = le 0
      · rw [g0.2]; exact hl.1 0 g0.1
      · by_cases g1 : 1 < k ∧ j = le 1
        · rw [g1.2]; exact hl.1 1 g1.1
        · by_cases g2 : 2 < k ∧ j = le 2
          · rw [g2.2]; exact hl.1 2 g2.1
          · by_cases g3 : 3 < k ∧ j = le 3
            · rw [g3.2]; exact hl.1 3 g3.1
            · by_cases g4 : 4 < k ∧ j = le 4
              · rw [g4.2]; exact hl.1 4 g4.1
              · simp only [g0, g1, g2, g3, g4, if_false] at hx
                exact absurd rfl hx
  · refine kx_ker_of hc (by omega) hB.1 hle hl.2.2 hne hz (by simp only [if_true]) (fun m hm => ?_) (fun j hj hjc hjm => ?_)
    · have hinj := hl.2.2
      have hmne : ∀ m', m' < k → m' ≠ m → (le m = le m') = False := fun m' hm' e => eq_false (fun e2 => e (hinj m' m hm' hm e2.symm))
      simp only [hne m hm, if_false]
      rcases (show m = 0 ∨ m = 1 ∨ m = 2 ∨ m = 3 ∨ m = 4 by omega) with rfl | rfl | rfl | rfl | rfl
      · simp [hm]
      · simp [hm, hmne 0 (by omega) (by decide)]
      · simp [hm, hmne 0 (by omega) (by decide), hmne 1 (by omega) (by decide)]
      · simp [hm, hmne 0 (by omega) (by decide), hmne 1 (by omega) (by decide), hmne 2 (by omega) (by decide)]
      · simp [hm, hmne 0 (by omega) (by decide), hmne 1 (by omega) (by decide), hmne 2 (by omega) (by decide), hmne 3 (by omega) (by decide)]
    · have g : ∀ m, ¬ (m < k ∧ j = le m) := fun m ⟨h1, h2⟩ => hjm m h1 h2.symm
      simp only [hjc, g, if_false]
theorem kx_islead {h k c r : Nat} {a : Nat → Nat → Int} {le : Nat → Nat} {ld : Nat → Prop} {B R : Nat → Nat → Int} {s p : Int} (hS : kx_st h k a le B s p R) (hl : kx_ll c k le ld) (hc : c < 6) (hkr : k ≤ r) (hr : r < h) (h0 : R r c ≠ 0) : ¬ kx_dep a ld c := by
  obtain ⟨hk2, hh, hs, hp, hp0, hR, hB, hle⟩ := hS
  intro ⟨x, hx0, hxs, hxk⟩
  refine h0 ?_
  rw [hR r (by omega) c hc, kx_out hc hx0 hxs hxk (by omega) (fun j hj hlj => ?_), Int.mul_zero]
  obtain ⟨m, hm, e⟩ := hl.2.1 j hj hlj
  exact ⟨m, by omega, by omega, by rw [hB.1 m hm, e]⟩
