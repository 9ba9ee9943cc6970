/-! The reference's determinants: a set of rows as a number below 32, its rows first and then the others. -/
def qb (m i : Nat) : Nat := m / 2 ^ i % 2
def ps (m : Nat) : Nat → Nat
  | 0 => 0
  | r + 1 => ps m r + qb m r
def ql (m : Nat) : List Nat := (List.range 5).filter (fun i => qb m i == 1) ++ (List.range 5).filter (fun i => qb m i != 1)
def qp (m i : Nat) : Nat := (ql m).getD i 0
def qE (m : Nat) : Nat → Nat → Int := fun i => ev (qp m i)
def qs (m : Nat) : Int := dt (qE m)
theorem qs_1 : ∀ m, m < 32 → qs m = 1 ∨ qs m = -1 := by decide +kernel
theorem qp_lt : ∀ m, m < 32 → ∀ i, i < 5 → qp m i < 5 := by decide +kernel
theorem qp_inj : ∀ m, m < 32 → ∀ i, i < 5 → ∀ j, j < 5 → qp m i = qp m j → i = j := by decide +kernel
theorem qp_ps : ∀ m, m < 32 → ∀ r, r < 5 → qb m r = 1 → qp m (ps m r) = r := by decide +kernel
theorem qp_hi : ∀ h, h < 6 → ∀ m, m < 2 ^ h → ∀ i, i < ps m 5 → qp m i < h := by decide +kernel
theorem ps_le : ∀ m, m < 32 → ps m 5 ≤ 5 := by decide +kernel
theorem ps_mono : ∀ m, m < 32 → ∀ r, r < 6 → ps m r ≤ ps m 5 := by decide +kernel
theorem qb_01 (m r : Nat) : qb m r = 0 ∨ qb m r = 1 := by unfold qb; omega
theorem qp_e1 : ∀ h, h < 6 → ∀ T, T < 2 ^ h → ∀ i, i < 5 → (ps T 5 ≤ i ∧ qp T i < h) → (T + 2 ^ (qp T i) < 2 ^ h ∧ ps (T + 2 ^ (qp T i)) 5 = ps T 5 + 1) := by decide +kernel
theorem qp_e2 : ∀ T, T < 32 → ∀ i, i < 5 → ps T 5 ≤ i → ∀ j, j < 5 → ps T 5 + 1 ≤ j → qp (T + 2 ^ (qp T i)) j = if j ≤ i then qp T (j - 1) else qp T j := by decide +kernel
theorem two_h {h m : Nat} (hh : h ≤ 5) (hm : m < 2 ^ h) : m < 32 := by
  rcases (show h = 0 ∨ h = 1 ∨ h = 2 ∨ h = 3 ∨ h = 4 ∨ h = 5 by omega) with rfl | rfl | rfl | rfl | rfl | rfl <;> omega
theorem dt_E {m i : Nat} (hm : m < 32) (hi : i < 5) (y : Nat → Int) : dt (bu (qE m) i y) = qs m * y (qp m i) := by
  have h1 := dt_cr (qE m) y (qp_lt m hm i hi)
  rw [s5_one hi (fun j hj hji => ?_)] at h1
  · have e : qE m i (qp m i) = 1 := by show ev _ _ = 1; unfold ev; rw [if_pos rfl]
    rw [e, Int.mul_one] at h1
    exact h1.symm
  · have e : qE m j (qp m i) = 0 := by
      show ev _ _ = 0
      unfold ev
      rw [if_neg (fun e9 => hji (qp_inj m hm j hj i hi e9.symm))]
    rw [e, Int.mul_zero]
/-- columns c 0 .. c (n-1), then the units of the rows outside of m -/
def mf (n : Nat) (c : Nat → Nat → Int) (E : Nat → Nat → Int) : Nat → Nat → Int := fun i => if i < n then c i else E i
def kd_st (n p : Nat) (c E B : Nat → Nat → Int) (s pv : Int) (R : Nat → Nat → Int) : Prop :=
  (s = 1 ∨ s = -1) ∧ pv = s * dt B ∧ pv ≠ 0 ∧ (∀ i, i < 5 → ∀ j, j < n → R i j = s * dt (bu B i (c j))) ∧ (∀ m, m < p → B m = c m) ∧ (∀ m, n ≤ m → m < 5 → B m = E m) ∧ ∀ m, p ≤ m → m < 5 → ∃ q, B m = ev q
theorem kd_swap {n p r : Nat} {c E B R : Nat → Nat → Int} {s pv : Int} (hS : kd_st n p c E B s pv R) (hn : n ≤ 5) (hpr : p < r) (hr : r < n) : ∃ B', kd_st n p c E B' (-s) pv (ksw R p r) := by
  obtain ⟨hs, hp, hp0, hR, hB, hE, hq⟩ := hS
  have hp5 : p < 5 := by omega
  have hr5 : r < 5 := by omega
  have e : r ≠ p := by omega
  have key : ∀ x y, dt (bu (bu B p x) r y) = - dt (bu (bu B p y) r x) := fun x y => dt_swap B hp5 hr5 (Ne.symm e) x y
  have e0 : dt (bu (bu B p (B r)) r (B p)) = - dt B := by
    rw [key (B r) (B p)]
    rw [bu_self, bu_self]
  refine ⟨bu (bu B p (B r)) r (B p), by omega, by rw [e0, hp]; grind, hp0, fun i hi j hj => ?_, fun m hm => ?_, fun m hm hm5 => ?_, fun m hm hm5 => ?_⟩
  · by_cases h1 : i = p
    · subst h1
      have e1 : bu (bu (bu B i (B r)) r (B i)) i (c j) = bu (bu B i (c j)) r (B i) := by
        rw [bu_comm _ _ _ (show r ≠ i from e), bu_bu]
      unfold ksw
      rw [if_pos rfl, e1, key (c j) (B i), bu_self, hR r hr5 j hj]
      grind
    · by_cases h2 : i = r
      · subst h2
        unfold ksw
        rw [if_neg h1, if_pos rfl, bu_bu, key (B i) (c j)]
        have e3 : bu (bu B p (c j)) i (B i) = bu B p (c j) := by
          rw [bu_comm _ _ _ (Ne.symm h1), bu_self]
        rw [e3, hR p hp5 j hj]
        grind
      · unfold ksw
        rw [if_neg h1, if_neg h2, hR i hi j hj]
        have e4 : dt (bu (bu (bu B p (B r)) r (B p)) i (c j)) = - dt (bu B i (c j)) := by
          rw [bu_comm _ _ _ (Ne.symm h2), bu_comm B _ _ (Ne.symm h1), dt_swap _ hp5 hr5 (Ne.symm e)]
          have e5 : bu (bu (bu B i (c j)) p (B p)) r (B r) = bu B i (c j) := by
            have f1 : bu (bu B i (c j)) p (B p) = bu B i (c j) := by
              rw [bu_comm _ _ _ h1, bu_self]
            rw [f1, bu_comm _ _ _ h2, bu_self]
          rw [e5]
        rw [e4]
        grind
  · rw [bu_ne _ _ (by omega), bu_ne _ _ (by omega)]
    exact hB m hm
  · rw [bu_ne _ _ (by omega), bu_ne _ _ (by omega)]
    exact hE m hm hm5
  · by_cases h1 : m = r
    · subst h1
      rw [bu_at]
      exact hq p (Nat.le_refl _) hp5
    · rw [bu_ne _ _ h1]
      by_cases h2 : m = p
      · subst h2
        rw [bu_at]
        exact hq r (by omega) hr5
      · rw [bu_ne _ _ h2]
        exact hq m hm hm5
theorem kd_piv {n p : Nat} {c E B R : Nat → Nat → Int} {s pv : Int} (hS : kd_st n p c E B s pv R) (hn : n ≤ 5) (hp : p < n) (h0 : R p p ≠ 0) :
    ∃ R', kd_st n (p + 1) c E (bu B p (c p)) s (R p p) R' ∧ ∀ i, i < 5 → i ≠ p → ∀ j, j < n → R i j * R p p - R i p * R p j = pv * R' i j := by
  obtain ⟨hs, hpv, hp0, hR, hB, hE, hq⟩ := hS
  refine ⟨fun i j => s * dt (bu (bu B p (c p)) i (c j)), ⟨hs, hR p (by omega) p hp, h0, fun i hi j hj => rfl, fun m hm => ?_, fun m hm hm5 => ?_, fun m hm hm5 => ?_⟩, fun i hi hip j hj => ?_⟩
  · by_cases h1 : m = p
    · subst h1; rw [bu_at]
    · rw [bu_ne _ _ h1]; exact hB m (by omega)
  · rw [bu_ne _ _ (by omega)]; exact hE m hm hm5
  · rw [bu_ne _ _ (by omega)]; exact hq m (by omega) hm5
  · have := dt_pl B hi (show p < 5 by omega) hip (c p) (c j)
    rw [hR i hi j hj, hR p (by omega) p hp, hR i hi p hp, hR p (by omega) j hj, hpv]
    rcases hs with rfl | rfl <;> grind
theorem kd_zero {n p : Nat} {c E B R : Nat → Nat → Int} {s pv : Int} (hS : kd_st n p c E B s pv R) (hn : n ≤ 5) (hp : p < n) (h0 : ∀ i, p ≤ i → i < n → R i p = 0) : dt (mf n c E) = 0 := by
  obtain ⟨hs, hpv, hp0, hR, hB, hE, hq⟩ := hS
  have hp5 : p < 5 := by omega
  have hne : dt B ≠ 0 := kx_dtne hpv hp0
  have h1 := dt_cramer B (mf n c E) hp5 (c p)
  have e1 : bu (mf n c E) p (c p) = mf n c E := by
    have := bu_self (mf n c E) p
    rw [show mf n c E p = c p from if_pos hp] at this
    exact this
  have e2 : s5 (fun m => dt (bu B m (c p)) * dt (bu (mf n c E) p (B m))) = 0 := by
    rw [s5_one hp5 (fun m hm hmp => ?_)]
    · have := hR p hp5 p hp
      rw [h0 p (Nat.le_refl _) hp] at this
      have h9 : dt (bu B p (c p)) = 0 := by rcases hs with rfl | rfl <;> omega
      show dt (bu B p (c p)) * _ = 0
      rw [h9, Int.zero_mul]
    · show dt (bu B m (c p)) * dt (bu (mf n c E) p (B m)) = 0
      by_cases h1 : p ≤ m ∧ m < n
      · have := hR m hm p hp
        rw [h0 m h1.1 h1.2] at this
        have h9 : dt (bu B m (c p)) = 0 := by rcases hs with rfl | rfl <;> omega
        rw [h9, Int.zero_mul]
      · have h9 : dt (bu (mf n c E) p (B m)) = 0 := by
          refine dt_same hm hp5 hmp ?_
          rw [bu_ne _ _ hmp, bu_at]
          unfold mf
          by_cases h2 : m < n
          · rw [if_pos h2]; exact (hB m (by omega)).symm
          · rw [if_neg h2]; exact (hE m (by omega) hm).symm
        rw [h9, Int.mul_zero]
  rw [e1, e2] at h1
  rcases Int.mul_eq_zero.mp h1 with h | h
  · exact absurd h hne
  · exact h
theorem kd_end {p : Nat} {c E B R : Nat → Nat → Int} {s pv : Int} (hS : kd_st (p + 1) p c E B s pv R) (hp : p < 5) : R p p = s * dt (mf (p + 1) c E) := by
  obtain ⟨hs, hpv, hp0, hR, hB, hE, hq⟩ := hS
  rw [hR p hp p (by omega)]
  congr 1
  refine dt_congr (fun m hm t ht => ?_)
  unfold mf
  by_cases h1 : m = p
  · subst h1
    rw [bu_at, if_pos (by omega)]
  · rw [bu_ne _ _ h1]
    by_cases h2 : m < p + 1
    · rw [if_pos h2, hB m (by omega)]
    · rw [if_neg h2, hE m (by omega) hm]
theorem kd_bdp {n p : Nat} {c E B R : Nat → Nat → Int} {s pv : Int} (hS : kd_st n p c E B s pv R) (hp : p ≤ 5) (hc : ∀ j, j < p → ∀ t, t < 5 → (c j t).natAbs ≤ 40) : pv.natAbs ≤ 120 * 40 ^ p := by
  obtain ⟨hs, hpv, hp0, hR, hB, hE, hq⟩ := hS
  rw [hpv, kx_sgn hs]
  refine kx_bd (b := fun m => if m < p then 40 else 1) (n := p) (fun m hm t ht => ?_) (fun m hm => ?_) ?_ (Nat.le_refl _)
  · by_cases hmk : m < p
    · simp only [hmk, if_true]; rw [hB m hmk]; exact hc m hmk t ht
    · simp only [hmk, if_false]
      obtain ⟨q, e⟩ := hq m (by omega) hm
      rw [e]; exact kx_ev q t
  · by_cases h9 : m < p
    · simp [h9]
    · simp [h9]
  · rcases (show p = 0 ∨ p = 1 ∨ p = 2 ∨ p = 3 ∨ p = 4 ∨ p = 5 by omega) with rfl | rfl | rfl | rfl | rfl | rfl <;> rfl
theorem kd_bdR {n p : Nat} {c E B R : Nat → Nat → Int} {s pv : Int} (hS : kd_st n p c E B s pv R) (hn : n ≤ 5) (hpn : p ≤ n) (hc : ∀ j, j < n → ∀ t, t < 5 → (c j t).natAbs ≤ 40) {i j : Nat} (hpi : p ≤ i) (hi : i < 5) (hj : j < n) : (R i j).natAbs ≤ 120 * 40 ^ (p + 1) := by
  obtain ⟨hs, hpv, hp0, hR, hB, hE, hq⟩ := hS
  rw [hR i hi j hj, kx_sgn hs]
  refine kx_bd (b := fun m => if m = i ∨ m < p then 40 else 1) (n := if i < p then p else p + 1) (fun m hm t ht => ?_) (fun m hm => ?_) ?_ (by rw [if_neg (by omega)]; exact Nat.le_refl _)
  · by_cases hmi : m = i
    · subst hmi
      simp only [true_or, if_true]
      rw [bu_at]; exact hc j hj t ht
    · rw [bu_ne _ _ hmi]
      by_cases hmk : m < p
      · simp only [hmk, or_true, if_true]; rw [hB m hmk]; exact hc m (by omega) t ht
      · simp only [hmi, hmk, or_false, if_false]
        obtain ⟨q, e⟩ := hq m (by omega) hm
        rw [e]; exact kx_ev q t
  · by_cases h9 : m = i ∨ m < p
    · simp [h9]
    · simp [h9]
  · rcases (show p = 0 ∨ p = 1 ∨ p = 2 ∨ p = 3 ∨ p = 4 by omega) with rfl | rfl | rfl | rfl | rfl <;> rcases lt5 hi with rfl | rfl | rfl | rfl | rfl <;> rfl
theorem kd_start {n m : Nat} {c : Nat → Nat → Int} (hm : m < 32) : kd_st n 0 c (qE m) (qE m) (qs m) 1 (fun i j => c j (qp m i)) ∨ n > 5 := by
  left
  have h1 := qs_1 m hm
  refine ⟨h1, ?_, by decide, fun i hi j hj => ?_, fun k hk => absurd hk (Nat.not_lt_zero _), fun _ _ _ => rfl, fun k _ _ => ⟨qp m k, rfl⟩⟩
  · show 1 = qs m * qs m
    rcases h1 with e | e <;> rw [e] <;> rfl
  · rw [dt_E hm hi]
    show c j (qp m i) = _
    rcases h1 with e | e <;> rw [e] <;> omega
/-- a column put in front of the units -/
theorem dt_rot (B : Nat → Nat → Int) (y : Nat → Int) (i : Nat) (hi : i < 5) : ∀ n k, k + n = i → (dt (fun j => if j < k then B j else if j = k then y else if j ≤ i then B (j - 1) else B j) = 0 → dt (bu B i y) = 0) := by
  intro n
  induction n with
  | zero =>
    intro k hk h
    rw [← h]
    refine dt_congr (fun m _ t _ => ?_)
    unfold bu
    by_cases h1 : m = i
    · rw [if_pos h1, if_neg (by omega), if_pos (by omega)]
    · rw [if_neg h1]
      by_cases h2 : m < k
      · rw [if_pos h2]
      · rw [if_neg h2, if_neg (by omega), if_neg (by omega)]
  | succ n ih =>
    intro k hk h
    refine ih (k + 1) (by omega) ?_
    have h1 := dt_swap (fun j => if j < k then B j else if j = k then y else if j ≤ i then B (j - 1) else B j) (show k < 5 by omega) (show k + 1 < 5 by omega) (by omega) y (B k)
    have e1 : dt (bu (bu (fun j => if j < k then B j else if j = k then y else if j ≤ i then B (j - 1) else B j) k y) (k + 1) (B k)) = 0 := by
      rw [← h]
      refine dt_congr (fun m _ t _ => ?_)
      unfold bu
      by_cases h1 : m = k + 1
      · subst h1
        simp [show k + 1 ≤ i by omega, show ¬ k + 1 < k by omega]
      · by_cases h2 : m = k
        · simp [h2]
        · simp [h1, h2]
    rw [e1] at h1
    have h2 : dt (bu (bu (fun j => if j < k then B j else if j = k then y else if j ≤ i then B (j - 1) else B j) k (B k)) (k + 1) y) = 0 := by omega
    rw [← h2]
    refine dt_congr (fun m _ t _ => ?_)
    unfold bu
    by_cases h1 : m = k + 1
    · subst h1
      simp
    · by_cases h2 : m = k
      · simp [h2]
      · by_cases h3 : m < k
        · simp [h1, h2, h3, show m < k + 1 by omega]
        · simp [h1, h2, h3, show ¬ m < k + 1 by omega]
/-- with every greater set of rows empty, a further column lies among the leads -/
theorem kr_zero {h k f T : Nat} {a : Nat → Nat → Int} {le : Nat → Nat} (hh : h ≤ 5) (ha : kx_in h a) (hT : T < 2 ^ h) (hk : ps T 5 = k) (hf : f < 6) (hle : ∀ m, m < k → le m < 6) (hz : ∀ m, m < 2 ^ h → ps m 5 = k + 1 → dt (mf (k + 1) (fun i => if i = k then a f else a (le i)) (qE m)) = 0) : ∀ i, k ≤ i → i < 5 → dt (bu (mf k (fun i => a (le i)) (qE T)) i (a f)) = 0 := by
  intro i hki hi
  have hT32 := two_h hh hT
  by_cases hq : qp T i < h
  · obtain ⟨h1, h2⟩ := qp_e1 h (by omega) T hT i hi ⟨by omega, hq⟩
    have h3 := qp_e2 T hT32 i hi (by omega)
    have h4 := hz _ h1 (by omega)
    refine dt_rot _ _ i hi (i - k) k (by omega) ?_
    rw [← h4]
    refine dt_congr (fun m hm t _ => ?_)
    by_cases e1 : m < k
    · simp [mf, e1, show m < k + 1 by omega, show m ≠ k by omega]
    · by_cases e2 : m = k
      · simp [mf, e2]
      · have h5 := h3 m hm (by omega)
        simp only [mf, e1, e2, show ¬ m < k + 1 by omega, if_false]
        show _ = ev (qp (T + 2 ^ qp T i) m) t
        rw [h5]
        by_cases e3 : m ≤ i
        · rw [if_pos e3, if_pos e3, if_neg (by omega)]; rfl
        · rw [if_neg e3, if_neg e3]; rfl
  · have h5 := qp_lt T hT32 i hi
    have h1 := dt_cr (mf k (fun i => a (le i)) (qE T)) (a f) h5
    rw [ha.1 f hf _ (by omega) h5, Int.mul_zero, s5_one hi (fun m hm hmi => ?_)] at h1
    · have e : mf k (fun i => a (le i)) (qE T) i (qp T i) = 1 := by
        unfold mf
        rw [if_neg (by omega)]
        show ev _ _ = 1
        unfold ev
        rw [if_pos rfl]
      rw [e, Int.mul_one] at h1
      exact h1.symm
    · have e : mf k (fun i => a (le i)) (qE T) m (qp T i) = 0 := by
        unfold mf
        by_cases e1 : m < k
        · rw [if_pos e1]; exact ha.1 _ (hle m e1) _ (by omega) h5
        · rw [if_neg e1]
          show ev _ _ = 0
          unfold ev
          rw [if_neg (fun e9 => hmi (qp_inj T hT32 m hm i hi e9.symm))]
      rw [e, Int.mul_zero]
