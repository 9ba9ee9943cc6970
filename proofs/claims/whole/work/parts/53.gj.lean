/-! Columns that depend on earlier ones; the state of a reduction without fractions. -/
def ev (i : Nat) : Nat → Int := fun t => if t = i then 1 else 0
def s6 (f : Nat → Int) : Int := s5 f + f 5
theorem s5_congr {f g : Nat → Int} (h : ∀ m, m < 5 → f m = g m) : s5 f = s5 g := by
  unfold s5
  rw [h 0 (by decide), h 1 (by decide), h 2 (by decide), h 3 (by decide), h 4 (by decide)]
theorem lt6 {i : Nat} (h : i < 6) : i = 0 ∨ i = 1 ∨ i = 2 ∨ i = 3 ∨ i = 4 ∨ i = 5 := by omega
theorem s6_one {f : Nat → Int} {i : Nat} (hi : i < 6) (h : ∀ m, m < 6 → m ≠ i → f m = 0) : s6 f = f i := by
  unfold s6 s5
  have h0 := h 0 (by decide)
  have h1 := h 1 (by decide)
  have h2 := h 2 (by decide)
  have h3 := h 3 (by decide)
  have h4 := h 4 (by decide)
  have h5 := h 5 (by decide)
  rcases lt6 hi with rfl | rfl | rfl | rfl | rfl | rfl <;> omega
theorem s6_zero {f : Nat → Int} (h : ∀ m, m < 6 → f m = 0) : s6 f = 0 := by
  rw [s6_one (i := 0) (by decide) (fun m hm _ => h m hm)]
  exact h 0 (by decide)
theorem s6_congr {f g : Nat → Int} (h : ∀ m, m < 6 → f m = g m) : s6 f = s6 g := by
  unfold s6 s5
  rw [h 0 (by decide), h 1 (by decide), h 2 (by decide), h 3 (by decide), h 4 (by decide), h 5 (by decide)]
theorem s6_lin (p q : Int) (f g : Nat → Int) : s6 (fun j => p * f j - q * g j) = p * s6 f - q * s6 g := by
  show p * f 0 - q * g 0 + (p * f 1 - q * g 1) + (p * f 2 - q * g 2) + (p * f 3 - q * g 3) + (p * f 4 - q * g 4) + (p * f 5 - q * g 5) = p * (f 0 + f 1 + f 2 + f 3 + f 4 + f 5) - q * (g 0 + g 1 + g 2 + g 3 + g 4 + g 5)
  grind
theorem dt_sum6 (C : Nat → Nat → Int) {i : Nat} (hi : i < 5) (x : Nat → Int) (a : Nat → Nat → Int) : dt (bu C i (fun t => s6 (fun j => x j * a j t))) = s6 (fun j => x j * dt (bu C i (a j))) := by
  have e : dt (bu C i (fun t => s6 (fun j => x j * a j t))) = dt (bu C i (vl (x 5) (a 5) (fun t => s5 (fun m => x m * a m t)))) := by
    refine dt_congr (fun m _ t _ => ?_)
    by_cases h : m = i
    · subst h
      rw [bu_at, bu_at]
      show s5 (fun m => x m * a m t) + x 5 * a 5 t = x 5 * a 5 t + s5 (fun m => x m * a m t)
      omega
    · rw [bu_ne _ _ h, bu_ne _ _ h]
  rw [e, dt_lin _ hi, dt_sum5 _ hi]
  show _ = s5 (fun j => x j * dt (bu C i (a j))) + x 5 * dt (bu C i (a 5))
  omega
/-- column f is a combination of the earlier leading columns -/
def kx_ker (a : Nat → Nat → Int) (x : Nat → Int) : Prop := ∀ t, t < 5 → s6 (fun j => x j * a j t) = 0
def kx_sup (ld : Nat → Prop) (f : Nat) (x : Nat → Int) : Prop := ∀ j, j < 6 → x j ≠ 0 → j = f ∨ (j < f ∧ ld j)
def kx_dep (a : Nat → Nat → Int) (ld : Nat → Prop) (f : Nat) : Prop := ∃ x : Nat → Int, x f ≠ 0 ∧ kx_sup ld f x ∧ kx_ker a x
theorem kx_ker_dt {a : Nat → Nat → Int} {x : Nat → Int} (h : kx_ker a x) (C : Nat → Nat → Int) {i : Nat} (hi : i < 5) : s6 (fun j => x j * dt (bu C i (a j))) = 0 := by
  rw [← dt_sum6 C hi, dt_zero C hi h]
/-- a family that holds the earlier leading columns at other places gives 0 where a dependent column comes in -/
theorem kx_out {a : Nat → Nat → Int} {ld : Nat → Prop} {f : Nat} {x : Nat → Int} (hf : f < 6) (h0 : x f ≠ 0) (hs : kx_sup ld f x) (hk : kx_ker a x) {C : Nat → Nat → Int} {i : Nat} (hi : i < 5) (hC : ∀ j, j < f → ld j → ∃ m, m < 5 ∧ m ≠ i ∧ C m = a j) : dt (bu C i (a f)) = 0 := by
  have h1 := kx_ker_dt hk C hi
  rw [s6_one hf (fun j hj hjf => ?_)] at h1
  · rcases Int.mul_eq_zero.mp h1 with h | h
    · exact absurd h h0
    · exact h
  · by_cases hx : x j = 0
    · rw [hx, Int.zero_mul]
    · rcases hs j hj hx with h | ⟨h2, h3⟩
      · exact absurd h hjf
      · obtain ⟨m, hm, hmi, hC⟩ := hC j h2 h3
        rw [dt_same hm hi hmi (by rw [bu_ne _ _ hmi, bu_at]; exact hC), Int.mul_zero]
/-- the state of the reduction: k leading columns (le), a family B that holds them, then unit vectors; h rows -/
def kx_fam (h k : Nat) (a : Nat → Nat → Int) (le : Nat → Nat) (B : Nat → Nat → Int) : Prop := (∀ m, m < k → B m = a (le m)) ∧ ∀ m, k ≤ m → m < 5 → ∃ q, B m = ev q ∧ (m < h → q < h) ∧ (h ≤ m → q = m)
def kx_st (h k : Nat) (a : Nat → Nat → Int) (le : Nat → Nat) (B : Nat → Nat → Int) (s p : Int) (R : Nat → Nat → Int) : Prop :=
  k ≤ h ∧ h ≤ 5 ∧ (s = 1 ∨ s = -1) ∧ p = s * dt B ∧ p ≠ 0 ∧ (∀ i, i < 5 → ∀ j, j < 6 → R i j = s * dt (bu B i (a j))) ∧ kx_fam h k a le B ∧ (∀ m, m < k → le m < 6)
def kx_in (h : Nat) (a : Nat → Nat → Int) : Prop := (∀ j, j < 6 → ∀ t, h ≤ t → t < 5 → a j t = 0) ∧ ∀ j, j < 6 → ∀ t, t < 5 → (a j t).natAbs ≤ 40
theorem kx_dtne {s p : Int} {B : Nat → Nat → Int} (h : p = s * dt B) (hp : p ≠ 0) : dt B ≠ 0 := fun e => hp (by rw [h, e, Int.mul_zero])
theorem kx_high {h k : Nat} {a : Nat → Nat → Int} {le : Nat → Nat} {B : Nat → Nat → Int} (ha : kx_in h a) (hB : kx_fam h k a le B) (hle : ∀ m, m < k → le m < 6) (hk : k ≤ h) {i j : Nat} (hi : h ≤ i) (hi5 : i < 5) (hj : j < 6) : dt (bu B i (a j)) = 0 := by
  have h1 := dt_cr B (a j) hi5
  rw [ha.1 j hj i hi hi5, Int.mul_zero, s5_one hi5 (fun m hm hmi => ?_)] at h1
  · obtain ⟨q, e, -, e2⟩ := hB.2 i (by omega) hi5
    rw [e, e2 hi] at h1
    have e3 : ev i i = 1 := by unfold ev; rw [if_pos rfl]
    rw [e3, Int.mul_one] at h1
    exact h1.symm
  · have e0 : B m i = 0 := by
      by_cases hmk : m < k
      · rw [hB.1 m hmk]
        exact ha.1 _ (hle m hmk) i hi hi5
      · obtain ⟨q, e, e1, e2⟩ := hB.2 m (by omega) hm
        have hq : q ≠ i := fun e9 => by
          by_cases hmh : m < h
          · have := e1 hmh
            omega
          · exact hmi ((e2 (by omega)).symm.trans e9)
        rw [e]
        unfold ev
        rw [if_neg (Ne.symm hq)]
    rw [e0, Int.mul_zero]
/-- no row from the k-th on has anything in column f: it depends on the leading columns -/
theorem kx_ker_of {k : Nat} {a : Nat → Nat → Int} {le : Nat → Nat} {B : Nat → Nat → Int} {f : Nat} (hf : f < 6) (hk : k ≤ 5) (hB : ∀ m, m < k → B m = a (le m)) (hle : ∀ m, m < k → le m < 6) (hinj : ∀ m m', m < k → m' < k → le m = le m' → m = m') (hfl : ∀ m, m < k → le m ≠ f) (h0 : ∀ i, k ≤ i → i < 5 → dt (bu B i (a f)) = 0)
    {x : Nat → Int} (hxf : x f = dt B) (hxl : ∀ m, m < k → x (le m) = - dt (bu B m (a f))) (hx0 : ∀ j, j < 6 → j ≠ f → (∀ m, m < k → le m ≠ j) → x j = 0) : kx_ker a x := by
  intro t ht
  have h1 := dt_cr B (a f) ht
  have e5 : s5 (fun m => dt (bu B m (a f)) * B m t) = s5 (fun m => if m < k then - (x (le m) * a (le m) t) else 0) := by
    have hm : ∀ m, m < 5 → dt (bu B m (a f)) * B m t = if m < k then - (x (le m) * a (le m) t) else 0 := fun m hm5 => by
      by_cases hmk : m < k
      · rw [if_pos hmk, hxl m hmk, hB m hmk, Int.neg_mul, Int.neg_neg]
      · rw [if_neg hmk, h0 m (by omega) hm5, Int.zero_mul]
    exact s5_congr hm
  rw [e5, ← hxf] at h1
  -- each leading column counted once
  have key : ∀ n, n ≤ k → n ≤ 5 → ∀ g : Nat → Int, (∀ j, j < 6 → (∀ m, m < n → le m ≠ j) → g j = 0) → s6 g = (if 0 < n then g (le 0) else 0) + (if 1 < n then g (le 1) else 0) + (if 2 < n then g (le 2) else 0) + (if 3 < n then g (le 3) else 0) + (if 4 < n then g (le 4) else 0) := by
    intro n
    induction n with
    | zero => intro _ _ g hg; rw [s6_zero (fun m hm => hg m hm (fun _ h => absurd h (Nat.not_lt_zero _)))]; rfl
    | succ n ih =>
      intro hn hn5 g hg
      have hrest := ih (by omega) (by omega) (fun j => if j = le n then 0 else g j) (fun j hj hm => by
        by_cases hjn : j = le n
        · simp [hjn]
        · simp only [hjn, if_false]
          refine hg j hj (fun m hmn => ?_)
          by_cases hmn2 : m = n
          · rw [hmn2]; exact Ne.symm hjn
          · exact hm m (by omega))
      have hsplit : s6 g = s6 (fun j => if j = le n then 0 else g j) + g (le n) := by
        have hl := hle n (by omega)
        unfold s6 s5
        rcases lt6 hl with e | e | e | e | e | e <;> rw [e] <;> simp <;> omega
      rw [hsplit, hrest]
      have hne : ∀ m, m < n → (le m = le n) = False := fun m hm => by
        refine eq_false (fun e => ?_)
        have := hinj m n (by omega) (by omega) e
        omega
      rcases (show n = 0 ∨ n = 1 ∨ n = 2 ∨ n = 3 ∨ n = 4 by omega) with rfl | rfl | rfl | rfl | rfl
      · simp
      · simp [hne 0 (by omega)]
      · simp [hne 0 (by omega), hne 1 (by omega)]
      · simp [hne 0 (by omega), hne 1 (by omega), hne 2 (by omega)]
      · simp [hne 0 (by omega), hne 1 (by omega), hne 2 (by omega), hne 3 (by omega)]
  have hk2 := key k (Nat.le_refl _) hk (fun j => if j = f then 0 else x j * a j t) (fun j hj hm => by
    by_cases hjf : j = f
    · simp [hjf]
    · simp [hjf, hx0 j hj hjf hm])
  have hsp : s6 (fun j => x j * a j t) = s6 (fun j => if j = f then 0 else x j * a j t) + x f * a f t := by
    unfold s6 s5
    rcases lt6 hf with e | e | e | e | e | e <;> subst e <;> simp <;> omega
  rw [hsp, hk2, h1]
  have hne : ∀ m, m < k → (le m = f) = False := fun m hm => eq_false (hfl m hm)
  have hz : ∀ m, m < 5 → (if m < k then (if le m = f then 0 else x (le m) * a (le m) t) else 0) + (if m < k then - (x (le m) * a (le m) t) else 0) = 0 := fun m hm => by
    by_cases hmk : m < k
    · simp only [hmk, if_true, hne m hmk, if_false]; omega
    · simp only [hmk, if_false]; rfl
  have z0 := hz 0 (by decide)
  have z1 := hz 1 (by decide)
  have z2 := hz 2 (by decide)
  have z3 := hz 3 (by decide)
  have z4 := hz 4 (by decide)
  dsimp only [s5]
  omega
