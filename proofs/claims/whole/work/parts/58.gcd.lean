/-! Euclid: both machines' common divisors. -/
def keu (n X Y : Nat) : Prop := (∃ m, Y < 2 ^ m ∧ 2 * m ≤ n) ∨ ∃ m, X < 2 ^ m ∧ Y < X ∧ 2 * m ≤ n + 1
theorem keu_step {n X Y : Nat} (h : keu n X Y) (hY : Y ≠ 0) : ∃ n', n = n' + 1 ∧ keu n' Y (X % Y) := by
  have hlt := Nat.mod_lt X (Nat.pos_of_ne_zero hY)
  rcases h with ⟨m, h1, h2⟩ | ⟨m, h1, h2, h3⟩
  · cases m with
    | zero => exact absurd (by omega) hY
    | succ m => exact ⟨n - 1, by omega, Or.inr ⟨m + 1, h1, hlt, by omega⟩⟩
  · cases m with
    | zero => omega
    | succ m =>
      cases m with
      | zero => omega
      | succ m =>
        refine ⟨n - 1, by omega, Or.inl ⟨m + 1, ?_, by omega⟩⟩
        have h4 := Nat.div_add_mod X Y
        have h5 : 1 ≤ X / Y := Nat.div_pos (Nat.le_of_lt h2) (Nat.pos_of_ne_zero hY)
        have h6 : Y * 1 ≤ Y * (X / Y) := Nat.mul_le_mul_left Y h5
        have h7 : (2 : Nat) ^ (m + 1 + 1) = 2 * 2 ^ (m + 1) := by rw [Nat.pow_succ]; omega
        omega
theorem keu_0 {X Y : Nat} (h : keu 0 X Y) : Y = 0 := by
  rcases h with ⟨m, h1, h2⟩ | ⟨m, h1, h2, h3⟩
  · have : m = 0 := by omega
    subst this
    omega
  · have : m = 0 := by omega
    subst this
    omega
theorem keu_st {X Y : Nat} (h : Y < 2 ^ 63) : keu 126 X Y := Or.inl ⟨63, h, by omega⟩
theorem keu_mono {n n' X Y : Nat} (h : keu n X Y) (hn : n ≤ n') : keu n' X Y := by
  rcases h with ⟨m, h1, h2⟩ | ⟨m, h1, h2, h3⟩
  · exact Or.inl ⟨m, h1, by omega⟩
  · exact Or.inr ⟨m, h1, h2, by omega⟩
theorem kna {n : Nat} (h : n < 2 ^ 63) : ((n : Int)).natAbs < 2 ^ 63 := by omega
theorem ktm (X Y : Nat) : ((X : Int)).tmod (Y : Int) = ((X % Y : Nat) : Int) := rfl
theorem kgs (X Y : Nat) : Nat.gcd X Y = Nat.gcd Y (X % Y) := by rw [Nat.gcd_comm, Nat.gcd_rec, Nat.gcd_comm]
theorem k_gcd {N : Nat} {σ : vS} {x y : Int} (hN : 300 < N) (hx : x.natAbs < 2 ^ 63) (hy : y.natAbs < 2 ^ 63) : kok (fX0_commonDivisor N σ (lI x) (lI y)) (fun r => r = lI (Nat.gcd x.natAbs y.natAbs)) := by
  unfold fX0_commonDivisor
  refine kok_lt (kok_lt ?_)
  rw [k_abs_lI hx, k_abs_lI hy]
  refine kok_bd1 (P := fun r => r = lI (Nat.gcd x.natAbs y.natAbs)) ?_ (fun q h => kok_some h)
  refine kok_itr (fun v q => ∃ X Y i, q = (lI (X : Nat), lI (Y : Nat), nI i) ∧ X < 2 ^ 63 ∧ Y < 2 ^ 63 ∧ i + v = 200 ∧ keu v X Y ∧ Nat.gcd X Y = Nat.gcd x.natAbs y.natAbs) (fun v q hq => ?_) N 200 _ (by omega) ⟨x.natAbs, y.natAbs, 0, rfl, hx, hy, rfl, keu_mono (keu_st hy) (by omega), rfl⟩
  obtain ⟨X, Y, i, rfl, hX, hY, hi, he, hg⟩ := hq
  show kok (bX0_commonDivisor_15 N σ (lI X) (lI Y) (nI i)) _
  unfold bX0_commonDivisor_15
  refine kok_i (fun h => kok_some ?_) (fun h => kok_i (fun h0 => kok_some ?_) (fun h0 => ?_))
  · have h1 : 200 ≤ i := (nI_leI (a := 200) (by omega) (by omega)).mp h
    have hv : v = 0 := by omega
    subst hv
    have := keu_0 he
    subst this
    show lI X = lI _
    rw [← hg, Nat.gcd_zero_right]
  · have h1 := (lI_eq0 (kna hY)).mp ((lg_cmp_eq _ _).mp h0)
    have h2 : Y = 0 := by omega
    subst h2
    show lI X = lI _
    rw [← hg, Nat.gcd_zero_right]
  · have hY0 : Y ≠ 0 := fun e => h0 ((lg_cmp_eq _ _).mpr (by rw [e]; rfl))
    refine kok_g (fun e => h0 ((lg_cmp_eq _ _).mpr e)) (kok_lt (kok_lt (kok_some ?_)))
    obtain ⟨n', hn', he'⟩ := keu_step he hY0
    have hm := Nat.mod_lt X (Nat.pos_of_ne_zero hY0)
    refine ⟨n', by omega, Y, X % Y, i + 1, ?_, hY, by omega, by omega, he', by rw [← hg, kgs X Y]⟩
    rw [lI_rem (kna hX) (kna hY), ktm, nI_1]
theorem k_common {N : Nat} {σ : vS} {x y : Int} (hN : 300 < N) (hx : x.natAbs < 2 ^ 63) (hy : y.natAbs < 2 ^ 63) : kok (fX6_common N σ (lI x) (lI y)) (fun r => r = lI (Nat.gcd x.natAbs y.natAbs)) := by
  have loop : ∀ X Y : Nat, X < 2 ^ 63 → Y < 2 ^ 63 → kok (jX6_common_28 N σ (lI X) (lI Y)) (fun r => r = lI (Nat.gcd X Y)) := by
    intro X0 Y0 hX0 hY0
    unfold jX6_common_28
    refine kok_bd1 (P := fun r => r = lI (Nat.gcd X0 Y0)) ?_ (fun q h => kok_some h)
    refine kok_itr (fun v q => ∃ X Y, q = (lI (X : Nat), lI (Y : Nat)) ∧ X < 2 ^ 63 ∧ Y < 2 ^ 63 ∧ keu v X Y ∧ Nat.gcd X Y = Nat.gcd X0 Y0) (fun v q hq => ?_) N 200 _ (by omega) ⟨X0, Y0, rfl, hX0, hY0, keu_mono (keu_st hY0) (by omega), rfl⟩
    obtain ⟨X, Y, rfl, hX, hY, he, hg⟩ := hq
    show kok (bX6_common_28 N σ (lI X) (lI Y)) _
    unfold bX6_common_28
    refine kok_i (fun h0 => kok_some ?_) (fun h0 => ?_)
    · have h1 := (lI_eq0 (kna hY)).mp ((lg_cmp_eq _ _).mp h0)
      have h2 : Y = 0 := by omega
      subst h2
      show lI X = lI _
      rw [← hg, Nat.gcd_zero_right]
    · have hY0 : Y ≠ 0 := fun e => h0 ((lg_cmp_eq _ _).mpr (by rw [e]; rfl))
      refine kok_g (fun e => h0 ((lg_cmp_eq _ _).mpr e)) (kok_lt (kok_some ?_))
      obtain ⟨n', hn', he'⟩ := keu_step he hY0
      have hm := Nat.mod_lt X (Nat.pos_of_ne_zero hY0)
      refine ⟨n', by omega, Y, X % Y, ?_, hY, by omega, he', by rw [← hg, kgs X Y]⟩
      rw [lI_rem (kna hX) (kna hY), ktm]
  have half : ∀ X : Nat, X < 2 ^ 63 → kok (jX6_common_14 N σ (lI y) (lI X)) (fun r => r = lI (Nat.gcd X y.natAbs)) := by
    intro X hX
    unfold jX6_common_14
    refine kok_i (fun h => ?_) (fun h => kok_lt ?_)
    · have h1 := (lI_le (a := 0) (by decide) hy).mp ((lg_cmp_ge _ _).mp h)
      have e : y = (y.natAbs : Int) := by omega
      have h2 := loop X y.natAbs hX hy
      rw [← e] at h2
      exact h2
    · have h1 : ¬ 0 ≤ y := fun h2 => h ((lg_cmp_ge _ _).mpr ((lI_le (a := 0) (by decide) hy).mpr h2))
      rw [lI_neg, show -y = (y.natAbs : Int) by omega]
      exact loop X y.natAbs hX hy
  unfold fX6_common
  refine kok_i (fun h => ?_) (fun h => kok_lt ?_)
  · have h1 := (lI_le (a := 0) (by decide) hx).mp ((lg_cmp_ge _ _).mp h)
    have e : x = (x.natAbs : Int) := by omega
    have h2 := half x.natAbs hx
    rw [← e] at h2
    exact h2
  · have h1 : ¬ 0 ≤ x := fun h2 => h ((lg_cmp_ge _ _).mpr ((lI_le (a := 0) (by decide) hx).mpr h2))
    rw [lI_neg, show -x = (x.natAbs : Int) by omega]
    exact half x.natAbs hx
