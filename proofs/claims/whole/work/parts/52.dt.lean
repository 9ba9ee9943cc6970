/-! A family of five vectors, one of them replaced; Cramer's rule under a second family; the relation of Pluecker. -/
def dt (B : Nat → Nat → Int) : Int := d5 (B 0) (B 1) (B 2) (B 3) (B 4)
def bu (B : Nat → Nat → Int) (i : Nat) (y : Nat → Int) : Nat → Nat → Int := fun m => if m = i then y else B m
def s5 (f : Nat → Int) : Int := f 0 + f 1 + f 2 + f 3 + f 4
theorem lt5 {i : Nat} (h : i < 5) : i = 0 ∨ i = 1 ∨ i = 2 ∨ i = 3 ∨ i = 4 := by omega
theorem bu_at (B : Nat → Nat → Int) (i : Nat) (y : Nat → Int) : bu B i y i = y := by unfold bu; rw [if_pos rfl]
theorem bu_ne (B : Nat → Nat → Int) {i m : Nat} (y : Nat → Int) (h : m ≠ i) : bu B i y m = B m := by unfold bu; rw [if_neg h]
theorem bu_self (B : Nat → Nat → Int) (i : Nat) : bu B i (B i) = B := by
  funext m; unfold bu; by_cases h : m = i
  · rw [if_pos h, h]
  · rw [if_neg h]
theorem bu_bu (B : Nat → Nat → Int) (i : Nat) (x y : Nat → Int) : bu (bu B i x) i y = bu B i y := by
  funext m; unfold bu; by_cases h : m = i
  · rw [if_pos h, if_pos h]
  · rw [if_neg h, if_neg h, if_neg h]
theorem bu_comm (B : Nat → Nat → Int) {i j : Nat} (x y : Nat → Int) (h : i ≠ j) : bu (bu B i x) j y = bu (bu B j y) i x := by
  funext m; unfold bu; by_cases h1 : m = i
  · have h2 : m ≠ j := fun e => h (h1.symm.trans e)
    simp [h1, h2, h]
  · by_cases h2 : m = j
    · simp [h1, h2, Ne.symm h]
    · simp [h1, h2]
theorem d5_congr {a b c d e a' b' c' d' e' : Nat → Int} (ha : ∀ t, t < 5 → a t = a' t) (hb : ∀ t, t < 5 → b t = b' t) (hc : ∀ t, t < 5 → c t = c' t) (hd : ∀ t, t < 5 → d t = d' t) (he : ∀ t, t < 5 → e t = e' t) : d5 a b c d e = d5 a' b' c' d' e' := by
  have z0 : (0 : Nat) < 5 := by decide
  have z1 : (1 : Nat) < 5 := by decide
  have z2 : (2 : Nat) < 5 := by decide
  have z3 : (3 : Nat) < 5 := by decide
  have z4 : (4 : Nat) < 5 := by decide
  simp only [d5, d4, d3, d2, ha 0 z0, ha 1 z1, ha 2 z2, ha 3 z3, ha 4 z4, hb 0 z0, hb 1 z1, hb 2 z2, hb 3 z3, hb 4 z4, hc 0 z0, hc 1 z1, hc 2 z2, hc 3 z3, hc 4 z4, hd 0 z0, hd 1 z1, hd 2 z2, hd 3 z3, hd 4 z4, he 0 z0, he 1 z1, he 2 z2, he 3 z3, he 4 z4]
theorem dt_congr {B C : Nat → Nat → Int} (h : ∀ m, m < 5 → ∀ t, t < 5 → B m t = C m t) : dt B = dt C :=
  d5_congr (h 0 (by decide)) (h 1 (by decide)) (h 2 (by decide)) (h 3 (by decide)) (h 4 (by decide))
theorem dt_lin (B : Nat → Nat → Int) {i : Nat} (hi : i < 5) (q : Int) (x y : Nat → Int) : dt (bu B i (vl q x y)) = q * dt (bu B i x) + dt (bu B i y) := by
  rcases lt5 hi with rfl | rfl | rfl | rfl | rfl
  · exact d5_l0 q x y _ _ _ _
  · exact d5_l1 q x y _ _ _ _
  · exact d5_l2 q x y _ _ _ _
  · exact d5_l3 q x y _ _ _ _
  · exact d5_l4 q x y _ _ _ _
theorem dt_zero (B : Nat → Nat → Int) {i : Nat} (hi : i < 5) {z : Nat → Int} (hz : ∀ t, t < 5 → z t = 0) : dt (bu B i z) = 0 := by
  have h1 := dt_lin B hi 1 z z
  have h2 : dt (bu B i (vl 1 z z)) = dt (bu B i z) := by
    refine dt_congr (fun m _ t ht => ?_)
    by_cases h : m = i
    · subst h
      rw [bu_at, bu_at]
      unfold vl
      rw [hz t ht]; rfl
    · rw [bu_ne B _ h, bu_ne B _ h]
  omega
theorem dt_smul (B : Nat → Nat → Int) {i : Nat} (hi : i < 5) (q : Int) (x : Nat → Int) : dt (bu B i (fun t => q * x t)) = q * dt (bu B i x) := by
  have h1 := dt_lin B hi q x (fun _ => 0)
  rw [dt_zero B hi (fun t _ => rfl), Int.add_zero] at h1
  rw [← h1]
  refine dt_congr (fun m _ t _ => ?_)
  by_cases h : m = i
  · subst h
    rw [bu_at, bu_at]
    show q * x t = q * x t + 0
    omega
  · rw [bu_ne B _ h, bu_ne B _ h]
theorem z_self {x : Int} (h : x = - x) : x = 0 := by omega
theorem d5_e01 (a c d e : Nat → Int) : d5 a a c d e = 0 := z_self (d5_sw0 a a c d e)
theorem d5_e12 (a b d e : Nat → Int) : d5 a b b d e = 0 := z_self (d5_sw1 a b b d e)
theorem d5_e23 (a b c e : Nat → Int) : d5 a b c c e = 0 := z_self (d5_sw2 a b c c e)
theorem d5_e34 (a b c d : Nat → Int) : d5 a b c d d = 0 := z_self (d5_sw3 a b c d d)
theorem d5_e02 (a b d e : Nat → Int) : d5 a b a d e = 0 := by have := d5_sw1 a a b d e; rw [d5_e01] at this; omega
theorem d5_e13 (a b c e : Nat → Int) : d5 a b c b e = 0 := by have := d5_sw2 a b b c e; rw [d5_e12] at this; omega
theorem d5_e24 (a b c d : Nat → Int) : d5 a b c d c = 0 := by have := d5_sw3 a b c c d; rw [d5_e23] at this; omega
theorem d5_e03 (a b c e : Nat → Int) : d5 a b c a e = 0 := by have := d5_sw2 a b a c e; rw [d5_e02] at this; omega
theorem d5_e14 (a b c d : Nat → Int) : d5 a b c d b = 0 := by have := d5_sw3 a b c b d; rw [d5_e13] at this; omega
theorem d5_e04 (a b c d : Nat → Int) : d5 a b c d a = 0 := by have := d5_sw3 a b c a d; rw [d5_e03] at this; omega
theorem dt_same {B : Nat → Nat → Int} {i j : Nat} (hi : i < 5) (hj : j < 5) (hij : i ≠ j) (h : B i = B j) : dt B = 0 := by
  unfold dt
  rcases lt5 hi with rfl | rfl | rfl | rfl | rfl <;> rcases lt5 hj with rfl | rfl | rfl | rfl | rfl
  · exact absurd rfl hij
  · rw [h]; exact d5_e01 _ _ _ _
  · rw [h]; exact d5_e02 _ _ _ _
  · rw [h]; exact d5_e03 _ _ _ _
  · rw [h]; exact d5_e04 _ _ _ _
  · rw [h]; exact d5_e01 _ _ _ _
  · exact absurd rfl hij
  · rw [h]; exact d5_e12 _ _ _ _
  · rw [h]; exact d5_e13 _ _ _ _
  · rw [h]; exact d5_e14 _ _ _ _
  · rw [h]; exact d5_e02 _ _ _ _
  · rw [h]; exact d5_e12 _ _ _ _
  · exact absurd rfl hij
  · rw [h]; exact d5_e23 _ _ _ _
  · rw [h]; exact d5_e24 _ _ _ _
  · rw [h]; exact d5_e03 _ _ _ _
  · rw [h]; exact d5_e13 _ _ _ _
  · rw [h]; exact d5_e23 _ _ _ _
  · exact absurd rfl hij
  · rw [h]; exact d5_e34 _ _ _ _
  · rw [h]; exact d5_e04 _ _ _ _
  · rw [h]; exact d5_e14 _ _ _ _
  · rw [h]; exact d5_e24 _ _ _ _
  · rw [h]; exact d5_e34 _ _ _ _
  · exact absurd rfl hij
theorem dt_two (B : Nat → Nat → Int) {i j : Nat} (hi : i < 5) (hj : j < 5) (hij : i ≠ j) (z : Nat → Int) : dt (bu (bu B i z) j z) = 0 :=
  dt_same hi hj hij (by rw [bu_at, bu_ne _ _ hij, bu_at])
/-- two places exchanged -/
theorem dt_swap (B : Nat → Nat → Int) {i j : Nat} (hi : i < 5) (hj : j < 5) (hij : i ≠ j) (x y : Nat → Int) : dt (bu (bu B i x) j y) = - dt (bu (bu B i y) j x) := by
  have h := dt_two B hi hj hij (vl 1 x y)
  rw [dt_lin _ hj, bu_comm _ _ _ hij, dt_lin _ hi, bu_comm B _ y hij, dt_lin _ hi] at h
  rw [bu_comm B x y hij, bu_comm B y x hij]
  have h1 := dt_two B hj hi (Ne.symm hij) x
  have h2 := dt_two B hj hi (Ne.symm hij) y
  rw [h1, h2] at h
  omega
theorem dt_cr (B : Nat → Nat → Int) (y : Nat → Int) {t : Nat} (ht : t < 5) : dt B * y t = s5 (fun m => dt (bu B m y) * B m t) := by
  rcases lt5 ht with rfl | rfl | rfl | rfl | rfl
  · exact d5_cr0 _ _ _ _ _ y
  · exact d5_cr1 _ _ _ _ _ y
  · exact d5_cr2 _ _ _ _ _ y
  · exact d5_cr3 _ _ _ _ _ y
  · exact d5_cr4 _ _ _ _ _ y
theorem dt_sum5 (C : Nat → Nat → Int) {i : Nat} (hi : i < 5) (c : Nat → Int) (B : Nat → Nat → Int) : dt (bu C i (fun t => s5 (fun m => c m * B m t))) = s5 (fun m => c m * dt (bu C i (B m))) := by
  have e : dt (bu C i (fun t => s5 (fun m => c m * B m t))) = dt (bu C i (vl (c 0) (B 0) (vl (c 1) (B 1) (vl (c 2) (B 2) (vl (c 3) (B 3) (fun t => c 4 * B 4 t)))))) := by
    refine dt_congr (fun m _ t _ => ?_)
    by_cases h : m = i
    · subst h
      rw [bu_at, bu_at]
      show c 0 * B 0 t + c 1 * B 1 t + c 2 * B 2 t + c 3 * B 3 t + c 4 * B 4 t = c 0 * B 0 t + (c 1 * B 1 t + (c 2 * B 2 t + (c 3 * B 3 t + c 4 * B 4 t)))
      omega
    · rw [bu_ne _ _ h, bu_ne _ _ h]
  rw [e, dt_lin _ hi, dt_lin _ hi, dt_lin _ hi, dt_lin _ hi, dt_smul _ hi]
  show _ = c 0 * dt (bu C i (B 0)) + c 1 * dt (bu C i (B 1)) + c 2 * dt (bu C i (B 2)) + c 3 * dt (bu C i (B 3)) + c 4 * dt (bu C i (B 4))
  omega
theorem dt_cramer (B C : Nat → Nat → Int) {i : Nat} (hi : i < 5) (y : Nat → Int) : dt B * dt (bu C i y) = s5 (fun m => dt (bu B m y) * dt (bu C i (B m))) := by
  rw [← dt_smul _ hi, ← dt_sum5 _ hi]
  refine dt_congr (fun m _ t ht => ?_)
  by_cases h : m = i
  · subst h
    rw [bu_at, bu_at]
    exact dt_cr B y ht
  · rw [bu_ne _ _ h, bu_ne _ _ h]
theorem s5_two {f : Nat → Int} {i k : Nat} (hi : i < 5) (hk : k < 5) (hik : i ≠ k) (h : ∀ m, m < 5 → m ≠ i → m ≠ k → f m = 0) : s5 f = f i + f k := by
  unfold s5
  have h0 := h 0 (by decide)
  have h1 := h 1 (by decide)
  have h2 := h 2 (by decide)
  have h3 := h 3 (by decide)
  have h4 := h 4 (by decide)
  rcases lt5 hi with rfl | rfl | rfl | rfl | rfl <;> rcases lt5 hk with rfl | rfl | rfl | rfl | rfl <;> first | exact absurd rfl hik | omega
theorem s5_one {f : Nat → Int} {i : Nat} (hi : i < 5) (h : ∀ m, m < 5 → m ≠ i → f m = 0) : s5 f = f i := by
  unfold s5
  have h0 := h 0 (by decide)
  have h1 := h 1 (by decide)
  have h2 := h 2 (by decide)
  have h3 := h 3 (by decide)
  have h4 := h 4 (by decide)
  rcases lt5 hi with rfl | rfl | rfl | rfl | rfl <;> omega
theorem dt_pl (B : Nat → Nat → Int) {i k : Nat} (hi : i < 5) (hk : k < 5) (hik : i ≠ k) (x y : Nat → Int) : dt B * dt (bu (bu B k x) i y) = dt (bu B k x) * dt (bu B i y) - dt (bu B i x) * dt (bu B k y) := by
  rw [dt_cramer B (bu B k x) hi y, s5_two hi hk hik (fun m hm h1 h2 => ?_)]
  · have e1 : dt (bu (bu B k x) i (B i)) = dt (bu B k x) := by
      rw [bu_comm _ _ _ (Ne.symm hik), bu_self]
    have e2 : dt (bu (bu B k x) i (B k)) = - dt (bu B i x) := by
      rw [dt_swap B hk hi (Ne.symm hik) x (B k), bu_self]
    rw [e1, e2, Int.mul_comm (dt (bu B i y)), Int.mul_neg, Int.mul_comm (dt (bu B k y))]
    omega
  · have e : dt (bu (bu B k x) i (B m)) = 0 := dt_same hi hm (Ne.symm h1) (by rw [bu_at, bu_ne _ _ h1, bu_ne _ _ h2])
    rw [e, Int.mul_zero]
theorem dt_bd {B : Nat → Nat → Int} {b : Nat → Nat} (h : ∀ m, m < 5 → ∀ t, t < 5 → (B m t).natAbs ≤ b m) : (dt B).natAbs ≤ 120 * (b 0 * (b 1 * (b 2 * (b 3 * b 4)))) := by
  have h1 := d5_bd (h 0 (by decide)) (h 1 (by decide)) (h 2 (by decide)) (h 3 (by decide)) (h 4 (by decide))
  refine Nat.le_trans h1 (Nat.le_of_eq ?_)
  generalize b 0 = p, b 1 = q, b 2 = r, b 3 = s, b 4 = u
  grind
