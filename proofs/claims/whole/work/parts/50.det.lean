/-! Determinants of five vectors of five whole numbers: linear in each, alternating, Cramer's rule, a bound. -/
def d2 (a b : Nat → Int) (i j : Nat) : Int := a i * b j - a j * b i
def d3 (a b c : Nat → Int) (i j k : Nat) : Int := a i * d2 b c j k - a j * d2 b c i k + a k * d2 b c i j
def d4 (a b c d : Nat → Int) (i j k l : Nat) : Int := a i * d3 b c d j k l - a j * d3 b c d i k l + a k * d3 b c d i j l - a l * d3 b c d i j k
def d5 (a b c d e : Nat → Int) : Int := a 0 * d4 b c d e 1 2 3 4 - a 1 * d4 b c d e 0 2 3 4 + a 2 * d4 b c d e 0 1 3 4 - a 3 * d4 b c d e 0 1 2 4 + a 4 * d4 b c d e 0 1 2 3
def vl (c : Int) (x y : Nat → Int) : Nat → Int := fun t => c * x t + y t
theorem d2_sw (a b : Nat → Int) (i j : Nat) : d2 b a i j = - d2 a b i j := by unfold d2; grind
theorem d3_sw0 (a b c : Nat → Int) (i j k : Nat) : d3 b a c i j k = - d3 a b c i j k := by unfold d3 d2; grind
theorem d3_sw1 (a b c : Nat → Int) (i j k : Nat) : d3 a c b i j k = - d3 a b c i j k := by simp only [d3, d2_sw b c]; grind
theorem d4_sw0 (a b c d : Nat → Int) (i j k l : Nat) : d4 b a c d i j k l = - d4 a b c d i j k l := by simp only [d4, d3]; grind
theorem d4_sw1 (a b c d : Nat → Int) (i j k l : Nat) : d4 a c b d i j k l = - d4 a b c d i j k l := by simp only [d4, d3_sw0 b c]; grind
theorem d4_sw2 (a b c d : Nat → Int) (i j k l : Nat) : d4 a b d c i j k l = - d4 a b c d i j k l := by simp only [d4, d3_sw1 b c]; grind
theorem d5_sw0 (a b c d e : Nat → Int) : d5 b a c d e = - d5 a b c d e := by simp only [d5, d4]; grind
theorem d5_sw1 (a b c d e : Nat → Int) : d5 a c b d e = - d5 a b c d e := by simp only [d5, d4_sw0 b c]; grind
theorem d5_sw2 (a b c d e : Nat → Int) : d5 a b d c e = - d5 a b c d e := by simp only [d5, d4_sw1 b c d]; grind
theorem d5_sw3 (a b c d e : Nat → Int) : d5 a b c e d = - d5 a b c d e := by simp only [d5, d4_sw2 b c d]; grind
theorem d2_l0 (q : Int) (x y b : Nat → Int) (i j : Nat) : d2 (vl q x y) b i j = q * d2 x b i j + d2 y b i j := by unfold d2 vl; grind
theorem d2_l1 (q : Int) (x y a : Nat → Int) (i j : Nat) : d2 a (vl q x y) i j = q * d2 a x i j + d2 a y i j := by unfold d2 vl; grind
theorem d3_l0 (q : Int) (x y b c : Nat → Int) (i j k : Nat) : d3 (vl q x y) b c i j k = q * d3 x b c i j k + d3 y b c i j k := by unfold d3 vl; grind
theorem d3_l1 (q : Int) (x y a c : Nat → Int) (i j k : Nat) : d3 a (vl q x y) c i j k = q * d3 a x c i j k + d3 a y c i j k := by simp only [d3, d2_l0]; grind
theorem d3_l2 (q : Int) (x y a b : Nat → Int) (i j k : Nat) : d3 a b (vl q x y) i j k = q * d3 a b x i j k + d3 a b y i j k := by simp only [d3, d2_l1]; grind
theorem d4_l0 (q : Int) (x y b c d : Nat → Int) (i j k l : Nat) : d4 (vl q x y) b c d i j k l = q * d4 x b c d i j k l + d4 y b c d i j k l := by unfold d4 vl; grind
theorem d4_l1 (q : Int) (x y a c d : Nat → Int) (i j k l : Nat) : d4 a (vl q x y) c d i j k l = q * d4 a x c d i j k l + d4 a y c d i j k l := by simp only [d4, d3_l0]; grind
theorem d4_l2 (q : Int) (x y a b d : Nat → Int) (i j k l : Nat) : d4 a b (vl q x y) d i j k l = q * d4 a b x d i j k l + d4 a b y d i j k l := by simp only [d4, d3_l1]; grind
theorem d4_l3 (q : Int) (x y a b c : Nat → Int) (i j k l : Nat) : d4 a b c (vl q x y) i j k l = q * d4 a b c x i j k l + d4 a b c y i j k l := by simp only [d4, d3_l2]; grind
theorem d5_l0 (q : Int) (x y b c d e : Nat → Int) : d5 (vl q x y) b c d e = q * d5 x b c d e + d5 y b c d e := by unfold d5 vl; grind
theorem d5_l1 (q : Int) (x y a c d e : Nat → Int) : d5 a (vl q x y) c d e = q * d5 a x c d e + d5 a y c d e := by simp only [d5, d4_l0]; grind
theorem d5_l2 (q : Int) (x y a b d e : Nat → Int) : d5 a b (vl q x y) d e = q * d5 a b x d e + d5 a b y d e := by simp only [d5, d4_l1]; grind
theorem d5_l3 (q : Int) (x y a b c e : Nat → Int) : d5 a b c (vl q x y) e = q * d5 a b c x e + d5 a b c y e := by simp only [d5, d4_l2]; grind
theorem d5_l4 (q : Int) (x y a b c d : Nat → Int) : d5 a b c d (vl q x y) = q * d5 a b c d x + d5 a b c d y := by simp only [d5, d4_l3]; grind
theorem d_nm {x y : Int} {p q : Nat} (h : x.natAbs ≤ p) (h2 : y.natAbs ≤ q) : (x * y).natAbs ≤ p * q := by rw [Int.natAbs_mul]; exact Nat.mul_le_mul h h2
theorem d2_bd {a b : Nat → Int} {p q : Nat} (ha : ∀ t, t < 5 → (a t).natAbs ≤ p) (hb : ∀ t, t < 5 → (b t).natAbs ≤ q) {i j : Nat} (hi : i < 5) (hj : j < 5) : (d2 a b i j).natAbs ≤ 2 * (p * q) := by
  have h1 := d_nm (ha i hi) (hb j hj)
  have h2 := d_nm (ha j hj) (hb i hi)
  unfold d2
  omega
theorem d3_bd {a b c : Nat → Int} {p q r : Nat} (ha : ∀ t, t < 5 → (a t).natAbs ≤ p) (hb : ∀ t, t < 5 → (b t).natAbs ≤ q) (hc : ∀ t, t < 5 → (c t).natAbs ≤ r) {i j k : Nat} (hi : i < 5) (hj : j < 5) (hk : k < 5) : (d3 a b c i j k).natAbs ≤ 3 * (p * (2 * (q * r))) := by
  have h1 := d_nm (ha i hi) (d2_bd hb hc hj hk)
  have h2 := d_nm (ha j hj) (d2_bd hb hc hi hk)
  have h3 := d_nm (ha k hk) (d2_bd hb hc hi hj)
  unfold d3
  omega
theorem d4_bd {a b c d : Nat → Int} {p q r s : Nat} (ha : ∀ t, t < 5 → (a t).natAbs ≤ p) (hb : ∀ t, t < 5 → (b t).natAbs ≤ q) (hc : ∀ t, t < 5 → (c t).natAbs ≤ r) (hd : ∀ t, t < 5 → (d t).natAbs ≤ s) {i j k l : Nat} (hi : i < 5) (hj : j < 5) (hk : k < 5) (hl : l < 5) : (d4 a b c d i j k l).natAbs ≤ 4 * (p * (3 * (q * (2 * (r * s))))) := by
  have h1 := d_nm (ha i hi) (d3_bd hb hc hd hj hk hl)
  have h2 := d_nm (ha j hj) (d3_bd hb hc hd hi hk hl)
  have h3 := d_nm (ha k hk) (d3_bd hb hc hd hi hj hl)
  have h4 := d_nm (ha l hl) (d3_bd hb hc hd hi hj hk)
  unfold d4
  omega
theorem d5_bd {a b c d e : Nat → Int} {p q r s u : Nat} (ha : ∀ t, t < 5 → (a t).natAbs ≤ p) (hb : ∀ t, t < 5 → (b t).natAbs ≤ q) (hc : ∀ t, t < 5 → (c t).natAbs ≤ r) (hd : ∀ t, t < 5 → (d t).natAbs ≤ s) (he : ∀ t, t < 5 → (e t).natAbs ≤ u) : (d5 a b c d e).natAbs ≤ 5 * (p * (4 * (q * (3 * (r * (2 * (s * u))))))) := by
  have h0 := d_nm (ha 0 (by decide)) (d4_bd hb hc hd he (i := 1) (j := 2) (k := 3) (l := 4) (by decide) (by decide) (by decide) (by decide))
  have h1 := d_nm (ha 1 (by decide)) (d4_bd hb hc hd he (i := 0) (j := 2) (k := 3) (l := 4) (by decide) (by decide) (by decide) (by decide))
  have h2 := d_nm (ha 2 (by decide)) (d4_bd hb hc hd he (i := 0) (j := 1) (k := 3) (l := 4) (by decide) (by decide) (by decide) (by decide))
  have h3 := d_nm (ha 3 (by decide)) (d4_bd hb hc hd he (i := 0) (j := 1) (k := 2) (l := 4) (by decide) (by decide) (by decide) (by decide))
  have h4 := d_nm (ha 4 (by decide)) (d4_bd hb hc hd he (i := 0) (j := 1) (k := 2) (l := 3) (by decide) (by decide) (by decide) (by decide))
  unfold d5
  omega
