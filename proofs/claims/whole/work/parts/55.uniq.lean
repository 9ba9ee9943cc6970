/-! The end of the reduction, and that it is unique. -/
/-- behind the last column: for a dependent column f the pivot and the rows' entries are a vector of the kernel, on earlier leading columns alone -/
theorem kx_final {h k c f : Nat} {a : Nat → Nat → Int} {le : Nat → Nat} {ld : Nat → Prop} {B R : Nat → Nat → Int} {s p : Int} {y : Nat → Int} (ha : kx_in h a) (hS : kx_st h k a le B s p R) (hl : kx_ll c k le ld) (hc : c ≤ 6) (hf : f < c) (hnl : ¬ ld f) (hd : kx_dep a ld f)
    (hyf : y f = p) (hyl : ∀ m, m < k → y (le m) = - R m f) (hy0 : ∀ j, j < 6 → j ≠ f → (∀ m, m < k → le m ≠ j) → y j = 0) : kx_sup ld f y ∧ kx_ker a y := by
  obtain ⟨hk2, hh, hs, hp, hp0, hR, hB, hle⟩ := hS
  obtain ⟨x, hx0, hxs, hxk⟩ := hd
  have hne : ∀ m, m < k → le m ≠ f := fun m hm e => hnl (by rw [← e]; exact (hl.1 m hm).2)
  have hss : s * s = 1 := by rcases hs with e | e <;> rw [e] <;> rfl
  have hz : ∀ i, i < 5 → (∀ j, j < f → ld j → i < k → le i ≠ j) → dt (bu B i (a f)) = 0 := fun i hi h9 => by
    refine kx_out (by omega) hx0 hxs hxk hi (fun j hj hlj => ?_)
    obtain ⟨m, hm, e⟩ := hl.2.1 j (by omega) hlj
    refine ⟨m, by omega, fun e2 => ?_, by rw [hB.1 m hm, e]⟩
    subst e2
    exact h9 j hj hlj hm e
  refine ⟨fun j hj hy => ?_, fun t ht => ?_⟩
  · by_cases hjf : j = f
    · exact Or.inl hjf
    · right
      have h1 : ¬ ∀ m, m < k → le m ≠ j := fun h2 => hy (hy0 j hj hjf h2)
      have h3 : ∃ m, m < k ∧ le m = j := Classical.byContradiction (fun hn => h1 (fun m hm e => hn ⟨m, hm, e⟩))
      obtain ⟨m, hm, e⟩ := h3
      have hldj : ld j := by rw [← e]; exact (hl.1 m hm).2
      refine ⟨?_, hldj⟩
      refine Nat.lt_of_not_le (fun hge => hy ?_)
      rw [← e, hyl m hm, hR m (by omega) f (by omega), hz m (by omega) (fun j' hj' _ _ e' => by
        have : le m = j := e
        omega), Int.mul_zero]
      rfl
  · have h1 := kx_ker_of (k := k) (le := le) (B := B) (f := f) (a := a) (x := fun j => s * y j) (by omega) (by omega) hB.1 hle hl.2.2 hne (fun i hi hi5 => hz i hi5 (fun j _ _ h9 _ => by omega)) (by
        show s * y f = dt B
        rw [hyf, hp]; grind) (fun m hm => by
        show s * y (le m) = _
        rw [hyl m hm, hR m (by omega) f (by omega)]; grind) (fun j hj hjf hm => by
        show s * y j = 0
        rw [hy0 j hj hjf hm, Int.mul_zero]) t ht
    have e : s6 (fun j => s * y j * a j t) = s * s6 (fun j => y j * a j t) := by
      unfold s6 s5
      grind
    rw [e] at h1
    rcases Int.mul_eq_zero.mp h1 with h2 | h2
    · rcases hs with e9 | e9 <;> rw [e9] at h2 <;> cases h2
    · exact h2
def g6 (x : Nat → Int) : Nat := Nat.gcd (x 0).natAbs (Nat.gcd (x 1).natAbs (Nat.gcd (x 2).natAbs (Nat.gcd (x 3).natAbs (Nat.gcd (x 4).natAbs (x 5).natAbs))))
theorem g6_mul (p : Nat) (x : Nat → Int) : g6 (fun j => (p : Int) * x j) = p * g6 x := by
  unfold g6
  simp only [Int.natAbs_mul, Int.natAbs_natCast, Nat.gcd_mul_left]
theorem g6_congr {x y : Nat → Int} (h : ∀ j, j < 6 → x j = y j) : g6 x = g6 y := by
  unfold g6
  rw [h 0 (by decide), h 1 (by decide), h 2 (by decide), h 3 (by decide), h 4 (by decide), h 5 (by decide)]
theorem g6_dvd (x : Nat → Int) : ∀ j, j < 6 → g6 x ∣ (x j).natAbs := by
  intro j hj
  unfold g6
  have a0 := fun (m n : Nat) => Nat.gcd_dvd_left m n
  have a1 := fun (m n : Nat) => Nat.gcd_dvd_right m n
  rcases lt6 hj with rfl | rfl | rfl | rfl | rfl | rfl
  · exact a0 _ _
  · exact Nat.dvd_trans (a1 _ _) (a0 _ _)
  · exact Nat.dvd_trans (a1 _ _) (Nat.dvd_trans (a1 _ _) (a0 _ _))
  · exact Nat.dvd_trans (a1 _ _) (Nat.dvd_trans (a1 _ _) (Nat.dvd_trans (a1 _ _) (a0 _ _)))
  · exact Nat.dvd_trans (a1 _ _) (Nat.dvd_trans (a1 _ _) (Nat.dvd_trans (a1 _ _) (Nat.dvd_trans (a1 _ _) (a0 _ _))))
  · exact Nat.dvd_trans (a1 _ _) (Nat.dvd_trans (a1 _ _) (Nat.dvd_trans (a1 _ _) (Nat.dvd_trans (a1 _ _) (a1 _ _))))
/-- the base of a dependent column: whole numbers without a common divisor, positive at the column itself -/
def kx_base (a : Nat → Nat → Int) (ld : Nat → Prop) (f : Nat) (x : Nat → Int) : Prop := 0 < x f ∧ kx_sup ld f x ∧ kx_ker a x ∧ g6 x = 1
/-- what a machine has found -/
def kx_sol (a : Nat → Nat → Int) (w : Nat) (ld : Nat → Prop) (bs : Nat → Nat → Int) : Prop := ∀ f, f < w → (ld f → ¬ kx_dep a ld f) ∧ (¬ ld f → kx_base a ld f (bs f))
theorem kx_ker_lin {a : Nat → Nat → Int} {x y : Nat → Int} (p q : Int) (hx : kx_ker a x) (hy : kx_ker a y) : kx_ker a (fun j => p * x j - q * y j) := by
  intro t ht
  have e : s6 (fun j => (p * x j - q * y j) * a j t) = p * s6 (fun j => x j * a j t) - q * s6 (fun j => y j * a j t) := by
    rw [← s6_lin]
    refine s6_congr (fun m _ => ?_)
    grind
  rw [e, hx t ht, hy t ht]
  omega
/-- a vector of the kernel on leading columns alone is 0 -/
theorem kx_indep {a : Nat → Nat → Int} {ld : Nat → Prop} {f : Nat} {z : Nat → Int} (hl : ∀ j, j < f → j < 6 → ld j → ¬ kx_dep a ld j) (hz : ∀ j, j < 6 → z j ≠ 0 → j < f ∧ ld j) (hk : kx_ker a z) : ∀ n j, j + n = 5 → z j = 0 ∧ ∀ i, j ≤ i → i < 6 → z i = 0 := by
  intro n
  induction n with
  | zero =>
    intro j hj
    have e : j = 5 := by omega
    subst e
    have h0 : z 5 = 0 := Classical.byContradiction (fun h => by
      obtain ⟨h1, h2⟩ := hz 5 (by decide) h
      refine hl 5 h1 (by decide) h2 ⟨z, h, fun i hi hi0 => ?_, hk⟩
      obtain ⟨h3, h4⟩ := hz i hi hi0
      by_cases e : i = 5
      · exact Or.inl e
      · exact Or.inr ⟨by omega, h4⟩)
    exact ⟨h0, fun i h1 h2 => by rw [show i = 5 by omega]; exact h0⟩
  | succ n ih =>
    intro j hj
    obtain ⟨-, h1⟩ := ih (j + 1) (by omega)
    have h0 : z j = 0 := Classical.byContradiction (fun h => by
      obtain ⟨h2, h3⟩ := hz j (by omega) h
      refine hl j h2 (by omega) h3 ⟨z, h, fun i hi hi0 => ?_, hk⟩
      obtain ⟨h4, h5⟩ := hz i hi hi0
      by_cases e : i = j
      · exact Or.inl e
      · refine Or.inr ⟨Nat.lt_of_not_le (fun h6 => hi0 (h1 i (by omega) hi)), h5⟩)
    exact ⟨h0, fun i h2 h3 => by
      by_cases e : i = j
      · rw [e]; exact h0
      · exact h1 i (by omega) h3⟩
theorem kx_sup_iff {ld ld' : Nat → Prop} {f : Nat} (h : ∀ j, j < f → (ld j ↔ ld' j)) {x : Nat → Int} (hx : kx_sup ld f x) : kx_sup ld' f x := fun j hj h0 => by
  rcases hx j hj h0 with e | ⟨e1, e2⟩
  · exact Or.inl e
  · exact Or.inr ⟨e1, (h j e1).mp e2⟩
theorem kx_dep_iff {a : Nat → Nat → Int} {ld ld' : Nat → Prop} {f : Nat} (h : ∀ j, j < f → (ld j ↔ ld' j)) (hx : kx_dep a ld f) : kx_dep a ld' f := by
  obtain ⟨x, h0, h1, h2⟩ := hx
  exact ⟨x, h0, kx_sup_iff h h1, h2⟩
theorem kx_unique {a : Nat → Nat → Int} {w : Nat} {ld ld' : Nat → Prop} {bs bs' : Nat → Nat → Int} (hw : w ≤ 6) (h1 : kx_sol a w ld bs) (h2 : kx_sol a w ld' bs') : ∀ f, f < w → (ld f ↔ ld' f) ∧ (¬ ld f → ∀ j, j < 6 → bs f j = bs' f j) := by
  intro f
  induction f using Nat.strongRecOn with
  | ind f ih =>
    intro hf
    have hs : ∀ j, j < f → (ld j ↔ ld' j) := fun j hj => (ih j hj (by omega)).1
    have hs' : ∀ j, j < f → (ld' j ↔ ld j) := fun j hj => (hs j hj).symm
    have hiff : ld f ↔ ld' f := by
      constructor
      · intro hl
        refine Classical.byContradiction (fun hn => (h1 f hf).1 hl ?_)
        obtain ⟨b1, b2, b3, -⟩ := (h2 f hf).2 hn
        exact kx_dep_iff hs' ⟨_, by omega, b2, b3⟩
      · intro hl
        refine Classical.byContradiction (fun hn => (h2 f hf).1 hl ?_)
        obtain ⟨b1, b2, b3, -⟩ := (h1 f hf).2 hn
        exact kx_dep_iff hs ⟨_, by omega, b2, b3⟩
    refine ⟨hiff, fun hn => ?_⟩
    obtain ⟨b1, b2, b3, b4⟩ := (h1 f hf).2 hn
    obtain ⟨c1, c2, c3, c4⟩ := (h2 f hf).2 (fun h => hn (hiff.mpr h))
    have hz : ∀ j, j < 6 → bs' f f * bs f j - bs f f * bs' f j = 0 := by
      have hh := kx_indep (a := a) (ld := ld) (f := f) (z := fun j => bs' f f * bs f j - bs f f * bs' f j) (fun j hj _ hlj => (h1 j (by omega)).1 hlj) (fun j hj h0 => by
        by_cases e : j = f
        · subst e
          exact absurd (by grind) h0
        · by_cases e1 : bs f j = 0
          · by_cases e2 : bs' f j = 0
            · exact absurd (by simp [e1, e2]) h0
            · rcases c2 j hj e2 with h | h
              · exact absurd h e
              · exact ⟨h.1, (hs j h.1).mpr h.2⟩
          · rcases b2 j hj e1 with h | h
            · exact absurd h e
            · exact h) (kx_ker_lin _ _ b3 c3)
      intro j hj
      exact (hh 5 0 (by decide)).2 j (Nat.zero_le _) hj
    have hp : (bs' f f).natAbs * 1 = (bs f f).natAbs * 1 := by
      have q1 := g6_mul (bs' f f).natAbs (bs f)
      have q2 := g6_mul (bs f f).natAbs (bs' f)
      rw [b4] at q1
      rw [c4] at q2
      rw [← q1, ← q2]
      refine g6_congr (fun j hj => ?_)
      have := hz j hj
      rw [Int.natAbs_of_nonneg (by omega), Int.natAbs_of_nonneg (by omega)]
      omega
    have hpp : bs' f f = bs f f := by omega
    intro j hj
    have h3 := hz j hj
    rw [hpp] at h3
    have h4 : bs f f * (bs f j - bs' f j) = 0 := by rw [Int.mul_sub]; exact h3
    rcases Int.mul_eq_zero.mp h4 with h5 | h5
    · omega
    · omega
