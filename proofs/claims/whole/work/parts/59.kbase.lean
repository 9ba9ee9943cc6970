/-! The program's bases: a vector of the kernel, divided by what its numbers have in common. -/
theorem g6_zmul (q : Int) (x : Nat → Int) : g6 (fun j => q * x j) = q.natAbs * g6 x := by
  unfold g6
  simp only [Int.natAbs_mul, Nat.gcd_mul_left]
theorem g6_pos {y : Nat → Int} {f : Nat} (hf : f < 6) (h : y f ≠ 0) : 0 < g6 y := by
  refine Nat.pos_of_ne_zero (fun e => h ?_)
  have h1 := g6_dvd y f hf
  rw [e] at h1
  have := Nat.eq_zero_of_zero_dvd h1
  omega
theorem kx_norm {a : Nat → Nat → Int} {ld : Nat → Prop} {f : Nat} {y : Nat → Int} {sg : Int} (hf : f < 6) (h0 : y f ≠ 0) (hs : kx_sup ld f y) (hk : kx_ker a y) (hsg : sg = if y f < 0 then - (g6 y : Int) else (g6 y : Int)) :
    sg ≠ 0 ∧ sg.natAbs = g6 y ∧ ∃ x, (∀ j, j < 6 → y j = sg * x j) ∧ kx_base a ld f x ∧ (∀ j, j < 6 → (x j).natAbs ≤ (y j).natAbs) ∧ ∀ j, y j = 0 → x j = 0 := by
  have hg := g6_pos hf h0
  have hsn : sg.natAbs = g6 y := by
    rw [hsg]; split <;> omega
  have hs0 : sg ≠ 0 := by omega
  have hdv : ∀ j, j < 6 → y j = sg * (y j / sg) := fun j hj => by
    refine (Int.mul_ediv_cancel' ?_).symm
    rw [← Int.natAbs_dvd_natAbs, hsn]
    exact g6_dvd y j hj
  refine ⟨hs0, hsn, fun j => y j / sg, hdv, ⟨?_, fun j hj hx => ?_, fun t ht => ?_, ?_⟩, fun j hj => ?_, fun j e => ?_⟩
  · have h1 := hdv f hf
    show 0 < y f / sg
    generalize y f / sg = z at h1
    by_cases hn : y f < 0
    · rw [if_pos hn] at hsg
      refine Int.lt_of_not_ge (fun hz => ?_)
      have h2 : (g6 y : Int) * z ≤ (g6 y : Int) * 0 := Int.mul_le_mul_of_nonneg_left hz (by omega)
      rw [hsg, Int.neg_mul] at h1
      omega
    · rw [if_neg hn] at hsg
      refine Int.lt_of_not_ge (fun hz => ?_)
      have h2 : (g6 y : Int) * z ≤ (g6 y : Int) * 0 := Int.mul_le_mul_of_nonneg_left hz (by omega)
      rw [hsg] at h1
      omega
  · refine hs j hj (fun e => hx ?_)
    show y j / sg = 0
    rw [e, Int.zero_ediv]
  · have h1 := hk t ht
    have e : s6 (fun j => y j * a j t) = sg * s6 (fun j => (y j / sg) * a j t) := by
      have e1 : s6 (fun j => y j * a j t) = s6 (fun j => sg * ((y j / sg) * a j t)) := s6_congr (fun m hm => by
        show y m * a m t = sg * (y m / sg * a m t)
        rw [← Int.mul_assoc, ← hdv m hm])
      rw [e1]
      unfold s6 s5
      grind
    rw [e] at h1
    rcases Int.mul_eq_zero.mp h1 with h2 | h2
    · exact absurd h2 hs0
    · exact h2
  · have h1 := g6_zmul sg (fun j => y j / sg)
    rw [← g6_congr (x := y) (fun j hj => hdv j hj), hsn] at h1
    have h2 : g6 y * 1 = g6 y * g6 (fun j => y j / sg) := by omega
    exact (Nat.eq_of_mul_eq_mul_left hg h2).symm
  · show (y j / sg).natAbs ≤ (y j).natAbs
    have h1 := hdv j hj
    have h2 : (y j).natAbs = sg.natAbs * (y j / sg).natAbs := by rw [← Int.natAbs_mul, ← h1]
    rw [h2]
    exact Nat.le_mul_of_pos_left _ (by omega)
  · show y j / sg = 0
    rw [e, Int.zero_ediv]
def gf (y : Nat → Int) : Nat → Nat
  | 0 => 0
  | i + 1 => Nat.gcd (gf y i) (y i).natAbs
theorem gf_6 (y : Nat → Int) : gf y 6 = g6 y := by
  show Nat.gcd (Nat.gcd (Nat.gcd (Nat.gcd (Nat.gcd (Nat.gcd 0 _) _) _) _) _) _ = _
  unfold g6
  rw [Nat.gcd_zero_left, Nat.gcd_assoc, Nat.gcd_assoc, Nat.gcd_assoc, Nat.gcd_assoc]
theorem gf_w {y : Nat → Int} {w : Nat} (hy : ∀ j, w ≤ j → j < 6 → y j = 0) : ∀ n, w + n ≤ 6 → gf y (w + n) = gf y w := by
  intro n
  induction n with
  | zero => intro _; rfl
  | succ n ih =>
    intro h
    show Nat.gcd (gf y (w + n)) (y (w + n)).natAbs = _
    rw [ih (by omega), hy (w + n) (by omega) (by omega)]
    exact Nat.gcd_zero_right _
theorem gf_le {y : Nat → Int} {b : Nat} (hy : ∀ j, j < 6 → (y j).natAbs ≤ b) : ∀ i, i ≤ 6 → gf y i ≤ b := by
  intro i
  induction i with
  | zero => intro _; exact Nat.zero_le _
  | succ i ih =>
    intro hi
    show Nat.gcd (gf y i) (y i).natAbs ≤ b
    have h1 := ih (by omega)
    by_cases e : gf y i = 0
    · rw [e, Nat.gcd_zero_left]; exact hy i (by omega)
    · exact Nat.le_trans (Nat.gcd_le_left _ (by omega)) h1
/-- a row of longs filled with one number -/
theorem k_fill {N : Nat} {σ : vS} {b : Nat} {v : Int64} (hN : 10 < N) : kok (fJ0_fill N σ b v) (fun σ' => σ'.1 = σ.1 ∧ σ'.2.1 = σ.2.1 ∧ σ'.2.2.1 = σ.2.2.1 ∧ (∀ b', b' ≠ b → σ'.2.2.2 b' = σ.2.2.2 b') ∧ ∀ j, j < k_len b → σ'.2.2.2 b j = v) := by
  have hl : k_len b ≤ 6 := by unfold k_len; split <;> omega
  unfold fJ0_fill
  refine kok_lt (kok_bd1 (P := fun σ' => σ'.1 = σ.1 ∧ σ'.2.1 = σ.2.1 ∧ σ'.2.2.1 = σ.2.2.1 ∧ (∀ b', b' ≠ b → σ'.2.2.2 b' = σ.2.2.2 b') ∧ ∀ j, j < k_len b → σ'.2.2.2 b j = v) ?_ (fun σ' h => kok_some h))
  refine kok_for (body := fun zz => bJ0_fill_6 N b v (Int32.ofNat (k_len b)) zz.1 zz.2) (k_len b) (fun i σ' => σ'.1 = σ.1 ∧ σ'.2.1 = σ.2.1 ∧ σ'.2.2.1 = σ.2.2.1 ∧ (∀ b', b' ≠ b → σ'.2.2.2 b' = σ.2.2.2 b') ∧ ∀ j, j < i → σ'.2.2.2 b j = v) (fun i σ' hi hI => ?_) (fun σ' hI => ?_) N 0 σ (by omega) (Nat.zero_le _) ⟨rfl, rfl, rfl, fun _ _ => rfl, fun j hj => by omega⟩
  · obtain ⟨e1, e2, e3, e4, e5⟩ := hI
    show kok (bJ0_fill_6 N b v (nI (k_len b)) (nI i) σ') _
    unfold bJ0_fill_6
    refine kok_f (nI_ge hi (by omega)) (kok_g (nI_in hi (by omega)) (kok_lt (kok_some ⟨_, Prod.ext (nI_1 _) rfl, e1, e2, e3, fun b' hb => ?_, fun j hj => ?_⟩)))
    · funext j; rw [pbB, if_neg hb, e4 b' hb]
    · rw [pbB, if_pos rfl, nI_clamp (by omega)]
      by_cases e : j = i
      · rw [if_pos e]
      · rw [if_neg e]; exact e5 j (by omega)
  · show kok (bJ0_fill_6 N b v (nI (k_len b)) (nI (k_len b)) σ') _
    unfold bJ0_fill_6
    exact kok_t (nI_le (Nat.le_refl _) (by omega)) (kok_some hI)
def kyv (f : Nat) (p : Int) (le : Nat → Nat) (R : Nat → Nat → Int) : Nat → Nat → Int
  | 0 => fun j => if j = f then p else 0
  | n + 1 => fun j => if j = le n then - R n f else kyv f p le R n j
theorem kyv_f {f k : Nat} {p : Int} {le : Nat → Nat} {R : Nat → Nat → Int} (h : ∀ m, m < k → le m ≠ f) : kyv f p le R k f = p := by
  induction k with
  | zero => show (if f = f then p else 0) = p; rw [if_pos rfl]
  | succ k ih =>
    show (if f = le k then _ else kyv f p le R k f) = p
    rw [if_neg (Ne.symm (h k (by omega)))]
    exact ih (fun m hm => h m (by omega))
theorem kyv_l {f k : Nat} {p : Int} {le : Nat → Nat} {R : Nat → Nat → Int} (hi : ∀ m m', m < k → m' < k → le m = le m' → m = m') : ∀ m, m < k → kyv f p le R k (le m) = - R m f := by
  induction k with
  | zero => intro m hm; omega
  | succ k ih =>
    intro m hm
    show (if le m = le k then - R k f else kyv f p le R k (le m)) = _
    by_cases e : m = k
    · subst e; rw [if_pos rfl]
    · rw [if_neg (fun e2 => e (hi m k hm (by omega) e2))]
      exact ih (fun m m' h1 h2 h3 => hi m m' (by omega) (by omega) h3) m (by omega)
theorem kyv_0 {f k : Nat} {p : Int} {le : Nat → Nat} {R : Nat → Nat → Int} : ∀ j, j ≠ f → (∀ m, m < k → le m ≠ j) → kyv f p le R k j = 0 := by
  induction k with
  | zero => intro j hj _; show (if j = f then p else 0) = 0; rw [if_neg hj]
  | succ k ih =>
    intro j hj hm
    show (if j = le k then _ else kyv f p le R k j) = 0
    rw [if_neg (Ne.symm (hm k (by omega)))]
    exact ih j hj (fun m h => hm m (by omega))
theorem kyv_b {f k b : Nat} {p : Int} {le : Nat → Nat} {R : Nat → Nat → Int} (hp : p.natAbs ≤ b) (hR : ∀ m, m < k → (R m f).natAbs ≤ b) : ∀ j, (kyv f p le R k j).natAbs ≤ b := by
  induction k with
  | zero =>
    intro j
    show (if j = f then p else 0).natAbs ≤ b
    split
    · exact hp
    · exact Nat.zero_le _
  | succ k ih =>
    intro j
    show (if j = le k then - R k f else kyv f p le R k j).natAbs ≤ b
    have h1 := hR k (by omega)
    split
    · omega
    · exact ih (fun m hm => hR m (by omega)) j
theorem k_makeBase {N h w k f b : Nat} {σ : vS} {a : Nat → Nat → Int} {le : Nat → Nat} {B R : Nat → Nat → Int} {s p : Int} (hN : 300 < N) (hw : w ≤ 6) (ha : kx_in h a) (hS : kx_st h k a le B s p R) (hl : kx_ll w k le (kl a)) (hT : kT h w σ k p R) (h7 : ∀ m, m < k → σ.2.1 7 m = nI (le m)) (hf : f < w) (hnl : ¬ kl a f) (hb5 : 5 ≤ b) (hb11 : b < 11) :
    kok (fX0_makeBase N σ b (nI f)) (fun σ' => (∃ x, kx_base a (kl a) f x ∧ (∀ j, j < w → σ'.2.2.2 b j = lI (x j)) ∧ (∀ j, j < 6 → (x j).natAbs ≤ 12288000000)) ∧ σ'.1 = σ.1 ∧ σ'.2.1 = σ.2.1 ∧ σ'.2.2.1 = σ.2.2.1 ∧ ∀ b', b' ≠ b → σ'.2.2.2 b' = σ.2.2.2 b') := by
  have hlen : k_len b = 6 := by unfold k_len; rw [if_neg (by omega)]
  have hkh := hS.1
  have hh5 := hS.2.1
  have pw : ∀ e, e ≤ 5 → 120 * 40 ^ e ≤ 12288000000 := fun e he => by
    rcases (show e = 0 ∨ e = 1 ∨ e = 2 ∨ e = 3 ∨ e = 4 ∨ e = 5 by omega) with rfl | rfl | rfl | rfl | rfl | rfl <;> decide
  have hpb : p.natAbs ≤ 12288000000 := Nat.le_trans (kx_bdp ha hS) (pw k (by omega))
  have hRb : ∀ m, m < k → (R m f).natAbs ≤ 12288000000 := fun m hm => by
    have h1 := kx_bdR ha hS (i := m) (j := f) (by omega) (by omega)
    rw [if_pos hm] at h1
    exact Nat.le_trans h1 (pw k (by omega))
  have hne : ∀ m, m < k → le m ≠ f := fun m hm e => hnl (by rw [← e]; exact (hl.1 m hm).2)
  have hyf : kyv f p le R k f = p := kyv_f hne
  have hyb : ∀ j, (kyv f p le R k j).natAbs ≤ 12288000000 := kyv_b hpb hRb
  have hyw : ∀ j, w ≤ j → j < 6 → kyv f p le R k j = 0 := fun j hj _ => kyv_0 j (by omega) (fun m hm => by have := (hl.1 m hm).1; omega)
  obtain ⟨hsup, hker⟩ := kx_final (y := kyv f p le R k) ha hS hl hw hf hnl (Classical.byContradiction (fun hn => hnl ((kl_iff a f).mpr hn))) hyf (kyv_l hl.2.2) (fun j _ hj hm => kyv_0 j hj hm)
  obtain ⟨hs0, hsn, x, hx, hxb, hxl, hxz⟩ := kx_norm (y := kyv f p le R k) (f := f) (a := a) (ld := kl a) (sg := if kyv f p le R k f < 0 then - (g6 (kyv f p le R k) : Int) else (g6 (kyv f p le R k) : Int)) (by omega) (by rw [hyf]; exact hS.2.2.2.2.1) hsup hker rfl
  rw [hyf] at hs0 hsn hx
  have hgb : g6 (kyv f p le R k) ≤ 12288000000 := by
    rw [← gf_6]; exact gf_le (fun j _ => hyb j) 6 (Nat.le_refl _)
  obtain ⟨h12, h13, h14, hJ, hR⟩ := hT
  unfold fX0_makeBase
  refine kok_bd1 (k_fill (by omega)) (fun σ1 h1 => ?_)
  obtain ⟨e1, e2, e3, e4, e5⟩ := h1
  rw [hlen] at e5
  refine kok_g (by rw [hlen]; exact nI_in (by omega) (by omega)) ?_
  rw [nI_clamp (by omega), e3, hJ]
  refine kok_bd1 (P := fun σ2 => σ2.1 = σ.1 ∧ σ2.2.1 = σ.2.1 ∧ σ2.2.2.1 = σ.2.2.1 ∧ (∀ b', b' ≠ b → σ2.2.2.2 b' = σ.2.2.2 b') ∧ ∀ j, j < 6 → σ2.2.2.2 b j = lI (kyv f p le R k j)) ?_ (fun σ2 h2 => ?_)
  · refine kok_for (body := fun zz => bX0_makeBase_14 N b (nI f) zz.1 zz.2) k (fun n σ2 => σ2.1 = σ.1 ∧ σ2.2.1 = σ.2.1 ∧ σ2.2.2.1 = σ.2.2.1 ∧ (∀ b', b' ≠ b → σ2.2.2.2 b' = σ.2.2.2 b') ∧ ∀ j, j < 6 → σ2.2.2.2 b j = lI (kyv f p le R n j)) (fun n σ2 hn hI => ?_) (fun σ2 hI => ?_) N 0 _ (by omega) (Nat.zero_le _) ⟨e1, e2, e3, fun b' hb => ?_, fun j hj => ?_⟩
    · obtain ⟨f1, f2, f3, f4, f5⟩ := hI
      show kok (bX0_makeBase_14 N b (nI f) (nI n) σ2) _
      unfold bX0_makeBase_14
      have hle6 : le n < 6 := hS.2.2.2.2.2.2.2 n hn
      rw [f1, h12, hlen]
      refine kok_f (nI_ge hn (by omega)) (kok_g (nI_in (by omega) (by omega)) (kok_g (nI_in (by omega) (by omega)) (kok_g (nI_in (by omega) (by omega)) ?_)))
      rw [nI_clamp (by omega), nI_clamp (by omega), f2, h7 n hn, f4 (11 + n) (by omega), hR n (by omega) f hf]
      refine kok_g (nI_in (by omega) (by omega)) (kok_lt (kok_some ⟨_, Prod.ext (nI_1 _) rfl, f1, f2, f3, fun b' hb => ?_, fun j hj => ?_⟩))
      · funext j; rw [pbB, if_neg hb, f4 b' hb]
      · rw [pbB, if_pos rfl, nI_clamp (by omega), lI_neg]
        show _ = lI (if j = le n then - R n f else kyv f p le R n j)
        by_cases e : j = le n
        · rw [if_pos e, if_pos e]
        · rw [if_neg e, if_neg e]; exact f5 j hj
    · obtain ⟨f1, f2, f3, f4, f5⟩ := hI
      show kok (bX0_makeBase_14 N b (nI f) (nI k) σ2) _
      unfold bX0_makeBase_14
      rw [f1, h12]
      exact kok_t (nI_le (Nat.le_refl _) (by omega)) (kok_some ⟨f1, f2, f3, f4, f5⟩)
    · funext j; rw [pbB, if_neg hb, e4 b' hb]
    · rw [pbB, if_pos rfl]
      show _ = lI (if j = f then p else 0)
      by_cases e : j = f
      · rw [if_pos e, if_pos e]
      · rw [if_neg e, if_neg e]; exact e5 j hj
  · obtain ⟨f1, f2, f3, f4, f5⟩ := h2
    unfold jX0_makeBase_45
    refine kok_bd1 (P := fun q => q = lI (g6 (kyv f p le R k))) ?_ (fun q hq => ?_)
    · refine kok_itr (fun v q => ∃ i, q = (lI (gf (kyv f p le R k) i), nI i) ∧ i ≤ w ∧ v = w - i) (fun v q hq => ?_) N w _ (by omega) ⟨0, rfl, Nat.zero_le _, rfl⟩
      obtain ⟨i, rfl, hi, rfl⟩ := hq
      show kok (bX0_makeBase_50 N b σ2 (lI (gf (kyv f p le R k) i)) (nI i)) _
      unfold bX0_makeBase_50
      rw [f1, h14, hlen]
      by_cases hiw : i < w
      · refine kok_f (nI_ge hiw (by omega)) (kok_g (nI_in (by omega) (by omega)) ?_)
        rw [nI_clamp (by omega), f5 i (by omega)]
        have hgi := gf_le (b := 12288000000) (fun j _ => hyb j) i (by omega)
        have hyi := hyb i
        refine kok_bd1 (k_gcd hN (by omega) (by omega)) (fun r hr => kok_lt (kok_some ?_))
        refine ⟨w - (i + 1), by omega, i + 1, ?_, by omega, rfl⟩
        rw [hr, nI_1]
        rfl
      · have e : i = w := by omega
        subst e
        refine kok_t (nI_le (Nat.le_refl _) (by omega)) (kok_some ?_)
        show lI _ = lI _
        have h1 := gf_w (y := kyv f p le R k) (w := i) hyw (6 - i) (by omega)
        rw [show i + (6 - i) = 6 by omega, gf_6] at h1
        rw [h1]
    · subst hq
      have fin : ∀ sg : Int, sg = (if p < 0 then - (g6 (kyv f p le R k) : Int) else (g6 (kyv f p le R k) : Int)) → kok (jX0_makeBase_91 N b σ2 (lI sg)) (fun σ' => (∃ x, kx_base a (kl a) f x ∧ (∀ j, j < w → σ'.2.2.2 b j = lI (x j)) ∧ (∀ j, j < 6 → (x j).natAbs ≤ 12288000000)) ∧ σ'.1 = σ.1 ∧ σ'.2.1 = σ.2.1 ∧ σ'.2.2.1 = σ.2.2.1 ∧ ∀ b', b' ≠ b → σ'.2.2.2 b' = σ.2.2.2 b') := by
        intro sg hsg
        subst hsg
        generalize (if p < 0 then - (g6 (kyv f p le R k) : Int) else (g6 (kyv f p le R k) : Int)) = sg at hs0 hsn hx
        unfold jX0_makeBase_91
        refine kok_bd1 (P := fun σ' => (∃ x, kx_base a (kl a) f x ∧ (∀ j, j < w → σ'.2.2.2 b j = lI (x j)) ∧ (∀ j, j < 6 → (x j).natAbs ≤ 12288000000)) ∧ σ'.1 = σ.1 ∧ σ'.2.1 = σ.2.1 ∧ σ'.2.2.1 = σ.2.2.1 ∧ ∀ b', b' ≠ b → σ'.2.2.2 b' = σ.2.2.2 b') ?_ (fun q h => kok_some h)
        refine kok_for (body := fun zz => bX0_makeBase_94 N b (lI sg) zz.1 zz.2) w (fun n σ3 => σ3.1 = σ.1 ∧ σ3.2.1 = σ.2.1 ∧ σ3.2.2.1 = σ.2.2.1 ∧ (∀ b', b' ≠ b → σ3.2.2.2 b' = σ.2.2.2 b') ∧ (∀ j, j < n → σ3.2.2.2 b j = lI (x j)) ∧ ∀ j, n ≤ j → j < 6 → σ3.2.2.2 b j = lI (kyv f p le R k j)) (fun n σ3 hn hI => ?_) (fun σ3 hI => ?_) N 0 _ (by omega) (Nat.zero_le _) ⟨f1, f2, f3, f4, fun j hj => by omega, fun j _ hj => f5 j hj⟩
        · obtain ⟨g1, g2, g3, g4, g5, g6'⟩ := hI
          show kok (bX0_makeBase_94 N b (lI sg) (nI n) σ3) _
          unfold bX0_makeBase_94
          rw [g1, h14, hlen]
          refine kok_f (nI_ge hn (by omega)) (kok_g (nI_in (by omega) (by omega)) ?_)
          have hyn := hyb n
          rw [nI_clamp (by omega), g6' n (Nat.le_refl _) (by omega)]
          rw [hx n (by omega)] at hyn
          rw [hx n (by omega), k_quot hs0 (by omega) (by omega)]
          refine kok_g (nI_g (by omega) (by omega)) (kok_lt (kok_some ⟨_, Prod.ext (nI_1 _) rfl, g1, g2, g3, fun b' hb => ?_, fun j hj => ?_, fun j hj hj6 => ?_⟩))
          · funext j; rw [pbB, if_neg hb, g4 b' hb]
          · rw [pbB, if_pos rfl]
            by_cases e : j = n
            · rw [if_pos e, e]
            · rw [if_neg e]; exact g5 j (by omega)
          · rw [pbB, if_pos rfl, if_neg (by omega)]
            exact g6' j (by omega) hj6
        · obtain ⟨g1, g2, g3, g4, g5, g6'⟩ := hI
          show kok (bX0_makeBase_94 N b (lI sg) (nI w) σ3) _
          unfold bX0_makeBase_94
          rw [g1, h14]
          exact kok_t (nI_le (Nat.le_refl _) (by omega)) (kok_some ⟨⟨x, hxb, g5, fun j hj => Nat.le_trans (hxl j hj) (hyb j)⟩, g1, g2, g3, g4⟩)
      unfold jX0_makeBase_74
      rw [f3, hJ]
      refine kok_i (fun hge => ?_) (fun hlt => kok_lt ?_)
      · have h1 : 0 ≤ p := (lI_le (a := 0) (by decide) (by omega)).mp ((lg_cmp_ge _ _).mp hge)
        exact fin _ (by rw [if_neg (by omega)])
      · have h1 : ¬ 0 ≤ p := fun h2 => hlt ((lg_cmp_ge _ _).mpr ((lI_le (a := 0) (by decide) (by omega)).mpr h2))
        rw [lI_neg]
        exact fin _ (by rw [if_pos (by omega)])
