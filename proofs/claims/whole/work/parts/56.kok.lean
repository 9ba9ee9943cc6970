/-! Rules for the plain functions: 'kok X P': X comes out, as something with P. Numbers. -/
def kok {α : Type} (X : Option α) (P : α → Prop) : Prop := ∃ r, X = some r ∧ P r
theorem kok_some {α : Type} {P : α → Prop} {a : α} (h : P a) : kok (some a) P := ⟨a, rfl, h⟩
theorem kok_of {α : Type} {P : α → Prop} {X : Option α} {a : α} (e : X = some a) (h : P a) : kok X P := ⟨a, e, h⟩
theorem kok_mono {α : Type} {P Q : α → Prop} {X : Option α} (h : kok X P) (hpq : ∀ a, P a → Q a) : kok X Q := by
  obtain ⟨r, e, h⟩ := h
  exact ⟨r, e, hpq r h⟩
theorem kok_lt {α β : Type} {a : α} {F : α → Option β} {Q : β → Prop} (h : kok (F a) Q) : kok (k_lt a F) Q := h
theorem kok_bd1 {α β : Type} {X : Option α} {F : α → Option β} {P : α → Prop} {Q : β → Prop} (h : kok X P) (hF : ∀ a, P a → kok (F a) Q) : kok (bd1 X F) Q := by
  obtain ⟨r, e, h⟩ := h
  rw [e]
  exact hF r h
theorem kok_bd2 {α β γ : Type} {X : Option (α × β)} {F : α → β → Option γ} {P : α × β → Prop} {Q : γ → Prop} (h : kok X P) (hF : ∀ a b, P (a, b) → kok (F a b) Q) : kok (bd2 X F) Q := by
  obtain ⟨r, e, h⟩ := h
  rw [e]
  exact hF r.1 r.2 h
def kso {S R : Type} (P : S → Prop) (Q : R → Prop) : S ⊕ R → Prop
  | .inl s => P s
  | .inr r => Q r
theorem kok_bds {E T : Type} {X : Option (E ⊕ T)} {F : E → Option T} {Q : T → Prop} (h : kok X (kso (fun e => kok (F e) Q) Q)) : kok (bds X F) Q := by
  obtain ⟨r, e, h⟩ := h
  rw [e]
  cases r with
  | inl e => exact h
  | inr t => exact ⟨t, rfl, h⟩
theorem kok_g {α : Type} {c : Prop} {d : Decidable c} {A : Option α} {Q : α → Prop} (hc : ¬ c) (h : kok A Q) : kok (@ite _ c d none A) Q := by
  rw [if_neg hc]; exact h
theorem kok_t {α : Type} {c : Prop} {d : Decidable c} {A B : Option α} {Q : α → Prop} (hc : c) (h : kok A Q) : kok (@ite _ c d A B) Q := by
  rw [if_pos hc]; exact h
theorem kok_f {α : Type} {c : Prop} {d : Decidable c} {A B : Option α} {Q : α → Prop} (hc : ¬ c) (h : kok B Q) : kok (@ite _ c d A B) Q := by
  rw [if_neg hc]; exact h
theorem kok_i {α : Type} {c : Prop} {d : Decidable c} {A B : Option α} {Q : α → Prop} (h1 : c → kok A Q) (h2 : ¬ c → kok B Q) : kok (@ite _ c d A B) Q := by
  by_cases hc : c
  · exact kok_t hc (h1 hc)
  · exact kok_f hc (h2 hc)
/-- a loop: 'I v s' with v that falls -/
theorem kok_itr {S R : Type} {body : S → Option (S ⊕ R)} {Q : R → Prop} (I : Nat → S → Prop) (h : ∀ v s, I v s → kok (body s) (kso (fun s' => ∃ v', v' < v ∧ I v' s') Q)) : ∀ N v s, v < N → I v s → kok (k_itr body N s) Q := by
  intro N
  induction N with
  | zero => intro v s h1; omega
  | succ N ih =>
    intro v s h1 h2
    obtain ⟨o, e, ho⟩ := h v s h2
    cases o with
    | inl s' =>
      obtain ⟨v', hv, hI⟩ := ho
      obtain ⟨r, e2, hr⟩ := ih v' s' (by omega) hI
      exact ⟨r, by simp only [k_itr, e]; exact e2, hr⟩
    | inr r => exact ⟨r, by simp only [k_itr, e], ho⟩
/-- a loop that counts i from i0 to n with a state -/
theorem kok_for {S R : Type} {body : Int32 × S → Option ((Int32 × S) ⊕ R)} {Q : R → Prop} (n : Nat) (I : Nat → S → Prop) (hb : ∀ i s, i < n → I i s → kok (body (nI i, s)) (kso (fun q => ∃ s', q = (nI (i + 1), s') ∧ I (i + 1) s') Q)) (he : ∀ s, I n s → kok (body (nI n, s)) (kso (fun _ => False) Q)) (N i : Nat) (s : S) (hN : n < N) (hi : i ≤ n) (h : I i s) : kok (k_itr body N (nI i, s)) Q := by
  refine kok_itr (fun v q => ∃ i s, q = (nI i, s) ∧ i ≤ n ∧ v = n - i ∧ I i s) ?_ N (n - i) _ (by omega) ⟨i, s, rfl, hi, rfl, h⟩
  rintro v q ⟨i, s, rfl, hi, rfl, h⟩
  by_cases hin : i < n
  · refine kok_mono (hb i s hin h) (fun o ho => ?_)
    cases o with
    | inl q =>
      obtain ⟨s', rfl, h'⟩ := ho
      exact ⟨n - (i + 1), by omega, i + 1, s', rfl, by omega, rfl, h'⟩
    | inr r => exact ho
  · have e : i = n := by omega
    subst e
    refine kok_mono (he s h) (fun o ho => ?_)
    cases o with
    | inl q => exact absurd ho (fun h => h)
    | inr r => exact ho
/-- the same, the counter alone -/
theorem kok_for0 {R : Type} {body : Int32 → Option (Int32 ⊕ R)} {Q : R → Prop} (n : Nat) (I : Nat → Prop) (hb : ∀ i, i < n → I i → kok (body (nI i)) (kso (fun q => q = nI (i + 1) ∧ I (i + 1)) Q)) (he : I n → kok (body (nI n)) (kso (fun _ => False) Q)) (N i : Nat) (hN : n < N) (hi : i ≤ n) (h : I i) : kok (k_itr body N (nI i)) Q := by
  refine kok_itr (fun v q => ∃ i, q = nI i ∧ i ≤ n ∧ v = n - i ∧ I i) ?_ N (n - i) _ (by omega) ⟨i, rfl, hi, rfl, h⟩
  rintro v q ⟨i, rfl, hi, rfl, h⟩
  by_cases hin : i < n
  · refine kok_mono (hb i hin h) (fun o ho => ?_)
    cases o with
    | inl q =>
      obtain ⟨rfl, h'⟩ := ho
      exact ⟨n - (i + 1), by omega, i + 1, rfl, by omega, rfl, h'⟩
    | inr r => exact ho
  · have e : i = n := by omega
    subst e
    refine kok_mono (he h) (fun o ho => ?_)
    cases o with
    | inl q => exact absurd ho (fun h => h)
    | inr r => exact ho
/-! longs that stand for whole numbers -/
def lI (z : Int) : Int64 := Int64.ofInt z
theorem lI_mul (a b : Int) : lI a * lI b = lI (a * b) := (Int64.ofInt_mul a b).symm
theorem lI_add (a b : Int) : lI a + lI b = lI (a + b) := (Int64.ofInt_add a b).symm
theorem lI_sub (a b : Int) : lI a - lI b = lI (a - b) := (Int64.ofInt_sub a b).symm
theorem lI_neg (a : Int) : - lI a = lI (- a) := (Int64.ofInt_neg a).symm
theorem lI_0 : (0 : Int64) = lI 0 := rfl
theorem lI_1 : (1 : Int64) = lI 1 := rfl
theorem lI_toInt {z : Int} (h : z.natAbs < 2 ^ 63) : (lI z).toInt = z := Int64.toInt_ofInt_of_le (by omega) (by omega)
theorem lI_eq {a b : Int} (ha : a.natAbs < 2 ^ 63) (hb : b.natAbs < 2 ^ 63) : lI a = lI b ↔ a = b := by
  rw [← Int64.toInt_inj, lI_toInt ha, lI_toInt hb]
theorem lI_eq0 {a : Int} (ha : a.natAbs < 2 ^ 63) : lI a = 0 ↔ a = 0 := by rw [lI_0]; exact lI_eq ha (by decide)
theorem lI_lt {a b : Int} (ha : a.natAbs < 2 ^ 63) (hb : b.natAbs < 2 ^ 63) : lI a < lI b ↔ a < b := by
  rw [Int64.lt_iff_toInt_lt, lI_toInt ha, lI_toInt hb]
theorem lI_le {a b : Int} (ha : a.natAbs < 2 ^ 63) (hb : b.natAbs < 2 ^ 63) : lI a ≤ lI b ↔ a ≤ b := by
  rw [Int64.le_iff_toInt_le, lI_toInt ha, lI_toInt hb]
theorem lI_div {a b : Int} (ha : a.natAbs < 2 ^ 63) (hb : b.natAbs < 2 ^ 63) : lI a / lI b = lI (a.tdiv b) := by
  rw [← Int64.toInt_inj, Int64.toInt_div, lI_toInt ha, lI_toInt hb]
  unfold lI
  rw [Int64.toInt_ofInt]
theorem lI_rem {a b : Int} (ha : a.natAbs < 2 ^ 63) (hb : b.natAbs < 2 ^ 63) : lI a - lI a / lI b * lI b = lI (a.tmod b) := by
  rw [lI_div ha hb, lI_mul, lI_sub, Int.tmod_def, Int.mul_comm b]
theorem lI_of (x : Int64) : x = lI x.toInt := (Int64.ofInt_toInt x).symm
theorem lI_i (x : Int32) : x.toInt64 = lI x.toInt := by
  rw [← Int64.toInt_inj, Int32.toInt_toInt64, lI_toInt]
  have h1 := Int32.le_toInt x
  have h2 := Int32.toInt_lt x
  omega
theorem k_abs_lI {a : Int} (ha : a.natAbs < 2 ^ 63) : k_abs (lI a) = lI (a.natAbs : Int) := by
  unfold k_abs
  rw [lI_0]
  by_cases h : 0 < a
  · rw [if_pos ((lI_lt (by decide) ha).mpr h), Int.natAbs_of_nonneg (by omega)]
  · rw [if_neg (fun h2 => h ((lI_lt (by decide) ha).mp h2)), lI_neg]
    congr 1
    omega
/-! states -/
theorem pbB (σ : vS) (b i : Nat) (v : Int64) (b' j : Nat) : (p_b σ b i v).2.2.2 b' j = if b' = b then (if j = i then v else σ.2.2.2 b j) else σ.2.2.2 b' j := by
  show va_up σ.2.2.2 b (vp_updL (σ.2.2.2 b) i v) b' j = _
  unfold va_up
  by_cases h : b' = b
  · subst h; simp [vp_updL]
  · simp [h]
theorem paA (σ : vS) (b i : Nat) (v : Int32) (b' j : Nat) : (p_a σ b i v).2.1 b' j = if b' = b then (if j = i then v else σ.2.1 b j) else σ.2.1 b' j := by
  show va_up σ.2.1 b (upd (σ.2.1 b) i v) b' j = _
  unfold va_up
  by_cases h : b' = b
  · subst h; simp [upd]
  · simp [h]
theorem piI (σ : vS) (k : Nat) (v : Int32) (k' : Nat) : (p_i σ k v).1 k' = if k' = k then v else σ.1 k' := by
  show upd σ.1 k v k' = _
  simp [upd]
theorem pjJ (σ : vS) (k : Nat) (v : Int64) (k' : Nat) : (p_j σ k v).2.2.1 k' = if k' = k then v else σ.2.2.1 k' := by
  show vp_updL σ.2.2.1 k v k' = _
  simp [vp_updL]
