/-! The law's start and its end: both objects made, their worlds as the systems have them; the claim out of one turn's simulation. -/
def aK (h0 : Nat) (u : Nat → Nat) (k : Nat) : Nat := ([h0, u 0, u 12, u 17, u 1, u 3, u 9, u 14, u 15, u 5, u 2, u 4, u 6, u 7, u 8, u 10, u 13, u 16, u 18, u 5 + 1 + 0, u 5 + 1 + 1, u 5 + 1 + 2, u 5 + 1 + 3, u 5 + 1 + 4, u 5 + 1 + 5, u 11, u 9 + 1 + 0, u 9 + 1 + 1, u 9 + 1 + 2, u 9 + 1 + 3, u 14 + 1 + 0, u 14 + 1 + 1, u 14 + 1 + 2, u 14 + 1 + 3, u 14 + 1 + 4, u 14 + 1 + 5, u 15 + 1 + 0, u 15 + 1 + 1, u 15 + 1 + 2, u 15 + 1 + 3, u 15 + 1 + 4] : List Nat).getD k 0
def aM (h0 : Nat) (u : Nat → Nat) (k : Nat) : Nat := ([h0, u 0, u 1, u 2, u 3, u 4, u 7, u 9, u 10, u 11, u 13, u 15, u 5, u 6, u 8, u 12, u 14] : List Nat).getD k 0
def pmK (k : Nat) : Nat := ([0, 1, 23, 39, 2, 4, 16, 25, 32, 6, 3, 5, 13, 14, 15, 21, 24, 38, 40, 7, 8, 9, 10, 11, 12, 22, 17, 18, 19, 20, 26, 27, 28, 29, 30, 31, 33, 34, 35, 36, 37] : List Nat).getD k 0
def pmM (k : Nat) : Nat := ([0, 1, 2, 3, 4, 5, 8, 10, 11, 12, 14, 16, 6, 7, 9, 13, 15] : List Nat).getD k 0
theorem pmK_inj : ∀ i, i < 41 → ∀ j, j < 41 → pmK i = pmK j → i = j := by decide
theorem pmM_inj : ∀ i, i < 17 → ∀ j, j < 17 → pmM i = pmM j → i = j := by decide
theorem pmK_lt : ∀ i, i < 41 → pmK i < 41 := by decide
theorem pmM_lt : ∀ i, i < 17 → pmM i < 17 := by decide
def sK0 : vS := (fun k => if k = 7 then -1 else if k = 11 then -1 else 0, fun _ _ => 0, fun _ => 1, fun _ _ => 0)
def sM0 : vS := (fun k => if k = 6 then -1 else 0, fun _ _ => 0, fun _ => 0, fun _ _ => 0)
theorem k_arrV {c : ClassId} {n : Nat} {f g : Nat → Value} (h : ∀ j, j < n → f j = g j) : arrV c n f = arrV c n g := by
  unfold arrV
  have e : (fun j : Fin n => f j.val) = (fun j : Fin n => g j.val) := funext fun j => h j.1 j.2
  rw [e]
theorem k_cellR {c : ClassId} {n : Nat} {f g : Nat → Option Nat} (h : ∀ j, j < n → f j = g j) : vp_cell c (n, .inr (.inr (.inr (.inr f)))) = vp_cell c (n, .inr (.inr (.inr (.inr g)))) :=
  k_arrV (fun j hj => congrArg va_rf (h j hj))
set_option maxRecDepth 100000 in
theorem k_startK {D : va_G} {cs : Nat → ClassId} {h0 : Nat} {u : Nat → Nat} {H : Heap} (hP : va_P D vwCl (LX5_init cs h0 u) H) : va_P D vwCl (wK cs (aK h0 u) sK0) H := by
  intro k q hq
  have hk : k < 41 := (List.getElem?_eq_some_iff.mp hq).1
  rcases (show k = 0 ∨ k = 1 ∨ k = 2 ∨ k = 3 ∨ k = 4 ∨ k = 5 ∨ k = 6 ∨ k = 7 ∨ k = 8 ∨ k = 9 ∨ k = 10 ∨ k = 11 ∨ k = 12 ∨ k = 13 ∨ k = 14 ∨ k = 15 ∨ k = 16 ∨ k = 17 ∨ k = 18 ∨ k = 19 ∨ k = 20 ∨ k = 21 ∨ k = 22 ∨ k = 23 ∨ k = 24 ∨ k = 25 ∨ k = 26 ∨ k = 27 ∨ k = 28 ∨ k = 29 ∨ k = 30 ∨ k = 31 ∨ k = 32 ∨ k = 33 ∨ k = 34 ∨ k = 35 ∨ k = 36 ∨ k = 37 ∨ k = 38 ∨ k = 39 ∨ k = 40 by omega) with rfl | rfl | rfl | rfl | rfl | rfl | rfl | rfl | rfl | rfl | rfl | rfl | rfl | rfl | rfl | rfl | rfl | rfl | rfl | rfl | rfl | rfl | rfl | rfl | rfl | rfl | rfl | rfl | rfl | rfl | rfl | rfl | rfl | rfl | rfl | rfl | rfl | rfl | rfl | rfl | rfl <;> cases hq
  · exact hP 0 _ rfl
  · exact hP 1 _ rfl
  · exact hP 23 _ rfl
  · exact hP 39 _ rfl
  · exact hP 2 _ rfl
  · exact hP 4 _ rfl
  · exact (hP 16 _ rfl).trans (congrArg some (k_cellR (fun j hj => by rcases (show j = 0 ∨ j = 1 ∨ j = 2 ∨ j = 3 by omega) with rfl | rfl | rfl | rfl <;> rfl)))
  · exact (hP 25 _ rfl).trans (congrArg some (k_cellR (fun j hj => by rcases (show j = 0 ∨ j = 1 ∨ j = 2 ∨ j = 3 ∨ j = 4 ∨ j = 5 by omega) with rfl | rfl | rfl | rfl | rfl | rfl <;> rfl)))
  · exact (hP 32 _ rfl).trans (congrArg some (k_cellR (fun j hj => by rcases (show j = 0 ∨ j = 1 ∨ j = 2 ∨ j = 3 ∨ j = 4 by omega) with rfl | rfl | rfl | rfl | rfl <;> rfl)))
  · exact (hP 6 _ rfl).trans (congrArg some (k_cellR (fun j hj => by rcases (show j = 0 ∨ j = 1 ∨ j = 2 ∨ j = 3 ∨ j = 4 ∨ j = 5 by omega) with rfl | rfl | rfl | rfl | rfl | rfl <;> rfl)))
  · exact hP 3 _ rfl
  · exact hP 5 _ rfl
  · exact hP 13 _ rfl
  · exact hP 14 _ rfl
  · exact hP 15 _ rfl
  · exact hP 21 _ rfl
  · exact hP 24 _ rfl
  · exact hP 38 _ rfl
  · exact hP 40 _ rfl
  · exact hP 7 _ rfl
  · exact hP 8 _ rfl
  · exact hP 9 _ rfl
  · exact hP 10 _ rfl
  · exact hP 11 _ rfl
  · exact hP 12 _ rfl
  · exact hP 22 _ rfl
  · exact hP 17 _ rfl
  · exact hP 18 _ rfl
  · exact hP 19 _ rfl
  · exact hP 20 _ rfl
  · exact hP 26 _ rfl
  · exact hP 27 _ rfl
  · exact hP 28 _ rfl
  · exact hP 29 _ rfl
  · exact hP 30 _ rfl
  · exact hP 31 _ rfl
  · exact hP 33 _ rfl
  · exact hP 34 _ rfl
  · exact hP 35 _ rfl
  · exact hP 36 _ rfl
  · exact hP 37 _ rfl
set_option maxRecDepth 100000 in
theorem k_startM {D : va_G} {cs : Nat → ClassId} {h0 : Nat} {u : Nat → Nat} {H : Heap} (hP : va_P D vwCl (LX6_init cs h0 u) H) : va_P D vwCl (wM cs (aM h0 u) sM0) H := by
  intro k q hq
  have hk : k < 17 := (List.getElem?_eq_some_iff.mp hq).1
  rcases (show k = 0 ∨ k = 1 ∨ k = 2 ∨ k = 3 ∨ k = 4 ∨ k = 5 ∨ k = 6 ∨ k = 7 ∨ k = 8 ∨ k = 9 ∨ k = 10 ∨ k = 11 ∨ k = 12 ∨ k = 13 ∨ k = 14 ∨ k = 15 ∨ k = 16 by omega) with rfl | rfl | rfl | rfl | rfl | rfl | rfl | rfl | rfl | rfl | rfl | rfl | rfl | rfl | rfl | rfl | rfl <;> cases hq
  · exact hP 0 _ rfl
  · exact hP 1 _ rfl
  · exact hP 2 _ rfl
  · exact hP 3 _ rfl
  · exact hP 4 _ rfl
  · exact hP 5 _ rfl
  · exact hP 8 _ rfl
  · exact hP 10 _ rfl
  · exact hP 11 _ rfl
  · exact hP 12 _ rfl
  · exact hP 14 _ rfl
  · exact hP 16 _ rfl
  · exact hP 6 _ rfl
  · exact hP 7 _ rfl
  · exact hP 9 _ rfl
  · exact hP 13 _ rfl
  · exact hP 15 _ rfl
set_option maxRecDepth 100000 in
theorem k_adK (cs : Nat → ClassId) (h0 : Nat) (u : Nat → Nat) : ∀ k, k < 41 → ((LX5_init cs h0 u).map Prod.fst)[pmK k]? = some (aK h0 u k) := by
  intro k hk
  rcases (show k = 0 ∨ k = 1 ∨ k = 2 ∨ k = 3 ∨ k = 4 ∨ k = 5 ∨ k = 6 ∨ k = 7 ∨ k = 8 ∨ k = 9 ∨ k = 10 ∨ k = 11 ∨ k = 12 ∨ k = 13 ∨ k = 14 ∨ k = 15 ∨ k = 16 ∨ k = 17 ∨ k = 18 ∨ k = 19 ∨ k = 20 ∨ k = 21 ∨ k = 22 ∨ k = 23 ∨ k = 24 ∨ k = 25 ∨ k = 26 ∨ k = 27 ∨ k = 28 ∨ k = 29 ∨ k = 30 ∨ k = 31 ∨ k = 32 ∨ k = 33 ∨ k = 34 ∨ k = 35 ∨ k = 36 ∨ k = 37 ∨ k = 38 ∨ k = 39 ∨ k = 40 by omega) with rfl | rfl | rfl | rfl | rfl | rfl | rfl | rfl | rfl | rfl | rfl | rfl | rfl | rfl | rfl | rfl | rfl | rfl | rfl | rfl | rfl | rfl | rfl | rfl | rfl | rfl | rfl | rfl | rfl | rfl | rfl | rfl | rfl | rfl | rfl | rfl | rfl | rfl | rfl | rfl | rfl <;> rfl
set_option maxRecDepth 100000 in
theorem k_adM (cs : Nat → ClassId) (h0 : Nat) (u : Nat → Nat) : ∀ k, k < 17 → ((LX6_init cs h0 u).map Prod.fst)[pmM k]? = some (aM h0 u k) := by
  intro k hk
  rcases (show k = 0 ∨ k = 1 ∨ k = 2 ∨ k = 3 ∨ k = 4 ∨ k = 5 ∨ k = 6 ∨ k = 7 ∨ k = 8 ∨ k = 9 ∨ k = 10 ∨ k = 11 ∨ k = 12 ∨ k = 13 ∨ k = 14 ∨ k = 15 ∨ k = 16 by omega) with rfl | rfl | rfl | rfl | rfl | rfl | rfl | rfl | rfl | rfl | rfl | rfl | rfl | rfl | rfl | rfl | rfl <;> rfl
theorem k_ent {L : va_W} {i a : Nat} (h : (L.map Prod.fst)[i]? = some a) : ∃ e, L[i]? = some (a, e) := by
  rw [List.getElem?_map] at h
  cases hi : L[i]? with
  | none => rw [hi] at h; cases h
  | some q => rw [hi] at h; cases h; exact ⟨q.2, rfl⟩
theorem k_distK {cs : Nat → ClassId} {ad : Nat → Nat} {σ : vS} (h : ∀ i, i < 41 → ∀ j, j < 41 → ad i = ad j → i = j) : va_D (fun _ => True) (wK cs ad σ) := by
  refine ⟨fun i j p q hp hq e => ?_, fun _ _ _ => trivial⟩
  have hi : i < 41 := (List.getElem?_eq_some_iff.mp hp).1
  have hj : j < 41 := (List.getElem?_eq_some_iff.mp hq).1
  have h1 : ((wK cs ad σ).map Prod.fst)[i]? = some p.1 := by rw [List.getElem?_map, hp]; rfl
  have h2 : ((wK cs ad σ).map Prod.fst)[j]? = some q.1 := by rw [List.getElem?_map, hq]; rfl
  rw [wK_ad, List.getElem?_map, List.getElem?_range hi] at h1
  rw [wK_ad, List.getElem?_map, List.getElem?_range hj] at h2
  exact h i hi j hj ((Option.some.inj h1).trans (e.trans (Option.some.inj h2).symm))
theorem k_distM {cs : Nat → ClassId} {ad : Nat → Nat} {σ : vS} (h : ∀ i, i < 17 → ∀ j, j < 17 → ad i = ad j → i = j) : va_D (fun _ => True) (wM cs ad σ) := by
  refine ⟨fun i j p q hp hq e => ?_, fun _ _ _ => trivial⟩
  have hi : i < 17 := (List.getElem?_eq_some_iff.mp hp).1
  have hj : j < 17 := (List.getElem?_eq_some_iff.mp hq).1
  have h1 : ((wM cs ad σ).map Prod.fst)[i]? = some p.1 := by rw [List.getElem?_map, hp]; rfl
  have h2 : ((wM cs ad σ).map Prod.fst)[j]? = some q.1 := by rw [List.getElem?_map, hq]; rfl
  rw [wM_ad, List.getElem?_map, List.getElem?_range hi] at h1
  rw [wM_ad, List.getElem?_map, List.getElem?_range hj] at h2
  exact h i hi j hj ((Option.some.inj h1).trans (e.trans (Option.some.inj h2).symm))
theorem k_startAP {z : Nat} {cs : Nat → ClassId} {h0 h1 ao : Nat} {u v : Nat → Nat} {E : va_E} (hD : va_D (fun q => z ≤ q) (LX5_init cs h0 u ++ LX6_init cs h1 v ++ [(ao, E)])) : k_AP cs (aK h0 u) (aM h1 v) ao z := by
  have lK : (LX5_init cs h0 u).length = 41 := rfl
  have lM : (LX6_init cs h1 v).length = 17 := rfl
  have eK : ∀ k, k < 41 → ∃ e, (LX5_init cs h0 u ++ LX6_init cs h1 v ++ [(ao, E)])[pmK k]? = some (aK h0 u k, e) := fun k hk => by
    obtain ⟨e, he⟩ := k_ent (k_adK cs h0 u k hk)
    refine ⟨e, ?_⟩
    have := pmK_lt k hk
    rw [List.append_assoc, List.getElem?_append_left (by rw [lK]; exact this)]
    exact he
  have eM : ∀ k, k < 17 → ∃ e, (LX5_init cs h0 u ++ LX6_init cs h1 v ++ [(ao, E)])[41 + pmM k]? = some (aM h1 v k, e) := fun k hk => by
    obtain ⟨e, he⟩ := k_ent (k_adM cs h1 v k hk)
    refine ⟨e, ?_⟩
    have := pmM_lt k hk
    rw [List.append_assoc, List.getElem?_append_right (by rw [lK]; omega), lK, List.getElem?_append_left (by rw [lM]; omega), show 41 + pmM k - 41 = pmM k by omega]
    exact he
  have eO : (LX5_init cs h0 u ++ LX6_init cs h1 v ++ [(ao, E)])[58]? = some (ao, E) := rfl
  generalize LX5_init cs h0 u ++ LX6_init cs h1 v ++ [(ao, E)] = L at hD eK eM eO
  refine ⟨fun σ => k_distK (fun i hi j hj e => ?_), fun σ => k_distM (fun i hi j hj e => ?_), fun i hi => ?_, fun i hi => ?_, hD.2 58 _ eO, fun i j hi hj e => ?_, fun i hi e => ?_, fun i hi e => ?_⟩
  · obtain ⟨a, ha⟩ := eK i hi
    obtain ⟨b, hb⟩ := eK j hj
    exact pmK_inj i hi j hj (hD.1 _ _ _ _ ha hb e)
  · obtain ⟨a, ha⟩ := eM i hi
    obtain ⟨b, hb⟩ := eM j hj
    have h9 := hD.1 _ _ _ _ ha hb e
    exact pmM_inj i hi j hj (by omega)
  · obtain ⟨a, ha⟩ := eK i hi
    exact hD.2 _ _ ha
  · obtain ⟨a, ha⟩ := eM i hi
    exact hD.2 _ _ ha
  · obtain ⟨a, ha⟩ := eK i hi
    obtain ⟨b, hb⟩ := eM j hj
    have h9 := hD.1 _ _ _ _ ha hb e
    have := pmK_lt i hi
    omega
  · obtain ⟨a, ha⟩ := eK i hi
    have h9 := hD.1 _ _ _ _ ha eO e
    have := pmK_lt i hi
    omega
  · obtain ⟨a, ha⟩ := eM i hi
    have h9 := hD.1 _ _ _ _ ha eO e
    have := pmM_lt i hi
    omega
