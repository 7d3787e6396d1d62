/-! the constructors' cells in the order of the world -/
def pi9 (o : Nat) : Nat := if o = 0 then 0 else if o = 1 then 1 else if o = 2 then 67 else if o = 3 then 2 else if o = 4 then 4 else if o = 5 then 22 else if o = 6 then 3 else if o = 7 then 24 else if o = 8 then 5 else if o = 9 then 23 else if o = 10 then 68 else if o = 11 then 69 else if o < 52 then o + 15 else if o < 54 then o - 27 else if o < 62 then 2 * (o - 54) + 6 else 2 * (o - 62) + 7
theorem pi9_lt : ∀ o, o < 70 → pi9 o < 70 := by decide
theorem pi9_inj : ∀ i, i < 70 → ∀ j, j < 70 → pi9 i = pi9 j → i = j := by decide +kernel
def S0C : St := (fun o i => if o = 3 then (if i = 0 then 5 else 12) else if o = 2 then 1 else if 12 ≤ o ∧ o < 54 then fN0 i else 0, fun o => if o = 6 then SN5.2 1 else fun _ => 0)
def S0M : St := (fun o i => if o = 0 ∧ i = 18 then 5 else if o = 0 ∧ i = 22 then 1 else 0, fun _ _ => 0)
theorem hen_el {ct : Nat → ClassId} {a : Nat → Nat} : ∀ o : Nat, o < 70 → o ≠ 7 → o ≠ 8 → shC ct (fun i => a (pi9 i)) o (S0C.1 o) (S0C.2 o) = EHen ct a (pi9 o) := by
  intro o ho h7 h8
  by_cases h12 : o < 12
  · rcases show o = 0 ∨ o = 1 ∨ o = 2 ∨ o = 3 ∨ o = 4 ∨ o = 5 ∨ o = 6 ∨ o = 9 ∨ o = 10 ∨ o = 11 by omega with e | e | e | e | e | e | e | e | e | e <;> subst e <;> rfl
  · by_cases h54 : o < 54
    · obtain ⟨k, rfl⟩ : ∃ k, o = 12 + k := ⟨o - 12, by omega⟩
      rw [shC_num (by omega)]
      have e1 : S0C.1 (12 + k) = fN0 := by
        funext i
        show (if 12 + k = 3 then _ else if 12 + k = 2 then _ else if 12 ≤ 12 + k ∧ 12 + k < 54 then fN0 i else 0) = fN0 i
        rw [if_neg (by omega), if_neg (by omega), if_pos ⟨by omega, h54⟩]
      have e2 : S0C.2 (12 + k) = fun _ => 0 := by
        show (if 12 + k = 6 then _ else _) = _
        rw [if_neg (by omega)]
      have e3 : 25 ≤ pi9 (12 + k) ∧ pi9 (12 + k) < 67 := by
        have := (show ∀ k, k < 42 → 25 ≤ pi9 (12 + k) ∧ pi9 (12 + k) < 67 by decide) k (by omega)
        exact this
      rw [e1, e2]
      unfold EHen ERack
      rw [if_neg (by omega), if_pos e3.2, if_neg (by omega), if_neg (by omega), if_neg (by omega), if_neg (by omega), if_neg (by omega), if_neg (by omega), if_neg (by omega), if_neg (by omega), if_neg (by omega)]
    · by_cases h62 : o < 62
      · obtain ⟨k, rfl⟩ : ∃ k, o = 54 + k := ⟨o - 54, by omega⟩
        rw [shC_poly (by omega)]
        rcases show k = 0 ∨ k = 1 ∨ k = 2 ∨ k = 3 ∨ k = 4 ∨ k = 5 ∨ k = 6 ∨ k = 7 by omega with e | e | e | e | e | e | e | e <;> subst e <;> rfl
      · obtain ⟨k, rfl⟩ : ∃ k, o = 62 + k := ⟨o - 62, by omega⟩
        rw [shC_coef]
        rcases show k = 0 ∨ k = 1 ∨ k = 2 ∨ k = 3 ∨ k = 4 ∨ k = 5 ∨ k = 6 ∨ k = 7 by omega with e | e | e | e | e | e | e | e <;> subst e <;> rfl
theorem rel_0 : Rel S0C S0M := by
  have sn : ∀ e, e ≤ 12 → SN5.2 1 e = jl ((5 : Int) ^ e) := by decide +kernel
  refine rel_start rfl rfl (fun e he => sn e he) rfl rfl (fun f j hf hj => ?_) rfl rfl (fun k hk => rfl) rfl rfl (fun o i h => ?_)
  · show (if 62 + f = 3 then _ else if 62 + f = 2 then _ else if 12 ≤ 62 + f ∧ 62 + f < 54 then fN0 j else 0) = ji 0
    rw [if_neg (by omega), if_neg (by omega), if_neg (by omega)]
    rfl
  · show (if o = 0 ∧ i = 18 then _ else if o = 0 ∧ i = 22 then _ else 0) = ji 0
    rw [if_neg (fun q => h ⟨q.1, Or.inl q.2⟩), if_neg (fun q => h ⟨q.1, Or.inr q.2⟩)]
    rfl
theorem start_world {D : va_G} {ct : Nat → ClassId} {s : State} {ad : Nat → Nat} {g : Nat → va_E} {H : Heap} {locs : List Loc} (hw : KW D s (fun q => s.heap.size ≤ q) 90 ad g H locs) (h1 : ∀ o : Nat, o < 70 → g o = EHen ct ad o) (h2 : ∀ o : Nat, o < 18 → g (70 + o) = shM ct (fun i => ad (70 + i)) o (S0M.1 o) (fun _ => 0)) (h3 : g 88 = .inl (ct 1, 1, .inr (.inl (fun _ => 0)))) (h4 : g 89 = .inl (ct 5, 1, .inr (.inr (.inr (.inl (fun _ => 0)))))) :
    Lw D ct (fun i => ad (pi9 i)) (fun i => ad (70 + i)) (ad 88) (ad 89) s S0C S0M (fun _ => 0) (fun _ => 0) H locs ∧ Ld (fun i => ad (pi9 i)) (fun i => ad (70 + i)) (ad 88) (ad 89) s := by
  have dis : ∀ i j : Nat, i < 90 → j < 90 → ad i = ad j → i = j := fun i j hi hj e => hw.2.1.1 i j _ _ (cl_get hi) (cl_get hj) e
  have new : ∀ i : Nat, i < 90 → s.heap.size ≤ ad i := fun i hi => hw.2.1.2 i _ (cl_get hi)
  have e24 : g 24 = .inl (ct 3, 40, rfA (fun i => if i < 40 then some (ad (26 + i + 1)) else none)) := h1 24 (by omega)
  have e5 : g 5 = .inl (ct 4, 8, rfA (fun i => if i < 8 then some (ad (5 + 2 * i + 1)) else none)) := h1 5 (by omega)
  have hw1 := arr_refs hw 24 e24 (f' := fun i => some (ad (pi9 (12 + i)))) (fun i hi => by
    rw [if_pos hi]
    have := (show ∀ i, i < 40 → pi9 (12 + i) = 26 + i + 1 by decide) i hi
    rw [this])
  have hw2 := arr_refs hw1 5 (by rw [up_n (by decide)]; exact e5) (f' := fun i => some (ad (pi9 (54 + i)))) (fun i hi => by
    rw [if_pos hi]
    have := (show ∀ i, i < 8 → pi9 (54 + i) = 5 + 2 * i + 1 by decide) i hi
    rw [this])
  refine ⟨⟨fun k q hq => ?_, fun k q hq => ?_, fun k q hq => ?_, fun k q hq => ?_, hw.2.2⟩, ⟨⟨fun i j hi hj e => pi9_inj i hi j hj (dis _ _ (by have := pi9_lt i hi; omega) (by have := pi9_lt j hj; omega) e), fun i hi => ⟨i, hi, rfl⟩⟩, ⟨fun i j hi hj e => by have := dis _ _ (by omega) (by omega) e; omega, fun i hi => ⟨i, hi, rfl⟩⟩, ?_, ?_, ?_, ?_, ?_, ?_, fun i hi => new _ (by have := pi9_lt i hi; omega), fun j hj => new _ (by omega), new _ (by omega), new _ (by omega)⟩⟩
  · have hk : k < 70 := by
      have := (List.getElem?_eq_some_iff.mp hq).1
      simpa [cellsOf] using this
    rw [cC hk] at hq
    cases hq
    have hp := pi9_lt k hk
    have at2 := hw2.1 (pi9 k) _ (cl_get (show pi9 k < 90 by omega))
    by_cases k7 : k = 7
    · subst k7
      exact at2
    · by_cases k8 : k = 8
      · subst k8
        exact at2
      · rw [hen_el k hk k7 k8, ← h1 (pi9 k) hp]
        have n1 : pi9 k ≠ 5 := fun q => k8 (pi9_inj k hk 8 (by omega) q)
        have n2 : pi9 k ≠ 24 := fun q => k7 (pi9_inj k hk 7 (by omega) q)
        rw [up_n n1, up_n n2] at at2
        exact at2
  · have hk : k < 18 := by
      have := (List.getElem?_eq_some_iff.mp hq).1
      simpa [cellsOf] using this
    rw [cC hk] at hq
    cases hq
    have at1 := hw.1 (70 + k) _ (cl_get (show 70 + k < 90 by omega))
    rw [h2 k hk] at at1
    exact at1
  · cases k with
    | zero =>
      simp at hq
      subst hq
      have at1 := hw.1 88 _ (cl_get (by omega))
      rw [h3] at at1
      exact at1
    | succ k => simp at hq
  · cases k with
    | zero =>
      simp at hq
      subst hq
      have at1 := hw.1 89 _ (cl_get (by omega))
      rw [h4] at at1
      exact at1
    | succ k => simp at hq
  · intro i hi e
    have := dis _ _ (by have := pi9_lt i hi; omega) (by omega) e
    have := pi9_lt i hi
    omega
  · intro i hi e
    have := dis _ _ (by have := pi9_lt i hi; omega) (by omega) e
    have := pi9_lt i hi
    omega
  · intro e
    have := dis _ _ (by omega) (by omega) e
    omega
  · intro i j hi hj e
    have := dis _ _ (by have := pi9_lt i hi; omega) (by omega) e
    have := pi9_lt i hi
    omega
  · intro j hj e
    have := dis _ _ (by omega) (by omega) e
    omega
  · intro j hj e
    have := dis _ _ (by omega) (by omega) e
    omega
