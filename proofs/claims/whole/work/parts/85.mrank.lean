/-! ranks and least exponents -/
def AB (A : Nat → Nat → Int) : Prop := ∀ i j : Nat, (A i j).natAbs ≤ 999
def lapB : Nat → Nat
  | 0 => 1
  | k + 1 => 4 * (999 * lapB k)
theorem tm_bd {A : Nat → Nat → Int} (hA : AB A) {k r c j B : Nat} (h : ∀ r c : Nat, (lap A k r c).natAbs ≤ B) : (tm A k r c j).natAbs ≤ 999 * B := by
  have q : (A (lst r) j * lap A k (r - 2 ^ lst r) (c - 2 ^ j)).natAbs ≤ 999 * B := by
    rw [Int.natAbs_mul]
    exact Nat.mul_le_mul (hA _ _) (h _ _)
  unfold tm
  split
  · split
    · omega
    · omega
  · omega
theorem lap_bd {A : Nat → Nat → Int} (hA : AB A) : ∀ k r c : Nat, (lap A k r c).natAbs ≤ lapB k
  | 0, _, _ => Nat.le_refl _
  | k + 1, r, c => by
    have ih := lap_bd hA k
    have t0 := tm_bd hA (r := r) (c := c) (j := 0) ih
    have t1 := tm_bd hA (r := r) (c := c) (j := 1) ih
    have t2 := tm_bd hA (r := r) (c := c) (j := 2) ih
    have t3 := tm_bd hA (r := r) (c := c) (j := 3) ih
    show (tm A k r c 0 + tm A k r c 1 + tm A k r c 2 + tm A k r c 3).natAbs ≤ 4 * (999 * lapB k)
    omega
theorem mn_bd {A : Nat → Nat → Int} (hA : AB A) {r c : Nat} (hr : r < 16) : -9223372036854775808 ≤ mn A r c ∧ mn A r c < 9223372036854775808 := by
  have h := lap_bd hA (pop r) r c
  have k4 := (k_count r hr).2
  have b : lapB (pop r) ≤ 254979842664960 + 1000 := by
    generalize pop r = k at k4
    rcases show k = 0 ∨ k = 1 ∨ k = 2 ∨ k = 3 ∨ k = 4 by omega with q | q | q | q | q <;> subst q <;> decide
  unfold mn
  split <;> omega
def gd (A : Nat → Nat → Int) (M k r c : Nat) : Prop := r < M ∧ c < M ∧ pop r = k ∧ pop c = k ∧ mn A r c ≠ 0
/-- the least value over what was seen -/
def Ls (A : Nat → Nat → Int) (p : Int) (M k r c : Nat) (v : Int) : Prop :=
  (v = -1 ∧ ∀ r' c' : Nat, gd A M k r' c' → ¬ (r' < r ∨ (r' = r ∧ c' < c))) ∨
  ((∃ r' c' : Nat, gd A M k r' c' ∧ v = vp p (mn A r' c')) ∧ ∀ r' c' : Nat, gd A M k r' c' → (r' < r ∨ (r' = r ∧ c' < c)) → v ≤ vp p (mn A r' c'))
theorem Ls.skip {A : Nat → Nat → Int} {p : Int} {M k r c : Nat} {v : Int} (h : Ls A p M k r c v) (g : ¬ gd A M k r c) : Ls A p M k r (c + 1) v := by
  rcases h with ⟨h1, h2⟩ | ⟨h1, h2⟩
  · refine Or.inl ⟨h1, fun r' c' q q2 => ?_⟩
    by_cases e : r' = r ∧ c' = c
    · exact g (by rw [← e.1, ← e.2]; exact q)
    · exact h2 r' c' q (by omega)
  · refine Or.inr ⟨h1, fun r' c' q q2 => ?_⟩
    by_cases e : r' = r ∧ c' = c
    · exact absurd (by rw [← e.1, ← e.2]; exact q) g
    · exact h2 r' c' q (by omega)
theorem Ls.add {A : Nat → Nat → Int} {p : Int} {M k r c : Nat} {v : Int} (h : Ls A p M k r c v) (g : gd A M k r c) : Ls A p M k r (c + 1) (if v < 0 then (vp p (mn A r c) : Int) else min v (vp p (mn A r c))) := by
  rcases h with ⟨h1, h2⟩ | ⟨⟨r0, c0, h1, h3⟩, h2⟩
  · subst h1
    rw [if_pos (by omega)]
    refine Or.inr ⟨⟨r, c, g, rfl⟩, fun r' c' q q2 => ?_⟩
    by_cases e : r' = r ∧ c' = c
    · rw [e.1, e.2]
      exact Int.le_refl _
    · exact absurd (show r' < r ∨ (r' = r ∧ c' < c) by omega) (h2 r' c' q)
  · rw [if_neg (by omega)]
    refine Or.inr ⟨?_, fun r' c' q q2 => ?_⟩
    · by_cases e : v ≤ vp p (mn A r c)
      · exact ⟨r0, c0, h1, by omega⟩
      · exact ⟨r, c, g, by omega⟩
    · by_cases e : r' = r ∧ c' = c
      · rw [e.1, e.2]
        omega
      · have := h2 r' c' q (by omega)
        omega
theorem Ls.row {A : Nat → Nat → Int} {p : Int} {M k r c : Nat} {v : Int} (h : Ls A p M k r c v) (hc : M ≤ c) : Ls A p M k (r + 1) 0 v := by
  rcases h with ⟨h1, h2⟩ | ⟨h1, h2⟩
  · exact Or.inl ⟨h1, fun r' c' q q2 => h2 r' c' q (by have := q.2.1; omega)⟩
  · exact Or.inr ⟨h1, fun r' c' q q2 => h2 r' c' q (by have := q.2.1; omega)⟩
theorem Ls.un {A : Nat → Nat → Int} {p : Int} {M k r c r2 c2 : Nat} {v w : Int} (h : Ls A p M k r c v) (g : Ls A p M k r2 c2 w) (h1 : M ≤ r) (h2 : M ≤ r2) : v = w := by
  have al : ∀ r' c' : Nat, gd A M k r' c' → (r' < r ∨ (r' = r ∧ c' < c)) ∧ (r' < r2 ∨ (r' = r2 ∧ c' < c2)) := fun r' c' q => by
    have := q.1
    omega
  rcases h with ⟨a1, a2⟩ | ⟨⟨r0, c0, a1, a3⟩, a2⟩ <;> rcases g with ⟨b1', b2'⟩ | ⟨⟨r1, c1, b1', b3⟩, b2'⟩
  · omega
  · exact absurd (al r1 c1 b1').1 (a2 r1 c1 b1')
  · exact absurd (al r0 c0 a1).2 (b2' r0 c0 a1)
  · have := a2 r1 c1 b1' (al r1 c1 b1').1
    have := b2' r0 c0 a1 (al r0 c0 a1).2
    omega
theorem Ls.rng {A : Nat → Nat → Int} {p : Int} {M k r c : Nat} {v : Int} (hp : 2 ≤ p) (hA : AB A) (hM : M ≤ 16) (h : Ls A p M k r c v) : -1 ≤ v ∧ v ≤ 63 := by
  rcases h with ⟨h1, h2⟩ | ⟨⟨r0, c0, h1, h3⟩, h2⟩
  · omega
  · have := h1.1
    have := vp_62 hp (mn_bd hA (r := r0) (c := c0) (by omega))
    omega
theorem Ls.ex_c {A : Nat → Nat → Int} {p : Int} {M k r : Nat} (h : ∃ v, Ls A p M k r 0 v) : ∀ c : Nat, ∃ v, Ls A p M k r c v
  | 0 => h
  | c + 1 => by
    obtain ⟨v, hv⟩ := Ls.ex_c h c
    by_cases g : gd A M k r c
    · exact ⟨_, hv.add g⟩
    · exact ⟨_, hv.skip g⟩
theorem Ls.ex {A : Nat → Nat → Int} {p : Int} {M k : Nat} (hM : M ≤ 16) : ∀ r : Nat, ∃ v, Ls A p M k r 0 v
  | 0 => ⟨-1, Or.inl ⟨rfl, fun r' c' _ q => by omega⟩⟩
  | r + 1 => by
    obtain ⟨v, hv⟩ := Ls.ex_c (Ls.ex (A := A) (p := p) (k := k) hM r) 16
    exact ⟨v, hv.row hM⟩
theorem isMinC {S : St} {sz M r c : Nat} (h2 : S.1 2 0 = ji sz) (hs : sz ≤ 4) (hM : M = 2 ^ sz) (hM16 : M ≤ 16) (hr : r < 16) (hc : c < 16) : f_X1_isMinor (ji r) (ji c) S = some (ji (if r < M ∧ c < M ∧ pop r = pop c then 1 else 0)) := by
  obtain ⟨p1, p2⟩ := k_count r (by omega)
  obtain ⟨p3, p4⟩ := k_count c (by omega)
  have e := k_shl sz hs
  rw [← hM] at e
  have y : r < M ∧ c < M ∧ pop r = pop c → (if r < M ∧ c < M ∧ pop r = pop c then (1 : Int) else 0) = 1 := fun q => if_pos q
  have n : ¬ (r < M ∧ c < M ∧ pop r = pop c) → (if r < M ∧ c < M ∧ pop r = pop c then (1 : Int) else 0) = 0 := fun q => if_neg q
  by_cases c1 : r < M
  · by_cases c2 : c < M
    · by_cases c3 : pop r = pop c
      · rw [y ⟨c1, c2, c3⟩]
        unfold f_X1_isMinor
        rw [h2, e, p1, b1s, p3, b1s]
        simp (disch := omega) only [i0, i1, i2, i3, i4, i5, i6, i7, i8, i12, i16, i20, i30, i39, i40, i60, i64, i97, i100, i256, i1000, i10000, im1, im20, im60, l0, l1, l2, l3, l4, l5, l8, l10000, l1e9, lm10000, jl_add, jl_sub, jl_mul, jl_neg, ji_add, ji_sub, ji_mul, ji_neg, ji_l, jl_i, rL_n, rI_n, dL_n, dI_n, mnI_j, mxI_j, ji_nat, rest_j, part_n, whole_j, times_j, kc_0, kc_gt, kc_lt, kc_le, kc_ge, ji_lt, ji_le, ji_inj, jl_inj, jl_lt, jl_le, b1s, b2s, bEs, bEe, rIs, rIn, rIJ, rJs, rJn, rJI, ifp, ifn, if_true, if_false]
      · rw [n (fun q => c3 q.2.2)]
        unfold f_X1_isMinor
        rw [h2, e, p1, b1s, p3, b1s]
        simp (disch := omega) only [i0, i1, i2, i3, i4, i5, i6, i7, i8, i12, i16, i20, i30, i39, i40, i60, i64, i97, i100, i256, i1000, i10000, im1, im20, im60, l0, l1, l2, l3, l4, l5, l8, l10000, l1e9, lm10000, jl_add, jl_sub, jl_mul, jl_neg, ji_add, ji_sub, ji_mul, ji_neg, ji_l, jl_i, rL_n, rI_n, dL_n, dI_n, mnI_j, mxI_j, ji_nat, rest_j, part_n, whole_j, times_j, kc_0, kc_gt, kc_lt, kc_le, kc_ge, ji_lt, ji_le, ji_inj, jl_inj, jl_lt, jl_le, b1s, b2s, bEs, bEe, rIs, rIn, rIJ, rJs, rJn, rJI, ifp, ifn, if_true, if_false]
    · rw [n (fun q => c2 q.2.1)]
      unfold f_X1_isMinor
      rw [h2, e]
      simp (disch := omega) only [i0, i1, i2, i3, i4, i5, i6, i7, i8, i12, i16, i20, i30, i39, i40, i60, i64, i97, i100, i256, i1000, i10000, im1, im20, im60, l0, l1, l2, l3, l4, l5, l8, l10000, l1e9, lm10000, jl_add, jl_sub, jl_mul, jl_neg, ji_add, ji_sub, ji_mul, ji_neg, ji_l, jl_i, rL_n, rI_n, dL_n, dI_n, mnI_j, mxI_j, ji_nat, rest_j, part_n, whole_j, times_j, kc_0, kc_gt, kc_lt, kc_le, kc_ge, ji_lt, ji_le, ji_inj, jl_inj, jl_lt, jl_le, b1s, b2s, bEs, bEe, rIs, rIn, rIJ, rJs, rJn, rJI, ifp, ifn, if_true, if_false]
  · rw [n (fun q => c1 q.1)]
    unfold f_X1_isMinor
    rw [h2, e]
    simp (disch := omega) only [i0, i1, i2, i3, i4, i5, i6, i7, i8, i12, i16, i20, i30, i39, i40, i60, i64, i97, i100, i256, i1000, i10000, im1, im20, im60, l0, l1, l2, l3, l4, l5, l8, l10000, l1e9, lm10000, jl_add, jl_sub, jl_mul, jl_neg, ji_add, ji_sub, ji_mul, ji_neg, ji_l, jl_i, rL_n, rI_n, dL_n, dI_n, mnI_j, mxI_j, ji_nat, rest_j, part_n, whole_j, times_j, kc_0, kc_gt, kc_lt, kc_le, kc_ge, ji_lt, ji_le, ji_inj, jl_inj, jl_lt, jl_le, b1s, b2s, bEs, bEe, rIs, rIn, rIJ, rJs, rJn, rJI, ifp, ifn, if_true, if_false]
theorem leC_in {S : St} {A : Nat → Nat → Int} {p : Int} {sz M k r : Nat} {R : Option Int32} {K : Int32 → Int32 → Int32 → Int32 → Option Int32} (hp : 2 ≤ p ∧ p ≤ 97) (hA : AB A) (h2 : S.1 2 0 = ji sz) (hs : sz ≤ 4) (hM : M = 2 ^ sz) (hM16 : M ≤ 16) (hk : k ≤ 5) (hr : r < 16) (hm : ∀ r c : Nat, r < M → c < M → S.2 11 (16 * r + c) = jl (mn A r c))
    (hK : ∀ v : Int, Ls A p M k (r + 1) 0 v → K (ji k) (ji p) (ji v) (ji (r + 1 : Nat)) = R) : ∀ (N c : Nat) (v : Int), c ≤ 16 → Ls A p M k r c v → 16 - c < N → itr (fun (q : Int32 × Int32 × Int32 × Int32 × Int32) k => s_X1_leastExponent_15 K (fun (x1 : Int32) (x2 : Int32) (x3 : Int32) (x4 : Int32) (x5 : Int32) => k (x1, x2, x3, x4, x5)) S q.1 q.2.1 q.2.2.1 q.2.2.2.1 q.2.2.2.2) N (ji k, ji p, ji v, ji r, ji c) = R
  | 0, _, _, _, _, h => absurd h (Nat.not_lt_zero _)
  | N + 1, c, v, hc, hv, hN => by
    rw [itrS]
    have IH := leC_in hp hA h2 hs hM hM16 hk hr hm hK N (c + 1)
    generalize itr _ N = K1 at IH
    show s_X1_leastExponent_15 K (fun (x1 : Int32) (x2 : Int32) (x3 : Int32) (x4 : Int32) (x5 : Int32) => K1 (x1, x2, x3, x4, x5)) S (ji k) (ji p) (ji v) (ji r) (ji c) = R
    have vr := hv.rng hp.1 hA hM16
    unfold s_X1_leastExponent_15
    by_cases h : c = 16
    · subst h
      simp (disch := omega) only [i0, i1, i2, i3, i4, i5, i6, i7, i8, i12, i16, i20, i30, i39, i40, i60, i64, i97, i100, i256, i1000, i10000, im1, im20, im60, l0, l1, l2, l3, l4, l5, l8, l10000, l1e9, lm10000, jl_add, jl_sub, jl_mul, jl_neg, ji_add, ji_sub, ji_mul, ji_neg, ji_l, jl_i, rL_n, rI_n, dL_n, dI_n, mnI_j, mxI_j, ji_nat, rest_j, part_n, whole_j, times_j, kc_0, kc_gt, kc_lt, kc_le, kc_ge, ji_lt, ji_le, ji_inj, jl_inj, jl_lt, jl_le, b1s, b2s, bEs, bEe, rIs, rIn, rIJ, rJs, rJn, rJI, ifp, ifn, if_true, if_false]
      exact hK v (hv.row hM16)
    · have mi := minC (S := S) hr (show c < 16 by omega)
      have im := isMinC (S := S) (r := r) (c := c) h2 hs hM hM16 hr (by omega)
      obtain ⟨p1, p2⟩ := k_count r (by omega)
      have skip := fun g => IH v (by omega) (hv.skip g) (by omega)
      rw [show ((c + 1 : Nat) : Int) = (c : Int) + 1 by omega] at skip IH
      by_cases c1 : r < M ∧ c < M ∧ pop r = pop c
      · rw [if_pos c1] at im
        by_cases c2 : pop r = k
        · have mv := hm r c c1.1 c1.2.1
          have bd := mn_bd hA (r := r) (c := c) hr
          rw [mv] at mi
          by_cases c3 : mn A r c = 0
          · have next := skip (fun q => q.2.2.2.2 c3)
            rw [c3] at mi
            clear hK skip IH hm
            simp (disch := omega) only [i0, i1, i2, i3, i4, i5, i6, i7, i8, i12, i16, i20, i30, i39, i40, i60, i64, i97, i100, i256, i1000, i10000, im1, im20, im60, l0, l1, l2, l3, l4, l5, l8, l10000, l1e9, lm10000, jl_add, jl_sub, jl_mul, jl_neg, ji_add, ji_sub, ji_mul, ji_neg, ji_l, jl_i, rL_n, rI_n, dL_n, dI_n, mnI_j, mxI_j, ji_nat, rest_j, part_n, whole_j, times_j, kc_0, kc_gt, kc_lt, kc_le, kc_ge, ji_lt, ji_le, ji_inj, jl_inj, jl_lt, jl_le, b1s, b2s, bEs, bEe, rIs, rIn, rIJ, rJs, rJn, rJI, ifp, ifn, if_true, if_false, mi, im, p1]
            exact next
          · have g : gd A M k r c := ⟨c1.1, c1.2.1, c2, by omega, c3⟩
            have f := facC (p := p) (z := mn A r c) (by omega) bd
            have vv := vp_62 hp.1 bd
            have next := IH _ (by omega) (hv.add g) (by omega)
            clear hK skip IH hm
            by_cases c4 : v < 0
            · rw [if_pos c4] at next
              simp (disch := omega) only [i0, i1, i2, i3, i4, i5, i6, i7, i8, i12, i16, i20, i30, i39, i40, i60, i64, i97, i100, i256, i1000, i10000, im1, im20, im60, l0, l1, l2, l3, l4, l5, l8, l10000, l1e9, lm10000, jl_add, jl_sub, jl_mul, jl_neg, ji_add, ji_sub, ji_mul, ji_neg, ji_l, jl_i, rL_n, rI_n, dL_n, dI_n, mnI_j, mxI_j, ji_nat, rest_j, part_n, whole_j, times_j, kc_0, kc_gt, kc_lt, kc_le, kc_ge, ji_lt, ji_le, ji_inj, jl_inj, jl_lt, jl_le, b1s, b2s, bEs, bEe, rIs, rIn, rIJ, rJs, rJn, rJI, ifp, ifn, if_true, if_false, mi, im, p1, f]
              exact next
            · rw [if_neg c4] at next
              simp (disch := omega) only [i0, i1, i2, i3, i4, i5, i6, i7, i8, i12, i16, i20, i30, i39, i40, i60, i64, i97, i100, i256, i1000, i10000, im1, im20, im60, l0, l1, l2, l3, l4, l5, l8, l10000, l1e9, lm10000, jl_add, jl_sub, jl_mul, jl_neg, ji_add, ji_sub, ji_mul, ji_neg, ji_l, jl_i, rL_n, rI_n, dL_n, dI_n, mnI_j, mxI_j, ji_nat, rest_j, part_n, whole_j, times_j, kc_0, kc_gt, kc_lt, kc_le, kc_ge, ji_lt, ji_le, ji_inj, jl_inj, jl_lt, jl_le, b1s, b2s, bEs, bEe, rIs, rIn, rIJ, rJs, rJn, rJI, ifp, ifn, if_true, if_false, mi, im, p1, f]
              exact next
        · have next := skip (fun q => c2 q.2.2.1)
          clear hK skip IH hm
          simp (disch := omega) only [i0, i1, i2, i3, i4, i5, i6, i7, i8, i12, i16, i20, i30, i39, i40, i60, i64, i97, i100, i256, i1000, i10000, im1, im20, im60, l0, l1, l2, l3, l4, l5, l8, l10000, l1e9, lm10000, jl_add, jl_sub, jl_mul, jl_neg, ji_add, ji_sub, ji_mul, ji_neg, ji_l, jl_i, rL_n, rI_n, dL_n, dI_n, mnI_j, mxI_j, ji_nat, rest_j, part_n, whole_j, times_j, kc_0, kc_gt, kc_lt, kc_le, kc_ge, ji_lt, ji_le, ji_inj, jl_inj, jl_lt, jl_le, b1s, b2s, bEs, bEe, rIs, rIn, rIJ, rJs, rJn, rJI, ifp, ifn, if_true, if_false, mi, im, p1]
          exact next
      · rw [if_neg c1] at im
        have next := skip (fun q => c1 ⟨q.1, q.2.1, by rw [q.2.2.1, q.2.2.2.1]⟩)
        clear hK skip IH hm
        simp (disch := omega) only [i0, i1, i2, i3, i4, i5, i6, i7, i8, i12, i16, i20, i30, i39, i40, i60, i64, i97, i100, i256, i1000, i10000, im1, im20, im60, l0, l1, l2, l3, l4, l5, l8, l10000, l1e9, lm10000, jl_add, jl_sub, jl_mul, jl_neg, ji_add, ji_sub, ji_mul, ji_neg, ji_l, jl_i, rL_n, rI_n, dL_n, dI_n, mnI_j, mxI_j, ji_nat, rest_j, part_n, whole_j, times_j, kc_0, kc_gt, kc_lt, kc_le, kc_ge, ji_lt, ji_le, ji_inj, jl_inj, jl_lt, jl_le, b1s, b2s, bEs, bEe, rIs, rIn, rIJ, rJs, rJn, rJI, ifp, ifn, if_true, if_false, mi, im, p1]
        exact next
theorem leC_out {S : St} {A : Nat → Nat → Int} {p w : Int} {sz M k : Nat} (hp : 2 ≤ p ∧ p ≤ 97) (hA : AB A) (h2 : S.1 2 0 = ji sz) (hs : sz ≤ 4) (hM : M = 2 ^ sz) (hM16 : M ≤ 16) (hk : k ≤ 5) (hm : ∀ r c : Nat, r < M → c < M → S.2 11 (16 * r + c) = jl (mn A r c)) (hw : Ls A p M k 16 0 w) : ∀ (N r : Nat) (v : Int), r ≤ 16 → Ls A p M k r 0 v → 16 - r < N → itr (fun (q : Int32 × Int32 × Int32 × Int32) k => s_X1_leastExponent_5 (fun (x1 : Int32) (x2 : Int32) (x3 : Int32) (x4 : Int32) => k (x1, x2, x3, x4)) S q.1 q.2.1 q.2.2.1 q.2.2.2) N (ji k, ji p, ji v, ji r) = some (ji w)
  | 0, _, _, _, _, h => absurd h (Nat.not_lt_zero _)
  | N + 1, r, v, hr, hv, hN => by
    rw [itrS]
    have IH := leC_out hp hA h2 hs hM hM16 hk hm hw N (r + 1)
    generalize itr _ N = K1 at IH
    show s_X1_leastExponent_5 (fun (x1 : Int32) (x2 : Int32) (x3 : Int32) (x4 : Int32) => K1 (x1, x2, x3, x4)) S (ji k) (ji p) (ji v) (ji r) = some (ji w)
    unfold s_X1_leastExponent_5
    by_cases h : r = 16
    · subst h
      rw [hv.un hw hM16 hM16]
      simp (disch := omega) only [i0, i1, i2, i3, i4, i5, i6, i7, i8, i12, i16, i20, i30, i39, i40, i60, i64, i97, i100, i256, i1000, i10000, im1, im20, im60, l0, l1, l2, l3, l4, l5, l8, l10000, l1e9, lm10000, jl_add, jl_sub, jl_mul, jl_neg, ji_add, ji_sub, ji_mul, ji_neg, ji_l, jl_i, rL_n, rI_n, dL_n, dI_n, mnI_j, mxI_j, ji_nat, rest_j, part_n, whole_j, times_j, kc_0, kc_gt, kc_lt, kc_le, kc_ge, ji_lt, ji_le, ji_inj, jl_inj, jl_lt, jl_le, b1s, b2s, bEs, bEe, rIs, rIn, rIJ, rJs, rJn, rJI, ifp, ifn, if_true, if_false]
    · have inn := leC_in (k := k) (r := r) (R := some (ji w)) (K := fun (x1 : Int32) (x2 : Int32) (x3 : Int32) (x4 : Int32) => K1 (x1, x2, x3, x4)) hp hA h2 hs hM hM16 hk (by omega) hm (fun v' hv' => IH v' (by omega) hv' (by omega)) FU 0 v (by omega) hv (FU_lt (by omega))
      clear IH hm
      simp (disch := omega) only [i0, i1, i2, i3, i4, i5, i6, i7, i8, i12, i16, i20, i30, i39, i40, i60, i64, i97, i100, i256, i1000, i10000, im1, im20, im60, l0, l1, l2, l3, l4, l5, l8, l10000, l1e9, lm10000, jl_add, jl_sub, jl_mul, jl_neg, ji_add, ji_sub, ji_mul, ji_neg, ji_l, jl_i, rL_n, rI_n, dL_n, dI_n, mnI_j, mxI_j, ji_nat, rest_j, part_n, whole_j, times_j, kc_0, kc_gt, kc_lt, kc_le, kc_ge, ji_lt, ji_le, ji_inj, jl_inj, jl_lt, jl_le, b1s, b2s, bEs, bEe, rIs, rIn, rIJ, rJs, rJn, rJI, ifp, ifn, if_true, if_false]
      exact inn
theorem leC {S : St} {A : Nat → Nat → Int} {p w : Int} {sz M k : Nat} (hp : 2 ≤ p ∧ p ≤ 97) (hA : AB A) (h2 : S.1 2 0 = ji sz) (hs : sz ≤ 4) (hM : M = 2 ^ sz) (hM16 : M ≤ 16) (hk : k ≤ 5) (hm : ∀ r c : Nat, r < M → c < M → S.2 11 (16 * r + c) = jl (mn A r c)) (hw : Ls A p M k 16 0 w) : f_X1_leastExponent (ji k) (ji p) S = some (ji w) := by
  have l : Ls A p M k 0 0 (-1) := Or.inl ⟨rfl, fun r' c' _ q => by omega⟩
  have g := leC_out hp hA h2 hs hM hM16 hk hm hw FU 0 (-1) (by omega) l (FU_lt (by omega))
  unfold f_X1_leastExponent n_X1_leastExponent_5
  rw [im1, i0]
  exact g
/-! the same, the one program's way -/
theorem leM_in {T : St} {A : Nat → Nat → Int} {p : Int} {sz M k r : Nat} {R : Option Int32} {K : Int32 → Int32 → Int32 → Option Int32} (h18 : T.1 0 18 = ji p) (hp : 2 ≤ p ∧ p ≤ 97) (hA : AB A) (hE : EnM T A) (h22 : T.1 0 22 = ji sz) (hs : sz ≤ 4) (hM : M = 2 ^ sz) (hM16 : M ≤ 16) (hk : 1 ≤ k ∧ k ≤ 5) (hr : r < M)
    (hK : ∀ v : Int, Ls A p M k (r + 1) 0 v → K (ji k) (ji v) (ji (r + 1 : Nat)) = R) : ∀ (N c : Nat) (v : Int), c ≤ M → Ls A p M k r c v → M - c < N → itr (fun (q : Int32 × Int32 × Int32 × Int32) k => s_X10_least_29 K (fun (x1 : Int32) (x2 : Int32) (x3 : Int32) (x4 : Int32) => k (x1, x2, x3, x4)) T q.1 q.2.1 q.2.2.1 q.2.2.2) N (ji k, ji v, ji r, ji c) = R
  | 0, _, _, _, _, h => absurd h (Nat.not_lt_zero _)
  | N + 1, c, v, hc, hv, hN => by
    rw [itrS]
    have IH := leM_in h18 hp hA hE h22 hs hM hM16 hk hr hK N (c + 1)
    generalize itr _ N = K1 at IH
    show s_X10_least_29 K (fun (x1 : Int32) (x2 : Int32) (x3 : Int32) (x4 : Int32) => K1 (x1, x2, x3, x4)) T (ji k) (ji v) (ji r) (ji c) = R
    have vr := hv.rng hp.1 hA hM16
    have e := k_shl sz hs
    rw [← hM] at e
    unfold s_X10_least_29 n_X10_least_91
    rw [h22, e]
    by_cases h : c = M
    · subst h
      simp (disch := omega) only [i0, i1, i2, i3, i4, i5, i6, i7, i8, i12, i16, i20, i30, i39, i40, i60, i64, i97, i100, i256, i1000, i10000, im1, im20, im60, l0, l1, l2, l3, l4, l5, l8, l10000, l1e9, lm10000, jl_add, jl_sub, jl_mul, jl_neg, ji_add, ji_sub, ji_mul, ji_neg, ji_l, jl_i, rL_n, rI_n, dL_n, dI_n, mnI_j, mxI_j, ji_nat, rest_j, part_n, whole_j, times_j, kc_0, kc_gt, kc_lt, kc_le, kc_ge, ji_lt, ji_le, ji_inj, jl_inj, jl_lt, jl_le, b1s, b2s, bEs, bEe, rIs, rIn, rIJ, rJs, rJn, rJI, ifp, ifn, if_true, if_false]
      exact hK v (hv.row (Nat.le_refl _))
    · have pr' := k_bits r (by omega)
      have pc' := k_bits c (by omega)
      have b1' := (k_count r (by omega)).2
      have b2' := (k_count c (by omega)).2
      have skip := fun g => IH v (by omega) (hv.skip g) (by omega)
      rw [show ((c + 1 : Nat) : Int) = (c : Int) + 1 by omega] at skip IH
      by_cases c1 : pop r = k
      · by_cases c2 : pop c = k
        · have mi := minM hE (show r < 16 by omega) (show c < 16 by omega) (by omega) (by omega)
          have bd := mn_bd hA (r := r) (c := c) (by omega)
          by_cases c3 : mn A r c = 0
          · have next := skip (fun q => q.2.2.2.2 c3)
            rw [c3] at mi
            clear hK skip IH hE
            simp (disch := omega) only [i0, i1, i2, i3, i4, i5, i6, i7, i8, i12, i16, i20, i30, i39, i40, i60, i64, i97, i100, i256, i1000, i10000, im1, im20, im60, l0, l1, l2, l3, l4, l5, l8, l10000, l1e9, lm10000, jl_add, jl_sub, jl_mul, jl_neg, ji_add, ji_sub, ji_mul, ji_neg, ji_l, jl_i, rL_n, rI_n, dL_n, dI_n, mnI_j, mxI_j, ji_nat, rest_j, part_n, whole_j, times_j, kc_0, kc_gt, kc_lt, kc_le, kc_ge, ji_lt, ji_le, ji_inj, jl_inj, jl_lt, jl_le, b1s, b2s, bEs, bEe, rIs, rIn, rIJ, rJs, rJn, rJI, ifp, ifn, if_true, if_false, pr', pc', mi]
            exact next
          · have g : gd A M k r c := ⟨hr, by omega, c1, c2, c3⟩
            have f := valM h18 hp bd
            have vv := vp_62 hp.1 bd
            have next := IH _ (by omega) (hv.add g) (by omega)
            clear hK skip IH hE
            by_cases c4 : v < 0
            · rw [if_pos c4] at next
              have : v = -1 := by omega
              subst this
              simp (disch := omega) only [i0, i1, i2, i3, i4, i5, i6, i7, i8, i12, i16, i20, i30, i39, i40, i60, i64, i97, i100, i256, i1000, i10000, im1, im20, im60, l0, l1, l2, l3, l4, l5, l8, l10000, l1e9, lm10000, jl_add, jl_sub, jl_mul, jl_neg, ji_add, ji_sub, ji_mul, ji_neg, ji_l, jl_i, rL_n, rI_n, dL_n, dI_n, mnI_j, mxI_j, ji_nat, rest_j, part_n, whole_j, times_j, kc_0, kc_gt, kc_lt, kc_le, kc_ge, ji_lt, ji_le, ji_inj, jl_inj, jl_lt, jl_le, b1s, b2s, bEs, bEe, rIs, rIn, rIJ, rJs, rJn, rJI, ifp, ifn, if_true, if_false, pr', pc', mi, f]
              exact next
            · rw [if_neg c4] at next
              by_cases c5 : v ≤ vp p (mn A r c)
              · rw [show min v (vp p (mn A r c) : Int) = v by omega] at next
                simp (disch := omega) only [i0, i1, i2, i3, i4, i5, i6, i7, i8, i12, i16, i20, i30, i39, i40, i60, i64, i97, i100, i256, i1000, i10000, im1, im20, im60, l0, l1, l2, l3, l4, l5, l8, l10000, l1e9, lm10000, jl_add, jl_sub, jl_mul, jl_neg, ji_add, ji_sub, ji_mul, ji_neg, ji_l, jl_i, rL_n, rI_n, dL_n, dI_n, mnI_j, mxI_j, ji_nat, rest_j, part_n, whole_j, times_j, kc_0, kc_gt, kc_lt, kc_le, kc_ge, ji_lt, ji_le, ji_inj, jl_inj, jl_lt, jl_le, b1s, b2s, bEs, bEe, rIs, rIn, rIJ, rJs, rJn, rJI, ifp, ifn, if_true, if_false, pr', pc', mi, f]
                exact next
              · rw [show min v (vp p (mn A r c) : Int) = vp p (mn A r c) by omega] at next
                simp (disch := omega) only [i0, i1, i2, i3, i4, i5, i6, i7, i8, i12, i16, i20, i30, i39, i40, i60, i64, i97, i100, i256, i1000, i10000, im1, im20, im60, l0, l1, l2, l3, l4, l5, l8, l10000, l1e9, lm10000, jl_add, jl_sub, jl_mul, jl_neg, ji_add, ji_sub, ji_mul, ji_neg, ji_l, jl_i, rL_n, rI_n, dL_n, dI_n, mnI_j, mxI_j, ji_nat, rest_j, part_n, whole_j, times_j, kc_0, kc_gt, kc_lt, kc_le, kc_ge, ji_lt, ji_le, ji_inj, jl_inj, jl_lt, jl_le, b1s, b2s, bEs, bEe, rIs, rIn, rIJ, rJs, rJn, rJI, ifp, ifn, if_true, if_false, pr', pc', mi, f]
                exact next
        · have next := skip (fun q => c2 q.2.2.2.1)
          clear hK skip IH hE
          simp (disch := omega) only [i0, i1, i2, i3, i4, i5, i6, i7, i8, i12, i16, i20, i30, i39, i40, i60, i64, i97, i100, i256, i1000, i10000, im1, im20, im60, l0, l1, l2, l3, l4, l5, l8, l10000, l1e9, lm10000, jl_add, jl_sub, jl_mul, jl_neg, ji_add, ji_sub, ji_mul, ji_neg, ji_l, jl_i, rL_n, rI_n, dL_n, dI_n, mnI_j, mxI_j, ji_nat, rest_j, part_n, whole_j, times_j, kc_0, kc_gt, kc_lt, kc_le, kc_ge, ji_lt, ji_le, ji_inj, jl_inj, jl_lt, jl_le, b1s, b2s, bEs, bEe, rIs, rIn, rIJ, rJs, rJn, rJI, ifp, ifn, if_true, if_false, pr', pc']
          exact next
      · have next := skip (fun q => c1 q.2.2.1)
        clear hK skip IH hE
        simp (disch := omega) only [i0, i1, i2, i3, i4, i5, i6, i7, i8, i12, i16, i20, i30, i39, i40, i60, i64, i97, i100, i256, i1000, i10000, im1, im20, im60, l0, l1, l2, l3, l4, l5, l8, l10000, l1e9, lm10000, jl_add, jl_sub, jl_mul, jl_neg, ji_add, ji_sub, ji_mul, ji_neg, ji_l, jl_i, rL_n, rI_n, dL_n, dI_n, mnI_j, mxI_j, ji_nat, rest_j, part_n, whole_j, times_j, kc_0, kc_gt, kc_lt, kc_le, kc_ge, ji_lt, ji_le, ji_inj, jl_inj, jl_lt, jl_le, b1s, b2s, bEs, bEe, rIs, rIn, rIJ, rJs, rJn, rJI, ifp, ifn, if_true, if_false, pr']
        exact next
theorem leM_out {T : St} {A : Nat → Nat → Int} {p w : Int} {sz M k : Nat} (h18 : T.1 0 18 = ji p) (hp : 2 ≤ p ∧ p ≤ 97) (hA : AB A) (hE : EnM T A) (h22 : T.1 0 22 = ji sz) (hs : sz ≤ 4) (hM : M = 2 ^ sz) (hM16 : M ≤ 16) (hk : 1 ≤ k ∧ k ≤ 5) (hw : Ls A p M k 16 0 w) : ∀ (N r : Nat) (v : Int), r ≤ M → Ls A p M k r 0 v → M - r < N → itr (fun (q : Int32 × Int32 × Int32) k => s_X10_least_12 (fun (x1 : Int32) (x2 : Int32) (x3 : Int32) => k (x1, x2, x3)) T q.1 q.2.1 q.2.2) N (ji k, ji v, ji r) = some (ji w)
  | 0, _, _, _, _, h => absurd h (Nat.not_lt_zero _)
  | N + 1, r, v, hr, hv, hN => by
    rw [itrS]
    have IH := leM_out h18 hp hA hE h22 hs hM hM16 hk hw N (r + 1)
    generalize itr _ N = K1 at IH
    show s_X10_least_12 (fun (x1 : Int32) (x2 : Int32) (x3 : Int32) => K1 (x1, x2, x3)) T (ji k) (ji v) (ji r) = some (ji w)
    have e := k_shl sz hs
    rw [← hM] at e
    unfold s_X10_least_12
    rw [h22, e]
    by_cases h : r = M
    · rw [hv.un hw (by omega) hM16]
      simp (disch := omega) only [i0, i1, i2, i3, i4, i5, i6, i7, i8, i12, i16, i20, i30, i39, i40, i60, i64, i97, i100, i256, i1000, i10000, im1, im20, im60, l0, l1, l2, l3, l4, l5, l8, l10000, l1e9, lm10000, jl_add, jl_sub, jl_mul, jl_neg, ji_add, ji_sub, ji_mul, ji_neg, ji_l, jl_i, rL_n, rI_n, dL_n, dI_n, mnI_j, mxI_j, ji_nat, rest_j, part_n, whole_j, times_j, kc_0, kc_gt, kc_lt, kc_le, kc_ge, ji_lt, ji_le, ji_inj, jl_inj, jl_lt, jl_le, b1s, b2s, bEs, bEe, rIs, rIn, rIJ, rJs, rJn, rJI, ifp, ifn, if_true, if_false]
    · have hv1 : Ls A p M k r 1 v := hv.skip (fun q => by
        have q1 := q.2.2.2.1
        rw [show pop 0 = 0 from rfl] at q1
        omega)
      have inn := leM_in (k := k) (r := r) (R := some (ji w)) (K := fun (x1 : Int32) (x2 : Int32) (x3 : Int32) => K1 (x1, x2, x3)) h18 hp hA hE h22 hs hM hM16 hk (by omega) (fun v' hv' => IH v' (by omega) hv' (by omega)) FU 1 v (by omega) hv1 (FU_lt (by omega))
      clear IH hE
      simp (disch := omega) only [i0, i1, i2, i3, i4, i5, i6, i7, i8, i12, i16, i20, i30, i39, i40, i60, i64, i97, i100, i256, i1000, i10000, im1, im20, im60, l0, l1, l2, l3, l4, l5, l8, l10000, l1e9, lm10000, jl_add, jl_sub, jl_mul, jl_neg, ji_add, ji_sub, ji_mul, ji_neg, ji_l, jl_i, rL_n, rI_n, dL_n, dI_n, mnI_j, mxI_j, ji_nat, rest_j, part_n, whole_j, times_j, kc_0, kc_gt, kc_lt, kc_le, kc_ge, ji_lt, ji_le, ji_inj, jl_inj, jl_lt, jl_le, b1s, b2s, bEs, bEe, rIs, rIn, rIJ, rJs, rJn, rJI, ifp, ifn, if_true, if_false]
      exact inn
theorem ls_0 {A : Nat → Nat → Int} {p : Int} {M : Nat} (hp : 2 ≤ p) (hM : 1 ≤ M ∧ M ≤ 16) : Ls A p M 0 16 0 0 := by
  have e : mn A 0 0 = 1 := rfl
  have v : vp p 1 = 0 := by
    have := vp_eq hp (k := 0) (w := 1) (fun q => by
      have := Int.le_of_dvd (by omega) q
      omega)
    simpa using this
  refine Or.inr ⟨⟨0, 0, ⟨by omega, by omega, rfl, rfl, by rw [e]; omega⟩, by rw [e, v]; rfl⟩, fun r' c' q q2 => by omega⟩
theorem leM {T : St} {A : Nat → Nat → Int} {p w : Int} {sz M k : Nat} (h18 : T.1 0 18 = ji p) (hp : 2 ≤ p ∧ p ≤ 97) (hA : AB A) (hE : EnM T A) (h22 : T.1 0 22 = ji sz) (hs : 1 ≤ sz ∧ sz ≤ 4) (hM : M = 2 ^ sz) (hM16 : 2 ≤ M ∧ M ≤ 16) (hk : k ≤ 5) (hw : Ls A p M k 16 0 w) : f_X10_least (ji k) T = some (ji w) := by
  unfold f_X10_least
  by_cases h0 : k = 0
  · subst h0
    have := (ls_0 (A := A) (M := M) hp.1 ⟨by omega, hM16.2⟩).un hw hM16.2 hM16.2
    subst this
    have e := k_shl sz hs.2
    rw [← hM] at e
    have st : s_X10_least_12 (fun (x1 : Int32) (x2 : Int32) (x3 : Int32) => itr (fun (q : Int32 × Int32 × Int32) k => s_X10_least_12 (fun (x1 : Int32) (x2 : Int32) (x3 : Int32) => k (x1, x2, x3)) T q.1 q.2.1 q.2.2) (FU - 1) (x1, x2, x3)) T (ji 0) (ji 0) (ji 1) = some (ji 0) := by
      unfold s_X10_least_12
      rw [h22, e]
      simp (disch := omega) only [i0, i1, i2, i3, i4, i5, i6, i7, i8, i12, i16, i20, i30, i39, i40, i60, i64, i97, i100, i256, i1000, i10000, im1, im20, im60, l0, l1, l2, l3, l4, l5, l8, l10000, l1e9, lm10000, jl_add, jl_sub, jl_mul, jl_neg, ji_add, ji_sub, ji_mul, ji_neg, ji_l, jl_i, rL_n, rI_n, dL_n, dI_n, mnI_j, mxI_j, ji_nat, rest_j, part_n, whole_j, times_j, kc_0, kc_gt, kc_lt, kc_le, kc_ge, ji_lt, ji_le, ji_inj, jl_inj, jl_lt, jl_le, b1s, b2s, bEs, bEe, rIs, rIn, rIJ, rJs, rJn, rJI, ifp, ifn, if_true, if_false]
    rw [show ((0 : Nat) : Int) = 0 from rfl, i0, if_pos rfl, i1]
    unfold n_X10_least_12
    rw [show FU = (FU - 1) + 1 from rfl, itrS]
    exact st
  · have l : Ls A p M k 1 0 (-1) := Or.inl ⟨rfl, fun r' c' q q2 => by
      have q3 := q.2.2.1
      have : r' = 0 := by omega
      subst this
      rw [show pop 0 = 0 from rfl] at q3
      omega⟩
    have g := leM_out h18 hp hA hE h22 hs.2 hM hM16.2 ⟨by omega, hk⟩ hw FU 1 (-1) (by omega) l (FU_lt (by omega))
    rw [if_neg (fun q => h0 (by rw [i0] at q; have := (ji_inj (by omega) (by omega)).mp q; omega))]
    unfold n_X10_least_12
    rw [im1, i1]
    exact g
