/-! the minors of the other program -/
def EnC (S : St) (A : Nat → Nat → Int) : Prop := ∀ i j : Nat, i < 4 → j < 4 → S.1 10 (4 * i + j) = ji (A i j) ∧ -999 ≤ A i j ∧ A i j ≤ 999
def tm (A : Nat → Nat → Int) (k r c j : Nat) : Int := if bt c j = 1 then (if af c j % 2 = 1 then -1 else 1) * (A (lst r) j * lap A k (r - 2 ^ lst r) (c - 2 ^ j)) else 0
def lp (A : Nat → Nat → Int) (k r c : Nat) : Nat → Int
  | 0 => 0
  | j + 1 => lp A k r c j + tm A k r c j
theorem lap_lp (A : Nat → Nat → Int) (k r c : Nat) : lap A (k + 1) r c = lp A k r c 4 := by
  show tm A k r c 0 + tm A k r c 1 + tm A k r c 2 + tm A k r c 3 = 0 + tm A k r c 0 + tm A k r c 1 + tm A k r c 2 + tm A k r c 3
  rw [Int.zero_add]
theorem lp_cut {A : Nat → Nat → Int} {k r c s : Nat} (h : ∀ j : Nat, j < 4 → bt c j = 1 → j < s) : ∀ j : Nat, s ≤ j → j ≤ 4 → lp A k r c j = lp A k r c s
  | 0, h1, _ => by rw [show s = 0 by omega]
  | j + 1, h1, h2 => by
    by_cases e : s = j + 1
    · rw [e]
    · have : tm A k r c j = 0 := if_neg (fun q => by have := h j (by omega) q; omega)
      rw [lp, this, Int.add_zero]
      exact lp_cut h j (by omega) (by omega)
theorem entC {S : St} {A : Nat → Nat → Int} (hA : EnC S A) {i j : Nat} (hi : i < 4) (hj : j < 4) : f_X1_entryAt (ji i) (ji j) S = some (ji (A i j)) := by
  have e := (hA i j hi hj).1
  have e2 : (4 * (i : Int) + j).toNat = 4 * i + j := by omega
  have e3 : (i : Int) * 4 = 4 * i := Int.mul_comm _ _
  unfold f_X1_entryAt
  simp (disch := omega) only [i0, i1, i2, i3, i4, i5, i6, i7, i8, i12, i16, i20, i30, i39, i40, i60, i64, i97, i100, i256, i1000, i10000, im1, im20, im60, l0, l1, l2, l3, l4, l5, l8, l10000, l1e9, lm10000, jl_add, jl_sub, jl_mul, jl_neg, ji_add, ji_sub, ji_mul, ji_neg, ji_l, jl_i, rL_n, rI_n, dL_n, dI_n, mnI_j, mxI_j, ji_nat, rest_j, part_n, whole_j, times_j, kc_0, kc_gt, kc_lt, kc_le, kc_ge, ji_lt, ji_le, ji_inj, jl_inj, jl_lt, jl_le, b1s, b2s, bEs, bEe, rIs, rIn, rIJ, rJs, rJn, rJI, ifp, ifn, if_true, if_false, e3, e2, e]
theorem minC {S : St} {r c : Nat} (hr : r < 16) (hc : c < 16) : f_X1_minorOf (ji r) (ji c) S = some (S.2 11 (16 * r + c)) := by
  have e2 : (16 * (r : Int) + c).toNat = 16 * r + c := by omega
  have e3 : (r : Int) * 16 = 16 * r := Int.mul_comm _ _
  unfold f_X1_minorOf
  simp (disch := omega) only [i0, i1, i2, i3, i4, i5, i6, i7, i8, i12, i16, i20, i30, i39, i40, i60, i64, i97, i100, i256, i1000, i10000, im1, im20, im60, l0, l1, l2, l3, l4, l5, l8, l10000, l1e9, lm10000, jl_add, jl_sub, jl_mul, jl_neg, ji_add, ji_sub, ji_mul, ji_neg, ji_l, jl_i, rL_n, rI_n, dL_n, dI_n, mnI_j, mxI_j, ji_nat, rest_j, part_n, whole_j, times_j, kc_0, kc_gt, kc_lt, kc_le, kc_ge, ji_lt, ji_le, ji_inj, jl_inj, jl_lt, jl_le, b1s, b2s, bEs, bEe, rIs, rIn, rIJ, rJs, rJn, rJI, ifp, ifn, if_true, if_false, e3, e2]
theorem expC_loop {S : St} {A : Nat → Nat → Int} {sz k r c M : Nat} (hA : EnC S A) (h2 : S.1 2 0 = ji sz) (hs : sz ≤ 4) (hM : M = 2 ^ sz) (hM16 : M ≤ 16) (hr : r < M) (hc : c < M) (hr0 : r ≠ 0) (kr : pop r = k + 1) (kc : pop c = k + 1) (hm : ∀ r' c' : Nat, r' < r → c' < M → S.2 11 (16 * r' + c') = jl (mn A r' c')) : ∀ (N j : Nat), j ≤ sz → sz - j < N →
    itr (fun (q : Int32 × Int32 × Int32 × Int64 × Int32) k => s_X1_expanded_39 (fun (x2 : Int32) (x3 : Int32) (x4 : Int32) (x5 : Int64) (x7 : Int32) => k (x2, x3, x4, x5, x7)) S q.1 q.2.1 q.2.2.1 q.2.2.2.1 q.2.2.2.2) N (ji c, ji (lst r : Nat), ji (r - 2 ^ lst r : Nat), jl (lp A k r c j), ji j) = some (jl (lap A (k + 1) r c))
  | 0, _, _, h => absurd h (Nat.not_lt_zero _)
  | N + 1, j, hj, hN => by
    rw [itrS]
    have IH := expC_loop (k := k) hA h2 hs hM hM16 hr hc hr0 kr kc hm N (j + 1)
    generalize itr _ N = K at IH
    show s_X1_expanded_39 _ S (ji c) (ji (lst r : Nat)) (ji (r - 2 ^ lst r : Nat)) (jl (lp A k r c j)) (ji j) = _
    have cut := k_small sz hs c (by omega) (by rw [← hM]; exact hc)
    unfold s_X1_expanded_39
    by_cases h : j = sz
    · subst h
      rw [lap_lp, lp_cut cut 4 hs (Nat.le_refl _)]
      simp (disch := omega) only [i0, i1, i2, i3, i4, i5, i6, i7, i8, i12, i16, i20, i30, i39, i40, i60, i64, i97, i100, i256, i1000, i10000, im1, im20, im60, l0, l1, l2, l3, l4, l5, l8, l10000, l1e9, lm10000, jl_add, jl_sub, jl_mul, jl_neg, ji_add, ji_sub, ji_mul, ji_neg, ji_l, jl_i, rL_n, rI_n, dL_n, dI_n, mnI_j, mxI_j, ji_nat, rest_j, part_n, whole_j, times_j, kc_0, kc_gt, kc_lt, kc_le, kc_ge, ji_lt, ji_le, ji_inj, jl_inj, jl_lt, jl_le, b1s, b2s, bEs, bEe, rIs, rIn, rIJ, rJs, rJn, rJI, ifp, ifn, if_true, if_false, h2]
    · have next := IH (by omega) (by omega)
      have e5 : lp A k r c (j + 1) = lp A k r c j + tm A k r c j := rfl
      obtain ⟨b1', b2'⟩ := k_bit c (by omega) j (by omega)
      rw [i1] at b1'
      by_cases hb : bt c j = 1
      · obtain ⟨-, l1, l2, -, l4, l5⟩ := k_last r (by omega) hr0
        obtain ⟨t1, t2⟩ := k_take c (by omega) j (by omega) hb
        obtain ⟨a1, a2, a3⟩ := k_after c (by omega) j (by omega)
        have en := entC hA l1 (show j < 4 by omega)
        have cs := Nat.sub_le c (2 ^ j)
        have mi := minC (S := S) (r := r - 2 ^ lst r) (c := c - 2 ^ j) (by omega) (by omega)
        have mv := hm (r - 2 ^ lst r) (c - 2 ^ j) l4 (by omega)
        unfold mn at mv
        rw [if_pos (by omega), show pop (r - 2 ^ lst r) = k by omega] at mv
        rw [mv] at mi
        have bA := (hA (lst r) j l1 (by omega)).2
        rw [hb] at b1'
        rw [im1, i1] at t1
        rw [i1] at a3
        unfold tm at e5
        rw [if_pos hb] at e5
        rw [show ((j + 1 : Nat) : Int) = (j : Int) + 1 by omega] at next
        unfold n_X1_expanded_103
        clear IH cut hm hA
        by_cases ha : af c j % 2 = 1
        · rw [if_pos ha] at e5
          rw [ha] at a3
          simp (disch := omega) only [i0, i1, i2, i3, i4, i5, i6, i7, i8, i12, i16, i20, i30, i39, i40, i60, i64, i97, i100, i256, i1000, i10000, im1, im20, im60, l0, l1, l2, l3, l4, l5, l8, l10000, l1e9, lm10000, jl_add, jl_sub, jl_mul, jl_neg, ji_add, ji_sub, ji_mul, ji_neg, ji_l, jl_i, rL_n, rI_n, dL_n, dI_n, mnI_j, mxI_j, ji_nat, rest_j, part_n, whole_j, times_j, kc_0, kc_gt, kc_lt, kc_le, kc_ge, ji_lt, ji_le, ji_inj, jl_inj, jl_lt, jl_le, b1s, b2s, bEs, bEe, rIs, rIn, rIJ, rJs, rJn, rJI, ifp, ifn, if_true, if_false, h2, b1', en, t1, mi, a1, a3, Int.natCast_one]
          rw [show lp A k r c j - A (lst r) j * lap A k (r - 2 ^ lst r) (c - 2 ^ j) = lp A k r c (j + 1) by omega]
          exact next
        · rw [if_neg ha] at e5
          rw [show af c j % 2 = 0 by omega] at a3
          simp (disch := omega) only [i0, i1, i2, i3, i4, i5, i6, i7, i8, i12, i16, i20, i30, i39, i40, i60, i64, i97, i100, i256, i1000, i10000, im1, im20, im60, l0, l1, l2, l3, l4, l5, l8, l10000, l1e9, lm10000, jl_add, jl_sub, jl_mul, jl_neg, ji_add, ji_sub, ji_mul, ji_neg, ji_l, jl_i, rL_n, rI_n, dL_n, dI_n, mnI_j, mxI_j, ji_nat, rest_j, part_n, whole_j, times_j, kc_0, kc_gt, kc_lt, kc_le, kc_ge, ji_lt, ji_le, ji_inj, jl_inj, jl_lt, jl_le, b1s, b2s, bEs, bEe, rIs, rIn, rIJ, rJs, rJn, rJI, ifp, ifn, if_true, if_false, h2, b1', en, t1, mi, a1, a3, Int.natCast_one]
          rw [show lp A k r c j + A (lst r) j * lap A k (r - 2 ^ lst r) (c - 2 ^ j) = lp A k r c (j + 1) by omega]
          exact next
      · have z : tm A k r c j = 0 := if_neg hb
        rw [e5, z, Int.add_zero, show ((j + 1 : Nat) : Int) = (j : Int) + 1 by omega] at next
        rw [show bt c j = 0 by omega] at b1'
        simp (disch := omega) only [i0, i1, i2, i3, i4, i5, i6, i7, i8, i12, i16, i20, i30, i39, i40, i60, i64, i97, i100, i256, i1000, i10000, im1, im20, im60, l0, l1, l2, l3, l4, l5, l8, l10000, l1e9, lm10000, jl_add, jl_sub, jl_mul, jl_neg, ji_add, ji_sub, ji_mul, ji_neg, ji_l, jl_i, rL_n, rI_n, dL_n, dI_n, mnI_j, mxI_j, ji_nat, rest_j, part_n, whole_j, times_j, kc_0, kc_gt, kc_lt, kc_le, kc_ge, ji_lt, ji_le, ji_inj, jl_inj, jl_lt, jl_le, b1s, b2s, bEs, bEe, rIs, rIn, rIJ, rJs, rJn, rJI, ifp, ifn, if_true, if_false, h2, b1']
        exact next
theorem k_pop0 : ∀ r, r < 16 → (pop r = 0 ↔ r = 0) := by decide +kernel
theorem expC {S : St} {A : Nat → Nat → Int} {sz r c M : Nat} (hA : EnC S A) (h2 : S.1 2 0 = ji sz) (hs : sz ≤ 4) (hM : M = 2 ^ sz) (hM16 : M ≤ 16) (hr : r < M) (hc : c < M) (hm : ∀ r' c' : Nat, r' < r → c' < M → S.2 11 (16 * r' + c') = jl (mn A r' c')) : f_X1_expanded (ji r) (ji c) S = some (jl (mn A r c)) := by
  obtain ⟨p1, p2⟩ := k_count r (by omega)
  obtain ⟨p3, p4⟩ := k_count c (by omega)
  unfold f_X1_expanded
  rw [p1, b1s, p3, b1s]
  by_cases h : pop r = pop c
  · rw [if_pos (by rw [h])]
    unfold mn
    rw [if_pos h]
    by_cases h0 : r = 0
    · subst h0
      rfl
    · have h00 : ¬ ji (r : Int) = 0 := fun q => by
        rw [i0] at q
        have := (ji_inj (by omega) (by omega)).mp q
        omega
      have hp : pop r ≠ 0 := fun q => h0 ((k_pop0 r (by omega)).mp q)
      obtain ⟨l0, l1, l2, l3, l4, l5⟩ := k_last r (by omega) h0
      have := expC_loop (k := pop r - 1) hA h2 hs hM hM16 hr hc h0 (by omega) (by omega) hm FU 0 (by omega) (FU_lt (by omega))
      rw [show pop r - 1 + 1 = pop r by omega] at this
      rw [if_neg h00, l0, b1s, l3]
      exact this
  · rw [if_neg (fun q => h (by have := (ji_inj (by omega) (by omega)).mp q; omega))]
    unfold mn
    rw [if_neg h]
    rfl
def FrM (S S' : St) : Prop := S'.1 = S.1 ∧ ∀ o i : Nat, o ≠ 11 → S'.2 o i = S.2 o i
theorem FrM.fr {S S' : St} (h : FrM S S') : FrS S S' := ⟨fun o i _ _ _ => by rw [h.1], fun o i _ _ q => h.2 o i q⟩
def Mem (S : St) (A : Nat → Nat → Int) (M r c : Nat) : Prop := ∀ r' c' : Nat, c' < M → (r' < r ∨ (r' = r ∧ c' < c)) → S.2 11 (16 * r' + c') = jl (mn A r' c')
theorem EnC.fr {S S' : St} {A : Nat → Nat → Int} (h : EnC S A) (f : FrM S S') : EnC S' A := fun i j hi hj => by rw [f.1]; exact h i j hi hj
theorem fillC_in {A : Nat → Nat → Int} {sz r M : Nat} {K : Int32 → Int32 → St → Option St} (hs : sz ≤ 4) (hM : M = 2 ^ sz) (hM16 : M ≤ 16) (hr : r < M) : ∀ (N c : Nat) (S : St), EnC S A → S.1 2 0 = ji sz → c ≤ M → Mem S A M r c → M - c < N →
    ∃ S' : St, FrM S S' ∧ Mem S' A M (r + 1) 0 ∧ itr (fun (q : Int32 × Int32 × Int32 × St) k => s_X1_fillMinors_16 K (fun (x1 : Int32) (x2 : Int32) (x3 : Int32) (S : St) => k (x1, x2, x3, S)) q.1 q.2.1 q.2.2.1 q.2.2.2) N (ji M, ji r, ji c, S) = K (ji M) (ji (r + 1 : Nat)) S'
  | 0, _, _, _, _, _, _, h => absurd h (Nat.not_lt_zero _)
  | N + 1, c, S, hA, h2, hc, hm, hN => by
    rw [itrS]
    have IH := fillC_in (A := A) (K := K) hs hM hM16 hr N (c + 1)
    generalize itr _ N = K1 at IH
    show ∃ S' : St, FrM S S' ∧ Mem S' A M (r + 1) 0 ∧ s_X1_fillMinors_16 K (fun (x1 : Int32) (x2 : Int32) (x3 : Int32) (S : St) => K1 (x1, x2, x3, S)) (ji M) (ji r) (ji c) S = _
    unfold s_X1_fillMinors_16
    by_cases h : c = M
    · subst h
      refine ⟨S, ⟨rfl, fun _ _ _ => rfl⟩, fun r' c' q1 q2 => hm r' c' q1 (by omega), ?_⟩
      simp (disch := omega) only [i0, i1, i2, i3, i4, i5, i6, i7, i8, i12, i16, i20, i30, i39, i40, i60, i64, i97, i100, i256, i1000, i10000, im1, im20, im60, l0, l1, l2, l3, l4, l5, l8, l10000, l1e9, lm10000, jl_add, jl_sub, jl_mul, jl_neg, ji_add, ji_sub, ji_mul, ji_neg, ji_l, jl_i, rL_n, rI_n, dL_n, dI_n, mnI_j, mxI_j, ji_nat, rest_j, part_n, whole_j, times_j, kc_0, kc_gt, kc_lt, kc_le, kc_ge, ji_lt, ji_le, ji_inj, jl_inj, jl_lt, jl_le, b1s, b2s, bEs, bEe, rIs, rIn, rIJ, rJs, rJn, rJI, ifp, ifn, if_true, if_false]
      rfl
    · have e := expC hA h2 hs hM hM16 hr (show c < M by omega) (fun r' c' q1 q2 => hm r' c' q2 (Or.inl q1))
      have e2 : (16 * (r : Int) + c).toNat = 16 * r + c := by omega
      have e3 : (r : Int) * 16 = 16 * r := Int.mul_comm _ _
      have f1 : FrM S (wJ S 11 (16 * r + c) (jl (mn A r c))) := ⟨rfl, fun o i q => rJn (by omega)⟩
      obtain ⟨S', s1, s2, s3⟩ := IH (wJ S 11 (16 * r + c) (jl (mn A r c))) (hA.fr f1) (by rw [f1.1]; exact h2) (by omega) (fun r' c' q1 q2 => by
        by_cases q : r' = r ∧ c' = c
        · rw [q.1, q.2, rJs]
        · rw [rJn (by omega)]
          exact hm r' c' q1 (by omega)) (by omega)
      refine ⟨S', ⟨s1.1, fun o i q => (s1.2 o i q).trans (f1.2 o i q)⟩, s2, ?_⟩
      simp (disch := omega) only [i0, i1, i2, i3, i4, i5, i6, i7, i8, i12, i16, i20, i30, i39, i40, i60, i64, i97, i100, i256, i1000, i10000, im1, im20, im60, l0, l1, l2, l3, l4, l5, l8, l10000, l1e9, lm10000, jl_add, jl_sub, jl_mul, jl_neg, ji_add, ji_sub, ji_mul, ji_neg, ji_l, jl_i, rL_n, rI_n, dL_n, dI_n, mnI_j, mxI_j, ji_nat, rest_j, part_n, whole_j, times_j, kc_0, kc_gt, kc_lt, kc_le, kc_ge, ji_lt, ji_le, ji_inj, jl_inj, jl_lt, jl_le, b1s, b2s, bEs, bEe, rIs, rIn, rIJ, rJs, rJn, rJI, ifp, ifn, if_true, if_false, e3, e2, e]
      exact s3
theorem fillC_out {A : Nat → Nat → Int} {sz M : Nat} (hs : sz ≤ 4) (hM : M = 2 ^ sz) (hM16 : M ≤ 16) : ∀ (N r : Nat) (S : St), EnC S A → S.1 2 0 = ji sz → r ≤ M → Mem S A M r 0 → M - r < N →
    ∃ S' : St, FrM S S' ∧ Mem S' A M M 0 ∧ itr (fun (q : Int32 × Int32 × St) k => s_X1_fillMinors_9 (fun (x1 : Int32) (x2 : Int32) (S : St) => k (x1, x2, S)) q.1 q.2.1 q.2.2) N (ji M, ji r, S) = some S'
  | 0, _, _, _, _, _, _, h => absurd h (Nat.not_lt_zero _)
  | N + 1, r, S, hA, h2, hr, hm, hN => by
    rw [itrS]
    have IH := fillC_out (A := A) hs hM hM16 N (r + 1)
    generalize itr _ N = K1 at IH
    show ∃ S' : St, FrM S S' ∧ Mem S' A M M 0 ∧ s_X1_fillMinors_9 (fun (x1 : Int32) (x2 : Int32) (S : St) => K1 (x1, x2, S)) (ji M) (ji r) S = _
    unfold s_X1_fillMinors_9
    by_cases h : r = M
    · subst h
      refine ⟨S, ⟨rfl, fun _ _ _ => rfl⟩, hm, ?_⟩
      simp (disch := omega) only [i0, i1, i2, i3, i4, i5, i6, i7, i8, i12, i16, i20, i30, i39, i40, i60, i64, i97, i100, i256, i1000, i10000, im1, im20, im60, l0, l1, l2, l3, l4, l5, l8, l10000, l1e9, lm10000, jl_add, jl_sub, jl_mul, jl_neg, ji_add, ji_sub, ji_mul, ji_neg, ji_l, jl_i, rL_n, rI_n, dL_n, dI_n, mnI_j, mxI_j, ji_nat, rest_j, part_n, whole_j, times_j, kc_0, kc_gt, kc_lt, kc_le, kc_ge, ji_lt, ji_le, ji_inj, jl_inj, jl_lt, jl_le, b1s, b2s, bEs, bEe, rIs, rIn, rIJ, rJs, rJn, rJI, ifp, ifn, if_true, if_false]
    · obtain ⟨S1, s1, s2, s3⟩ := fillC_in (A := A) (r := r) (K := fun (x1 : Int32) (x2 : Int32) (S : St) => K1 (x1, x2, S)) hs hM hM16 (by omega) FU 0 S hA h2 (by omega) hm (FU_lt (by omega))
      obtain ⟨S', t1, t2, t3⟩ := IH S1 (hA.fr s1) (by rw [s1.1]; exact h2) (by omega) s2 (by omega)
      refine ⟨S', ⟨t1.1.trans s1.1, fun o i q => (t1.2 o i q).trans (s1.2 o i q)⟩, t2, ?_⟩
      simp (disch := omega) only [i0, i1, i2, i3, i4, i5, i6, i7, i8, i12, i16, i20, i30, i39, i40, i60, i64, i97, i100, i256, i1000, i10000, im1, im20, im60, l0, l1, l2, l3, l4, l5, l8, l10000, l1e9, lm10000, jl_add, jl_sub, jl_mul, jl_neg, ji_add, ji_sub, ji_mul, ji_neg, ji_l, jl_i, rL_n, rI_n, dL_n, dI_n, mnI_j, mxI_j, ji_nat, rest_j, part_n, whole_j, times_j, kc_0, kc_gt, kc_lt, kc_le, kc_ge, ji_lt, ji_le, ji_inj, jl_inj, jl_lt, jl_le, b1s, b2s, bEs, bEe, rIs, rIn, rIJ, rJs, rJn, rJI, ifp, ifn, if_true, if_false]
      exact s3.trans t3
theorem fillC {S : St} {A : Nat → Nat → Int} {sz : Nat} (hA : EnC S A) (h2 : S.1 2 0 = ji sz) (hs : sz ≤ 4) : ∃ S' : St, f_X1_fillMinors S = some S' ∧ FrM S S' ∧ ∀ r c : Nat, r < 2 ^ sz → c < 2 ^ sz → S'.2 11 (16 * r + c) = jl (mn A r c) := by
  have m16 : 2 ^ sz ≤ 16 := by
    rcases show sz = 0 ∨ sz = 1 ∨ sz = 2 ∨ sz = 3 ∨ sz = 4 by omega with q | q | q | q | q <;> subst q <;> decide
  obtain ⟨S', s1, s2, s3⟩ := fillC_out (A := A) hs rfl m16 FU 0 S hA h2 (Nat.zero_le _) (fun r' c' q1 q2 => by omega) (FU_lt (by omega))
  refine ⟨S', ?_, s1, fun r c hr hc => s2 r c hc (Or.inl hr)⟩
  unfold f_X1_fillMinors
  rw [h2, k_shl sz hs]
  exact s3
