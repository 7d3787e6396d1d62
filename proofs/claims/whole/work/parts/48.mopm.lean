/-! the same, by the reference -/
theorem sumM {T : St} {p : Int} {r n m : Nat} {x y : Int × Int × Int} {s : Int} (h : T.1 0 18 = ji p) (hr : Rch p r) (hn : n < 40) (hm : m < 40) (hx : NumM T n x) (hy : NumM T m y) (wx : Wf p r x) (wy : Wf p r y) (hs : s = 1 ∨ s = -1) : f_X10_sum (ji n) (ji m) (ji s) T = some (setF T (sumS p r x y s)) := by
  have h4 := hr.2.2.2.2
  have hp := hr.1
  have hp2 := hr.2.1
  have ux := wx.u9 hr
  have uy := wy.u9 hr
  obtain ⟨a1, a2, a3, a4, -⟩ := wx
  obtain ⟨b1, b2, b3, b4, -⟩ := wy
  obtain ⟨x1, x2, x3⟩ := hx
  obtain ⟨y1, y2, y3⟩ := hy
  have c1 := pw_pos hr.1 (min x.2.1 y.2.1 - min x.1 y.1).toNat
  have c2 := hr.le (show (min x.2.1 y.2.1 - min x.1 y.1).toNat ≤ r by omega)
  have d1 := pw_pos hr.1 (x.1 - min x.1 y.1).toNat
  have d2 := pw_pos hr.1 (y.1 - min x.1 y.1).toNat
  have hmm : min (min x.2.1 y.2.1) (min x.1 y.1) = min x.1 y.1 := by omega
  unfold f_X10_sum
  simp (disch := omega) only [i0, i1, i2, i3, i4, i5, i6, i7, i8, i12, i16, i20, i30, i39, i40, i60, i64, i97, i100, i256, i1000, i10000, im1, im20, im60, l0, l1, l2, l3, l4, l5, l8, l10000, l1e9, lm10000, jl_add, jl_sub, jl_mul, jl_neg, ji_add, ji_sub, ji_mul, ji_neg, ji_l, jl_i, rL_n, rI_n, dL_n, dI_n, mnI_j, mxI_j, ji_nat, rest_j, part_n, whole_j, times_j, kc_0, kc_gt, kc_lt, kc_le, kc_ge, ji_lt, ji_le, ji_inj, jl_inj, jl_lt, jl_le, b1s, b2s, bEs, bEe, rIs, rIn, rIJ, rJs, rJn, rJI, ifp, ifn, if_true, if_false, Int.toNat_natCast, x1, x2, x3, y1, y2, y3, hmm]
  rw [pwM h ⟨hp, hp2⟩ (by omega), b1s]
  have fin : ∀ X Y : Int, (0 ≤ X ∧ X < p ^ (min x.2.1 y.2.1 - min x.1 y.1).toNat) → (0 ≤ Y ∧ Y < p ^ (min x.2.1 y.2.1 - min x.1 y.1).toNat) → p ^ (min x.2.1 y.2.1 - min x.1 y.1).toNat ∣ X - x.2.2 * p ^ (x.1 - min x.1 y.1).toNat → p ^ (min x.2.1 y.2.1 - min x.1 y.1).toNat ∣ Y - y.2.2 * p ^ (y.1 - min x.1 y.1).toNat →
      n_X10_sum_134 (ji s) (ji (min x.2.1 y.2.1)) (ji (min x.1 y.1)) (jl (p ^ (min x.2.1 y.2.1 - min x.1 y.1).toNat)) (jl X) (jl Y) T = some (setF T (sumS p r x y s)) := by
    intro X Y hX hY eX eY
    unfold n_X10_sum_134
    have c3 := emod_rng (a := X + s * Y) c1
    rw [ji_l (by omega), jl_mul, jl_add, whole_j (by rcases hs with rfl | rfl <;> omega) (by omega), b1s, laysM h hr (by omega) (by omega) (by omega) (by omega), b1s]
    unfold sumS
    rw [lay_congr (w := (X + s * Y) % p ^ (min x.2.1 y.2.1 - min x.1 y.1).toNat) hr.1]
    refine Int.dvd_trans (pw_dvd p (show _ ≤ (min x.2.1 y.2.1 - min x.1 y.1).toNat by omega)) ?_
    have e3 := Int.dvd_add (Int.dvd_add (mod_dvd (X + s * Y) (p ^ (min x.2.1 y.2.1 - min x.1 y.1).toNat)) eX) (Int.dvd_mul_of_dvd_right (b := s) eY)
    have e4 : (X + s * Y) % p ^ (min x.2.1 y.2.1 - min x.1 y.1).toNat - (X + s * Y) + (X - x.2.2 * p ^ (x.1 - min x.1 y.1).toNat) + s * (Y - y.2.2 * p ^ (y.1 - min x.1 y.1).toNat) = (X + s * Y) % p ^ (min x.2.1 y.2.1 - min x.1 y.1).toNat - (x.2.2 * p ^ (x.1 - min x.1 y.1).toNat + s * (y.2.2 * p ^ (y.1 - min x.1 y.1).toNat)) := by grind
    rwa [e4] at e3
  -- a part of one of them: its digits, moved, and no more of them than the sum has
  have part : ∀ (v : Int) (u : Int) (k : Nat), (0 ≤ u ∧ u < 1000000000) → (v < min x.2.1 y.2.1 → k = (v - min x.1 y.1).toNat) → min x.1 y.1 ≤ v →
      v < min x.2.1 y.2.1 → ((0 ≤ u % p ^ (min x.2.1 y.2.1 - min x.1 y.1).toNat * p ^ k ∧ u % p ^ (min x.2.1 y.2.1 - min x.1 y.1).toNat * p ^ k < 4611686018427387904) ∧
      p ^ (min x.2.1 y.2.1 - min x.1 y.1).toNat ∣ u % p ^ (min x.2.1 y.2.1 - min x.1 y.1).toNat * p ^ k % p ^ (min x.2.1 y.2.1 - min x.1 y.1).toNat - u * p ^ k) := by
    intro v u k hu hk hv hlt
    have k1 := hk hlt
    have k2 := pw_pos hr.1 k
    have k3 := hr.le (show k ≤ r by omega)
    have k4 := emod_rng (a := u) c1
    have k5 := sq_rng (a := u % p ^ (min x.2.1 y.2.1 - min x.1 y.1).toNat) (b := p ^ k) (m := 2147483648) (by omega) (by omega) (by omega)
    refine ⟨k5, ?_⟩
    have k6 := Int.dvd_add (mod_dvd (u % p ^ (min x.2.1 y.2.1 - min x.1 y.1).toNat * p ^ k) (p ^ (min x.2.1 y.2.1 - min x.1 y.1).toNat)) (Int.dvd_mul_of_dvd_left (c := p ^ k) (mod_dvd u (p ^ (min x.2.1 y.2.1 - min x.1 y.1).toNat)))
    rwa [Int.sub_mul, show ∀ a b c : Int, a - b + (b - c) = a - c by intros; omega] at k6
  have zero : ∀ (v u : Int), min x.2.1 y.2.1 ≤ v → p ^ (min x.2.1 y.2.1 - min x.1 y.1).toNat ∣ 0 - u * p ^ (v - min x.1 y.1).toNat := fun v u hv => by
    rw [Int.zero_sub]
    exact Int.dvd_neg.mpr (Int.dvd_mul_of_dvd_right (pw_dvd p (by omega)))
  have second : ∀ X : Int, (0 ≤ X ∧ X < p ^ (min x.2.1 y.2.1 - min x.1 y.1).toNat) → p ^ (min x.2.1 y.2.1 - min x.1 y.1).toNat ∣ X - x.2.2 * p ^ (x.1 - min x.1 y.1).toNat →
      n_X10_sum_91 (ji m) (ji s) (ji (min x.2.1 y.2.1)) (ji (min x.1 y.1)) (jl (p ^ (min x.2.1 y.2.1 - min x.1 y.1).toNat)) (jl X) T = some (setF T (sumS p r x y s)) := by
    intro X hX eX
    unfold n_X10_sum_91
    simp (disch := omega) only [i0, i1, i2, i3, i4, i5, i6, i7, i8, i12, i16, i20, i30, i39, i40, i60, i64, i97, i100, i256, i1000, i10000, im1, im20, im60, l0, l1, l2, l3, l4, l5, l8, l10000, l1e9, lm10000, jl_add, jl_sub, jl_mul, jl_neg, ji_add, ji_sub, ji_mul, ji_neg, ji_l, jl_i, rL_n, rI_n, dL_n, dI_n, mnI_j, mxI_j, ji_nat, rest_j, part_n, whole_j, times_j, kc_0, kc_gt, kc_lt, kc_le, kc_ge, ji_lt, ji_le, ji_inj, jl_inj, jl_lt, jl_le, b1s, b2s, bEs, bEe, rIs, rIn, rIJ, rJs, rJn, rJI, ifp, ifn, if_true, if_false, Int.toNat_natCast, y1, y3]
    by_cases hc : y.1 < min x.2.1 y.2.1
    · rw [if_pos hc, pwM h ⟨hp, hp2⟩ (by omega), b1s]
      obtain ⟨g1, g2⟩ := part y.1 y.2.2 _ uy (fun _ => rfl) (by omega) hc
      have g3 := emod_rng (a := y.2.2) c1
      simp (disch := omega) only [i0, i1, i2, i3, i4, i5, i6, i7, i8, i12, i16, i20, i30, i39, i40, i60, i64, i97, i100, i256, i1000, i10000, im1, im20, im60, l0, l1, l2, l3, l4, l5, l8, l10000, l1e9, lm10000, jl_add, jl_sub, jl_mul, jl_neg, ji_add, ji_sub, ji_mul, ji_neg, ji_l, jl_i, rL_n, rI_n, dL_n, dI_n, mnI_j, mxI_j, ji_nat, rest_j, part_n, whole_j, times_j, kc_0, kc_gt, kc_lt, kc_le, kc_ge, ji_lt, ji_le, ji_inj, jl_inj, jl_lt, jl_le, b1s, b2s, bEs, bEe, rIs, rIn, rIJ, rJs, rJn, rJI, ifp, ifn, if_true, if_false]
      exact fin _ _ hX (emod_rng c1) eX g2
    · rw [if_neg hc]
      exact fin _ _ hX (by omega) eX (zero _ _ (by omega))
  by_cases hc : x.1 < min x.2.1 y.2.1
  · rw [pwM h ⟨hp, hp2⟩ (by omega), b1s]
    obtain ⟨g1, g2⟩ := part x.1 x.2.2 _ ux (fun _ => rfl) (by omega) hc
    have g3 := emod_rng (a := x.2.2) c1
    simp (disch := omega) only [i0, i1, i2, i3, i4, i5, i6, i7, i8, i12, i16, i20, i30, i39, i40, i60, i64, i97, i100, i256, i1000, i10000, im1, im20, im60, l0, l1, l2, l3, l4, l5, l8, l10000, l1e9, lm10000, jl_add, jl_sub, jl_mul, jl_neg, ji_add, ji_sub, ji_mul, ji_neg, ji_l, jl_i, rL_n, rI_n, dL_n, dI_n, mnI_j, mxI_j, ji_nat, rest_j, part_n, whole_j, times_j, kc_0, kc_gt, kc_lt, kc_le, kc_ge, ji_lt, ji_le, ji_inj, jl_inj, jl_lt, jl_le, b1s, b2s, bEs, bEe, rIs, rIn, rIJ, rJs, rJn, rJI, ifp, ifn, if_true, if_false]
    exact second _ (emod_rng c1) g2
  · simp (disch := omega) only [i0, i1, i2, i3, i4, i5, i6, i7, i8, i12, i16, i20, i30, i39, i40, i60, i64, i97, i100, i256, i1000, i10000, im1, im20, im60, l0, l1, l2, l3, l4, l5, l8, l10000, l1e9, lm10000, jl_add, jl_sub, jl_mul, jl_neg, ji_add, ji_sub, ji_mul, ji_neg, ji_l, jl_i, rL_n, rI_n, dL_n, dI_n, mnI_j, mxI_j, ji_nat, rest_j, part_n, whole_j, times_j, kc_0, kc_gt, kc_lt, kc_le, kc_ge, ji_lt, ji_le, ji_inj, jl_inj, jl_lt, jl_le, b1s, b2s, bEs, bEe, rIs, rIn, rIJ, rJs, rJn, rJI, ifp, ifn, if_true, if_false]
    exact second _ (by omega) (zero _ _ (by omega))
theorem productM {T : St} {p : Int} {r n m : Nat} {x y : Int × Int × Int} (h : T.1 0 18 = ji p) (hr : Rch p r) (hn : n < 40) (hm : m < 40) (hx : NumM T n x) (hy : NumM T m y) (wx : Wf p r x) (wy : Wf p r y) : f_X10_product (ji n) (ji m) T = some (setF T (prodS p r x y)) := by
  have h4 := hr.2.2.2.2
  have hp := hr.1
  have hp2 := hr.2.1
  have ux := wx.u9 hr
  have uy := wy.u9 hr
  have zx := wx.u0
  have zy := wy.u0
  obtain ⟨a1, a2, a3, a4, -⟩ := wx
  obtain ⟨b1, b2, b3, b4, -⟩ := wy
  obtain ⟨x1, x2, x3⟩ := hx
  obtain ⟨y1, y2, y3⟩ := hy
  have c1 := pw_pos hr.1 (min (x.1 + y.2.1) (y.1 + x.2.1) - (x.1 + y.1)).toNat
  have c2 := hr.le (show (min (x.1 + y.2.1) (y.1 + x.2.1) - (x.1 + y.1)).toNat ≤ r by omega)
  unfold f_X10_product n_X10_product_67
  simp (disch := omega) only [i0, i1, i2, i3, i4, i5, i6, i7, i8, i12, i16, i20, i30, i39, i40, i60, i64, i97, i100, i256, i1000, i10000, im1, im20, im60, l0, l1, l2, l3, l4, l5, l8, l10000, l1e9, lm10000, jl_add, jl_sub, jl_mul, jl_neg, ji_add, ji_sub, ji_mul, ji_neg, ji_l, jl_i, rL_n, rI_n, dL_n, dI_n, mnI_j, mxI_j, ji_nat, rest_j, part_n, whole_j, times_j, kc_0, kc_gt, kc_lt, kc_le, kc_ge, ji_lt, ji_le, ji_inj, jl_inj, jl_lt, jl_le, b1s, b2s, bEs, bEe, rIs, rIn, rIJ, rJs, rJn, rJI, ifp, ifn, if_true, if_false, Int.toNat_natCast, x1, x2, x3, y1, y2, y3]
  rw [nothM (by omega), b1s]
  have zer : x.2.2 = 0 ∨ y.2.2 = 0 → setF T (min (min (x.1 + y.2.1) (y.1 + x.2.1)) 60, min (min (x.1 + y.2.1) (y.1 + x.2.1)) 60, 0) = setF T (prodS p r x y) := by
    intro q
    unfold prodS lay
    rw [if_pos]
    right
    rcases q with q | q
    · rw [q, Int.zero_mul, Int.zero_emod]
    · rw [q, Int.mul_zero, Int.zero_emod]
  by_cases hx0 : x.2.2 = 0
  · rw [if_pos hx0, zer (Or.inl hx0)]
  · rw [if_neg hx0]
    by_cases hy0 : y.2.2 = 0
    · rw [if_pos hy0, zer (Or.inr hy0)]
    · rw [if_neg hy0, mostM h hr, b1s]
      simp (disch := omega) only [i0, i1, i2, i3, i4, i5, i6, i7, i8, i12, i16, i20, i30, i39, i40, i60, i64, i97, i100, i256, i1000, i10000, im1, im20, im60, l0, l1, l2, l3, l4, l5, l8, l10000, l1e9, lm10000, jl_add, jl_sub, jl_mul, jl_neg, ji_add, ji_sub, ji_mul, ji_neg, ji_l, jl_i, rL_n, rI_n, dL_n, dI_n, mnI_j, mxI_j, ji_nat, rest_j, part_n, whole_j, times_j, kc_0, kc_gt, kc_lt, kc_le, kc_ge, ji_lt, ji_le, ji_inj, jl_inj, jl_lt, jl_le, b1s, b2s, bEs, bEe, rIs, rIn, rIJ, rJs, rJn, rJI, ifp, ifn, if_true, if_false]
      rw [show min (min (x.1 + y.2.1) (y.1 + x.2.1) - (x.1 + y.1)) (r : Int) = min (x.1 + y.2.1) (y.1 + x.2.1) - (x.1 + y.1) by omega, pwM h ⟨hp, hp2⟩ (by omega), b1s]
      have g1 := emod_rng (a := x.2.2) c1
      have g2 := emod_rng (a := y.2.2) c1
      have g3 := sq_rng g1 g2 (by omega)
      have g4 := emod_rng (a := x.2.2 % p ^ (min (x.1 + y.2.1) (y.1 + x.2.1) - (x.1 + y.1)).toNat * (y.2.2 % p ^ (min (x.1 + y.2.1) (y.1 + x.2.1) - (x.1 + y.1)).toNat)) c1
      simp (disch := omega) only [i0, i1, i2, i3, i4, i5, i6, i7, i8, i12, i16, i20, i30, i39, i40, i60, i64, i97, i100, i256, i1000, i10000, im1, im20, im60, l0, l1, l2, l3, l4, l5, l8, l10000, l1e9, lm10000, jl_add, jl_sub, jl_mul, jl_neg, ji_add, ji_sub, ji_mul, ji_neg, ji_l, jl_i, rL_n, rI_n, dL_n, dI_n, mnI_j, mxI_j, ji_nat, rest_j, part_n, whole_j, times_j, kc_0, kc_gt, kc_lt, kc_le, kc_ge, ji_lt, ji_le, ji_inj, jl_inj, jl_lt, jl_le, b1s, b2s, bEs, bEe, rIs, rIn, rIJ, rJs, rJn, rJI, ifp, ifn, if_true, if_false]
      rw [laysM h hr (by omega) (by omega) (by omega) (by omega), b1s, ← Int.mul_emod]
      unfold prodS
      rw [lay_congr (w := x.2.2 * y.2.2 % p ^ (min (x.1 + y.2.1) (y.1 + x.2.1) - (x.1 + y.1)).toNat) hr.1]
      exact Int.dvd_trans (pw_dvd p (show _ ≤ (min (x.1 + y.2.1) (y.1 + x.2.1) - (x.1 + y.1)).toNat by omega)) (mod_dvd _ _)
theorem iv_mod {p a : Int} {n : Nat} : iv p n (a % p ^ n) = iv p n a := by
  unfold iv
  by_cases hn : n = 0
  · rw [if_pos hn, if_pos hn]
  · rw [if_neg hn, if_neg hn, ← pow_mod]
theorem quotientM {T : St} {p : Int} {r n m : Nat} {x y : Int × Int × Int} (h : T.1 0 18 = ji p) (hP : Pr p) (hr : Rch p r) (hn : n < 40) (hm : m < 40) (hx : NumM T n x) (hy : NumM T m y) (wx : Wf p r x) (wy : Wf p r y) : f_X10_quotient (ji n) (ji m) T = some (setF T (quotS p r x y)) := by
  have h4 := hr.2.2.2.2
  have hp := hr.1
  have hp2 := hr.2.1
  have ux := wx.u9 hr
  have uy := wy.u9 hr
  obtain ⟨a1, a2, a3, a4, -⟩ := wx
  obtain ⟨b1, b2, b3, b4, -⟩ := wy
  obtain ⟨x1, x2, x3⟩ := hx
  obtain ⟨y1, y2, y3⟩ := hy
  have c1 := pw_pos hr.1 (min (x.2.1 - y.1) (x.1 + y.2.1 - 2 * y.1) - (x.1 - y.1)).toNat
  have c2 := hr.le (show (min (x.2.1 - y.1) (x.1 + y.2.1 - 2 * y.1) - (x.1 - y.1)).toNat ≤ r by omega)
  unfold f_X10_quotient
  simp (disch := omega) only [i0, i1, i2, i3, i4, i5, i6, i7, i8, i12, i16, i20, i30, i39, i40, i60, i64, i97, i100, i256, i1000, i10000, im1, im20, im60, l0, l1, l2, l3, l4, l5, l8, l10000, l1e9, lm10000, jl_add, jl_sub, jl_mul, jl_neg, ji_add, ji_sub, ji_mul, ji_neg, ji_l, jl_i, rL_n, rI_n, dL_n, dI_n, mnI_j, mxI_j, ji_nat, rest_j, part_n, whole_j, times_j, kc_0, kc_gt, kc_lt, kc_le, kc_ge, ji_lt, ji_le, ji_inj, jl_inj, jl_lt, jl_le, b1s, b2s, bEs, bEe, rIs, rIn, rIJ, rJs, rJn, rJI, ifp, ifn, if_true, if_false, Int.toNat_natCast, x1, x2, x3, y1, y2, y3]
  by_cases hx0 : x.2.2 = 0
  · rw [if_pos hx0, nothM (by omega), b1s]
    unfold quotS lay
    rw [if_pos]
    right
    rw [hx0, Int.zero_mul, Int.zero_emod]
  · rw [if_neg hx0, pwM h ⟨hp, hp2⟩ (by omega), b1s]
    have g1 := emod_rng (a := x.2.2) c1
    have g2 := emod_rng (a := y.2.2) c1
    simp (disch := omega) only [i0, i1, i2, i3, i4, i5, i6, i7, i8, i12, i16, i20, i30, i39, i40, i60, i64, i97, i100, i256, i1000, i10000, im1, im20, im60, l0, l1, l2, l3, l4, l5, l8, l10000, l1e9, lm10000, jl_add, jl_sub, jl_mul, jl_neg, ji_add, ji_sub, ji_mul, ji_neg, ji_l, jl_i, rL_n, rI_n, dL_n, dI_n, mnI_j, mxI_j, ji_nat, rest_j, part_n, whole_j, times_j, kc_0, kc_gt, kc_lt, kc_le, kc_ge, ji_lt, ji_le, ji_inj, jl_inj, jl_lt, jl_le, b1s, b2s, bEs, bEe, rIs, rIn, rIJ, rJs, rJn, rJI, ifp, ifn, if_true, if_false]
    rw [invM h hP hr (by omega) (by omega), b1s, iv_mod]
    have g0 := iv_rng (a := y.2.2) hp (min (x.2.1 - y.1) (x.1 + y.2.1 - 2 * y.1) - (x.1 - y.1)).toNat
    have g3 := sq_rng g1 g0 (by omega)
    have g4 := emod_rng (a := x.2.2 % p ^ (min (x.2.1 - y.1) (x.1 + y.2.1 - 2 * y.1) - (x.1 - y.1)).toNat * iv p (min (x.2.1 - y.1) (x.1 + y.2.1 - 2 * y.1) - (x.1 - y.1)).toNat y.2.2) c1
    simp (disch := omega) only [i0, i1, i2, i3, i4, i5, i6, i7, i8, i12, i16, i20, i30, i39, i40, i60, i64, i97, i100, i256, i1000, i10000, im1, im20, im60, l0, l1, l2, l3, l4, l5, l8, l10000, l1e9, lm10000, jl_add, jl_sub, jl_mul, jl_neg, ji_add, ji_sub, ji_mul, ji_neg, ji_l, jl_i, rL_n, rI_n, dL_n, dI_n, mnI_j, mxI_j, ji_nat, rest_j, part_n, whole_j, times_j, kc_0, kc_gt, kc_lt, kc_le, kc_ge, ji_lt, ji_le, ji_inj, jl_inj, jl_lt, jl_le, b1s, b2s, bEs, bEe, rIs, rIn, rIJ, rJs, rJn, rJI, ifp, ifn, if_true, if_false]
    rw [laysM h hr (by omega) (by omega) (by omega) (by omega), b1s]
    unfold quotS
    rw [lay_congr (w := x.2.2 % p ^ (min (x.2.1 - y.1) (x.1 + y.2.1 - 2 * y.1) - (x.1 - y.1)).toNat * iv p (min (x.2.1 - y.1) (x.1 + y.2.1 - 2 * y.1) - (x.1 - y.1)).toNat y.2.2 % p ^ (min (x.2.1 - y.1) (x.1 + y.2.1 - 2 * y.1) - (x.1 - y.1)).toNat) hr.1]
    refine Int.dvd_trans (pw_dvd p (show _ ≤ (min (x.2.1 - y.1) (x.1 + y.2.1 - 2 * y.1) - (x.1 - y.1)).toNat by omega)) ?_
    have k6 := Int.dvd_add (mod_dvd (x.2.2 % p ^ (min (x.2.1 - y.1) (x.1 + y.2.1 - 2 * y.1) - (x.1 - y.1)).toNat * iv p (min (x.2.1 - y.1) (x.1 + y.2.1 - 2 * y.1) - (x.1 - y.1)).toNat y.2.2) (p ^ (min (x.2.1 - y.1) (x.1 + y.2.1 - 2 * y.1) - (x.1 - y.1)).toNat)) (Int.dvd_mul_of_dvd_left (c := iv p (min (x.2.1 - y.1) (x.1 + y.2.1 - 2 * y.1) - (x.1 - y.1)).toNat y.2.2) (mod_dvd x.2.2 (p ^ (min (x.2.1 - y.1) (x.1 + y.2.1 - 2 * y.1) - (x.1 - y.1)).toNat)))
    rwa [Int.sub_mul, show ∀ a b c : Int, a - b + (b - c) = a - c by intros; omega] at k6
theorem div_pw {p z : Int} (hp : 2 ≤ p) : z.tdiv (p ^ vp p z) = wo p z := by
  by_cases h0 : z = 0
  · subst h0; rw [Int.zero_tdiv, wo_0]
  · obtain ⟨v, c, rfl, hc⟩ := fac_ex hp _ z (Nat.le_refl _) h0
    rw [vp_eq hp hc, wo_eq hp hc, Int.mul_tdiv_cancel_left]
    have := pw_pos hp v
    omega
theorem fractionM {T : St} {p : Int} {r : Nat} {a b N : Int} (h : T.1 0 18 = ji p) (hP : Pr p) (hr : Rch p r) (hf : FrOk a b N) : f_X10_fraction (ji a) (ji b) (ji N) T = some (setF T (fracS p r a b N)) := by
  have hh := hr.2.2.2.2
  obtain ⟨f1, f2, f3, f4, f5, f6⟩ := hf
  have hp := hr.1
  have hp2 := hr.2.1
  obtain ⟨va, wa, wa2⟩ := vp_19 hp ⟨f1, f2⟩
  obtain ⟨vb, wb, wb2⟩ := vp_19 hp (z := b) (by omega)
  unfold f_X10_fraction n_X10_fraction_38
  rw [ji_l (by omega), ji_l (by omega), valM h ⟨hp, hp2⟩ (by omega), b1s, valM h ⟨hp, hp2⟩ (by omega), b1s, nothM (by omega), b1s]
  simp (disch := omega) only [i0, i1, i2, i3, i4, i5, i6, i7, i8, i12, i16, i20, i30, i39, i40, i60, i64, i97, i100, i256, i1000, i10000, im1, im20, im60, l0, l1, l2, l3, l4, l5, l8, l10000, l1e9, lm10000, jl_add, jl_sub, jl_mul, jl_neg, ji_add, ji_sub, ji_mul, ji_neg, ji_l, jl_i, rL_n, rI_n, dL_n, dI_n, mnI_j, mxI_j, ji_nat, rest_j, part_n, whole_j, times_j, kc_0, kc_gt, kc_lt, kc_le, kc_ge, ji_lt, ji_le, ji_inj, jl_inj, jl_lt, jl_le, b1s, b2s, bEs, bEe, rIs, rIn, rIJ, rJs, rJn, rJI, ifp, ifn, if_true, if_false]
  unfold fracS
  rw [show min N 60 = N by omega, show min 60 N = N by omega]
  by_cases ha : a = 0
  · rw [if_pos ha, if_pos (Or.inl ha)]
  · rw [if_neg ha]
    by_cases hN : N ≤ (vp p a : Int) - vp p b
    · rw [if_neg (by omega), if_pos (Or.inr hN)]
    · rw [if_pos (by omega), if_neg (fun q => q.elim ha hN), mostM h hr, b1s]
      have c1 := pw_pos hp (min N ((vp p a : Int) - vp p b + r) - ((vp p a : Int) - vp p b)).toNat
      have c2 := hr.le (show (min N ((vp p a : Int) - vp p b + r) - ((vp p a : Int) - vp p b)).toNat ≤ r by omega)
      have c4 := iv_rng (a := wo p b) hp (min N ((vp p a : Int) - vp p b + r) - ((vp p a : Int) - vp p b)).toNat
      have ca := vp_le hp ha
      have cb := vp_le hp (show b ≠ 0 by omega)
      have ca2 := pw_pos hp (vp p a)
      have cb2 := pw_pos hp (vp p b)
      simp (disch := omega) only [i0, i1, i2, i3, i4, i5, i6, i7, i8, i12, i16, i20, i30, i39, i40, i60, i64, i97, i100, i256, i1000, i10000, im1, im20, im60, l0, l1, l2, l3, l4, l5, l8, l10000, l1e9, lm10000, jl_add, jl_sub, jl_mul, jl_neg, ji_add, ji_sub, ji_mul, ji_neg, ji_l, jl_i, rL_n, rI_n, dL_n, dI_n, mnI_j, mxI_j, ji_nat, rest_j, part_n, whole_j, times_j, kc_0, kc_gt, kc_lt, kc_le, kc_ge, ji_lt, ji_le, ji_inj, jl_inj, jl_lt, jl_le, b1s, b2s, bEs, bEe, rIs, rIn, rIJ, rJs, rJn, rJI, ifp, ifn, if_true, if_false]
      rw [pwM h ⟨hp, hp2⟩ (by omega), b1s, pwM (by simpa (disch := omega) only [rIs, rIn, rIJ, rJs, rJn, rJI] using h) ⟨hp, hp2⟩ (by omega), b1s, pwM (by simpa (disch := omega) only [rIs, rIn, rIJ, rJs, rJn, rJI] using h) ⟨hp, hp2⟩ (by omega)]
      have hwb : b / p ^ vp p b = wo p b := rfl
      simp (disch := omega) only [i0, i1, i2, i3, i4, i5, i6, i7, i8, i12, i16, i20, i30, i39, i40, i60, i64, i97, i100, i256, i1000, i10000, im1, im20, im60, l0, l1, l2, l3, l4, l5, l8, l10000, l1e9, lm10000, jl_add, jl_sub, jl_mul, jl_neg, ji_add, ji_sub, ji_mul, ji_neg, ji_l, jl_i, rL_n, rI_n, dL_n, dI_n, mnI_j, mxI_j, ji_nat, rest_j, part_n, whole_j, times_j, kc_0, kc_gt, kc_lt, kc_le, kc_ge, ji_lt, ji_le, ji_inj, jl_inj, jl_lt, jl_le, b1s, b2s, bEs, bEe, rIs, rIn, rIJ, rJs, rJn, rJI, ifp, ifn, if_true, if_false, Int.toNat_natCast, jl_div, div_pw, hwb]
      have g1 := emod_rng (a := wo p a) c1
      rw [invM (by simpa (disch := omega) only [rIs, rIn, rIJ, rJs, rJn, rJI] using h) hP hr (by omega) (by omega), b1s]
      have g3 := sq_rng g1 c4 (by omega)
      simp (disch := omega) only [i0, i1, i2, i3, i4, i5, i6, i7, i8, i12, i16, i20, i30, i39, i40, i60, i64, i97, i100, i256, i1000, i10000, im1, im20, im60, l0, l1, l2, l3, l4, l5, l8, l10000, l1e9, lm10000, jl_add, jl_sub, jl_mul, jl_neg, ji_add, ji_sub, ji_mul, ji_neg, ji_l, jl_i, rL_n, rI_n, dL_n, dI_n, mnI_j, mxI_j, ji_nat, rest_j, part_n, whole_j, times_j, kc_0, kc_gt, kc_lt, kc_le, kc_ge, ji_lt, ji_le, ji_inj, jl_inj, jl_lt, jl_le, b1s, b2s, bEs, bEe, rIs, rIn, rIJ, rJs, rJn, rJI, ifp, ifn, if_true, if_false]
      generalize hw : wo p a % p ^ (min N ((vp p a : Int) - vp p b + r) - ((vp p a : Int) - vp p b)).toNat * iv p (min N ((vp p a : Int) - vp p b + r) - ((vp p a : Int) - vp p b)).toNat (wo p b) = w at *
      have k0 : p ^ (min N ((vp p a : Int) - vp p b + r) - ((vp p a : Int) - vp p b)).toNat ∣ w - wo p a * iv p (min N ((vp p a : Int) - vp p b + r) - ((vp p a : Int) - vp p b)).toNat (wo p b) := by
        rw [← hw, ← Int.sub_mul]
        exact Int.dvd_mul_of_dvd_left (mod_dvd _ _)
      rw [← lay_congr (w := w) hp (Int.dvd_trans (pw_dvd p (show _ ≤ (min N ((vp p a : Int) - vp p b + r) - ((vp p a : Int) - vp p b)).toNat by omega)) k0)]
      have k1 := pw_dvd1 p (show 1 ≤ (min N ((vp p a : Int) - vp p b + r) - ((vp p a : Int) - vp p b)).toNat by omega)
      have k2 : ¬ p ∣ w := by
        rw [← hw]
        apply hP.mul
        · intro q
          have := Int.dvd_sub q (Int.dvd_trans k1 (mod_dvd (wo p a) _))
          rw [Int.sub_sub_self] at this
          exact wo_co hp ha this
        · exact iv_co hP (wo_co hp (by omega)) (by omega)
      have k3 : ¬ p ∣ w % p ^ (min N ((vp p a : Int) - vp p b + r) - ((vp p a : Int) - vp p b)).toNat := fun q => by
        have := Int.dvd_sub q (Int.dvd_trans k1 (mod_dvd w _))
        rw [Int.sub_sub_self] at this
        exact k2 this
      unfold lay
      rw [show min (min (min N ((vp p a : Int) - vp p b + r)) 60 - ((vp p a : Int) - vp p b)) (r : Int) = min N ((vp p a : Int) - vp p b + r) - ((vp p a : Int) - vp p b) by omega, if_neg]
      · have k4 := vp_eq (k := 0) hp k3
        have k5 := wo_eq (k := 0) hp k3
        rw [Int.pow_zero, Int.one_mul] at k4 k5
        rw [k4, k5]
        unfold setF
        congr 4 <;> simp
        congr 1
        omega
      · intro q
        rcases q with q | q
        · omega
        · exact k3 (by rw [q]; exact Int.dvd_zero p)
