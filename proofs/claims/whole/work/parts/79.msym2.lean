theorem sgn176 {a b c : Int} (ha : 0 ≤ a ∧ a ≤ 1000) (hbc : 0 ≤ b * c ∧ b * c ≤ 1000) : n_X10_symbolAt_176 (ji a) (ji b) (ji c) = some (ji (1 - 2 * ((a + b * c) % 2))) := by
  unfold n_X10_symbolAt_176
  by_cases h : (a + b * c) % 2 = 0
  · simp (disch := omega) only [i0, i1, i2, i3, i4, i5, i6, i7, i8, i12, i16, i20, i30, i39, i40, i60, i64, i97, i100, i256, i1000, i10000, im1, im20, im60, l0, l1, l2, l3, l4, l5, l8, l10000, l1e9, lm10000, jl_add, jl_sub, jl_mul, jl_neg, ji_add, ji_sub, ji_mul, ji_neg, ji_l, jl_i, rL_n, rI_n, dL_n, dI_n, mnI_j, mxI_j, ji_nat, rest_j, part_n, whole_j, times_j, kc_0, kc_gt, kc_lt, kc_le, kc_ge, ji_lt, ji_le, ji_inj, jl_inj, jl_lt, jl_le, b1s, b2s, bEs, bEe, rIs, rIn, rIJ, rJs, rJn, rJI, ifp, ifn, if_true, if_false]
    congr 2
    omega
  · simp (disch := omega) only [i0, i1, i2, i3, i4, i5, i6, i7, i8, i12, i16, i20, i30, i39, i40, i60, i64, i97, i100, i256, i1000, i10000, im1, im20, im60, l0, l1, l2, l3, l4, l5, l8, l10000, l1e9, lm10000, jl_add, jl_sub, jl_mul, jl_neg, ji_add, ji_sub, ji_mul, ji_neg, ji_l, jl_i, rL_n, rI_n, dL_n, dI_n, mnI_j, mxI_j, ji_nat, rest_j, part_n, whole_j, times_j, kc_0, kc_gt, kc_lt, kc_le, kc_ge, ji_lt, ji_le, ji_inj, jl_inj, jl_lt, jl_le, b1s, b2s, bEs, bEe, rIs, rIn, rIJ, rJs, rJn, rJI, ifp, ifn, if_true, if_false]
    congr 2
    omega
theorem sgn149 {be U a b c : Int} (hU : 0 ≤ U ∧ U < 8) : n_X10_symbolAt_149 (ji be) (jl U) (ji a) (ji b) (ji c) = n_X10_symbolAt_176 (ji (a + b * c)) (ji be) (ji (if U = 3 ∨ U = 5 then 1 else 0)) := by
  unfold n_X10_symbolAt_149
  by_cases h : U = 3
  · rw [if_pos (Or.inl h)]
    simp (disch := omega) only [i0, i1, i2, i3, i4, i5, i6, i7, i8, i12, i16, i20, i30, i39, i40, i60, i64, i97, i100, i256, i1000, i10000, im1, im20, im60, l0, l1, l2, l3, l4, l5, l8, l10000, l1e9, lm10000, jl_add, jl_sub, jl_mul, jl_neg, ji_add, ji_sub, ji_mul, ji_neg, ji_l, jl_i, rL_n, rI_n, dL_n, dI_n, mnI_j, mxI_j, ji_nat, rest_j, part_n, whole_j, times_j, kc_0, kc_gt, kc_lt, kc_le, kc_ge, ji_lt, ji_le, ji_inj, jl_inj, jl_lt, jl_le, b1s, b2s, bEs, bEe, rIs, rIn, rIJ, rJs, rJn, rJI, ifp, ifn, if_true, if_false]
  · by_cases h5 : U = 5
    · rw [if_pos (Or.inr h5)]
      simp (disch := omega) only [i0, i1, i2, i3, i4, i5, i6, i7, i8, i12, i16, i20, i30, i39, i40, i60, i64, i97, i100, i256, i1000, i10000, im1, im20, im60, l0, l1, l2, l3, l4, l5, l8, l10000, l1e9, lm10000, jl_add, jl_sub, jl_mul, jl_neg, ji_add, ji_sub, ji_mul, ji_neg, ji_l, jl_i, rL_n, rI_n, dL_n, dI_n, mnI_j, mxI_j, ji_nat, rest_j, part_n, whole_j, times_j, kc_0, kc_gt, kc_lt, kc_le, kc_ge, ji_lt, ji_le, ji_inj, jl_inj, jl_lt, jl_le, b1s, b2s, bEs, bEe, rIs, rIn, rIJ, rJs, rJn, rJI, ifp, ifn, if_true, if_false]
    · have e : (if U = 3 ∨ U = 5 then (1 : Int) else 0) = 0 := if_neg (fun q => q.elim h h5)
      rw [e]
      simp (disch := omega) only [i0, i1, i2, i3, i4, i5, i6, i7, i8, i12, i16, i20, i30, i39, i40, i60, i64, i97, i100, i256, i1000, i10000, im1, im20, im60, l0, l1, l2, l3, l4, l5, l8, l10000, l1e9, lm10000, jl_add, jl_sub, jl_mul, jl_neg, ji_add, ji_sub, ji_mul, ji_neg, ji_l, jl_i, rL_n, rI_n, dL_n, dI_n, mnI_j, mxI_j, ji_nat, rest_j, part_n, whole_j, times_j, kc_0, kc_gt, kc_lt, kc_le, kc_ge, ji_lt, ji_le, ji_inj, jl_inj, jl_lt, jl_le, b1s, b2s, bEs, bEe, rIs, rIn, rIJ, rJs, rJn, rJI, ifp, ifn, if_true, if_false]
theorem sgn125 {al be U W a : Int} (hW : 0 ≤ W ∧ W < 8) : n_X10_symbolAt_125 (ji al) (ji be) (jl U) (jl W) (ji a) = n_X10_symbolAt_149 (ji be) (jl U) (ji a) (ji al) (ji (if W = 3 ∨ W = 5 then 1 else 0)) := by
  unfold n_X10_symbolAt_125
  by_cases h : W = 3
  · rw [if_pos (Or.inl h)]
    simp (disch := omega) only [i0, i1, i2, i3, i4, i5, i6, i7, i8, i12, i16, i20, i30, i39, i40, i60, i64, i97, i100, i256, i1000, i10000, im1, im20, im60, l0, l1, l2, l3, l4, l5, l8, l10000, l1e9, lm10000, jl_add, jl_sub, jl_mul, jl_neg, ji_add, ji_sub, ji_mul, ji_neg, ji_l, jl_i, rL_n, rI_n, dL_n, dI_n, mnI_j, mxI_j, ji_nat, rest_j, part_n, whole_j, times_j, kc_0, kc_gt, kc_lt, kc_le, kc_ge, ji_lt, ji_le, ji_inj, jl_inj, jl_lt, jl_le, b1s, b2s, bEs, bEe, rIs, rIn, rIJ, rJs, rJn, rJI, ifp, ifn, if_true, if_false]
  · by_cases h5 : W = 5
    · rw [if_pos (Or.inr h5)]
      simp (disch := omega) only [i0, i1, i2, i3, i4, i5, i6, i7, i8, i12, i16, i20, i30, i39, i40, i60, i64, i97, i100, i256, i1000, i10000, im1, im20, im60, l0, l1, l2, l3, l4, l5, l8, l10000, l1e9, lm10000, jl_add, jl_sub, jl_mul, jl_neg, ji_add, ji_sub, ji_mul, ji_neg, ji_l, jl_i, rL_n, rI_n, dL_n, dI_n, mnI_j, mxI_j, ji_nat, rest_j, part_n, whole_j, times_j, kc_0, kc_gt, kc_lt, kc_le, kc_ge, ji_lt, ji_le, ji_inj, jl_inj, jl_lt, jl_le, b1s, b2s, bEs, bEe, rIs, rIn, rIJ, rJs, rJn, rJI, ifp, ifn, if_true, if_false]
    · have e : (if W = 3 ∨ W = 5 then (1 : Int) else 0) = 0 := if_neg (fun q => q.elim h h5)
      rw [e]
      simp (disch := omega) only [i0, i1, i2, i3, i4, i5, i6, i7, i8, i12, i16, i20, i30, i39, i40, i60, i64, i97, i100, i256, i1000, i10000, im1, im20, im60, l0, l1, l2, l3, l4, l5, l8, l10000, l1e9, lm10000, jl_add, jl_sub, jl_mul, jl_neg, ji_add, ji_sub, ji_mul, ji_neg, ji_l, jl_i, rL_n, rI_n, dL_n, dI_n, mnI_j, mxI_j, ji_nat, rest_j, part_n, whole_j, times_j, kc_0, kc_gt, kc_lt, kc_le, kc_ge, ji_lt, ji_le, ji_inj, jl_inj, jl_lt, jl_le, b1s, b2s, bEs, bEe, rIs, rIn, rIJ, rJs, rJn, rJI, ifp, ifn, if_true, if_false]
theorem m01 {x z : Int} (hx : 0 ≤ x ∧ x ≤ 63) (hz : z = 0 ∨ z = 1) : 0 ≤ x * z ∧ x * z ≤ 63 := by
  rcases hz with rfl | rfl <;> omega
theorem odd_wo {z : Int} (hz : z ≠ 0) : wo 2 z % 2 = 1 := by
  have h := (vp_wo (p := 2) (z := z) (by omega) hz).2
  omega
theorem signAt2 {a b : Int} (ha : a ≠ 0 ∧ -10000 ≤ a ∧ a ≤ 10000) (hb : b ≠ 0 ∧ -10000 ≤ b ∧ b ≤ 10000) : ∃ y : Int, (y = 0 ∨ y = 1) ∧ f_X7_isMinusAtTwo (ji a) (ji b) = some (ji y) ∧ s48 2 (vp 2 a) (vp 2 b) (wo 2 a) (wo 2 b) = some (ji (1 - 2 * y)) := by
  have f1 := facC (p := 2) (z := a) (by omega) (by omega)
  have f2 := facC (p := 2) (z := b) (by omega) (by omega)
  have w1 := woC (p := 2) (z := a) (by omega) (by omega)
  have w2 := woC (p := 2) (z := b) (by omega) (by omega)
  obtain ⟨-, r1, r2⟩ := wo_rng (p := 2) (by omega) ha.1 ha.2
  obtain ⟨-, r3, r4⟩ := wo_rng (p := 2) (by omega) hb.1 hb.2
  have o1 := odd_wo ha.1
  have o2 := odd_wo hb.1
  have v1 := vp_62 (p := 2) (z := a) (by omega) (by omega)
  have v2 := vp_62 (p := 2) (z := b) (by omega) (by omega)
  generalize wo 2 a = u at *
  generalize wo 2 b = w at *
  generalize vp 2 a = al at *
  generalize vp 2 b = be at *
  obtain ⟨pu1, pu2⟩ := sq_par o1
  obtain ⟨pw1, pw2⟩ := sq_par o2
  have lit2 : (2 : Int32) = ji 2 := rfl
  -- the parts
  have A1 : (u - 1).tdiv 2 = (u - 1) / 2 := dvd_tdiv (by omega) (by omega)
  have A2 : (w - 1).tdiv 2 = (w - 1) / 2 := dvd_tdiv (by omega) (by omega)
  have D1 : jl (u - 1) / jl 2 = jl ((u - 1) / 2) := by rw [jl_div (by omega) (by omega), A1]
  have D2 : jl (w - 1) / jl 2 = jl ((w - 1) / 2) := by rw [jl_div (by omega) (by omega), A2]
  have squ : 0 ≤ u * u ∧ u * u ≤ 100000000 := by
    have h1 : (u.natAbs : Int) * u.natAbs = u * u := by
      have := Int.natAbs_mul_self (a := u)
      push_cast at this
      exact this
    have h2 : u.natAbs * u.natAbs ≤ 10000 * 10000 := Nat.mul_le_mul (by omega) (by omega)
    have h3 : ((u.natAbs * u.natAbs : Nat) : Int) = u * u := by push_cast; exact h1
    omega
  have sqw : 0 ≤ w * w ∧ w * w ≤ 100000000 := by
    have h1 : (w.natAbs : Int) * w.natAbs = w * w := by
      have := Int.natAbs_mul_self (a := w)
      push_cast at this
      exact this
    have h2 : w.natAbs * w.natAbs ≤ 10000 * 10000 := Nat.mul_le_mul (by omega) (by omega)
    have h3 : ((w.natAbs * w.natAbs : Nat) : Int) = w * w := by push_cast; exact h1
    omega
  have nz : ∀ z : Int, z % 2 = 1 → 0 ≤ z * z → 1 ≤ z * z := fun z hz h => by
    have : z * z ≠ 0 := fun q => by
      rcases Int.mul_eq_zero.mp q with q | q <;> omega
    omega
  have squ1 := nz u o1 squ.1
  have sqw1 := nz w o2 sqw.1
  have D3 : jl (u * u - 1) / jl 8 = jl ((u * u - 1) / 8) := dL_n (by omega) (by omega)
  have D4 : jl (w * w - 1) / jl 8 = jl ((w * w - 1) / 8) := dL_n (by omega) (by omega)
  have P := par_mul ((u - 1) / 2) ((w - 1) / 2)
  have m1 : ∀ x y : Int, 0 ≤ x → x ≤ 63 → 0 ≤ y → y ≤ 12500000 → 0 ≤ x * y ∧ x * y ≤ 787500000 := fun x y h1 h2 h3 h4 => ⟨Int.mul_nonneg h1 h3, by
    have := Int.mul_le_mul h2 h4 h3 (by omega)
    omega⟩
  have M1 := m1 al ((w * w - 1) / 8) (by omega) (by omega) (by omega) (by omega)
  have M2 := m1 be ((u * u - 1) / 8) (by omega) (by omega) (by omega) (by omega)
  have M3 : -25010001 ≤ (u - 1) / 2 * ((w - 1) / 2) ∧ (u - 1) / 2 * ((w - 1) / 2) ≤ 25010001 := by
    have h2 : ((u - 1) / 2).natAbs * ((w - 1) / 2).natAbs ≤ 5001 * 5001 := Nat.mul_le_mul (by omega) (by omega)
    rw [← Int.natAbs_mul] at h2
    omega
  have Q1 := par_mul (al : Int) ((w * w - 1) / 8)
  have Q2 := par_mul (be : Int) ((u * u - 1) / 8)
  have wf : (if w % 8 = 3 ∨ w % 8 = 5 then (1 : Int) else 0) = 0 ∨ (if w % 8 = 3 ∨ w % 8 = 5 then (1 : Int) else 0) = 1 := by split <;> omega
  have uf : (if u % 8 = 3 ∨ u % 8 = 5 then (1 : Int) else 0) = 0 ∨ (if u % 8 = 3 ∨ u % 8 = 5 then (1 : Int) else 0) = 1 := by split <;> omega
  have R1 := par_mul (al : Int) (if w % 8 = 3 ∨ w % 8 = 5 then (1 : Int) else 0)
  have R2 := par_mul (be : Int) (if u % 8 = 3 ∨ u % 8 = 5 then (1 : Int) else 0)
  have B1 := m01 (x := (al : Int)) (by omega) wf
  have B2 := m01 (x := (be : Int)) (by omega) uf
  have E1 : (if (al : Int) % 2 = 1 ∧ (if w % 8 = 3 ∨ w % 8 = 5 then (1 : Int) else 0) % 2 = 1 then (1 : Int) else 0) = if (al : Int) % 2 = 1 ∧ (w * w - 1) / 8 % 2 = 1 then 1 else 0 := by
    rw [pw2]
    have : (if w % 8 = 3 ∨ w % 8 = 5 then (1 : Int) else 0) % 2 = if w % 8 = 3 ∨ w % 8 = 5 then (1 : Int) else 0 := by split <;> rfl
    rw [this]
  have E2 : (if (be : Int) % 2 = 1 ∧ (if u % 8 = 3 ∨ u % 8 = 5 then (1 : Int) else 0) % 2 = 1 then (1 : Int) else 0) = if (be : Int) % 2 = 1 ∧ (u * u - 1) / 8 % 2 = 1 then 1 else 0 := by
    rw [pu2]
    have : (if u % 8 = 3 ∨ u % 8 = 5 then (1 : Int) else 0) % 2 = if u % 8 = 3 ∨ u % 8 = 5 then (1 : Int) else 0 := by split <;> rfl
    rw [this]
  have E3 : (if u % 4 = 3 ∧ w % 4 = 3 then (1 : Int) else 0) = if (u - 1) / 2 % 2 = 1 ∧ (w - 1) / 2 % 2 = 1 then 1 else 0 := by
    by_cases c1 : u % 4 = 3 ∧ w % 4 = 3
    · rw [if_pos c1, if_pos (by omega)]
    · rw [if_neg c1, if_neg (by omega)]
  have yr : (if u % 4 = 3 ∧ w % 4 = 3 then (1 : Int) else 0) = 0 ∨ (if u % 4 = 3 ∧ w % 4 = 3 then (1 : Int) else 0) = 1 := by split <;> omega
  refine ⟨((if u % 4 = 3 ∧ w % 4 = 3 then (1 : Int) else 0) + al * (if w % 8 = 3 ∨ w % 8 = 5 then (1 : Int) else 0) + be * (if u % 8 = 3 ∨ u % 8 = 5 then (1 : Int) else 0)) % 2, by omega, ?_, ?_⟩
  · rw [E1, ← Q1] at R1
    rw [E2, ← Q2] at R2
    rw [← P] at E3
    have T : ((if u % 4 = 3 ∧ w % 4 = 3 then (1 : Int) else 0) + al * (if w % 8 = 3 ∨ w % 8 = 5 then (1 : Int) else 0) + be * (if u % 8 = 3 ∨ u % 8 = 5 then (1 : Int) else 0)) % 2 = ((u - 1) / 2 * ((w - 1) / 2) + al * ((w * w - 1) / 8) + be * ((u * u - 1) / 8)) % 2 := by omega
    rw [T]
    clear T R1 R2 E1 E2 E3 wf uf B1 B2 yr Q1 Q2 P pu1 pu2 pw1 pw2 A1 A2 nz m1
    have X := jl_and1 (e := (u - 1) / 2 * ((w - 1) / 2) + al * ((w * w - 1) / 8) + be * ((u * u - 1) / 8)) (by omega)
    unfold f_X7_isMinusAtTwo
    rw [lit2, ji_l (a := a) (by omega), ji_l (a := b) (by omega), f1, b1s, f2, b1s, w1, b1s, w2, b1s]
    rw [l1, l2, l8, ji_l (by omega), ji_l (by omega)]
    simp only [jl_mul, jl_sub, D1, D2, D3, D4, jl_add]
    rw [← l1, X]
    generalize (u - 1) / 2 * ((w - 1) / 2) + al * ((w * w - 1) / 8) + be * ((u * u - 1) / 8) = Z
    by_cases hz : Z % 2 = 1
    · rw [hz]; rfl
    · rw [show Z % 2 = 0 by omega]; rfl
  · have h8 : 0 ≤ u % 8 ∧ u % 8 < 8 := by omega
    have h9 : 0 ≤ w % 8 ∧ w % 8 < 8 := by omega
    unfold s48
    rw [if_pos rfl, sgn125 h9, sgn149 h8, sgn176 (by omega) ⟨B2.1, by omega⟩]
theorem signBoth {a b q : Int} (ha : a ≠ 0 ∧ -10000 ≤ a ∧ a ≤ 10000) (hb : b ≠ 0 ∧ -10000 ≤ b ∧ b ≤ 10000) (hq : q = 0 ∨ (2 ≤ q ∧ q ≤ 10000 ∧ (q = 2 ∨ q % 2 = 1))) : ∃ v : Int, (v = 1 ∨ v = -1) ∧ f_X7_signAt (ji a) (ji b) (ji q) = some (ji v) ∧ f_X10_symbolAt (ji a) (ji b) (ji q) = some (ji v) := by
  unfold f_X7_signAt f_X10_symbolAt
  rcases hq with rfl | ⟨q1, q2, q3⟩
  · by_cases h1 : 0 ≤ a
    · refine ⟨1, Or.inl rfl, ?_, ?_⟩ <;> simp (disch := omega) only [i0, i1, i2, i3, i4, i5, i6, i7, i8, i12, i16, i20, i30, i39, i40, i60, i64, i97, i100, i256, i1000, i10000, im1, im20, im60, l0, l1, l2, l3, l4, l5, l8, l10000, l1e9, lm10000, jl_add, jl_sub, jl_mul, jl_neg, ji_add, ji_sub, ji_mul, ji_neg, ji_l, jl_i, rL_n, rI_n, dL_n, dI_n, mnI_j, mxI_j, ji_nat, rest_j, part_n, whole_j, times_j, kc_0, kc_gt, kc_lt, kc_le, kc_ge, ji_lt, ji_le, ji_inj, jl_inj, jl_lt, jl_le, b1s, b2s, bEs, bEe, rIs, rIn, rIJ, rJs, rJn, rJI, ifp, ifn, if_true, if_false]
    · by_cases h2 : 0 ≤ b
      · refine ⟨1, Or.inl rfl, ?_, ?_⟩ <;> simp (disch := omega) only [i0, i1, i2, i3, i4, i5, i6, i7, i8, i12, i16, i20, i30, i39, i40, i60, i64, i97, i100, i256, i1000, i10000, im1, im20, im60, l0, l1, l2, l3, l4, l5, l8, l10000, l1e9, lm10000, jl_add, jl_sub, jl_mul, jl_neg, ji_add, ji_sub, ji_mul, ji_neg, ji_l, jl_i, rL_n, rI_n, dL_n, dI_n, mnI_j, mxI_j, ji_nat, rest_j, part_n, whole_j, times_j, kc_0, kc_gt, kc_lt, kc_le, kc_ge, ji_lt, ji_le, ji_inj, jl_inj, jl_lt, jl_le, b1s, b2s, bEs, bEe, rIs, rIn, rIJ, rJs, rJn, rJI, ifp, ifn, if_true, if_false]
      · refine ⟨-1, Or.inr rfl, ?_, ?_⟩ <;> simp (disch := omega) only [i0, i1, i2, i3, i4, i5, i6, i7, i8, i12, i16, i20, i30, i39, i40, i60, i64, i97, i100, i256, i1000, i10000, im1, im20, im60, l0, l1, l2, l3, l4, l5, l8, l10000, l1e9, lm10000, jl_add, jl_sub, jl_mul, jl_neg, ji_add, ji_sub, ji_mul, ji_neg, ji_l, jl_i, rL_n, rI_n, dL_n, dI_n, mnI_j, mxI_j, ji_nat, rest_j, part_n, whole_j, times_j, kc_0, kc_gt, kc_lt, kc_le, kc_ge, ji_lt, ji_le, ji_inj, jl_inj, jl_lt, jl_le, b1s, b2s, bEs, bEe, rIs, rIn, rIJ, rJs, rJn, rJI, ifp, ifn, if_true, if_false]
  · have v1 := vp_62 (p := q) (z := a) q1 (by omega)
    have v2 := vp_62 (p := q) (z := b) q1 (by omega)
    obtain ⟨-, r1, r2⟩ := wo_rng q1 ha.1 ha.2
    have L1 := loopM29 (q := q) (b := b) ⟨q1, q2⟩ (vp q a) FU a 0 rfl ha.1 (by omega) (FU_lt (by omega)) (by omega)
    have L2 := loopM48 (q := q) (u := wo q a) (al := vp q a) ⟨q1, q2⟩ v1 ⟨r1, r2⟩ (vp q b) FU b 0 rfl hb.1 (by omega) (FU_lt (by omega)) (by omega)
    rw [Nat.zero_add] at L1 L2
    have L3 : n_X10_symbolAt_29 (ji q) (ji 0) (ji 0) (ji a) (ji b) = s48 q (vp q a) (vp q b) (wo q a) (wo q b) := by
      refine Eq.trans ?_ L2
      exact L1
    have sg : ∀ y : Int, y = 0 ∨ y = 1 → n_X7_signAt_37 (ji y) = some (ji (1 - 2 * y)) := fun y hy => by
      rcases hy with rfl | rfl <;> rfl
    have lit0 : (0 : Int32) = ji 0 := rfl
    have lit2 : (2 : Int32) = ji 2 := rfl
    have n0 : ¬ ji q = ji 0 := fun x => by
      have := (ji_inj (by omega) (by omega)).mp x
      omega
    rw [lit0, if_neg n0, if_neg n0, L3]
    by_cases h2 : q = 2
    · subst h2
      obtain ⟨y, y1, y2, y3⟩ := signAt2 ha hb
      refine ⟨1 - 2 * y, by omega, ?_, y3⟩
      rw [lit2, if_pos rfl, y2, b1s, sg y y1]
    · have n2 : ¬ ji q = ji 2 := fun x => by
        have := (ji_inj (by omega) (by omega)).mp x
        omega
      have f1 := facC (p := q) (z := a) (by omega) (by omega)
      have f2 := facC (p := q) (z := b) (by omega) (by omega)
      rw [lit2, if_neg n2]
      have e1 : s48 q (vp q a) (vp q b) (wo q a) (wo q b) = n_X10_symbolAt_215 (ji q) (ji (vp q a)) (ji (vp q b)) (ji (wo q a)) (ji (wo q b)) (ji (1 - 2 * (if (vp q a : Int) % 2 = 1 ∧ (vp q b : Int) % 2 = 1 ∧ q % 4 = 3 then 1 else 0))) := by
        unfold s48
        rw [if_neg h2]
      have d1 := dI_n (a := q - 1) (b := 2) (by omega) (by omega)
      have an := and4 (x := (vp q a : Int)) (y := (vp q b : Int)) (z := (q - 1) / 2) (by omega) (by omega) (by omega)
      have e2 : (if (vp q a : Int) % 2 = 1 ∧ (vp q b : Int) % 2 = 1 ∧ (q - 1) / 2 % 2 = 1 then (1 : Int) else 0) = if (vp q a : Int) % 2 = 1 ∧ (vp q b : Int) % 2 = 1 ∧ q % 4 = 3 then 1 else 0 := by
        by_cases c : (vp q a : Int) % 2 = 1 ∧ (vp q b : Int) % 2 = 1 ∧ q % 4 = 3
        · rw [if_pos c, if_pos (by omega)]
        · rw [if_neg c, if_neg (by omega)]
      rw [e2] at an
      rw [e1]
      have yr : (if (vp q a : Int) % 2 = 1 ∧ (vp q b : Int) % 2 = 1 ∧ q % 4 = 3 then (1 : Int) else 0) = 0 ∨ (if (vp q a : Int) % 2 = 1 ∧ (vp q b : Int) % 2 = 1 ∧ q % 4 = 3 then (1 : Int) else 0) = 1 := by split <;> omega
      generalize (if (vp q a : Int) % 2 = 1 ∧ (vp q b : Int) % 2 = 1 ∧ q % 4 = 3 then (1 : Int) else 0) = y0 at an yr ⊢
      obtain ⟨y, y1, y2, y3⟩ := flagU (al := vp q a) (be := vp q b) (y := y0) ha hb ⟨q1, q2⟩ v1 v2 yr
      refine ⟨1 - 2 * y, by omega, ?_, y3⟩
      have kC : f_X7_isMinusAtOdd (ji a) (ji b) (ji q) = some (ji y) := by
        unfold f_X7_isMinusAtOdd
        rcases yr with rfl | rfl
        · simp (disch := omega) only [i0, i1, i2, i3, i4, i5, i6, i7, i8, i12, i16, i20, i30, i39, i40, i60, i64, i97, i100, i256, i1000, i10000, im1, im20, im60, l0, l1, l2, l3, l4, l5, l8, l10000, l1e9, lm10000, jl_add, jl_sub, jl_mul, jl_neg, ji_add, ji_sub, ji_mul, ji_neg, ji_l, jl_i, rL_n, rI_n, dL_n, dI_n, mnI_j, mxI_j, ji_nat, rest_j, part_n, whole_j, times_j, kc_0, kc_gt, kc_lt, kc_le, kc_ge, ji_lt, ji_le, ji_inj, jl_inj, jl_lt, jl_le, b1s, b2s, bEs, bEe, rIs, rIn, rIJ, rJs, rJn, rJI, ifp, ifn, if_true, if_false, f1, f2, d1, an]
          exact y2
        · simp (disch := omega) only [i0, i1, i2, i3, i4, i5, i6, i7, i8, i12, i16, i20, i30, i39, i40, i60, i64, i97, i100, i256, i1000, i10000, im1, im20, im60, l0, l1, l2, l3, l4, l5, l8, l10000, l1e9, lm10000, jl_add, jl_sub, jl_mul, jl_neg, ji_add, ji_sub, ji_mul, ji_neg, ji_l, jl_i, rL_n, rI_n, dL_n, dI_n, mnI_j, mxI_j, ji_nat, rest_j, part_n, whole_j, times_j, kc_0, kc_gt, kc_lt, kc_le, kc_ge, ji_lt, ji_le, ji_inj, jl_inj, jl_lt, jl_le, b1s, b2s, bEs, bEe, rIs, rIn, rIJ, rJs, rJn, rJI, ifp, ifn, if_true, if_false, f1, f2, d1, an]
          exact y2
      rw [kC, b1s, sg y y1]
