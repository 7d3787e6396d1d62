/-! symbols -/
theorem par_mul (a b : Int) : a * b % 2 = if a % 2 = 1 ∧ b % 2 = 1 then 1 else 0 := by
  rw [Int.mul_emod]
  rcases show a % 2 = 0 ∨ a % 2 = 1 by omega with h | h <;> rcases show b % 2 = 0 ∨ b % 2 = 1 by omega with g | g <;> rw [h, g] <;> simp
theorem sq_par {w : Int} (h : w % 2 = 1) : (w * w - 1) % 8 = 0 ∧ (w * w - 1) / 8 % 2 = if w % 8 = 3 ∨ w % 8 = 5 then 1 else 0 := by
  obtain ⟨t, ht⟩ : ∃ t, w = 16 * t + w % 16 := ⟨w / 16, by omega⟩
  have hr : 0 ≤ w % 16 ∧ w % 16 < 16 := by omega
  have h8 : w % 8 = w % 16 % 8 := by omega
  generalize w % 16 = r at ht hr h8
  have e : w * w = 256 * (t * t) + 32 * (t * r) + r * r := by
    rw [ht]
    grind
  have hr2 : r % 2 = 1 := by omega
  rw [h8, e]
  rcases show r = 1 ∨ r = 3 ∨ r = 5 ∨ r = 7 ∨ r = 9 ∨ r = 11 ∨ r = 13 ∨ r = 15 by omega with q | q | q | q | q | q | q | q <;> subst q
  all_goals
    constructor
    · omega
    · simp
      omega
theorem and4 {x y z : Int} (hx : -2147483648 ≤ x ∧ x < 2147483648) (hy : -2147483648 ≤ y ∧ y < 2147483648) (hz : -2147483648 ≤ z ∧ z < 2147483648) : ((ji x &&& ji y) &&& ji z) &&& ji 1 = ji (if x % 2 = 1 ∧ y % 2 = 1 ∧ z % 2 = 1 then 1 else 0) := by
  have e : ((ji x &&& ji y) &&& ji z) &&& ji 1 = ((ji x &&& ji 1) &&& (ji y &&& ji 1)) &&& (ji z &&& ji 1) := by
    apply Int32.toBitVec_inj.mp
    simp only [Int32.toBitVec_and]
    ext i
    simp only [BitVec.getElem_and]
    cases (ji x).toBitVec[i] <;> cases (ji y).toBitVec[i] <;> cases (ji z).toBitVec[i] <;> cases (ji 1).toBitVec[i] <;> rfl
  rw [e, ji_and1 hx, ji_and1 hy, ji_and1 hz]
  rcases show x % 2 = 0 ∨ x % 2 = 1 by omega with h | h <;> rcases show y % 2 = 0 ∨ y % 2 = 1 by omega with g | g <;> rcases show z % 2 = 0 ∨ z % 2 = 1 by omega with k | k <;> rw [h, g, k] <;> rfl
theorem isSqC {u q : Int} (hu : -10000 ≤ u ∧ u ≤ 10000) (hq : 2 ≤ q ∧ q ≤ 10000) : f_X7_isSquareModulo (jl u) (ji q) = some (ji (if u ^ ((q - 1) / 2).toNat % q = 1 then 1 else 0)) := by
  have g := emod_rng (a := u ^ ((q - 1) / 2).toNat) (show (0 : Int) < q by omega)
  have e := powC (x := u) (e := (q - 1) / 2) (m := q) (by omega) (by omega) (by omega)
  unfold f_X7_isSquareModulo
  generalize u ^ ((q - 1) / 2).toNat % q = z at g e ⊢
  by_cases h : z = 1
  · rw [if_pos h]
    simp (disch := omega) only [i0, i1, i2, i3, i4, i5, i6, i7, i8, i12, i16, i20, i30, i39, i40, i60, i64, i97, i100, i256, i1000, i10000, im1, im20, im60, l0, l1, l2, l3, l4, l5, l8, l10000, l1e9, lm10000, jl_add, jl_sub, jl_mul, jl_neg, ji_add, ji_sub, ji_mul, ji_neg, ji_l, jl_i, rL_n, rI_n, dL_n, dI_n, mnI_j, mxI_j, ji_nat, rest_j, part_n, whole_j, times_j, kc_0, kc_gt, kc_lt, kc_le, kc_ge, ji_lt, ji_le, ji_inj, jl_inj, jl_lt, jl_le, b1s, b2s, bEs, bEe, rIs, rIn, rIJ, rJs, rJn, rJI, ifp, ifn, if_true, if_false, e]
  · rw [if_neg h]
    simp (disch := omega) only [i0, i1, i2, i3, i4, i5, i6, i7, i8, i12, i16, i20, i30, i39, i40, i60, i64, i97, i100, i256, i1000, i10000, im1, im20, im60, l0, l1, l2, l3, l4, l5, l8, l10000, l1e9, lm10000, jl_add, jl_sub, jl_mul, jl_neg, ji_add, ji_sub, ji_mul, ji_neg, ji_l, jl_i, rL_n, rI_n, dL_n, dI_n, mnI_j, mxI_j, ji_nat, rest_j, part_n, whole_j, times_j, kc_0, kc_gt, kc_lt, kc_le, kc_ge, ji_lt, ji_le, ji_inj, jl_inj, jl_lt, jl_le, b1s, b2s, bEs, bEe, rIs, rIn, rIJ, rJs, rJn, rJI, ifp, ifn, if_true, if_false, e]
theorem resM {u q : Int} (hu : -10000 ≤ u ∧ u ≤ 10000) (hq : 2 ≤ q ∧ q ≤ 10000) : f_X10_residueSymbol (jl u) (ji q) = some (ji (if u ^ ((q - 1) / 2).toNat % q = 1 then 1 else -1)) := by
  have g := emod_rng (a := u ^ ((q - 1) / 2).toNat) (show (0 : Int) < q by omega)
  have e := powM (x := u) (e := (q - 1) / 2) (m := q) (by omega) (by omega) (by omega)
  unfold f_X10_residueSymbol
  generalize u ^ ((q - 1) / 2).toNat % q = z at g e ⊢
  by_cases h : z = 1
  · rw [if_pos h]
    simp (disch := omega) only [i0, i1, i2, i3, i4, i5, i6, i7, i8, i12, i16, i20, i30, i39, i40, i60, i64, i97, i100, i256, i1000, i10000, im1, im20, im60, l0, l1, l2, l3, l4, l5, l8, l10000, l1e9, lm10000, jl_add, jl_sub, jl_mul, jl_neg, ji_add, ji_sub, ji_mul, ji_neg, ji_l, jl_i, rL_n, rI_n, dL_n, dI_n, mnI_j, mxI_j, ji_nat, rest_j, part_n, whole_j, times_j, kc_0, kc_gt, kc_lt, kc_le, kc_ge, ji_lt, ji_le, ji_inj, jl_inj, jl_lt, jl_le, b1s, b2s, bEs, bEe, rIs, rIn, rIJ, rJs, rJn, rJI, ifp, ifn, if_true, if_false, e]
  · rw [if_neg h]
    simp (disch := omega) only [i0, i1, i2, i3, i4, i5, i6, i7, i8, i12, i16, i20, i30, i39, i40, i60, i64, i97, i100, i256, i1000, i10000, im1, im20, im60, l0, l1, l2, l3, l4, l5, l8, l10000, l1e9, lm10000, jl_add, jl_sub, jl_mul, jl_neg, ji_add, ji_sub, ji_mul, ji_neg, ji_l, jl_i, rL_n, rI_n, dL_n, dI_n, mnI_j, mxI_j, ji_nat, rest_j, part_n, whole_j, times_j, kc_0, kc_gt, kc_lt, kc_le, kc_ge, ji_lt, ji_le, ji_inj, jl_inj, jl_lt, jl_le, b1s, b2s, bEs, bEe, rIs, rIn, rIJ, rJs, rJn, rJI, ifp, ifn, if_true, if_false, e]
theorem wo_rng {p z : Int} (hp : 2 ≤ p) (hz : z ≠ 0) (h : -10000 ≤ z ∧ z ≤ 10000) : wo p z ≠ 0 ∧ -10000 ≤ wo p z ∧ wo p z ≤ 10000 := by
  have h1 := (vp_wo hp hz).1
  have h2 : wo p z ∣ z := ⟨p ^ vp p z, by rw [Int.mul_comm]; exact h1⟩
  have h3 : (wo p z).natAbs ∣ z.natAbs := Int.natAbs_dvd_natAbs.mpr h2
  have h4 := Nat.le_of_dvd (by omega) h3
  have h5 : wo p z ≠ 0 := fun q => by
    rw [q, Int.zero_dvd] at h2
    exact hz h2
  exact ⟨h5, by omega, by omega⟩
theorem flagW {b q y : Int} {al : Nat} (hb : b ≠ 0 ∧ -10000 ≤ b ∧ b ≤ 10000) (hq : 2 ≤ q ∧ q ≤ 10000) (ha : al ≤ 63) (hy : y = 0 ∨ y = 1) : ∃ y' : Int, (y' = 0 ∨ y' = 1) ∧ n_X7_isMinusAtOdd_71 (ji b) (ji q) (ji al) (ji y) = some (ji y') ∧ n_X10_symbolAt_237 (ji q) (ji al) (ji (wo q b)) (ji (1 - 2 * y)) = some (ji (1 - 2 * y')) := by
  have w := woC (p := q) (z := b) hq (by omega)
  obtain ⟨-, w1, w2⟩ := wo_rng hq.1 hb.1 hb.2
  have s1 := isSqC ⟨w1, w2⟩ hq
  have s2 := resM ⟨w1, w2⟩ hq
  have nb : narrow .boolean (.int (ji y)) = .int (ji y) := by rcases hy with q | q <;> rw [q] <;> rfl
  unfold n_X7_isMinusAtOdd_71 n_X10_symbolAt_237
  by_cases h1 : (al : Int) % 2 = 1
  · by_cases h2 : wo q b ^ ((q - 1) / 2).toNat % q = 1
    · rw [if_pos h2] at s1 s2
      refine ⟨y, hy, ?_, ?_⟩
      · simp (disch := omega) only [i0, i1, i2, i3, i4, i5, i6, i7, i8, i12, i16, i20, i30, i39, i40, i60, i64, i97, i100, i256, i1000, i10000, im1, im20, im60, l0, l1, l2, l3, l4, l5, l8, l10000, l1e9, lm10000, jl_add, jl_sub, jl_mul, jl_neg, ji_add, ji_sub, ji_mul, ji_neg, ji_l, jl_i, rL_n, rI_n, dL_n, dI_n, mnI_j, mxI_j, ji_nat, rest_j, part_n, whole_j, times_j, kc_0, kc_gt, kc_lt, kc_le, kc_ge, ji_lt, ji_le, ji_inj, jl_inj, jl_lt, jl_le, b1s, b2s, bEs, bEe, rIs, rIn, rIJ, rJs, rJn, rJI, ifp, ifn, if_true, if_false, ji_and1, w, s1]
      · simp (disch := omega) only [i0, i1, i2, i3, i4, i5, i6, i7, i8, i12, i16, i20, i30, i39, i40, i60, i64, i97, i100, i256, i1000, i10000, im1, im20, im60, l0, l1, l2, l3, l4, l5, l8, l10000, l1e9, lm10000, jl_add, jl_sub, jl_mul, jl_neg, ji_add, ji_sub, ji_mul, ji_neg, ji_l, jl_i, rL_n, rI_n, dL_n, dI_n, mnI_j, mxI_j, ji_nat, rest_j, part_n, whole_j, times_j, kc_0, kc_gt, kc_lt, kc_le, kc_ge, ji_lt, ji_le, ji_inj, jl_inj, jl_lt, jl_le, b1s, b2s, bEs, bEe, rIs, rIn, rIJ, rJs, rJn, rJI, ifp, ifn, if_true, if_false, s2]
        congr 2
        omega
    · rw [if_neg h2] at s1 s2
      refine ⟨1 - y, by omega, ?_, ?_⟩
      · rcases hy with rfl | rfl
        · simp (disch := omega) only [i0, i1, i2, i3, i4, i5, i6, i7, i8, i12, i16, i20, i30, i39, i40, i60, i64, i97, i100, i256, i1000, i10000, im1, im20, im60, l0, l1, l2, l3, l4, l5, l8, l10000, l1e9, lm10000, jl_add, jl_sub, jl_mul, jl_neg, ji_add, ji_sub, ji_mul, ji_neg, ji_l, jl_i, rL_n, rI_n, dL_n, dI_n, mnI_j, mxI_j, ji_nat, rest_j, part_n, whole_j, times_j, kc_0, kc_gt, kc_lt, kc_le, kc_ge, ji_lt, ji_le, ji_inj, jl_inj, jl_lt, jl_le, b1s, b2s, bEs, bEe, rIs, rIn, rIJ, rJs, rJn, rJI, ifp, ifn, if_true, if_false, ji_and1, w, s1]
          rfl
        · simp (disch := omega) only [i0, i1, i2, i3, i4, i5, i6, i7, i8, i12, i16, i20, i30, i39, i40, i60, i64, i97, i100, i256, i1000, i10000, im1, im20, im60, l0, l1, l2, l3, l4, l5, l8, l10000, l1e9, lm10000, jl_add, jl_sub, jl_mul, jl_neg, ji_add, ji_sub, ji_mul, ji_neg, ji_l, jl_i, rL_n, rI_n, dL_n, dI_n, mnI_j, mxI_j, ji_nat, rest_j, part_n, whole_j, times_j, kc_0, kc_gt, kc_lt, kc_le, kc_ge, ji_lt, ji_le, ji_inj, jl_inj, jl_lt, jl_le, b1s, b2s, bEs, bEe, rIs, rIn, rIJ, rJs, rJn, rJI, ifp, ifn, if_true, if_false, ji_and1, w, s1]
          rfl
      · simp (disch := omega) only [i0, i1, i2, i3, i4, i5, i6, i7, i8, i12, i16, i20, i30, i39, i40, i60, i64, i97, i100, i256, i1000, i10000, im1, im20, im60, l0, l1, l2, l3, l4, l5, l8, l10000, l1e9, lm10000, jl_add, jl_sub, jl_mul, jl_neg, ji_add, ji_sub, ji_mul, ji_neg, ji_l, jl_i, rL_n, rI_n, dL_n, dI_n, mnI_j, mxI_j, ji_nat, rest_j, part_n, whole_j, times_j, kc_0, kc_gt, kc_lt, kc_le, kc_ge, ji_lt, ji_le, ji_inj, jl_inj, jl_lt, jl_le, b1s, b2s, bEs, bEe, rIs, rIn, rIJ, rJs, rJn, rJI, ifp, ifn, if_true, if_false, s2]
        congr 2
        omega
  · refine ⟨y, hy, ?_, ?_⟩
    · simp (disch := omega) only [i0, i1, i2, i3, i4, i5, i6, i7, i8, i12, i16, i20, i30, i39, i40, i60, i64, i97, i100, i256, i1000, i10000, im1, im20, im60, l0, l1, l2, l3, l4, l5, l8, l10000, l1e9, lm10000, jl_add, jl_sub, jl_mul, jl_neg, ji_add, ji_sub, ji_mul, ji_neg, ji_l, jl_i, rL_n, rI_n, dL_n, dI_n, mnI_j, mxI_j, ji_nat, rest_j, part_n, whole_j, times_j, kc_0, kc_gt, kc_lt, kc_le, kc_ge, ji_lt, ji_le, ji_inj, jl_inj, jl_lt, jl_le, b1s, b2s, bEs, bEe, rIs, rIn, rIJ, rJs, rJn, rJI, ifp, ifn, if_true, if_false, ji_and1]
    · simp (disch := omega) only [i0, i1, i2, i3, i4, i5, i6, i7, i8, i12, i16, i20, i30, i39, i40, i60, i64, i97, i100, i256, i1000, i10000, im1, im20, im60, l0, l1, l2, l3, l4, l5, l8, l10000, l1e9, lm10000, jl_add, jl_sub, jl_mul, jl_neg, ji_add, ji_sub, ji_mul, ji_neg, ji_l, jl_i, rL_n, rI_n, dL_n, dI_n, mnI_j, mxI_j, ji_nat, rest_j, part_n, whole_j, times_j, kc_0, kc_gt, kc_lt, kc_le, kc_ge, ji_lt, ji_le, ji_inj, jl_inj, jl_lt, jl_le, b1s, b2s, bEs, bEe, rIs, rIn, rIJ, rJs, rJn, rJI, ifp, ifn, if_true, if_false]
theorem flagU {a b q y : Int} {al be : Nat} (ha : a ≠ 0 ∧ -10000 ≤ a ∧ a ≤ 10000) (hb : b ≠ 0 ∧ -10000 ≤ b ∧ b ≤ 10000) (hq : 2 ≤ q ∧ q ≤ 10000) (hal : al ≤ 63) (hbe : be ≤ 63) (hy : y = 0 ∨ y = 1) : ∃ y' : Int, (y' = 0 ∨ y' = 1) ∧ n_X7_isMinusAtOdd_36 (ji a) (ji b) (ji q) (ji al) (ji be) (ji y) = some (ji y') ∧ n_X10_symbolAt_215 (ji q) (ji al) (ji be) (ji (wo q a)) (ji (wo q b)) (ji (1 - 2 * y)) = some (ji (1 - 2 * y')) := by
  have w := woC (p := q) (z := a) hq (by omega)
  obtain ⟨-, w1, w2⟩ := wo_rng hq.1 ha.1 ha.2
  have s1 := isSqC ⟨w1, w2⟩ hq
  have s2 := resM ⟨w1, w2⟩ hq
  unfold n_X7_isMinusAtOdd_36 n_X10_symbolAt_215
  by_cases h1 : (be : Int) % 2 = 1
  · by_cases h2 : wo q a ^ ((q - 1) / 2).toNat % q = 1
    · rw [if_pos h2] at s1 s2
      obtain ⟨y', f1, f2, f3⟩ := flagW (al := al) hb hq hal hy
      refine ⟨y', f1, ?_, ?_⟩
      · simp (disch := omega) only [i0, i1, i2, i3, i4, i5, i6, i7, i8, i12, i16, i20, i30, i39, i40, i60, i64, i97, i100, i256, i1000, i10000, im1, im20, im60, l0, l1, l2, l3, l4, l5, l8, l10000, l1e9, lm10000, jl_add, jl_sub, jl_mul, jl_neg, ji_add, ji_sub, ji_mul, ji_neg, ji_l, jl_i, rL_n, rI_n, dL_n, dI_n, mnI_j, mxI_j, ji_nat, rest_j, part_n, whole_j, times_j, kc_0, kc_gt, kc_lt, kc_le, kc_ge, ji_lt, ji_le, ji_inj, jl_inj, jl_lt, jl_le, b1s, b2s, bEs, bEe, rIs, rIn, rIJ, rJs, rJn, rJI, ifp, ifn, if_true, if_false, ji_and1, w, s1]
        exact f2
      · simp (disch := omega) only [i0, i1, i2, i3, i4, i5, i6, i7, i8, i12, i16, i20, i30, i39, i40, i60, i64, i97, i100, i256, i1000, i10000, im1, im20, im60, l0, l1, l2, l3, l4, l5, l8, l10000, l1e9, lm10000, jl_add, jl_sub, jl_mul, jl_neg, ji_add, ji_sub, ji_mul, ji_neg, ji_l, jl_i, rL_n, rI_n, dL_n, dI_n, mnI_j, mxI_j, ji_nat, rest_j, part_n, whole_j, times_j, kc_0, kc_gt, kc_lt, kc_le, kc_ge, ji_lt, ji_le, ji_inj, jl_inj, jl_lt, jl_le, b1s, b2s, bEs, bEe, rIs, rIn, rIJ, rJs, rJn, rJI, ifp, ifn, if_true, if_false, s2]
        rw [show (1 - 2 * y) * 1 = 1 - 2 * y by omega]
        exact f3
    · rw [if_neg h2] at s1 s2
      obtain ⟨y', f1, f2, f3⟩ := flagW (al := al) (y := 1 - y) hb hq hal (by omega)
      refine ⟨y', f1, ?_, ?_⟩
      · rcases hy with rfl | rfl
        · simp (disch := omega) only [i0, i1, i2, i3, i4, i5, i6, i7, i8, i12, i16, i20, i30, i39, i40, i60, i64, i97, i100, i256, i1000, i10000, im1, im20, im60, l0, l1, l2, l3, l4, l5, l8, l10000, l1e9, lm10000, jl_add, jl_sub, jl_mul, jl_neg, ji_add, ji_sub, ji_mul, ji_neg, ji_l, jl_i, rL_n, rI_n, dL_n, dI_n, mnI_j, mxI_j, ji_nat, rest_j, part_n, whole_j, times_j, kc_0, kc_gt, kc_lt, kc_le, kc_ge, ji_lt, ji_le, ji_inj, jl_inj, jl_lt, jl_le, b1s, b2s, bEs, bEe, rIs, rIn, rIJ, rJs, rJn, rJI, ifp, ifn, if_true, if_false, ji_and1, w, s1]
          exact f2
        · simp (disch := omega) only [i0, i1, i2, i3, i4, i5, i6, i7, i8, i12, i16, i20, i30, i39, i40, i60, i64, i97, i100, i256, i1000, i10000, im1, im20, im60, l0, l1, l2, l3, l4, l5, l8, l10000, l1e9, lm10000, jl_add, jl_sub, jl_mul, jl_neg, ji_add, ji_sub, ji_mul, ji_neg, ji_l, jl_i, rL_n, rI_n, dL_n, dI_n, mnI_j, mxI_j, ji_nat, rest_j, part_n, whole_j, times_j, kc_0, kc_gt, kc_lt, kc_le, kc_ge, ji_lt, ji_le, ji_inj, jl_inj, jl_lt, jl_le, b1s, b2s, bEs, bEe, rIs, rIn, rIJ, rJs, rJn, rJI, ifp, ifn, if_true, if_false, ji_and1, w, s1]
          exact f2
      · simp (disch := omega) only [i0, i1, i2, i3, i4, i5, i6, i7, i8, i12, i16, i20, i30, i39, i40, i60, i64, i97, i100, i256, i1000, i10000, im1, im20, im60, l0, l1, l2, l3, l4, l5, l8, l10000, l1e9, lm10000, jl_add, jl_sub, jl_mul, jl_neg, ji_add, ji_sub, ji_mul, ji_neg, ji_l, jl_i, rL_n, rI_n, dL_n, dI_n, mnI_j, mxI_j, ji_nat, rest_j, part_n, whole_j, times_j, kc_0, kc_gt, kc_lt, kc_le, kc_ge, ji_lt, ji_le, ji_inj, jl_inj, jl_lt, jl_le, b1s, b2s, bEs, bEe, rIs, rIn, rIJ, rJs, rJn, rJI, ifp, ifn, if_true, if_false, s2]
        rw [show (1 - 2 * y) * (-1) = 1 - 2 * (1 - y) by omega]
        exact f3
  · obtain ⟨y', f1, f2, f3⟩ := flagW (al := al) hb hq hal hy
    refine ⟨y', f1, ?_, ?_⟩
    · simp (disch := omega) only [i0, i1, i2, i3, i4, i5, i6, i7, i8, i12, i16, i20, i30, i39, i40, i60, i64, i97, i100, i256, i1000, i10000, im1, im20, im60, l0, l1, l2, l3, l4, l5, l8, l10000, l1e9, lm10000, jl_add, jl_sub, jl_mul, jl_neg, ji_add, ji_sub, ji_mul, ji_neg, ji_l, jl_i, rL_n, rI_n, dL_n, dI_n, mnI_j, mxI_j, ji_nat, rest_j, part_n, whole_j, times_j, kc_0, kc_gt, kc_lt, kc_le, kc_ge, ji_lt, ji_le, ji_inj, jl_inj, jl_lt, jl_le, b1s, b2s, bEs, bEe, rIs, rIn, rIJ, rJs, rJn, rJI, ifp, ifn, if_true, if_false, ji_and1]
      exact f2
    · simp (disch := omega) only [i0, i1, i2, i3, i4, i5, i6, i7, i8, i12, i16, i20, i30, i39, i40, i60, i64, i97, i100, i256, i1000, i10000, im1, im20, im60, l0, l1, l2, l3, l4, l5, l8, l10000, l1e9, lm10000, jl_add, jl_sub, jl_mul, jl_neg, ji_add, ji_sub, ji_mul, ji_neg, ji_l, jl_i, rL_n, rI_n, dL_n, dI_n, mnI_j, mxI_j, ji_nat, rest_j, part_n, whole_j, times_j, kc_0, kc_gt, kc_lt, kc_le, kc_ge, ji_lt, ji_le, ji_inj, jl_inj, jl_lt, jl_le, b1s, b2s, bEs, bEe, rIs, rIn, rIJ, rJs, rJn, rJI, ifp, ifn, if_true, if_false]
      exact f3
theorem loopM29 {q b : Int} (hq : 2 ≤ q ∧ q ≤ 10000) : ∀ (j n : Nat) (z : Int) (k : Nat), vp q z = j → z ≠ 0 → -10001 ≤ z ∧ z < 10001 → j < n → k + j ≤ 63 → itr (fun (q : Int32 × Int32 × Int32 × Int32 × Int32) k => s_X10_symbolAt_29 (fun (x2 : Int32) (x3 : Int32) (x4 : Int32) (x5 : Int32) (x6 : Int32) => k (x2, x3, x4, x5, x6)) q.1 q.2.1 q.2.2.1 q.2.2.2.1 q.2.2.2.2) n (ji q, ji k, ji 0, ji z, ji b) = n_X10_symbolAt_48 (ji q) (ji ((k + j : Nat) : Int)) (ji 0) (ji (wo q z)) (ji b)
  | _, 0, _, _, _, _, _, h, _ => absurd h (Nat.not_lt_zero _)
  | j, n + 1, z, k, hv, hz, hr, hn, hk => by
    rw [itrS]
    have IH := loopM29 (b := b) hq (j - 1) n (z / q) (k + 1)
    generalize itr _ n = K at IH
    show s_X10_symbolAt_29 _ (ji q) (ji k) (ji 0) (ji z) (ji b) = _
    have v := vp_step (p := q) (z := z) hq.1
    have w := wo_step (p := q) (z := z) hq.1
    have d1 := rI_j (a := z) (b := q) (by omega) (by omega)
    have d2 := ji_div (a := z) (b := q) (by omega) (by omega)
    have e0 : z.tmod q = 0 ↔ z % q = 0 := by rw [← Int.dvd_iff_tmod_eq_zero, Int.dvd_iff_emod_eq_zero]
    have e1 : -10001 ≤ z.tmod q ∧ z.tmod q ≤ 10001 := by
      have := Int.natAbs_tmod z q
      have := Nat.mod_le z.natAbs q.natAbs
      omega
    unfold s_X10_symbolAt_29
    by_cases h : z % q = 0
    · rw [if_pos ⟨hz, h⟩] at v w
      have e2 := e0.mpr h
      have e3 := dvd_tdiv hq.1 h
      have e4 : z / q ≠ 0 := fun x => by
        have := Int.mul_ediv_cancel' (Int.dvd_of_emod_eq_zero h)
        rw [x] at this
        omega
      have e5 := dvd_div_rng hq.1 h (M := 10001) hr
      rw [e2] at d1
      rw [e3] at d2
      clear v e1 e0 e2 e3
      simp (disch := omega) only [i0, i1, i2, i3, i4, i5, i6, i7, i8, i12, i16, i20, i30, i39, i40, i60, i64, i97, i100, i256, i1000, i10000, im1, im20, im60, l0, l1, l2, l3, l4, l5, l8, l10000, l1e9, lm10000, jl_add, jl_sub, jl_mul, jl_neg, ji_add, ji_sub, ji_mul, ji_neg, ji_l, jl_i, rL_n, rI_n, dL_n, dI_n, mnI_j, mxI_j, ji_nat, rest_j, part_n, whole_j, times_j, kc_0, kc_gt, kc_lt, kc_le, kc_ge, ji_lt, ji_le, ji_inj, jl_inj, jl_lt, jl_le, b1s, b2s, bEs, bEe, rIs, rIn, rIJ, rJs, rJn, rJI, ifp, ifn, if_true, if_false, d1, d2]
      have g := IH (by have v := vp_step (p := q) (z := z) hq.1; rw [if_pos ⟨hz, h⟩] at v; omega) e4 e5 (by have v := vp_step (p := q) (z := z) hq.1; rw [if_pos ⟨hz, h⟩] at v; omega) (by have v := vp_step (p := q) (z := z) hq.1; rw [if_pos ⟨hz, h⟩] at v; omega)
      have v := vp_step (p := q) (z := z) hq.1
      rw [if_pos ⟨hz, h⟩] at v
      rw [show k + 1 + (j - 1) = k + j by omega] at g
      rw [w]
      exact g
    · rw [if_neg (fun x => h x.2)] at v w
      have e2 : ¬ z.tmod q = 0 := fun x => h (e0.mp x)
      simp (disch := omega) only [i0, i1, i2, i3, i4, i5, i6, i7, i8, i12, i16, i20, i30, i39, i40, i60, i64, i97, i100, i256, i1000, i10000, im1, im20, im60, l0, l1, l2, l3, l4, l5, l8, l10000, l1e9, lm10000, jl_add, jl_sub, jl_mul, jl_neg, ji_add, ji_sub, ji_mul, ji_neg, ji_l, jl_i, rL_n, rI_n, dL_n, dI_n, mnI_j, mxI_j, ji_nat, rest_j, part_n, whole_j, times_j, kc_0, kc_gt, kc_lt, kc_le, kc_ge, ji_lt, ji_le, ji_inj, jl_inj, jl_lt, jl_le, b1s, b2s, bEs, bEe, rIs, rIn, rIJ, rJs, rJn, rJI, ifp, ifn, if_true, if_false, d1]
      rw [w, show j = 0 by omega]
      rfl
def s48 (q : Int) (al be : Nat) (u w : Int) : Option Int32 :=
  if q = 2 then n_X10_symbolAt_125 (ji al) (ji be) (jl (u % 8)) (jl (w % 8)) (ji (if u % 4 = 3 ∧ w % 4 = 3 then 1 else 0))
  else n_X10_symbolAt_215 (ji q) (ji al) (ji be) (ji u) (ji w) (ji (1 - 2 * (if (al : Int) % 2 = 1 ∧ (be : Int) % 2 = 1 ∧ q % 4 = 3 then 1 else 0)))
theorem loopM48 {q u : Int} {al : Nat} (hq : 2 ≤ q ∧ q ≤ 10000) (hal : al ≤ 63) (hu : -10000 ≤ u ∧ u ≤ 10000) : ∀ (j n : Nat) (z : Int) (k : Nat), vp q z = j → z ≠ 0 → -10001 ≤ z ∧ z < 10001 → j < n → k + j ≤ 63 → itr (fun (q : Int32 × Int32 × Int32 × Int32 × Int32) k => s_X10_symbolAt_48 (fun (x2 : Int32) (x3 : Int32) (x4 : Int32) (x5 : Int32) (x6 : Int32) => k (x2, x3, x4, x5, x6)) q.1 q.2.1 q.2.2.1 q.2.2.2.1 q.2.2.2.2) n (ji q, ji al, ji k, ji u, ji z) = s48 q al (k + j) u (wo q z)
  | _, 0, _, _, _, _, _, h, _ => absurd h (Nat.not_lt_zero _)
  | j, n + 1, z, k, hv, hz, hr, hn, hk => by
    rw [itrS]
    have IH := loopM48 hq hal hu (j - 1) n (z / q) (k + 1)
    generalize itr _ n = K at IH
    show s_X10_symbolAt_48 _ (ji q) (ji al) (ji k) (ji u) (ji z) = _
    have v := vp_step (p := q) (z := z) hq.1
    have w := wo_step (p := q) (z := z) hq.1
    have d1 := rI_j (a := z) (b := q) (by omega) (by omega)
    have d2 := ji_div (a := z) (b := q) (by omega) (by omega)
    have e0 : z.tmod q = 0 ↔ z % q = 0 := by rw [← Int.dvd_iff_tmod_eq_zero, Int.dvd_iff_emod_eq_zero]
    have e1 : -10001 ≤ z.tmod q ∧ z.tmod q ≤ 10001 := by
      have := Int.natAbs_tmod z q
      have := Nat.mod_le z.natAbs q.natAbs
      omega
    by_cases h : z % q = 0
    · rw [if_pos ⟨hz, h⟩] at v w
      have e2 := e0.mpr h
      have e3 := dvd_tdiv hq.1 h
      have e4 : z / q ≠ 0 := fun x => by
        have := Int.mul_ediv_cancel' (Int.dvd_of_emod_eq_zero h)
        rw [x] at this
        omega
      have e5 := dvd_div_rng hq.1 h (M := 10001) hr
      rw [e2] at d1
      rw [e3] at d2
      have g := IH (by omega) e4 e5 (by omega) (by omega)
      rw [show k + 1 + (j - 1) = k + j by omega] at g
      rw [w]
      clear e1 e0 e2 e3
      unfold s_X10_symbolAt_48
      simp (disch := omega) only [i0, i1, i2, i3, i4, i5, i6, i7, i8, i12, i16, i20, i30, i39, i40, i60, i64, i97, i100, i256, i1000, i10000, im1, im20, im60, l0, l1, l2, l3, l4, l5, l8, l10000, l1e9, lm10000, jl_add, jl_sub, jl_mul, jl_neg, ji_add, ji_sub, ji_mul, ji_neg, ji_l, jl_i, rL_n, rI_n, dL_n, dI_n, mnI_j, mxI_j, ji_nat, rest_j, part_n, whole_j, times_j, kc_0, kc_gt, kc_lt, kc_le, kc_ge, ji_lt, ji_le, ji_inj, jl_inj, jl_lt, jl_le, b1s, b2s, bEs, bEe, rIs, rIn, rIJ, rJs, rJn, rJI, ifp, ifn, if_true, if_false, d1, d2]
      exact g
    · rw [if_neg (fun x => h x.2)] at v w
      have e2 : ¬ z.tmod q = 0 := fun x => h (e0.mp x)
      rw [w, show k + j = k by omega]
      have m1 : (al : Int) * k = ((al * k : Nat) : Int) := by push_cast; rfl
      have m2 : al * k ≤ 63 * 63 := Nat.mul_le_mul hal (by omega)
      have m3 := par_mul (al : Int) (k : Int)
      by_cases h2 : q = 2
      · subst h2
        by_cases c1 : u % 4 = 3
        · by_cases c2 : z % 4 = 3
          · have s : s48 2 al k u z = n_X10_symbolAt_125 (ji al) (ji k) (jl (u % 8)) (jl (z % 8)) (ji 1) := by
              unfold s48
              rw [if_pos rfl, if_pos ⟨c1, c2⟩]
            rw [s]
            unfold s_X10_symbolAt_48
            simp (disch := omega) only [i0, i1, i2, i3, i4, i5, i6, i7, i8, i12, i16, i20, i30, i39, i40, i60, i64, i97, i100, i256, i1000, i10000, im1, im20, im60, l0, l1, l2, l3, l4, l5, l8, l10000, l1e9, lm10000, jl_add, jl_sub, jl_mul, jl_neg, ji_add, ji_sub, ji_mul, ji_neg, ji_l, jl_i, rL_n, rI_n, dL_n, dI_n, mnI_j, mxI_j, ji_nat, rest_j, part_n, whole_j, times_j, kc_0, kc_gt, kc_lt, kc_le, kc_ge, ji_lt, ji_le, ji_inj, jl_inj, jl_lt, jl_le, b1s, b2s, bEs, bEe, rIs, rIn, rIJ, rJs, rJn, rJI, ifp, ifn, if_true, if_false, d1]
          · have s : s48 2 al k u z = n_X10_symbolAt_125 (ji al) (ji k) (jl (u % 8)) (jl (z % 8)) (ji 0) := by
              unfold s48
              rw [if_pos rfl, if_neg (fun x => c2 x.2)]
            rw [s]
            unfold s_X10_symbolAt_48
            simp (disch := omega) only [i0, i1, i2, i3, i4, i5, i6, i7, i8, i12, i16, i20, i30, i39, i40, i60, i64, i97, i100, i256, i1000, i10000, im1, im20, im60, l0, l1, l2, l3, l4, l5, l8, l10000, l1e9, lm10000, jl_add, jl_sub, jl_mul, jl_neg, ji_add, ji_sub, ji_mul, ji_neg, ji_l, jl_i, rL_n, rI_n, dL_n, dI_n, mnI_j, mxI_j, ji_nat, rest_j, part_n, whole_j, times_j, kc_0, kc_gt, kc_lt, kc_le, kc_ge, ji_lt, ji_le, ji_inj, jl_inj, jl_lt, jl_le, b1s, b2s, bEs, bEe, rIs, rIn, rIJ, rJs, rJn, rJI, ifp, ifn, if_true, if_false, d1]
        · have s : s48 2 al k u z = n_X10_symbolAt_125 (ji al) (ji k) (jl (u % 8)) (jl (z % 8)) (ji 0) := by
            unfold s48
            rw [if_pos rfl, if_neg (fun x => c1 x.1)]
          rw [s]
          unfold s_X10_symbolAt_48
          simp (disch := omega) only [i0, i1, i2, i3, i4, i5, i6, i7, i8, i12, i16, i20, i30, i39, i40, i60, i64, i97, i100, i256, i1000, i10000, im1, im20, im60, l0, l1, l2, l3, l4, l5, l8, l10000, l1e9, lm10000, jl_add, jl_sub, jl_mul, jl_neg, ji_add, ji_sub, ji_mul, ji_neg, ji_l, jl_i, rL_n, rI_n, dL_n, dI_n, mnI_j, mxI_j, ji_nat, rest_j, part_n, whole_j, times_j, kc_0, kc_gt, kc_lt, kc_le, kc_ge, ji_lt, ji_le, ji_inj, jl_inj, jl_lt, jl_le, b1s, b2s, bEs, bEe, rIs, rIn, rIJ, rJs, rJn, rJI, ifp, ifn, if_true, if_false, d1]
      · by_cases c1 : (al : Int) % 2 = 1 ∧ (k : Int) % 2 = 1
        · rw [if_pos c1] at m3
          by_cases c2 : q % 4 = 3
          · have s : s48 q al k u z = n_X10_symbolAt_215 (ji q) (ji al) (ji k) (ji u) (ji z) (ji (-1)) := by
              unfold s48
              rw [if_neg h2, if_pos ⟨c1.1, c1.2, c2⟩]
              rfl
            rw [s]
            unfold s_X10_symbolAt_48
            simp (disch := omega) only [i0, i1, i2, i3, i4, i5, i6, i7, i8, i12, i16, i20, i30, i39, i40, i60, i64, i97, i100, i256, i1000, i10000, im1, im20, im60, l0, l1, l2, l3, l4, l5, l8, l10000, l1e9, lm10000, jl_add, jl_sub, jl_mul, jl_neg, ji_add, ji_sub, ji_mul, ji_neg, ji_l, jl_i, rL_n, rI_n, dL_n, dI_n, mnI_j, mxI_j, ji_nat, rest_j, part_n, whole_j, times_j, kc_0, kc_gt, kc_lt, kc_le, kc_ge, ji_lt, ji_le, ji_inj, jl_inj, jl_lt, jl_le, b1s, b2s, bEs, bEe, rIs, rIn, rIJ, rJs, rJn, rJI, ifp, ifn, if_true, if_false, d1]
          · have s : s48 q al k u z = n_X10_symbolAt_215 (ji q) (ji al) (ji k) (ji u) (ji z) (ji 1) := by
              unfold s48
              rw [if_neg h2, if_neg (fun x => c2 x.2.2)]
              rfl
            rw [s]
            unfold s_X10_symbolAt_48
            simp (disch := omega) only [i0, i1, i2, i3, i4, i5, i6, i7, i8, i12, i16, i20, i30, i39, i40, i60, i64, i97, i100, i256, i1000, i10000, im1, im20, im60, l0, l1, l2, l3, l4, l5, l8, l10000, l1e9, lm10000, jl_add, jl_sub, jl_mul, jl_neg, ji_add, ji_sub, ji_mul, ji_neg, ji_l, jl_i, rL_n, rI_n, dL_n, dI_n, mnI_j, mxI_j, ji_nat, rest_j, part_n, whole_j, times_j, kc_0, kc_gt, kc_lt, kc_le, kc_ge, ji_lt, ji_le, ji_inj, jl_inj, jl_lt, jl_le, b1s, b2s, bEs, bEe, rIs, rIn, rIJ, rJs, rJn, rJI, ifp, ifn, if_true, if_false, d1]
        · rw [if_neg c1] at m3
          have s : s48 q al k u z = n_X10_symbolAt_215 (ji q) (ji al) (ji k) (ji u) (ji z) (ji 1) := by
            unfold s48
            rw [if_neg h2, if_neg (fun x => c1 ⟨x.1, x.2.1⟩)]
            rfl
          rw [s]
          unfold s_X10_symbolAt_48
          simp (disch := omega) only [i0, i1, i2, i3, i4, i5, i6, i7, i8, i12, i16, i20, i30, i39, i40, i60, i64, i97, i100, i256, i1000, i10000, im1, im20, im60, l0, l1, l2, l3, l4, l5, l8, l10000, l1e9, lm10000, jl_add, jl_sub, jl_mul, jl_neg, ji_add, ji_sub, ji_mul, ji_neg, ji_l, jl_i, rL_n, rI_n, dL_n, dI_n, mnI_j, mxI_j, ji_nat, rest_j, part_n, whole_j, times_j, kc_0, kc_gt, kc_lt, kc_le, kc_ge, ji_lt, ji_le, ji_inj, jl_inj, jl_lt, jl_le, b1s, b2s, bEs, bEe, rIs, rIn, rIJ, rJs, rJn, rJI, ifp, ifn, if_true, if_false, d1]
