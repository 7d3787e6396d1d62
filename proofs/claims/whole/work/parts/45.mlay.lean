/-! a number: valuation, precision, digits from the valuation on -/
def lay (p : Int) (r : Nat) (base known w : Int) : Int × Int × Int :=
  if min (min known 60 - base) (r : Int) ≤ 0 ∨ w % p ^ (min (min known 60 - base) (r : Int)).toNat = 0 then (min known 60, min known 60, 0)
  else (base + vp p (w % p ^ (min (min known 60 - base) (r : Int)).toNat), base + min (min known 60 - base) (r : Int), wo p (w % p ^ (min (min known 60 - base) (r : Int)).toNat))
def setC (S : St) (o : Nat) (x : Int × Int × Int) : St := wJ (wI (wI S (12 + o) 8 (ji x.1)) (12 + o) 9 (ji x.2.1)) (12 + o) 10 (jl x.2.2)
def setF (T : St) (x : Int × Int × Int) : St := wJ (wI (wI T 0 23 (ji x.1)) 0 24 (ji x.2.1)) 0 26 (jl x.2.2)
theorem lay_congr {p : Int} {r : Nat} {base known w w' : Int} (hp : 2 ≤ p) (h : p ^ (min (min known 60 - base) (r : Int)).toNat ∣ w - w') : lay p r base known w = lay p r base known w' := by
  have e : w % p ^ (min (min known 60 - base) (r : Int)).toNat = w' % p ^ (min (min known 60 - base) (r : Int)).toNat := Int.emod_eq_emod_iff_emod_sub_eq_zero.mpr (Int.emod_eq_zero_of_dvd h)
  unfold lay
  rw [e]
theorem mod_fac {p w : Int} (hp : 2 ≤ p) {v s : Nat} (hw : ¬ p ∣ w) (hv : v < s) : p ^ v * w % p ^ s = p ^ v * (w % p ^ (s - v)) ∧ ¬ p ∣ w % p ^ (s - v) := by
  constructor
  · rw [show s = v + (s - v) by omega, pw_add, Int.mul_emod_mul_of_pos _ _ (pw_pos hp v), show v + (s - v) - v = s - v by omega]
  · intro q
    have h1 := pw_dvd1 p (show 1 ≤ s - v by omega)
    have h2 := Int.emod_add_mul_ediv w (p ^ (s - v))
    apply hw
    rw [← h2]
    exact Int.dvd_add q (Int.dvd_mul_of_dvd_left h1)
theorem mod_fac0 {p w : Int} {v s : Nat} (hv : s ≤ v) : p ^ v * w % p ^ s = 0 := Int.emod_eq_zero_of_dvd (Int.dvd_mul_of_dvd_left (pw_dvd p hv))
theorem settleC {S : St} {p : Int} {r o : Nat} {base known w : Int} (h : NrC S p r) (hr : Rch p r) (hb : -10000 ≤ base ∧ base ≤ 10000) (hk : -10000 ≤ known ∧ known ≤ 10000) (hw : -9223372036854775808 ≤ w ∧ w < 9223372036854775808) :
    f_X5_settle o (ji base) (ji known) (jl w) S = some (setC S o (lay p r base known w)) := by
  have h4 := hr.2.2.2.2
  have hp := hr.1
  have hp2 := hr.2.1
  have hS := h.1
  have hS2 := h.2.1
  unfold f_X5_settle
  rw [hS2]
  simp (disch := omega) only [i0, i1, i2, i3, i4, i5, i6, i7, i8, i12, i16, i20, i30, i39, i40, i60, i64, i97, i100, i256, i1000, i10000, im1, im20, im60, l0, l1, l2, l3, l4, l5, l8, l10000, l1e9, lm10000, jl_add, jl_sub, jl_mul, jl_neg, ji_add, ji_sub, ji_mul, ji_neg, ji_l, jl_i, rL_n, rI_n, dL_n, dI_n, mnI_j, mxI_j, ji_nat, rest_j, part_n, whole_j, times_j, kc_0, kc_gt, kc_lt, kc_le, kc_ge, ji_lt, ji_le, ji_inj, jl_inj, jl_lt, jl_le, b1s, b2s, bEs, bEe, rIs, rIn, rIJ, rJs, rJn, rJI, ifp, ifn, if_true, if_false]
  unfold lay setC
  by_cases hs : min (min known 60 - base) (r : Int) ≤ 0
  · rw [if_pos hs, if_pos (Or.inl hs)]
    unfold n_X5_settle_47 f_X5_settleNothing
    simp (disch := omega) only [i0, i1, i2, i3, i4, i5, i6, i7, i8, i12, i16, i20, i30, i39, i40, i60, i64, i97, i100, i256, i1000, i10000, im1, im20, im60, l0, l1, l2, l3, l4, l5, l8, l10000, l1e9, lm10000, jl_add, jl_sub, jl_mul, jl_neg, ji_add, ji_sub, ji_mul, ji_neg, ji_l, jl_i, rL_n, rI_n, dL_n, dI_n, mnI_j, mxI_j, ji_nat, rest_j, part_n, whole_j, times_j, kc_0, kc_gt, kc_lt, kc_le, kc_ge, ji_lt, ji_le, ji_inj, jl_inj, jl_lt, jl_le, b1s, b2s, bEs, bEe, rIs, rIn, rIJ, rJs, rJn, rJI, ifp, ifn, if_true, if_false]
  · rw [if_neg hs, pwC' h hr (by omega), b1s]
    have h1 := pw_pos hp (min (min known 60 - base) (r : Int)).toNat
    have h2 := hr.le (e := (min (min known 60 - base) (r : Int)).toNat) (by omega)
    have h3 := emod_rng (a := w) h1
    rw [rest_j hw (by omega), b1s]
    unfold n_X5_settle_47 f_X5_settleNothing
    generalize hg : w % p ^ (min (min known 60 - base) (r : Int)).toNat = g at *
    simp (disch := omega) only [i0, i1, i2, i3, i4, i5, i6, i7, i8, i12, i16, i20, i30, i39, i40, i60, i64, i97, i100, i256, i1000, i10000, im1, im20, im60, l0, l1, l2, l3, l4, l5, l8, l10000, l1e9, lm10000, jl_add, jl_sub, jl_mul, jl_neg, ji_add, ji_sub, ji_mul, ji_neg, ji_l, jl_i, rL_n, rI_n, dL_n, dI_n, mnI_j, mxI_j, ji_nat, rest_j, part_n, whole_j, times_j, kc_0, kc_gt, kc_lt, kc_le, kc_ge, ji_lt, ji_le, ji_inj, jl_inj, jl_lt, jl_le, b1s, b2s, bEs, bEe, rIs, rIn, rIJ, rJs, rJn, rJI, ifp, ifn, if_true, if_false, hS]
    by_cases hz : g = 0
    · rw [if_pos hz, if_pos (Or.inr hz)]
    · rw [if_neg hz, if_neg (by omega), facC (by omega) (by omega), b1s, woC (by omega) (by omega), b1s]
      simp (disch := omega) only [i0, i1, i2, i3, i4, i5, i6, i7, i8, i12, i16, i20, i30, i39, i40, i60, i64, i97, i100, i256, i1000, i10000, im1, im20, im60, l0, l1, l2, l3, l4, l5, l8, l10000, l1e9, lm10000, jl_add, jl_sub, jl_mul, jl_neg, ji_add, ji_sub, ji_mul, ji_neg, ji_l, jl_i, rL_n, rI_n, dL_n, dI_n, mnI_j, mxI_j, ji_nat, rest_j, part_n, whole_j, times_j, kc_0, kc_gt, kc_lt, kc_le, kc_ge, ji_lt, ji_le, ji_inj, jl_inj, jl_lt, jl_le, b1s, b2s, bEs, bEe, rIs, rIn, rIJ, rJs, rJn, rJI, ifp, ifn, if_true, if_false]
theorem nothM {T : St} {known : Int} (hk : -10000 ≤ known ∧ known ≤ 10000) : f_X10_nothing (ji known) T = some (setF T (min known 60, min known 60, 0)) := by
  unfold f_X10_nothing setF
  simp (disch := omega) only [i0, i1, i2, i3, i4, i5, i6, i7, i8, i12, i16, i20, i30, i39, i40, i60, i64, i97, i100, i256, i1000, i10000, im1, im20, im60, l0, l1, l2, l3, l4, l5, l8, l10000, l1e9, lm10000, jl_add, jl_sub, jl_mul, jl_neg, ji_add, ji_sub, ji_mul, ji_neg, ji_l, jl_i, rL_n, rI_n, dL_n, dI_n, mnI_j, mxI_j, ji_nat, rest_j, part_n, whole_j, times_j, kc_0, kc_gt, kc_lt, kc_le, kc_ge, ji_lt, ji_le, ji_inj, jl_inj, jl_lt, jl_le, b1s, b2s, bEs, bEe, rIs, rIn, rIJ, rJs, rJn, rJI, ifp, ifn, if_true, if_false]
  rw [wIc (by omega), Int.min_comm 60 known]
theorem laysM {T : St} {p : Int} {r : Nat} {base known w : Int} (h : T.1 0 18 = ji p) (hr : Rch p r) (hb : -10000 ≤ base ∧ base ≤ 10000) (hk : -10000 ≤ known ∧ known ≤ 10000) (hw : 0 ≤ w ∧ w < 9223372036854775808) (hs : min known 60 - base ≤ r) :
    f_X10_lays (jl w) (ji base) (ji known) T = some (setF T (lay p r base known w)) := by
  have h4 := hr.2.2.2.2
  have hp := hr.1
  have hp2 := hr.2.1
  unfold f_X10_lays n_X10_lays_21
  rw [nothM hk]
  by_cases hz : w = 0
  · subst hz
    simp (disch := omega) only [i0, i1, i2, i3, i4, i5, i6, i7, i8, i12, i16, i20, i30, i39, i40, i60, i64, i97, i100, i256, i1000, i10000, im1, im20, im60, l0, l1, l2, l3, l4, l5, l8, l10000, l1e9, lm10000, jl_add, jl_sub, jl_mul, jl_neg, ji_add, ji_sub, ji_mul, ji_neg, ji_l, jl_i, rL_n, rI_n, dL_n, dI_n, mnI_j, mxI_j, ji_nat, rest_j, part_n, whole_j, times_j, kc_0, kc_gt, kc_lt, kc_le, kc_ge, ji_lt, ji_le, ji_inj, jl_inj, jl_lt, jl_le, b1s, b2s, bEs, bEe, rIs, rIn, rIJ, rJs, rJn, rJI, ifp, ifn, if_true, if_false]
    congr 1
    unfold lay
    rw [if_pos (Or.inr (Int.zero_emod _))]
  · by_cases hb2 : base < min 60 known
    · obtain ⟨v, c, rfl, hc⟩ := fac_ex hp _ w (Nat.le_refl _) hz
      have e1 := pw_pos hp v
      have hc0 : 0 < c := by
        rcases Int.lt_or_le 0 c with q | q
        · exact q
        · have := Int.mul_nonpos_of_nonneg_of_nonpos (Int.le_of_lt e1) q
          omega
      have e2 : p ^ v * 1 ≤ p ^ v * c := Int.mul_le_mul_of_nonneg_left (by omega) (by omega)
      have e3 : 1 * c ≤ p ^ v * c := Int.mul_le_mul_of_nonneg_right (by omega) (by omega)
      have hv := vp_62 hp (z := p ^ v * c) (by omega)
      rw [vp_eq hp hc] at hv
      rw [valM h ⟨hp, hp2⟩ (by omega), vp_eq hp hc]
      have hm : min (min known 60 - base) (r : Int) = min known 60 - base := by omega
      simp (disch := omega) only [i0, i1, i2, i3, i4, i5, i6, i7, i8, i12, i16, i20, i30, i39, i40, i60, i64, i97, i100, i256, i1000, i10000, im1, im20, im60, l0, l1, l2, l3, l4, l5, l8, l10000, l1e9, lm10000, jl_add, jl_sub, jl_mul, jl_neg, ji_add, ji_sub, ji_mul, ji_neg, ji_l, jl_i, rL_n, rI_n, dL_n, dI_n, mnI_j, mxI_j, ji_nat, rest_j, part_n, whole_j, times_j, kc_0, kc_gt, kc_lt, kc_le, kc_ge, ji_lt, ji_le, ji_inj, jl_inj, jl_lt, jl_le, b1s, b2s, bEs, bEe, rIs, rIn, rIJ, rJs, rJn, rJI, ifp, ifn, if_true, if_false]
      unfold lay
      rw [hm]
      by_cases hv2 : base + (v : Int) < min 60 known
      · obtain ⟨f1, f2⟩ := mod_fac (s := (min known 60 - base).toNat) hp hc (v := v) (by omega)
        have f3 := pw_pos hp ((min known 60 - base).toNat - v)
        have f4 := emod_rng (a := c) f3
        have f5 := hr.le (e := (min known 60 - base).toNat - v) (by omega)
        have f6 : c % p ^ ((min known 60 - base).toNat - v) ≠ 0 := fun q => f2 (by rw [q]; exact Int.dvd_zero p)
        rw [mostM (by simpa (disch := omega) only [rIs, rIn, rIJ, rJs, rJn, rJI] using h) hr, b1s]
        simp (disch := omega) only [i0, i1, i2, i3, i4, i5, i6, i7, i8, i12, i16, i20, i30, i39, i40, i60, i64, i97, i100, i256, i1000, i10000, im1, im20, im60, l0, l1, l2, l3, l4, l5, l8, l10000, l1e9, lm10000, jl_add, jl_sub, jl_mul, jl_neg, ji_add, ji_sub, ji_mul, ji_neg, ji_l, jl_i, rL_n, rI_n, dL_n, dI_n, mnI_j, mxI_j, ji_nat, rest_j, part_n, whole_j, times_j, kc_0, kc_gt, kc_lt, kc_le, kc_ge, ji_lt, ji_le, ji_inj, jl_inj, jl_lt, jl_le, b1s, b2s, bEs, bEe, rIs, rIn, rIJ, rJs, rJn, rJI, ifp, ifn, if_true, if_false]
        rw [pwM (by simpa (disch := omega) only [rIs, rIn, rIJ, rJs, rJn, rJI] using h) ⟨hp, hp2⟩ (by omega), b1s, pwM (by simpa (disch := omega) only [rIs, rIn, rIJ, rJs, rJn, rJI] using h) ⟨hp, hp2⟩ (by omega), b1s]
        rw [show (min (min 60 known) (base + (v : Int) + r) - (base + (v : Int))).toNat = (min known 60 - base).toNat - v by omega]
        simp (disch := omega) only [i0, i1, i2, i3, i4, i5, i6, i7, i8, i12, i16, i20, i30, i39, i40, i60, i64, i97, i100, i256, i1000, i10000, im1, im20, im60, l0, l1, l2, l3, l4, l5, l8, l10000, l1e9, lm10000, jl_add, jl_sub, jl_mul, jl_neg, ji_add, ji_sub, ji_mul, ji_neg, ji_l, jl_i, rL_n, rI_n, dL_n, dI_n, mnI_j, mxI_j, ji_nat, rest_j, part_n, whole_j, times_j, kc_0, kc_gt, kc_lt, kc_le, kc_ge, ji_lt, ji_le, ji_inj, jl_inj, jl_lt, jl_le, b1s, b2s, bEs, bEe, rIs, rIn, rIJ, rJs, rJn, rJI, ifp, ifn, if_true, if_false, Int.toNat_natCast]
        have f7 : ¬ (min known 60 - base ≤ 0 ∨ p ^ v * (c % p ^ ((min known 60 - base).toNat - v)) = 0) := fun q => by
          rcases q with q | q
          · omega
          · exact (Int.mul_ne_zero (by omega) f6) q
        rw [f1, if_neg f7, vp_eq hp f2, wo_eq hp f2]
        rw [Int.mul_ediv_cancel_left _ (by omega), whole_j (by omega) (by omega), b1s]
        unfold setF
        rw [show min (min 60 known) (base + (v : Int) + r) = base + (min known 60 - base) by omega]
      · have := mod_fac0 (p := p) (w := c) (show (min known 60 - base).toNat ≤ v by omega)
        simp (disch := omega) only [i0, i1, i2, i3, i4, i5, i6, i7, i8, i12, i16, i20, i30, i39, i40, i60, i64, i97, i100, i256, i1000, i10000, im1, im20, im60, l0, l1, l2, l3, l4, l5, l8, l10000, l1e9, lm10000, jl_add, jl_sub, jl_mul, jl_neg, ji_add, ji_sub, ji_mul, ji_neg, ji_l, jl_i, rL_n, rI_n, dL_n, dI_n, mnI_j, mxI_j, ji_nat, rest_j, part_n, whole_j, times_j, kc_0, kc_gt, kc_lt, kc_le, kc_ge, ji_lt, ji_le, ji_inj, jl_inj, jl_lt, jl_le, b1s, b2s, bEs, bEe, rIs, rIn, rIJ, rJs, rJn, rJI, ifp, ifn, if_true, if_false]
        try rw [if_pos (Or.inr this)]
    · simp (disch := omega) only [i0, i1, i2, i3, i4, i5, i6, i7, i8, i12, i16, i20, i30, i39, i40, i60, i64, i97, i100, i256, i1000, i10000, im1, im20, im60, l0, l1, l2, l3, l4, l5, l8, l10000, l1e9, lm10000, jl_add, jl_sub, jl_mul, jl_neg, ji_add, ji_sub, ji_mul, ji_neg, ji_l, jl_i, rL_n, rI_n, dL_n, dI_n, mnI_j, mxI_j, ji_nat, rest_j, part_n, whole_j, times_j, kc_0, kc_gt, kc_lt, kc_le, kc_ge, ji_lt, ji_le, ji_inj, jl_inj, jl_lt, jl_le, b1s, b2s, bEs, bEe, rIs, rIn, rIJ, rJs, rJn, rJI, ifp, ifn, if_true, if_false]
      congr 1
      unfold lay
      rw [if_pos (Or.inl (by omega))]
