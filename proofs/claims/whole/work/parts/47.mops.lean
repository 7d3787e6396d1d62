/-! the four ways to make a number of two, and a fraction -/
def sumS (p : Int) (r : Nat) (x y : Int × Int × Int) (s : Int) : Int × Int × Int := lay p r (min x.1 y.1) (min x.2.1 y.2.1) (x.2.2 * p ^ (x.1 - min x.1 y.1).toNat + s * (y.2.2 * p ^ (y.1 - min x.1 y.1).toNat))
def prodS (p : Int) (r : Nat) (x y : Int × Int × Int) : Int × Int × Int := lay p r (x.1 + y.1) (min (x.1 + y.2.1) (y.1 + x.2.1)) (x.2.2 * y.2.2)
def quotS (p : Int) (r : Nat) (x y : Int × Int × Int) : Int × Int × Int := lay p r (x.1 - y.1) (min (x.2.1 - y.1) (x.1 + y.2.1 - 2 * y.1)) (x.2.2 * iv p (min (x.2.1 - y.1) (x.1 + y.2.1 - 2 * y.1) - (x.1 - y.1)).toNat y.2.2)
def fracS (p : Int) (r : Nat) (a b N : Int) : Int × Int × Int := if a = 0 ∨ N ≤ (vp p a : Int) - vp p b then (N, N, 0) else lay p r ((vp p a : Int) - vp p b) (min N ((vp p a : Int) - vp p b + r)) (wo p a * iv p (min N ((vp p a : Int) - vp p b + r) - ((vp p a : Int) - vp p b)).toNat (wo p b))
def NumC (S : St) (k : Nat) (x : Int × Int × Int) : Prop := S.1 (12 + k) 8 = ji x.1 ∧ S.1 (12 + k) 9 = ji x.2.1 ∧ S.2 (12 + k) 10 = jl x.2.2
def NumM (T : St) (n : Nat) (x : Int × Int × Int) : Prop := T.1 1 n = ji x.1 ∧ T.1 2 n = ji x.2.1 ∧ T.2 8 n = jl x.2.2
theorem wholeC {S : St} {p : Int} {r k : Nat} {x : Int × Int × Int} {base known : Int} (h : NrC S p r) (hr : Rch p r) (hx : NumC S k x) (hw : Wf p r x) (hb : base ≤ x.1) (hb2 : -10000 ≤ base) (hk : base ≤ known) (hkn : known - base ≤ r) : f_X5_wholeFrom k (ji base) (ji known) S = some (jl (x.2.2 * p ^ (x.1 - base).toNat % p ^ (known - base).toNat)) := by
  obtain ⟨h1, h2, h3⟩ := hx
  have h4 := hr.2.2.2.2
  have h5 := hw.u9 hr
  obtain ⟨a1, a2, a3, a4, -⟩ := hw
  unfold f_X5_wholeFrom
  rw [h1, h3]
  simp (disch := omega) only [i0, i1, i2, i3, i4, i5, i6, i7, i8, i12, i16, i20, i30, i39, i40, i60, i64, i97, i100, i256, i1000, i10000, im1, im20, im60, l0, l1, l2, l3, l4, l5, l8, l10000, l1e9, lm10000, jl_add, jl_sub, jl_mul, jl_neg, ji_add, ji_sub, ji_mul, ji_neg, ji_l, jl_i, rL_n, rI_n, dL_n, dI_n, mnI_j, mxI_j, ji_nat, rest_j, part_n, whole_j, times_j, kc_0, kc_gt, kc_lt, kc_le, kc_ge, ji_lt, ji_le, ji_inj, jl_inj, jl_lt, jl_le, b1s, b2s, bEs, bEe, rIs, rIn, rIJ, rJs, rJn, rJI, ifp, ifn, if_true, if_false]
  by_cases hc : known ≤ x.1
  · rw [if_pos hc, Int.emod_eq_zero_of_dvd (Int.dvd_mul_of_dvd_right (pw_dvd p (by omega)))]
  · have h6 := pw_pos hr.1 (known - base).toNat
    have h7 := hr.le (show (known - base).toNat ≤ r by omega)
    have h8 := pw_pos hr.1 (x.1 - base).toNat
    have h9 := hr.le (show (x.1 - base).toNat ≤ r by omega)
    rw [if_neg hc, pwC' h hr (by omega), b1s, pwC' h hr (by omega), b1s, times_j (by omega) (by omega) (by omega), b1s]
theorem findSumC {S : St} {p : Int} {r o k1 k2 : Nat} {x y : Int × Int × Int} {s : Int} (h : NrC S p r) (hr : Rch p r) (hx : NumC S k1 x) (hy : NumC S k2 y) (wx : Wf p r x) (wy : Wf p r y) (hs : s = 1 ∨ s = -1) : f_X5_findSum o k1 k2 (ji s) S = some (setC S o (sumS p r x y s)) := by
  have h4 := hr.2.2.2.2
  have ax := wx
  have ay := wy
  obtain ⟨a1, a2, a3, a4, -⟩ := ax
  obtain ⟨b1, b2, b3, b4, -⟩ := ay
  unfold f_X5_findSum
  rw [hx.1, hx.2.1, hy.1, hy.2.1]
  simp (disch := omega) only [mnI_j, ji_l]
  have c1 := pw_pos hr.1 (min x.2.1 y.2.1 - min x.1 y.1).toNat
  have c2 := hr.le (show (min x.2.1 y.2.1 - min x.1 y.1).toNat ≤ r by omega)
  rw [wholeC h hr hx wx (by omega) (by omega) (by omega) (by omega), b1s, wholeC h hr hy wy (by omega) (by omega) (by omega) (by omega), b1s]
  have c3 := emod_rng (a := x.2.2 * p ^ (x.1 - min x.1 y.1).toNat) c1
  have c4 := emod_rng (a := y.2.2 * p ^ (y.1 - min x.1 y.1).toNat) c1
  have e1 := Int.emod_add_mul_ediv (x.2.2 * p ^ (x.1 - min x.1 y.1).toNat) (p ^ (min x.2.1 y.2.1 - min x.1 y.1).toNat)
  have e2 := Int.emod_add_mul_ediv (y.2.2 * p ^ (y.1 - min x.1 y.1).toNat) (p ^ (min x.2.1 y.2.1 - min x.1 y.1).toNat)
  rw [jl_mul, jl_add, settleC h hr (by omega) (by omega) (by rcases hs with rfl | rfl <;> omega), b1s]
  unfold sumS
  rw [lay_congr (w := x.2.2 * p ^ (x.1 - min x.1 y.1).toNat % p ^ (min x.2.1 y.2.1 - min x.1 y.1).toNat + s * (y.2.2 * p ^ (y.1 - min x.1 y.1).toNat % p ^ (min x.2.1 y.2.1 - min x.1 y.1).toNat)) hr.1]
  refine Int.dvd_trans (pw_dvd p (show _ ≤ (min x.2.1 y.2.1 - min x.1 y.1).toNat by omega)) ?_
  generalize x.2.2 * p ^ (x.1 - min x.1 y.1).toNat = X at *
  generalize y.2.2 * p ^ (y.1 - min x.1 y.1).toNat = Y at *
  generalize p ^ (min x.2.1 y.2.1 - min x.1 y.1).toNat = m at *
  refine ⟨-(X / m) - s * (Y / m), ?_⟩
  generalize X / m = X1 at *
  generalize Y / m = Y1 at *
  generalize X % m = X2 at *
  generalize Y % m = Y2 at *
  grind
theorem findProductC {S : St} {p : Int} {r o k1 k2 : Nat} {x y : Int × Int × Int} (h : NrC S p r) (hr : Rch p r) (hx : NumC S k1 x) (hy : NumC S k2 y) (wx : Wf p r x) (wy : Wf p r y) : f_X5_findProduct o k1 k2 S = some (setC S o (prodS p r x y)) := by
  have h4 := hr.2.2.2.2
  have ux := wx.u9 hr
  have uy := wy.u9 hr
  obtain ⟨a1, a2, a3, a4, -⟩ := wx
  obtain ⟨b1, b2, b3, b4, -⟩ := wy
  unfold f_X5_findProduct
  rw [hx.1, hx.2.1, hx.2.2, hy.1, hy.2.1, hy.2.2]
  have c1 := pw_pos hr.1 (min (x.1 + y.2.1) (y.1 + x.2.1) - (x.1 + y.1)).toNat
  have c2 := hr.le (show (min (x.1 + y.2.1) (y.1 + x.2.1) - (x.1 + y.1)).toNat ≤ r by omega)
  have c3 := emod_rng (a := x.2.2 * y.2.2) c1
  simp (disch := omega) only [mnI_j, ji_add, ji_sub]
  rw [pwC' h hr (by omega), b1s, times_j (by omega) (by omega) (by omega), b1s, settleC h hr (by omega) (by omega) (by omega), b1s]
  unfold prodS
  rw [lay_congr (w := x.2.2 * y.2.2 % p ^ (min (x.1 + y.2.1) (y.1 + x.2.1) - (x.1 + y.1)).toNat) hr.1]
  refine Int.dvd_trans (pw_dvd p (show _ ≤ (min (x.1 + y.2.1) (y.1 + x.2.1) - (x.1 + y.1)).toNat by omega)) ?_
  have e1 := Int.emod_add_mul_ediv (x.2.2 * y.2.2) (p ^ (min (x.1 + y.2.1) (y.1 + x.2.1) - (x.1 + y.1)).toNat)
  exact ⟨-(x.2.2 * y.2.2 / p ^ (min (x.1 + y.2.1) (y.1 + x.2.1) - (x.1 + y.1)).toNat), by rw [Int.mul_neg]; omega⟩
theorem mod_dvd (a m : Int) : m ∣ a % m - a := by
  have := Int.emod_add_mul_ediv a m
  exact ⟨-(a / m), by rw [Int.mul_neg]; omega⟩
theorem findQuotientC {S : St} {p : Int} {r o k1 k2 : Nat} {x y : Int × Int × Int} (h : NrC S p r) (hP : Pr p) (hr : Rch p r) (hx : NumC S k1 x) (hy : NumC S k2 y) (wx : Wf p r x) (wy : Wf p r y) (y0 : y.2.2 ≠ 0) : f_X5_findQuotient o k1 k2 S = some (setC S o (quotS p r x y)) := by
  have h4 := hr.2.2.2.2
  have ux := wx.u9 hr
  have uy := wy.u9 hr
  obtain ⟨a1, a2, a3, a4, -⟩ := wx
  obtain ⟨b1, b2, b3, b4, -, -, b5, -⟩ := wy
  unfold f_X5_findQuotient
  rw [hx.1, hx.2.1, hx.2.2, hy.1, hy.2.1, hy.2.2]
  have c1 := pw_pos hr.1 (min (x.2.1 - y.1) (x.1 + y.2.1 - 2 * y.1) - (x.1 - y.1)).toNat
  have c2 := hr.le (show (min (x.2.1 - y.1) (x.1 + y.2.1 - 2 * y.1) - (x.1 - y.1)).toNat ≤ r by omega)
  have c4 := iv_rng (a := y.2.2) hr.1 (min (x.2.1 - y.1) (x.1 + y.2.1 - 2 * y.1) - (x.1 - y.1)).toNat
  have c3 := emod_rng (a := x.2.2 * iv p (min (x.2.1 - y.1) (x.1 + y.2.1 - 2 * y.1) - (x.1 - y.1)).toNat y.2.2) c1
  simp (disch := omega) only [mnI_j, ji_add, ji_sub, ji_mul, i2]
  rw [pwC' h hr (by omega), b1s, inv_p hP (b5.resolve_left y0) (by omega) (by omega), b1s, times_j (by omega) (by omega) (by omega), b1s, settleC h hr (by omega) (by omega) (by omega), b1s]
  unfold quotS
  rw [lay_congr (w := x.2.2 * iv p (min (x.2.1 - y.1) (x.1 + y.2.1 - 2 * y.1) - (x.1 - y.1)).toNat y.2.2 % p ^ (min (x.2.1 - y.1) (x.1 + y.2.1 - 2 * y.1) - (x.1 - y.1)).toNat) hr.1]
  exact Int.dvd_trans (pw_dvd p (show _ ≤ (min (x.2.1 - y.1) (x.1 + y.2.1 - 2 * y.1) - (x.1 - y.1)).toNat by omega)) (mod_dvd _ _)
/-- what a given fraction's numbers are within -/
def FrOk (a b N : Int) : Prop := -1000000 ≤ a ∧ a ≤ 1000000 ∧ 1 ≤ b ∧ b ≤ 1000000 ∧ -20 ≤ N ∧ N ≤ 60
theorem vp_19 {p z : Int} (hp : 2 ≤ p) (h : -1000000 ≤ z ∧ z ≤ 1000000) : vp p z ≤ 19 ∧ -1000000 ≤ wo p z ∧ wo p z ≤ 1000000 := by
  by_cases h0 : z = 0
  · subst h0
    rw [vp_0, wo_0]
    omega
  · obtain ⟨v, c, rfl, hc⟩ := fac_ex hp _ z (Nat.le_refl _) h0
    rw [vp_eq hp hc, wo_eq hp hc]
    have d1 := pw_pos hp v
    have hc0 : c ≠ 0 := fun q => hc (by rw [q]; exact Int.dvd_zero p)
    have g : (p ^ v * c).natAbs = (p ^ v).natAbs * c.natAbs := Int.natAbs_mul _ _
    have g2 : 1 * c.natAbs ≤ (p ^ v).natAbs * c.natAbs := Nat.mul_le_mul_right _ (by omega)
    have g3 : (p ^ v).natAbs * 1 ≤ (p ^ v).natAbs * c.natAbs := Nat.mul_le_mul_left _ (by omega)
    refine ⟨?_, by omega, by omega⟩
    apply Nat.le_of_not_lt
    intro q
    have k1 := pw_le hp (show 20 ≤ v by omega)
    have k2 : (2 : Int) ^ 20 ≤ p ^ 20 := by
      have : ∀ n : Nat, (2 : Int) ^ n ≤ p ^ n := fun n => by
        induction n with
        | zero => simp
        | succ n ih =>
          rw [pw_s, pw_s]
          exact Int.mul_le_mul hp ih (Int.le_of_lt (pw_pos (by omega) n)) (by omega)
      exact this 20
    have k3 : (2 : Int) ^ 20 = 1048576 := by decide
    omega
theorem wo_co {p z : Int} (hp : 2 ≤ p) (h0 : z ≠ 0) : ¬ p ∣ wo p z := (vp_wo hp h0).2
theorem findFractionC {S : St} {p : Int} {r o : Nat} {a b N : Int} (h : NrC S p r) (hP : Pr p) (hr : Rch p r) (hf : FrOk a b N) (h3 : S.1 (12 + o) 3 = ji a) (h4 : S.1 (12 + o) 4 = ji b) (h5 : S.1 (12 + o) 5 = ji N) : f_X5_findFraction o S = some (setC S o (fracS p r a b N)) := by
  have hh := hr.2.2.2.2
  obtain ⟨f1, f2, f3, f4, f5, f6⟩ := hf
  have hp := hr.1
  have hp2 := hr.2.1
  obtain ⟨va, wa, wa2⟩ := vp_19 hp ⟨f1, f2⟩
  obtain ⟨vb, wb, wb2⟩ := vp_19 hp (z := b) (by omega)
  unfold f_X5_findFraction n_X5_findFraction_47 f_X5_settleNothing
  rw [h3, h4, h5, h.1, h.2.1]
  simp (disch := omega) only [i0, i1, i2, i3, i4, i5, i6, i7, i8, i12, i16, i20, i30, i39, i40, i60, i64, i97, i100, i256, i1000, i10000, im1, im20, im60, l0, l1, l2, l3, l4, l5, l8, l10000, l1e9, lm10000, jl_add, jl_sub, jl_mul, jl_neg, ji_add, ji_sub, ji_mul, ji_neg, ji_l, jl_i, rL_n, rI_n, dL_n, dI_n, mnI_j, mxI_j, ji_nat, rest_j, part_n, whole_j, times_j, kc_0, kc_gt, kc_lt, kc_le, kc_ge, ji_lt, ji_le, ji_inj, jl_inj, jl_lt, jl_le, b1s, b2s, bEs, bEe, rIs, rIn, rIJ, rJs, rJn, rJI, ifp, ifn, if_true, if_false]
  rw [facC (by omega) (by omega), b1s, facC (by omega) (by omega), b1s, woC (by omega) (by omega), woC (by omega) (by omega)]
  simp (disch := omega) only [i0, i1, i2, i3, i4, i5, i6, i7, i8, i12, i16, i20, i30, i39, i40, i60, i64, i97, i100, i256, i1000, i10000, im1, im20, im60, l0, l1, l2, l3, l4, l5, l8, l10000, l1e9, lm10000, jl_add, jl_sub, jl_mul, jl_neg, ji_add, ji_sub, ji_mul, ji_neg, ji_l, jl_i, rL_n, rI_n, dL_n, dI_n, mnI_j, mxI_j, ji_nat, rest_j, part_n, whole_j, times_j, kc_0, kc_gt, kc_lt, kc_le, kc_ge, ji_lt, ji_le, ji_inj, jl_inj, jl_lt, jl_le, b1s, b2s, bEs, bEe, rIs, rIn, rIJ, rJs, rJn, rJI, ifp, ifn, if_true, if_false]
  unfold fracS
  by_cases ha : a = 0
  · rw [if_pos ha, if_pos (Or.inl ha)]
    rfl
  · rw [if_neg ha]
    by_cases hN : N ≤ (vp p a : Int) - vp p b
    · rw [if_neg (by omega), if_pos (Or.inr hN)]
      rfl
    · rw [if_pos (by omega), if_neg (fun q => q.elim ha hN)]
      have c1 := pw_pos hp (min N ((vp p a : Int) - vp p b + r) - ((vp p a : Int) - vp p b)).toNat
      have c2 := hr.le (show (min N ((vp p a : Int) - vp p b + r) - ((vp p a : Int) - vp p b)).toNat ≤ r by omega)
      have c4 := iv_rng (a := wo p b) hp (min N ((vp p a : Int) - vp p b + r) - ((vp p a : Int) - vp p b)).toNat
      have c3 := emod_rng (a := wo p a * iv p (min N ((vp p a : Int) - vp p b + r) - ((vp p a : Int) - vp p b)).toNat (wo p b)) c1
      rw [pwC' h hr (by omega), b1s, inv_p hP (wo_co hp (by omega)) (by omega) (by omega), b1s, times_j (by omega) (by omega) (by omega), b1s, settleC h hr (by omega) (by omega) (by omega), b1s]
      rw [lay_congr (w := wo p a * iv p (min N ((vp p a : Int) - vp p b + r) - ((vp p a : Int) - vp p b)).toNat (wo p b) % p ^ (min N ((vp p a : Int) - vp p b + r) - ((vp p a : Int) - vp p b)).toNat) hp]
      exact Int.dvd_trans (pw_dvd p (show _ ≤ (min N ((vp p a : Int) - vp p b + r) - ((vp p a : Int) - vp p b)).toNat by omega)) (mod_dvd _ _)
