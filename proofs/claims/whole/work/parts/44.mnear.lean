/-! the prime, its powers, the reach -/
def NrC (S : St) (p : Int) (r : Nat) : Prop := S.1 3 0 = ji p ∧ S.1 3 1 = ji (r : Int) ∧ ∀ e : Nat, e ≤ r → S.2 6 e = jl (p ^ e)
def Rch (p : Int) (r : Nat) : Prop := 2 ≤ p ∧ p ≤ 97 ∧ p ^ r ≤ 1000000000 ∧ 1000000000 < p ^ (r + 1) ∧ 1 ≤ r ∧ r ≤ 29
def rc (p : Int) : Nat := ((List.range 30).filter (fun k => decide (p ^ (k + 1) ≤ 1000000000))).length
theorem rc_all : ∀ n ∈ P25, (n : Int) ^ rc n ≤ 1000000000 ∧ 1000000000 < (n : Int) ^ (rc n + 1) ∧ 1 ≤ rc n ∧ rc n ≤ 29 := by decide +kernel
theorem Pr.rch {p : Int} (h : Pr p) : Rch p (rc p) := by
  have h0 := h.rng
  obtain ⟨n, rfl, hn⟩ := h
  exact ⟨h0.1, h0.2, rc_all n hn⟩
theorem Rch.le {p : Int} {r e : Nat} (h : Rch p r) (he : e ≤ r) : p ^ e ≤ 1000000000 := Int.le_trans (pw_le h.1 he) h.2.2.1
theorem Rch.un {p : Int} {r e : Nat} (h : Rch p r) : p ^ e ≤ 1000000000 ↔ e ≤ r := by
  constructor
  · intro he
    apply Nat.le_of_not_lt
    intro q
    have := pw_le h.1 (show r + 1 ≤ e from q)
    have := h.2.2.2.1
    omega
  · exact h.le
theorem pwC {S : St} {p : Int} {r : Nat} {e : Int} (h : NrC S p r) (hr : Rch p r) (he : -2147483648 ≤ e ∧ e < 2147483648) : f_X2_power (ji e) S = some (jl (p ^ (min e r).toNat)) := by
  obtain ⟨h1, h2, h3⟩ := h
  have h4 := hr.2.2.2.2
  have h5 := h3 (min e r).toNat (by omega)
  unfold f_X2_power
  rw [h2]
  simp (disch := omega) only [i0, i1, i2, i3, i4, i5, i6, i7, i8, i12, i16, i20, i30, i39, i40, i60, i64, i97, i100, i256, i1000, i10000, im1, im20, im60, l0, l1, l2, l3, l4, l5, l8, l10000, l1e9, lm10000, jl_add, jl_sub, jl_mul, jl_neg, ji_add, ji_sub, ji_mul, ji_neg, ji_l, jl_i, rL_n, rI_n, dL_n, dI_n, mnI_j, mxI_j, ji_nat, rest_j, part_n, whole_j, times_j, kc_0, kc_gt, kc_lt, kc_le, kc_ge, ji_lt, ji_le, ji_inj, jl_inj, jl_lt, jl_le, b1s, b2s, bEs, bEe, rIs, rIn, rIJ, rJs, rJn, rJI, ifp, ifn, if_true, if_false]
  rw [show (max 0 (min e (r : Int))).toNat = (min e r).toNat by omega, h5]
theorem pwC' {S : St} {p : Int} {r : Nat} {e : Int} (h : NrC S p r) (hr : Rch p r) (he : -2147483648 ≤ e ∧ e ≤ r) : f_X2_power (ji e) S = some (jl (p ^ e.toNat)) := by
  have := hr.2.2.2.2
  rw [pwC h hr (by omega), show min e (r : Int) = e by omega]
theorem pwM_loop {T : St} {p : Int} (h : T.1 0 18 = ji p) (hp : 2 ≤ p ∧ p ≤ 97) : ∀ (n : Nat) (e k : Int), (-2147483648 ≤ e ∧ e < 2147483647) → 0 ≤ k → k ≤ max e 0 → (max e 0 - k).toNat < n →
    itr (fun (q : Int32 × Int64 × Int32) k => s_X10_power_5 (fun (x1 : Int32) (x2 : Int64) (x4 : Int32) => k (x1, x2, x4)) T q.1 q.2.1 q.2.2) n (ji e, jl (p ^ k.toNat), ji k) = some (jl (p ^ e.toNat))
  | 0, _, _, _, _, _, h => absurd h (Nat.not_lt_zero _)
  | n + 1, e, k, he, hk, hke, hn => by
    rw [itrS]
    have IH := pwM_loop h hp n
    generalize itr _ n = K at IH
    show s_X10_power_5 _ T (ji e) (jl (p ^ k.toNat)) (ji k) = _
    unfold s_X10_power_5
    rw [h]
    simp (disch := omega) only [i0, i1, i2, i3, i4, i5, i6, i7, i8, i12, i16, i20, i30, i39, i40, i60, i64, i97, i100, i256, i1000, i10000, im1, im20, im60, l0, l1, l2, l3, l4, l5, l8, l10000, l1e9, lm10000, jl_add, jl_sub, jl_mul, jl_neg, ji_add, ji_sub, ji_mul, ji_neg, ji_l, jl_i, rL_n, rI_n, dL_n, dI_n, mnI_j, mxI_j, ji_nat, rest_j, part_n, whole_j, times_j, kc_0, kc_gt, kc_lt, kc_le, kc_ge, ji_lt, ji_le, ji_inj, jl_inj, jl_lt, jl_le, b1s, b2s, bEs, bEe, rIs, rIn, rIJ, rJs, rJn, rJI, ifp, ifn, if_true, if_false]
    by_cases hc : e ≤ k
    · rw [if_pos hc, show k.toNat = e.toNat by omega]
    · rw [if_neg hc, show p ^ k.toNat * p = p ^ (k + 1).toNat by rw [show (k + 1).toNat = k.toNat + 1 by omega, Int.pow_succ]]
      exact IH e (k + 1) he (by omega) (by omega) (by omega)
theorem pwM {T : St} {p : Int} {e : Int} (h : T.1 0 18 = ji p) (hp : 2 ≤ p ∧ p ≤ 97) (he : -2147483648 ≤ e ∧ e < 2147483647) : f_X10_power (ji e) T = some (jl (p ^ e.toNat)) := by
  have := pwM_loop h hp FU e 0 he (by omega) (by omega) (FU_lt (by omega))
  unfold f_X10_power n_X10_power_5
  rw [l1, i0]
  simpa using this
theorem mostM_loop {T : St} {p : Int} {r : Nat} (h : T.1 0 18 = ji p) (hr : Rch p r) : ∀ (n k : Nat), k ≤ r → r - k < n →
    itr (fun (q : Int32 × Int64) k => s_X10_most_8 (fun (x1 : Int32) (x2 : Int64) => k (x1, x2)) T q.1 q.2) n (ji k, jl (p ^ (k + 1))) = some (ji r)
  | 0, _, _, h => absurd h (Nat.not_lt_zero _)
  | n + 1, k, hk, hn => by
    rw [itrS]
    have IH := mostM_loop h hr n
    generalize itr _ n = K at IH
    show s_X10_most_8 _ T (ji k) (jl (p ^ (k + 1))) = _
    obtain ⟨h1, h2, h3, h4, h5, h6⟩ := hr
    have e1 : p ^ (k + 1) = p ^ k * p := Int.pow_succ p k
    have e2 := pw_le h1 hk
    have e3 := pw_pos h1 k
    have e4 : p ^ k * p ≤ 1000000000 * 97 := Int.mul_le_mul (by omega) h2 (by omega) (by omega)
    have e5 := pw_pos h1 (k + 1)
    unfold s_X10_most_8
    rw [h]
    simp (disch := omega) only [i0, i1, i2, i3, i4, i5, i6, i7, i8, i12, i16, i20, i30, i39, i40, i60, i64, i97, i100, i256, i1000, i10000, im1, im20, im60, l0, l1, l2, l3, l4, l5, l8, l10000, l1e9, lm10000, jl_add, jl_sub, jl_mul, jl_neg, ji_add, ji_sub, ji_mul, ji_neg, ji_l, jl_i, rL_n, rI_n, dL_n, dI_n, mnI_j, mxI_j, ji_nat, rest_j, part_n, whole_j, times_j, kc_0, kc_gt, kc_lt, kc_le, kc_ge, ji_lt, ji_le, ji_inj, jl_inj, jl_lt, jl_le, b1s, b2s, bEs, bEe, rIs, rIn, rIJ, rJs, rJn, rJI, ifp, ifn, if_true, if_false]
    by_cases hc : k = r
    · subst hc
      rw [if_pos h4]
    · have e6 := pw_le h1 (show k + 1 ≤ r by omega)
      rw [if_neg (by omega), ← Int.pow_succ]
      exact IH (k + 1) (by omega) (by omega)
theorem mostM {T : St} {p : Int} {r : Nat} (h : T.1 0 18 = ji p) (hr : Rch p r) : f_X10_most T = some (ji r) := by
  have := hr.2.2.2.2
  have := mostM_loop h hr FU 0 (by omega) (FU_lt (by omega))
  obtain ⟨h1, h2, h3⟩ := hr
  unfold f_X10_most n_X10_most_8
  rw [h, ji_l (by omega), i0]
  simpa [Int.pow_one] using this
theorem valM_loop {T : St} {p : Int} (h : T.1 0 18 = ji p) (hp : 2 ≤ p ∧ p ≤ 97) : ∀ (j n : Nat) (z k : Int), vp p z = j → (-9223372036854775808 ≤ z ∧ z < 9223372036854775808) → j < n → 0 ≤ k → k + j ≤ 63 →
    itr (fun (q : Int32 × Int64) k => s_X10_valuationOf_5 (fun (x3 : Int32) (x4 : Int64) => k (x3, x4)) T q.1 q.2) n (ji k, jl z) = some (ji (k + j))
  | j, 0, _, _, _, _, h, _, _ => absurd h (Nat.not_lt_zero _)
  | j, n + 1, z, k, hv, hz, hn, hk, hkj => by
    rw [itrS]
    have IH := fun j z k => valM_loop h hp j n z k
    generalize itr _ n = K at IH
    show s_X10_valuationOf_5 _ T (ji k) (jl z) = _
    unfold s_X10_valuationOf_5
    rw [h, ji_l (by omega), rL_j hz (by omega), jl_div hz (by omega)]
    rw [vp_step hp.1] at hv
    have h1 := Int.lt_tmod_of_pos z (show 0 < p by omega)
    have h2 := Int.tmod_lt_of_pos z (show 0 < p by omega)
    have h3 := @tmod_z z p (by omega)
    simp (disch := omega) only [i0, i1, i2, i3, i4, i5, i6, i7, i8, i12, i16, i20, i30, i39, i40, i60, i64, i97, i100, i256, i1000, i10000, im1, im20, im60, l0, l1, l2, l3, l4, l5, l8, l10000, l1e9, lm10000, jl_add, jl_sub, jl_mul, jl_neg, ji_add, ji_sub, ji_mul, ji_neg, ji_l, jl_i, rL_n, rI_n, dL_n, dI_n, mnI_j, mxI_j, ji_nat, rest_j, part_n, whole_j, times_j, kc_0, kc_gt, kc_lt, kc_le, kc_ge, ji_lt, ji_le, ji_inj, jl_inj, jl_lt, jl_le, b1s, b2s, bEs, bEe, rIs, rIn, rIJ, rJs, rJn, rJI, ifp, ifn, if_true, if_false]
    by_cases h0 : z = 0
    · rw [if_pos h0]
      rw [if_neg (fun q => q.1 h0)] at hv
      rw [← hv]; simp
    · rw [if_neg h0]
      by_cases hd : z % p = 0
      · rw [if_pos (h3.mpr hd), dvd_tdiv hp.1 hd]
        rw [if_pos ⟨h0, hd⟩] at hv
        refine (IH (j - 1) (z / p) (k + 1) (by omega) (dvd_div_rng hp.1 hd hz) (by omega) (by omega) (by omega)).trans ?_
        congr 2
        omega
      · rw [if_neg (fun q => hd (h3.mp q))]
        rw [if_neg (fun q => hd q.2)] at hv
        rw [← hv]; simp
theorem valM {T : St} {p z : Int} (h : T.1 0 18 = ji p) (hp : 2 ≤ p ∧ p ≤ 97) (hz : -9223372036854775808 ≤ z ∧ z < 9223372036854775808) : f_X10_valuationOf (jl z) T = some (ji (vp p z)) := by
  have h1 := vp_62 hp.1 hz
  have := valM_loop h hp (vp p z) FU z 0 rfl hz (FU_lt (by omega)) (by omega) (by omega)
  rw [show (0 : Int) + (vp p z : Int) = vp p z by omega] at this
  exact this
theorem eu_cast {p : Int} (h : Pr p) (n : Nat) : ((eu p (n + 1) : Nat) : Int) = p ^ n * (p - 1) := by
  have := h.rng
  simp only [eu]
  push_cast
  rw [show (p.toNat : Int) = p by omega, show ((p - 1).toNat : Int) = p - 1 by omega]
theorem invM {T : St} {p x e : Int} {r : Nat} (h : T.1 0 18 = ji p) (hp : Pr p) (hr : Rch p r) (he : -2147483648 ≤ e ∧ e ≤ r) (hx : -9223372036854775808 ≤ x ∧ x < 9223372036854775808) : f_X10_inverse (jl x) (ji e) T = some (jl (iv p e.toNat x)) := by
  have h0 := hp.rng
  have h1 := hr.2.2.2.2
  unfold f_X10_inverse
  by_cases hc : 0 < e
  · obtain ⟨n, hn⟩ : ∃ n : Nat, e = ((n + 1 : Nat) : Int) := ⟨(e - 1).toNat, by omega⟩
    have h2 := hr.le (show n + 1 ≤ r by omega)
    have h3 := pw_pos h0.1 (n + 1)
    have h4 := pw_pos h0.1 n
    have h5 : p ^ (n + 1) / p = p ^ n := by rw [Int.pow_succ, Int.mul_ediv_cancel _ (by omega)]
    have h6 := hr.le (show n ≤ r by omega)
    have h7 := eu_cast hp n
    have h8 := eu_pos hp n
    have h9 : p ^ n * (p - 1) ≤ 1000000000 * 96 := Int.mul_le_mul h6 (by omega) (by omega) (by omega)
    subst hn
    rw [h, pwM h ⟨h0.1, h0.2⟩ (by omega)]
    simp only [Int.toNat_natCast]
    have h10 : (p ^ n * (p - 1) - 1).toNat = eu p (n + 1) - 1 := by omega
    simp (disch := omega) only [i0, i1, i2, i3, i4, i5, i6, i7, i8, i12, i16, i20, i30, i39, i40, i60, i64, i97, i100, i256, i1000, i10000, im1, im20, im60, l0, l1, l2, l3, l4, l5, l8, l10000, l1e9, lm10000, jl_add, jl_sub, jl_mul, jl_neg, ji_add, ji_sub, ji_mul, ji_neg, ji_l, jl_i, rL_n, rI_n, dL_n, dI_n, mnI_j, mxI_j, ji_nat, rest_j, part_n, whole_j, times_j, kc_0, kc_gt, kc_lt, kc_le, kc_ge, ji_lt, ji_le, ji_inj, jl_inj, jl_lt, jl_le, b1s, b2s, bEs, bEe, rIs, rIn, rIJ, rJs, rJn, rJI, ifp, ifn, if_true, if_false, h5]
    rw [powM (by omega) hx (by omega), b1s, h10]
    unfold iv
    rw [if_neg (by omega)]
  · simp (disch := omega) only [i0, i1, i2, i3, i4, i5, i6, i7, i8, i12, i16, i20, i30, i39, i40, i60, i64, i97, i100, i256, i1000, i10000, im1, im20, im60, l0, l1, l2, l3, l4, l5, l8, l10000, l1e9, lm10000, jl_add, jl_sub, jl_mul, jl_neg, ji_add, ji_sub, ji_mul, ji_neg, ji_l, jl_i, rL_n, rI_n, dL_n, dI_n, mnI_j, mxI_j, ji_nat, rest_j, part_n, whole_j, times_j, kc_0, kc_gt, kc_lt, kc_le, kc_ge, ji_lt, ji_le, ji_inj, jl_inj, jl_lt, jl_le, b1s, b2s, bEs, bEe, rIs, rIn, rIJ, rJs, rJn, rJI, ifp, ifn, if_true, if_false]
    unfold iv
    rw [if_pos (by omega)]
