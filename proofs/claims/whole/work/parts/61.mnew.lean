/-! a new number -/
def th (T : St) (k : Nat) : St := wI T 0 17 (ji k)
theorem th_fr {T : St} {k : Nat} : FrT T (th T k) := ⟨fun o i a b c d => rIn (fun q => d ⟨q.1, Or.inl q.2⟩), fun _ _ _ => rfl⟩
theorem th_th {T : St} {a b : Nat} : th (th T a) b = th T b := wII
theorem th_17 {T : St} {k : Nat} : (th T k).1 0 17 = ji k := rIs
theorem th_n {T : St} {k a b : Nat} (h : ¬ (a = 0 ∧ b = 17)) : (th T k).1 a b = T.1 a b := rIn h
theorem th_2 {T : St} {k : Nat} : (th T k).2 = T.2 := rfl
theorem nb0 : narrow .boolean (.int (ji 0)) = .int (ji 0) := rfl
theorem nb1 : narrow .boolean (.int (ji 1)) = .int (ji 1) := rfl
theorem noM_y {T : St} {k : Nat} : f_X10_no (ji 1) (ji k) T = some (ji 0, th T 0) := by
  unfold f_X10_no n_X10_no_10
  simp (disch := omega) only [i0, i1, i2, i3, i4, i5, i6, i7, i8, i12, i16, i20, i30, i39, i40, i60, i64, i97, i100, i256, i1000, i10000, im1, im20, im60, l0, l1, l2, l3, l4, l5, l8, l10000, l1e9, lm10000, jl_add, jl_sub, jl_mul, jl_neg, ji_add, ji_sub, ji_mul, ji_neg, ji_l, jl_i, rL_n, rI_n, dL_n, dI_n, mnI_j, mxI_j, ji_nat, rest_j, part_n, whole_j, times_j, kc_0, kc_gt, kc_lt, kc_le, kc_ge, ji_lt, ji_le, ji_inj, jl_inj, jl_lt, jl_le, b1s, b2s, bEs, bEe, rIs, rIn, rIJ, rJs, rJn, rJI, ifp, ifn, if_true, if_false]
  rfl
theorem noM_n {T : St} {k : Nat} : f_X10_no (ji 0) (ji k) T = some (ji 1, th T k) := by
  unfold f_X10_no n_X10_no_10
  simp (disch := omega) only [i0, i1, i2, i3, i4, i5, i6, i7, i8, i12, i16, i20, i30, i39, i40, i60, i64, i97, i100, i256, i1000, i10000, im1, im20, im60, l0, l1, l2, l3, l4, l5, l8, l10000, l1e9, lm10000, jl_add, jl_sub, jl_mul, jl_neg, ji_add, ji_sub, ji_mul, ji_neg, ji_l, jl_i, rL_n, rI_n, dL_n, dI_n, mnI_j, mxI_j, ji_nat, rest_j, part_n, whole_j, times_j, kc_0, kc_gt, kc_lt, kc_le, kc_ge, ji_lt, ji_le, ji_inj, jl_inj, jl_lt, jl_le, b1s, b2s, bEs, bEe, rIs, rIn, rIJ, rJs, rJn, rJI, ifp, ifn, if_true, if_false]
  rfl
theorem isIn_y {a l u : Int} (ha : -9223372036854775808 ≤ a ∧ a < 9223372036854775808) (hl : -9223372036854775808 ≤ l ∧ l < 9223372036854775808) (hu : -9223372036854775808 ≤ u ∧ u < 9223372036854775808) (h : l ≤ a ∧ a ≤ u) : f_X10_isIn (jl a) (jl l) (jl u) = some (ji 1) := by
  unfold f_X10_isIn
  simp (disch := omega) only [i0, i1, i2, i3, i4, i5, i6, i7, i8, i12, i16, i20, i30, i39, i40, i60, i64, i97, i100, i256, i1000, i10000, im1, im20, im60, l0, l1, l2, l3, l4, l5, l8, l10000, l1e9, lm10000, jl_add, jl_sub, jl_mul, jl_neg, ji_add, ji_sub, ji_mul, ji_neg, ji_l, jl_i, rL_n, rI_n, dL_n, dI_n, mnI_j, mxI_j, ji_nat, rest_j, part_n, whole_j, times_j, kc_0, kc_gt, kc_lt, kc_le, kc_ge, ji_lt, ji_le, ji_inj, jl_inj, jl_lt, jl_le, b1s, b2s, bEs, bEe, rIs, rIn, rIJ, rJs, rJn, rJI, ifp, ifn, if_true, if_false]
theorem isIn_n {a l u : Int} (ha : -9223372036854775808 ≤ a ∧ a < 9223372036854775808) (hl : -9223372036854775808 ≤ l ∧ l < 9223372036854775808) (hu : -9223372036854775808 ≤ u ∧ u < 9223372036854775808) (h : ¬ (l ≤ a ∧ a ≤ u)) : f_X10_isIn (jl a) (jl l) (jl u) = some (ji 0) := by
  unfold f_X10_isIn
  by_cases h1 : a < l
  · simp (disch := omega) only [i0, i1, i2, i3, i4, i5, i6, i7, i8, i12, i16, i20, i30, i39, i40, i60, i64, i97, i100, i256, i1000, i10000, im1, im20, im60, l0, l1, l2, l3, l4, l5, l8, l10000, l1e9, lm10000, jl_add, jl_sub, jl_mul, jl_neg, ji_add, ji_sub, ji_mul, ji_neg, ji_l, jl_i, rL_n, rI_n, dL_n, dI_n, mnI_j, mxI_j, ji_nat, rest_j, part_n, whole_j, times_j, kc_0, kc_gt, kc_lt, kc_le, kc_ge, ji_lt, ji_le, ji_inj, jl_inj, jl_lt, jl_le, b1s, b2s, bEs, bEe, rIs, rIn, rIJ, rJs, rJn, rJI, ifp, ifn, if_true, if_false]
  · simp (disch := omega) only [i0, i1, i2, i3, i4, i5, i6, i7, i8, i12, i16, i20, i30, i39, i40, i60, i64, i97, i100, i256, i1000, i10000, im1, im20, im60, l0, l1, l2, l3, l4, l5, l8, l10000, l1e9, lm10000, jl_add, jl_sub, jl_mul, jl_neg, ji_add, ji_sub, ji_mul, ji_neg, ji_l, jl_i, rL_n, rI_n, dL_n, dI_n, mnI_j, mxI_j, ji_nat, rest_j, part_n, whole_j, times_j, kc_0, kc_gt, kc_lt, kc_le, kc_ge, ji_lt, ji_le, ji_inj, jl_inj, jl_lt, jl_le, b1s, b2s, bEs, bEe, rIs, rIn, rIJ, rJs, rJn, rJI, ifp, ifn, if_true, if_false]
theorem noNum_y {T : St} {cnt : Nat} {a : Int} (h : T.1 0 19 = ji cnt) (hc : cnt ≤ 40) (ha : 0 ≤ a ∧ a < cnt) : f_X10_noNumber (ji a) T = some (ji 0, th T 0) := by
  unfold f_X10_noNumber
  rw [h]
  simp (disch := omega) only [i0, i1, i2, i3, i4, i5, i6, i7, i8, i12, i16, i20, i30, i39, i40, i60, i64, i97, i100, i256, i1000, i10000, im1, im20, im60, l0, l1, l2, l3, l4, l5, l8, l10000, l1e9, lm10000, jl_add, jl_sub, jl_mul, jl_neg, ji_add, ji_sub, ji_mul, ji_neg, ji_l, jl_i, rL_n, rI_n, dL_n, dI_n, mnI_j, mxI_j, ji_nat, rest_j, part_n, whole_j, times_j, kc_0, kc_gt, kc_lt, kc_le, kc_ge, ji_lt, ji_le, ji_inj, jl_inj, jl_lt, jl_le, b1s, b2s, bEs, bEe, rIs, rIn, rIJ, rJs, rJn, rJI, ifp, ifn, if_true, if_false, isIn_y]
  have := noM_y (T := T) (k := 1)
  rw [show ((1 : Nat) : Int) = 1 from rfl] at this
  rw [this, b2s, if_pos nb0]
theorem noNum_n {T : St} {cnt : Nat} {a : Int} (h : T.1 0 19 = ji cnt) (hc : cnt ≤ 40) (hr : -2147483648 ≤ a ∧ a < 2147483648) (ha : ¬ (0 ≤ a ∧ a < cnt)) : f_X10_noNumber (ji a) T = some (ji 1, th T 1) := by
  unfold f_X10_noNumber
  rw [h]
  simp (disch := omega) only [i0, i1, i2, i3, i4, i5, i6, i7, i8, i12, i16, i20, i30, i39, i40, i60, i64, i97, i100, i256, i1000, i10000, im1, im20, im60, l0, l1, l2, l3, l4, l5, l8, l10000, l1e9, lm10000, jl_add, jl_sub, jl_mul, jl_neg, ji_add, ji_sub, ji_mul, ji_neg, ji_l, jl_i, rL_n, rI_n, dL_n, dI_n, mnI_j, mxI_j, ji_nat, rest_j, part_n, whole_j, times_j, kc_0, kc_gt, kc_lt, kc_le, kc_ge, ji_lt, ji_le, ji_inj, jl_inj, jl_lt, jl_le, b1s, b2s, bEs, bEe, rIs, rIn, rIJ, rJs, rJn, rJI, ifp, ifn, if_true, if_false, isIn_n]
  have := noM_n (T := T) (k := 1)
  rw [show ((1 : Nat) : Int) = 1 from rfl] at this
  rw [this, b2s, if_pos nb1]
theorem noNums_y {T : St} {cnt : Nat} {a b : Int} (h : T.1 0 19 = ji cnt) (hc : cnt ≤ 40) (ha : 0 ≤ a ∧ a < cnt) (hb : 0 ≤ b ∧ b < cnt) : f_X10_noNumbers (ji a) (ji b) T = some (ji 0, th T 0) := by
  unfold f_X10_noNumbers n_X10_noNumbers_38
  rw [h]
  simp (disch := omega) only [i0, i1, i2, i3, i4, i5, i6, i7, i8, i12, i16, i20, i30, i39, i40, i60, i64, i97, i100, i256, i1000, i10000, im1, im20, im60, l0, l1, l2, l3, l4, l5, l8, l10000, l1e9, lm10000, jl_add, jl_sub, jl_mul, jl_neg, ji_add, ji_sub, ji_mul, ji_neg, ji_l, jl_i, rL_n, rI_n, dL_n, dI_n, mnI_j, mxI_j, ji_nat, rest_j, part_n, whole_j, times_j, kc_0, kc_gt, kc_lt, kc_le, kc_ge, ji_lt, ji_le, ji_inj, jl_inj, jl_lt, jl_le, b1s, b2s, bEs, bEe, rIs, rIn, rIJ, rJs, rJn, rJI, ifp, ifn, if_true, if_false, isIn_y]
  have := noM_y (T := T) (k := 1)
  rw [show ((1 : Nat) : Int) = 1 from rfl] at this
  rw [this, b2s, if_pos nb0]
theorem noNums_n {T : St} {cnt : Nat} {a b : Int} (h : T.1 0 19 = ji cnt) (hc : cnt ≤ 40) (hr : -2147483648 ≤ a ∧ a < 2147483648) (hr2 : -2147483648 ≤ b ∧ b < 2147483648) (ha : ¬ ((0 ≤ a ∧ a < cnt) ∧ (0 ≤ b ∧ b < cnt))) : f_X10_noNumbers (ji a) (ji b) T = some (ji 1, th T 1) := by
  unfold f_X10_noNumbers n_X10_noNumbers_38
  rw [h]
  have := noM_n (T := T) (k := 1)
  rw [show ((1 : Nat) : Int) = 1 from rfl] at this
  by_cases h1 : 0 ≤ a ∧ a < cnt
  · simp (disch := omega) only [i0, i1, i2, i3, i4, i5, i6, i7, i8, i12, i16, i20, i30, i39, i40, i60, i64, i97, i100, i256, i1000, i10000, im1, im20, im60, l0, l1, l2, l3, l4, l5, l8, l10000, l1e9, lm10000, jl_add, jl_sub, jl_mul, jl_neg, ji_add, ji_sub, ji_mul, ji_neg, ji_l, jl_i, rL_n, rI_n, dL_n, dI_n, mnI_j, mxI_j, ji_nat, rest_j, part_n, whole_j, times_j, kc_0, kc_gt, kc_lt, kc_le, kc_ge, ji_lt, ji_le, ji_inj, jl_inj, jl_lt, jl_le, b1s, b2s, bEs, bEe, rIs, rIn, rIJ, rJs, rJn, rJI, ifp, ifn, if_true, if_false, isIn_y, isIn_n]
    rw [this, b2s, if_pos nb1]
  · simp (disch := omega) only [i0, i1, i2, i3, i4, i5, i6, i7, i8, i12, i16, i20, i30, i39, i40, i60, i64, i97, i100, i256, i1000, i10000, im1, im20, im60, l0, l1, l2, l3, l4, l5, l8, l10000, l1e9, lm10000, jl_add, jl_sub, jl_mul, jl_neg, ji_add, ji_sub, ji_mul, ji_neg, ji_l, jl_i, rL_n, rI_n, dL_n, dI_n, mnI_j, mxI_j, ji_nat, rest_j, part_n, whole_j, times_j, kc_0, kc_gt, kc_lt, kc_le, kc_ge, ji_lt, ji_le, ji_inj, jl_inj, jl_lt, jl_le, b1s, b2s, bEs, bEe, rIs, rIn, rIJ, rJs, rJn, rJI, ifp, ifn, if_true, if_false, isIn_n]
    rw [this, b2s, if_pos nb1]
theorem noRoom_y {T : St} {cnt k : Nat} (h : T.1 0 19 = ji cnt) (hc : cnt < 40) : f_X10_noRoom (ji k) T = some (ji 0, th T 0) := by
  unfold f_X10_noRoom n_X10_noRoom_15
  rw [h]
  simp (disch := omega) only [i0, i1, i2, i3, i4, i5, i6, i7, i8, i12, i16, i20, i30, i39, i40, i60, i64, i97, i100, i256, i1000, i10000, im1, im20, im60, l0, l1, l2, l3, l4, l5, l8, l10000, l1e9, lm10000, jl_add, jl_sub, jl_mul, jl_neg, ji_add, ji_sub, ji_mul, ji_neg, ji_l, jl_i, rL_n, rI_n, dL_n, dI_n, mnI_j, mxI_j, ji_nat, rest_j, part_n, whole_j, times_j, kc_0, kc_gt, kc_lt, kc_le, kc_ge, ji_lt, ji_le, ji_inj, jl_inj, jl_lt, jl_le, b1s, b2s, bEs, bEe, rIs, rIn, rIJ, rJs, rJn, rJI, ifp, ifn, if_true, if_false, noM_y]
  rw [if_pos nb0]
theorem noRoom_n {T : St} {k : Nat} (h : T.1 0 19 = ji 40) : f_X10_noRoom (ji k) T = some (ji 1, th T k) := by
  unfold f_X10_noRoom n_X10_noRoom_15
  rw [h]
  simp (disch := omega) only [i0, i1, i2, i3, i4, i5, i6, i7, i8, i12, i16, i20, i30, i39, i40, i60, i64, i97, i100, i256, i1000, i10000, im1, im20, im60, l0, l1, l2, l3, l4, l5, l8, l10000, l1e9, lm10000, jl_add, jl_sub, jl_mul, jl_neg, ji_add, ji_sub, ji_mul, ji_neg, ji_l, jl_i, rL_n, rI_n, dL_n, dI_n, mnI_j, mxI_j, ji_nat, rest_j, part_n, whole_j, times_j, kc_0, kc_gt, kc_lt, kc_le, kc_ge, ji_lt, ji_le, ji_inj, jl_inj, jl_lt, jl_le, b1s, b2s, bEs, bEe, rIs, rIn, rIJ, rJs, rJn, rJI, ifp, ifn, if_true, if_false, noM_n]
  rw [if_pos nb1]
theorem needN_y {S : St} {cnt : Nat} {a : Int} (h : S.1 1 3 = ji cnt) (hc : cnt ≤ 40) (ha : 0 ≤ a ∧ a < cnt) : f_X9_needNumber (ji a) S = some (.ok ()) := by
  unfold f_X9_needNumber
  rw [h]
  simp (disch := omega) only [i0, i1, i2, i3, i4, i5, i6, i7, i8, i12, i16, i20, i30, i39, i40, i60, i64, i97, i100, i256, i1000, i10000, im1, im20, im60, l0, l1, l2, l3, l4, l5, l8, l10000, l1e9, lm10000, jl_add, jl_sub, jl_mul, jl_neg, ji_add, ji_sub, ji_mul, ji_neg, ji_l, jl_i, rL_n, rI_n, dL_n, dI_n, mnI_j, mxI_j, ji_nat, rest_j, part_n, whole_j, times_j, kc_0, kc_gt, kc_lt, kc_le, kc_ge, ji_lt, ji_le, ji_inj, jl_inj, jl_lt, jl_le, b1s, b2s, bEs, bEe, rIs, rIn, rIJ, rJs, rJn, rJI, ifp, ifn, if_true, if_false]
theorem needN_n {S : St} {cnt : Nat} {a : Int} (h : S.1 1 3 = ji cnt) (hc : cnt ≤ 40) (hr : -2147483648 ≤ a ∧ a < 2147483648) (ha : ¬ (0 ≤ a ∧ a < cnt)) : f_X9_needNumber (ji a) S = some (.error 3) := by
  unfold f_X9_needNumber
  rw [h]
  by_cases h1 : a < 0
  · simp (disch := omega) only [i0, i1, i2, i3, i4, i5, i6, i7, i8, i12, i16, i20, i30, i39, i40, i60, i64, i97, i100, i256, i1000, i10000, im1, im20, im60, l0, l1, l2, l3, l4, l5, l8, l10000, l1e9, lm10000, jl_add, jl_sub, jl_mul, jl_neg, ji_add, ji_sub, ji_mul, ji_neg, ji_l, jl_i, rL_n, rI_n, dL_n, dI_n, mnI_j, mxI_j, ji_nat, rest_j, part_n, whole_j, times_j, kc_0, kc_gt, kc_lt, kc_le, kc_ge, ji_lt, ji_le, ji_inj, jl_inj, jl_lt, jl_le, b1s, b2s, bEs, bEe, rIs, rIn, rIJ, rJs, rJn, rJI, ifp, ifn, if_true, if_false]
  · simp (disch := omega) only [i0, i1, i2, i3, i4, i5, i6, i7, i8, i12, i16, i20, i30, i39, i40, i60, i64, i97, i100, i256, i1000, i10000, im1, im20, im60, l0, l1, l2, l3, l4, l5, l8, l10000, l1e9, lm10000, jl_add, jl_sub, jl_mul, jl_neg, ji_add, ji_sub, ji_mul, ji_neg, ji_l, jl_i, rL_n, rI_n, dL_n, dI_n, mnI_j, mxI_j, ji_nat, rest_j, part_n, whole_j, times_j, kc_0, kc_gt, kc_lt, kc_le, kc_ge, ji_lt, ji_le, ji_inj, jl_inj, jl_lt, jl_le, b1s, b2s, bEs, bEe, rIs, rIn, rIJ, rJs, rJn, rJI, ifp, ifn, if_true, if_false]
theorem needR_y {S : St} {cnt : Nat} (h : S.1 1 3 = ji cnt) (hc : cnt < 40) : f_X9_needRoom S = some (.ok ()) := by
  unfold f_X9_needRoom f_X5_isFull
  rw [h]
  simp (disch := omega) only [i0, i1, i2, i3, i4, i5, i6, i7, i8, i12, i16, i20, i30, i39, i40, i60, i64, i97, i100, i256, i1000, i10000, im1, im20, im60, l0, l1, l2, l3, l4, l5, l8, l10000, l1e9, lm10000, jl_add, jl_sub, jl_mul, jl_neg, ji_add, ji_sub, ji_mul, ji_neg, ji_l, jl_i, rL_n, rI_n, dL_n, dI_n, mnI_j, mxI_j, ji_nat, rest_j, part_n, whole_j, times_j, kc_0, kc_gt, kc_lt, kc_le, kc_ge, ji_lt, ji_le, ji_inj, jl_inj, jl_lt, jl_le, b1s, b2s, bEs, bEe, rIs, rIn, rIJ, rJs, rJn, rJI, ifp, ifn, if_true, if_false]
theorem needR_n {S : St} (h : S.1 1 3 = ji 40) : f_X9_needRoom S = some (.error 2) := by
  unfold f_X9_needRoom f_X5_isFull
  rw [h]
  simp (disch := omega) only [i0, i1, i2, i3, i4, i5, i6, i7, i8, i12, i16, i20, i30, i39, i40, i60, i64, i97, i100, i256, i1000, i10000, im1, im20, im60, l0, l1, l2, l3, l4, l5, l8, l10000, l1e9, lm10000, jl_add, jl_sub, jl_mul, jl_neg, ji_add, ji_sub, ji_mul, ji_neg, ji_l, jl_i, rL_n, rI_n, dL_n, dI_n, mnI_j, mxI_j, ji_nat, rest_j, part_n, whole_j, times_j, kc_0, kc_gt, kc_lt, kc_le, kc_ge, ji_lt, ji_le, ji_inj, jl_inj, jl_lt, jl_le, b1s, b2s, bEs, bEe, rIs, rIn, rIJ, rJs, rJn, rJI, ifp, ifn, if_true, if_false]
theorem needW_y {a l u : Int} (ha : -2147483648 ≤ a ∧ a < 2147483648) (hl : -2147483648 ≤ l ∧ l < 2147483648) (hu : -2147483648 ≤ u ∧ u < 2147483648) (h : l ≤ a ∧ a ≤ u) : f_X9_needWithin (ji a) (ji l) (ji u) = some (.ok ()) := by
  unfold f_X9_needWithin
  simp (disch := omega) only [i0, i1, i2, i3, i4, i5, i6, i7, i8, i12, i16, i20, i30, i39, i40, i60, i64, i97, i100, i256, i1000, i10000, im1, im20, im60, l0, l1, l2, l3, l4, l5, l8, l10000, l1e9, lm10000, jl_add, jl_sub, jl_mul, jl_neg, ji_add, ji_sub, ji_mul, ji_neg, ji_l, jl_i, rL_n, rI_n, dL_n, dI_n, mnI_j, mxI_j, ji_nat, rest_j, part_n, whole_j, times_j, kc_0, kc_gt, kc_lt, kc_le, kc_ge, ji_lt, ji_le, ji_inj, jl_inj, jl_lt, jl_le, b1s, b2s, bEs, bEe, rIs, rIn, rIJ, rJs, rJn, rJI, ifp, ifn, if_true, if_false]
theorem needW_n {a l u : Int} (ha : -2147483648 ≤ a ∧ a < 2147483648) (hl : -2147483648 ≤ l ∧ l < 2147483648) (hu : -2147483648 ≤ u ∧ u < 2147483648) (h : ¬ (l ≤ a ∧ a ≤ u)) : f_X9_needWithin (ji a) (ji l) (ji u) = some (.error 1) := by
  unfold f_X9_needWithin
  by_cases h1 : a < l
  · simp (disch := omega) only [i0, i1, i2, i3, i4, i5, i6, i7, i8, i12, i16, i20, i30, i39, i40, i60, i64, i97, i100, i256, i1000, i10000, im1, im20, im60, l0, l1, l2, l3, l4, l5, l8, l10000, l1e9, lm10000, jl_add, jl_sub, jl_mul, jl_neg, ji_add, ji_sub, ji_mul, ji_neg, ji_l, jl_i, rL_n, rI_n, dL_n, dI_n, mnI_j, mxI_j, ji_nat, rest_j, part_n, whole_j, times_j, kc_0, kc_gt, kc_lt, kc_le, kc_ge, ji_lt, ji_le, ji_inj, jl_inj, jl_lt, jl_le, b1s, b2s, bEs, bEe, rIs, rIn, rIJ, rJs, rJn, rJI, ifp, ifn, if_true, if_false]
  · simp (disch := omega) only [i0, i1, i2, i3, i4, i5, i6, i7, i8, i12, i16, i20, i30, i39, i40, i60, i64, i97, i100, i256, i1000, i10000, im1, im20, im60, l0, l1, l2, l3, l4, l5, l8, l10000, l1e9, lm10000, jl_add, jl_sub, jl_mul, jl_neg, ji_add, ji_sub, ji_mul, ji_neg, ji_l, jl_i, rL_n, rI_n, dL_n, dI_n, mnI_j, mxI_j, ji_nat, rest_j, part_n, whole_j, times_j, kc_0, kc_gt, kc_lt, kc_le, kc_ge, ji_lt, ji_le, ji_inj, jl_inj, jl_lt, jl_le, b1s, b2s, bEs, bEe, rIs, rIn, rIJ, rJs, rJn, rJI, ifp, ifn, if_true, if_false]
theorem pre_congr {p : Int} {r n : Nat} {d c : Nat → Int} {num num' : Nat → Int × Int × Int} (h : Pre p r d c num n) (hw : ∀ i : Nat, i < n → Wf p r (num i) ∧ num' i = num i) : Pre p r d c num' n := by
  refine pre_rf h (fun i hi => ?_) (fun _ _ => rfl) (fun _ => rfl) (fun k => ⟨Int.le_refl _, ?_⟩)
  · obtain ⟨a, b⟩ := hw i hi
    rw [b]
    exact ⟨a, a, Rf.refl a⟩
  · rcases h with ⟨q, f, -⟩ | ⟨q, -⟩ | ⟨q, -⟩ | ⟨q, -⟩ | ⟨q, -⟩ | ⟨q, -⟩ | ⟨q, -⟩ | ⟨q, -⟩ | ⟨q, -⟩
    · exact f.2.2.2.2.2
    iterate 8 omega
theorem dy_congr {p : Int} {r n : Nat} {d c : Nat → Int} {num num' : Nat → Int × Int × Int} {y : Int × Int × Int} (hp : Pre p r d c num n) (h : DY p r d c num y) (hw : ∀ i : Nat, i < n → num' i = num i) : DY p r d c num' y := by
  obtain ⟨y0, y1, y2, y3, y4, y5, y6, y7, y8⟩ := h
  have one : d 0 = 1 ∨ d 0 = 2 ∨ d 0 = 3 ∨ d 0 = 4 ∨ d 0 = 5 ∨ d 0 = 6 ∨ d 0 = 8 → num' (d 1).toNat = num (d 1).toNat := by
    intro k
    apply hw
    rcases hp with ⟨q, -⟩ | ⟨q, g, -⟩ | ⟨q, g, -⟩ | ⟨q, g, -⟩ | ⟨q, g, -⟩ | ⟨q, g, -⟩ | ⟨q, g, -⟩ | ⟨q, -⟩ | ⟨q, g, -⟩
    · omega
    · have := g.1; have := g.2; omega
    · have := g.1; have := g.2; omega
    · have := g.1; have := g.2; omega
    · have := g.1; have := g.2; omega
    · have := g.1; have := g.2; omega
    · have := g.1; have := g.2; omega
    · omega
    · have := g.1; have := g.2; omega
  have two : d 0 = 1 ∨ d 0 = 2 ∨ d 0 = 3 ∨ d 0 = 4 → num' (d 2).toNat = num (d 2).toNat := by
    intro k
    apply hw
    rcases hp with ⟨q, -⟩ | ⟨q, -, g⟩ | ⟨q, -, g⟩ | ⟨q, -, g, -⟩ | ⟨q, -, g, -⟩ | ⟨q, -⟩ | ⟨q, -⟩ | ⟨q, -⟩ | ⟨q, -⟩
    · omega
    · have := g.1; have := g.2; omega
    · have := g.1; have := g.2; omega
    · have := g.1; have := g.2; omega
    · have := g.1; have := g.2; omega
    · omega
    · omega
    · omega
    · omega
  refine ⟨y0, fun k => ?_, fun k => ?_, fun k => ?_, fun k => ?_, fun k => ?_, fun k => ?_, y7, fun k => ?_⟩
  · rw [one (by omega), two (by omega)]; exact y1 k
  · rw [one (by omega), two (by omega)]; exact y2 k
  · rw [one (by omega), two (by omega)]; exact y3 k
  · rw [one (by omega), two (by omega)]; exact y4 k
  · rw [one (by omega)]; exact y5 k
  · rw [one (by omega)]; exact y6 k
  · rw [one (by omega)]; exact y8 k
/-- nothing changed but at the place of number n -/
def FnS (n : Nat) (S S' : St) : Prop := (∀ o i : Nat, o ≠ 12 + n → o ≠ 52 → o ≠ 53 → i ≠ 7 ∨ o < 12 ∨ 54 ≤ o → S'.1 o i = S.1 o i) ∧ ∀ o i : Nat, o ≠ 12 + n → o ≠ 52 → o ≠ 53 → o ≠ 11 → S'.2 o i = S.2 o i
def FnT (n : Nat) (T T' : St) : Prop := (∀ o i : Nat, o ≠ 9 → o ≠ 16 → o ≠ 17 → ¬ (o = 0 ∧ (i = 17 ∨ i = 23 ∨ i = 24 ∨ i = 25)) → ¬ (1 ≤ o ∧ o ≤ 7 ∧ i = n) → ¬ (o = 10 ∧ 12 * n ≤ i ∧ i < 12 * n + 12) → ¬ (o = 11 ∧ 7 * n ≤ i ∧ i < 7 * n + 7) → T'.1 o i = T.1 o i) ∧ ∀ o i : Nat, o ≠ 0 → ¬ (o = 8 ∧ i = n) → T'.2 o i = T.2 o i
theorem dc_fn {S S' : St} {n m : Nat} {d c : Nat → Int} (h : FnS m S S') (hnm : n ≠ m) (hn : n < 40) (hm : m < 40) (hf : d 0 = 7 → Idx (d 3) 8) (g : DC S n d c) : DC S' n d c := by
  obtain ⟨g1, g2, g3⟩ := g
  refine ⟨fun j hj => ?_, fun k => ?_, fun k j hj => ?_⟩
  · rw [h.1 _ _ (by omega) (by omega) (by omega) (by omega)]; exact g1 j hj
  · obtain ⟨cc, a, b, e⟩ := g2 k
    obtain ⟨i1, i2⟩ := hf k
    exact ⟨cc, fun j hj => by rw [h.1 _ _ (by omega) (by omega) (by omega) (by omega)]; exact a j hj, b, e⟩
  · rw [h.1 _ _ (by omega) (by omega) (by omega) (by omega)]; exact g3 k j hj
theorem dm_fn {T T' : St} {n m : Nat} {d c : Nat → Int} (h : FnT m T T') (hnm : n ≠ m) (h6 : d 0 = 8 → d 6 ≤ 12) (g : DM T n d c) : DM T' n d c := by
  obtain ⟨g1, g2, g3, g4, g5, g6⟩ := g
  have e : ∀ o i : Nat, 1 ≤ o → o ≤ 7 → i ≠ m → T'.1 o i = T.1 o i := fun o i a b c => h.1 o i (by omega) (by omega) (by omega) (by omega) (by omega) (by omega) (by omega)
  refine ⟨?_, fun k => ?_, fun k k' => ?_, fun k k' => ?_, fun k => ?_, fun k => ?_⟩
  · rw [e _ _ (by omega) (by omega) hnm]; exact g1
  · rw [e _ _ (by omega) (by omega) hnm, e _ _ (by omega) (by omega) hnm, e _ _ (by omega) (by omega) hnm]; exact g2 k
  · rw [e _ _ (by omega) (by omega) hnm]; exact g3 k k'
  · rw [e _ _ (by omega) (by omega) hnm]; exact g4 k k'
  · rw [e _ _ (by omega) (by omega) hnm, e _ _ (by omega) (by omega) hnm]
    exact ⟨(g5 k).1, (g5 k).2.1, fun j hj => by rw [h.1 _ _ (by omega) (by omega) (by omega) (by omega) (by omega) (by omega) (by omega)]; exact (g5 k).2.2 j hj⟩
  · rw [e _ _ (by omega) (by omega) hnm]
    exact ⟨(g6 k).1, fun j hj => by
      have := h6 k
      rw [h.1 _ _ (by omega) (by omega) (by omega) (by omega) (by omega) (by omega) (by omega)]
      exact (g6 k).2 j hj⟩
theorem Pre.f8 {p : Int} {r n : Nat} {d c : Nat → Int} {num : Nat → Int × Int × Int} (h : Pre p r d c num n) : d 0 = 8 → d 6 ≤ 12 := by
  intro k
  rcases h with ⟨q, -⟩ | ⟨q, -⟩ | ⟨q, -⟩ | ⟨q, -⟩ | ⟨q, -⟩ | ⟨q, -⟩ | ⟨q, -⟩ | ⟨q, -⟩ | ⟨q, -, -, -, i, -⟩
  iterate 8 omega
  exact i
theorem new_num {S T S1 T1 : St} {p : Int} {r cnt : Nat} {num early : Nat → Int × Int × Int} {D C : Nat → Nat → Int} {bc rowc : Nat} {cn : Nat → Nat} {pc : Nat → Nat → Int} {rv : Nat → Int} {sz : Nat} {en : Nat → Int} {d c : Nat → Int}
    (h : RN S T p r cnt num early D C bc rowc cn) (hP : RP S T bc cn pc) (hR : RR S T rowc rv) (hX : RX S T sz en) (hc : cnt < 40) (fS : FnS cnt S S1) (fT : FnT cnt T T1) (hC : DC S1 cnt d c) (hM : DM T1 cnt d c) (hd : Pre p r d c num cnt) (hl : Lnk d bc rowc cn) :
    ∃ S' T' : St, (b1 (f_X5_find cnt S1) fun S7 => f_X5_keep cnt S7) = some (ji cnt, S') ∧ (b1 (f_X10_finds (ji cnt) T1) fun S7 => some (S7.1 0 19, wI S7 0 19 (S7.1 0 19 + 1))) = some (ji cnt, T') ∧ Rel S' T' ∧ T'.1 0 17 = T1.1 0 17 := by
  obtain ⟨h1, h2, ⟨n1, n2, n3⟩, h4, h5, h6, h7, h8⟩ := h
  have N1 : NrC S1 p r := ⟨by rw [fS.1 _ _ (by omega) (by omega) (by omega) (by omega)]; exact n1, by rw [fS.1 _ _ (by omega) (by omega) (by omega) (by omega)]; exact n2, fun e he => by rw [fS.2 _ _ (by omega) (by omega) (by omega) (by omega)]; exact n3 e he⟩
  have P1 : T1.1 0 18 = ji p := by rw [fT.1 _ _ (by omega) (by omega) (by omega) (by omega) (by omega) (by omega) (by omega)]; exact h4
  have nums : ∀ i : Nat, i < cnt → NumC S1 i (num i) ∧ NumM T1 i (num i) ∧ Wf p r (num i) := fun i hi => by
    obtain ⟨⟨a1, a2, a3⟩, ⟨b1, b2, b3⟩, a4, -⟩ := h8 i hi
    refine ⟨⟨?_, ?_, ?_⟩, ⟨?_, ?_, ?_⟩, a4⟩
    · rw [fS.1 _ _ (by omega) (by omega) (by omega) (by omega)]; exact a1
    · rw [fS.1 _ _ (by omega) (by omega) (by omega) (by omega)]; exact a2
    · rw [fS.2 _ _ (by omega) (by omega) (by omega) (by omega)]; exact a3
    · rw [fT.1 _ _ (by omega) (by omega) (by omega) (by omega) (by omega) (by omega) (by omega)]; exact b1
    · rw [fT.1 _ _ (by omega) (by omega) (by omega) (by omega) (by omega) (by omega) (by omega)]; exact b2
    · rw [fT.2 _ _ (by omega) (by omega)]; exact b3
  obtain ⟨y, dy, wy, fC, fM⟩ := find_ok N1 P1 h1 h2 hc nums hd hC hM
  have c1 : (setC S1 cnt y).1 1 3 = ji cnt := by
    unfold setC
    simp (disch := omega) only [rIs, rIn, rIJ, rJs, rJn, rJI]
    rw [fS.1 _ _ (by omega) (by omega) (by omega) (by omega)]; exact h5
  have c2 : (setM T1 cnt y).1 0 19 = ji cnt := by
    unfold setM setF
    simp (disch := omega) only [rIs, rIn, rIJ, rJs, rJn, rJI]
    rw [fT.1 _ _ (by omega) (by omega) (by omega) (by omega) (by omega) (by omega) (by omega)]; exact h6
  -- the states at the end
  refine ⟨wI (wJ (wI (wI (setC S1 cnt y) (12 + cnt) 11 (ji y.1)) (12 + cnt) 12 (ji y.2.1)) (12 + cnt) 13 (jl y.2.2)) 1 3 (ji (cnt + 1 : Nat)), wI (setM T1 cnt y) 0 19 (ji (cnt + 1 : Nat)), ?_, ?_, ?_, ?_⟩
  · rw [fC, b1s]
    unfold f_X5_keep f_X3_keepEarly
    have q1 : (setC S1 cnt y).1 (12 + cnt) 8 = ji y.1 := by unfold setC; simp (disch := omega) only [rIs, rIn, rIJ, rJs, rJn, rJI]
    have q2 : (setC S1 cnt y).1 (12 + cnt) 9 = ji y.2.1 := by unfold setC; simp (disch := omega) only [rIs, rIn, rIJ, rJs, rJn, rJI]
    have q3 : (setC S1 cnt y).2 (12 + cnt) 10 = jl y.2.2 := by unfold setC; simp (disch := omega) only [rIs, rIn, rIJ, rJs, rJn, rJI]
    simp (disch := omega) only [i0, i1, i2, i3, i4, i5, i6, i7, i8, i12, i16, i20, i30, i39, i40, i60, i64, i97, i100, i256, i1000, i10000, im1, im20, im60, l0, l1, l2, l3, l4, l5, l8, l10000, l1e9, lm10000, jl_add, jl_sub, jl_mul, jl_neg, ji_add, ji_sub, ji_mul, ji_neg, ji_l, jl_i, rL_n, rI_n, dL_n, dI_n, mnI_j, mxI_j, ji_nat, rest_j, part_n, whole_j, times_j, kc_0, kc_gt, kc_lt, kc_le, kc_ge, ji_lt, ji_le, ji_inj, jl_inj, jl_lt, jl_le, b1s, b2s, bEs, bEe, rIs, rIn, rIJ, rJs, rJn, rJI, ifp, ifn, if_true, if_false, c1, q1, q2, q3]
    rw [show (cnt : Int) + 1 - 1 = cnt by omega, show (cnt : Int) + 1 = ((cnt + 1 : Nat) : Int) by omega]
  · rw [fM, b1s, c2, i1, ji_add, show (cnt : Int) + 1 = ((cnt + 1 : Nat) : Int) by omega]
  · generalize hS' : wI (wJ (wI (wI (setC S1 cnt y) (12 + cnt) 11 (ji y.1)) (12 + cnt) 12 (ji y.2.1)) (12 + cnt) 13 (jl y.2.2)) 1 3 (ji (cnt + 1 : Nat)) = S'
    generalize hT' : wI (setM T1 cnt y) 0 19 (ji (cnt + 1 : Nat)) = T'
    -- what changed since S and T: the place of the new number, and the counts
    have gS : (∀ o i : Nat, o ≠ 12 + cnt → o ≠ 52 → o ≠ 53 → ¬ (o = 1 ∧ i = 3) → i ≠ 7 ∨ o < 12 ∨ 54 ≤ o → S'.1 o i = S.1 o i) ∧ ∀ o i : Nat, o ≠ 12 + cnt → o ≠ 52 → o ≠ 53 → o ≠ 11 → S'.2 o i = S.2 o i := by
      subst hS'
      constructor
      · intro o i g1 g2 g3 g4 g5
        unfold setC
        simp (disch := omega) only [rIs, rIn, rIJ, rJs, rJn, rJI]
        exact fS.1 o i g1 g2 g3 g5
      · intro o i g1 g2 g3 g4
        unfold setC
        simp (disch := omega) only [rIs, rIn, rIJ, rJs, rJn, rJI]
        exact fS.2 o i g1 g2 g3 g4
    have gT : (∀ o i : Nat, o ≠ 9 → o ≠ 16 → o ≠ 17 → ¬ (o = 0 ∧ (i = 17 ∨ i = 19 ∨ i = 23 ∨ i = 24 ∨ i = 25)) → ¬ (1 ≤ o ∧ o ≤ 7 ∧ i = cnt) → ¬ (o = 10 ∧ 12 * cnt ≤ i ∧ i < 12 * cnt + 12) → ¬ (o = 11 ∧ 7 * cnt ≤ i ∧ i < 7 * cnt + 7) → T'.1 o i = T.1 o i) ∧ ∀ o i : Nat, o ≠ 0 → ¬ (o = 8 ∧ i = cnt) → T'.2 o i = T.2 o i := by
      subst hT'
      constructor
      · intro o i g1 g2 g3 g4 g5 g6 g7
        unfold setM setF
        simp (disch := omega) only [rIs, rIn, rIJ, rJs, rJn, rJI]
        exact fT.1 o i g1 g2 g3 (by omega) g5 g6 g7
      · intro o i g1 g2
        unfold setM setF
        simp (disch := omega) only [rIs, rIn, rIJ, rJs, rJn, rJI]
        exact fT.2 o i g1 g2
    have fS' : FnS cnt S1 S' → True := fun _ => trivial
    let num' : Nat → Int × Int × Int := fun i => if i = cnt then y else num i
    let early' : Nat → Int × Int × Int := fun i => if i = cnt then y else early i
    let D' : Nat → Nat → Int := fun i => if i = cnt then d else D i
    let C' : Nat → Nat → Int := fun i => if i = cnt then c else C i
    refine ⟨p, r, cnt + 1, num', early', D', C', bc, cn, pc, rowc, rv, sz, en, ⟨h1, h2, ⟨?_, ?_, fun e he => ?_⟩, ?_, ?_, ?_, by omega, fun n hn => ?_⟩, ?_, ?_, ?_⟩
    · rw [gS.1 _ _ (by omega) (by omega) (by omega) (by omega) (by omega)]; exact n1
    · rw [gS.1 _ _ (by omega) (by omega) (by omega) (by omega) (by omega)]; exact n2
    · rw [gS.2 _ _ (by omega) (by omega) (by omega) (by omega)]; exact n3 e he
    · rw [gT.1 _ _ (by omega) (by omega) (by omega) (by omega) (by omega) (by omega) (by omega)]; exact h4
    · rw [← hS']; exact rIs
    · rw [← hT']; exact rIs
    · by_cases hnc : n = cnt
      · subst hnc
        have q : num' n = y ∧ early' n = y ∧ D' n = d ∧ C' n = c := ⟨if_pos rfl, if_pos rfl, if_pos rfl, if_pos rfl⟩
        have w : ∀ i : Nat, i < n → num' i = num i := fun i hi => if_neg (by omega)
        unfold RN1
        rw [q.1, q.2.1, q.2.2.1, q.2.2.2]
        refine ⟨⟨?_, ?_, ?_⟩, ⟨?_, ?_, ?_⟩, wy, ⟨?_, ?_, ?_⟩, wy, Rf.refl wy, ?_, ?_, pre_congr hd (fun i hi => ⟨(nums i hi).2.2, w i hi⟩), dy_congr hd dy w, hl⟩
        · rw [← hS']; unfold setC; simp (disch := omega) only [rIs, rIn, rIJ, rJs, rJn, rJI]
        · rw [← hS']; unfold setC; simp (disch := omega) only [rIs, rIn, rIJ, rJs, rJn, rJI]
        · rw [← hS']; unfold setC; simp (disch := omega) only [rIs, rIn, rIJ, rJs, rJn, rJI]
        · rw [← hT']; unfold setM; simp (disch := omega) only [rIs, rIn, rIJ, rJs, rJn, rJI]
        · rw [← hT']; unfold setM; simp (disch := omega) only [rIs, rIn, rIJ, rJs, rJn, rJI]
        · rw [← hT']; unfold setM; simp (disch := omega) only [rIs, rIn, rIJ, rJs, rJn, rJI]
        · rw [← hS']; simp (disch := omega) only [rIs, rIn, rIJ, rJs, rJn, rJI]
        · rw [← hS']; simp (disch := omega) only [rIs, rIn, rIJ, rJs, rJn, rJI]
        · rw [← hS']; simp (disch := omega) only [rIs, rIn, rIJ, rJs, rJn, rJI]
        · obtain ⟨t1, t2, t3⟩ := hC
          refine ⟨fun j hj => ?_, fun k => ?_, fun k j hj => ?_⟩
          · rw [← hS']; unfold setC; simp (disch := omega) only [rIs, rIn, rIJ, rJs, rJn, rJI]; exact t1 j hj
          · obtain ⟨cc, a, b, e⟩ := t2 k
            obtain ⟨i1, i2⟩ := hd.f7 k
            refine ⟨cc, fun j hj => ?_, b, e⟩
            rw [← hS']; unfold setC; simp (disch := omega) only [rIs, rIn, rIJ, rJs, rJn, rJI]; exact a j hj
          · rw [← hS']; unfold setC; simp (disch := omega) only [rIs, rIn, rIJ, rJs, rJn, rJI]; exact t3 k j hj
        · obtain ⟨t1, t2, t3, t4, t5, t6⟩ := hM
          have e : ∀ o i : Nat, o = 3 ∨ o = 4 ∨ o = 5 ∨ o = 6 ∨ o = 7 ∨ o = 10 ∨ o = 11 → T'.1 o i = T1.1 o i := fun o i ho => by
            rw [← hT']; unfold setM setF; simp (disch := omega) only [rIs, rIn, rIJ, rJs, rJn, rJI]
          refine ⟨?_, fun k => ?_, fun k k' => ?_, fun k k' => ?_, fun k => ?_, fun k => ?_⟩
          · rw [e _ _ (by omega)]; exact t1
          · rw [e _ _ (by omega), e _ _ (by omega), e _ _ (by omega)]; exact t2 k
          · rw [e _ _ (by omega)]; exact t3 k k'
          · rw [e _ _ (by omega)]; exact t4 k k'
          · rw [e _ _ (by omega), e _ _ (by omega)]
            exact ⟨(t5 k).1, (t5 k).2.1, fun j hj => by rw [e _ _ (by omega)]; exact (t5 k).2.2 j hj⟩
          · rw [e _ _ (by omega)]
            exact ⟨(t6 k).1, fun j hj => by rw [e _ _ (by omega)]; exact (t6 k).2 j hj⟩
      · have hn2 : n < cnt := by omega
        have q : num' n = num n ∧ early' n = early n ∧ D' n = D n ∧ C' n = C n := ⟨if_neg hnc, if_neg hnc, if_neg hnc, if_neg hnc⟩
        have w : ∀ i : Nat, i < n → num' i = num i := fun i hi => if_neg (by omega)
        obtain ⟨⟨a1, a2, a3⟩, ⟨b1, b2, b3⟩, a4, ⟨e1, e2, e3⟩, a5, a6, a7, a8, a9, a10, a11⟩ := h8 n hn2
        unfold RN1
        rw [q.1, q.2.1, q.2.2.1, q.2.2.2]
        refine ⟨⟨?_, ?_, ?_⟩, ⟨?_, ?_, ?_⟩, a4, ⟨?_, ?_, ?_⟩, a5, a6, ?_, ?_, pre_congr a9 (fun i hi => ⟨(nums i (by omega)).2.2, w i hi⟩), dy_congr a9 a10 w, a11⟩
        · rw [gS.1 _ _ (by omega) (by omega) (by omega) (by omega) (by omega)]; exact a1
        · rw [gS.1 _ _ (by omega) (by omega) (by omega) (by omega) (by omega)]; exact a2
        · rw [gS.2 _ _ (by omega) (by omega) (by omega) (by omega)]; exact a3
        · rw [gT.1 _ _ (by omega) (by omega) (by omega) (by omega) (by omega) (by omega) (by omega)]; exact b1
        · rw [gT.1 _ _ (by omega) (by omega) (by omega) (by omega) (by omega) (by omega) (by omega)]; exact b2
        · rw [gT.2 _ _ (by omega) (by omega)]; exact b3
        · rw [gS.1 _ _ (by omega) (by omega) (by omega) (by omega) (by omega)]; exact e1
        · rw [gS.1 _ _ (by omega) (by omega) (by omega) (by omega) (by omega)]; exact e2
        · rw [gS.2 _ _ (by omega) (by omega) (by omega) (by omega)]; exact e3
        · refine dc_fn (S := wI S 1 3 (ji (cnt + 1 : Nat))) (m := cnt) ⟨fun o i g1 g2 g3 g4 => ?_, fun o i g1 g2 g3 g4 => ?_⟩ hnc (by omega) hc a9.f7 ?_
          · by_cases ho : o = 1 ∧ i = 3
            · obtain ⟨rfl, rfl⟩ := ho
              rw [rIs, ← hS']; exact rIs
            · rw [gS.1 o i g1 g2 g3 ho g4, rIn ho]
          · exact gS.2 o i g1 g2 g3 g4
          · obtain ⟨t1, t2, t3⟩ := a7
            refine ⟨fun j hj => by simp (disch := omega) only [rIs, rIn, rIJ, rJs, rJn, rJI]; exact t1 j hj, fun k => ?_, fun k j hj => by simp (disch := omega) only [rIs, rIn, rIJ, rJs, rJn, rJI]; exact t3 k j hj⟩
            obtain ⟨cc, a, b, e⟩ := t2 k
            exact ⟨cc, fun j hj => by simp (disch := omega) only [rIs, rIn, rIJ, rJs, rJn, rJI]; exact a j hj, b, e⟩
        · refine dm_fn (T := wI T 0 19 (ji (cnt + 1 : Nat))) (m := cnt) ⟨fun o i g1 g2 g3 g4 g5 g6 g7 => ?_, fun o i g1 g2 => gT.2 o i g1 g2⟩ hnc a9.f8 ?_
          · by_cases ho : o = 0 ∧ i = 19
            · obtain ⟨rfl, rfl⟩ := ho
              rw [rIs, ← hT']; exact rIs
            · rw [gT.1 o i g1 g2 g3 (by omega) g5 g6 g7, rIn ho]
          · obtain ⟨t1, t2, t3, t4, t5, t6⟩ := a8
            refine ⟨by simp (disch := omega) only [rIs, rIn, rIJ, rJs, rJn, rJI]; exact t1, fun k => by simp (disch := omega) only [rIs, rIn, rIJ, rJs, rJn, rJI]; exact t2 k, fun k k' => by simp (disch := omega) only [rIs, rIn, rIJ, rJs, rJn, rJI]; exact t3 k k', fun k k' => by simp (disch := omega) only [rIs, rIn, rIJ, rJs, rJn, rJI]; exact t4 k k', fun k => ?_, fun k => ?_⟩
            · obtain ⟨u1, u2, u3⟩ := t5 k
              exact ⟨by simp (disch := omega) only [rIs, rIn, rIJ, rJs, rJn, rJI]; exact u1, by simp (disch := omega) only [rIs, rIn, rIJ, rJs, rJn, rJI]; exact u2, fun j hj => by simp (disch := omega) only [rIs, rIn, rIJ, rJs, rJn, rJI]; exact u3 j hj⟩
            · obtain ⟨u1, u2⟩ := t6 k
              exact ⟨by simp (disch := omega) only [rIs, rIn, rIJ, rJs, rJn, rJI]; exact u1, fun j hj => by simp (disch := omega) only [rIs, rIn, rIJ, rJs, rJn, rJI]; exact u2 j hj⟩
    · obtain ⟨t1, t2, t3, t4, t5, t6⟩ := hP
      refine ⟨?_, ?_, t3, fun f hf => ⟨fun j hj => ?_, (t4 f hf).2.1, fun j hj => ?_⟩, fun f hf => ?_, t6⟩
      · rw [gS.1 _ _ (by omega) (by omega) (by omega) (by omega) (by omega)]; exact t1
      · rw [gT.1 _ _ (by omega) (by omega) (by omega) (by omega) (by omega) (by omega) (by omega)]; exact t2
      · rw [gS.1 _ _ (by omega) (by omega) (by omega) (by omega) (by omega)]; exact (t4 f hf).1 j hj
      · rw [gT.1 _ _ (by omega) (by omega) (by omega) (by omega) (by omega) (by omega) (by omega)]; exact (t4 f hf).2.2 j hj
      · rw [gS.1 _ _ (by omega) (by omega) (by omega) (by omega) (by omega), gT.1 _ _ (by omega) (by omega) (by omega) (by omega) (by omega) (by omega) (by omega)]; exact t5 f hf
    · obtain ⟨t1, t2, t3, t4, t5⟩ := hR
      refine ⟨?_, ?_, t3, t4, fun j hj => ?_⟩
      · rw [gS.1 _ _ (by omega) (by omega) (by omega) (by omega) (by omega)]; exact t1
      · rw [gT.1 _ _ (by omega) (by omega) (by omega) (by omega) (by omega) (by omega) (by omega)]; exact t2
      · rw [gS.1 _ _ (by omega) (by omega) (by omega) (by omega) (by omega), gT.1 _ _ (by omega) (by omega) (by omega) (by omega) (by omega) (by omega) (by omega)]; exact t5 j hj
    · obtain ⟨t1, t2, t3, t4, t5⟩ := hX
      refine ⟨?_, ?_, t3, t4, fun j hj => ?_⟩
      · rw [gS.1 _ _ (by omega) (by omega) (by omega) (by omega) (by omega)]; exact t1
      · rw [gT.1 _ _ (by omega) (by omega) (by omega) (by omega) (by omega) (by omega) (by omega)]; exact t2
      · rw [gS.1 _ _ (by omega) (by omega) (by omega) (by omega) (by omega), gT.1 _ _ (by omega) (by omega) (by omega) (by omega) (by omega) (by omega) (by omega)]; exact t5 j hj
  · unfold setM setF
    simp (disch := omega) only [rIs, rIn, rIJ, rJs, rJn, rJI]
