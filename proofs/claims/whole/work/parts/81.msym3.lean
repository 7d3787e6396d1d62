theorem told_y {a : Int} (ha : a ≠ 0 ∧ -10000 ≤ a ∧ a ≤ 10000) : f_X10_isTold (ji a) = some (ji 1) := by
  unfold f_X10_isTold
  rw [lm10000, l10000]
  simp (disch := omega) only [i0, i1, i2, i3, i4, i5, i6, i7, i8, i12, i16, i20, i30, i39, i40, i60, i64, i97, i100, i256, i1000, i10000, im1, im20, im60, l0, l1, l2, l3, l4, l5, l8, l10000, l1e9, lm10000, jl_add, jl_sub, jl_mul, jl_neg, ji_add, ji_sub, ji_mul, ji_neg, ji_l, jl_i, rL_n, rI_n, dL_n, dI_n, mnI_j, mxI_j, ji_nat, rest_j, part_n, whole_j, times_j, kc_0, kc_gt, kc_lt, kc_le, kc_ge, ji_lt, ji_le, ji_inj, jl_inj, jl_lt, jl_le, b1s, b2s, bEs, bEe, rIs, rIn, rIJ, rJs, rJn, rJI, ifp, ifn, if_true, if_false, isIn_y]
theorem told_n {a : Int} (hr : -2147483648 ≤ a ∧ a < 2147483648) (ha : ¬ (a ≠ 0 ∧ -10000 ≤ a ∧ a ≤ 10000)) : f_X10_isTold (ji a) = some (ji 0) := by
  unfold f_X10_isTold
  rw [lm10000, l10000]
  by_cases h : -10000 ≤ a ∧ a ≤ 10000
  · simp (disch := omega) only [i0, i1, i2, i3, i4, i5, i6, i7, i8, i12, i16, i20, i30, i39, i40, i60, i64, i97, i100, i256, i1000, i10000, im1, im20, im60, l0, l1, l2, l3, l4, l5, l8, l10000, l1e9, lm10000, jl_add, jl_sub, jl_mul, jl_neg, ji_add, ji_sub, ji_mul, ji_neg, ji_l, jl_i, rL_n, rI_n, dL_n, dI_n, mnI_j, mxI_j, ji_nat, rest_j, part_n, whole_j, times_j, kc_0, kc_gt, kc_lt, kc_le, kc_ge, ji_lt, ji_le, ji_inj, jl_inj, jl_lt, jl_le, b1s, b2s, bEs, bEe, rIs, rIn, rIJ, rJs, rJn, rJI, ifp, ifn, if_true, if_false, isIn_y]
  · simp (disch := omega) only [i0, i1, i2, i3, i4, i5, i6, i7, i8, i12, i16, i20, i30, i39, i40, i60, i64, i97, i100, i256, i1000, i10000, im1, im20, im60, l0, l1, l2, l3, l4, l5, l8, l10000, l1e9, lm10000, jl_add, jl_sub, jl_mul, jl_neg, ji_add, ji_sub, ji_mul, ji_neg, ji_l, jl_i, rL_n, rI_n, dL_n, dI_n, mnI_j, mxI_j, ji_nat, rest_j, part_n, whole_j, times_j, kc_0, kc_gt, kc_lt, kc_le, kc_ge, ji_lt, ji_le, ji_inj, jl_inj, jl_lt, jl_le, b1s, b2s, bEs, bEe, rIs, rIn, rIJ, rJs, rJn, rJI, ifp, ifn, if_true, if_false, isIn_n]
theorem T_symbol {S T : St} (h : Rel S T) (a b c : Int32) : AnR [(1, 1)] S (f_X9_symbol a b c S) (f_X10_symbol a b c T) := by
  obtain ⟨a, rfl, ha⟩ := ji_ex a
  obtain ⟨b, rfl, hb⟩ := ji_ex b
  obtain ⟨c, rfl, hc⟩ := ji_ex c
  have bad : ∀ x y, x = some (.error 1 : Except Nat Int32) → y = some (ji 0, th T 1) → AnR [(1, 1)] S x y := by
    rintro x y rfl rfl
    exact ⟨th T 1, _, rfl, rel_fr h (FrS.refl S) th_fr, Or.inr ⟨(1, 1), by simp, rfl, th_17⟩⟩
  by_cases ga : a ≠ 0 ∧ -10000 ≤ a ∧ a ≤ 10000
  · by_cases gb : b ≠ 0 ∧ -10000 ≤ b ∧ b ≤ 10000
    · have na := needZ_y ga
      have nb := needZ_y gb
      have ta := told_y ga
      have tb := told_y gb
      by_cases gc : c = 0 ∨ (2 ≤ c ∧ c ≤ 10000 ∧ isP c.toNat = 1)
      · have gq : c = 0 ∨ (2 ≤ c ∧ c ≤ 10000 ∧ (c = 2 ∨ c % 2 = 1)) := by
          rcases gc with q | ⟨q1, q2, q3⟩
          · exact Or.inl q
          · refine Or.inr ⟨q1, q2, ?_⟩
            by_cases h2 : c = 2
            · exact Or.inl h2
            · have := isP_odd q3 (by omega)
              omega
        obtain ⟨v, v1, v2, v3⟩ := signBoth ga gb gq
        have kC : f_X9_symbol (ji a) (ji b) (ji c) S = some (.ok (ji v)) := by
          unfold f_X9_symbol n_X9_symbol_37
          rcases gc with q | ⟨q1, q2, q3⟩
          · subst q
            simp (disch := omega) only [i0, i1, i2, i3, i4, i5, i6, i7, i8, i12, i16, i20, i30, i39, i40, i60, i64, i97, i100, i256, i1000, i10000, im1, im20, im60, l0, l1, l2, l3, l4, l5, l8, l10000, l1e9, lm10000, jl_add, jl_sub, jl_mul, jl_neg, ji_add, ji_sub, ji_mul, ji_neg, ji_l, jl_i, rL_n, rI_n, dL_n, dI_n, mnI_j, mxI_j, ji_nat, rest_j, part_n, whole_j, times_j, kc_0, kc_gt, kc_lt, kc_le, kc_ge, ji_lt, ji_le, ji_inj, jl_inj, jl_lt, jl_le, b1s, b2s, bEs, bEe, rIs, rIn, rIJ, rJs, rJn, rJI, ifp, ifn, if_true, if_false, na, nb, needW_y, v2]
          · have pr := primeC (n := c) (by omega)
            rw [q3] at pr
            simp (disch := omega) only [i0, i1, i2, i3, i4, i5, i6, i7, i8, i12, i16, i20, i30, i39, i40, i60, i64, i97, i100, i256, i1000, i10000, im1, im20, im60, l0, l1, l2, l3, l4, l5, l8, l10000, l1e9, lm10000, jl_add, jl_sub, jl_mul, jl_neg, ji_add, ji_sub, ji_mul, ji_neg, ji_l, jl_i, rL_n, rI_n, dL_n, dI_n, mnI_j, mxI_j, ji_nat, rest_j, part_n, whole_j, times_j, kc_0, kc_gt, kc_lt, kc_le, kc_ge, ji_lt, ji_le, ji_inj, jl_inj, jl_lt, jl_le, b1s, b2s, bEs, bEe, rIs, rIn, rIJ, rJs, rJn, rJI, ifp, ifn, if_true, if_false, na, nb, needW_y, v2, pr]
        have kM : f_X10_symbol (ji a) (ji b) (ji c) T = some (ji v, th T 0) := by
          unfold f_X10_symbol n_X10_symbol_45
          rw [l10000, l2]
          rcases gc with q | ⟨q1, q2, q3⟩
          · subst q
            simp (disch := omega) only [i0, i1, i2, i3, i4, i5, i6, i7, i8, i12, i16, i20, i30, i39, i40, i60, i64, i97, i100, i256, i1000, i10000, im1, im20, im60, l0, l1, l2, l3, l4, l5, l8, l10000, l1e9, lm10000, jl_add, jl_sub, jl_mul, jl_neg, ji_add, ji_sub, ji_mul, ji_neg, ji_l, jl_i, rL_n, rI_n, dL_n, dI_n, mnI_j, mxI_j, ji_nat, rest_j, part_n, whole_j, times_j, kc_0, kc_gt, kc_lt, kc_le, kc_ge, ji_lt, ji_le, ji_inj, jl_inj, jl_lt, jl_le, b1s, b2s, bEs, bEe, rIs, rIn, rIJ, rJs, rJn, rJI, ifp, ifn, if_true, if_false, ta, tb, noY, v3]
          · have pr := primeM (n := c) (by omega)
            rw [q3, show ((1 : Nat) : Int) = 1 from rfl] at pr
            simp (disch := omega) only [i0, i1, i2, i3, i4, i5, i6, i7, i8, i12, i16, i20, i30, i39, i40, i60, i64, i97, i100, i256, i1000, i10000, im1, im20, im60, l0, l1, l2, l3, l4, l5, l8, l10000, l1e9, lm10000, jl_add, jl_sub, jl_mul, jl_neg, ji_add, ji_sub, ji_mul, ji_neg, ji_l, jl_i, rL_n, rI_n, dL_n, dI_n, mnI_j, mxI_j, ji_nat, rest_j, part_n, whole_j, times_j, kc_0, kc_gt, kc_lt, kc_le, kc_ge, ji_lt, ji_le, ji_inj, jl_inj, jl_lt, jl_le, b1s, b2s, bEs, bEe, rIs, rIn, rIJ, rJs, rJn, rJI, ifp, ifn, if_true, if_false, ta, tb, noY, isIn_y, v3, pr]
        rw [kC, kM]
        exact ⟨th T 0, _, rfl, rel_fr h (FrS.refl S) th_fr, Or.inl ⟨rfl, th_17⟩⟩
      · have n0 : ¬ c = 0 := fun q => gc (Or.inl q)
        refine bad _ _ ?_ ?_
        · unfold f_X9_symbol
          by_cases g1 : 0 ≤ c ∧ c ≤ 10000
          · have pr := primeC (n := c) (by omega)
            have : isP c.toNat = 0 := by
              rcases isP_01 c.toNat with q | q
              · exact q
              · refine absurd (Or.inr ⟨?_, g1.2, q⟩) gc
                apply Int.le_of_not_gt
                intro x
                have : c = 1 := by omega
                subst this
                exact absurd q (by decide)
            rw [this, show ((0 : Nat) : Int) = 0 from rfl] at pr
            simp (disch := omega) only [i0, i1, i2, i3, i4, i5, i6, i7, i8, i12, i16, i20, i30, i39, i40, i60, i64, i97, i100, i256, i1000, i10000, im1, im20, im60, l0, l1, l2, l3, l4, l5, l8, l10000, l1e9, lm10000, jl_add, jl_sub, jl_mul, jl_neg, ji_add, ji_sub, ji_mul, ji_neg, ji_l, jl_i, rL_n, rI_n, dL_n, dI_n, mnI_j, mxI_j, ji_nat, rest_j, part_n, whole_j, times_j, kc_0, kc_gt, kc_lt, kc_le, kc_ge, ji_lt, ji_le, ji_inj, jl_inj, jl_lt, jl_le, b1s, b2s, bEs, bEe, rIs, rIn, rIJ, rJs, rJn, rJI, ifp, ifn, if_true, if_false, na, nb, needW_y, pr]
          · simp (disch := omega) only [i0, i1, i2, i3, i4, i5, i6, i7, i8, i12, i16, i20, i30, i39, i40, i60, i64, i97, i100, i256, i1000, i10000, im1, im20, im60, l0, l1, l2, l3, l4, l5, l8, l10000, l1e9, lm10000, jl_add, jl_sub, jl_mul, jl_neg, ji_add, ji_sub, ji_mul, ji_neg, ji_l, jl_i, rL_n, rI_n, dL_n, dI_n, mnI_j, mxI_j, ji_nat, rest_j, part_n, whole_j, times_j, kc_0, kc_gt, kc_lt, kc_le, kc_ge, ji_lt, ji_le, ji_inj, jl_inj, jl_lt, jl_le, b1s, b2s, bEs, bEe, rIs, rIn, rIJ, rJs, rJn, rJI, ifp, ifn, if_true, if_false, na, nb, needW_n]
        · unfold f_X10_symbol n_X10_symbol_45
          rw [l10000, l2]
          by_cases g1 : 2 ≤ c ∧ c ≤ 10000
          · have pr := primeM (n := c) (by omega)
            have : isP c.toNat = 0 := by
              rcases isP_01 c.toNat with q | q
              · exact q
              · exact absurd (Or.inr ⟨g1.1, g1.2, q⟩) gc
            rw [this, show ((0 : Nat) : Int) = 0 from rfl] at pr
            simp (disch := omega) only [i0, i1, i2, i3, i4, i5, i6, i7, i8, i12, i16, i20, i30, i39, i40, i60, i64, i97, i100, i256, i1000, i10000, im1, im20, im60, l0, l1, l2, l3, l4, l5, l8, l10000, l1e9, lm10000, jl_add, jl_sub, jl_mul, jl_neg, ji_add, ji_sub, ji_mul, ji_neg, ji_l, jl_i, rL_n, rI_n, dL_n, dI_n, mnI_j, mxI_j, ji_nat, rest_j, part_n, whole_j, times_j, kc_0, kc_gt, kc_lt, kc_le, kc_ge, ji_lt, ji_le, ji_inj, jl_inj, jl_lt, jl_le, b1s, b2s, bEs, bEe, rIs, rIn, rIJ, rJs, rJn, rJI, ifp, ifn, if_true, if_false, ta, tb, isIn_y, pr, noN1]
          · simp (disch := omega) only [i0, i1, i2, i3, i4, i5, i6, i7, i8, i12, i16, i20, i30, i39, i40, i60, i64, i97, i100, i256, i1000, i10000, im1, im20, im60, l0, l1, l2, l3, l4, l5, l8, l10000, l1e9, lm10000, jl_add, jl_sub, jl_mul, jl_neg, ji_add, ji_sub, ji_mul, ji_neg, ji_l, jl_i, rL_n, rI_n, dL_n, dI_n, mnI_j, mxI_j, ji_nat, rest_j, part_n, whole_j, times_j, kc_0, kc_gt, kc_lt, kc_le, kc_ge, ji_lt, ji_le, ji_inj, jl_inj, jl_lt, jl_le, b1s, b2s, bEs, bEe, rIs, rIn, rIJ, rJs, rJn, rJI, ifp, ifn, if_true, if_false, ta, tb, isIn_n, noN1]
    · have na := needZ_y ga
      have nb := needZ_n hb gb
      have ta := told_y ga
      have tb := told_n hb gb
      refine bad _ _ ?_ ?_
      · unfold f_X9_symbol
        simp (disch := omega) only [i0, i1, i2, i3, i4, i5, i6, i7, i8, i12, i16, i20, i30, i39, i40, i60, i64, i97, i100, i256, i1000, i10000, im1, im20, im60, l0, l1, l2, l3, l4, l5, l8, l10000, l1e9, lm10000, jl_add, jl_sub, jl_mul, jl_neg, ji_add, ji_sub, ji_mul, ji_neg, ji_l, jl_i, rL_n, rI_n, dL_n, dI_n, mnI_j, mxI_j, ji_nat, rest_j, part_n, whole_j, times_j, kc_0, kc_gt, kc_lt, kc_le, kc_ge, ji_lt, ji_le, ji_inj, jl_inj, jl_lt, jl_le, b1s, b2s, bEs, bEe, rIs, rIn, rIJ, rJs, rJn, rJI, ifp, ifn, if_true, if_false, na, nb]
      · unfold f_X10_symbol n_X10_symbol_45
        simp (disch := omega) only [i0, i1, i2, i3, i4, i5, i6, i7, i8, i12, i16, i20, i30, i39, i40, i60, i64, i97, i100, i256, i1000, i10000, im1, im20, im60, l0, l1, l2, l3, l4, l5, l8, l10000, l1e9, lm10000, jl_add, jl_sub, jl_mul, jl_neg, ji_add, ji_sub, ji_mul, ji_neg, ji_l, jl_i, rL_n, rI_n, dL_n, dI_n, mnI_j, mxI_j, ji_nat, rest_j, part_n, whole_j, times_j, kc_0, kc_gt, kc_lt, kc_le, kc_ge, ji_lt, ji_le, ji_inj, jl_inj, jl_lt, jl_le, b1s, b2s, bEs, bEe, rIs, rIn, rIJ, rJs, rJn, rJI, ifp, ifn, if_true, if_false, ta, tb, noN1]
  · have na := needZ_n ha ga
    have ta := told_n ha ga
    refine bad _ _ ?_ ?_
    · unfold f_X9_symbol
      simp (disch := omega) only [i0, i1, i2, i3, i4, i5, i6, i7, i8, i12, i16, i20, i30, i39, i40, i60, i64, i97, i100, i256, i1000, i10000, im1, im20, im60, l0, l1, l2, l3, l4, l5, l8, l10000, l1e9, lm10000, jl_add, jl_sub, jl_mul, jl_neg, ji_add, ji_sub, ji_mul, ji_neg, ji_l, jl_i, rL_n, rI_n, dL_n, dI_n, mnI_j, mxI_j, ji_nat, rest_j, part_n, whole_j, times_j, kc_0, kc_gt, kc_lt, kc_le, kc_ge, ji_lt, ji_le, ji_inj, jl_inj, jl_lt, jl_le, b1s, b2s, bEs, bEe, rIs, rIn, rIJ, rJs, rJn, rJI, ifp, ifn, if_true, if_false, na]
    · unfold f_X10_symbol n_X10_symbol_45
      simp (disch := omega) only [i0, i1, i2, i3, i4, i5, i6, i7, i8, i12, i16, i20, i30, i39, i40, i60, i64, i97, i100, i256, i1000, i10000, im1, im20, im60, l0, l1, l2, l3, l4, l5, l8, l10000, l1e9, lm10000, jl_add, jl_sub, jl_mul, jl_neg, ji_add, ji_sub, ji_mul, ji_neg, ji_l, jl_i, rL_n, rI_n, dL_n, dI_n, mnI_j, mxI_j, ji_nat, rest_j, part_n, whole_j, times_j, kc_0, kc_gt, kc_lt, kc_le, kc_ge, ji_lt, ji_le, ji_inj, jl_inj, jl_lt, jl_le, b1s, b2s, bEs, bEe, rIs, rIn, rIJ, rJs, rJn, rJI, ifp, ifn, if_true, if_false, ta, noN1]
def obst (q : Nat) (a b : Int) : Prop := q = 0 ∨ (isP q = 1 ∧ (q = 2 ∨ a % q = 0 ∨ b % q = 0))
theorem obst_loop {T : St} {a b : Int} (ha : a ≠ 0 ∧ -10000 ≤ a ∧ a ≤ 10000) (hb : b ≠ 0 ∧ -10000 ≤ b ∧ b ≤ 10000) : ∀ (N k : Nat), k ≤ 10001 → 10001 - k < N → ∃ v : Int, (-1 ≤ v ∧ v ≤ 10000) ∧ itr (fun (q : Int32 × Int32 × Int32 × Int32) k => s_X7_firstMinus_2 (fun (x0 : Int32) (x1 : Int32) (x2 : Int32) (x3 : Int32) => k (x0, x1, x2, x3)) q.1 q.2.1 q.2.2.1 q.2.2.2) N (ji a, ji b, ji 10000, ji k) = some (ji v) ∧
      itr (fun (q : Int32 × Int32 × Int32 × St) k => s_X10_obstacle_31 (fun (x1 : Int32) (x2 : Int32) (x3 : Int32) (S : St) => k (x1, x2, x3, S)) q.1 q.2.1 q.2.2.1 q.2.2.2) N (ji a, ji b, ji k, T) = some (if 0 ≤ v then (ji v, T) else (ji 0, wI T 0 17 (ji 2)))
  | 0, _, _, h => absurd h (Nat.not_lt_zero _)
  | N + 1, k, hk, hN => by
    rw [itrS, itrS]
    have IH := obst_loop (T := T) ha hb N (k + 1)
    generalize itr (fun (q : Int32 × Int32 × Int32 × Int32) k => s_X7_firstMinus_2 (fun (x0 : Int32) (x1 : Int32) (x2 : Int32) (x3 : Int32) => k (x0, x1, x2, x3)) q.1 q.2.1 q.2.2.1 q.2.2.2) N = K1 at IH
    generalize itr (fun (q : Int32 × Int32 × Int32 × St) k => s_X10_obstacle_31 (fun (x1 : Int32) (x2 : Int32) (x3 : Int32) (S : St) => k (x1, x2, x3, S)) q.1 q.2.1 q.2.2.1 q.2.2.2) N = K2 at IH
    show ∃ v : Int, (-1 ≤ v ∧ v ≤ 10000) ∧ s_X7_firstMinus_2 (fun (x0 : Int32) (x1 : Int32) (x2 : Int32) (x3 : Int32) => K1 (x0, x1, x2, x3)) (ji a) (ji b) (ji 10000) (ji k) = some (ji v) ∧ s_X10_obstacle_31 (fun (x1 : Int32) (x2 : Int32) (x3 : Int32) (S : St) => K2 (x1, x2, x3, S)) (ji a) (ji b) (ji k) T = _
    by_cases hk1 : k = 10001
    · subst hk1
      refine ⟨-1, by omega, ?_, ?_⟩
      · unfold s_X7_firstMinus_2
        simp (disch := omega) only [i0, i1, i2, i3, i4, i5, i6, i7, i8, i12, i16, i20, i30, i39, i40, i60, i64, i97, i100, i256, i1000, i10000, im1, im20, im60, l0, l1, l2, l3, l4, l5, l8, l10000, l1e9, lm10000, jl_add, jl_sub, jl_mul, jl_neg, ji_add, ji_sub, ji_mul, ji_neg, ji_l, jl_i, rL_n, rI_n, dL_n, dI_n, mnI_j, mxI_j, ji_nat, rest_j, part_n, whole_j, times_j, kc_0, kc_gt, kc_lt, kc_le, kc_ge, ji_lt, ji_le, ji_inj, jl_inj, jl_lt, jl_le, b1s, b2s, bEs, bEe, rIs, rIn, rIJ, rJs, rJn, rJI, ifp, ifn, if_true, if_false]
      · rw [if_neg (by omega)]
        unfold s_X10_obstacle_31
        simp (disch := omega) only [i0, i1, i2, i3, i4, i5, i6, i7, i8, i12, i16, i20, i30, i39, i40, i60, i64, i97, i100, i256, i1000, i10000, im1, im20, im60, l0, l1, l2, l3, l4, l5, l8, l10000, l1e9, lm10000, jl_add, jl_sub, jl_mul, jl_neg, ji_add, ji_sub, ji_mul, ji_neg, ji_l, jl_i, rL_n, rI_n, dL_n, dI_n, mnI_j, mxI_j, ji_nat, rest_j, part_n, whole_j, times_j, kc_0, kc_gt, kc_lt, kc_le, kc_ge, ji_lt, ji_le, ji_inj, jl_inj, jl_lt, jl_le, b1s, b2s, bEs, bEe, rIs, rIn, rIJ, rJs, rJn, rJI, ifp, ifn, if_true, if_false]
    · obtain ⟨v, v1, v2, v3⟩ := IH (by omega) (by omega)
      have skip : (f_X8_isPrime (ji k) = some (ji 0) ∧ f_X10_isPrime (ji k) = some (ji 0) ∧ k ≠ 0) ∨ (f_X8_isPrime (ji k) = some (ji 1) ∧ f_X10_isPrime (ji k) = some (ji 1) ∧ isP k = 1) ∨ k = 0 := by
        by_cases h0 : k = 0
        · exact Or.inr (Or.inr h0)
        · have p1 := primeC (n := (k : Int)) (by omega)
          have p2 := primeM (n := (k : Int)) (by omega)
          rw [Int.toNat_natCast] at p1 p2
          rcases isP_01 k with q | q
          · rw [q] at p1 p2
            exact Or.inl ⟨p1, p2, h0⟩
          · rw [q] at p1 p2
            exact Or.inr (Or.inl ⟨p1, p2, q⟩)
      have nx1 : ((k : Int) + 1) = ((k + 1 : Nat) : Int) := by omega
      rcases skip with ⟨p1, p2, hk0⟩ | ⟨p1, p2, hp⟩ | hk0
      · -- no prime
        have ga := emod_rng (a := a) (show (0 : Int) < k by omega)
        have gb := emod_rng (a := b) (show (0 : Int) < k by omega)
        refine ⟨v, v1, ?_, ?_⟩
        · unfold s_X7_firstMinus_2 n_X7_firstMinus_45
          by_cases h2 : k = 2
          · subst h2
            exact absurd (p1.symm.trans (primeC (n := ((2 : Nat) : Int)) (by omega))) (by decide)
          · by_cases h3 : a % k = 0
            · simp (disch := omega) only [i0, i1, i2, i3, i4, i5, i6, i7, i8, i12, i16, i20, i30, i39, i40, i60, i64, i97, i100, i256, i1000, i10000, im1, im20, im60, l0, l1, l2, l3, l4, l5, l8, l10000, l1e9, lm10000, jl_add, jl_sub, jl_mul, jl_neg, ji_add, ji_sub, ji_mul, ji_neg, ji_l, jl_i, rL_n, rI_n, dL_n, dI_n, mnI_j, mxI_j, ji_nat, rest_j, part_n, whole_j, times_j, kc_0, kc_gt, kc_lt, kc_le, kc_ge, ji_lt, ji_le, ji_inj, jl_inj, jl_lt, jl_le, b1s, b2s, bEs, bEe, rIs, rIn, rIJ, rJs, rJn, rJI, ifp, ifn, if_true, if_false, h3, p1]
              rw [nx1]; exact v2
            · by_cases h4 : b % k = 0
              · simp (disch := omega) only [i0, i1, i2, i3, i4, i5, i6, i7, i8, i12, i16, i20, i30, i39, i40, i60, i64, i97, i100, i256, i1000, i10000, im1, im20, im60, l0, l1, l2, l3, l4, l5, l8, l10000, l1e9, lm10000, jl_add, jl_sub, jl_mul, jl_neg, ji_add, ji_sub, ji_mul, ji_neg, ji_l, jl_i, rL_n, rI_n, dL_n, dI_n, mnI_j, mxI_j, ji_nat, rest_j, part_n, whole_j, times_j, kc_0, kc_gt, kc_lt, kc_le, kc_ge, ji_lt, ji_le, ji_inj, jl_inj, jl_lt, jl_le, b1s, b2s, bEs, bEe, rIs, rIn, rIJ, rJs, rJn, rJI, ifp, ifn, if_true, if_false, h4, p1]
                rw [nx1]; exact v2
              · simp (disch := omega) only [i0, i1, i2, i3, i4, i5, i6, i7, i8, i12, i16, i20, i30, i39, i40, i60, i64, i97, i100, i256, i1000, i10000, im1, im20, im60, l0, l1, l2, l3, l4, l5, l8, l10000, l1e9, lm10000, jl_add, jl_sub, jl_mul, jl_neg, ji_add, ji_sub, ji_mul, ji_neg, ji_l, jl_i, rL_n, rI_n, dL_n, dI_n, mnI_j, mxI_j, ji_nat, rest_j, part_n, whole_j, times_j, kc_0, kc_gt, kc_lt, kc_le, kc_ge, ji_lt, ji_le, ji_inj, jl_inj, jl_lt, jl_le, b1s, b2s, bEs, bEe, rIs, rIn, rIJ, rJs, rJn, rJI, ifp, ifn, if_true, if_false]
                rw [nx1]; exact v2
        · unfold s_X10_obstacle_31 n_X10_obstacle_71
          simp (disch := omega) only [i0, i1, i2, i3, i4, i5, i6, i7, i8, i12, i16, i20, i30, i39, i40, i60, i64, i97, i100, i256, i1000, i10000, im1, im20, im60, l0, l1, l2, l3, l4, l5, l8, l10000, l1e9, lm10000, jl_add, jl_sub, jl_mul, jl_neg, ji_add, ji_sub, ji_mul, ji_neg, ji_l, jl_i, rL_n, rI_n, dL_n, dI_n, mnI_j, mxI_j, ji_nat, rest_j, part_n, whole_j, times_j, kc_0, kc_gt, kc_lt, kc_le, kc_ge, ji_lt, ji_le, ji_inj, jl_inj, jl_lt, jl_le, b1s, b2s, bEs, bEe, rIs, rIn, rIJ, rJs, rJn, rJI, ifp, ifn, if_true, if_false, p2]
          rw [nx1]; exact v3
      · -- a prime
        have hk2 : k = 2 ∨ (k % 2 = 1 ∧ 3 ≤ k) := by
          by_cases h2 : k = 2
          · exact Or.inl h2
          · exact Or.inr (isP_odd hp h2)
        have ga := emod_rng (a := a) (show (0 : Int) < k by omega)
        have gb := emod_rng (a := b) (show (0 : Int) < k by omega)
        have da := rI_j (a := a) (b := (k : Int)) (by omega) (by omega)
        have db := rI_j (a := b) (b := (k : Int)) (by omega) (by omega)
        have ea : a.tmod k = 0 ↔ a % k = 0 := by rw [← Int.dvd_iff_tmod_eq_zero, Int.dvd_iff_emod_eq_zero]
        have eb : b.tmod k = 0 ↔ b % k = 0 := by rw [← Int.dvd_iff_tmod_eq_zero, Int.dvd_iff_emod_eq_zero]
        have ra : -10000 ≤ a.tmod k ∧ a.tmod k ≤ 10000 := by
          have := Int.natAbs_tmod a k
          have := Nat.mod_le a.natAbs (k : Int).natAbs
          omega
        have rb : -10000 ≤ b.tmod k ∧ b.tmod k ≤ 10000 := by
          have := Int.natAbs_tmod b k
          have := Nat.mod_le b.natAbs (k : Int).natAbs
          omega
        generalize a.tmod k = ta at da ea ra
        generalize b.tmod k = tb at db eb rb
        obtain ⟨s, s1, s2, s3⟩ := signBoth ha hb (q := (k : Int)) (by omega)
        have go : ∀ x : Int32, ∃ v : Int, (-1 ≤ v ∧ v ≤ 10000) ∧ n_X7_firstMinus_45 (fun (x0 : Int32) (x1 : Int32) (x2 : Int32) (x3 : Int32) => K1 (x0, x1, x2, x3)) (ji a) (ji b) (ji 10000) (ji k) (ji 1) = some (ji v) ∧ n_X10_obstacle_71 (fun (x1 : Int32) (x2 : Int32) (x3 : Int32) (S : St) => K2 (x1, x2, x3, S)) (ji a) (ji b) (ji k) (ji 1) T = some (if 0 ≤ v then (ji v, T) else (ji 0, wI T 0 17 (ji 2))) := by
          intro _
          rcases s1 with rfl | rfl
          · refine ⟨v, v1, ?_, ?_⟩
            · unfold n_X7_firstMinus_45 n_X7_firstMinus_63
              simp (disch := omega) only [i0, i1, i2, i3, i4, i5, i6, i7, i8, i12, i16, i20, i30, i39, i40, i60, i64, i97, i100, i256, i1000, i10000, im1, im20, im60, l0, l1, l2, l3, l4, l5, l8, l10000, l1e9, lm10000, jl_add, jl_sub, jl_mul, jl_neg, ji_add, ji_sub, ji_mul, ji_neg, ji_l, jl_i, rL_n, rI_n, dL_n, dI_n, mnI_j, mxI_j, ji_nat, rest_j, part_n, whole_j, times_j, kc_0, kc_gt, kc_lt, kc_le, kc_ge, ji_lt, ji_le, ji_inj, jl_inj, jl_lt, jl_le, b1s, b2s, bEs, bEe, rIs, rIn, rIJ, rJs, rJn, rJI, ifp, ifn, if_true, if_false, p1, s2]
              rw [nx1]; exact v2
            · unfold n_X10_obstacle_71
              simp (disch := omega) only [i0, i1, i2, i3, i4, i5, i6, i7, i8, i12, i16, i20, i30, i39, i40, i60, i64, i97, i100, i256, i1000, i10000, im1, im20, im60, l0, l1, l2, l3, l4, l5, l8, l10000, l1e9, lm10000, jl_add, jl_sub, jl_mul, jl_neg, ji_add, ji_sub, ji_mul, ji_neg, ji_l, jl_i, rL_n, rI_n, dL_n, dI_n, mnI_j, mxI_j, ji_nat, rest_j, part_n, whole_j, times_j, kc_0, kc_gt, kc_lt, kc_le, kc_ge, ji_lt, ji_le, ji_inj, jl_inj, jl_lt, jl_le, b1s, b2s, bEs, bEe, rIs, rIn, rIJ, rJs, rJn, rJI, ifp, ifn, if_true, if_false, s3]
              rw [nx1]; exact v3
          · refine ⟨k, by omega, ?_, ?_⟩
            · unfold n_X7_firstMinus_45 n_X7_firstMinus_63
              simp (disch := omega) only [i0, i1, i2, i3, i4, i5, i6, i7, i8, i12, i16, i20, i30, i39, i40, i60, i64, i97, i100, i256, i1000, i10000, im1, im20, im60, l0, l1, l2, l3, l4, l5, l8, l10000, l1e9, lm10000, jl_add, jl_sub, jl_mul, jl_neg, ji_add, ji_sub, ji_mul, ji_neg, ji_l, jl_i, rL_n, rI_n, dL_n, dI_n, mnI_j, mxI_j, ji_nat, rest_j, part_n, whole_j, times_j, kc_0, kc_gt, kc_lt, kc_le, kc_ge, ji_lt, ji_le, ji_inj, jl_inj, jl_lt, jl_le, b1s, b2s, bEs, bEe, rIs, rIn, rIJ, rJs, rJn, rJI, ifp, ifn, if_true, if_false, p1, s2]
            · rw [if_pos (by omega)]
              unfold n_X10_obstacle_71
              simp (disch := omega) only [i0, i1, i2, i3, i4, i5, i6, i7, i8, i12, i16, i20, i30, i39, i40, i60, i64, i97, i100, i256, i1000, i10000, im1, im20, im60, l0, l1, l2, l3, l4, l5, l8, l10000, l1e9, lm10000, jl_add, jl_sub, jl_mul, jl_neg, ji_add, ji_sub, ji_mul, ji_neg, ji_l, jl_i, rL_n, rI_n, dL_n, dI_n, mnI_j, mxI_j, ji_nat, rest_j, part_n, whole_j, times_j, kc_0, kc_gt, kc_lt, kc_le, kc_ge, ji_lt, ji_le, ji_inj, jl_inj, jl_lt, jl_le, b1s, b2s, bEs, bEe, rIs, rIn, rIJ, rJs, rJn, rJI, ifp, ifn, if_true, if_false, s3]
        obtain ⟨v', w1, w2, w3⟩ := go 0
        rcases hk2 with rfl | ⟨o1, o2⟩
        · refine ⟨v', w1, ?_, ?_⟩
          · unfold s_X7_firstMinus_2
            simp (disch := omega) only [i0, i1, i2, i3, i4, i5, i6, i7, i8, i12, i16, i20, i30, i39, i40, i60, i64, i97, i100, i256, i1000, i10000, im1, im20, im60, l0, l1, l2, l3, l4, l5, l8, l10000, l1e9, lm10000, jl_add, jl_sub, jl_mul, jl_neg, ji_add, ji_sub, ji_mul, ji_neg, ji_l, jl_i, rL_n, rI_n, dL_n, dI_n, mnI_j, mxI_j, ji_nat, rest_j, part_n, whole_j, times_j, kc_0, kc_gt, kc_lt, kc_le, kc_ge, ji_lt, ji_le, ji_inj, jl_inj, jl_lt, jl_le, b1s, b2s, bEs, bEe, rIs, rIn, rIJ, rJs, rJn, rJI, ifp, ifn, if_true, if_false]
            exact w2
          · unfold s_X10_obstacle_31
            simp (disch := omega) only [i0, i1, i2, i3, i4, i5, i6, i7, i8, i12, i16, i20, i30, i39, i40, i60, i64, i97, i100, i256, i1000, i10000, im1, im20, im60, l0, l1, l2, l3, l4, l5, l8, l10000, l1e9, lm10000, jl_add, jl_sub, jl_mul, jl_neg, ji_add, ji_sub, ji_mul, ji_neg, ji_l, jl_i, rL_n, rI_n, dL_n, dI_n, mnI_j, mxI_j, ji_nat, rest_j, part_n, whole_j, times_j, kc_0, kc_gt, kc_lt, kc_le, kc_ge, ji_lt, ji_le, ji_inj, jl_inj, jl_lt, jl_le, b1s, b2s, bEs, bEe, rIs, rIn, rIJ, rJs, rJn, rJI, ifp, ifn, if_true, if_false, p2]
            exact w3
        · by_cases h3 : a % k = 0
          · have := ea.mpr h3
            subst this
            refine ⟨v', w1, ?_, ?_⟩
            · unfold s_X7_firstMinus_2
              simp (disch := omega) only [i0, i1, i2, i3, i4, i5, i6, i7, i8, i12, i16, i20, i30, i39, i40, i60, i64, i97, i100, i256, i1000, i10000, im1, im20, im60, l0, l1, l2, l3, l4, l5, l8, l10000, l1e9, lm10000, jl_add, jl_sub, jl_mul, jl_neg, ji_add, ji_sub, ji_mul, ji_neg, ji_l, jl_i, rL_n, rI_n, dL_n, dI_n, mnI_j, mxI_j, ji_nat, rest_j, part_n, whole_j, times_j, kc_0, kc_gt, kc_lt, kc_le, kc_ge, ji_lt, ji_le, ji_inj, jl_inj, jl_lt, jl_le, b1s, b2s, bEs, bEe, rIs, rIn, rIJ, rJs, rJn, rJI, ifp, ifn, if_true, if_false, h3]
              exact w2
            · unfold s_X10_obstacle_31
              simp (disch := omega) only [i0, i1, i2, i3, i4, i5, i6, i7, i8, i12, i16, i20, i30, i39, i40, i60, i64, i97, i100, i256, i1000, i10000, im1, im20, im60, l0, l1, l2, l3, l4, l5, l8, l10000, l1e9, lm10000, jl_add, jl_sub, jl_mul, jl_neg, ji_add, ji_sub, ji_mul, ji_neg, ji_l, jl_i, rL_n, rI_n, dL_n, dI_n, mnI_j, mxI_j, ji_nat, rest_j, part_n, whole_j, times_j, kc_0, kc_gt, kc_lt, kc_le, kc_ge, ji_lt, ji_le, ji_inj, jl_inj, jl_lt, jl_le, b1s, b2s, bEs, bEe, rIs, rIn, rIJ, rJs, rJn, rJI, ifp, ifn, if_true, if_false, p2, da]
              exact w3
          · have h3' : ¬ ta = 0 := fun q => h3 (ea.mp q)
            by_cases h4 : b % k = 0
            · have := eb.mpr h4
              subst this
              refine ⟨v', w1, ?_, ?_⟩
              · unfold s_X7_firstMinus_2
                simp (disch := omega) only [i0, i1, i2, i3, i4, i5, i6, i7, i8, i12, i16, i20, i30, i39, i40, i60, i64, i97, i100, i256, i1000, i10000, im1, im20, im60, l0, l1, l2, l3, l4, l5, l8, l10000, l1e9, lm10000, jl_add, jl_sub, jl_mul, jl_neg, ji_add, ji_sub, ji_mul, ji_neg, ji_l, jl_i, rL_n, rI_n, dL_n, dI_n, mnI_j, mxI_j, ji_nat, rest_j, part_n, whole_j, times_j, kc_0, kc_gt, kc_lt, kc_le, kc_ge, ji_lt, ji_le, ji_inj, jl_inj, jl_lt, jl_le, b1s, b2s, bEs, bEe, rIs, rIn, rIJ, rJs, rJn, rJI, ifp, ifn, if_true, if_false, h4]
                exact w2
              · unfold s_X10_obstacle_31
                simp (disch := omega) only [i0, i1, i2, i3, i4, i5, i6, i7, i8, i12, i16, i20, i30, i39, i40, i60, i64, i97, i100, i256, i1000, i10000, im1, im20, im60, l0, l1, l2, l3, l4, l5, l8, l10000, l1e9, lm10000, jl_add, jl_sub, jl_mul, jl_neg, ji_add, ji_sub, ji_mul, ji_neg, ji_l, jl_i, rL_n, rI_n, dL_n, dI_n, mnI_j, mxI_j, ji_nat, rest_j, part_n, whole_j, times_j, kc_0, kc_gt, kc_lt, kc_le, kc_ge, ji_lt, ji_le, ji_inj, jl_inj, jl_lt, jl_le, b1s, b2s, bEs, bEe, rIs, rIn, rIJ, rJs, rJn, rJI, ifp, ifn, if_true, if_false, p2, da, db]
                exact w3
            · have h4' : ¬ tb = 0 := fun q => h4 (eb.mp q)
              refine ⟨v, v1, ?_, ?_⟩
              · unfold s_X7_firstMinus_2 n_X7_firstMinus_45
                simp (disch := omega) only [i0, i1, i2, i3, i4, i5, i6, i7, i8, i12, i16, i20, i30, i39, i40, i60, i64, i97, i100, i256, i1000, i10000, im1, im20, im60, l0, l1, l2, l3, l4, l5, l8, l10000, l1e9, lm10000, jl_add, jl_sub, jl_mul, jl_neg, ji_add, ji_sub, ji_mul, ji_neg, ji_l, jl_i, rL_n, rI_n, dL_n, dI_n, mnI_j, mxI_j, ji_nat, rest_j, part_n, whole_j, times_j, kc_0, kc_gt, kc_lt, kc_le, kc_ge, ji_lt, ji_le, ji_inj, jl_inj, jl_lt, jl_le, b1s, b2s, bEs, bEe, rIs, rIn, rIJ, rJs, rJn, rJI, ifp, ifn, if_true, if_false]
                rw [nx1]; exact v2
              · unfold s_X10_obstacle_31 n_X10_obstacle_71
                simp (disch := omega) only [i0, i1, i2, i3, i4, i5, i6, i7, i8, i12, i16, i20, i30, i39, i40, i60, i64, i97, i100, i256, i1000, i10000, im1, im20, im60, l0, l1, l2, l3, l4, l5, l8, l10000, l1e9, lm10000, jl_add, jl_sub, jl_mul, jl_neg, ji_add, ji_sub, ji_mul, ji_neg, ji_l, jl_i, rL_n, rI_n, dL_n, dI_n, mnI_j, mxI_j, ji_nat, rest_j, part_n, whole_j, times_j, kc_0, kc_gt, kc_lt, kc_le, kc_ge, ji_lt, ji_le, ji_inj, jl_inj, jl_lt, jl_le, b1s, b2s, bEs, bEe, rIs, rIn, rIJ, rJs, rJn, rJI, ifp, ifn, if_true, if_false, p2, da, db]
                rw [nx1]; exact v3
      · subst hk0
        obtain ⟨s, s1, s2, s3⟩ := signBoth ha hb (q := ((0 : Nat) : Int)) (Or.inl rfl)
        rcases s1 with rfl | rfl
        · refine ⟨v, v1, ?_, ?_⟩
          · unfold s_X7_firstMinus_2 n_X7_firstMinus_45 n_X7_firstMinus_63
            simp (disch := omega) only [i0, i1, i2, i3, i4, i5, i6, i7, i8, i12, i16, i20, i30, i39, i40, i60, i64, i97, i100, i256, i1000, i10000, im1, im20, im60, l0, l1, l2, l3, l4, l5, l8, l10000, l1e9, lm10000, jl_add, jl_sub, jl_mul, jl_neg, ji_add, ji_sub, ji_mul, ji_neg, ji_l, jl_i, rL_n, rI_n, dL_n, dI_n, mnI_j, mxI_j, ji_nat, rest_j, part_n, whole_j, times_j, kc_0, kc_gt, kc_lt, kc_le, kc_ge, ji_lt, ji_le, ji_inj, jl_inj, jl_lt, jl_le, b1s, b2s, bEs, bEe, rIs, rIn, rIJ, rJs, rJn, rJI, ifp, ifn, if_true, if_false, s2]
            exact v2
          · unfold s_X10_obstacle_31 n_X10_obstacle_71
            simp (disch := omega) only [i0, i1, i2, i3, i4, i5, i6, i7, i8, i12, i16, i20, i30, i39, i40, i60, i64, i97, i100, i256, i1000, i10000, im1, im20, im60, l0, l1, l2, l3, l4, l5, l8, l10000, l1e9, lm10000, jl_add, jl_sub, jl_mul, jl_neg, ji_add, ji_sub, ji_mul, ji_neg, ji_l, jl_i, rL_n, rI_n, dL_n, dI_n, mnI_j, mxI_j, ji_nat, rest_j, part_n, whole_j, times_j, kc_0, kc_gt, kc_lt, kc_le, kc_ge, ji_lt, ji_le, ji_inj, jl_inj, jl_lt, jl_le, b1s, b2s, bEs, bEe, rIs, rIn, rIJ, rJs, rJn, rJI, ifp, ifn, if_true, if_false, s3]
            exact v3
        · refine ⟨0, by omega, ?_, ?_⟩
          · unfold s_X7_firstMinus_2 n_X7_firstMinus_45 n_X7_firstMinus_63
            simp (disch := omega) only [i0, i1, i2, i3, i4, i5, i6, i7, i8, i12, i16, i20, i30, i39, i40, i60, i64, i97, i100, i256, i1000, i10000, im1, im20, im60, l0, l1, l2, l3, l4, l5, l8, l10000, l1e9, lm10000, jl_add, jl_sub, jl_mul, jl_neg, ji_add, ji_sub, ji_mul, ji_neg, ji_l, jl_i, rL_n, rI_n, dL_n, dI_n, mnI_j, mxI_j, ji_nat, rest_j, part_n, whole_j, times_j, kc_0, kc_gt, kc_lt, kc_le, kc_ge, ji_lt, ji_le, ji_inj, jl_inj, jl_lt, jl_le, b1s, b2s, bEs, bEe, rIs, rIn, rIJ, rJs, rJn, rJI, ifp, ifn, if_true, if_false, s2]
            rfl
          · rw [if_pos (by omega)]
            unfold s_X10_obstacle_31 n_X10_obstacle_71
            simp (disch := omega) only [i0, i1, i2, i3, i4, i5, i6, i7, i8, i12, i16, i20, i30, i39, i40, i60, i64, i97, i100, i256, i1000, i10000, im1, im20, im60, l0, l1, l2, l3, l4, l5, l8, l10000, l1e9, lm10000, jl_add, jl_sub, jl_mul, jl_neg, ji_add, ji_sub, ji_mul, ji_neg, ji_l, jl_i, rL_n, rI_n, dL_n, dI_n, mnI_j, mxI_j, ji_nat, rest_j, part_n, whole_j, times_j, kc_0, kc_gt, kc_lt, kc_le, kc_ge, ji_lt, ji_le, ji_inj, jl_inj, jl_lt, jl_le, b1s, b2s, bEs, bEe, rIs, rIn, rIJ, rJs, rJn, rJI, ifp, ifn, if_true, if_false, s3]
            rfl
theorem T_obstacle {S T : St} (h : Rel S T) (a b : Int32) : AnR [(1, 1), (6, 2)] S (f_X9_obstacle a b S) (f_X10_obstacle a b T) := by
  obtain ⟨a, rfl, ha⟩ := ji_ex a
  obtain ⟨b, rfl, hb⟩ := ji_ex b
  have bad : ∀ x y, x = some (.error 1 : Except Nat Int32) → y = some (ji 0, th T 1) → AnR [(1, 1), (6, 2)] S x y := by
    rintro x y rfl rfl
    exact ⟨th T 1, _, rfl, rel_fr h (FrS.refl S) th_fr, Or.inr ⟨(1, 1), by simp, rfl, th_17⟩⟩
  by_cases ga : a ≠ 0 ∧ -10000 ≤ a ∧ a ≤ 10000
  · by_cases gb : b ≠ 0 ∧ -10000 ≤ b ∧ b ≤ 10000
    · have na := needZ_y ga
      have nb := needZ_y gb
      have ta := told_y ga
      have tb := told_y gb
      obtain ⟨v, v1, v2, v3⟩ := obst_loop (T := th T 0) ga gb FU 0 (by omega) (FU_lt (by omega))
      have v2 : f_X7_firstMinus (ji a) (ji b) (ji 10000) = some (ji v) := v2
      have v3 : n_X10_obstacle_31 (ji a) (ji b) (ji 0) (th T 0) = _ := v3
      unfold f_X9_obstacle f_X10_obstacle n_X10_obstacle_20
      by_cases h0 : 0 ≤ v
      · rw [if_pos h0] at v3
        simp (disch := omega) only [i0, i1, i2, i3, i4, i5, i6, i7, i8, i12, i16, i20, i30, i39, i40, i60, i64, i97, i100, i256, i1000, i10000, im1, im20, im60, l0, l1, l2, l3, l4, l5, l8, l10000, l1e9, lm10000, jl_add, jl_sub, jl_mul, jl_neg, ji_add, ji_sub, ji_mul, ji_neg, ji_l, jl_i, rL_n, rI_n, dL_n, dI_n, mnI_j, mxI_j, ji_nat, rest_j, part_n, whole_j, times_j, kc_0, kc_gt, kc_lt, kc_le, kc_ge, ji_lt, ji_le, ji_inj, jl_inj, jl_lt, jl_le, b1s, b2s, bEs, bEe, rIs, rIn, rIJ, rJs, rJn, rJI, ifp, ifn, if_true, if_false, na, nb, ta, tb, noY, v2, v3]
        exact ⟨th T 0, _, rfl, rel_fr h (FrS.refl S) th_fr, Or.inl ⟨rfl, th_17⟩⟩
      · rw [if_neg h0] at v3
        have e : wI (th T 0) 0 17 (ji 2) = th T 2 := th_th
        rw [e] at v3
        simp (disch := omega) only [i0, i1, i2, i3, i4, i5, i6, i7, i8, i12, i16, i20, i30, i39, i40, i60, i64, i97, i100, i256, i1000, i10000, im1, im20, im60, l0, l1, l2, l3, l4, l5, l8, l10000, l1e9, lm10000, jl_add, jl_sub, jl_mul, jl_neg, ji_add, ji_sub, ji_mul, ji_neg, ji_l, jl_i, rL_n, rI_n, dL_n, dI_n, mnI_j, mxI_j, ji_nat, rest_j, part_n, whole_j, times_j, kc_0, kc_gt, kc_lt, kc_le, kc_ge, ji_lt, ji_le, ji_inj, jl_inj, jl_lt, jl_le, b1s, b2s, bEs, bEe, rIs, rIn, rIJ, rJs, rJn, rJI, ifp, ifn, if_true, if_false, na, nb, ta, tb, noY, v2, v3]
        exact ⟨th T 2, _, rfl, rel_fr h (FrS.refl S) th_fr, Or.inr ⟨(6, 2), by simp, rfl, th_17⟩⟩
    · have na := needZ_y ga
      have nb := needZ_n hb gb
      have ta := told_y ga
      have tb := told_n hb gb
      refine bad _ _ ?_ ?_
      · unfold f_X9_obstacle
        simp (disch := omega) only [i0, i1, i2, i3, i4, i5, i6, i7, i8, i12, i16, i20, i30, i39, i40, i60, i64, i97, i100, i256, i1000, i10000, im1, im20, im60, l0, l1, l2, l3, l4, l5, l8, l10000, l1e9, lm10000, jl_add, jl_sub, jl_mul, jl_neg, ji_add, ji_sub, ji_mul, ji_neg, ji_l, jl_i, rL_n, rI_n, dL_n, dI_n, mnI_j, mxI_j, ji_nat, rest_j, part_n, whole_j, times_j, kc_0, kc_gt, kc_lt, kc_le, kc_ge, ji_lt, ji_le, ji_inj, jl_inj, jl_lt, jl_le, b1s, b2s, bEs, bEe, rIs, rIn, rIJ, rJs, rJn, rJI, ifp, ifn, if_true, if_false, na, nb]
      · unfold f_X10_obstacle n_X10_obstacle_20
        simp (disch := omega) only [i0, i1, i2, i3, i4, i5, i6, i7, i8, i12, i16, i20, i30, i39, i40, i60, i64, i97, i100, i256, i1000, i10000, im1, im20, im60, l0, l1, l2, l3, l4, l5, l8, l10000, l1e9, lm10000, jl_add, jl_sub, jl_mul, jl_neg, ji_add, ji_sub, ji_mul, ji_neg, ji_l, jl_i, rL_n, rI_n, dL_n, dI_n, mnI_j, mxI_j, ji_nat, rest_j, part_n, whole_j, times_j, kc_0, kc_gt, kc_lt, kc_le, kc_ge, ji_lt, ji_le, ji_inj, jl_inj, jl_lt, jl_le, b1s, b2s, bEs, bEe, rIs, rIn, rIJ, rJs, rJn, rJI, ifp, ifn, if_true, if_false, ta, tb, noN1]
  · have na := needZ_n ha ga
    have ta := told_n ha ga
    refine bad _ _ ?_ ?_
    · unfold f_X9_obstacle
      simp (disch := omega) only [i0, i1, i2, i3, i4, i5, i6, i7, i8, i12, i16, i20, i30, i39, i40, i60, i64, i97, i100, i256, i1000, i10000, im1, im20, im60, l0, l1, l2, l3, l4, l5, l8, l10000, l1e9, lm10000, jl_add, jl_sub, jl_mul, jl_neg, ji_add, ji_sub, ji_mul, ji_neg, ji_l, jl_i, rL_n, rI_n, dL_n, dI_n, mnI_j, mxI_j, ji_nat, rest_j, part_n, whole_j, times_j, kc_0, kc_gt, kc_lt, kc_le, kc_ge, ji_lt, ji_le, ji_inj, jl_inj, jl_lt, jl_le, b1s, b2s, bEs, bEe, rIs, rIn, rIJ, rJs, rJn, rJI, ifp, ifn, if_true, if_false, na]
    · unfold f_X10_obstacle n_X10_obstacle_20
      simp (disch := omega) only [i0, i1, i2, i3, i4, i5, i6, i7, i8, i12, i16, i20, i30, i39, i40, i60, i64, i97, i100, i256, i1000, i10000, im1, im20, im60, l0, l1, l2, l3, l4, l5, l8, l10000, l1e9, lm10000, jl_add, jl_sub, jl_mul, jl_neg, ji_add, ji_sub, ji_mul, ji_neg, ji_l, jl_i, rL_n, rI_n, dL_n, dI_n, mnI_j, mxI_j, ji_nat, rest_j, part_n, whole_j, times_j, kc_0, kc_gt, kc_lt, kc_le, kc_ge, ji_lt, ji_le, ji_inj, jl_inj, jl_lt, jl_le, b1s, b2s, bEs, bEe, rIs, rIn, rIJ, rJs, rJn, rJI, ifp, ifn, if_true, if_false, ta, noN1]
