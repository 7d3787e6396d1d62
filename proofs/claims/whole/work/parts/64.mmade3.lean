theorem T_give {S T : St} (h : Rel S T) (a b c : Int32) : An [(1, 1), (2, 2)] (f_X9_give a b c S) (f_X10_give a b c T) := by
  obtain ⟨a, rfl, ha⟩ := ji_ex a
  obtain ⟨b, rfl, hb⟩ := ji_ex b
  obtain ⟨c, rfl, hc0⟩ := ji_ex c
  have hh := h
  obtain ⟨p, r, cnt, num, early, D, C, bc, cn, pc, rowc, rv, sz, en, h1, h2, h3, h4⟩ := hh
  have c5 := h1.2.2.2.2.1
  have c6 := h1.2.2.2.2.2.1
  have c7 := h1.2.2.2.2.2.2.1
  have w1 : (1000000 : Int32) = ji 1000000 := rfl
  have w2 : (-1000000 : Int32) = ji (-1000000) := rfl
  have w3 : (1000000 : Int64) = jl 1000000 := rfl
  have w4 : (-1000000 : Int64) = jl (-1000000) := rfl
  have w5 : (20 : Int64) = jl 20 := rfl
  have w6 : (-20 : Int64) = jl (-20) := rfl
  unfold f_X9_give f_X10_give n_X10_give_46
  rw [w2, w1, w4, w3, w6, w5]
  have bad : ∀ x y, x = some ((.error 1 : Except Nat Int32), S) → y = some (ji 0, th T 1) → An [(1, 1), (2, 2)] x y := by
    rintro x y rfl rfl
    exact ⟨S, th T 1, ji 0, rfl, rel_fr h (FrS.refl S) th_fr, Or.inr ⟨(1, 1), by simp, rfl, th_17⟩⟩
  by_cases ga : -1000000 ≤ a ∧ a ≤ 1000000
  · by_cases gb : 1 ≤ b ∧ b ≤ 1000000
    · by_cases gc : -20 ≤ c ∧ c ≤ 20
      · have c6' : (th T 0).1 0 19 = ji cnt := (th_n (by omega)).trans c6
        by_cases hc : cnt < 40
        · have r2 := roomY (k := 2) c6' hc
          have r1 := needR_y c5 hc
          have n5 := comesM (k := 0) (a := a) (b := b) (w := c) c6' hc
          -- the class's way
          have n6 : f_X5_addFraction (ji a) (ji b) (ji c) S = b1 (f_X5_find cnt (wI (wI (wI (wI (wI (wI S (12 + cnt) 0 (ji 0)) (12 + cnt) 1 (ji (-1))) (12 + cnt) 2 (ji (-1))) (12 + cnt) 3 (ji a)) (12 + cnt) 4 (ji b)) (12 + cnt) 5 (ji c))) fun S7 => f_X5_keep cnt S7 := by
            unfold f_X5_addFraction f_X3_become
            rw [c5, numbC (n := 40) ⟨by omega, by omega⟩ (by omega), b1s, Int.toNat_natCast, if_pos (by omega), b1s]
            simp only [b2_id]
            rfl
          generalize hS : wI (wI (wI (wI (wI (wI S (12 + cnt) 0 (ji 0)) (12 + cnt) 1 (ji (-1))) (12 + cnt) 2 (ji (-1))) (12 + cnt) 3 (ji a)) (12 + cnt) 4 (ji b)) (12 + cnt) 5 (ji c) = S1 at *
          generalize hT : cm (th T 0) cnt 0 a b c = T1 at *
          have d0 : dOf S1 cnt 0 = 0 := by unfold dOf; rw [← hS]; simp (disch := omega) only [rIs, rIn, rIJ, rJs, rJn, rJI]; exact ji_toInt (by omega)
          have d1 : dOf S1 cnt 1 = -1 := by unfold dOf; rw [← hS]; simp (disch := omega) only [rIs, rIn, rIJ, rJs, rJn, rJI]; exact ji_toInt (by omega)
          have d2 : dOf S1 cnt 2 = -1 := by unfold dOf; rw [← hS]; simp (disch := omega) only [rIs, rIn, rIJ, rJs, rJn, rJI]; exact ji_toInt (by omega)
          have d3 : dOf S1 cnt 3 = a := by unfold dOf; rw [← hS]; simp (disch := omega) only [rIs, rIn, rIJ, rJs, rJn, rJI]; exact ji_toInt ha
          have d4 : dOf S1 cnt 4 = b := by unfold dOf; rw [← hS]; simp (disch := omega) only [rIs, rIn, rIJ, rJs, rJn, rJI]; exact ji_toInt hb
          have d5 : dOf S1 cnt 5 = c := by unfold dOf; rw [← hS]; simp (disch := omega) only [rIs, rIn, rIJ, rJs, rJn, rJI]; exact ji_toInt hc0
          have m3 : T1.1 3 cnt = ji 0 := by rw [← hT]; unfold cm; simp (disch := omega) only [rIs, rIn, rIJ, rJs, rJn, rJI]
          have m4 : T1.1 4 cnt = ji a := by rw [← hT]; unfold cm; simp (disch := omega) only [rIs, rIn, rIJ, rJs, rJn, rJI]
          have m5 : T1.1 5 cnt = ji b := by rw [← hT]; unfold cm; simp (disch := omega) only [rIs, rIn, rIJ, rJs, rJn, rJI]
          have m6 : T1.1 6 cnt = ji c := by rw [← hT]; unfold cm; simp (disch := omega) only [rIs, rIn, rIJ, rJs, rJn, rJI]
          obtain ⟨S', T', e1, e2, e3, e4⟩ := new_num (S1 := S1) (T1 := T1) (d := dOf S1 cnt) (c := fun _ => 0) (rn_fr h1 (FrS.refl S) (th_fr (k := 0))) (rp_fr h2 (FrS.refl S) th_fr) (rr_fr h3 (FrS.refl S) th_fr) (rx_fr h4 (FrS.refl S) th_fr) hc ⟨fun o i g1 g2 g3 g4 => by rw [← hS]; simp (disch := omega) only [rIs, rIn, rIJ, rJs, rJn, rJI], fun o i g1 g2 g3 g4 => by rw [← hS]; rfl⟩
            ⟨fun o i g1 g2 g3 g4 g5 g6 g7 => by rw [← hT]; unfold cm; simp (disch := omega) only [rIs, rIn, rIJ, rJs, rJn, rJI], fun o i g1 g2 => by rw [← hT]; rfl⟩
            ⟨fun j hj => (ji_of _).symm, fun q => by omega, fun q => by omega⟩
            ⟨by rw [d0]; exact m3, fun q => by rw [d3, d4, d5]; exact ⟨m4, m5, m6⟩, fun q q' => by omega, fun q q' => by omega, fun q => by omega, fun q => by omega⟩
            (Or.inl ⟨d0, by rw [d3, d4, d5]; exact ⟨ga.1, ga.2, gb.1, gb.2, gc.1, by omega⟩, d1, d2⟩) ⟨fun q => by omega, fun q => by omega⟩
          rw [← n6] at e1
          rw [← n5] at e2
          simp (disch := omega) only [i0, i1, i2, i3, i4, i5, i6, i7, i8, i12, i16, i20, i30, i39, i40, i60, i64, i97, i100, i256, i1000, i10000, im1, im20, im60, l0, l1, l2, l3, l4, l5, l8, l10000, l1e9, lm10000, jl_add, jl_sub, jl_mul, jl_neg, ji_add, ji_sub, ji_mul, ji_neg, ji_l, jl_i, rL_n, rI_n, dL_n, dI_n, mnI_j, mxI_j, ji_nat, rest_j, part_n, whole_j, times_j, kc_0, kc_gt, kc_lt, kc_le, kc_ge, ji_lt, ji_le, ji_inj, jl_inj, jl_lt, jl_le, b1s, b2s, bEs, bEe, rIs, rIn, rIJ, rJs, rJn, rJI, ifp, ifn, if_true, if_false, needW_y, isIn_y, r1, r2, noY, th_th, e1, e2]
          exact ⟨S', T', _, rfl, e3, Or.inl ⟨rfl, e4.trans (by rw [← hT]; unfold cm; simp (disch := omega) only [rIs, rIn, rIJ, rJs, rJn, rJI]; exact th_17)⟩⟩
        · have hc : cnt = 40 := by omega
          subst hc
          have r2 := roomN2 c6'
          have r1 := needR_n c5
          simp (disch := omega) only [i0, i1, i2, i3, i4, i5, i6, i7, i8, i12, i16, i20, i30, i39, i40, i60, i64, i97, i100, i256, i1000, i10000, im1, im20, im60, l0, l1, l2, l3, l4, l5, l8, l10000, l1e9, lm10000, jl_add, jl_sub, jl_mul, jl_neg, ji_add, ji_sub, ji_mul, ji_neg, ji_l, jl_i, rL_n, rI_n, dL_n, dI_n, mnI_j, mxI_j, ji_nat, rest_j, part_n, whole_j, times_j, kc_0, kc_gt, kc_lt, kc_le, kc_ge, ji_lt, ji_le, ji_inj, jl_inj, jl_lt, jl_le, b1s, b2s, bEs, bEe, rIs, rIn, rIJ, rJs, rJn, rJI, ifp, ifn, if_true, if_false, needW_y, isIn_y, r1, r2, noY, th_th]
          exact ⟨S, th T 2, ji 0, rfl, rel_fr h (FrS.refl S) th_fr, Or.inr ⟨(2, 2), by simp, rfl, th_17⟩⟩
      · refine bad _ _ ?_ ?_
        · simp (disch := omega) only [i0, i1, i2, i3, i4, i5, i6, i7, i8, i12, i16, i20, i30, i39, i40, i60, i64, i97, i100, i256, i1000, i10000, im1, im20, im60, l0, l1, l2, l3, l4, l5, l8, l10000, l1e9, lm10000, jl_add, jl_sub, jl_mul, jl_neg, ji_add, ji_sub, ji_mul, ji_neg, ji_l, jl_i, rL_n, rI_n, dL_n, dI_n, mnI_j, mxI_j, ji_nat, rest_j, part_n, whole_j, times_j, kc_0, kc_gt, kc_lt, kc_le, kc_ge, ji_lt, ji_le, ji_inj, jl_inj, jl_lt, jl_le, b1s, b2s, bEs, bEe, rIs, rIn, rIJ, rJs, rJn, rJI, ifp, ifn, if_true, if_false, needW_y, needW_n]
        · simp (disch := omega) only [i0, i1, i2, i3, i4, i5, i6, i7, i8, i12, i16, i20, i30, i39, i40, i60, i64, i97, i100, i256, i1000, i10000, im1, im20, im60, l0, l1, l2, l3, l4, l5, l8, l10000, l1e9, lm10000, jl_add, jl_sub, jl_mul, jl_neg, ji_add, ji_sub, ji_mul, ji_neg, ji_l, jl_i, rL_n, rI_n, dL_n, dI_n, mnI_j, mxI_j, ji_nat, rest_j, part_n, whole_j, times_j, kc_0, kc_gt, kc_lt, kc_le, kc_ge, ji_lt, ji_le, ji_inj, jl_inj, jl_lt, jl_le, b1s, b2s, bEs, bEe, rIs, rIn, rIJ, rJs, rJn, rJI, ifp, ifn, if_true, if_false, isIn_y, isIn_n, noN1]
    · refine bad _ _ ?_ ?_
      · simp (disch := omega) only [i0, i1, i2, i3, i4, i5, i6, i7, i8, i12, i16, i20, i30, i39, i40, i60, i64, i97, i100, i256, i1000, i10000, im1, im20, im60, l0, l1, l2, l3, l4, l5, l8, l10000, l1e9, lm10000, jl_add, jl_sub, jl_mul, jl_neg, ji_add, ji_sub, ji_mul, ji_neg, ji_l, jl_i, rL_n, rI_n, dL_n, dI_n, mnI_j, mxI_j, ji_nat, rest_j, part_n, whole_j, times_j, kc_0, kc_gt, kc_lt, kc_le, kc_ge, ji_lt, ji_le, ji_inj, jl_inj, jl_lt, jl_le, b1s, b2s, bEs, bEe, rIs, rIn, rIJ, rJs, rJn, rJI, ifp, ifn, if_true, if_false, needW_y, needW_n]
      · simp (disch := omega) only [i0, i1, i2, i3, i4, i5, i6, i7, i8, i12, i16, i20, i30, i39, i40, i60, i64, i97, i100, i256, i1000, i10000, im1, im20, im60, l0, l1, l2, l3, l4, l5, l8, l10000, l1e9, lm10000, jl_add, jl_sub, jl_mul, jl_neg, ji_add, ji_sub, ji_mul, ji_neg, ji_l, jl_i, rL_n, rI_n, dL_n, dI_n, mnI_j, mxI_j, ji_nat, rest_j, part_n, whole_j, times_j, kc_0, kc_gt, kc_lt, kc_le, kc_ge, ji_lt, ji_le, ji_inj, jl_inj, jl_lt, jl_le, b1s, b2s, bEs, bEe, rIs, rIn, rIJ, rJs, rJn, rJI, ifp, ifn, if_true, if_false, isIn_y, isIn_n, noN1]
  · refine bad _ _ ?_ ?_
    · simp (disch := omega) only [i0, i1, i2, i3, i4, i5, i6, i7, i8, i12, i16, i20, i30, i39, i40, i60, i64, i97, i100, i256, i1000, i10000, im1, im20, im60, l0, l1, l2, l3, l4, l5, l8, l10000, l1e9, lm10000, jl_add, jl_sub, jl_mul, jl_neg, ji_add, ji_sub, ji_mul, ji_neg, ji_l, jl_i, rL_n, rI_n, dL_n, dI_n, mnI_j, mxI_j, ji_nat, rest_j, part_n, whole_j, times_j, kc_0, kc_gt, kc_lt, kc_le, kc_ge, ji_lt, ji_le, ji_inj, jl_inj, jl_lt, jl_le, b1s, b2s, bEs, bEe, rIs, rIn, rIJ, rJs, rJn, rJI, ifp, ifn, if_true, if_false, needW_y, needW_n]
    · simp (disch := omega) only [i0, i1, i2, i3, i4, i5, i6, i7, i8, i12, i16, i20, i30, i39, i40, i60, i64, i97, i100, i256, i1000, i10000, im1, im20, im60, l0, l1, l2, l3, l4, l5, l8, l10000, l1e9, lm10000, jl_add, jl_sub, jl_mul, jl_neg, ji_add, ji_sub, ji_mul, ji_neg, ji_l, jl_i, rL_n, rI_n, dL_n, dI_n, mnI_j, mxI_j, ji_nat, rest_j, part_n, whole_j, times_j, kc_0, kc_gt, kc_lt, kc_le, kc_ge, ji_lt, ji_le, ji_inj, jl_inj, jl_lt, jl_le, b1s, b2s, bEs, bEe, rIs, rIn, rIJ, rJs, rJn, rJI, ifp, ifn, if_true, if_false, isIn_y, isIn_n, noN1]
/-! polynomials at residues -/
theorem needP_y {S : St} {bc : Nat} {a : Int} (h : S.1 4 0 = ji bc) (hc : bc ≤ 8) (ha : 0 ≤ a ∧ a < bc) : f_X9_needPolynomial (ji a) S = some (.ok ()) := by
  unfold f_X9_needPolynomial
  rw [h]
  simp (disch := omega) only [i0, i1, i2, i3, i4, i5, i6, i7, i8, i12, i16, i20, i30, i39, i40, i60, i64, i97, i100, i256, i1000, i10000, im1, im20, im60, l0, l1, l2, l3, l4, l5, l8, l10000, l1e9, lm10000, jl_add, jl_sub, jl_mul, jl_neg, ji_add, ji_sub, ji_mul, ji_neg, ji_l, jl_i, rL_n, rI_n, dL_n, dI_n, mnI_j, mxI_j, ji_nat, rest_j, part_n, whole_j, times_j, kc_0, kc_gt, kc_lt, kc_le, kc_ge, ji_lt, ji_le, ji_inj, jl_inj, jl_lt, jl_le, b1s, b2s, bEs, bEe, rIs, rIn, rIJ, rJs, rJn, rJI, ifp, ifn, if_true, if_false]
theorem needP_n {S : St} {bc : Nat} {a : Int} (h : S.1 4 0 = ji bc) (hc : bc ≤ 8) (hr : -2147483648 ≤ a ∧ a < 2147483648) (ha : ¬ (0 ≤ a ∧ a < bc)) : f_X9_needPolynomial (ji a) S = some (.error 3) := by
  unfold f_X9_needPolynomial
  rw [h]
  by_cases h1 : a < 0
  · simp (disch := omega) only [i0, i1, i2, i3, i4, i5, i6, i7, i8, i12, i16, i20, i30, i39, i40, i60, i64, i97, i100, i256, i1000, i10000, im1, im20, im60, l0, l1, l2, l3, l4, l5, l8, l10000, l1e9, lm10000, jl_add, jl_sub, jl_mul, jl_neg, ji_add, ji_sub, ji_mul, ji_neg, ji_l, jl_i, rL_n, rI_n, dL_n, dI_n, mnI_j, mxI_j, ji_nat, rest_j, part_n, whole_j, times_j, kc_0, kc_gt, kc_lt, kc_le, kc_ge, ji_lt, ji_le, ji_inj, jl_inj, jl_lt, jl_le, b1s, b2s, bEs, bEe, rIs, rIn, rIJ, rJs, rJn, rJI, ifp, ifn, if_true, if_false]
  · simp (disch := omega) only [i0, i1, i2, i3, i4, i5, i6, i7, i8, i12, i16, i20, i30, i39, i40, i60, i64, i97, i100, i256, i1000, i10000, im1, im20, im60, l0, l1, l2, l3, l4, l5, l8, l10000, l1e9, lm10000, jl_add, jl_sub, jl_mul, jl_neg, ji_add, ji_sub, ji_mul, ji_neg, ji_l, jl_i, rL_n, rI_n, dL_n, dI_n, mnI_j, mxI_j, ji_nat, rest_j, part_n, whole_j, times_j, kc_0, kc_gt, kc_lt, kc_le, kc_ge, ji_lt, ji_le, ji_inj, jl_inj, jl_lt, jl_le, b1s, b2s, bEs, bEe, rIs, rIn, rIJ, rJs, rJn, rJI, ifp, ifn, if_true, if_false]
theorem noP_y {T : St} {bc : Nat} {a : Int} (h : T.1 0 20 = ji bc) (hc : bc ≤ 8) (ha : 0 ≤ a ∧ a < bc) : f_X10_noPolynomial (ji a) T = some (ji 0, th T 0) := by
  unfold f_X10_noPolynomial
  rw [h]
  simp (disch := omega) only [i0, i1, i2, i3, i4, i5, i6, i7, i8, i12, i16, i20, i30, i39, i40, i60, i64, i97, i100, i256, i1000, i10000, im1, im20, im60, l0, l1, l2, l3, l4, l5, l8, l10000, l1e9, lm10000, jl_add, jl_sub, jl_mul, jl_neg, ji_add, ji_sub, ji_mul, ji_neg, ji_l, jl_i, rL_n, rI_n, dL_n, dI_n, mnI_j, mxI_j, ji_nat, rest_j, part_n, whole_j, times_j, kc_0, kc_gt, kc_lt, kc_le, kc_ge, ji_lt, ji_le, ji_inj, jl_inj, jl_lt, jl_le, b1s, b2s, bEs, bEe, rIs, rIn, rIJ, rJs, rJn, rJI, ifp, ifn, if_true, if_false, isIn_y, noY]
  rw [if_pos nb0]
theorem noP_n {T : St} {bc : Nat} {a : Int} (h : T.1 0 20 = ji bc) (hc : bc ≤ 8) (hr : -2147483648 ≤ a ∧ a < 2147483648) (ha : ¬ (0 ≤ a ∧ a < bc)) : f_X10_noPolynomial (ji a) T = some (ji 1, th T 1) := by
  unfold f_X10_noPolynomial
  rw [h]
  simp (disch := omega) only [i0, i1, i2, i3, i4, i5, i6, i7, i8, i12, i16, i20, i30, i39, i40, i60, i64, i97, i100, i256, i1000, i10000, im1, im20, im60, l0, l1, l2, l3, l4, l5, l8, l10000, l1e9, lm10000, jl_add, jl_sub, jl_mul, jl_neg, ji_add, ji_sub, ji_mul, ji_neg, ji_l, jl_i, rL_n, rI_n, dL_n, dI_n, mnI_j, mxI_j, ji_nat, rest_j, part_n, whole_j, times_j, kc_0, kc_gt, kc_lt, kc_le, kc_ge, ji_lt, ji_le, ji_inj, jl_inj, jl_lt, jl_le, b1s, b2s, bEs, bEe, rIs, rIn, rIJ, rJs, rJn, rJI, ifp, ifn, if_true, if_false, isIn_n, noN1]
  rw [if_pos nb1]
/-- how a residue is: '-', 's' or 'm' -/
def rsg (p : Int) (c : Nat → Int) (d : Int) : Int := if ev c d 7 % p = 0 then (if ev (dv c) d 6 % p = 0 then 109 else 115) else 45
theorem signC {S : St} {k n : Nat} {c : Nat → Int} {p d : Int} (hp : 2 ≤ p ∧ p ≤ 97) (hd : 0 ≤ d ∧ d < p) (hc : PolC S k c) (hB : CoB c) (hn : 1 ≤ n ∧ n ≤ 7) (h54 : S.1 (54 + k) 0 = ji n) (hz : ∀ j : Nat, n ≤ j → c j = 0) : f_X4_rootSign k (ji d) (ji p) S = some (ji (rsg p c d)) := by
  have e1 : ev c d 7 = ev c d n := ev_cut 7 hn.2 (fun j a b => hz j a)
  have e2 : ev (dv c) d 6 = ev (dv c) d (n - 1) := ev_cut 6 (by omega) (fun j a b => by unfold dv; rw [hz (j + 1) (by omega), Int.mul_zero])
  have g1 := emod_rng (a := ev c d n) (show 0 < p by omega)
  have g2 := emod_rng (a := ev (dv c) d (n - 1)) (show 0 < p by omega)
  have w := worthC (S := S) (k := k) (n := n) hc hB (x := d) (m := p) (by omega) (by omega) hn.2
  have q := riseC (S := S) (k := k) (n := n) hc hB (x := d) (m := p) (by omega) (by omega) hn.2 hn.1
  have w1 : (109 : Int32) = ji 109 := rfl
  have w2 : (115 : Int32) = ji 115 := rfl
  have w3 : (45 : Int32) = ji 45 := rfl
  unfold f_X4_rootSign rsg
  rw [e1, e2, h54, w1, w2, w3]
  simp (disch := omega) only [i0, i1, i2, i3, i4, i5, i6, i7, i8, i12, i16, i20, i30, i39, i40, i60, i64, i97, i100, i256, i1000, i10000, im1, im20, im60, l0, l1, l2, l3, l4, l5, l8, l10000, l1e9, lm10000, jl_add, jl_sub, jl_mul, jl_neg, ji_add, ji_sub, ji_mul, ji_neg, ji_l, jl_i, rL_n, rI_n, dL_n, dI_n, mnI_j, mxI_j, ji_nat, rest_j, part_n, whole_j, times_j, kc_0, kc_gt, kc_lt, kc_le, kc_ge, ji_lt, ji_le, ji_inj, jl_inj, jl_lt, jl_le, b1s, b2s, bEs, bEe, rIs, rIn, rIJ, rJs, rJn, rJI, ifp, ifn, if_true, if_false, w, q]
  by_cases h1 : ev c d n % p = 0
  · rw [if_pos h1, if_pos h1]
    by_cases h2 : ev (dv c) d (n - 1) % p = 0
    · rw [if_pos h2, if_pos h2]
    · rw [if_neg h2, if_neg h2]
  · rw [if_neg h1, if_neg h1]
theorem signM {T : St} {f : Nat} {c : Nat → Int} {p d : Int} (h : T.1 0 18 = ji p) (hp : 2 ≤ p ∧ p ≤ 97) (hd : 0 ≤ d ∧ d < p) (hf : f < 8) (hc : ∀ j : Nat, j < 7 → T.1 12 (7 * f + j) = ji (c j)) (hB : CoB c) : f_X10_residueOf (ji f) (ji d) T = some (ji (rsg p c d)) := by
  have g1 := emod_rng (a := ev c d 7) (show 0 < p by omega)
  have g2 := emod_rng (a := ev (dv c) d 6) (show 0 < p by omega)
  have w := valueAtM0 (T := T) (b := f) hf hc hB (x := d) (m := p) (by omega) (by omega)
  have q := valueAtM1 (T := T) (b := f) hf hc hB (x := d) (m := p) (by omega) (by omega)
  have w1 : (109 : Int32) = ji 109 := rfl
  have w2 : (115 : Int32) = ji 115 := rfl
  have w3 : (45 : Int32) = ji 45 := rfl
  unfold f_X10_residueOf rsg
  rw [h, w1, w2, w3]
  simp (disch := omega) only [i0, i1, i2, i3, i4, i5, i6, i7, i8, i12, i16, i20, i30, i39, i40, i60, i64, i97, i100, i256, i1000, i10000, im1, im20, im60, l0, l1, l2, l3, l4, l5, l8, l10000, l1e9, lm10000, jl_add, jl_sub, jl_mul, jl_neg, ji_add, ji_sub, ji_mul, ji_neg, ji_l, jl_i, rL_n, rI_n, dL_n, dI_n, mnI_j, mxI_j, ji_nat, rest_j, part_n, whole_j, times_j, kc_0, kc_gt, kc_lt, kc_le, kc_ge, ji_lt, ji_le, ji_inj, jl_inj, jl_lt, jl_le, b1s, b2s, bEs, bEe, rIs, rIn, rIJ, rJs, rJn, rJI, ifp, ifn, if_true, if_false, w, q]
  by_cases h1 : ev c d 7 % p = 0
  · rw [if_pos h1, if_pos h1]
    by_cases h2 : ev (dv c) d 6 % p = 0
    · rw [if_pos h2, if_pos h2]
    · rw [if_neg h2, if_neg h2]
  · rw [if_neg h1, if_neg h1]
theorem rsg_115 {p : Int} {c : Nat → Int} {d : Int} : rsg p c d = 115 ↔ (p ∣ ev c d 7 ∧ ¬ p ∣ ev (dv c) d 6) := by
  unfold rsg
  rw [Int.dvd_iff_emod_eq_zero, Int.dvd_iff_emod_eq_zero]
  by_cases h1 : ev c d 7 % p = 0
  · rw [if_pos h1]
    by_cases h2 : ev (dv c) d 6 % p = 0
    · rw [if_pos h2]
      exact ⟨fun q => absurd q (by decide), fun q => absurd h2 q.2⟩
    · rw [if_neg h2]
      exact ⟨fun _ => ⟨h1, h2⟩, fun _ => rfl⟩
  · rw [if_neg h1]
    exact ⟨fun q => absurd q (by decide), fun q => absurd q.1 h1⟩
theorem rsg_rng {p : Int} {c : Nat → Int} {d : Int} : rsg p c d = 45 ∨ rsg p c d = 109 ∨ rsg p c d = 115 := by
  unfold rsg
  split
  · split
    · exact Or.inr (Or.inl rfl)
    · exact Or.inr (Or.inr rfl)
  · exact Or.inl rfl
theorem keepsM_loop {T : St} {f cnt : Nat} {c : Nat → Int} (hf : f < 8) (hc : cnt < 40) (h19 : T.1 0 19 = ji cnt) (hp : ∀ j : Nat, j < 7 → T.1 12 (7 * f + j) = ji (c j)) : ∀ (N k : Nat) (T1 : St), k ≤ 7 → (∀ o i : Nat, ¬ (o = 11 ∧ 7 * cnt ≤ i ∧ i < 7 * cnt + 7) → T1.1 o i = T.1 o i) → T1.2 = T.2 → (∀ j : Nat, j < k → T1.1 11 (7 * cnt + j) = ji (c j)) → 7 - k < N →
    ∃ T2 : St, itr (fun (q : Int32 × Int32 × St) k => s_X10_keeps_2 (fun (x1 : Int32) (x2 : Int32) (S : St) => k (x1, x2, S)) q.1 q.2.1 q.2.2) N (ji f, ji k, T1) = some T2 ∧ (∀ o i : Nat, ¬ (o = 11 ∧ 7 * cnt ≤ i ∧ i < 7 * cnt + 7) → T2.1 o i = T.1 o i) ∧ T2.2 = T.2 ∧ (∀ j : Nat, j < 7 → T2.1 11 (7 * cnt + j) = ji (c j))
  | 0, _, _, _, _, _, _, h => absurd h (Nat.not_lt_zero _)
  | N + 1, k, T1, hk, g1, g2, g3, hN => by
    rw [itrS]
    have IH := keepsM_loop hf hc h19 hp N (k + 1)
    generalize itr _ N = K at IH
    show ∃ T2 : St, s_X10_keeps_2 _ (ji f) (ji k) T1 = some T2 ∧ _
    unfold s_X10_keeps_2
    have q1 : T1.1 0 19 = ji cnt := (g1 _ _ (by omega)).trans h19
    have w39 : min (39 : Int) (cnt : Int) = cnt := by omega
    have e1 : (7 * (f : Int) + (k : Int)).toNat = 7 * f + k := by omega
    have e2 : (7 * (cnt : Int) + (k : Int)).toNat = 7 * cnt + k := by omega
    by_cases h7 : 7 ≤ k
    · have : k = 7 := by omega
      subst this
      simp (disch := omega) only [i0, i1, i2, i3, i4, i5, i6, i7, i8, i12, i16, i20, i30, i39, i40, i60, i64, i97, i100, i256, i1000, i10000, im1, im20, im60, l0, l1, l2, l3, l4, l5, l8, l10000, l1e9, lm10000, jl_add, jl_sub, jl_mul, jl_neg, ji_add, ji_sub, ji_mul, ji_neg, ji_l, jl_i, rL_n, rI_n, dL_n, dI_n, mnI_j, mxI_j, ji_nat, rest_j, part_n, whole_j, times_j, kc_0, kc_gt, kc_lt, kc_le, kc_ge, ji_lt, ji_le, ji_inj, jl_inj, jl_lt, jl_le, b1s, b2s, bEs, bEe, rIs, rIn, rIJ, rJs, rJn, rJI, ifp, ifn, if_true, if_false]
      exact ⟨T1, rfl, g1, g2, g3⟩
    · have q2 : T1.1 12 (7 * f + k) = ji (c k) := (g1 _ _ (by omega)).trans (hp k (by omega))
      simp (disch := omega) only [i0, i1, i2, i3, i4, i5, i6, i7, i8, i12, i16, i20, i30, i39, i40, i60, i64, i97, i100, i256, i1000, i10000, im1, im20, im60, l0, l1, l2, l3, l4, l5, l8, l10000, l1e9, lm10000, jl_add, jl_sub, jl_mul, jl_neg, ji_add, ji_sub, ji_mul, ji_neg, ji_l, jl_i, rL_n, rI_n, dL_n, dI_n, mnI_j, mxI_j, ji_nat, rest_j, part_n, whole_j, times_j, kc_0, kc_gt, kc_lt, kc_le, kc_ge, ji_lt, ji_le, ji_inj, jl_inj, jl_lt, jl_le, b1s, b2s, bEs, bEe, rIs, rIn, rIJ, rJs, rJn, rJI, ifp, ifn, if_true, if_false, q1, q2, w39, e1, e2]
      rw [show (k : Int) + 1 = ((k + 1 : Nat) : Int) by omega]
      refine IH (wI T1 11 (7 * cnt + k) (ji (c k))) (by omega) (fun o i a => ?_) g2 (fun j hj => ?_) (by omega)
      · rw [rIn (by omega)]; exact g1 o i a
      · by_cases hjk : j = k
        · subst hjk; exact rIs
        · rw [rIn (by omega)]; exact g3 j (by omega)
theorem keepsM {T : St} {f cnt : Nat} {c : Nat → Int} (hf : f < 8) (hc : cnt < 40) (h19 : T.1 0 19 = ji cnt) (hp : ∀ j : Nat, j < 7 → T.1 12 (7 * f + j) = ji (c j)) : ∃ T2 : St, f_X10_keeps (ji f) T = some T2 ∧ (∀ o i : Nat, ¬ (o = 11 ∧ 7 * cnt ≤ i ∧ i < 7 * cnt + 7) → T2.1 o i = T.1 o i) ∧ T2.2 = T.2 ∧ (∀ j : Nat, j < 7 → T2.1 11 (7 * cnt + j) = ji (c j)) :=
  keepsM_loop hf hc h19 hp FU 0 T (by omega) (fun _ _ _ => rfl) rfl (fun j hj => absurd hj (Nat.not_lt_zero _)) (FU_lt (by omega))
