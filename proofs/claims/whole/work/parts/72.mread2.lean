theorem good_un {p m x : Int} {v w : Int} (hv : Good p m x v) (hv2 : ∀ b' : Int, b' < v → ¬ Good p m x b') (hw : Good p m x w) (hu : ∀ b' : Int, Good p m x b' → b' = w) : v = w := hu v hv
theorem wholeDC {S : St} {k : Nat} {x : Int × Int × Int} {p : Int} {r : Nat} (hx : NumC S k x) (wx : Wf p r x) : f_X3_hasWholeDigits k S = some (if 0 ≤ x.1 ∧ 0 < x.2.1 then ji 1 else ji 0) := by
  obtain ⟨a1, a2, a3, -⟩ := wx
  by_cases h1 : 0 ≤ x.1
  · by_cases h2 : 0 < x.2.1
    · rw [if_pos ⟨h1, h2⟩]
      unfold f_X3_hasWholeDigits
      rw [hx.1, hx.2.1]
      simp (disch := omega) only [i0, i1, i2, i3, i4, i5, i6, i7, i8, i12, i16, i20, i30, i39, i40, i60, i64, i97, i100, i256, i1000, i10000, im1, im20, im60, l0, l1, l2, l3, l4, l5, l8, l10000, l1e9, lm10000, jl_add, jl_sub, jl_mul, jl_neg, ji_add, ji_sub, ji_mul, ji_neg, ji_l, jl_i, rL_n, rI_n, dL_n, dI_n, mnI_j, mxI_j, ji_nat, rest_j, part_n, whole_j, times_j, kc_0, kc_gt, kc_lt, kc_le, kc_ge, ji_lt, ji_le, ji_inj, jl_inj, jl_lt, jl_le, b1s, b2s, bEs, bEe, rIs, rIn, rIJ, rJs, rJn, rJI, ifp, ifn, if_true, if_false]
    · rw [if_neg (fun q => h2 q.2)]
      unfold f_X3_hasWholeDigits
      rw [hx.1, hx.2.1]
      simp (disch := omega) only [i0, i1, i2, i3, i4, i5, i6, i7, i8, i12, i16, i20, i30, i39, i40, i60, i64, i97, i100, i256, i1000, i10000, im1, im20, im60, l0, l1, l2, l3, l4, l5, l8, l10000, l1e9, lm10000, jl_add, jl_sub, jl_mul, jl_neg, ji_add, ji_sub, ji_mul, ji_neg, ji_l, jl_i, rL_n, rI_n, dL_n, dI_n, mnI_j, mxI_j, ji_nat, rest_j, part_n, whole_j, times_j, kc_0, kc_gt, kc_lt, kc_le, kc_ge, ji_lt, ji_le, ji_inj, jl_inj, jl_lt, jl_le, b1s, b2s, bEs, bEe, rIs, rIn, rIJ, rJs, rJn, rJI, ifp, ifn, if_true, if_false]
  · rw [if_neg (fun q => h1 q.1)]
    unfold f_X3_hasWholeDigits
    rw [hx.1]
    simp (disch := omega) only [i0, i1, i2, i3, i4, i5, i6, i7, i8, i12, i16, i20, i30, i39, i40, i60, i64, i97, i100, i256, i1000, i10000, im1, im20, im60, l0, l1, l2, l3, l4, l5, l8, l10000, l1e9, lm10000, jl_add, jl_sub, jl_mul, jl_neg, ji_add, ji_sub, ji_mul, ji_neg, ji_l, jl_i, rL_n, rI_n, dL_n, dI_n, mnI_j, mxI_j, ji_nat, rest_j, part_n, whole_j, times_j, kc_0, kc_gt, kc_lt, kc_le, kc_ge, ji_lt, ji_le, ji_inj, jl_inj, jl_lt, jl_le, b1s, b2s, bEs, bEe, rIs, rIn, rIJ, rJs, rJn, rJI, ifp, ifn, if_true, if_false]
theorem good_one {p : Int} {r : Nat} {S : St} {k : Nat} {x : Int × Int × Int} (h : NrC S p r) (hr : Rch p r) (hx : NumC S k x) (wx : Wf p r x) (h0 : 0 ≤ x.1) (hN : 0 < x.2.1) {v w : Int} (hv : Good p (p ^ (min x.2.1 (r : Int)).toNat) (ptS p r x) v) (hw : Good p (p ^ (min x.2.1 (r : Int)).toNat) (ptS p r x) w) : v = w := by
  have hp := hr.1
  have hrr := hr.2.2.2.2
  have g0 := pw_pos hp (min x.2.1 (r : Int)).toNat
  have g3 := emod_rng (a := x.2.2 * p ^ x.1.toNat) g0
  have wx' := wx
  obtain ⟨a1, a2, a3, a4, -⟩ := wx'
  have g1 := hr.le (show (min x.2.1 (r : Int)).toNat ≤ r by omega)
  have hpt : 0 ≤ ptS p r x ∧ ptS p r x < p ^ (min x.2.1 (r : Int)).toNat := g3
  generalize p ^ (min x.2.1 (r : Int)).toNat = m at *
  generalize ptS p r x = X at *
  have hmm : m ≤ 2 * m * m := by
    have := Int.mul_le_mul_of_nonneg_right (show 1 ≤ 2 * m by omega) (show 0 ≤ m by omega)
    omega
  have hj : m * X < 2 ^ 60 := by
    have h3 : m * X ≤ 1000000000 * 1000000000 := Int.mul_le_mul (by omega) (by omega) hpt.1 (by omega)
    have h4 : (2 : Int) ^ 60 = 1152921504606846976 := by decide
    omega
  obtain ⟨r₀, r₁, t₀, t₁, hE, k1, k2, k3, k4⟩ := guessC_loop (S := S) ⟨g0, g1⟩ 60 FU m X 0 1 0 (Eu.init hpt.1 hpt.2) hmm (by omega) hj (by omega) (by omega) (FU_lt (by omega))
  have e1 := (guess_un g0 hE k1 k3 hv).1
  have e2 := (guess_un g0 hE k1 k3 hw).1
  omega
theorem noGuessM {T : St} {p : Int} {r cnt : Nat} {a : Int} {x : Int × Int × Int} (h : T.1 0 18 = ji p) (hr : Rch p r) (h19 : T.1 0 19 = ji cnt) (hc : cnt ≤ 40) (ha : 0 ≤ a ∧ a < cnt) (hx : NumM T a.toNat x) (wx : Wf p r x) :
    (¬ (0 ≤ x.1 ∧ 0 < x.2.1) ∧ f_X10_noGuess (ji a) T = some (ji 1, th T 2)) ∨
    ((0 ≤ x.1 ∧ 0 < x.2.1) ∧ (∀ b : Int, ¬ Good p (p ^ (min x.2.1 (r : Int)).toNat) (ptS p r x) b) ∧ ∃ T2 : St, f_X10_noGuess (ji a) T = some (ji 1, th T2 3) ∧ FrT T T2) ∨
    ((0 ≤ x.1 ∧ 0 < x.2.1) ∧ ∃ (T2 : St) (v : Int), Good p (p ^ (min x.2.1 (r : Int)).toNat) (ptS p r x) v ∧ v ≤ 30000 ∧ f_X10_noGuess (ji a) T = some (ji 0, th T2 0) ∧ FrT T T2 ∧ T2.2 0 26 = jl (ce (p ^ (min x.2.1 (r : Int)).toNat) (ptS p r x) v)) := by
  have wx' := wx
  obtain ⟨a1, a2, a3, a4, -⟩ := wx'
  have n3 := noNum_y h19 hc ha
  have t1 : (th T 0).1 1 a.toNat = ji x.1 := (th_n (by omega)).trans hx.1
  have t2 : (th T 0).1 2 a.toNat = ji x.2.1 := (th_n (by omega)).trans hx.2.1
  unfold f_X10_noGuess n_X10_noGuess_32 n_X10_noGuess_55
  by_cases hd : 0 ≤ x.1 ∧ 0 < x.2.1
  · right
    obtain ⟨T2, v, e1, e2, -, e3, e4, e5⟩ := guessM (T := th T 0) (n := a.toNat) (r := r) ((th_n (by omega)).trans h) hr (by omega) (x := x) ⟨t1, t2, hx.2.2⟩ wx hd.1
    rw [show ((a.toNat : Nat) : Int) = a by omega] at e1
    have F : FrT T T2 := th_fr.trans e2
    rcases e5 with ⟨rfl, q⟩ | ⟨q1, q2, q3⟩
    · left
      refine ⟨hd, q, T2, ?_, F⟩
      simp (disch := omega) only [i0, i1, i2, i3, i4, i5, i6, i7, i8, i12, i16, i20, i30, i39, i40, i60, i64, i97, i100, i256, i1000, i10000, im1, im20, im60, l0, l1, l2, l3, l4, l5, l8, l10000, l1e9, lm10000, jl_add, jl_sub, jl_mul, jl_neg, ji_add, ji_sub, ji_mul, ji_neg, ji_l, jl_i, rL_n, rI_n, dL_n, dI_n, mnI_j, mxI_j, ji_nat, rest_j, part_n, whole_j, times_j, kc_0, kc_gt, kc_lt, kc_le, kc_ge, ji_lt, ji_le, ji_inj, jl_inj, jl_lt, jl_le, b1s, b2s, bEs, bEe, rIs, rIn, rIJ, rJs, rJn, rJI, ifp, ifn, if_true, if_false, n3, t1, t2, noY, th_th, e1, noN3]
    · right
      have := q1.1
      refine ⟨hd, T2, v, q1, e4, ?_, F, q2⟩
      simp (disch := omega) only [i0, i1, i2, i3, i4, i5, i6, i7, i8, i12, i16, i20, i30, i39, i40, i60, i64, i97, i100, i256, i1000, i10000, im1, im20, im60, l0, l1, l2, l3, l4, l5, l8, l10000, l1e9, lm10000, jl_add, jl_sub, jl_mul, jl_neg, ji_add, ji_sub, ji_mul, ji_neg, ji_l, jl_i, rL_n, rI_n, dL_n, dI_n, mnI_j, mxI_j, ji_nat, rest_j, part_n, whole_j, times_j, kc_0, kc_gt, kc_lt, kc_le, kc_ge, ji_lt, ji_le, ji_inj, jl_inj, jl_lt, jl_le, b1s, b2s, bEs, bEe, rIs, rIn, rIJ, rJs, rJn, rJI, ifp, ifn, if_true, if_false, n3, t1, t2, noY, th_th, e1]
  · left
    refine ⟨hd, ?_⟩
    by_cases h1 : 0 ≤ x.1
    · simp (disch := omega) only [i0, i1, i2, i3, i4, i5, i6, i7, i8, i12, i16, i20, i30, i39, i40, i60, i64, i97, i100, i256, i1000, i10000, im1, im20, im60, l0, l1, l2, l3, l4, l5, l8, l10000, l1e9, lm10000, jl_add, jl_sub, jl_mul, jl_neg, ji_add, ji_sub, ji_mul, ji_neg, ji_l, jl_i, rL_n, rI_n, dL_n, dI_n, mnI_j, mxI_j, ji_nat, rest_j, part_n, whole_j, times_j, kc_0, kc_gt, kc_lt, kc_le, kc_ge, ji_lt, ji_le, ji_inj, jl_inj, jl_lt, jl_le, b1s, b2s, bEs, bEe, rIs, rIn, rIJ, rJs, rJn, rJI, ifp, ifn, if_true, if_false, n3, t1, t2, noN2, th_th]
    · simp (disch := omega) only [i0, i1, i2, i3, i4, i5, i6, i7, i8, i12, i16, i20, i30, i39, i40, i60, i64, i97, i100, i256, i1000, i10000, im1, im20, im60, l0, l1, l2, l3, l4, l5, l8, l10000, l1e9, lm10000, jl_add, jl_sub, jl_mul, jl_neg, ji_add, ji_sub, ji_mul, ji_neg, ji_l, jl_i, rL_n, rI_n, dL_n, dI_n, mnI_j, mxI_j, ji_nat, rest_j, part_n, whole_j, times_j, kc_0, kc_gt, kc_lt, kc_le, kc_ge, ji_lt, ji_le, ji_inj, jl_inj, jl_lt, jl_le, b1s, b2s, bEs, bEe, rIs, rIn, rIJ, rJs, rJn, rJI, ifp, ifn, if_true, if_false, n3, t1, noN2, th_th]
theorem T_denominator {S T : St} (h : Rel S T) (a : Int32) : AnR [(3, 1), (5, 2), (6, 3)] S (f_X9_denominator a S) (f_X10_denominator a T) := by
  obtain ⟨a, rfl, ha⟩ := ji_ex a
  have hh := h
  obtain ⟨p, r, cnt, num, early, D, C, bc, cn, pc, rowc, rv, sz, en, h1, h2, h3, h4⟩ := hh
  have hr := h1.2.1
  have hN := h1.2.2.1
  have hp18 := h1.2.2.2.1
  have c5 := h1.2.2.2.2.1
  have c6 := h1.2.2.2.2.2.1
  have c7 := h1.2.2.2.2.2.2.1
  unfold f_X9_denominator f_X10_denominator f_X9_guessedBottomOrThrow
  by_cases hab : 0 ≤ a ∧ a < cnt
  · obtain ⟨xa, ma, wa, -⟩ := num3 hab h1.2.2.2.2.2.2.2
    have n1 := needN_y c5 c7 hab
    have n4 := numbC (S := S) (n := 40) (v := a) ⟨hab.1, by omega⟩ (by omega)
    have wd := wholeDC xa wa
    rcases noGuessM hp18 hr c6 c7 hab ma wa with ⟨hd, e⟩ | ⟨hd, hno, T2, e, f⟩ | ⟨hd, T2, v, hg, hv, e, f, q26⟩
    · rw [if_neg hd] at wd
      simp (disch := omega) only [i0, i1, i2, i3, i4, i5, i6, i7, i8, i12, i16, i20, i30, i39, i40, i60, i64, i97, i100, i256, i1000, i10000, im1, im20, im60, l0, l1, l2, l3, l4, l5, l8, l10000, l1e9, lm10000, jl_add, jl_sub, jl_mul, jl_neg, ji_add, ji_sub, ji_mul, ji_neg, ji_l, jl_i, rL_n, rI_n, dL_n, dI_n, mnI_j, mxI_j, ji_nat, rest_j, part_n, whole_j, times_j, kc_0, kc_gt, kc_lt, kc_le, kc_ge, ji_lt, ji_le, ji_inj, jl_inj, jl_lt, jl_le, b1s, b2s, bEs, bEe, rIs, rIn, rIJ, rJs, rJn, rJI, ifp, ifn, if_true, if_false, n1, n4, wd, e]
      exact ⟨th T 2, _, rfl, rel_fr h (FrS.refl S) th_fr, Or.inr ⟨(5, 2), by simp, rfl, th_17⟩⟩
    · rw [if_pos hd] at wd
      obtain ⟨w, ew, hw0, hw⟩ := guessC hN hr xa wa hd.1 hd.2
      have : w = 0 := by
        rcases hw with ⟨q, -⟩ | q
        · exact q
        · exact absurd q (hno _)
      subst this
      simp (disch := omega) only [i0, i1, i2, i3, i4, i5, i6, i7, i8, i12, i16, i20, i30, i39, i40, i60, i64, i97, i100, i256, i1000, i10000, im1, im20, im60, l0, l1, l2, l3, l4, l5, l8, l10000, l1e9, lm10000, jl_add, jl_sub, jl_mul, jl_neg, ji_add, ji_sub, ji_mul, ji_neg, ji_l, jl_i, rL_n, rI_n, dL_n, dI_n, mnI_j, mxI_j, ji_nat, rest_j, part_n, whole_j, times_j, kc_0, kc_gt, kc_lt, kc_le, kc_ge, ji_lt, ji_le, ji_inj, jl_inj, jl_lt, jl_le, b1s, b2s, bEs, bEe, rIs, rIn, rIJ, rJs, rJn, rJI, ifp, ifn, if_true, if_false, n1, n4, wd, e, ew]
      exact ⟨th T2 3, _, rfl, rel_fr h (FrS.refl S) (f.trans th_fr), Or.inr ⟨(6, 3), by simp, rfl, th_17⟩⟩
    · rw [if_pos hd] at wd
      obtain ⟨w, ew, hw0, hw⟩ := guessC hN hr xa wa hd.1 hd.2
      have hwv : w = v := by
        rcases hw with ⟨-, q⟩ | q
        · exact absurd hg (q _)
        · exact good_one hN hr xa wa hd.1 hd.2 q hg
      subst hwv
      have F2 : FrT T (th T2 0) := f.trans th_fr
      obtain ⟨T3, v3, e1, e2, e6, e3, e4, e5⟩ := guessM (T := th T2 0) (n := a.toNat) (r := r) ((F2.1 _ _ (by omega) (by omega) (by omega) (by omega)).trans hp18) hr (by omega) (x := num a.toNat) ⟨(F2.1 _ _ (by omega) (by omega) (by omega) (by omega)).trans ma.1, (F2.1 _ _ (by omega) (by omega) (by omega) (by omega)).trans ma.2.1, (F2.2 _ _ (by omega)).trans ma.2.2⟩ wa hd.1
      rw [show ((a.toNat : Nat) : Int) = a by omega] at e1
      have hv3 : v3 = w := by
        rcases e5 with ⟨-, q⟩ | ⟨q, -⟩
        · exact absurd hg (q _)
        · exact good_one hN hr xa wa hd.1 hd.2 q hg
      subst hv3
      have := hg.1
      simp (disch := omega) only [i0, i1, i2, i3, i4, i5, i6, i7, i8, i12, i16, i20, i30, i39, i40, i60, i64, i97, i100, i256, i1000, i10000, im1, im20, im60, l0, l1, l2, l3, l4, l5, l8, l10000, l1e9, lm10000, jl_add, jl_sub, jl_mul, jl_neg, ji_add, ji_sub, ji_mul, ji_neg, ji_l, jl_i, rL_n, rI_n, dL_n, dI_n, mnI_j, mxI_j, ji_nat, rest_j, part_n, whole_j, times_j, kc_0, kc_gt, kc_lt, kc_le, kc_ge, ji_lt, ji_le, ji_inj, jl_inj, jl_lt, jl_le, b1s, b2s, bEs, bEe, rIs, rIn, rIJ, rJs, rJn, rJI, ifp, ifn, if_true, if_false, n1, n4, wd, e, ew, e1]
      refine ⟨T3, _, rfl, rel_fr h (FrS.refl S) (F2.trans e2), Or.inl ⟨rfl, ?_⟩⟩
      rw [e6]
      exact th_17
  · have n1 := needN_n c5 c7 ha hab
    have n3 := noNum_n c6 c7 ha hab
    unfold f_X10_noGuess
    simp (disch := omega) only [i0, i1, i2, i3, i4, i5, i6, i7, i8, i12, i16, i20, i30, i39, i40, i60, i64, i97, i100, i256, i1000, i10000, im1, im20, im60, l0, l1, l2, l3, l4, l5, l8, l10000, l1e9, lm10000, jl_add, jl_sub, jl_mul, jl_neg, ji_add, ji_sub, ji_mul, ji_neg, ji_l, jl_i, rL_n, rI_n, dL_n, dI_n, mnI_j, mxI_j, ji_nat, rest_j, part_n, whole_j, times_j, kc_0, kc_gt, kc_lt, kc_le, kc_ge, ji_lt, ji_le, ji_inj, jl_inj, jl_lt, jl_le, b1s, b2s, bEs, bEe, rIs, rIn, rIJ, rJs, rJn, rJI, ifp, ifn, if_true, if_false, n1, n3]
    exact ⟨th T 1, _, rfl, rel_fr h (FrS.refl S) th_fr, Or.inr ⟨(3, 1), by simp, rfl, th_17⟩⟩
theorem T_numerator {S T : St} (h : Rel S T) (a : Int32) : AnR [(3, 1), (5, 2), (6, 3)] S (f_X9_numerator a S) (f_X10_numerator a T) := by
  obtain ⟨a, rfl, ha⟩ := ji_ex a
  have hh := h
  obtain ⟨p, r, cnt, num, early, D, C, bc, cn, pc, rowc, rv, sz, en, h1, h2, h3, h4⟩ := hh
  have hr := h1.2.1
  have hN := h1.2.2.1
  have hp18 := h1.2.2.2.1
  have c5 := h1.2.2.2.2.1
  have c6 := h1.2.2.2.2.2.1
  have c7 := h1.2.2.2.2.2.2.1
  unfold f_X9_numerator f_X10_numerator f_X9_guessedBottomOrThrow
  by_cases hab : 0 ≤ a ∧ a < cnt
  · obtain ⟨xa, ma, wa, -⟩ := num3 hab h1.2.2.2.2.2.2.2
    have n1 := needN_y c5 c7 hab
    have n4 := numbC (S := S) (n := 40) (v := a) ⟨hab.1, by omega⟩ (by omega)
    have wd := wholeDC xa wa
    rcases noGuessM hp18 hr c6 c7 hab ma wa with ⟨hd, e⟩ | ⟨hd, hno, T2, e, f⟩ | ⟨hd, T2, v, hg, hv, e, f, q26⟩
    · rw [if_neg hd] at wd
      simp (disch := omega) only [i0, i1, i2, i3, i4, i5, i6, i7, i8, i12, i16, i20, i30, i39, i40, i60, i64, i97, i100, i256, i1000, i10000, im1, im20, im60, l0, l1, l2, l3, l4, l5, l8, l10000, l1e9, lm10000, jl_add, jl_sub, jl_mul, jl_neg, ji_add, ji_sub, ji_mul, ji_neg, ji_l, jl_i, rL_n, rI_n, dL_n, dI_n, mnI_j, mxI_j, ji_nat, rest_j, part_n, whole_j, times_j, kc_0, kc_gt, kc_lt, kc_le, kc_ge, ji_lt, ji_le, ji_inj, jl_inj, jl_lt, jl_le, b1s, b2s, bEs, bEe, rIs, rIn, rIJ, rJs, rJn, rJI, ifp, ifn, if_true, if_false, n1, n4, wd, e]
      exact ⟨th T 2, _, rfl, rel_fr h (FrS.refl S) th_fr, Or.inr ⟨(5, 2), by simp, rfl, th_17⟩⟩
    · rw [if_pos hd] at wd
      obtain ⟨w, ew, hw0, hw⟩ := guessC hN hr xa wa hd.1 hd.2
      have : w = 0 := by
        rcases hw with ⟨q, -⟩ | q
        · exact q
        · exact absurd q (hno _)
      subst this
      simp (disch := omega) only [i0, i1, i2, i3, i4, i5, i6, i7, i8, i12, i16, i20, i30, i39, i40, i60, i64, i97, i100, i256, i1000, i10000, im1, im20, im60, l0, l1, l2, l3, l4, l5, l8, l10000, l1e9, lm10000, jl_add, jl_sub, jl_mul, jl_neg, ji_add, ji_sub, ji_mul, ji_neg, ji_l, jl_i, rL_n, rI_n, dL_n, dI_n, mnI_j, mxI_j, ji_nat, rest_j, part_n, whole_j, times_j, kc_0, kc_gt, kc_lt, kc_le, kc_ge, ji_lt, ji_le, ji_inj, jl_inj, jl_lt, jl_le, b1s, b2s, bEs, bEe, rIs, rIn, rIJ, rJs, rJn, rJI, ifp, ifn, if_true, if_false, n1, n4, wd, e, ew]
      exact ⟨th T2 3, _, rfl, rel_fr h (FrS.refl S) (f.trans th_fr), Or.inr ⟨(6, 3), by simp, rfl, th_17⟩⟩
    · rw [if_pos hd] at wd
      obtain ⟨w, ew, hw0, hw⟩ := guessC hN hr xa wa hd.1 hd.2
      have hwv : w = v := by
        rcases hw with ⟨-, q⟩ | q
        · exact absurd hg (q _)
        · exact good_one hN hr xa wa hd.1 hd.2 q hg
      subst hwv
      have hw1 := hg.1
      have q26' : (th T2 0).2 0 26 = jl (ce (p ^ (min (num a.toNat).2.1 (r : Int)).toNat) (ptS p r (num a.toNat)) w) := q26
      have top : f_X5_guessedTop a.toNat (jl w) S = some (jl (ce (p ^ (min (num a.toNat).2.1 (r : Int)).toNat) (ptS p r (num a.toNat)) w)) := by
        have wx := wa
        obtain ⟨a1, a2, a3, a4, -⟩ := wx
        have hrr := hr.2.2.2.2
        have g0 := pw_pos hr.1 (min (num a.toNat).2.1 (r : Int)).toNat
        have g3 := emod_rng (a := (num a.toNat).2.2 * p ^ (num a.toNat).1.toNat) g0
        have g1 := hr.le (show (min (num a.toNat).2.1 (r : Int)).toNat ≤ r by omega)
        have g4 := emod_rng (a := w * ptS p r (num a.toNat)) g0
        unfold f_X5_guessedTop f_X5_guessSpan
        rw [xa.2.1, hN.2.1, mnI_j (by omega) (by omega), b1s, pwC' hN hr (by omega), b1s, i0, wholeC hN hr xa wa hd.1 (by omega) (by omega) (by omega), b1s, Int.sub_zero, Int.sub_zero]
        have hpt : (num a.toNat).2.2 * p ^ (num a.toNat).1.toNat % p ^ (min (num a.toNat).2.1 (r : Int)).toNat = ptS p r (num a.toNat) := rfl
        rw [hpt] at g3 ⊢
        simp (disch := omega) only [i0, i1, i2, i3, i4, i5, i6, i7, i8, i12, i16, i20, i30, i39, i40, i60, i64, i97, i100, i256, i1000, i10000, im1, im20, im60, l0, l1, l2, l3, l4, l5, l8, l10000, l1e9, lm10000, jl_add, jl_sub, jl_mul, jl_neg, ji_add, ji_sub, ji_mul, ji_neg, ji_l, jl_i, rL_n, rI_n, dL_n, dI_n, mnI_j, mxI_j, ji_nat, rest_j, part_n, whole_j, times_j, kc_0, kc_gt, kc_lt, kc_le, kc_ge, ji_lt, ji_le, ji_inj, jl_inj, jl_lt, jl_le, b1s, b2s, bEs, bEe, rIs, rIn, rIJ, rJs, rJn, rJI, ifp, ifn, if_true, if_false]
        unfold ce
        by_cases q : 2 * (w * ptS p r (num a.toNat) % p ^ (min (num a.toNat).2.1 (r : Int)).toNat) ≤ p ^ (min (num a.toNat).2.1 (r : Int)).toNat
        · rw [if_pos q, if_pos q]
        · rw [if_neg q, if_neg q]
      simp (disch := omega) only [i0, i1, i2, i3, i4, i5, i6, i7, i8, i12, i16, i20, i30, i39, i40, i60, i64, i97, i100, i256, i1000, i10000, im1, im20, im60, l0, l1, l2, l3, l4, l5, l8, l10000, l1e9, lm10000, jl_add, jl_sub, jl_mul, jl_neg, ji_add, ji_sub, ji_mul, ji_neg, ji_l, jl_i, rL_n, rI_n, dL_n, dI_n, mnI_j, mxI_j, ji_nat, rest_j, part_n, whole_j, times_j, kc_0, kc_gt, kc_lt, kc_le, kc_ge, ji_lt, ji_le, ji_inj, jl_inj, jl_lt, jl_le, b1s, b2s, bEs, bEe, rIs, rIn, rIJ, rJs, rJn, rJI, ifp, ifn, if_true, if_false, n1, n4, wd, e, ew, q26', top]
      exact ⟨th T2 0, _, rfl, rel_fr h (FrS.refl S) (f.trans th_fr), Or.inl ⟨rfl, th_17⟩⟩
  · have n1 := needN_n c5 c7 ha hab
    have n3 := noNum_n c6 c7 ha hab
    unfold f_X10_noGuess
    simp (disch := omega) only [i0, i1, i2, i3, i4, i5, i6, i7, i8, i12, i16, i20, i30, i39, i40, i60, i64, i97, i100, i256, i1000, i10000, im1, im20, im60, l0, l1, l2, l3, l4, l5, l8, l10000, l1e9, lm10000, jl_add, jl_sub, jl_mul, jl_neg, ji_add, ji_sub, ji_mul, ji_neg, ji_l, jl_i, rL_n, rI_n, dL_n, dI_n, mnI_j, mxI_j, ji_nat, rest_j, part_n, whole_j, times_j, kc_0, kc_gt, kc_lt, kc_le, kc_ge, ji_lt, ji_le, ji_inj, jl_inj, jl_lt, jl_le, b1s, b2s, bEs, bEe, rIs, rIn, rIJ, rJs, rJn, rJI, ifp, ifn, if_true, if_false, n1, n3]
    exact ⟨th T 1, _, rfl, rel_fr h (FrS.refl S) th_fr, Or.inr ⟨(3, 1), by simp, rfl, th_17⟩⟩
/-! where two numbers part -/
theorem setC40_fr {S : St} {x : Int × Int × Int} : FrS S (setC S 40 x) := by
  unfold setC
  exact ⟨fun o i a b c => by simp (disch := omega) only [rIs, rIn, rIJ, rJs, rJn, rJI], fun o i a b c => by simp (disch := omega) only [rIs, rIn, rIJ, rJs, rJn, rJI]⟩
theorem splitsC {S : St} {p : Int} {r k1 k2 : Nat} {x y : Int × Int × Int} (h : NrC S p r) (hr : Rch p r) (hx : NumC S k1 x) (hy : NumC S k2 y) (wx : Wf p r x) (wy : Wf p r y) : f_X5_splitsAt k1 k2 S = some (ji (if (sumS p r x y (-1)).2.2 = 0 then 1000 else (sumS p r x y (-1)).1), setC S 40 (sumS p r x y (-1))) := by
  have wz := sum_wf (s := -1) hr wx wy
  have n40 : NumC (setC S 40 (sumS p r x y (-1))) 40 (sumS p r x y (-1)) := by
    unfold setC
    refine ⟨?_, ?_, ?_⟩ <;> simp (disch := omega) only [rIs, rIn, rIJ, rJs, rJn, rJI]
  have nt := nothC n40 wz
  unfold f_X5_splitsAt
  rw [im1, findSumC (o := 40) h hr hx hy wx wy (Or.inr rfl), b1s, nt, b1s]
  by_cases q : (sumS p r x y (-1)).2.2 = 0
  · rw [if_pos q, if_pos q, ifn (show ¬ ji 1 = (0 : Int32) by decide)]
    rfl
  · rw [if_neg q, if_neg q, ifp (show ji 0 = (0 : Int32) from rfl), n40.1]
theorem T_agree {S T : St} (h : Rel S T) (a b : Int32) : An [(3, 1)] (f_X9_agree a b S) (f_X10_agree a b T) := by
  obtain ⟨a, rfl, ha⟩ := ji_ex a
  obtain ⟨b, rfl, hb⟩ := ji_ex b
  have hh := h
  obtain ⟨p, r, cnt, num, early, D, C, bc, cn, pc, rowc, rv, sz, en, h1, h2, h3, h4⟩ := hh
  have hr := h1.2.1
  have hN := h1.2.2.1
  have hp18 := h1.2.2.2.1
  have c5 := h1.2.2.2.2.1
  have c6 := h1.2.2.2.2.2.1
  have c7 := h1.2.2.2.2.2.2.1
  have c8 := h1.2.2.2.2.2.2.2
  unfold f_X9_agree f_X10_agree
  by_cases hab : (0 ≤ a ∧ a < cnt) ∧ (0 ≤ b ∧ b < cnt)
  · obtain ⟨xa, ma, wa, -⟩ := num3 hab.1 c8
    obtain ⟨xb, mb, wb, -⟩ := num3 hab.2 c8
    have hab1 := hab.1
    have hab2 := hab.2
    have n1 := needN_y c5 c7 hab.1
    have n2 := needN_y c5 c7 hab.2
    have n3 := noNums_y c6 c7 hab.1 hab.2
    have n4 := numbC (S := S) (n := 40) (v := a) ⟨hab.1.1, by omega⟩ (by omega)
    have n5 := numbC (S := S) (n := 40) (v := b) ⟨hab.2.1, by omega⟩ (by omega)
    have sp := splitsC hN hr xa xb wa wb
    have wz := sum_wf (s := -1) hr wa wb
    have uz := wz.u9 hr
    have sm := sumM (T := th T 0) (n := a.toNat) (m := b.toNat) (s := -1) ((th_n (by omega)).trans hp18) hr (by omega) (by omega) (x := num a.toNat) (y := num b.toNat) ⟨(th_n (by omega)).trans ma.1, (th_n (by omega)).trans ma.2.1, ma.2.2⟩ ⟨(th_n (by omega)).trans mb.1, (th_n (by omega)).trans mb.2.1, mb.2.2⟩ wa wb (Or.inr rfl)
    rw [show ((a.toNat : Nat) : Int) = a by omega, show ((b.toNat : Nat) : Int) = b by omega] at sm
    have f26 : (setF (th T 0) (sumS p r (num a.toNat) (num b.toNat) (-1))).2 0 26 = jl (sumS p r (num a.toNat) (num b.toNat) (-1)).2.2 := by unfold setF; simp (disch := omega) only [rIs, rIn, rIJ, rJs, rJn, rJI]
    have f17 : (setF (th T 0) (sumS p r (num a.toNat) (num b.toNat) (-1))).1 0 17 = ji 0 := by unfold setF; simp (disch := omega) only [rIs, rIn, rIJ, rJs, rJn, rJI]; exact th_17
    have F : FrT T (setF (th T 0) (sumS p r (num a.toNat) (num b.toNat) (-1))) := th_fr.trans setF_fr
    generalize sumS p r (num a.toNat) (num b.toNat) (-1) = z at *
    obtain ⟨z1, z2, z3, -⟩ := wz
    by_cases q : z.2.2 = 0
    · rw [if_pos q] at sp
      simp (disch := omega) only [i0, i1, i2, i3, i4, i5, i6, i7, i8, i12, i16, i20, i30, i39, i40, i60, i64, i97, i100, i256, i1000, i10000, im1, im20, im60, l0, l1, l2, l3, l4, l5, l8, l10000, l1e9, lm10000, jl_add, jl_sub, jl_mul, jl_neg, ji_add, ji_sub, ji_mul, ji_neg, ji_l, jl_i, rL_n, rI_n, dL_n, dI_n, mnI_j, mxI_j, ji_nat, rest_j, part_n, whole_j, times_j, kc_0, kc_gt, kc_lt, kc_le, kc_ge, ji_lt, ji_le, ji_inj, jl_inj, jl_lt, jl_le, b1s, b2s, bEs, bEe, rIs, rIn, rIJ, rJs, rJn, rJI, ifp, ifn, if_true, if_false, n1, n2, n3, n4, n5, sp, sm, f26]
      exact ⟨_, _, _, rfl, rel_fr h setC40_fr F, Or.inl ⟨rfl, f17⟩⟩
    · rw [if_neg q] at sp
      simp (disch := omega) only [i0, i1, i2, i3, i4, i5, i6, i7, i8, i12, i16, i20, i30, i39, i40, i60, i64, i97, i100, i256, i1000, i10000, im1, im20, im60, l0, l1, l2, l3, l4, l5, l8, l10000, l1e9, lm10000, jl_add, jl_sub, jl_mul, jl_neg, ji_add, ji_sub, ji_mul, ji_neg, ji_l, jl_i, rL_n, rI_n, dL_n, dI_n, mnI_j, mxI_j, ji_nat, rest_j, part_n, whole_j, times_j, kc_0, kc_gt, kc_lt, kc_le, kc_ge, ji_lt, ji_le, ji_inj, jl_inj, jl_lt, jl_le, b1s, b2s, bEs, bEe, rIs, rIn, rIJ, rJs, rJn, rJI, ifp, ifn, if_true, if_false, n1, n2, n3, n4, n5, sp, sm, f26]
      exact ⟨_, _, _, rfl, rel_fr h setC40_fr F, Or.inl ⟨rfl, f17⟩⟩
  · rw [noNums_n c6 c7 ha hb hab, b2s, ifn (show ¬ ji 1 = (0 : Int32) by decide)]
    refine ⟨S, th T 1, 0, rfl, rel_fr h (FrS.refl S) th_fr, Or.inr ⟨(3, 1), by simp, ?_, th_17⟩⟩
    by_cases q : 0 ≤ a ∧ a < cnt
    · rw [needN_y c5 c7 q, bEs, needN_n c5 c7 hb (fun q' => hab ⟨q, q'⟩), bEe]
    · rw [needN_n c5 c7 ha q, bEe]
theorem T_distance {S T : St} (h : Rel S T) (a c b e : Int32) : An [(3, 1), (1, 2)] (f_X9_distance a c b e S) (f_X10_distance a c b e T) := by
  obtain ⟨a, rfl, ha⟩ := ji_ex a
  obtain ⟨b, rfl, hb⟩ := ji_ex b
  obtain ⟨c, rfl, hc0⟩ := ji_ex c
  obtain ⟨e, rfl, he0⟩ := ji_ex e
  have hh := h
  obtain ⟨p, r, cnt, num, early, D, C, bc, cn, pc, rowc, rv, sz, en, h1, h2, h3, h4⟩ := hh
  have hr := h1.2.1
  have hN := h1.2.2.1
  have hp18 := h1.2.2.2.1
  have c5 := h1.2.2.2.2.1
  have c6 := h1.2.2.2.2.2.1
  have c7 := h1.2.2.2.2.2.2.1
  have c8 := h1.2.2.2.2.2.2.2
  have w6 : (-60 : Int64) = jl (-60) := rfl
  unfold f_X9_distance f_X10_distance n_X10_distance_52 n_X10_distance_86
  rw [w6]
  by_cases hab : (0 ≤ a ∧ a < cnt) ∧ (0 ≤ b ∧ b < cnt)
  · obtain ⟨xa, ma, wa, -⟩ := num3 hab.1 c8
    obtain ⟨xb, mb, wb, -⟩ := num3 hab.2 c8
    have hab1 := hab.1
    have hab2 := hab.2
    have n1 := needN_y c5 c7 hab.1
    have n2 := needN_y c5 c7 hab.2
    have n3 := noNums_y c6 c7 hab.1 hab.2
    have n4 := numbC (S := S) (n := 40) (v := a) ⟨hab.1.1, by omega⟩ (by omega)
    have n5 := numbC (S := S) (n := 40) (v := b) ⟨hab.2.1, by omega⟩ (by omega)
    have s1 := xa.2.1
    have s2 := xb.2.1
    have t1 : (th T 0).1 2 a.toNat = ji (num a.toNat).2.1 := (th_n (by omega)).trans ma.2.1
    have t2 : (th T 0).1 2 b.toNat = ji (num b.toNat).2.1 := (th_n (by omega)).trans mb.2.1
    have va := wa
    obtain ⟨a1, a2, a3, -⟩ := va
    have vb := wb
    obtain ⟨b1', b2', b3', -⟩ := vb
    by_cases g1 : -60 ≤ c ∧ c ≤ (num a.toNat).2.1
    · by_cases g2 : -60 ≤ e ∧ e ≤ (num b.toNat).2.1
      · have sp := splitsC hN hr xa xb wa wb
        have wz := sum_wf (s := -1) hr wa wb
        have uz := wz.u9 hr
        have sm := sumM (T := th T 0) (n := a.toNat) (m := b.toNat) (s := -1) ((th_n (by omega)).trans hp18) hr (by omega) (by omega) (x := num a.toNat) (y := num b.toNat) ⟨(th_n (by omega)).trans ma.1, t1, ma.2.2⟩ ⟨(th_n (by omega)).trans mb.1, t2, mb.2.2⟩ wa wb (Or.inr rfl)
        rw [show ((a.toNat : Nat) : Int) = a by omega, show ((b.toNat : Nat) : Int) = b by omega] at sm
        have f26 : (setF (th T 0) (sumS p r (num a.toNat) (num b.toNat) (-1))).2 0 26 = jl (sumS p r (num a.toNat) (num b.toNat) (-1)).2.2 := by unfold setF; simp (disch := omega) only [rIs, rIn, rIJ, rJs, rJn, rJI]
        have f23 : (setF (th T 0) (sumS p r (num a.toNat) (num b.toNat) (-1))).1 0 23 = ji (sumS p r (num a.toNat) (num b.toNat) (-1)).1 := by unfold setF; simp (disch := omega) only [rIs, rIn, rIJ, rJs, rJn, rJI]
        have f17 : (setF (th T 0) (sumS p r (num a.toNat) (num b.toNat) (-1))).1 0 17 = ji 0 := by unfold setF; simp (disch := omega) only [rIs, rIn, rIJ, rJs, rJn, rJI]; exact th_17
        have F : FrT T (setF (th T 0) (sumS p r (num a.toNat) (num b.toNat) (-1))) := th_fr.trans setF_fr
        generalize sumS p r (num a.toNat) (num b.toNat) (-1) = z at *
        obtain ⟨z1, z2, z3, -⟩ := wz
        by_cases q : z.2.2 = 0
        · rw [if_pos q] at sp
          simp (disch := omega) only [i0, i1, i2, i3, i4, i5, i6, i7, i8, i12, i16, i20, i30, i39, i40, i60, i64, i97, i100, i256, i1000, i10000, im1, im20, im60, l0, l1, l2, l3, l4, l5, l8, l10000, l1e9, lm10000, jl_add, jl_sub, jl_mul, jl_neg, ji_add, ji_sub, ji_mul, ji_neg, ji_l, jl_i, rL_n, rI_n, dL_n, dI_n, mnI_j, mxI_j, ji_nat, rest_j, part_n, whole_j, times_j, kc_0, kc_gt, kc_lt, kc_le, kc_ge, ji_lt, ji_le, ji_inj, jl_inj, jl_lt, jl_le, b1s, b2s, bEs, bEe, rIs, rIn, rIJ, rJs, rJn, rJI, ifp, ifn, if_true, if_false, n1, n2, n3, n4, n5, s1, s2, t1, t2, needW_y, isIn_y, noY, th_th, sp, sm, f26]
          refine ⟨setC S 40 z, setF (th T 0) z, _, rfl, rel_fr h setC40_fr F, Or.inl ⟨?_, f17⟩⟩
          rw [show c - min (min c e) 1000 + e - min (min c e) 1000 = c + e - 2 * min 60 (min c e) by omega]
        · rw [if_neg q] at sp
          simp (disch := omega) only [i0, i1, i2, i3, i4, i5, i6, i7, i8, i12, i16, i20, i30, i39, i40, i60, i64, i97, i100, i256, i1000, i10000, im1, im20, im60, l0, l1, l2, l3, l4, l5, l8, l10000, l1e9, lm10000, jl_add, jl_sub, jl_mul, jl_neg, ji_add, ji_sub, ji_mul, ji_neg, ji_l, jl_i, rL_n, rI_n, dL_n, dI_n, mnI_j, mxI_j, ji_nat, rest_j, part_n, whole_j, times_j, kc_0, kc_gt, kc_lt, kc_le, kc_ge, ji_lt, ji_le, ji_inj, jl_inj, jl_lt, jl_le, b1s, b2s, bEs, bEe, rIs, rIn, rIJ, rJs, rJn, rJI, ifp, ifn, if_true, if_false, n1, n2, n3, n4, n5, s1, s2, t1, t2, needW_y, isIn_y, noY, th_th, sp, sm, f26, f23]
          refine ⟨setC S 40 z, setF (th T 0) z, _, rfl, rel_fr h setC40_fr F, Or.inl ⟨?_, f17⟩⟩
          rw [show c - min (min c e) z.1 + e - min (min c e) z.1 = c + e - 2 * min z.1 (min c e) by omega]
      · simp (disch := omega) only [i0, i1, i2, i3, i4, i5, i6, i7, i8, i12, i16, i20, i30, i39, i40, i60, i64, i97, i100, i256, i1000, i10000, im1, im20, im60, l0, l1, l2, l3, l4, l5, l8, l10000, l1e9, lm10000, jl_add, jl_sub, jl_mul, jl_neg, ji_add, ji_sub, ji_mul, ji_neg, ji_l, jl_i, rL_n, rI_n, dL_n, dI_n, mnI_j, mxI_j, ji_nat, rest_j, part_n, whole_j, times_j, kc_0, kc_gt, kc_lt, kc_le, kc_ge, ji_lt, ji_le, ji_inj, jl_inj, jl_lt, jl_le, b1s, b2s, bEs, bEe, rIs, rIn, rIJ, rJs, rJn, rJI, ifp, ifn, if_true, if_false, n1, n2, n3, n4, n5, s1, s2, t1, t2, needW_y, needW_n, isIn_y, isIn_n, noN2, th_th]
        exact ⟨S, th T 2, ji 0, rfl, rel_fr h (FrS.refl S) th_fr, Or.inr ⟨(1, 2), by simp, rfl, th_17⟩⟩
    · simp (disch := omega) only [i0, i1, i2, i3, i4, i5, i6, i7, i8, i12, i16, i20, i30, i39, i40, i60, i64, i97, i100, i256, i1000, i10000, im1, im20, im60, l0, l1, l2, l3, l4, l5, l8, l10000, l1e9, lm10000, jl_add, jl_sub, jl_mul, jl_neg, ji_add, ji_sub, ji_mul, ji_neg, ji_l, jl_i, rL_n, rI_n, dL_n, dI_n, mnI_j, mxI_j, ji_nat, rest_j, part_n, whole_j, times_j, kc_0, kc_gt, kc_lt, kc_le, kc_ge, ji_lt, ji_le, ji_inj, jl_inj, jl_lt, jl_le, b1s, b2s, bEs, bEe, rIs, rIn, rIJ, rJs, rJn, rJI, ifp, ifn, if_true, if_false, n1, n2, n3, n4, n5, s1, t1, needW_n, isIn_n, noN2, th_th]
      exact ⟨S, th T 2, ji 0, rfl, rel_fr h (FrS.refl S) th_fr, Or.inr ⟨(1, 2), by simp, rfl, th_17⟩⟩
  · rw [noNums_n c6 c7 ha hb hab, b2s, ifn (show ¬ ji 1 = (0 : Int32) by decide)]
    refine ⟨S, th T 1, 0, rfl, rel_fr h (FrS.refl S) th_fr, Or.inr ⟨(3, 1), by simp, ?_, th_17⟩⟩
    by_cases q : 0 ≤ a ∧ a < cnt
    · rw [needN_y c5 c7 q, bEs, needN_n c5 c7 hb (fun q' => hab ⟨q, q'⟩), bEe]
    · rw [needN_n c5 c7 ha q, bEe]
