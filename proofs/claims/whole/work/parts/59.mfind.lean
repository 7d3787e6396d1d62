/-! what a number comes of (by the class's slots: 0 kind, 1 and 2 of which, 3 top, 4 bottom, 5 asked, 6 extent; c: what a polynomial or row was), and what comes of that -/
def Idx (v : Int) (n : Nat) : Prop := 0 ≤ v ∧ v < n
def Pre (p : Int) (r : Nat) (d c : Nat → Int) (num : Nat → Int × Int × Int) (n : Nat) : Prop :=
  (d 0 = 0 ∧ FrOk (d 3) (d 4) (d 5) ∧ d 1 = -1 ∧ d 2 = -1) ∨
  (d 0 = 1 ∧ Idx (d 1) n ∧ Idx (d 2) n) ∨
  (d 0 = 2 ∧ Idx (d 1) n ∧ Idx (d 2) n) ∨
  (d 0 = 3 ∧ Idx (d 1) n ∧ Idx (d 2) n ∧ -60 ≤ (num (d 1).toNat).1 + (num (d 2).toNat).1) ∨
  (d 0 = 4 ∧ Idx (d 1) n ∧ Idx (d 2) n ∧ (num (d 2).toNat).2.2 ≠ 0 ∧ -60 ≤ (num (d 1).toNat).1 - (num (d 2).toNat).1) ∨
  (d 0 = 5 ∧ Idx (d 1) n ∧ d 2 = -1 ∧ HasSq p (num (d 1).toNat)) ∨
  (d 0 = 6 ∧ Idx (d 1) n ∧ d 2 = -1 ∧ (num (d 1).toNat).1 = 0 ∧ (num (d 1).toNat).2.2 ≠ 0) ∨
  (d 0 = 7 ∧ d 1 = -1 ∧ d 2 = -1 ∧ 1 ≤ d 5 ∧ d 5 ≤ r ∧ 0 ≤ d 4 ∧ d 4 < p ∧ 1 ≤ d 6 ∧ d 6 ≤ 7 ∧ Idx (d 3) 8 ∧ CoB c ∧ (∀ j : Nat, (d 6).toNat ≤ j → c j = 0) ∧ p ∣ ev c (d 4) 7 ∧ ¬ p ∣ ev (dv c) (d 4) 6) ∨
  (d 0 = 8 ∧ Idx (d 1) n ∧ d 2 = -1 ∧ 0 ≤ d 6 ∧ d 6 ≤ 12 ∧ RoB c ∧ 0 ≤ (num (d 1).toNat).1 ∧ 0 < min (num (d 1).toNat).2.1 (r : Int) - gl p (d 6).toNat)
def DY (p : Int) (r : Nat) (d c : Nat → Int) (num : Nat → Int × Int × Int) (y : Int × Int × Int) : Prop :=
  (d 0 = 0 → y = fracS p r (d 3) (d 4) (d 5)) ∧
  (d 0 = 1 → y = sumS p r (num (d 1).toNat) (num (d 2).toNat) 1) ∧
  (d 0 = 2 → y = sumS p r (num (d 1).toNat) (num (d 2).toNat) (-1)) ∧
  (d 0 = 3 → y = prodS p r (num (d 1).toNat) (num (d 2).toNat)) ∧
  (d 0 = 4 → y = quotS p r (num (d 1).toNat) (num (d 2).toNat)) ∧
  (d 0 = 5 → ∃ R, RootR p (num (d 1).toNat) R ∧ y = rootL p r (num (d 1).toNat) R) ∧
  (d 0 = 6 → y = teiS p r (num (d 1).toNat)) ∧
  (d 0 = 7 → ∃ R, LiR p (d 5).toNat c 6 (d 4) R ∧ y = lay p r 0 (d 5) R) ∧
  (d 0 = 8 → y = rowS p r (num (d 1).toNat) (d 6).toNat c)
/-- the cells of the class and of the reference that hold what a number comes of -/
def DC (S : St) (n : Nat) (d c : Nat → Int) : Prop :=
  (∀ j : Nat, j < 7 → S.1 (12 + n) j = ji (d j)) ∧
  (d 0 = 7 → ∃ cc : Nat → Int, PolC S (d 3).toNat cc ∧ CoB cc ∧ ∀ j : Nat, j < (d 6).toNat → cc j = c j) ∧
  (d 0 = 8 → ∀ j : Nat, j < (d 6).toNat → S.1 9 j = ji (c j))
def DM (T : St) (n : Nat) (d c : Nat → Int) : Prop :=
  T.1 3 n = ji (d 0) ∧
  (d 0 = 0 → T.1 4 n = ji (d 3) ∧ T.1 5 n = ji (d 4) ∧ T.1 6 n = ji (d 5)) ∧
  (d 0 ≠ 0 → d 0 ≠ 7 → T.1 4 n = ji (d 1)) ∧
  (1 ≤ d 0 → d 0 ≤ 4 → T.1 5 n = ji (d 2)) ∧
  (d 0 = 7 → T.1 4 n = ji (d 4) ∧ T.1 6 n = ji (d 5) ∧ ∀ j : Nat, j < 7 → T.1 11 (7 * n + j) = ji (c j)) ∧
  (d 0 = 8 → T.1 7 n = ji (d 6) ∧ ∀ j : Nat, j < (d 6).toNat → T.1 10 (12 * n + j) = ji (c j))
def setM (T : St) (n : Nat) (x : Int × Int × Int) : St := wJ (wI (wI (setF T x) 1 n (ji x.1)) 2 n (ji x.2.1)) 8 n (jl x.2.2)
theorem finds_end {T : St} {n : Nat} {x : Int × Int × Int} (hn : n < 40) : n_X10_finds_219 (ji n) (setF T x) = some (setM T n x) := by
  unfold n_X10_finds_219 setM
  simp (disch := omega) only [i0, i1, i2, i3, i4, i5, i6, i7, i8, i12, i16, i20, i30, i39, i40, i60, i64, i97, i100, i256, i1000, i10000, im1, im20, im60, l0, l1, l2, l3, l4, l5, l8, l10000, l1e9, lm10000, jl_add, jl_sub, jl_mul, jl_neg, ji_add, ji_sub, ji_mul, ji_neg, ji_l, jl_i, rL_n, rI_n, dL_n, dI_n, mnI_j, mxI_j, ji_nat, rest_j, part_n, whole_j, times_j, kc_0, kc_gt, kc_lt, kc_le, kc_ge, ji_lt, ji_le, ji_inj, jl_inj, jl_lt, jl_le, b1s, b2s, bEs, bEe, rIs, rIn, rIJ, rJs, rJn, rJI, ifp, ifn, if_true, if_false, Int.toNat_natCast]
  unfold setF
  simp (disch := omega) only [rIs, rIn, rIJ, rJs, rJn, rJI]
theorem numbC {S : St} {v : Int} {n : Nat} (h : Idx v n) (hn : n ≤ 40) : f_X5_numbered (ji v) S = some v.toNat := by
  obtain ⟨h1, h2⟩ := h
  unfold f_X5_numbered
  simp (disch := omega) only [i0, i1, i2, i3, i4, i5, i6, i7, i8, i12, i16, i20, i30, i39, i40, i60, i64, i97, i100, i256, i1000, i10000, im1, im20, im60, l0, l1, l2, l3, l4, l5, l8, l10000, l1e9, lm10000, jl_add, jl_sub, jl_mul, jl_neg, ji_add, ji_sub, ji_mul, ji_neg, ji_l, jl_i, rL_n, rI_n, dL_n, dI_n, mnI_j, mxI_j, ji_nat, rest_j, part_n, whole_j, times_j, kc_0, kc_gt, kc_lt, kc_le, kc_ge, ji_lt, ji_le, ji_inj, jl_inj, jl_lt, jl_le, b1s, b2s, bEs, bEe, rIs, rIn, rIJ, rJs, rJn, rJI, ifp, ifn, if_true, if_false]
theorem numbC1 {S : St} : f_X5_numbered (ji (-1)) S = some 40 := by
  unfold f_X5_numbered
  simp (disch := omega) only [i0, i1, i2, i3, i4, i5, i6, i7, i8, i12, i16, i20, i30, i39, i40, i60, i64, i97, i100, i256, i1000, i10000, im1, im20, im60, l0, l1, l2, l3, l4, l5, l8, l10000, l1e9, lm10000, jl_add, jl_sub, jl_mul, jl_neg, ji_add, ji_sub, ji_mul, ji_neg, ji_l, jl_i, rL_n, rI_n, dL_n, dI_n, mnI_j, mxI_j, ji_nat, rest_j, part_n, whole_j, times_j, kc_0, kc_gt, kc_lt, kc_le, kc_ge, ji_lt, ji_le, ji_inj, jl_inj, jl_lt, jl_le, b1s, b2s, bEs, bEe, rIs, rIn, rIJ, rJs, rJn, rJI, ifp, ifn, if_true, if_false]
theorem find_ok {S T : St} {p : Int} {r n : Nat} {d c : Nat → Int} {num : Nat → Int × Int × Int} (h : NrC S p r) (hT : T.1 0 18 = ji p) (hP : Pr p) (hr : Rch p r) (hn : n < 40) (hnum : ∀ i : Nat, i < n → NumC S i (num i) ∧ NumM T i (num i) ∧ Wf p r (num i)) (hd : Pre p r d c num n) (hC : DC S n d c) (hM : DM T n d c) :
    ∃ y, DY p r d c num y ∧ Wf p r y ∧ f_X5_find n S = some (setC S n y) ∧ f_X10_finds (ji n) T = some (setM T n y) := by
  obtain ⟨C0, C7, C8⟩ := hC
  obtain ⟨M0, M00, M4, M5, M7, M8⟩ := hM
  have c0 := C0 0 (by omega)
  have c1 := C0 1 (by omega)
  have c2 := C0 2 (by omega)
  have hrr := hr.2.2.2.2
  have hp2 := hr.2.1
  have hp1 := hr.1
  unfold f_X5_find f_X10_finds
  rw [c0, c1, c2]
  rcases hd with ⟨k, hf, e1, e2⟩ | ⟨k, g1, g2⟩ | ⟨k, g1, g2⟩ | ⟨k, g1, g2, g3⟩ | ⟨k, g1, g2, g3, g4⟩ | ⟨k, g1, e2, g3⟩ | ⟨k, g1, e2, g3, g4⟩ | ⟨k, e1, e2, s1, s2, d1, d2, x1, x2, i3, cb, cz, f1, f2⟩ | ⟨k, g1, e2, x1, x2, rb, g3, g4⟩
  · obtain ⟨m1, m2, m3⟩ := M00 k
    refine ⟨fracS p r (d 3) (d 4) (d 5), ⟨fun _ => rfl, ?_, ?_, ?_, ?_, ?_, ?_, ?_, ?_⟩, frac_wf hr hf, ?_, ?_⟩
    iterate 8 (intro q; omega)
    · rw [k, e1, e2, numbC1, b1s]
      simp (disch := omega) only [i0, i1, i2, i3, i4, i5, i6, i7, i8, i12, i16, i20, i30, i39, i40, i60, i64, i97, i100, i256, i1000, i10000, im1, im20, im60, l0, l1, l2, l3, l4, l5, l8, l10000, l1e9, lm10000, jl_add, jl_sub, jl_mul, jl_neg, ji_add, ji_sub, ji_mul, ji_neg, ji_l, jl_i, rL_n, rI_n, dL_n, dI_n, mnI_j, mxI_j, ji_nat, rest_j, part_n, whole_j, times_j, kc_0, kc_gt, kc_lt, kc_le, kc_ge, ji_lt, ji_le, ji_inj, jl_inj, jl_lt, jl_le, b1s, b2s, bEs, bEe, rIs, rIn, rIJ, rJs, rJn, rJI, ifp, ifn, if_true, if_false]
      rw [findFractionC h hP hr hf (C0 3 (by omega)) (C0 4 (by omega)) (C0 5 (by omega)), b1s]
    · rw [k] at M0
      simp (disch := omega) only [i0, i1, i2, i3, i4, i5, i6, i7, i8, i12, i16, i20, i30, i39, i40, i60, i64, i97, i100, i256, i1000, i10000, im1, im20, im60, l0, l1, l2, l3, l4, l5, l8, l10000, l1e9, lm10000, jl_add, jl_sub, jl_mul, jl_neg, ji_add, ji_sub, ji_mul, ji_neg, ji_l, jl_i, rL_n, rI_n, dL_n, dI_n, mnI_j, mxI_j, ji_nat, rest_j, part_n, whole_j, times_j, kc_0, kc_gt, kc_lt, kc_le, kc_ge, ji_lt, ji_le, ji_inj, jl_inj, jl_lt, jl_le, b1s, b2s, bEs, bEe, rIs, rIn, rIJ, rJs, rJn, rJI, ifp, ifn, if_true, if_false, Int.toNat_natCast, M0, m1, m2, m3]
      rw [fractionM hT hP hr hf, b1s, finds_end hn]
  · obtain ⟨a1, a2⟩ := g1
    obtain ⟨b1, b2⟩ := g2
    obtain ⟨u1, u2, u3⟩ := hnum (d 1).toNat (by omega)
    obtain ⟨v1, v2, v3⟩ := hnum (d 2).toNat (by omega)
    have m1 := M4 (by omega) (by omega)
    have m2 := M5 (by omega) (by omega)
    refine ⟨sumS p r (num (d 1).toNat) (num (d 2).toNat) 1, ⟨?_, fun _ => rfl, ?_, ?_, ?_, ?_, ?_, ?_, ?_⟩, sum_wf hr u3 v3, ?_, ?_⟩
    iterate 8 (intro q; omega)
    · rw [k, numbC ⟨a1, a2⟩ (by omega), b1s, numbC ⟨b1, b2⟩ (by omega), b1s]
      simp (disch := omega) only [i0, i1, i2, i3, i4, i5, i6, i7, i8, i12, i16, i20, i30, i39, i40, i60, i64, i97, i100, i256, i1000, i10000, im1, im20, im60, l0, l1, l2, l3, l4, l5, l8, l10000, l1e9, lm10000, jl_add, jl_sub, jl_mul, jl_neg, ji_add, ji_sub, ji_mul, ji_neg, ji_l, jl_i, rL_n, rI_n, dL_n, dI_n, mnI_j, mxI_j, ji_nat, rest_j, part_n, whole_j, times_j, kc_0, kc_gt, kc_lt, kc_le, kc_ge, ji_lt, ji_le, ji_inj, jl_inj, jl_lt, jl_le, b1s, b2s, bEs, bEe, rIs, rIn, rIJ, rJs, rJn, rJI, ifp, ifn, if_true, if_false]
      rw [findSumC h hr u1 v1 u3 v3 (Or.inl rfl), b1s]
    · rw [k] at M0
      simp (disch := omega) only [i0, i1, i2, i3, i4, i5, i6, i7, i8, i12, i16, i20, i30, i39, i40, i60, i64, i97, i100, i256, i1000, i10000, im1, im20, im60, l0, l1, l2, l3, l4, l5, l8, l10000, l1e9, lm10000, jl_add, jl_sub, jl_mul, jl_neg, ji_add, ji_sub, ji_mul, ji_neg, ji_l, jl_i, rL_n, rI_n, dL_n, dI_n, mnI_j, mxI_j, ji_nat, rest_j, part_n, whole_j, times_j, kc_0, kc_gt, kc_lt, kc_le, kc_ge, ji_lt, ji_le, ji_inj, jl_inj, jl_lt, jl_le, b1s, b2s, bEs, bEe, rIs, rIn, rIJ, rJs, rJn, rJI, ifp, ifn, if_true, if_false, Int.toNat_natCast, M0, m1, m2]
      have := sumM (s := 1) hT hr (n := (d 1).toNat) (m := (d 2).toNat) (by omega) (by omega) u2 v2 u3 v3 (Or.inl rfl)
      rw [show (((d 1).toNat : Nat) : Int) = d 1 by omega, show (((d 2).toNat : Nat) : Int) = d 2 by omega] at this
      rw [this, b1s, finds_end hn]
  · obtain ⟨a1, a2⟩ := g1
    obtain ⟨b1, b2⟩ := g2
    obtain ⟨u1, u2, u3⟩ := hnum (d 1).toNat (by omega)
    obtain ⟨v1, v2, v3⟩ := hnum (d 2).toNat (by omega)
    have m1 := M4 (by omega) (by omega)
    have m2 := M5 (by omega) (by omega)
    refine ⟨sumS p r (num (d 1).toNat) (num (d 2).toNat) (-1), ⟨?_, ?_, fun _ => rfl, ?_, ?_, ?_, ?_, ?_, ?_⟩, sum_wf hr u3 v3, ?_, ?_⟩
    iterate 8 (intro q; omega)
    · rw [k, numbC ⟨a1, a2⟩ (by omega), b1s, numbC ⟨b1, b2⟩ (by omega), b1s]
      simp (disch := omega) only [i0, i1, i2, i3, i4, i5, i6, i7, i8, i12, i16, i20, i30, i39, i40, i60, i64, i97, i100, i256, i1000, i10000, im1, im20, im60, l0, l1, l2, l3, l4, l5, l8, l10000, l1e9, lm10000, jl_add, jl_sub, jl_mul, jl_neg, ji_add, ji_sub, ji_mul, ji_neg, ji_l, jl_i, rL_n, rI_n, dL_n, dI_n, mnI_j, mxI_j, ji_nat, rest_j, part_n, whole_j, times_j, kc_0, kc_gt, kc_lt, kc_le, kc_ge, ji_lt, ji_le, ji_inj, jl_inj, jl_lt, jl_le, b1s, b2s, bEs, bEe, rIs, rIn, rIJ, rJs, rJn, rJI, ifp, ifn, if_true, if_false]
      rw [findSumC h hr u1 v1 u3 v3 (Or.inr rfl), b1s]
    · rw [k] at M0
      simp (disch := omega) only [i0, i1, i2, i3, i4, i5, i6, i7, i8, i12, i16, i20, i30, i39, i40, i60, i64, i97, i100, i256, i1000, i10000, im1, im20, im60, l0, l1, l2, l3, l4, l5, l8, l10000, l1e9, lm10000, jl_add, jl_sub, jl_mul, jl_neg, ji_add, ji_sub, ji_mul, ji_neg, ji_l, jl_i, rL_n, rI_n, dL_n, dI_n, mnI_j, mxI_j, ji_nat, rest_j, part_n, whole_j, times_j, kc_0, kc_gt, kc_lt, kc_le, kc_ge, ji_lt, ji_le, ji_inj, jl_inj, jl_lt, jl_le, b1s, b2s, bEs, bEe, rIs, rIn, rIJ, rJs, rJn, rJI, ifp, ifn, if_true, if_false, Int.toNat_natCast, M0, m1, m2]
      have := sumM (s := -1) hT hr (n := (d 1).toNat) (m := (d 2).toNat) (by omega) (by omega) u2 v2 u3 v3 (Or.inr rfl)
      rw [show (((d 1).toNat : Nat) : Int) = d 1 by omega, show (((d 2).toNat : Nat) : Int) = d 2 by omega] at this
      rw [this, b1s, finds_end hn]
  · obtain ⟨a1, a2⟩ := g1
    obtain ⟨b1, b2⟩ := g2
    obtain ⟨u1, u2, u3⟩ := hnum (d 1).toNat (by omega)
    obtain ⟨v1, v2, v3⟩ := hnum (d 2).toNat (by omega)
    have m1 := M4 (by omega) (by omega)
    have m2 := M5 (by omega) (by omega)
    refine ⟨prodS p r (num (d 1).toNat) (num (d 2).toNat), ⟨?_, ?_, ?_, fun _ => rfl, ?_, ?_, ?_, ?_, ?_⟩, prod_wf hr u3 v3 g3, ?_, ?_⟩
    iterate 8 (intro q; omega)
    · rw [k, numbC ⟨a1, a2⟩ (by omega), b1s, numbC ⟨b1, b2⟩ (by omega), b1s]
      simp (disch := omega) only [i0, i1, i2, i3, i4, i5, i6, i7, i8, i12, i16, i20, i30, i39, i40, i60, i64, i97, i100, i256, i1000, i10000, im1, im20, im60, l0, l1, l2, l3, l4, l5, l8, l10000, l1e9, lm10000, jl_add, jl_sub, jl_mul, jl_neg, ji_add, ji_sub, ji_mul, ji_neg, ji_l, jl_i, rL_n, rI_n, dL_n, dI_n, mnI_j, mxI_j, ji_nat, rest_j, part_n, whole_j, times_j, kc_0, kc_gt, kc_lt, kc_le, kc_ge, ji_lt, ji_le, ji_inj, jl_inj, jl_lt, jl_le, b1s, b2s, bEs, bEe, rIs, rIn, rIJ, rJs, rJn, rJI, ifp, ifn, if_true, if_false]
      rw [findProductC h hr u1 v1 u3 v3, b1s]
    · rw [k] at M0
      simp (disch := omega) only [i0, i1, i2, i3, i4, i5, i6, i7, i8, i12, i16, i20, i30, i39, i40, i60, i64, i97, i100, i256, i1000, i10000, im1, im20, im60, l0, l1, l2, l3, l4, l5, l8, l10000, l1e9, lm10000, jl_add, jl_sub, jl_mul, jl_neg, ji_add, ji_sub, ji_mul, ji_neg, ji_l, jl_i, rL_n, rI_n, dL_n, dI_n, mnI_j, mxI_j, ji_nat, rest_j, part_n, whole_j, times_j, kc_0, kc_gt, kc_lt, kc_le, kc_ge, ji_lt, ji_le, ji_inj, jl_inj, jl_lt, jl_le, b1s, b2s, bEs, bEe, rIs, rIn, rIJ, rJs, rJn, rJI, ifp, ifn, if_true, if_false, Int.toNat_natCast, M0, m1, m2]
      have := productM hT hr (n := (d 1).toNat) (m := (d 2).toNat) (by omega) (by omega) u2 v2 u3 v3
      rw [show (((d 1).toNat : Nat) : Int) = d 1 by omega, show (((d 2).toNat : Nat) : Int) = d 2 by omega] at this
      rw [this, b1s, finds_end hn]
  · obtain ⟨a1, a2⟩ := g1
    obtain ⟨b1, b2⟩ := g2
    obtain ⟨u1, u2, u3⟩ := hnum (d 1).toNat (by omega)
    obtain ⟨v1, v2, v3⟩ := hnum (d 2).toNat (by omega)
    have m1 := M4 (by omega) (by omega)
    have m2 := M5 (by omega) (by omega)
    refine ⟨quotS p r (num (d 1).toNat) (num (d 2).toNat), ⟨?_, ?_, ?_, ?_, fun _ => rfl, ?_, ?_, ?_, ?_⟩, quot_wf hr u3 v3 g4, ?_, ?_⟩
    iterate 8 (intro q; omega)
    · rw [k, numbC ⟨a1, a2⟩ (by omega), b1s, numbC ⟨b1, b2⟩ (by omega), b1s]
      simp (disch := omega) only [i0, i1, i2, i3, i4, i5, i6, i7, i8, i12, i16, i20, i30, i39, i40, i60, i64, i97, i100, i256, i1000, i10000, im1, im20, im60, l0, l1, l2, l3, l4, l5, l8, l10000, l1e9, lm10000, jl_add, jl_sub, jl_mul, jl_neg, ji_add, ji_sub, ji_mul, ji_neg, ji_l, jl_i, rL_n, rI_n, dL_n, dI_n, mnI_j, mxI_j, ji_nat, rest_j, part_n, whole_j, times_j, kc_0, kc_gt, kc_lt, kc_le, kc_ge, ji_lt, ji_le, ji_inj, jl_inj, jl_lt, jl_le, b1s, b2s, bEs, bEe, rIs, rIn, rIJ, rJs, rJn, rJI, ifp, ifn, if_true, if_false]
      rw [findQuotientC h hP hr u1 v1 u3 v3 g3, b1s]
    · rw [k] at M0
      simp (disch := omega) only [i0, i1, i2, i3, i4, i5, i6, i7, i8, i12, i16, i20, i30, i39, i40, i60, i64, i97, i100, i256, i1000, i10000, im1, im20, im60, l0, l1, l2, l3, l4, l5, l8, l10000, l1e9, lm10000, jl_add, jl_sub, jl_mul, jl_neg, ji_add, ji_sub, ji_mul, ji_neg, ji_l, jl_i, rL_n, rI_n, dL_n, dI_n, mnI_j, mxI_j, ji_nat, rest_j, part_n, whole_j, times_j, kc_0, kc_gt, kc_lt, kc_le, kc_ge, ji_lt, ji_le, ji_inj, jl_inj, jl_lt, jl_le, b1s, b2s, bEs, bEe, rIs, rIn, rIJ, rJs, rJn, rJI, ifp, ifn, if_true, if_false, Int.toNat_natCast, M0, m1, m2]
      have := quotientM hT hP hr (n := (d 1).toNat) (m := (d 2).toNat) (by omega) (by omega) u2 v2 u3 v3
      rw [show (((d 1).toNat : Nat) : Int) = d 1 by omega, show (((d 2).toNat : Nat) : Int) = d 2 by omega] at this
      rw [this, b1s, finds_end hn]
  · obtain ⟨a1, a2⟩ := g1
    obtain ⟨u1, u2, u3⟩ := hnum (d 1).toNat (by omega)
    have m1 := M4 (by omega) (by omega)
    obtain ⟨S', hS', R, hR, rfl⟩ := squareRootC (o := n) h hP hr u1 u3 g3
    refine ⟨rootL p r (num (d 1).toNat) R, ⟨?_, ?_, ?_, ?_, ?_, fun _ => ⟨R, hR, rfl⟩, ?_, ?_, ?_⟩, root_wf hr u3 g3, ?_, ?_⟩
    iterate 8 (intro q; omega)
    · rw [k, e2, numbC ⟨a1, a2⟩ (by omega), b1s, numbC1, b1s]
      simp (disch := omega) only [i0, i1, i2, i3, i4, i5, i6, i7, i8, i12, i16, i20, i30, i39, i40, i60, i64, i97, i100, i256, i1000, i10000, im1, im20, im60, l0, l1, l2, l3, l4, l5, l8, l10000, l1e9, lm10000, jl_add, jl_sub, jl_mul, jl_neg, ji_add, ji_sub, ji_mul, ji_neg, ji_l, jl_i, rL_n, rI_n, dL_n, dI_n, mnI_j, mxI_j, ji_nat, rest_j, part_n, whole_j, times_j, kc_0, kc_gt, kc_lt, kc_le, kc_ge, ji_lt, ji_le, ji_inj, jl_inj, jl_lt, jl_le, b1s, b2s, bEs, bEe, rIs, rIn, rIJ, rJs, rJn, rJI, ifp, ifn, if_true, if_false]
      rw [hS', b1s]
    · rw [k] at M0
      have u2' := u2
      obtain ⟨y1, y2, y3⟩ := u2
      have := u3.1
      have := u3.2.1
      have := u3.2.2.1
      simp (disch := omega) only [i0, i1, i2, i3, i4, i5, i6, i7, i8, i12, i16, i20, i30, i39, i40, i60, i64, i97, i100, i256, i1000, i10000, im1, im20, im60, l0, l1, l2, l3, l4, l5, l8, l10000, l1e9, lm10000, jl_add, jl_sub, jl_mul, jl_neg, ji_add, ji_sub, ji_mul, ji_neg, ji_l, jl_i, rL_n, rI_n, dL_n, dI_n, mnI_j, mxI_j, ji_nat, rest_j, part_n, whole_j, times_j, kc_0, kc_gt, kc_lt, kc_le, kc_ge, ji_lt, ji_le, ji_inj, jl_inj, jl_lt, jl_le, b1s, b2s, bEs, bEe, rIs, rIn, rIJ, rJs, rJn, rJI, ifp, ifn, if_true, if_false, Int.toNat_natCast, M0, m1, y1, y2]
      have := squareRootM hT hP hr (n := (d 1).toNat) (by omega) u2' u3 g3 hR
      rw [show (((d 1).toNat : Nat) : Int) = d 1 by omega] at this
      rw [this, b1s, finds_end hn]
  · obtain ⟨a1, a2⟩ := g1
    obtain ⟨u1, u2, u3⟩ := hnum (d 1).toNat (by omega)
    have m1 := M4 (by omega) (by omega)
    refine ⟨teiS p r (num (d 1).toNat), ⟨?_, ?_, ?_, ?_, ?_, ?_, fun _ => rfl, ?_, ?_⟩, tei_wf hr u3 g3, ?_, ?_⟩
    iterate 8 (intro q; omega)
    · rw [k, e2, numbC ⟨a1, a2⟩ (by omega), b1s, numbC1, b1s]
      simp (disch := omega) only [i0, i1, i2, i3, i4, i5, i6, i7, i8, i12, i16, i20, i30, i39, i40, i60, i64, i97, i100, i256, i1000, i10000, im1, im20, im60, l0, l1, l2, l3, l4, l5, l8, l10000, l1e9, lm10000, jl_add, jl_sub, jl_mul, jl_neg, ji_add, ji_sub, ji_mul, ji_neg, ji_l, jl_i, rL_n, rI_n, dL_n, dI_n, mnI_j, mxI_j, ji_nat, rest_j, part_n, whole_j, times_j, kc_0, kc_gt, kc_lt, kc_le, kc_ge, ji_lt, ji_le, ji_inj, jl_inj, jl_lt, jl_le, b1s, b2s, bEs, bEe, rIs, rIn, rIJ, rJs, rJn, rJI, ifp, ifn, if_true, if_false]
      rw [teiC h hr u1 u3 g3, b1s]
    · rw [k] at M0
      simp (disch := omega) only [i0, i1, i2, i3, i4, i5, i6, i7, i8, i12, i16, i20, i30, i39, i40, i60, i64, i97, i100, i256, i1000, i10000, im1, im20, im60, l0, l1, l2, l3, l4, l5, l8, l10000, l1e9, lm10000, jl_add, jl_sub, jl_mul, jl_neg, ji_add, ji_sub, ji_mul, ji_neg, ji_l, jl_i, rL_n, rI_n, dL_n, dI_n, mnI_j, mxI_j, ji_nat, rest_j, part_n, whole_j, times_j, kc_0, kc_gt, kc_lt, kc_le, kc_ge, ji_lt, ji_le, ji_inj, jl_inj, jl_lt, jl_le, b1s, b2s, bEs, bEe, rIs, rIn, rIJ, rJs, rJn, rJI, ifp, ifn, if_true, if_false, Int.toNat_natCast, M0, m1]
      have := teiM hT hr (n := (d 1).toNat) (by omega) u2 u3 g3
      rw [show (((d 1).toNat : Nat) : Int) = d 1 by omega] at this
      rw [this, b1s, finds_end hn]
  · obtain ⟨m1, m2, m3⟩ := M7 k
    obtain ⟨cc, p1, p2, p3⟩ := C7 k
    obtain ⟨i1, i2⟩ := i3
    have ecut : ∀ x : Int, ev cc x (d 6).toNat = ev c x 7 := fun x => by
      rw [ev_cut (m := (d 6).toNat) 7 (by omega) (fun j q1 q2 => cz j q1)]
      exact ev_congr _ (fun j q => p3 j q)
    have ecut2 : ∀ x : Int, ev (dv cc) x ((d 6).toNat - 1) = ev (dv c) x 6 := fun x => by
      rw [ev_cut (c := dv c) (m := (d 6).toNat - 1) 6 (by omega) (fun j q1 q2 => by unfold dv; rw [cz (j + 1) (by omega), Int.mul_zero])]
      exact ev_congr _ (fun j q => by unfold dv; rw [p3 (j + 1) (by omega)])
    have en : (d 6).toNat - 1 + 1 = (d 6).toNat := by omega
    obtain ⟨S', hS', R, hR, rfl⟩ := liftC (o := n) (k := (d 3).toNat) (s := (d 5).toNat) (n := (d 6).toNat - 1) (d := d 4) h hP hr (by omega) p1 p2 (by omega) (by omega) ⟨d1, d2⟩ (by rw [en, ecut]; exact f1) (by rw [ecut2]; exact f2)
      (by rw [show (((d 3).toNat : Nat) : Int) = d 3 by omega]; exact C0 3 (by omega)) (C0 4 (by omega)) (by rw [show (((d 5).toNat : Nat) : Int) = d 5 by omega]; exact C0 5 (by omega)) (by rw [en, show (((d 6).toNat : Nat) : Int) = d 6 by omega]; exact C0 6 (by omega))
    have hR' : LiR p (d 5).toNat c 6 (d 4) R := by
      obtain ⟨w1, w2, w3, w4⟩ := hR
      refine ⟨w1, w2, ?_, w4⟩
      rw [en, ecut] at w3
      exact w3
    rw [show (((d 5).toNat : Nat) : Int) = d 5 by omega] at hS'
    refine ⟨lay p r 0 (d 5) R, ⟨?_, ?_, ?_, ?_, ?_, ?_, ?_, fun _ => ⟨R, hR', rfl⟩, ?_⟩, lay_wf hr (by omega) (by omega) (by omega), ?_, ?_⟩
    iterate 8 (intro q; omega)
    · rw [k, e1, e2, numbC1, b1s]
      simp (disch := omega) only [i0, i1, i2, i3, i4, i5, i6, i7, i8, i12, i16, i20, i30, i39, i40, i60, i64, i97, i100, i256, i1000, i10000, im1, im20, im60, l0, l1, l2, l3, l4, l5, l8, l10000, l1e9, lm10000, jl_add, jl_sub, jl_mul, jl_neg, ji_add, ji_sub, ji_mul, ji_neg, ji_l, jl_i, rL_n, rI_n, dL_n, dI_n, mnI_j, mxI_j, ji_nat, rest_j, part_n, whole_j, times_j, kc_0, kc_gt, kc_lt, kc_le, kc_ge, ji_lt, ji_le, ji_inj, jl_inj, jl_lt, jl_le, b1s, b2s, bEs, bEe, rIs, rIn, rIJ, rJs, rJn, rJI, ifp, ifn, if_true, if_false]
      rw [ifn (show ¬ ji 7 = (1 : Int32) by decide), ifn (show ¬ ji 7 = (2 : Int32) by decide), hS', b1s]
    · rw [k] at M0
      simp (disch := omega) only [i0, i1, i2, i3, i4, i5, i6, i7, i8, i12, i16, i20, i30, i39, i40, i60, i64, i97, i100, i256, i1000, i10000, im1, im20, im60, l0, l1, l2, l3, l4, l5, l8, l10000, l1e9, lm10000, jl_add, jl_sub, jl_mul, jl_neg, ji_add, ji_sub, ji_mul, ji_neg, ji_l, jl_i, rL_n, rI_n, dL_n, dI_n, mnI_j, mxI_j, ji_nat, rest_j, part_n, whole_j, times_j, kc_0, kc_gt, kc_lt, kc_le, kc_ge, ji_lt, ji_le, ji_inj, jl_inj, jl_lt, jl_le, b1s, b2s, bEs, bEe, rIs, rIn, rIJ, rJs, rJn, rJI, ifp, ifn, if_true, if_false, Int.toNat_natCast, M0]
      rw [ifn (show ¬ ji 7 = (1 : Int32) by decide), ifn (show ¬ ji 7 = (2 : Int32) by decide)]
      have := liftM hT hP hr (s := (d 5).toNat) (by omega) hn m1 (by rw [show (((d 5).toNat : Nat) : Int) = d 5 by omega]; exact m2) m3 cb ⟨d1, d2⟩ f2 hR'
      rw [show (((d 5).toNat : Nat) : Int) = d 5 by omega] at this
      rw [this, b1s, finds_end hn]
  · obtain ⟨a1, a2⟩ := g1
    obtain ⟨u1, u2, u3⟩ := hnum (d 1).toNat (by omega)
    have m1 := M4 (by omega) (by omega)
    obtain ⟨m2, m3⟩ := M8 k
    have r1 := C8 k
    have e6 : (((d 6).toNat : Nat) : Int) = d 6 := by omega
    refine ⟨rowS p r (num (d 1).toNat) (d 6).toNat c, ⟨?_, ?_, ?_, ?_, ?_, ?_, ?_, ?_, fun _ => rfl⟩, row_wf hr u3 g3 g4, ?_, ?_⟩
    iterate 8 (intro q; omega)
    · rw [k, e2, numbC ⟨a1, a2⟩ (by omega), b1s, numbC1, b1s]
      simp (disch := omega) only [i0, i1, i2, i3, i4, i5, i6, i7, i8, i12, i16, i20, i30, i39, i40, i60, i64, i97, i100, i256, i1000, i10000, im1, im20, im60, l0, l1, l2, l3, l4, l5, l8, l10000, l1e9, lm10000, jl_add, jl_sub, jl_mul, jl_neg, ji_add, ji_sub, ji_mul, ji_neg, ji_l, jl_i, rL_n, rI_n, dL_n, dI_n, mnI_j, mxI_j, ji_nat, rest_j, part_n, whole_j, times_j, kc_0, kc_gt, kc_lt, kc_le, kc_ge, ji_lt, ji_le, ji_inj, jl_inj, jl_lt, jl_le, b1s, b2s, bEs, bEe, rIs, rIn, rIJ, rJs, rJn, rJI, ifp, ifn, if_true, if_false]
      rw [rowValueC (n := (d 6).toNat) (f := c) h hP hr u1 u3 rb (by omega) r1 (by rw [e6]; exact C0 6 (by omega)) g3 g4, b1s]
    · rw [k] at M0
      simp (disch := omega) only [i0, i1, i2, i3, i4, i5, i6, i7, i8, i12, i16, i20, i30, i39, i40, i60, i64, i97, i100, i256, i1000, i10000, im1, im20, im60, l0, l1, l2, l3, l4, l5, l8, l10000, l1e9, lm10000, jl_add, jl_sub, jl_mul, jl_neg, ji_add, ji_sub, ji_mul, ji_neg, ji_l, jl_i, rL_n, rI_n, dL_n, dI_n, mnI_j, mxI_j, ji_nat, rest_j, part_n, whole_j, times_j, kc_0, kc_gt, kc_lt, kc_le, kc_ge, ji_lt, ji_le, ji_inj, jl_inj, jl_lt, jl_le, b1s, b2s, bEs, bEe, rIs, rIn, rIJ, rJs, rJn, rJI, ifp, ifn, if_true, if_false, Int.toNat_natCast, M0, m1]
      have := rowM (n := n) (k2 := (d 1).toNat) (m := (d 6).toNat) (f := c) hT hP hr (by omega) u2 u3 rb (by omega) hn (by rw [e6]; exact m2) m3 g3 g4
      rw [show (((d 1).toNat : Nat) : Int) = d 1 by omega] at this
      rw [this, b1s, finds_end hn]
