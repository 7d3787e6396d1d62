/-! the class finds itself sound -/
theorem root_v {p : Int} {r : Nat} {x : Int × Int × Int} {R : Int} (hr : Rch p r) (wx : Wf p r x) (h : HasSq p x) : -60 ≤ (rootL p r x R).1 + (rootL p r x R).1 := by
  have hlt := h.lt wx
  have h3 := h.2.2.1
  have h2 := h.2.1
  obtain ⟨a1, a2, a3, a4, -⟩ := wx
  unfold rootL
  by_cases hp : p = 2
  · have q5 := (h3 hp).1
    rw [if_pos hp]
    have := lay_v (p := p) (r := r) (base := x.1 / 2) (known := x.1 / 2 + (x.2.1 - x.1) - 1) (w := R) hr (by omega)
    omega
  · rw [if_neg hp]
    have := lay_v (p := p) (r := r) (base := x.1 / 2) (known := x.1 / 2 + (x.2.1 - x.1)) (w := R) hr (by omega)
    omega
theorem setC_fr {S : St} {o : Nat} {x : Int × Int × Int} (ho : o = 40 ∨ o = 41) : FrS S (setC S o x) := by
  unfold setC
  exact ⟨fun o' i a b c => by simp (disch := omega) only [rIs, rIn, rIJ, rJs, rJn, rJI], fun o' i a b c => by simp (disch := omega) only [rIs, rIn, rIJ, rJs, rJn, rJI]⟩
theorem splits_ok {S : St} {p : Int} {r k1 k2 : Nat} {x y : Int × Int × Int} (h : NrC S p r) (hr : Rch p r) (hx : NumC S k1 x) (hy : NumC S k2 y) (wx : Wf p r x) (wy : Wf p r y) (e : (sumS p r x y (-1)).2.2 = 0) : ∃ S' : St, f_X5_splitsAt k1 k2 S = some (ji 1000, S') ∧ FrS S S' ∧ (∀ i : Nat, S'.1 53 i = S.1 53 i ∧ S'.2 53 i = S.2 53 i) := by
  refine ⟨setC S 40 (sumS p r x y (-1)), ?_, setC_fr (o := 40) (Or.inl rfl), fun i => ?_⟩
  · rw [splitsC h hr hx hy wx wy, if_pos e]
  · unfold setC
    exact ⟨by simp (disch := omega) only [rIs, rIn, rIJ, rJs, rJn, rJI], by simp (disch := omega) only [rIs, rIn, rIJ, rJs, rJn, rJI]⟩
theorem num_fr {S S' : St} {k : Nat} {x : Int × Int × Int} (hk : k < 40) (f : FrS S S') (h : NumC S k x) : NumC S' k x := by
  obtain ⟨h1, h2, h3⟩ := h
  exact ⟨by rw [f.1 _ _ (by omega) (by omega) (by omega)]; exact h1, by rw [f.1 _ _ (by omega) (by omega) (by omega)]; exact h2, by rw [f.2 _ _ (by omega) (by omega) (by omega)]; exact h3⟩
theorem nrc_fr {S S' : St} {p : Int} {r : Nat} (f : FrS S S') (h : NrC S p r) : NrC S' p r := by
  obtain ⟨h1, h2, h3⟩ := h
  exact ⟨by rw [f.1 _ _ (by omega) (by omega) (by omega)]; exact h1, by rw [f.1 _ _ (by omega) (by omega) (by omega)]; exact h2, fun e he => by rw [f.2 _ _ (by omega) (by omega) (by omega)]; exact h3 e he⟩
theorem lifted_ok {S : St} {p : Int} {r k : Nat} {d c : Nat → Int} {x : Int × Int × Int} {R : Int} (h : NrC S p r) (hr : Rch p r) (hx : NumC S k x) (wx : Wf p r x) (hd : DC S k d c) (d0 : d 0 = 7) (hs : 1 ≤ d 5 ∧ d 5 ≤ r) (h6 : 1 ≤ d 6 ∧ d 6 ≤ 7) (hi : Idx (d 3) 8) (cz : ∀ j : Nat, (d 6).toNat ≤ j → c j = 0) (hR : LiR p (d 5).toNat c 6 (d 4) R) (e : x = lay p r 0 (d 5) R) : f_X5_isLiftedRoot k S = some (ji 1) := by
  have hrr := hr.2.2.2.2
  obtain ⟨c1, c2, -⟩ := hd
  obtain ⟨cc, u1, u2, u3⟩ := c2 d0
  obtain ⟨i1', i2'⟩ := hi
  obtain ⟨R0, R1, R2, -⟩ := hR
  have N : x.2.1 = d 5 := by
    rw [e, lay_N hr (by omega)]
    omega
  have v0 : 0 ≤ x.1 := by
    have := lay_v (p := p) (r := r) (base := 0) (known := d 5) (w := R) hr (by omega)
    rw [← e] at this
    omega
  have rp := lay_rep (p := p) (r := r) (base := 0) (known := d 5) (w := R) (B := 0) hr (by omega) (by omega) (by omega)
  rw [← e] at rp
  have q := rp.2
  rw [N, show (0 : Int) - 0 = 0 by omega, show (0 : Int).toNat = 0 from rfl, Int.pow_zero, Int.mul_one, Int.sub_zero] at q
  have w := wholeC (base := 0) (known := d 5) h hr hx wx v0 (by omega) (by omega) (by omega)
  rw [Int.sub_zero, Int.sub_zero] at w
  have val : x.2.2 * p ^ (x.1).toNat % p ^ (d 5).toNat = R := by
    have := Int.emod_eq_emod_iff_emod_sub_eq_zero.mpr (Int.emod_eq_zero_of_dvd (by rw [Int.sub_zero] at q; exact q))
    rw [this]
    exact Int.emod_eq_of_lt R0 R1
  rw [val] at w
  have le := hr.le (show (d 5).toNat ≤ r by omega)
  have pos := pw_pos hr.1 (d 5).toNat
  have x9 : S.1 (12 + k) 9 = ji (d 5) := by rw [hx.2.1, N]
  have pw := pwC' (e := d 5) h hr (by omega)
  have pg := pageC (S := S) (k := (d 3).toNat) (by omega)
  rw [show (((d 3).toNat : Nat) : Int) = d 3 by omega] at pg
  have wo := worthC (S := S) (k := (d 3).toNat) (n := (d 6).toNat) (c := cc) (x := R) (m := p ^ (d 5).toNat) u1 u2 (by omega) (by omega) (by omega)
  rw [show (((d 6).toNat : Nat) : Int) = d 6 by omega, ev_congr (d 6).toNat (fun j hj => u3 j hj), ← ev_cut (c := c) (x := R) (m := (d 6).toNat) 7 (by omega) (fun j a b => cz j a), Int.emod_eq_zero_of_dvd R2] at wo
  unfold f_X5_isLiftedRoot
  rw [x9, c1 3 (by omega), c1 6 (by omega), i0, w, b1s, pg, b1s, if_pos (by omega), pw, b1s, wo, b1s, l0]
  simp (disch := omega) only [i0, i1, i2, i3, i4, i5, i6, i7, i8, i12, i16, i20, i30, i39, i40, i60, i64, i97, i100, i256, i1000, i10000, im1, im20, im60, l0, l1, l2, l3, l4, l5, l8, l10000, l1e9, lm10000, jl_add, jl_sub, jl_mul, jl_neg, ji_add, ji_sub, ji_mul, ji_neg, ji_l, jl_i, rL_n, rI_n, dL_n, dI_n, mnI_j, mxI_j, ji_nat, rest_j, part_n, whole_j, times_j, kc_0, kc_gt, kc_lt, kc_le, kc_ge, ji_lt, ji_le, ji_inj, jl_inj, jl_lt, jl_le, b1s, b2s, bEs, bEe, rIs, rIn, rIJ, rJs, rJn, rJI, ifp, ifn, if_true, if_false]
theorem still38 {S T : St} {p : Int} {r cnt : Nat} {num early : Nat → Int × Int × Int} {D C : Nat → Nat → Int} {bc rowc : Nat} {cn : Nat → Nat} (h : RN S T p r cnt num early D C bc rowc cn) {k : Nat} (hk : k < cnt) : ∃ S' : St, n_X5_isTrueStill_38 k S = some (ji 1, S') ∧ FrS S S' := by
  obtain ⟨hP, hr, hN, -, h3, -, hc, h8⟩ := h
  obtain ⟨q1, -, q3, -, -, -, q7, -, q9, q10, -⟩ := h8 k hk
  have e0 : S.1 (12 + k) 0 = ji (D k 0) := q7.1 0 (by omega)
  have dr : 0 ≤ D k 0 ∧ D k 0 ≤ 8 := by
    rcases q9 with ⟨q, -⟩ | ⟨q, -⟩ | ⟨q, -⟩ | ⟨q, -⟩ | ⟨q, -⟩ | ⟨q, -⟩ | ⟨q, -⟩ | ⟨q, -⟩ | ⟨q, -⟩ <;> omega
  unfold n_X5_isTrueStill_38
  by_cases d5 : D k 0 = 5
  · have pre : Idx (D k 1) k ∧ HasSq p (num (D k 1).toNat) := by
      rcases q9 with ⟨q, -⟩ | ⟨q, -⟩ | ⟨q, -⟩ | ⟨q, -⟩ | ⟨q, -⟩ | ⟨-, a, -, b⟩ | ⟨q, -⟩ | ⟨q, -⟩ | ⟨q, -⟩
      iterate 5 omega
      · exact ⟨a, b⟩
      iterate 3 omega
    obtain ⟨idx, sq⟩ := pre
    have idx2 := idx
    obtain ⟨g1, g2⟩ := idx2
    obtain ⟨R, hR, hy⟩ := q10.2.2.2.2.2.1 d5
    obtain ⟨a1, -, a3, -⟩ := h8 (D k 1).toNat (by omega)
    have rv := root_v (R := R) hr a3 sq
    have rs := root_sq (R := R) hP hr a3 sq hR
    rw [← hy] at rv rs
    have wp := prod_wf hr q3 q3 rv
    have fp := findProductC (o := 41) hN hr q1 q1 q3 q3
    have f1 := setC_fr (S := S) (x := prodS p r (num k) (num k)) (Or.inr rfl : 41 = 40 ∨ 41 = 41)
    have n41 : NumC (setC S 41 (prodS p r (num k) (num k))) 41 (prodS p r (num k) (num k)) := by
      unfold setC
      refine ⟨?_, ?_, ?_⟩ <;> simp (disch := omega) only [rIs, rIn, rIJ, rJs, rJn, rJI]
    obtain ⟨S', s1, s2, -⟩ := splits_ok (nrc_fr f1 hN) hr n41 (num_fr (by omega) f1 a1) wp a3 rs
    have e1 : (setC S 41 (prodS p r (num k) (num k))).1 (12 + k) 1 = ji (D k 1) := (f1.1 _ _ (by omega) (by omega) (by omega)).trans (q7.1 1 (by omega))
    have nb := numbC (S := setC S 41 (prodS p r (num k) (num k))) (n := k) idx (by omega)
    refine ⟨S', ?_, f1.trans s2⟩
    clear q9 q10 h8
    simp (disch := omega) only [i0, i1, i2, i3, i4, i5, i6, i7, i8, i12, i16, i20, i30, i39, i40, i60, i64, i97, i100, i256, i1000, i10000, im1, im20, im60, l0, l1, l2, l3, l4, l5, l8, l10000, l1e9, lm10000, jl_add, jl_sub, jl_mul, jl_neg, ji_add, ji_sub, ji_mul, ji_neg, ji_l, jl_i, rL_n, rI_n, dL_n, dI_n, mnI_j, mxI_j, ji_nat, rest_j, part_n, whole_j, times_j, kc_0, kc_gt, kc_lt, kc_le, kc_ge, ji_lt, ji_le, ji_inj, jl_inj, jl_lt, jl_le, b1s, b2s, bEs, bEe, rIs, rIn, rIJ, rJs, rJn, rJI, ifp, ifn, if_true, if_false, e0, fp, e1, nb, s1]
    first | rfl | skip
  · by_cases d7 : D k 0 = 7
    · have pre : 1 ≤ D k 5 ∧ D k 5 ≤ r ∧ 1 ≤ D k 6 ∧ D k 6 ≤ 7 ∧ Idx (D k 3) 8 ∧ ∀ j : Nat, (D k 6).toNat ≤ j → C k j = 0 := by
        rcases q9 with ⟨q, -⟩ | ⟨q, -⟩ | ⟨q, -⟩ | ⟨q, -⟩ | ⟨q, -⟩ | ⟨q, -⟩ | ⟨q, -⟩ | ⟨-, -, -, a, b, -, -, c, d, e, -, f, -⟩ | ⟨q, -⟩
        iterate 7 omega
        · exact ⟨a, b, c, d, e, f⟩
        · omega
      obtain ⟨p1, p2, p3, p4, p5, p6⟩ := pre
      obtain ⟨R, hR, hy⟩ := q10.2.2.2.2.2.2.2.1 d7
      have li := lifted_ok hN hr q1 q3 q7 d7 ⟨p1, p2⟩ ⟨p3, p4⟩ p5 p6 hR hy
      refine ⟨S, ?_, FrS.refl S⟩
      clear q9 q10 h8
      simp (disch := omega) only [i0, i1, i2, i3, i4, i5, i6, i7, i8, i12, i16, i20, i30, i39, i40, i60, i64, i97, i100, i256, i1000, i10000, im1, im20, im60, l0, l1, l2, l3, l4, l5, l8, l10000, l1e9, lm10000, jl_add, jl_sub, jl_mul, jl_neg, ji_add, ji_sub, ji_mul, ji_neg, ji_l, jl_i, rL_n, rI_n, dL_n, dI_n, mnI_j, mxI_j, ji_nat, rest_j, part_n, whole_j, times_j, kc_0, kc_gt, kc_lt, kc_le, kc_ge, ji_lt, ji_le, ji_inj, jl_inj, jl_lt, jl_le, b1s, b2s, bEs, bEe, rIs, rIn, rIJ, rJs, rJn, rJI, ifp, ifn, if_true, if_false, e0, li]
    · refine ⟨S, ?_, FrS.refl S⟩
      clear q9 q10 h8
      simp (disch := omega) only [i0, i1, i2, i3, i4, i5, i6, i7, i8, i12, i16, i20, i30, i39, i40, i60, i64, i97, i100, i256, i1000, i10000, im1, im20, im60, l0, l1, l2, l3, l4, l5, l8, l10000, l1e9, lm10000, jl_add, jl_sub, jl_mul, jl_neg, ji_add, ji_sub, ji_mul, ji_neg, ji_l, jl_i, rL_n, rI_n, dL_n, dI_n, mnI_j, mxI_j, ji_nat, rest_j, part_n, whole_j, times_j, kc_0, kc_gt, kc_lt, kc_le, kc_ge, ji_lt, ji_le, ji_inj, jl_inj, jl_lt, jl_le, b1s, b2s, bEs, bEe, rIs, rIn, rIJ, rJs, rJn, rJI, ifp, ifn, if_true, if_false, e0]
theorem still {S T : St} {p : Int} {r cnt : Nat} {num early : Nat → Int × Int × Int} {D C : Nat → Nat → Int} {bc rowc : Nat} {cn : Nat → Nat} (h : RN S T p r cnt num early D C bc rowc cn) {k : Nat} (hk : k < cnt) : ∃ S' : St, f_X5_isTrueStill (ji k) S = some (ji 1, S') ∧ FrS S S' := by
  have hh := h
  obtain ⟨hP, hr, hN, -, h3, -, hc, h8⟩ := hh
  obtain ⟨q1, -, q3, ⟨y1, y2, y3⟩, q5, q6, q7, -, q9, -⟩ := h8 k hk
  have e0 : S.1 (12 + k) 0 = ji (D k 0) := q7.1 0 (by omega)
  have dr : 0 ≤ D k 0 ∧ D k 0 ≤ 8 := by
    rcases q9 with ⟨q, -⟩ | ⟨q, -⟩ | ⟨q, -⟩ | ⟨q, -⟩ | ⟨q, -⟩ | ⟨q, -⟩ | ⟨q, -⟩ | ⟨q, -⟩ | ⟨q, -⟩ <;> omega
  have nb := numbC (S := S) (v := (k : Int)) (n := 40) ⟨by omega, by omega⟩ (by omega)
  rw [Int.toNat_natCast] at nb
  by_cases m : D k 0 = 0 ∨ D k 0 = 7
  · obtain ⟨S', s1, s2⟩ := still38 h hk
    refine ⟨S', ?_, s2⟩
    unfold f_X5_isTrueStill f_X3_isMadeOfOthers
    rcases m with m | m
    · simp (disch := omega) only [i0, i1, i2, i3, i4, i5, i6, i7, i8, i12, i16, i20, i30, i39, i40, i60, i64, i97, i100, i256, i1000, i10000, im1, im20, im60, l0, l1, l2, l3, l4, l5, l8, l10000, l1e9, lm10000, jl_add, jl_sub, jl_mul, jl_neg, ji_add, ji_sub, ji_mul, ji_neg, ji_l, jl_i, rL_n, rI_n, dL_n, dI_n, mnI_j, mxI_j, ji_nat, rest_j, part_n, whole_j, times_j, kc_0, kc_gt, kc_lt, kc_le, kc_ge, ji_lt, ji_le, ji_inj, jl_inj, jl_lt, jl_le, b1s, b2s, bEs, bEe, rIs, rIn, rIJ, rJs, rJn, rJI, ifp, ifn, if_true, if_false, nb, e0, s1]
    · simp (disch := omega) only [i0, i1, i2, i3, i4, i5, i6, i7, i8, i12, i16, i20, i30, i39, i40, i60, i64, i97, i100, i256, i1000, i10000, im1, im20, im60, l0, l1, l2, l3, l4, l5, l8, l10000, l1e9, lm10000, jl_add, jl_sub, jl_mul, jl_neg, ji_add, ji_sub, ji_mul, ji_neg, ji_l, jl_i, rL_n, rI_n, dL_n, dI_n, mnI_j, mxI_j, ji_nat, rest_j, part_n, whole_j, times_j, kc_0, kc_gt, kc_lt, kc_le, kc_ge, ji_lt, ji_le, ji_inj, jl_inj, jl_lt, jl_le, b1s, b2s, bEs, bEe, rIs, rIn, rIJ, rJs, rJn, rJI, ifp, ifn, if_true, if_false, nb, e0, s1]
  · obtain ⟨S1, hS1⟩ : ∃ S1 : St, S1 = wJ (wI (wI S (12 + 41) 8 (ji (early k).1)) (12 + 41) 9 (ji (early k).2.1)) (12 + 41) 10 (jl (early k).2.2) := ⟨_, rfl⟩
    have cp : f_X3_copyEarlyOf 41 k S = some S1 := by
      unfold f_X3_copyEarlyOf
      rw [hS1]
      simp (disch := omega) only [rIs, rIn, rIJ, rJs, rJn, rJI, y1, y2, y3]
    have f1 : FrS S S1 := by
      rw [hS1]
      exact ⟨fun o' i a b c => by simp (disch := omega) only [rIs, rIn, rIJ, rJs, rJn, rJI], fun o' i a b c => by simp (disch := omega) only [rIs, rIn, rIJ, rJs, rJn, rJI]⟩
    have n41 : NumC S1 41 (early k) := by
      rw [hS1]
      refine ⟨?_, ?_, ?_⟩ <;> simp (disch := omega) only [rIs, rIn, rIJ, rJs, rJn, rJI]
    obtain ⟨S2, s1, s2, -⟩ := splits_ok (nrc_fr f1 hN) hr (num_fr (by omega) f1 q1) n41 q3 q5 (agree_rf hr q3 q5 q6)
    have f2 := f1.trans s2
    obtain ⟨S', t1, t2⟩ := still38 (rn_fr h f2 (FrT.refl T)) hk
    refine ⟨S', ?_, f2.trans t2⟩
    clear q9 h8
    unfold f_X5_isTrueStill f_X3_isMadeOfOthers
    simp (disch := omega) only [i0, i1, i2, i3, i4, i5, i6, i7, i8, i12, i16, i20, i30, i39, i40, i60, i64, i97, i100, i256, i1000, i10000, im1, im20, im60, l0, l1, l2, l3, l4, l5, l8, l10000, l1e9, lm10000, jl_add, jl_sub, jl_mul, jl_neg, ji_add, ji_sub, ji_mul, ji_neg, ji_l, jl_i, rL_n, rI_n, dL_n, dI_n, mnI_j, mxI_j, ji_nat, rest_j, part_n, whole_j, times_j, kc_0, kc_gt, kc_lt, kc_le, kc_ge, ji_lt, ji_le, ji_inj, jl_inj, jl_lt, jl_le, b1s, b2s, bEs, bEe, rIs, rIn, rIJ, rJs, rJn, rJI, ifp, ifn, if_true, if_false, nb, e0, cp, s1]
    first | exact t1 | (rw [if_pos rfl]; exact t1)
