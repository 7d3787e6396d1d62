theorem sides_both {S T : St} {p : Int} {f n : Nat} {c : Nat → Int} (hp : 2 ≤ p ∧ p ≤ 97) (hf : f < 8) (hP : PolC S f c) (hB : CoB c) (h54 : S.1 (54 + f) 0 = ji n) (hn : 1 ≤ n ∧ n ≤ 7) (h : c (n - 1) ≠ 0) (h0 : c 0 ≠ 0) (h18 : T.1 0 18 = ji p) (hc : ∀ j : Nat, j < 7 → T.1 12 (7 * f + j) = ji (c j)) (h13 : T.1 13 f = ji ((n : Int) - 1)) :
    ∃ (m : Nat) (T' : St), m ≤ 6 ∧ f_X4_sideCount f (ji p) S = some (ji m) ∧ f_X10_lowerHull (ji f) (th T 0) = some T' ∧ FrT T T' ∧ T'.1 0 25 = ji m ∧ T'.1 0 17 = 0 ∧
      ∀ i : Nat, i < m → f_X4_sideStart f (ji i) (ji p) S = some (ji (st p c n i : Nat)) ∧ f_X4_sideEnd f (ji (st p c n i : Nat)) (ji p) S = some (ji (st p c n (i + 1) : Nat)) ∧ T'.1 16 i = ji (st p c n i : Nat) ∧ T'.1 17 i = ji (st p c n (i + 1) : Nat) ∧ st p c n i < st p c n (i + 1) ∧ st p c n (i + 1) ≤ 6 := by
  obtain ⟨m, T', m1, m2, m3, m4, m5, m6, m7, m8⟩ := hullM hp hf hB hn h FU 0 (wI (th T 0) 0 25 (ji 0)) (by rw [rIn (by omega), th_n (by omega)]; exact h18) (fun j hj => by rw [rIn (by omega), th_n (by omega)]; exact hc j hj) (by rw [rIn (by omega), th_n (by omega)]; exact h13) (by rw [rIs]; rfl) (Nat.zero_le _) (Nat.zero_le _) (FU_lt (by omega))
  have hm := fun i a => m4 i (Nat.zero_le i) a
  obtain ⟨r1, r2, -⟩ := st_rng (p := p) h hn.1 h0 hm m (Nat.le_refl _)
  refine ⟨m, T', by omega, ?_, m2, ⟨fun o i q1 q2 q3 q4 => ?_, fun o i q => by rw [m8]; rfl⟩, m5, ?_, fun i hi => ?_⟩
  · exact countS_loop hp hP hB hn h54 h h0 hm m3 FU 0 (Nat.zero_le _) (FU_lt (by omega))
  · rw [m7 _ _ (by omega) (by omega), rIn (by omega), th_n (by omega)]
  · rw [m7 _ _ (by omega) (by omega), rIn (by omega)]; exact th_17
  · obtain ⟨s1, s2, -⟩ := st_rng (p := p) h hn.1 h0 hm i (by omega)
    have g := hm i hi
    obtain ⟨n1, n2, n3⟩ := nx_rng (p := p) h g
    obtain ⟨u1, u2⟩ := m6 i (Nat.zero_le _) hi
    refine ⟨?_, ?_, u1, u2, n1, ?_⟩
    · exact startC_loop hp hP hB hn h54 h h0 hm hi (by omega) FU 0 (Nat.zero_le _) (FU_lt (by omega))
    · exact endC hp hP hB hn.2 h54 (by omega)
    · have : st p c n (i + 1) = nx p c n (st p c n i) := rfl
      omega
theorem T_sides {S T : St} (h : Rel S T) (a : Int32) : AnR [(3, 1)] S (f_X9_sides a S) (f_X10_sides a T) := by
  obtain ⟨a, rfl, ha⟩ := ji_ex a
  have hh := h
  obtain ⟨p, r, cnt, num, early, D, C, bc, cn, pc, rowc, rv, sz, en, h1, h2, h3, h4⟩ := hh
  have hr := h1.2.1
  have hN1 := h1.2.2.1.1
  have h18 := h1.2.2.2.1
  obtain ⟨t1, t2, t3, t4, t5, t6⟩ := h2
  by_cases ga : 0 ≤ a ∧ a < bc
  · have n1 := needP_y t1 t3 ga
    have n2 := noP_y t2 t3 ga
    have ea : ((a.toNat : Nat) : Int) = a := by omega
    obtain ⟨P1, P2, P3⟩ := t4 a.toNat (by omega)
    obtain ⟨Q1, Q2, Q3, Q4, Q5, Q6, Q7⟩ := t5 a.toNat (by omega)
    have pg := pageC (S := S) (k := a.toNat) (by omega)
    obtain ⟨m, T', m1, m2, m3, m4, m5, m6, m7⟩ := sides_both (S := S) (T := T) ⟨hr.1, hr.2.1⟩ (show a.toNat < 8 by omega) P1 P2 Q3 ⟨Q1, Q2⟩ Q5 Q6 h18 P3 Q4
    rw [ea] at pg m3
    unfold f_X9_sides f_X10_sides
    simp (disch := omega) only [i0, i1, i2, i3, i4, i5, i6, i7, i8, i12, i16, i20, i30, i39, i40, i60, i64, i97, i100, i256, i1000, i10000, im1, im20, im60, l0, l1, l2, l3, l4, l5, l8, l10000, l1e9, lm10000, jl_add, jl_sub, jl_mul, jl_neg, ji_add, ji_sub, ji_mul, ji_neg, ji_l, jl_i, rL_n, rI_n, dL_n, dI_n, mnI_j, mxI_j, ji_nat, rest_j, part_n, whole_j, times_j, kc_0, kc_gt, kc_lt, kc_le, kc_ge, ji_lt, ji_le, ji_inj, jl_inj, jl_lt, jl_le, b1s, b2s, bEs, bEe, rIs, rIn, rIJ, rJs, rJn, rJI, ifp, ifn, if_true, if_false, hN1, n1, n2, pg, m2, m3, m5]
    exact ⟨T', _, rfl, rel_fr h (FrS.refl S) m4, Or.inl ⟨rfl, m6⟩⟩
  · have n1 := needP_n t1 t3 ha ga
    have n2 := noP_n t2 t3 ha ga
    unfold f_X9_sides f_X10_sides
    simp (disch := omega) only [i0, i1, i2, i3, i4, i5, i6, i7, i8, i12, i16, i20, i30, i39, i40, i60, i64, i97, i100, i256, i1000, i10000, im1, im20, im60, l0, l1, l2, l3, l4, l5, l8, l10000, l1e9, lm10000, jl_add, jl_sub, jl_mul, jl_neg, ji_add, ji_sub, ji_mul, ji_neg, ji_l, jl_i, rL_n, rI_n, dL_n, dI_n, mnI_j, mxI_j, ji_nat, rest_j, part_n, whole_j, times_j, kc_0, kc_gt, kc_lt, kc_le, kc_ge, ji_lt, ji_le, ji_inj, jl_inj, jl_lt, jl_le, b1s, b2s, bEs, bEe, rIs, rIn, rIJ, rJs, rJn, rJI, ifp, ifn, if_true, if_false, n1, n2]
    exact ⟨th T 1, _, rfl, rel_fr h (FrS.refl S) th_fr, Or.inr ⟨(3, 1), by simp, rfl, th_17⟩⟩
theorem side_call {S T : St} (h : Rel S T) (a b : Int32) :
    (f_X9_needSide a b S = some (.error 3) ∧ ∃ T', f_X10_noSide a b T = some (ji 1, T') ∧ FrT T T' ∧ T'.1 0 17 = ji 1) ∨
    ∃ (f i s e : Nat) (p : Int) (c : Nat → Int) (T' : St), a = ji f ∧ b = ji i ∧ f < 8 ∧ i < 8 ∧ s < e ∧ e ≤ 6 ∧ 2 ≤ p ∧ p ≤ 97 ∧ S.1 3 0 = ji p ∧ T'.1 0 18 = ji p ∧ PolC S f c ∧ CoB c ∧ (∀ j : Nat, j < 7 → T'.1 12 (7 * f + j) = ji (c j)) ∧
      f_X9_needSide a b S = some (.ok ()) ∧ f_X10_noSide a b T = some (ji 0, T') ∧ FrT T T' ∧ T'.1 0 17 = 0 ∧ f_X4_sideStart f (ji i) (ji p) S = some (ji s) ∧ f_X4_sideEnd f (ji s) (ji p) S = some (ji e) ∧ T'.1 16 i = ji s ∧ T'.1 17 i = ji e := by
  obtain ⟨a, rfl, ha⟩ := ji_ex a
  obtain ⟨b, rfl, hb⟩ := ji_ex b
  obtain ⟨p, r, cnt, num, early, D, C, bc, cn, pc, rowc, rv, sz, en, h1, h2, h3, h4⟩ := h
  have hr := h1.2.1
  have hN1 := h1.2.2.1.1
  have h18 := h1.2.2.2.1
  obtain ⟨t1, t2, t3, t4, t5, t6⟩ := h2
  by_cases ga : 0 ≤ a ∧ a < bc
  · have n1 := needP_y t1 t3 ga
    have n2 := noP_y t2 t3 ga
    have ea : ((a.toNat : Nat) : Int) = a := by omega
    obtain ⟨P1, P2, P3⟩ := t4 a.toNat (by omega)
    obtain ⟨Q1, Q2, Q3, Q4, Q5, Q6, Q7⟩ := t5 a.toNat (by omega)
    have pg := pageC (S := S) (k := a.toNat) (by omega)
    obtain ⟨m, T', m1, m2, m3, m4, m5, m6, m7⟩ := sides_both (S := S) (T := T) ⟨hr.1, hr.2.1⟩ (show a.toNat < 8 by omega) P1 P2 Q3 ⟨Q1, Q2⟩ Q5 Q6 h18 P3 Q4
    rw [ea] at pg m3
    by_cases gb : 0 ≤ b ∧ b < m
    · refine Or.inr ?_
      obtain ⟨w1, w2, w3, w4, w5, w6⟩ := m7 b.toNat (by omega)
      refine ⟨a.toNat, b.toNat, st p (pc a.toNat) (cn a.toNat) b.toNat, st p (pc a.toNat) (cn a.toNat) (b.toNat + 1), p, pc a.toNat, th T' 0, by rw [ea], by rw [show ((b.toNat : Nat) : Int) = b by omega], by omega, by omega, w5, w6, hr.1, hr.2.1, hN1, ?_, P1, P2, fun j hj => ?_, ?_, ?_, m4.trans th_fr, th_17, w1, w2, (th_n (by omega)).trans w3, (th_n (by omega)).trans w4⟩
      · rw [th_n (by omega), m4.1 _ _ (by omega) (by omega) (by omega) (by omega)]; exact h18
      · rw [th_n (by omega), m4.1 _ _ (by omega) (by omega) (by omega) (by omega)]; exact P3 j hj
      · unfold f_X9_needSide
        simp (disch := omega) only [i0, i1, i2, i3, i4, i5, i6, i7, i8, i12, i16, i20, i30, i39, i40, i60, i64, i97, i100, i256, i1000, i10000, im1, im20, im60, l0, l1, l2, l3, l4, l5, l8, l10000, l1e9, lm10000, jl_add, jl_sub, jl_mul, jl_neg, ji_add, ji_sub, ji_mul, ji_neg, ji_l, jl_i, rL_n, rI_n, dL_n, dI_n, mnI_j, mxI_j, ji_nat, rest_j, part_n, whole_j, times_j, kc_0, kc_gt, kc_lt, kc_le, kc_ge, ji_lt, ji_le, ji_inj, jl_inj, jl_lt, jl_le, b1s, b2s, bEs, bEe, rIs, rIn, rIJ, rJs, rJn, rJI, ifp, ifn, if_true, if_false, hN1, n1, pg, m2]
      · unfold f_X10_noSide
        simp (disch := omega) only [i0, i1, i2, i3, i4, i5, i6, i7, i8, i12, i16, i20, i30, i39, i40, i60, i64, i97, i100, i256, i1000, i10000, im1, im20, im60, l0, l1, l2, l3, l4, l5, l8, l10000, l1e9, lm10000, jl_add, jl_sub, jl_mul, jl_neg, ji_add, ji_sub, ji_mul, ji_neg, ji_l, jl_i, rL_n, rI_n, dL_n, dI_n, mnI_j, mxI_j, ji_nat, rest_j, part_n, whole_j, times_j, kc_0, kc_gt, kc_lt, kc_le, kc_ge, ji_lt, ji_le, ji_inj, jl_inj, jl_lt, jl_le, b1s, b2s, bEs, bEe, rIs, rIn, rIJ, rJs, rJn, rJI, ifp, ifn, if_true, if_false, n2, m3, m5, isIn_y, noY]
        rw [if_pos nb0]
    · refine Or.inl ⟨?_, th T' 1, ?_, m4.trans th_fr, th_17⟩
      · unfold f_X9_needSide
        by_cases h0 : b < 0
        · simp (disch := omega) only [i0, i1, i2, i3, i4, i5, i6, i7, i8, i12, i16, i20, i30, i39, i40, i60, i64, i97, i100, i256, i1000, i10000, im1, im20, im60, l0, l1, l2, l3, l4, l5, l8, l10000, l1e9, lm10000, jl_add, jl_sub, jl_mul, jl_neg, ji_add, ji_sub, ji_mul, ji_neg, ji_l, jl_i, rL_n, rI_n, dL_n, dI_n, mnI_j, mxI_j, ji_nat, rest_j, part_n, whole_j, times_j, kc_0, kc_gt, kc_lt, kc_le, kc_ge, ji_lt, ji_le, ji_inj, jl_inj, jl_lt, jl_le, b1s, b2s, bEs, bEe, rIs, rIn, rIJ, rJs, rJn, rJI, ifp, ifn, if_true, if_false, n1]
        · simp (disch := omega) only [i0, i1, i2, i3, i4, i5, i6, i7, i8, i12, i16, i20, i30, i39, i40, i60, i64, i97, i100, i256, i1000, i10000, im1, im20, im60, l0, l1, l2, l3, l4, l5, l8, l10000, l1e9, lm10000, jl_add, jl_sub, jl_mul, jl_neg, ji_add, ji_sub, ji_mul, ji_neg, ji_l, jl_i, rL_n, rI_n, dL_n, dI_n, mnI_j, mxI_j, ji_nat, rest_j, part_n, whole_j, times_j, kc_0, kc_gt, kc_lt, kc_le, kc_ge, ji_lt, ji_le, ji_inj, jl_inj, jl_lt, jl_le, b1s, b2s, bEs, bEe, rIs, rIn, rIJ, rJs, rJn, rJI, ifp, ifn, if_true, if_false, hN1, n1, pg, m2]
      · unfold f_X10_noSide
        simp (disch := omega) only [i0, i1, i2, i3, i4, i5, i6, i7, i8, i12, i16, i20, i30, i39, i40, i60, i64, i97, i100, i256, i1000, i10000, im1, im20, im60, l0, l1, l2, l3, l4, l5, l8, l10000, l1e9, lm10000, jl_add, jl_sub, jl_mul, jl_neg, ji_add, ji_sub, ji_mul, ji_neg, ji_l, jl_i, rL_n, rI_n, dL_n, dI_n, mnI_j, mxI_j, ji_nat, rest_j, part_n, whole_j, times_j, kc_0, kc_gt, kc_lt, kc_le, kc_ge, ji_lt, ji_le, ji_inj, jl_inj, jl_lt, jl_le, b1s, b2s, bEs, bEe, rIs, rIn, rIJ, rJs, rJn, rJI, ifp, ifn, if_true, if_false, n2, m3, m5, isIn_n, noN1]
        rw [if_pos nb1]
  · have n1 := needP_n t1 t3 ha ga
    have n2 := noP_n t2 t3 ha ga
    refine Or.inl ⟨?_, th T 1, ?_, th_fr, th_17⟩
    · unfold f_X9_needSide
      simp (disch := omega) only [i0, i1, i2, i3, i4, i5, i6, i7, i8, i12, i16, i20, i30, i39, i40, i60, i64, i97, i100, i256, i1000, i10000, im1, im20, im60, l0, l1, l2, l3, l4, l5, l8, l10000, l1e9, lm10000, jl_add, jl_sub, jl_mul, jl_neg, ji_add, ji_sub, ji_mul, ji_neg, ji_l, jl_i, rL_n, rI_n, dL_n, dI_n, mnI_j, mxI_j, ji_nat, rest_j, part_n, whole_j, times_j, kc_0, kc_gt, kc_lt, kc_le, kc_ge, ji_lt, ji_le, ji_inj, jl_inj, jl_lt, jl_le, b1s, b2s, bEs, bEe, rIs, rIn, rIJ, rJs, rJn, rJI, ifp, ifn, if_true, if_false, n1]
    · unfold f_X10_noSide
      simp (disch := omega) only [i0, i1, i2, i3, i4, i5, i6, i7, i8, i12, i16, i20, i30, i39, i40, i60, i64, i97, i100, i256, i1000, i10000, im1, im20, im60, l0, l1, l2, l3, l4, l5, l8, l10000, l1e9, lm10000, jl_add, jl_sub, jl_mul, jl_neg, ji_add, ji_sub, ji_mul, ji_neg, ji_l, jl_i, rL_n, rI_n, dL_n, dI_n, mnI_j, mxI_j, ji_nat, rest_j, part_n, whole_j, times_j, kc_0, kc_gt, kc_lt, kc_le, kc_ge, ji_lt, ji_le, ji_inj, jl_inj, jl_lt, jl_le, b1s, b2s, bEs, bEe, rIs, rIn, rIJ, rJs, rJn, rJI, ifp, ifn, if_true, if_false, n2]
theorem T_length {S T : St} (h : Rel S T) (a b : Int32) : AnR [(3, 1)] S (f_X9_length a b S) (f_X10_length a b T) := by
  unfold f_X9_length f_X10_length
  rcases side_call h a b with ⟨e1, T', e2, e3, e4⟩ | ⟨f, i, s, e, p, c, T', rfl, rfl, hf, hi, hse, he, hp1, hp2, h3, h18, hP, hB, hc, e1, e2, e3, e4, e5, e6, e7, e8⟩
  · simp (disch := omega) only [i0, i1, i2, i3, i4, i5, i6, i7, i8, i12, i16, i20, i30, i39, i40, i60, i64, i97, i100, i256, i1000, i10000, im1, im20, im60, l0, l1, l2, l3, l4, l5, l8, l10000, l1e9, lm10000, jl_add, jl_sub, jl_mul, jl_neg, ji_add, ji_sub, ji_mul, ji_neg, ji_l, jl_i, rL_n, rI_n, dL_n, dI_n, mnI_j, mxI_j, ji_nat, rest_j, part_n, whole_j, times_j, kc_0, kc_gt, kc_lt, kc_le, kc_ge, ji_lt, ji_le, ji_inj, jl_inj, jl_lt, jl_le, b1s, b2s, bEs, bEe, rIs, rIn, rIJ, rJs, rJn, rJI, ifp, ifn, if_true, if_false, e1, e2]
    exact ⟨T', _, rfl, rel_fr h (FrS.refl S) e3, Or.inr ⟨(3, 1), by simp, rfl, e4⟩⟩
  · have pg := pageC (S := S) (k := f) hf
    simp (disch := omega) only [i0, i1, i2, i3, i4, i5, i6, i7, i8, i12, i16, i20, i30, i39, i40, i60, i64, i97, i100, i256, i1000, i10000, im1, im20, im60, l0, l1, l2, l3, l4, l5, l8, l10000, l1e9, lm10000, jl_add, jl_sub, jl_mul, jl_neg, ji_add, ji_sub, ji_mul, ji_neg, ji_l, jl_i, rL_n, rI_n, dL_n, dI_n, mnI_j, mxI_j, ji_nat, rest_j, part_n, whole_j, times_j, kc_0, kc_gt, kc_lt, kc_le, kc_ge, ji_lt, ji_le, ji_inj, jl_inj, jl_lt, jl_le, b1s, b2s, bEs, bEe, rIs, rIn, rIJ, rJs, rJn, rJI, ifp, ifn, if_true, if_false, Int.toNat_natCast, e1, e2, h3, pg, e5, e6, e7, e8]
    exact ⟨T', _, rfl, rel_fr h (FrS.refl S) e3, Or.inl ⟨rfl, e4⟩⟩
theorem T_slope {S T : St} (h : Rel S T) (a b : Int32) : AnR [(3, 1)] S (f_X9_slope a b S) (f_X10_slope a b T) := by
  rcases side_call h a b with ⟨e1, T', e2, e3, e4⟩ | ⟨f, i, s, e, p, c, T', rfl, rfl, hf, hi, hse, he, hp1, hp2, h3, h18, hP, hB, hc, e1, e2, e3, e4, e5, e6, e7, e8⟩
  · unfold f_X9_slope f_X10_slope
    simp (disch := omega) only [i0, i1, i2, i3, i4, i5, i6, i7, i8, i12, i16, i20, i30, i39, i40, i60, i64, i97, i100, i256, i1000, i10000, im1, im20, im60, l0, l1, l2, l3, l4, l5, l8, l10000, l1e9, lm10000, jl_add, jl_sub, jl_mul, jl_neg, ji_add, ji_sub, ji_mul, ji_neg, ji_l, jl_i, rL_n, rI_n, dL_n, dI_n, mnI_j, mxI_j, ji_nat, rest_j, part_n, whole_j, times_j, kc_0, kc_gt, kc_lt, kc_le, kc_ge, ji_lt, ji_le, ji_inj, jl_inj, jl_lt, jl_le, b1s, b2s, bEs, bEe, rIs, rIn, rIJ, rJs, rJn, rJI, ifp, ifn, if_true, if_false, e1, e2]
    exact ⟨T', _, rfl, rel_fr h (FrS.refl S) e3, Or.inr ⟨(3, 1), by simp, rfl, e4⟩⟩
  · have pg := pageC (S := S) (k := f) hf
    have bs := hB s
    have be := hB e
    have vs := vp_62 hp1 (z := c s) (by omega)
    have ve := vp_62 hp1 (z := c e) (by omega)
    obtain ⟨g, g1, g2, g3⟩ := gcdC (a := (vp p (c e) : Int) - vp p (c s)) (b := (e : Int) - s) (by omega) (by omega)
    obtain ⟨g', g4, g5, g6⟩ := comM (a := (vp p (c e) : Int) - vp p (c s)) (b := (e : Int) - s) (by omega) (by omega)
    have := isG_un g2 g5
    subst this
    have gp : 1 ≤ g ∧ g ≤ 6 := by
      have d := g2.2.2.1
      have := Int.le_of_dvd (by omega) d
      have g0 := g2.1
      have : g ≠ 0 := fun q => by
        subst q
        have := Int.zero_dvd.mp d
        omega
      omega
    have q1 : -63 ≤ ((vp p (c e) : Int) - vp p (c s)).tdiv g ∧ ((vp p (c e) : Int) - vp p (c s)).tdiv g ≤ 63 := by
      have := Int.natAbs_tdiv_le_natAbs ((vp p (c e) : Int) - vp p (c s)) g
      omega
    have q2 : -63 ≤ ((e : Int) - s).tdiv g ∧ ((e : Int) - s).tdiv g ≤ 63 := by
      have := Int.natAbs_tdiv_le_natAbs ((e : Int) - s) g
      omega
    have w100 : (100 : Int64) = jl 100 := rfl
    have kC : f_X9_slope (ji f) (ji i) S = some (.ok (ji (100 * ((vp p (c e) : Int) - vp p (c s)).tdiv g + ((e : Int) - s).tdiv g))) := by
      have h1' := heightC (S := S) ⟨hp1, hp2⟩ hP hB (j := s) (by omega)
      have h2' := heightC (S := S) ⟨hp1, hp2⟩ hP hB (j := e) (by omega)
      have p1 := part_j (a := (vp p (c e) : Int) - vp p (c s)) (m := g) (by omega) (by omega)
      have p2 := part_j (a := (e : Int) - s) (m := g) (by omega) (by omega)
      clear g2 g5
      unfold f_X9_slope f_X4_steepness
      rw [w100]
      simp (disch := omega) only [i0, i1, i2, i3, i4, i5, i6, i7, i8, i12, i16, i20, i30, i39, i40, i60, i64, i97, i100, i256, i1000, i10000, im1, im20, im60, l0, l1, l2, l3, l4, l5, l8, l10000, l1e9, lm10000, jl_add, jl_sub, jl_mul, jl_neg, ji_add, ji_sub, ji_mul, ji_neg, ji_l, jl_i, rL_n, rI_n, dL_n, dI_n, mnI_j, mxI_j, ji_nat, rest_j, part_n, whole_j, times_j, kc_0, kc_gt, kc_lt, kc_le, kc_ge, ji_lt, ji_le, ji_inj, jl_inj, jl_lt, jl_le, b1s, b2s, bEs, bEe, rIs, rIn, rIJ, rJs, rJn, rJI, ifp, ifn, if_true, if_false, e1, h3, pg, e5, e6, h1', h2', g1, p1, p2]
    have kM : f_X10_slope (ji f) (ji i) T = some (ji (100 * ((vp p (c e) : Int) - vp p (c s)).tdiv g + ((e : Int) - s).tdiv g), T') := by
      have i1' := valM h18 ⟨hp1, hp2⟩ (z := c e) (by omega)
      have i2' := valM h18 ⟨hp1, hp2⟩ (z := c s) (by omega)
      have es := hc s (by omega)
      have ee := hc e (by omega)
      have a1 : (7 * (f : Int) + (s : Int)).toNat = 7 * f + s := by omega
      have a2 : (7 * (f : Int) + (e : Int)).toNat = 7 * f + e := by omega
      have d1 := ji_div (a := (vp p (c e) : Int) - vp p (c s)) (b := g) (by omega) (by omega)
      have d2 := ji_div (a := (e : Int) - s) (b := g) (by omega) (by omega)
      clear g2 g5
      unfold f_X10_slope
      simp (disch := omega) only [i0, i1, i2, i3, i4, i5, i6, i7, i8, i12, i16, i20, i30, i39, i40, i60, i64, i97, i100, i256, i1000, i10000, im1, im20, im60, l0, l1, l2, l3, l4, l5, l8, l10000, l1e9, lm10000, jl_add, jl_sub, jl_mul, jl_neg, ji_add, ji_sub, ji_mul, ji_neg, ji_l, jl_i, rL_n, rI_n, dL_n, dI_n, mnI_j, mxI_j, ji_nat, rest_j, part_n, whole_j, times_j, kc_0, kc_gt, kc_lt, kc_le, kc_ge, ji_lt, ji_le, ji_inj, jl_inj, jl_lt, jl_le, b1s, b2s, bEs, bEe, rIs, rIn, rIJ, rJs, rJn, rJI, ifp, ifn, if_true, if_false, Int.toNat_natCast, e2, e7, e8, a1, a2, es, ee, i1', i2', g4, d1, d2]
    rw [kC, kM]
    exact ⟨T', _, rfl, rel_fr h (FrS.refl S) e3, Or.inl ⟨rfl, e4⟩⟩
