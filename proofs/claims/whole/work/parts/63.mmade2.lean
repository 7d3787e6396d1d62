theorem jl_and7 {e : Int} (h : -9223372036854775808 ≤ e ∧ e < 9223372036854775808) : jl e &&& jl 7 = jl (e % 8) := by
  apply Int64.toBitVec_inj.mp
  rw [Int64.toBitVec_and]
  apply BitVec.eq_of_toNat_eq
  rw [BitVec.toNat_and]
  show (BitVec.ofInt 64 e).toNat &&& (2 ^ 3 - 1) = (BitVec.ofInt 64 (e % 8)).toNat
  rw [Nat.and_two_pow_sub_one_eq_mod, BitVec.toNat_ofInt, BitVec.toNat_ofInt]
  omega
theorem l7 : (7 : Int64) = jl 7 := rfl
theorem hasSqC {S : St} {p : Int} {r k : Nat} {x : Int × Int × Int} (h : NrC S p r) (hr : Rch p r) (hx : NumC S k x) (wx : Wf p r x) : ∃ v : Int, f_X5_hasSquareRoot k S = some (ji v) ∧ ((v = 1 ∧ HasSq p x) ∨ (v = 0 ∧ ¬ HasSq p x)) := by
  have hrr := hr.2.2.2.2
  have hp1 := hr.1
  have hp2 := hr.2.1
  have ux := wx.u9 hr
  have n0 := nothC hx wx
  have u := wx.u0
  obtain ⟨a1, a2, a3, a4, -⟩ := wx
  unfold f_X5_hasSquareRoot HasSq
  rw [n0, b1s, hx.1, hx.2.1, hx.2.2, h.1]
  by_cases h0 : x.2.2 = 0
  · rw [if_pos h0]
    simp (disch := omega) only [i0, i1, i2, i3, i4, i5, i6, i7, i8, i12, i16, i20, i30, i39, i40, i60, i64, i97, i100, i256, i1000, i10000, im1, im20, im60, l0, l1, l2, l3, l4, l5, l8, l10000, l1e9, lm10000, jl_add, jl_sub, jl_mul, jl_neg, ji_add, ji_sub, ji_mul, ji_neg, ji_l, jl_i, rL_n, rI_n, dL_n, dI_n, mnI_j, mxI_j, ji_nat, rest_j, part_n, whole_j, times_j, kc_0, kc_gt, kc_lt, kc_le, kc_ge, ji_lt, ji_le, ji_inj, jl_inj, jl_lt, jl_le, b1s, b2s, bEs, bEe, rIs, rIn, rIJ, rJs, rJn, rJI, ifp, ifn, if_true, if_false]
    exact ⟨0, rfl, Or.inr ⟨rfl, fun q => q.1 h0⟩⟩
  · rw [if_neg h0]
    simp (disch := omega) only [i0, i1, i2, i3, i4, i5, i6, i7, i8, i12, i16, i20, i30, i39, i40, i60, i64, i97, i100, i256, i1000, i10000, im1, im20, im60, l0, l1, l2, l3, l4, l5, l8, l10000, l1e9, lm10000, jl_add, jl_sub, jl_mul, jl_neg, ji_add, ji_sub, ji_mul, ji_neg, ji_l, jl_i, rL_n, rI_n, dL_n, dI_n, mnI_j, mxI_j, ji_nat, rest_j, part_n, whole_j, times_j, kc_0, kc_gt, kc_lt, kc_le, kc_ge, ji_lt, ji_le, ji_inj, jl_inj, jl_lt, jl_le, b1s, b2s, bEs, bEe, rIs, rIn, rIJ, rJs, rJn, rJI, ifp, ifn, if_true, if_false, ji_and1]
    by_cases he : x.1 % 2 = 0
    · rw [if_pos he]
      by_cases h2 : p = 2
      · rw [if_pos h2]
        by_cases h3 : x.2.1 - x.1 < 3
        · rw [if_pos h3]
          exact ⟨0, rfl, Or.inr ⟨rfl, fun q => by have := (q.2.2.1 h2).1; omega⟩⟩
        · rw [if_neg h3, l7, jl_and7 (by omega)]
          simp (disch := omega) only [i0, i1, i2, i3, i4, i5, i6, i7, i8, i12, i16, i20, i30, i39, i40, i60, i64, i97, i100, i256, i1000, i10000, im1, im20, im60, l0, l1, l2, l3, l4, l5, l8, l10000, l1e9, lm10000, jl_add, jl_sub, jl_mul, jl_neg, ji_add, ji_sub, ji_mul, ji_neg, ji_l, jl_i, rL_n, rI_n, dL_n, dI_n, mnI_j, mxI_j, ji_nat, rest_j, part_n, whole_j, times_j, kc_0, kc_gt, kc_lt, kc_le, kc_ge, ji_lt, ji_le, ji_inj, jl_inj, jl_lt, jl_le, b1s, b2s, bEs, bEe, rIs, rIn, rIJ, rJs, rJn, rJI, ifp, ifn, if_true, if_false]
          by_cases h8 : x.2.2 % 8 = 1
          · rw [if_pos h8]
            exact ⟨1, rfl, Or.inl ⟨rfl, h0, he, fun _ => ⟨by omega, h8⟩, fun q => absurd h2 q⟩⟩
          · rw [if_neg h8]
            exact ⟨0, rfl, Or.inr ⟨rfl, fun q => h8 (q.2.2.1 h2).2⟩⟩
      · rw [if_neg h2, rootDigitC h (by omega), b1s]
        have hs : sqd p x.2.2 < 100 := by
          by_cases q : sqd p x.2.2 = 0
          · omega
          · have := sqd_spec hp1 q
            omega
        simp (disch := omega) only [i0, i1, i2, i3, i4, i5, i6, i7, i8, i12, i16, i20, i30, i39, i40, i60, i64, i97, i100, i256, i1000, i10000, im1, im20, im60, l0, l1, l2, l3, l4, l5, l8, l10000, l1e9, lm10000, jl_add, jl_sub, jl_mul, jl_neg, ji_add, ji_sub, ji_mul, ji_neg, ji_l, jl_i, rL_n, rI_n, dL_n, dI_n, mnI_j, mxI_j, ji_nat, rest_j, part_n, whole_j, times_j, kc_0, kc_gt, kc_lt, kc_le, kc_ge, ji_lt, ji_le, ji_inj, jl_inj, jl_lt, jl_le, b1s, b2s, bEs, bEe, rIs, rIn, rIJ, rJs, rJn, rJI, ifp, ifn, if_true, if_false]
        by_cases hz : sqd p x.2.2 = 0
        · rw [if_pos (by omega)]
          exact ⟨0, rfl, Or.inr ⟨rfl, fun q => q.2.2.2 h2 hz⟩⟩
        · rw [if_neg (by omega)]
          exact ⟨1, rfl, Or.inl ⟨rfl, h0, he, fun q => absurd q h2, fun _ => hz⟩⟩
    · rw [if_neg he]
      exact ⟨0, rfl, Or.inr ⟨rfl, fun q => he q.2.1⟩⟩
theorem hasSqM {T : St} {p : Int} {r n : Nat} {x : Int × Int × Int} (h : T.1 0 18 = ji p) (hP : Pr p) (hr : Rch p r) (hn : n < 40) (hx : NumM T n x) (wx : Wf p r x) : ∃ v : Int, f_X10_isSquare (ji n) T = some (ji v) ∧ ((v = 1 ∧ HasSq p x) ∨ (v = 0 ∧ ¬ HasSq p x)) := by
  have hrr := hr.2.2.2.2
  have hp1 := hr.1
  have hp2 := hr.2.1
  have ux := wx.u9 hr
  obtain ⟨a1, a2, a3, a4, -, -, a5, -⟩ := wx
  obtain ⟨x1, x2, x3⟩ := hx
  have t1 := Int.lt_tmod_of_pos x.1 (show (0 : Int) < 2 by omega)
  have t2 := Int.tmod_lt_of_pos x.1 (show (0 : Int) < 2 by omega)
  have t3 := @tmod_z x.1 2 (by omega)
  unfold f_X10_isSquare HasSq
  simp (disch := omega) only [i0, i1, i2, i3, i4, i5, i6, i7, i8, i12, i16, i20, i30, i39, i40, i60, i64, i97, i100, i256, i1000, i10000, im1, im20, im60, l0, l1, l2, l3, l4, l5, l8, l10000, l1e9, lm10000, jl_add, jl_sub, jl_mul, jl_neg, ji_add, ji_sub, ji_mul, ji_neg, ji_l, jl_i, rL_n, rI_n, dL_n, dI_n, mnI_j, mxI_j, ji_nat, rest_j, part_n, whole_j, times_j, kc_0, kc_gt, kc_lt, kc_le, kc_ge, ji_lt, ji_le, ji_inj, jl_inj, jl_lt, jl_le, b1s, b2s, bEs, bEe, rIs, rIn, rIJ, rJs, rJn, rJI, ifp, ifn, if_true, if_false, Int.toNat_natCast, x1, x2, x3, h, rI_j]
  by_cases h0 : x.2.2 = 0
  · rw [if_pos h0]
    exact ⟨0, rfl, Or.inr ⟨rfl, fun q => q.1 h0⟩⟩
  · rw [if_neg h0]
    by_cases he : x.1 % 2 = 0
    · rw [if_pos (t3.mpr he)]
      by_cases h2 : p = 2
      · rw [if_pos h2]
        by_cases h3 : x.2.1 - x.1 < 3
        · rw [if_pos h3]
          exact ⟨0, rfl, Or.inr ⟨rfl, fun q => by have := (q.2.2.1 h2).1; omega⟩⟩
        · rw [if_neg h3]
          by_cases h8 : x.2.2 % 8 = 1
          · rw [if_pos h8]
            exact ⟨1, rfl, Or.inl ⟨rfl, h0, he, fun _ => ⟨by omega, h8⟩, fun q => absurd h2 q⟩⟩
          · rw [if_neg h8]
            exact ⟨0, rfl, Or.inr ⟨rfl, fun q => h8 (q.2.2.1 h2).2⟩⟩
      · rw [if_neg h2]
        have hco : ¬ p ∣ x.2.2 := a5.resolve_left h0
        have hs := sqd_euler hP h2 hco
        have g1 := emod_rng (a := x.2.2 ^ ((p - 1) / 2).toNat) (show 0 < p by omega)
        rw [powM (by omega) (by omega) (by omega), b1s]
        simp (disch := omega) only [i0, i1, i2, i3, i4, i5, i6, i7, i8, i12, i16, i20, i30, i39, i40, i60, i64, i97, i100, i256, i1000, i10000, im1, im20, im60, l0, l1, l2, l3, l4, l5, l8, l10000, l1e9, lm10000, jl_add, jl_sub, jl_mul, jl_neg, ji_add, ji_sub, ji_mul, ji_neg, ji_l, jl_i, rL_n, rI_n, dL_n, dI_n, mnI_j, mxI_j, ji_nat, rest_j, part_n, whole_j, times_j, kc_0, kc_gt, kc_lt, kc_le, kc_ge, ji_lt, ji_le, ji_inj, jl_inj, jl_lt, jl_le, b1s, b2s, bEs, bEe, rIs, rIn, rIJ, rJs, rJn, rJI, ifp, ifn, if_true, if_false]
        by_cases hz : x.2.2 ^ ((p - 1) / 2).toNat % p = 1
        · rw [if_pos hz]
          exact ⟨1, rfl, Or.inl ⟨rfl, h0, he, fun q => absurd q h2, fun _ => hs.mpr hz⟩⟩
        · rw [if_neg hz]
          exact ⟨0, rfl, Or.inr ⟨rfl, fun q => hz (hs.mp (q.2.2.2 h2))⟩⟩
    · rw [if_neg (fun q => he (t3.mp q))]
      exact ⟨0, rfl, Or.inr ⟨rfl, fun q => he q.2.1⟩⟩
theorem T_divide {S T : St} (h : Rel S T) (a b : Int32) : An [(3, 1), (4, 2), (2, 3)] (f_X9_divide a b S) (f_X10_divide a b T) := by
  obtain ⟨a, rfl, ha⟩ := ji_ex a
  obtain ⟨b, rfl, hb⟩ := ji_ex b
  have hh := h
  obtain ⟨p, r, cnt, num, early, D, C, bc, cn, pc, rowc, rv, sz, en, h1, h2, h3, h4⟩ := hh
  have hP := h1.1
  have hr := h1.2.1
  have hp18 := h1.2.2.2.1
  have c5 := h1.2.2.2.2.1
  have c6 := h1.2.2.2.2.2.1
  have c7 := h1.2.2.2.2.2.2.1
  have c8 := h1.2.2.2.2.2.2.2
  have hrr := hr.2.2.2.2
  unfold f_X9_divide f_X10_divide n_X10_divide_26 n_X10_divide_56
  by_cases hab : (0 ≤ a ∧ a < cnt) ∧ (0 ≤ b ∧ b < cnt)
  · obtain ⟨xa, ma, wa, -⟩ := num3 hab.1 c8
    obtain ⟨xb, mb, wb, -⟩ := num3 hab.2 c8
    have ub := wb.u9 hr
    have vq := wa.1
    have vr := wb.1
    have vs := wa.2.1
    have vt := wb.2.1
    have vu := wa.2.2.1
    have vv := wb.2.2.1
    have hab1 := hab.1
    have hab2 := hab.2
    have c6' : (th T 0).1 0 19 = ji cnt := (th_n (by omega)).trans c6
    have nothb := nothC xb wb
    have n1 := needN_y c5 c7 hab.1
    have n2 := needN_y c5 c7 hab.2
    have n3 := noNums_y c6 c7 hab.1 hab.2
    have n4 := numbC (S := S) (n := 40) (v := a) ⟨hab.1.1, by omega⟩ (by omega)
    have n5 := numbC (S := S) (n := 40) (v := b) ⟨hab.2.1, by omega⟩ (by omega)
    have n6 : (th T 0).2 8 b.toNat = jl (num b.toNat).2.2 := by rw [th_2]; exact mb.2.2
    by_cases hz : (num b.toNat).2.2 = 0
    · rw [if_pos hz] at nothb
      simp (disch := omega) only [i0, i1, i2, i3, i4, i5, i6, i7, i8, i12, i16, i20, i30, i39, i40, i60, i64, i97, i100, i256, i1000, i10000, im1, im20, im60, l0, l1, l2, l3, l4, l5, l8, l10000, l1e9, lm10000, jl_add, jl_sub, jl_mul, jl_neg, ji_add, ji_sub, ji_mul, ji_neg, ji_l, jl_i, rL_n, rI_n, dL_n, dI_n, mnI_j, mxI_j, ji_nat, rest_j, part_n, whole_j, times_j, kc_0, kc_gt, kc_lt, kc_le, kc_ge, ji_lt, ji_le, ji_inj, jl_inj, jl_lt, jl_le, b1s, b2s, bEs, bEe, rIs, rIn, rIJ, rJs, rJn, rJI, ifp, ifn, if_true, if_false, n1, n2, n3, n4, n5, n6, nothb, noN2]
      exact ⟨S, th T 2, ji 0, by rw [th_th], rel_fr h (FrS.refl S) th_fr, Or.inr ⟨(4, 2), by simp, rfl, th_17⟩⟩
    · have vp := quot_v hP hr wa wb hz
      have pm := quotientM (T := th T 0) (n := a.toNat) (m := b.toNat) ((th_n (by omega)).trans hp18) hP hr (by omega) (by omega) (x := num a.toNat) (y := num b.toNat) ⟨(th_n (by omega)).trans ma.1, (th_n (by omega)).trans ma.2.1, by rw [th_2]; exact ma.2.2⟩ ⟨(th_n (by omega)).trans mb.1, (th_n (by omega)).trans mb.2.1, by rw [th_2]; exact mb.2.2⟩ wa wb
      rw [show ((a.toNat : Nat) : Int) = a by omega, show ((b.toNat : Nat) : Int) = b by omega] at pm
      rw [if_neg hz] at nothb
      have f23 : (setF (th T 0) (quotS p r (num a.toNat) (num b.toNat))).1 0 23 = ji (min ((num a.toNat).1 - (num b.toNat).1) 60) := by unfold setF; simp (disch := omega) only [rIs, rIn, rIJ, rJs, rJn, rJI]; rw [vp]
      have F1 : FrT T (setF (th T 0) (quotS p r (num a.toNat) (num b.toNat))) := th_fr.trans setF_fr
      have t1 := xa.1
      have t2 := xb.1
      simp (disch := omega) only [i0, i1, i2, i3, i4, i5, i6, i7, i8, i12, i16, i20, i30, i39, i40, i60, i64, i97, i100, i256, i1000, i10000, im1, im20, im60, l0, l1, l2, l3, l4, l5, l8, l10000, l1e9, lm10000, jl_add, jl_sub, jl_mul, jl_neg, ji_add, ji_sub, ji_mul, ji_neg, ji_l, jl_i, rL_n, rI_n, dL_n, dI_n, mnI_j, mxI_j, ji_nat, rest_j, part_n, whole_j, times_j, kc_0, kc_gt, kc_lt, kc_le, kc_ge, ji_lt, ji_le, ji_inj, jl_inj, jl_lt, jl_le, b1s, b2s, bEs, bEe, rIs, rIn, rIJ, rJs, rJn, rJI, ifp, ifn, if_true, if_false, n1, n2, n3, n4, n5, n6, nothb, noY, th_th, pm, t1, t2, f23]
      generalize setF (th T 0) (quotS p r (num a.toNat) (num b.toNat)) = T1 at *
      have d6 : T1.1 0 19 = ji cnt := (F1.1 _ _ (by omega) (by omega) (by omega) (by omega)).trans c6
      by_cases hlow : (num a.toNat).1 - (num b.toNat).1 < -60
      · simp (disch := omega) only [i0, i1, i2, i3, i4, i5, i6, i7, i8, i12, i16, i20, i30, i39, i40, i60, i64, i97, i100, i256, i1000, i10000, im1, im20, im60, l0, l1, l2, l3, l4, l5, l8, l10000, l1e9, lm10000, jl_add, jl_sub, jl_mul, jl_neg, ji_add, ji_sub, ji_mul, ji_neg, ji_l, jl_i, rL_n, rI_n, dL_n, dI_n, mnI_j, mxI_j, ji_nat, rest_j, part_n, whole_j, times_j, kc_0, kc_gt, kc_lt, kc_le, kc_ge, ji_lt, ji_le, ji_inj, jl_inj, jl_lt, jl_le, b1s, b2s, bEs, bEe, rIs, rIn, rIJ, rJs, rJn, rJI, ifp, ifn, if_true, if_false, noN2]
        exact ⟨S, th T1 2, ji 0, rfl, rel_fr h (FrS.refl S) (F1.trans th_fr), Or.inr ⟨(4, 2), by simp, rfl, th_17⟩⟩
      · have d6' : (th T1 0).1 0 19 = ji cnt := (th_n (by omega)).trans d6
        have F2 : FrT T (th T1 0) := F1.trans th_fr
        by_cases hc : cnt < 40
        · have r2 := roomY (k := 3) d6' hc
          have r1 := needR_y c5 hc
          obtain ⟨S', T', e1, e2, e3, e4⟩ := made (k := 4) (a := a) (b := b) (b' := b) (rn_fr h1 (FrS.refl S) F2) (rp_fr h2 (FrS.refl S) F2) (rr_fr h3 (FrS.refl S) F2) (rx_fr h4 (FrS.refl S) F2) hc (by omega) ha hb (fun _ => rfl) (fun d q0 q1 q2 => Or.inr (Or.inr (Or.inr (Or.inr (Or.inl ⟨q0, by rw [q1]; exact hab.1, by rw [q2]; exact hab.2, by rw [q2]; exact hz, by rw [q1, q2]; omega⟩)))))
          simp (disch := omega) only [i0, i1, i2, i3, i4, i5, i6, i7, i8, i12, i16, i20, i30, i39, i40, i60, i64, i97, i100, i256, i1000, i10000, im1, im20, im60, l0, l1, l2, l3, l4, l5, l8, l10000, l1e9, lm10000, jl_add, jl_sub, jl_mul, jl_neg, ji_add, ji_sub, ji_mul, ji_neg, ji_l, jl_i, rL_n, rI_n, dL_n, dI_n, mnI_j, mxI_j, ji_nat, rest_j, part_n, whole_j, times_j, kc_0, kc_gt, kc_lt, kc_le, kc_ge, ji_lt, ji_le, ji_inj, jl_inj, jl_lt, jl_le, b1s, b2s, bEs, bEe, rIs, rIn, rIJ, rJs, rJn, rJI, ifp, ifn, if_true, if_false, noY, r1, r2, th_th, e1, e2]
          exact ⟨S', T', _, rfl, e3, Or.inl ⟨rfl, e4.trans th_17⟩⟩
        · have hc : cnt = 40 := by omega
          subst hc
          have r2 := roomN3 d6'
          have r1 := needR_n c5
          simp (disch := omega) only [i0, i1, i2, i3, i4, i5, i6, i7, i8, i12, i16, i20, i30, i39, i40, i60, i64, i97, i100, i256, i1000, i10000, im1, im20, im60, l0, l1, l2, l3, l4, l5, l8, l10000, l1e9, lm10000, jl_add, jl_sub, jl_mul, jl_neg, ji_add, ji_sub, ji_mul, ji_neg, ji_l, jl_i, rL_n, rI_n, dL_n, dI_n, mnI_j, mxI_j, ji_nat, rest_j, part_n, whole_j, times_j, kc_0, kc_gt, kc_lt, kc_le, kc_ge, ji_lt, ji_le, ji_inj, jl_inj, jl_lt, jl_le, b1s, b2s, bEs, bEe, rIs, rIn, rIJ, rJs, rJn, rJI, ifp, ifn, if_true, if_false, noY, r1, r2, th_th]
          exact ⟨S, th T1 3, ji 0, rfl, rel_fr h (FrS.refl S) (F1.trans th_fr), Or.inr ⟨(2, 3), by simp, rfl, th_17⟩⟩
  · rw [noNums_n c6 c7 ha hb hab, b2s, ifn (show ¬ ji 1 = (0 : Int32) by decide)]
    refine ⟨S, th T 1, 0, rfl, rel_fr h (FrS.refl S) th_fr, Or.inr ⟨(3, 1), by simp, ?_, th_17⟩⟩
    by_cases q : 0 ≤ a ∧ a < cnt
    · rw [needN_y c5 c7 q, bEs, needN_n c5 c7 hb (fun q' => hab ⟨q, q'⟩), bEe]
    · rw [needN_n c5 c7 ha q, bEe]
theorem T_root {S T : St} (h : Rel S T) (a : Int32) : An [(3, 1), (5, 2), (2, 3)] (f_X9_root a S) (f_X10_root a T) := by
  obtain ⟨a, rfl, ha⟩ := ji_ex a
  have hh := h
  obtain ⟨p, r, cnt, num, early, D, C, bc, cn, pc, rowc, rv, sz, en, h1, h2, h3, h4⟩ := hh
  have hP := h1.1
  have hr := h1.2.1
  have hN := h1.2.2.1
  have hp18 := h1.2.2.2.1
  have c5 := h1.2.2.2.2.1
  have c6 := h1.2.2.2.2.2.1
  have c7 := h1.2.2.2.2.2.2.1
  have c8 := h1.2.2.2.2.2.2.2
  unfold f_X9_root f_X10_root
  by_cases hab : 0 ≤ a ∧ a < cnt
  · obtain ⟨xa, ma, wa, -⟩ := num3 hab c8
    have c6' : (th T 0).1 0 19 = ji cnt := (th_n (by omega)).trans c6
    have n1 := needN_y c5 c7 hab
    have n3 := noNum_y c6 c7 hab
    have n4 := numbC (S := S) (n := 40) (v := a) ⟨hab.1, by omega⟩ (by omega)
    obtain ⟨v, e1, hv⟩ := hasSqC hN hr xa wa
    obtain ⟨w, e2, hw⟩ := hasSqM (T := th T 0) (n := a.toNat) ((th_n (by omega)).trans hp18) hP hr (by omega) (x := num a.toNat) ⟨(th_n (by omega)).trans ma.1, (th_n (by omega)).trans ma.2.1, by rw [th_2]; exact ma.2.2⟩ wa
    rw [show ((a.toNat : Nat) : Int) = a by omega] at e2
    by_cases hs : HasSq p (num a.toNat)
    · have hv1 : v = 1 := by
        rcases hv with ⟨q, -⟩ | ⟨-, q⟩
        · exact q
        · exact absurd hs q
      have hw1 : w = 1 := by
        rcases hw with ⟨q, -⟩ | ⟨-, q⟩
        · exact q
        · exact absurd hs q
      subst hv1 hw1
      by_cases hc : cnt < 40
      · have r2 := roomY (k := 3) c6' hc
        have r1 := needR_y c5 hc
        obtain ⟨S', T', f1, f2, f3, f4⟩ := made (k := 5) (a := a) (b := -1) (b' := 0) (rn_fr h1 (FrS.refl S) (th_fr (k := 0))) (rp_fr h2 (FrS.refl S) th_fr) (rr_fr h3 (FrS.refl S) th_fr) (rx_fr h4 (FrS.refl S) th_fr) hc (by omega) ha (by omega) (fun q => by omega) (fun d q0 q1 q2 => Or.inr (Or.inr (Or.inr (Or.inr (Or.inr (Or.inl ⟨q0, by rw [q1]; exact hab, q2, by rw [q1]; exact hs⟩))))))
        simp (disch := omega) only [i0, i1, i2, i3, i4, i5, i6, i7, i8, i12, i16, i20, i30, i39, i40, i60, i64, i97, i100, i256, i1000, i10000, im1, im20, im60, l0, l1, l2, l3, l4, l5, l8, l10000, l1e9, lm10000, jl_add, jl_sub, jl_mul, jl_neg, ji_add, ji_sub, ji_mul, ji_neg, ji_l, jl_i, rL_n, rI_n, dL_n, dI_n, mnI_j, mxI_j, ji_nat, rest_j, part_n, whole_j, times_j, kc_0, kc_gt, kc_lt, kc_le, kc_ge, ji_lt, ji_le, ji_inj, jl_inj, jl_lt, jl_le, b1s, b2s, bEs, bEe, rIs, rIn, rIJ, rJs, rJn, rJI, ifp, ifn, if_true, if_false, n1, n3, n4, e1, e2, noY, th_th, r1, r2, f1, f2]
        exact ⟨S', T', _, rfl, f3, Or.inl ⟨rfl, f4.trans th_17⟩⟩
      · have hc : cnt = 40 := by omega
        subst hc
        have r2 := roomN3 c6'
        have r1 := needR_n c5
        simp (disch := omega) only [i0, i1, i2, i3, i4, i5, i6, i7, i8, i12, i16, i20, i30, i39, i40, i60, i64, i97, i100, i256, i1000, i10000, im1, im20, im60, l0, l1, l2, l3, l4, l5, l8, l10000, l1e9, lm10000, jl_add, jl_sub, jl_mul, jl_neg, ji_add, ji_sub, ji_mul, ji_neg, ji_l, jl_i, rL_n, rI_n, dL_n, dI_n, mnI_j, mxI_j, ji_nat, rest_j, part_n, whole_j, times_j, kc_0, kc_gt, kc_lt, kc_le, kc_ge, ji_lt, ji_le, ji_inj, jl_inj, jl_lt, jl_le, b1s, b2s, bEs, bEe, rIs, rIn, rIJ, rJs, rJn, rJI, ifp, ifn, if_true, if_false, n1, n3, n4, e1, e2, noY, th_th, r1, r2]
        exact ⟨S, th T 3, ji 0, rfl, rel_fr h (FrS.refl S) th_fr, Or.inr ⟨(2, 3), by simp, rfl, th_17⟩⟩
    · have hv1 : v = 0 := by
        rcases hv with ⟨-, q⟩ | ⟨q, -⟩
        · exact absurd q hs
        · exact q
      have hw1 : w = 0 := by
        rcases hw with ⟨-, q⟩ | ⟨q, -⟩
        · exact absurd q hs
        · exact q
      subst hv1 hw1
      simp (disch := omega) only [i0, i1, i2, i3, i4, i5, i6, i7, i8, i12, i16, i20, i30, i39, i40, i60, i64, i97, i100, i256, i1000, i10000, im1, im20, im60, l0, l1, l2, l3, l4, l5, l8, l10000, l1e9, lm10000, jl_add, jl_sub, jl_mul, jl_neg, ji_add, ji_sub, ji_mul, ji_neg, ji_l, jl_i, rL_n, rI_n, dL_n, dI_n, mnI_j, mxI_j, ji_nat, rest_j, part_n, whole_j, times_j, kc_0, kc_gt, kc_lt, kc_le, kc_ge, ji_lt, ji_le, ji_inj, jl_inj, jl_lt, jl_le, b1s, b2s, bEs, bEe, rIs, rIn, rIJ, rJs, rJn, rJI, ifp, ifn, if_true, if_false, n1, n3, n4, e1, e2, noN2, th_th]
      exact ⟨S, th T 2, ji 0, rfl, rel_fr h (FrS.refl S) th_fr, Or.inr ⟨(5, 2), by simp, rfl, th_17⟩⟩
  · rw [noNum_n c6 c7 ha hab, b2s, ifn (show ¬ ji 1 = (0 : Int32) by decide)]
    refine ⟨S, th T 1, 0, rfl, rel_fr h (FrS.refl S) th_fr, Or.inr ⟨(3, 1), by simp, ?_, th_17⟩⟩
    rw [needN_n c5 c7 ha hab, bEe]
theorem T_unity {S T : St} (h : Rel S T) (a : Int32) : An [(3, 1), (5, 2), (2, 3)] (f_X9_unity a S) (f_X10_unity a T) := by
  obtain ⟨a, rfl, ha⟩ := ji_ex a
  have hh := h
  obtain ⟨p, r, cnt, num, early, D, C, bc, cn, pc, rowc, rv, sz, en, h1, h2, h3, h4⟩ := hh
  have hr := h1.2.1
  have c5 := h1.2.2.2.2.1
  have c6 := h1.2.2.2.2.2.1
  have c7 := h1.2.2.2.2.2.2.1
  have c8 := h1.2.2.2.2.2.2.2
  unfold f_X9_unity f_X10_unity n_X10_unity_34
  by_cases hab : 0 ≤ a ∧ a < cnt
  · obtain ⟨xa, ma, wa, -⟩ := num3 hab c8
    have c6' : (th T 0).1 0 19 = ji cnt := (th_n (by omega)).trans c6
    have n1 := needN_y c5 c7 hab
    have n3 := noNum_y c6 c7 hab
    have n4 := numbC (S := S) (n := 40) (v := a) ⟨hab.1, by omega⟩ (by omega)
    have nothb := nothC xa wa
    have t1 := xa.1
    have t2 : (th T 0).1 1 a.toNat = ji (num a.toNat).1 := (th_n (by omega)).trans ma.1
    have t3 : (th T 0).2 8 a.toNat = jl (num a.toNat).2.2 := by rw [th_2]; exact ma.2.2
    have ux := wa.u9 hr
    have vq := wa.1
    have vs := wa.2.1
    have vu := wa.2.2.1
    by_cases hs : (num a.toNat).1 = 0 ∧ (num a.toNat).2.2 ≠ 0
    · obtain ⟨s1, s2⟩ := hs
      rw [if_neg s2] at nothb
      by_cases hc : cnt < 40
      · have r2 := roomY (k := 3) c6' hc
        have r1 := needR_y c5 hc
        obtain ⟨S', T', f1, f2, f3, f4⟩ := made (k := 6) (a := a) (b := -1) (b' := 0) (rn_fr h1 (FrS.refl S) (th_fr (k := 0))) (rp_fr h2 (FrS.refl S) th_fr) (rr_fr h3 (FrS.refl S) th_fr) (rx_fr h4 (FrS.refl S) th_fr) hc (by omega) ha (by omega) (fun q => by omega) (fun d q0 q1 q2 => Or.inr (Or.inr (Or.inr (Or.inr (Or.inr (Or.inr (Or.inl ⟨q0, by rw [q1]; exact hab, q2, by rw [q1]; exact s1, by rw [q1]; exact s2⟩)))))))
        simp (disch := omega) only [i0, i1, i2, i3, i4, i5, i6, i7, i8, i12, i16, i20, i30, i39, i40, i60, i64, i97, i100, i256, i1000, i10000, im1, im20, im60, l0, l1, l2, l3, l4, l5, l8, l10000, l1e9, lm10000, jl_add, jl_sub, jl_mul, jl_neg, ji_add, ji_sub, ji_mul, ji_neg, ji_l, jl_i, rL_n, rI_n, dL_n, dI_n, mnI_j, mxI_j, ji_nat, rest_j, part_n, whole_j, times_j, kc_0, kc_gt, kc_lt, kc_le, kc_ge, ji_lt, ji_le, ji_inj, jl_inj, jl_lt, jl_le, b1s, b2s, bEs, bEe, rIs, rIn, rIJ, rJs, rJn, rJI, ifp, ifn, if_true, if_false, n1, n3, n4, nothb, t1, t2, t3, noY, th_th, r1, r2, f1, f2]
        exact ⟨S', T', _, rfl, f3, Or.inl ⟨rfl, f4.trans th_17⟩⟩
      · have hc : cnt = 40 := by omega
        subst hc
        have r2 := roomN3 c6'
        have r1 := needR_n c5
        simp (disch := omega) only [i0, i1, i2, i3, i4, i5, i6, i7, i8, i12, i16, i20, i30, i39, i40, i60, i64, i97, i100, i256, i1000, i10000, im1, im20, im60, l0, l1, l2, l3, l4, l5, l8, l10000, l1e9, lm10000, jl_add, jl_sub, jl_mul, jl_neg, ji_add, ji_sub, ji_mul, ji_neg, ji_l, jl_i, rL_n, rI_n, dL_n, dI_n, mnI_j, mxI_j, ji_nat, rest_j, part_n, whole_j, times_j, kc_0, kc_gt, kc_lt, kc_le, kc_ge, ji_lt, ji_le, ji_inj, jl_inj, jl_lt, jl_le, b1s, b2s, bEs, bEe, rIs, rIn, rIJ, rJs, rJn, rJI, ifp, ifn, if_true, if_false, n1, n3, n4, nothb, t1, t2, t3, noY, th_th, r1, r2]
        exact ⟨S, th T 3, ji 0, rfl, rel_fr h (FrS.refl S) th_fr, Or.inr ⟨(2, 3), by simp, rfl, th_17⟩⟩
    · by_cases hz : (num a.toNat).2.2 = 0
      · rw [if_pos hz] at nothb
        refine ⟨S, th T 2, ji 0, ?_, rel_fr h (FrS.refl S) th_fr, Or.inr ⟨(5, 2), by simp, ?_, th_17⟩⟩
        · by_cases h0 : (num a.toNat).1 = 0
          · simp (disch := omega) only [i0, i1, i2, i3, i4, i5, i6, i7, i8, i12, i16, i20, i30, i39, i40, i60, i64, i97, i100, i256, i1000, i10000, im1, im20, im60, l0, l1, l2, l3, l4, l5, l8, l10000, l1e9, lm10000, jl_add, jl_sub, jl_mul, jl_neg, ji_add, ji_sub, ji_mul, ji_neg, ji_l, jl_i, rL_n, rI_n, dL_n, dI_n, mnI_j, mxI_j, ji_nat, rest_j, part_n, whole_j, times_j, kc_0, kc_gt, kc_lt, kc_le, kc_ge, ji_lt, ji_le, ji_inj, jl_inj, jl_lt, jl_le, b1s, b2s, bEs, bEe, rIs, rIn, rIJ, rJs, rJn, rJI, ifp, ifn, if_true, if_false, n3, t2, t3, noN2, th_th]
          · simp (disch := omega) only [i0, i1, i2, i3, i4, i5, i6, i7, i8, i12, i16, i20, i30, i39, i40, i60, i64, i97, i100, i256, i1000, i10000, im1, im20, im60, l0, l1, l2, l3, l4, l5, l8, l10000, l1e9, lm10000, jl_add, jl_sub, jl_mul, jl_neg, ji_add, ji_sub, ji_mul, ji_neg, ji_l, jl_i, rL_n, rI_n, dL_n, dI_n, mnI_j, mxI_j, ji_nat, rest_j, part_n, whole_j, times_j, kc_0, kc_gt, kc_lt, kc_le, kc_ge, ji_lt, ji_le, ji_inj, jl_inj, jl_lt, jl_le, b1s, b2s, bEs, bEe, rIs, rIn, rIJ, rJs, rJn, rJI, ifp, ifn, if_true, if_false, n3, t2, t3, noN2, th_th]
        · simp (disch := omega) only [i0, i1, i2, i3, i4, i5, i6, i7, i8, i12, i16, i20, i30, i39, i40, i60, i64, i97, i100, i256, i1000, i10000, im1, im20, im60, l0, l1, l2, l3, l4, l5, l8, l10000, l1e9, lm10000, jl_add, jl_sub, jl_mul, jl_neg, ji_add, ji_sub, ji_mul, ji_neg, ji_l, jl_i, rL_n, rI_n, dL_n, dI_n, mnI_j, mxI_j, ji_nat, rest_j, part_n, whole_j, times_j, kc_0, kc_gt, kc_lt, kc_le, kc_ge, ji_lt, ji_le, ji_inj, jl_inj, jl_lt, jl_le, b1s, b2s, bEs, bEe, rIs, rIn, rIJ, rJs, rJn, rJI, ifp, ifn, if_true, if_false, n1, n4, nothb]
      · have h0 : (num a.toNat).1 ≠ 0 := fun q => hs ⟨q, hz⟩
        rw [if_neg hz] at nothb
        simp (disch := omega) only [i0, i1, i2, i3, i4, i5, i6, i7, i8, i12, i16, i20, i30, i39, i40, i60, i64, i97, i100, i256, i1000, i10000, im1, im20, im60, l0, l1, l2, l3, l4, l5, l8, l10000, l1e9, lm10000, jl_add, jl_sub, jl_mul, jl_neg, ji_add, ji_sub, ji_mul, ji_neg, ji_l, jl_i, rL_n, rI_n, dL_n, dI_n, mnI_j, mxI_j, ji_nat, rest_j, part_n, whole_j, times_j, kc_0, kc_gt, kc_lt, kc_le, kc_ge, ji_lt, ji_le, ji_inj, jl_inj, jl_lt, jl_le, b1s, b2s, bEs, bEe, rIs, rIn, rIJ, rJs, rJn, rJI, ifp, ifn, if_true, if_false, n1, n3, n4, nothb, t1, t2, noN2, th_th]
        exact ⟨S, th T 2, ji 0, rfl, rel_fr h (FrS.refl S) th_fr, Or.inr ⟨(5, 2), by simp, rfl, th_17⟩⟩
  · rw [noNum_n c6 c7 ha hab, b2s, ifn (show ¬ ji 1 = (0 : Int32) by decide)]
    refine ⟨S, th T 1, 0, rfl, rel_fr h (FrS.refl S) th_fr, Or.inr ⟨(3, 1), by simp, ?_, th_17⟩⟩
    rw [needN_n c5 c7 ha hab, bEe]
