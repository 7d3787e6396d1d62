/-! square roots: the reference, and both -/
theorem rootTwoM_loop {T : St} {s : Nat} {u : Int} (h : T.1 0 18 = ji 2) (hs : s ≤ 29) (hu : 0 ≤ u ∧ u < 2147483648) : ∀ (N e : Nat) (R : Int), 3 ≤ e → e ≤ s → 0 ≤ R → R < 2 ^ (e - 1) → (2 : Int) ^ e ∣ R * R - u → (4 : Int) ∣ R - 1 → s - e < N →
    Ok (itr (fun (q : Int64 × Int32 × Int64 × Int32) k => s_X10_rootOf_14 (fun (x1 : Int64) (x3 : Int32) (x4 : Int64) (x6 : Int32) => k (x1, x3, x4, x6)) T q.1 q.2.1 q.2.2.1 q.2.2.2) N (jl u, ji s, jl R, ji ((e : Int) - 1))) (fun v => ∃ R, v = jl R ∧ RtT s u R)
  | 0, _, _, _, _, _, _, _, _, hN => absurd hN (Nat.not_lt_zero _)
  | N + 1, e, R, he, hes, hR1, hR2, hR3, hR4, hN => by
    rw [itrS]
    have IH := rootTwoM_loop h hs hu N (e + 1)
    generalize itr _ N = K at IH
    show Ok (s_X10_rootOf_14 _ T (jl u) (ji s) (jl R) (ji ((e : Int) - 1))) _
    have hp : (2 : Int) ≤ 2 := by decide
    have h29 : (2 : Int) ^ 29 = 536870912 := by decide
    unfold s_X10_rootOf_14
    by_cases hc : s ≤ e
    · simp (disch := omega) only [i0, i1, i2, i3, i4, i5, i6, i7, i8, i12, i16, i20, i30, i39, i40, i60, i64, i97, i100, i256, i1000, i10000, im1, im20, im60, l0, l1, l2, l3, l4, l5, l8, l10000, l1e9, lm10000, jl_add, jl_sub, jl_mul, jl_neg, ji_add, ji_sub, ji_mul, ji_neg, ji_l, jl_i, rL_n, rI_n, dL_n, dI_n, mnI_j, mxI_j, ji_nat, rest_j, part_n, whole_j, times_j, kc_0, kc_gt, kc_lt, kc_le, kc_ge, ji_lt, ji_le, ji_inj, jl_inj, jl_lt, jl_le, b1s, b2s, bEs, bEe, rIs, rIn, rIJ, rJs, rJn, rJI, ifp, ifn, if_true, if_false]
      have : s = e := by omega
      subst this
      exact ok_s ⟨R, rfl, hR1, hR2, hR3, hR4⟩
    · have g1 := pw_le hp (show e + 1 ≤ 29 by omega)
      have g2 := pw_pos hp (e + 1)
      have g3 := pw_le hp (show e - 1 ≤ 29 by omega)
      have g4 := pw_pos hp (e - 1)
      have g5 := sq_rng (a := R) (b := R) (m := 2147483648) (by omega) (by omega) (by omega)
      simp (disch := omega) only [i0, i1, i2, i3, i4, i5, i6, i7, i8, i12, i16, i20, i30, i39, i40, i60, i64, i97, i100, i256, i1000, i10000, im1, im20, im60, l0, l1, l2, l3, l4, l5, l8, l10000, l1e9, lm10000, jl_add, jl_sub, jl_mul, jl_neg, ji_add, ji_sub, ji_mul, ji_neg, ji_l, jl_i, rL_n, rI_n, dL_n, dI_n, mnI_j, mxI_j, ji_nat, rest_j, part_n, whole_j, times_j, kc_0, kc_gt, kc_lt, kc_le, kc_ge, ji_lt, ji_le, ji_inj, jl_inj, jl_lt, jl_le, b1s, b2s, bEs, bEe, rIs, rIn, rIJ, rJs, rJn, rJI, ifp, ifn, if_true, if_false]
      rw [pwM h (by omega) (by omega), b1s, show ((e : Int) - 1 + 2).toNat = e + 1 by omega, whole_j (by omega) (by omega), b1s, pwM h (by omega) (by omega), b1s, show ((e : Int) - 1).toNat = e - 1 by omega]
      have g6 := emod_rng (a := R * R - u) g2
      have q1 : (2 : Int) ^ (e + 1 - 1) = 2 ^ (e - 1) * 2 := by rw [show e + 1 - 1 = (e - 1) + 1 by omega, Int.pow_succ]
      have q2 : (e : Int) - 1 + 1 = ((e + 1 : Nat) : Int) - 1 := by omega
      simp (disch := omega) only [i0, i1, i2, i3, i4, i5, i6, i7, i8, i12, i16, i20, i30, i39, i40, i60, i64, i97, i100, i256, i1000, i10000, im1, im20, im60, l0, l1, l2, l3, l4, l5, l8, l10000, l1e9, lm10000, jl_add, jl_sub, jl_mul, jl_neg, ji_add, ji_sub, ji_mul, ji_neg, ji_l, jl_i, rL_n, rI_n, dL_n, dI_n, mnI_j, mxI_j, ji_nat, rest_j, part_n, whole_j, times_j, kc_0, kc_gt, kc_lt, kc_le, kc_ge, ji_lt, ji_le, ji_inj, jl_inj, jl_lt, jl_le, b1s, b2s, bEs, bEe, rIs, rIn, rIJ, rJs, rJn, rJI, ifp, ifn, if_true, if_false]
      rw [q2]
      by_cases hz : (R * R - u) % 2 ^ (e + 1) = 0
      · rw [if_pos hz]
        exact IH R (by omega) (by omega) hR1 (by omega) (Int.dvd_of_emod_eq_zero hz) hR4 (by omega)
      · rw [if_neg hz]
        refine IH (R + 2 ^ (e - 1)) (by omega) (by omega) (by omega) (by omega) ?_ ?_ (by omega)
        · exact (two_step he hR3 hR4 (fun q => hz (Int.emod_eq_zero_of_dvd q))).1
        · exact (two_step he hR3 hR4 (fun q => hz (Int.emod_eq_zero_of_dvd q))).2
theorem rtT_eq {s : Nat} {u R Q : Int} (hs : 1 ≤ s) (h : RtT s u R) (g : RtT s u Q) : R = Q := by
  obtain ⟨a1, a2, a3, a4⟩ := h
  obtain ⟨b1, b2, b3, b4⟩ := g
  refine res_eq a1 a2 b1 b2 (rtT_un hs a4 b4 ?_)
  have := Int.dvd_sub a3 b3
  rwa [show R * R - u - (Q * Q - u) = R * R - Q * Q by omega] at this
theorem rtO_eq {p : Int} {s : Nat} {u R Q : Int} (hP : Pr p) (h2 : p ≠ 2) (hu : sqd p u ≠ 0) (h : RtO p s u R) (g : RtO p s u Q) : R = Q := by
  obtain ⟨a1, a2, a3, a4⟩ := h
  obtain ⟨b1, b2, b3, b4⟩ := g
  have hd := sqd_spec hP.rng.1 hu
  refine res_eq a1 a2 b1 b2 (rtO_un hP h2 (d := sqd p u) ?_ a4 b4 ?_)
  · intro q
    have := Int.le_of_dvd (by omega) q
    omega
  · have := Int.dvd_sub a3 b3
    rwa [show R * R - u - (Q * Q - u) = R * R - Q * Q by omega] at this
theorem sqd_co {p u : Int} (hP : Pr p) (hu : sqd p u ≠ 0) : ¬ p ∣ (sqd p u : Int) := fun q => by
  have hd := sqd_spec hP.rng.1 hu
  have := Int.le_of_dvd (by omega) q
  omega
theorem rootM_inner {T : St} {p : Int} {s j : Nat} {u R Q0 : Int} (hP : Pr p) (h2 : p ≠ 2) (hpj : p ^ (j + 1) ≤ 1000000000) (hu : 0 ≤ u ∧ u < 1000000000) (hd : sqd p u ≠ 0) (hQ0 : 0 ≤ Q0 ∧ Q0 < p ^ j) (hQ0d : p ∣ Q0 - sqd p u) (hj : 1 ≤ j)
    (K : Int64 × Int32 × Int64 × Int32 → Option Int64) {Q : Int} (hQ : 0 ≤ Q ∧ Q < p ^ (j + 1)) (hQs : p ^ (j + 1) ∣ Q * Q - u) (hQd : p ∣ Q - sqd p u) (hK : K (jl u, ji s, jl Q, ji ((j + 1 : Nat) : Int)) = some (jl R)) (hj2 : j ≤ 29) :
    ∀ (N : Nat) (t : Nat) (ts : Nat), Q = Q0 + p ^ j * ts → t ≤ ts → ts - t < N →
    itr (fun (q : Int64 × Int32 × Int64 × Int32 × Int64 × Int64) k => s_X10_rootOf_137 (fun (x1 : Int64) (x3 : Int32) (x4 : Int64) (x6 : Int32) => K (x1, x3, x4, x6)) (fun (x1 : Int64) (x3 : Int32) (x4 : Int64) (x6 : Int32) (x7 : Int64) (x9 : Int64) => k (x1, x3, x4, x6, x7, x9)) T q.1 q.2.1 q.2.2.1 q.2.2.2.1 q.2.2.2.2.1 q.2.2.2.2.2) N (jl u, ji s, jl (Q0 + p ^ j * t), ji j, jl (p ^ j), jl (p ^ (j + 1))) = some (jl R)
  | 0, _, _, _, _, h => absurd h (Nat.not_lt_zero _)
  | N + 1, t, ts, hts, ht, hN => by
    rw [itrS]
    have IH := rootM_inner (T := T) hP h2 hpj hu hd hQ0 hQ0d hj K hQ hQs hQd hK hj2 N (t + 1) ts hts
    generalize itr _ N = K2 at IH
    show s_X10_rootOf_137 _ _ T (jl u) (ji s) (jl (Q0 + p ^ j * t)) (ji j) (jl (p ^ j)) (jl (p ^ (j + 1))) = _
    have hp := hP.rng.1
    have g1 := pw_pos hp j
    have g2 := pw_pos hp (j + 1)
    have g3 : p ^ j * (t : Int) ≤ p ^ j * ts := Int.mul_le_mul_of_nonneg_left (by omega) (by omega)
    have g4 : 0 ≤ p ^ j * (t : Int) := Int.mul_nonneg (by omega) (by omega)
    have g5 := sq_rng (a := Q0 + p ^ j * t) (b := Q0 + p ^ j * t) (m := 1000000000) (by omega) (by omega) (by omega)
    have g6 := emod_rng (a := (Q0 + p ^ j * t) * (Q0 + p ^ j * t) - u) g2
    have key : ((Q0 + p ^ j * t) * (Q0 + p ^ j * t) - u) % p ^ (j + 1) = 0 ↔ t = ts := by
      constructor
      · intro q
        have k1 := Int.dvd_sub (Int.dvd_of_emod_eq_zero q) hQs
        have k2 : p ∣ Q0 + p ^ j * t - sqd p u := by
          have := Int.dvd_add hQ0d (Int.dvd_mul_of_dvd_left (c := (t : Int)) (pw_dvd1 p hj))
          rwa [show Q0 - (sqd p u : Int) + p ^ j * t = Q0 + p ^ j * t - sqd p u by omega] at this
        have k3 := rtO_un (s := j + 1) hP h2 (sqd_co hP hd) k2 hQd (by
          rwa [show (Q0 + p ^ j * t) * (Q0 + p ^ j * t) - u - (Q * Q - u) = (Q0 + p ^ j * t) * (Q0 + p ^ j * t) - Q * Q by omega] at k1)
        have k4 := res_eq (by omega) (by omega) hQ.1 hQ.2 k3
        have k5 : p ^ j * (t : Int) = p ^ j * ts := by omega
        have := Int.eq_of_mul_eq_mul_left (by omega) k5
        omega
      · intro q
        subst q
        rw [← hts]
        exact Int.emod_eq_zero_of_dvd hQs
    unfold s_X10_rootOf_137
    simp (disch := omega) only [i0, i1, i2, i3, i4, i5, i6, i7, i8, i12, i16, i20, i30, i39, i40, i60, i64, i97, i100, i256, i1000, i10000, im1, im20, im60, l0, l1, l2, l3, l4, l5, l8, l10000, l1e9, lm10000, jl_add, jl_sub, jl_mul, jl_neg, ji_add, ji_sub, ji_mul, ji_neg, ji_l, jl_i, rL_n, rI_n, dL_n, dI_n, mnI_j, mxI_j, ji_nat, rest_j, part_n, whole_j, times_j, kc_0, kc_gt, kc_lt, kc_le, kc_ge, ji_lt, ji_le, ji_inj, jl_inj, jl_lt, jl_le, b1s, b2s, bEs, bEe, rIs, rIn, rIJ, rJs, rJn, rJI, ifp, ifn, if_true, if_false]
    by_cases hc : t = ts
    · rw [if_pos (key.mpr hc), hc, ← hts]
      exact hK
    · rw [if_neg (fun q => hc (key.mp q)), show Q0 + p ^ j * (t : Int) + p ^ j = Q0 + p ^ j * ((t + 1 : Nat) : Int) by push_cast; grind]
      exact IH (by omega) (by omega)
theorem rootM_outer {T : St} {p : Int} {r s : Nat} {u R : Int} (h : T.1 0 18 = ji p) (hP : Pr p) (hr : Rch p r) (h2 : p ≠ 2) (hs : 1 ≤ s ∧ s ≤ r) (hu : 0 ≤ u ∧ u < 1000000000) (hd : sqd p u ≠ 0) (hR : RtO p s u R) :
    ∀ (N j : Nat), 1 ≤ j → j ≤ s → s - j < N →
    itr (fun (q : Int64 × Int32 × Int64 × Int32) k => s_X10_rootOf_113 (fun (x1 : Int64) (x3 : Int32) (x4 : Int64) (x6 : Int32) => k (x1, x3, x4, x6)) T q.1 q.2.1 q.2.2.1 q.2.2.2) N (jl u, ji s, jl (R % p ^ j), ji j) = some (jl R)
  | 0, _, _, _, h => absurd h (Nat.not_lt_zero _)
  | N + 1, j, hj, hjs, hN => by
    rw [itrS]
    have IH := rootM_outer h hP hr h2 hs hu hd hR N (j + 1)
    generalize itr _ N = K at IH
    show s_X10_rootOf_113 _ T (jl u) (ji s) (jl (R % p ^ j)) (ji j) = _
    have hrr := hr.2.2.2.2
    obtain ⟨r1, r2, r3, r4⟩ := hR
    unfold s_X10_rootOf_113
    by_cases hc : s ≤ j
    · have : s = j := by omega
      subst this
      simp (disch := omega) only [i0, i1, i2, i3, i4, i5, i6, i7, i8, i12, i16, i20, i30, i39, i40, i60, i64, i97, i100, i256, i1000, i10000, im1, im20, im60, l0, l1, l2, l3, l4, l5, l8, l10000, l1e9, lm10000, jl_add, jl_sub, jl_mul, jl_neg, ji_add, ji_sub, ji_mul, ji_neg, ji_l, jl_i, rL_n, rI_n, dL_n, dI_n, mnI_j, mxI_j, ji_nat, rest_j, part_n, whole_j, times_j, kc_0, kc_gt, kc_lt, kc_le, kc_ge, ji_lt, ji_le, ji_inj, jl_inj, jl_lt, jl_le, b1s, b2s, bEs, bEe, rIs, rIn, rIJ, rJs, rJn, rJI, ifp, ifn, if_true, if_false]
      rw [Int.emod_eq_of_lt r1 r2]
    · simp (disch := omega) only [i0, i1, i2, i3, i4, i5, i6, i7, i8, i12, i16, i20, i30, i39, i40, i60, i64, i97, i100, i256, i1000, i10000, im1, im20, im60, l0, l1, l2, l3, l4, l5, l8, l10000, l1e9, lm10000, jl_add, jl_sub, jl_mul, jl_neg, ji_add, ji_sub, ji_mul, ji_neg, ji_l, jl_i, rL_n, rI_n, dL_n, dI_n, mnI_j, mxI_j, ji_nat, rest_j, part_n, whole_j, times_j, kc_0, kc_gt, kc_lt, kc_le, kc_ge, ji_lt, ji_le, ji_inj, jl_inj, jl_lt, jl_le, b1s, b2s, bEs, bEe, rIs, rIn, rIJ, rJs, rJn, rJI, ifp, ifn, if_true, if_false]
      have g0 := pw_pos hr.1 j
      have g1 := pw_pos hr.1 (j + 1)
      rw [pwM h ⟨hr.1, hr.2.1⟩ (by omega), b1s, pwM h ⟨hr.1, hr.2.1⟩ (by omega), b1s, show ((j : Int) + 1).toNat = j + 1 by omega, Int.toNat_natCast]
      have g2 := emod_rng (a := R) g0
      have g3 := emod_rng (a := R) g1
      have e1 := Int.emod_emod_of_dvd R (pw_dvd p (show j ≤ j + 1 by omega))
      have e2 := Int.emod_add_mul_ediv (R % p ^ (j + 1)) (p ^ j)
      rw [e1] at e2
      have e3 : 0 ≤ R % p ^ (j + 1) / p ^ j := Int.ediv_nonneg g3.1 (by omega)
      have k1 : p ∣ R % p ^ (j + 1) - sqd p u := by
        have := Int.dvd_add (Int.dvd_trans (pw_dvd1 p (show 1 ≤ j + 1 by omega)) (mod_dvd R (p ^ (j + 1)))) r4
        rwa [show ∀ a b c : Int, a - b + (b - c) = a - c by intros; omega] at this
      have k0 : p ∣ R % p ^ j - sqd p u := by
        have := Int.dvd_add (Int.dvd_trans (pw_dvd1 p hj) (mod_dvd R (p ^ j))) r4
        rwa [show ∀ a b c : Int, a - b + (b - c) = a - c by intros; omega] at this
      have k2 : p ^ (j + 1) ∣ R % p ^ (j + 1) * (R % p ^ (j + 1)) - u := by
        have f1 := Int.dvd_trans (pw_dvd p (show j + 1 ≤ s by omega)) r3
        have f2 := Int.dvd_mul_of_dvd_left (c := R % p ^ (j + 1) + R) (mod_dvd R (p ^ (j + 1)))
        have f3 := Int.dvd_add f2 f1
        rwa [show (R % p ^ (j + 1) - R) * (R % p ^ (j + 1) + R) + (R * R - u) = R % p ^ (j + 1) * (R % p ^ (j + 1)) - u by grind] at f3
      have := rootM_inner (T := T) (s := s) (R := R) (Q0 := R % p ^ j) hP h2 (hr.le (by omega)) hu hd g2 k0 hj K g3 k2 k1 (IH (by omega) (by omega) (by omega)) (by omega) FU 0 (R % p ^ (j + 1) / p ^ j).toNat (by rw [show (((R % p ^ (j + 1) / p ^ j).toNat : Nat) : Int) = R % p ^ (j + 1) / p ^ j by omega]; omega) (by omega) (FU_lt (by
          have : R % p ^ (j + 1) / p ^ j ≤ R % p ^ (j + 1) := Int.ediv_le_self _ g3.1
          have := hr.le (show j + 1 ≤ r by omega)
          omega))
      rw [show ((0 : Nat) : Int) = 0 by rfl, Int.mul_zero, Int.add_zero] at this
      exact this
theorem rootM_digit {T : St} {p : Int} {r s : Nat} {u R : Int} (h : T.1 0 18 = ji p) (hP : Pr p) (hr : Rch p r) (h2 : p ≠ 2) (hs : 1 ≤ s ∧ s ≤ r) (hu : 0 ≤ u ∧ u < 1000000000) (hd : sqd p u ≠ 0) (hR : RtO p s u R) :
    ∀ (N n d : Nat), 1 ≤ d → (d : Int) ≤ p → n + d = 101 → sqN p.toNat (u % p).toNat n d = sqd p u → n < N →
    itr (fun (q : Int64 × Int32 × Int64) k => s_X10_rootOf_72 (fun (x1 : Int64) (x3 : Int32) (x4 : Int64) => k (x1, x3, x4)) T q.1 q.2.1 q.2.2) N (jl u, ji s, jl d) = some (jl R)
  | 0, _, _, _, _, _, _, h => absurd h (Nat.not_lt_zero _)
  | N + 1, 0, d, _, _, _, hq, _ => absurd hq.symm hd
  | N + 1, n + 1, d, hd1, hdp, hn, hq, hN => by
    rw [itrS]
    have IH := rootM_digit h hP hr h2 hs hu hd hR N n (d + 1)
    generalize itr _ N = K at IH
    show s_X10_rootOf_72 _ T (jl u) (ji s) (jl d) = _
    have hpr := hP.rng
    have hrr := hr.2.2.2.2
    unfold s_X10_rootOf_72
    rw [h]
    have h5 := sq_rng (a := (d : Int)) (b := d) (m := 98) (by omega) (by omega) (by omega)
    have h7 := Int.lt_tmod_of_pos ((d : Int) * d - u) (show 0 < p by omega)
    have h8 := Int.tmod_lt_of_pos ((d : Int) * d - u) (show 0 < p by omega)
    have hru := emod_rng (a := u) (show 0 < p by omega)
    have h9 := @tmod_z ((d : Int) * d - u) p (by omega)
    unfold sqN at hq
    rw [ji_l (by omega), jl_mul, jl_sub, rL_j (by omega) (by omega)]
    simp (disch := omega) only [i0, i1, i2, i3, i4, i5, i6, i7, i8, i12, i16, i20, i30, i39, i40, i60, i64, i97, i100, i256, i1000, i10000, im1, im20, im60, l0, l1, l2, l3, l4, l5, l8, l10000, l1e9, lm10000, jl_add, jl_sub, jl_mul, jl_neg, ji_add, ji_sub, ji_mul, ji_neg, ji_l, jl_i, rL_n, rI_n, dL_n, dI_n, mnI_j, mxI_j, ji_nat, rest_j, part_n, whole_j, times_j, kc_0, kc_gt, kc_lt, kc_le, kc_ge, ji_lt, ji_le, ji_inj, jl_inj, jl_lt, jl_le, b1s, b2s, bEs, bEe, rIs, rIn, rIJ, rJs, rJn, rJI, ifp, ifn, if_true, if_false]
    by_cases c1 : p ≤ d
    · rw [if_pos (show p.toNat ≤ d by omega)] at hq
      exact absurd hq.symm hd
    · rw [if_neg (show ¬ p.toNat ≤ d by omega)] at hq
      rw [if_neg c1]
      have e : ((d * d % p.toNat : Nat) : Int) = (d : Int) * d % p := by rw [Int.natCast_emod, show ((p.toNat : Nat) : Int) = p by omega, Int.natCast_mul]
      by_cases c2 : d * d % p.toNat = (u % p).toNat
      · rw [if_pos c2] at hq
        have c3 : ((d : Int) * d - u) % p = 0 := Int.emod_eq_emod_iff_emod_sub_eq_zero.mp (by omega)
        rw [if_pos (h9.mpr c3)]
        have := rootM_outer h hP hr h2 hs hu hd hR FU 1 (by omega) hs.1 (FU_lt (by omega))
        have e3 : R % p ^ 1 = d := by
          rw [Int.pow_one]
          obtain ⟨-, -, -, r4⟩ := hR
          rw [← hq] at r4
          have := emod_rng (a := R) (show 0 < p by omega)
          refine res_eq this.1 this.2 (by omega) (by omega) ?_
          have := Int.dvd_add (mod_dvd R p) r4
          rwa [show ∀ a b c : Int, a - b + (b - c) = a - c by intros; omega] at this
        rw [e3] at this
        exact this
      · rw [if_neg c2] at hq
        have c3 : ((d : Int) * d - u) % p ≠ 0 := fun q => c2 (by
          have := Int.emod_eq_emod_iff_emod_sub_eq_zero.mpr q
          omega)
        rw [if_neg (fun q => c3 (h9.mp q))]
        exact IH (by omega) (by omega) (by omega) hq (by omega)
/-- there is a square root, as the document tells it -/
def HasSq (p : Int) (x : Int × Int × Int) : Prop := x.2.2 ≠ 0 ∧ x.1 % 2 = 0 ∧ (p = 2 → 3 ≤ x.2.1 - x.1 ∧ x.2.2 % 8 = 1) ∧ (p ≠ 2 → sqd p x.2.2 ≠ 0)
def RootR (p : Int) (x : Int × Int × Int) (R : Int) : Prop := if p = 2 then RtT (x.2.1 - x.1).toNat x.2.2 R else RtO p (x.2.1 - x.1).toNat x.2.2 R
def rootL (p : Int) (r : Nat) (x : Int × Int × Int) (R : Int) : Int × Int × Int := if p = 2 then lay p r (x.1 / 2) (x.1 / 2 + (x.2.1 - x.1) - 1) R else lay p r (x.1 / 2) (x.1 / 2 + (x.2.1 - x.1)) R
theorem even_tdiv {v : Int} (h : v % 2 = 0) : v.tdiv 2 = v / 2 := dvd_tdiv (by decide) h
theorem squareRootC {S : St} {p : Int} {r o k2 : Nat} {x : Int × Int × Int} (h : NrC S p r) (hP : Pr p) (hr : Rch p r) (hx : NumC S k2 x) (wx : Wf p r x) (hq : HasSq p x) : Ok (f_X5_findSquareRoot o k2 S) (fun S' => ∃ R, RootR p x R ∧ S' = setC S o (rootL p r x R)) := by
  have hrr := hr.2.2.2.2
  have hpr := hP.rng
  have ux := wx.u9 hr
  have u0 := wx.u0
  obtain ⟨a1, a2, a3, a4, -⟩ := wx
  obtain ⟨q1, q2, q3, q4⟩ := hq
  have hlt : x.1 < x.2.1 := by
    apply Int.lt_of_not_ge
    intro g
    exact q1 (u0.mpr g)
  unfold f_X5_findSquareRoot RootR rootL
  rw [hx.1, hx.2.1, hx.2.2, h.1]
  by_cases hp2 : p = 2
  · subst hp2
    obtain ⟨q5, q6⟩ := q3 rfl
    have hs : ((x.2.1 - x.1).toNat : Int) = x.2.1 - x.1 := by omega
    rw [ifp (show ji 2 = (2 : Int32) from rfl), i2, ji_div (by omega) (by omega), even_tdiv q2, i1, ji_sub, ji_add, ji_sub]
    unfold f_X5_rootNearTwo
    refine ok_b1 (P := fun v => ∃ R, v = jl R ∧ RtT (x.2.1 - x.1).toNat x.2.2 R) ?_ ?_
    · rw [← hs]
      exact rootTwoC_loop h hr (by omega) (by omega) FU 3 1 (by omega) (by omega) (by decide) (by decide) (by
        apply Int.dvd_of_emod_eq_zero
        show (1 * 1 - x.2.2) % 8 = 0
        omega) (by decide) (FU_lt (by omega))
    · rintro v ⟨R, rfl, hR⟩
      have g1 := hr.le (show (x.2.1 - x.1).toNat - 1 ≤ r by omega)
      have g2 := hR.1
      have g3 := hR.2.1
      rw [settleC h hr (by omega) (by omega) (by omega), b1s]
      refine ok_s ⟨R, ?_, ?_⟩
      · rw [if_pos rfl]; exact hR
      · rw [if_pos rfl]
  · have q5 := q4 hp2
    have hs : ((x.2.1 - x.1).toNat : Int) = x.2.1 - x.1 := by omega
    rw [i2, ifn (fun g => hp2 ((ji_inj (by omega) (by omega)).mp g)), ji_div (by omega) (by omega), even_tdiv q2, ji_sub, pwC' h hr (by omega), b1s, l2]
    have g0 := pw_pos hr.1 (x.2.1 - x.1).toNat
    have g1 := hr.le (show (x.2.1 - x.1).toNat ≤ r by omega)
    rw [inv_p hP (hP.two hp2) (by omega) g1, b1s, ji_l (by omega), rest_j (by omega) (by omega), b1s, rootDigitC h (by omega), b1s]
    have hd := sqd_spec hpr.1 q5
    rw [ji_l (by omega), i0]
    have f1 := iv_rng (a := 2) hpr.1 (x.2.1 - x.1).toNat
    have f2 := iv_mul hP (hP.two hp2) (x.2.1 - x.1).toNat
    have f3 := pw_le hpr.1 (show 1 ≤ (x.2.1 - x.1).toNat by omega)
    rw [Int.pow_one] at f3
    refine ok_m (sqrtC_loop (r := r) (o := o) (k2 := k2) (base := x.1 / 2) h hP hp2 hr (sqd_co hP q5) (s := (x.2.1 - x.1).toNat) (by omega) (by omega) hx.2.2 ux f1 f2 FU 0 1 (sqd p x.2.2) (by omega) (by omega) (by rw [Int.sub_self]; exact Int.dvd_zero _) (by omega) ?_ (by show (x.2.1 - x.1).toNat ≤ 1 * 2 ^ 6; omega) (by omega) (FU_lt (by omega))) ?_ |> fun hh => by
      rw [hs] at hh
      exact hh
    · rw [show min 1 (x.2.1 - x.1).toNat = 1 by omega, Int.pow_one]
      exact hd.2.2
    · rintro v ⟨R, c1, c2, c3, c4, rfl⟩
      refine ⟨R, ?_, ?_⟩
      · rw [if_neg hp2]; exact ⟨c1, c2, c4, c3⟩
      · rw [if_neg hp2, hs]
theorem squareRootM {T : St} {p : Int} {r n : Nat} {x : Int × Int × Int} {R : Int} (h : T.1 0 18 = ji p) (hP : Pr p) (hr : Rch p r) (hn : n < 40) (hx : NumM T n x) (wx : Wf p r x) (hq : HasSq p x) (hR : RootR p x R) : f_X10_squareRoot (ji n) (ji (x.2.1 - x.1)) T = some (setF T (rootL p r x R)) := by
  have hrr := hr.2.2.2.2
  have hpr := hP.rng
  have ux := wx.u9 hr
  have u0 := wx.u0
  obtain ⟨a1, a2, a3, a4, -⟩ := wx
  obtain ⟨q1, q2, q3, q4⟩ := hq
  obtain ⟨x1, x2, x3⟩ := hx
  have hlt : x.1 < x.2.1 := by
    apply Int.lt_of_not_ge
    intro g
    exact q1 (u0.mpr g)
  have hs : ((x.2.1 - x.1).toNat : Int) = x.2.1 - x.1 := by omega
  unfold f_X10_squareRoot n_X10_squareRoot_15
  rw [h]
  simp (disch := omega) only [i0, i1, i2, i3, i4, i5, i6, i7, i8, i12, i16, i20, i30, i39, i40, i60, i64, i97, i100, i256, i1000, i10000, im1, im20, im60, l0, l1, l2, l3, l4, l5, l8, l10000, l1e9, lm10000, jl_add, jl_sub, jl_mul, jl_neg, ji_add, ji_sub, ji_mul, ji_neg, ji_l, jl_i, rL_n, rI_n, dL_n, dI_n, mnI_j, mxI_j, ji_nat, rest_j, part_n, whole_j, times_j, kc_0, kc_gt, kc_lt, kc_le, kc_ge, ji_lt, ji_le, ji_inj, jl_inj, jl_lt, jl_le, b1s, b2s, bEs, bEe, rIs, rIn, rIJ, rJs, rJn, rJI, ifp, ifn, if_true, if_false, Int.toNat_natCast, x1, x2, x3]
  unfold RootR at hR
  unfold rootL
  by_cases hp2 : p = 2
  · subst hp2
    obtain ⟨q5, q6⟩ := q3 rfl
    rw [if_pos rfl] at hR
    rw [if_pos rfl, if_pos rfl, ji_div (by omega) (by omega), even_tdiv q2]
    have e : f_X10_rootOf (jl x.2.2) (ji (x.2.1 - x.1)) T = some (jl R) := by
      unfold f_X10_rootOf
      rw [h, ifp (show ji 2 = (2 : Int32) from rfl)]
      have := rootTwoM_loop (s := (x.2.1 - x.1).toNat) (u := x.2.2) h (by omega) (by omega) FU 3 1 (by omega) (by omega) (by decide) (by decide) (by
        apply Int.dvd_of_emod_eq_zero
        show (1 * 1 - x.2.2) % 8 = 0
        omega) (by decide) (FU_lt (by omega))
      rw [hs] at this
      obtain ⟨v, hv, R', rfl, hR'⟩ := this
      rw [rtT_eq (by omega) hR hR']
      exact hv
    have g1 := hr.le (show (x.2.1 - x.1).toNat - 1 ≤ r by omega)
    have g4 := pw_pos hr.1 ((x.2.1 - x.1).toNat - 1)
    have g2 := hR.1
    have g3 := hR.2.1
    rw [e, b1s, pwM h ⟨hpr.1, hpr.2⟩ (by omega), b1s, show (x.2.1 - x.1 - 1).toNat = (x.2.1 - x.1).toNat - 1 by omega, whole_j (by omega) (by omega), b1s, Int.emod_eq_of_lt g2 g3, ji_add, laysM h hr (by omega) (by omega) (by omega) (by omega), b1s, Int.add_sub_assoc]
  · have q5 := q4 hp2
    rw [if_neg hp2] at hR
    rw [if_neg hp2, if_neg hp2, ji_div (by omega) (by omega), even_tdiv q2]
    have e : f_X10_rootOf (jl x.2.2) (ji (x.2.1 - x.1)) T = some (jl R) := by
      unfold f_X10_rootOf
      rw [h, i2, ifn (fun g => hp2 ((ji_inj (by omega) (by omega)).mp g)), l1]
      have := rootM_digit (s := (x.2.1 - x.1).toNat) h hP hr hp2 (by omega) ux q5 hR FU 100 1 (by omega) (by omega) (by omega) rfl (FU_lt (by omega))
      rw [hs] at this
      exact this
    have g1 := hr.le (show (x.2.1 - x.1).toNat ≤ r by omega)
    have g4 := pw_pos hr.1 (x.2.1 - x.1).toNat
    have g2 := hR.1
    have g3 := hR.2.1
    rw [e, b1s, pwM h ⟨hpr.1, hpr.2⟩ (by omega), b1s, whole_j (by omega) (by omega), b1s, Int.emod_eq_of_lt g2 g3, ji_add, laysM h hr (by omega) (by omega) (by omega) (by omega), b1s]
