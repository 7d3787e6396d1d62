/-! roots of polynomials that are lifted; roots of unity -/
def LiR (p : Int) (s : Nat) (c : Nat → Int) (n : Nat) (d R : Int) : Prop := 0 ≤ R ∧ R < p ^ s ∧ p ^ s ∣ ev c R (n + 1) ∧ p ∣ R - d
theorem liR_eq {p : Int} {s n : Nat} {c : Nat → Int} {d R Q : Int} (hP : Pr p) (hd : ¬ p ∣ ev (dv c) d n) (h : LiR p s c n d R) (g : LiR p s c n d Q) : R = Q :=
  res_eq h.1 h.2.1 g.1 g.2.1 (root_un hP hd h.2.2.2 g.2.2.2 h.2.2.1 g.2.2.1)
theorem pageC {S : St} {k : Nat} (h : k < 8) : f_X0_page (ji k) S = some k := by
  unfold f_X0_page
  simp (disch := omega) only [i0, i1, i2, i3, i4, i5, i6, i7, i8, i12, i16, i20, i30, i39, i40, i60, i64, i97, i100, i256, i1000, i10000, im1, im20, im60, l0, l1, l2, l3, l4, l5, l8, l10000, l1e9, lm10000, jl_add, jl_sub, jl_mul, jl_neg, ji_add, ji_sub, ji_mul, ji_neg, ji_l, jl_i, rL_n, rI_n, dL_n, dI_n, mnI_j, mxI_j, ji_nat, rest_j, part_n, whole_j, times_j, kc_0, kc_gt, kc_lt, kc_le, kc_ge, ji_lt, ji_le, ji_inj, jl_inj, jl_lt, jl_le, b1s, b2s, bEs, bEe, rIs, rIn, rIJ, rJs, rJn, rJI, ifp, ifn, if_true, if_false, Int.toNat_natCast]
theorem liftC_loop {S : St} {p : Int} {r o k s n : Nat} {c : Nat → Int} {d : Int} (h : NrC S p r) (hP : Pr p) (hr : Rch p r) (hc : PolC S k c) (hB : CoB c) (hn : n ≤ 6) (hs : 1 ≤ s ∧ s ≤ r) (hd : ¬ p ∣ ev (dv c) d n) (h5 : S.1 (12 + o) 5 = ji s) (h6 : S.1 (12 + o) 6 = ji ((n + 1 : Nat) : Int)) :
    ∀ (N j k2 : Nat) (R : Int), 0 ≤ R → R < p ^ s → p ∣ R - d → 1 ≤ k2 → p ^ (min k2 s) ∣ ev c R (n + 1) → s ≤ k2 * 2 ^ (6 - j) → j ≤ 6 → 6 - j < N →
    Ok (itr (fun (q : Nat × Nat × Int64 × Int64 × Int32 × St) k => s_X5_findLifted_34 (fun (x1 : Nat) (x2 : Nat) (x3 : Int64) (x5 : Int64) (x7 : Int32) (S : St) => k (x1, x2, x3, x5, x7, S)) q.1 q.2.1 q.2.2.1 q.2.2.2.1 q.2.2.2.2.1 q.2.2.2.2.2) N (o, k, jl (p ^ s), jl R, ji j, S))
      (fun S' => ∃ R, LiR p s c n d R ∧ S' = setC S o (lay p r 0 s R))
  | 0, _, _, _, _, _, _, _, _, _, _, hN => absurd hN (Nat.not_lt_zero _)
  | N + 1, j, k2, R, hR1, hR2, hRd, hk, hR3, hsk, hj, hN => by
    rw [itrS]
    have IH := liftC_loop (o := o) h hP hr hc hB hn hs hd h5 h6 N
    generalize itr _ N = K at IH
    show Ok (s_X5_findLifted_34 _ o k (jl (p ^ s)) (jl R) (ji j) S) _
    have hrr := hr.2.2.2.2
    have hm1 := pw_pos hr.1 s
    have hm2 := hr.le hs.2
    unfold s_X5_findLifted_34
    rw [h5, h6]
    by_cases hc6 : j = 6
    · subst hc6
      simp (disch := omega) only [i0, i1, i2, i3, i4, i5, i6, i7, i8, i12, i16, i20, i30, i39, i40, i60, i64, i97, i100, i256, i1000, i10000, im1, im20, im60, l0, l1, l2, l3, l4, l5, l8, l10000, l1e9, lm10000, jl_add, jl_sub, jl_mul, jl_neg, ji_add, ji_sub, ji_mul, ji_neg, ji_l, jl_i, rL_n, rI_n, dL_n, dI_n, mnI_j, mxI_j, ji_nat, rest_j, part_n, whole_j, times_j, kc_0, kc_gt, kc_lt, kc_le, kc_ge, ji_lt, ji_le, ji_inj, jl_inj, jl_lt, jl_le, b1s, b2s, bEs, bEe, rIs, rIn, rIJ, rJs, rJn, rJI, ifp, ifn, if_true, if_false]
      rw [settleC h hr (by omega) (by omega) (by omega), b1s]
      refine ok_s ⟨R, ⟨hR1, hR2, ?_, hRd⟩, rfl⟩
      rwa [show min k2 s = s by simp at hsk; omega] at hR3
    · have hD : ¬ p ∣ ev (dv c) R n := fun q => by
        have := Int.dvd_sub q (ev_mod (c := dv c) hRd n)
        rw [Int.sub_sub_self] at this
        exact hd this
      have hD2 : ¬ p ∣ ev (dv c) R n % p ^ s := fun q => by
        have := Int.dvd_sub q (Int.dvd_trans (pw_dvd1 p hs.1) (mod_dvd (ev (dv c) R n) (p ^ s)))
        rw [Int.sub_sub_self] at this
        exact hD this
      have g0 := emod_rng (a := ev (dv c) R n) hm1
      have g5 := emod_rng (a := ev c R (n + 1)) hm1
      have g1 := iv_rng (a := ev (dv c) R n) hr.1 s
      have g2 := iv_mul hP hD s
      have g3 := emod_rng (a := ev c R (n + 1) % p ^ s * iv p s (ev (dv c) R n)) hm1
      have g4 := emod_rng (a := R - ev c R (n + 1) % p ^ s * iv p s (ev (dv c) R n) % p ^ s) hm1
      rw [riseC hc hB (by omega) (by omega) (by omega) (by omega), b1s, worthC hc hB (by omega) (by omega) (by omega), b1s, show n + 1 - 1 = n by omega, inv_p hP hD2 (by omega) (by omega), b1s, iv_mod]
      simp (disch := omega) only [i0, i1, i2, i3, i4, i5, i6, i7, i8, i12, i16, i20, i30, i39, i40, i60, i64, i97, i100, i256, i1000, i10000, im1, im20, im60, l0, l1, l2, l3, l4, l5, l8, l10000, l1e9, lm10000, jl_add, jl_sub, jl_mul, jl_neg, ji_add, ji_sub, ji_mul, ji_neg, ji_l, jl_i, rL_n, rI_n, dL_n, dI_n, mnI_j, mxI_j, ji_nat, rest_j, part_n, whole_j, times_j, kc_0, kc_gt, kc_lt, kc_le, kc_ge, ji_lt, ji_le, ji_inj, jl_inj, jl_lt, jl_le, b1s, b2s, bEs, bEe, rIs, rIn, rIJ, rJs, rJn, rJI, ifp, ifn, if_true, if_false]
      obtain ⟨n1, n2⟩ := newton_poly (R' := (R - ev c R (n + 1) % p ^ s * iv p s (ev (dv c) R n) % p ^ s) % p ^ s) (off := ev c R (n + 1) % p ^ s) hP hd hs.1 hk hRd hR3 g2 (mod_dvd _ _) (by
        have e1 := mod_dvd (R - ev c R (n + 1) % p ^ s * iv p s (ev (dv c) R n) % p ^ s) (p ^ s)
        have e2 := mod_dvd (ev c R (n + 1) % p ^ s * iv p s (ev (dv c) R n)) (p ^ s)
        have e3 := Int.dvd_sub e1 e2
        rwa [show ∀ a b c e : Int, a - (b - c) - (c - e) = a - (b - e) by intros; omega] at e3)
      refine IH (j + 1) (2 * k2) _ g4.1 g4.2 n1 (by omega) n2 ?_ (by omega) (by omega)
      rw [show 6 - j = (6 - (j + 1)) + 1 by omega, Nat.pow_succ] at hsk
      rw [Nat.mul_comm 2 k2, Nat.mul_assoc, Nat.mul_comm 2]
      exact hsk
theorem liftC {S : St} {p : Int} {r o k s n : Nat} {c : Nat → Int} {d : Int} (h : NrC S p r) (hP : Pr p) (hr : Rch p r) (hk : k < 8) (hc : PolC S k c) (hB : CoB c) (hn : n ≤ 6) (hs : 1 ≤ s ∧ s ≤ r) (hd0 : 0 ≤ d ∧ d < p) (hf : p ∣ ev c d (n + 1)) (hd : ¬ p ∣ ev (dv c) d n) (h3 : S.1 (12 + o) 3 = ji k) (h4 : S.1 (12 + o) 4 = ji d) (h5 : S.1 (12 + o) 5 = ji s) (h6 : S.1 (12 + o) 6 = ji ((n + 1 : Nat) : Int)) :
    Ok (f_X5_findLifted o S) (fun S' => ∃ R, LiR p s c n d R ∧ S' = setC S o (lay p r 0 s R)) := by
  have hrr := hr.2.2.2.2
  have hp2 := hr.2.1
  have f3 := pw_le hr.1 hs.1
  rw [Int.pow_one] at f3
  unfold f_X5_findLifted
  rw [h3, pageC hk, b1s, if_pos hk, h5, pwC' h hr (by omega), b1s, h4, ji_l (by omega), Int.toNat_natCast]
  exact liftC_loop h hP hr hc hB hn hs hd h5 h6 FU 0 1 d hd0.1 (by omega) (by rw [Int.sub_self]; exact Int.dvd_zero _) (by omega) (by rw [show min 1 s = 1 by omega, Int.pow_one]; exact hf) (by show s ≤ 1 * 2 ^ 6; omega) (by omega) (FU_lt (by omega))
theorem liftM_inner {T T' : St} {p : Int} {n j : Nat} {c : Nat → Int} {d Q0 : Int} (hP : Pr p) (hn : n < 40) (hc : ∀ j : Nat, j < 7 → T.1 11 (7 * n + j) = ji (c j)) (hB : CoB c) (hpj : p ^ (j + 1) ≤ 1000000000) (hd : ¬ p ∣ ev (dv c) d 6) (hQ0 : 0 ≤ Q0 ∧ Q0 < p ^ j) (hQ0d : p ∣ Q0 - d) (hj : 1 ≤ j)
    (K : Int32 × Int64 × Int32 × St → Option St) {Q : Int} (hQ : 0 ≤ Q ∧ Q < p ^ (j + 1)) (hQs : p ^ (j + 1) ∣ ev c Q 7) (hQd : p ∣ Q - d) (hK : K (ji n, jl Q, ji ((j + 1 : Nat) : Int), T) = some T') (hj2 : j ≤ 29) :
    ∀ (N : Nat) (t : Nat) (ts : Nat), Q = Q0 + p ^ j * ts → t ≤ ts → ts - t < N →
    itr (fun (q : Int32 × Int64 × Int32 × Int64 × Int64 × St) k => s_X10_lifted_40 (fun (x1 : Int32) (x2 : Int64) (x4 : Int32) (S : St) => K (x1, x2, x4, S)) (fun (x1 : Int32) (x2 : Int64) (x4 : Int32) (x5 : Int64) (x7 : Int64) (S : St) => k (x1, x2, x4, x5, x7, S)) q.1 q.2.1 q.2.2.1 q.2.2.2.1 q.2.2.2.2.1 q.2.2.2.2.2) N (ji n, jl (Q0 + p ^ j * t), ji j, jl (p ^ j), jl (p ^ (j + 1)), T) = some T'
  | 0, _, _, _, _, h => absurd h (Nat.not_lt_zero _)
  | N + 1, t, ts, hts, ht, hN => by
    rw [itrS]
    have IH := liftM_inner hP hn hc hB hpj hd hQ0 hQ0d hj K hQ hQs hQd hK hj2 N (t + 1) ts hts
    generalize itr _ N = K2 at IH
    show s_X10_lifted_40 _ _ (ji n) (jl (Q0 + p ^ j * t)) (ji j) (jl (p ^ j)) (jl (p ^ (j + 1))) T = _
    have hp := hP.rng.1
    have g1 := pw_pos hp j
    have g2 := pw_pos hp (j + 1)
    have g3 : p ^ j * (t : Int) ≤ p ^ j * ts := Int.mul_le_mul_of_nonneg_left (by omega) (by omega)
    have g4 : 0 ≤ p ^ j * (t : Int) := Int.mul_nonneg (by omega) (by omega)
    have g6 := emod_rng (a := ev c (Q0 + p ^ j * t) 7) g2
    have key : ev c (Q0 + p ^ j * t) 7 % p ^ (j + 1) = 0 ↔ t = ts := by
      constructor
      · intro q
        have k2 : p ∣ Q0 + p ^ j * t - d := by
          have := Int.dvd_add hQ0d (Int.dvd_mul_of_dvd_left (c := (t : Int)) (pw_dvd1 p hj))
          rwa [show Q0 - d + p ^ j * t = Q0 + p ^ j * t - d by omega] at this
        have k3 := root_un (s := j + 1) hP hd k2 hQd (Int.dvd_of_emod_eq_zero q) hQs
        have k4 := res_eq (by omega) (by omega) hQ.1 hQ.2 k3
        have k5 : p ^ j * (t : Int) = p ^ j * ts := by omega
        have := Int.eq_of_mul_eq_mul_left (by omega) k5
        omega
      · intro q
        subst q
        rw [← hts]
        exact Int.emod_eq_zero_of_dvd hQs
    unfold s_X10_lifted_40
    have e7 : (7 : Int) * (n : Int) = ((7 * n : Nat) : Int) := by omega
    have hv := valueOfM0 (T := T) (b := 7 * n) (x := Q0 + p ^ j * t) (m := p ^ (j + 1)) (by omega) hc hB (by omega) (by omega)
    have hmod : (Q0 + p ^ j * (t : Int)) % p ^ (j + 1) = Q0 + p ^ j * t := Int.emod_eq_of_lt (by omega) (by omega)
    simp (disch := omega) only [i0, i1, i2, i3, i4, i5, i6, i7, i8, i12, i16, i20, i30, i39, i40, i60, i64, i97, i100, i256, i1000, i10000, im1, im20, im60, l0, l1, l2, l3, l4, l5, l8, l10000, l1e9, lm10000, jl_add, jl_sub, jl_mul, jl_neg, ji_add, ji_sub, ji_mul, ji_neg, ji_l, jl_i, rL_n, rI_n, dL_n, dI_n, mnI_j, mxI_j, ji_nat, rest_j, part_n, whole_j, times_j, kc_0, kc_gt, kc_lt, kc_le, kc_ge, ji_lt, ji_le, ji_inj, jl_inj, jl_lt, jl_le, b1s, b2s, bEs, bEe, rIs, rIn, rIJ, rJs, rJn, rJI, ifp, ifn, if_true, if_false, e7, hmod, hv]
    by_cases hcc : t = ts
    · rw [if_pos (key.mpr hcc), hcc, ← hts]
      exact hK
    · rw [if_neg (fun q => hcc (key.mp q)), show Q0 + p ^ j * (t : Int) + p ^ j = Q0 + p ^ j * ((t + 1 : Nat) : Int) by push_cast; grind]
      exact IH (by omega) (by omega)
theorem liftM_outer {T : St} {p : Int} {r s n : Nat} {c : Nat → Int} {d R : Int} (h : T.1 0 18 = ji p) (hP : Pr p) (hr : Rch p r) (hs : 1 ≤ s ∧ s ≤ r) (hn : n < 40) (h6 : T.1 6 n = ji s) (hc : ∀ j : Nat, j < 7 → T.1 11 (7 * n + j) = ji (c j)) (hB : CoB c) (hd : ¬ p ∣ ev (dv c) d 6) (hR : LiR p s c 6 d R) :
    ∀ (N j : Nat), 1 ≤ j → j ≤ s → s - j < N →
    itr (fun (q : Int32 × Int64 × Int32 × St) k => s_X10_lifted_11 (fun (x1 : Int32) (x2 : Int64) (x4 : Int32) (S : St) => k (x1, x2, x4, S)) q.1 q.2.1 q.2.2.1 q.2.2.2) N (ji n, jl (R % p ^ j), ji j, T) = some (setF T (lay p r 0 s R))
  | 0, _, _, _, h => absurd h (Nat.not_lt_zero _)
  | N + 1, j, hj, hjs, hN => by
    rw [itrS]
    have IH := liftM_outer h hP hr hs hn h6 hc hB hd hR N (j + 1)
    generalize itr _ N = K at IH
    show s_X10_lifted_11 _ (ji n) (jl (R % p ^ j)) (ji j) T = _
    have hrr := hr.2.2.2.2
    obtain ⟨r1, r2, r3, r4⟩ := hR
    unfold s_X10_lifted_11
    have g9 := hr.le hs.2
    by_cases hcc : s ≤ j
    · have : s = j := by omega
      subst this
      simp (disch := omega) only [i0, i1, i2, i3, i4, i5, i6, i7, i8, i12, i16, i20, i30, i39, i40, i60, i64, i97, i100, i256, i1000, i10000, im1, im20, im60, l0, l1, l2, l3, l4, l5, l8, l10000, l1e9, lm10000, jl_add, jl_sub, jl_mul, jl_neg, ji_add, ji_sub, ji_mul, ji_neg, ji_l, jl_i, rL_n, rI_n, dL_n, dI_n, mnI_j, mxI_j, ji_nat, rest_j, part_n, whole_j, times_j, kc_0, kc_gt, kc_lt, kc_le, kc_ge, ji_lt, ji_le, ji_inj, jl_inj, jl_lt, jl_le, b1s, b2s, bEs, bEe, rIs, rIn, rIJ, rJs, rJn, rJI, ifp, ifn, if_true, if_false, Int.toNat_natCast, h6]
      rw [Int.emod_eq_of_lt r1 r2, laysM h hr (by omega) (by omega) (by omega) (by omega), b1s]
    · simp (disch := omega) only [i0, i1, i2, i3, i4, i5, i6, i7, i8, i12, i16, i20, i30, i39, i40, i60, i64, i97, i100, i256, i1000, i10000, im1, im20, im60, l0, l1, l2, l3, l4, l5, l8, l10000, l1e9, lm10000, jl_add, jl_sub, jl_mul, jl_neg, ji_add, ji_sub, ji_mul, ji_neg, ji_l, jl_i, rL_n, rI_n, dL_n, dI_n, mnI_j, mxI_j, ji_nat, rest_j, part_n, whole_j, times_j, kc_0, kc_gt, kc_lt, kc_le, kc_ge, ji_lt, ji_le, ji_inj, jl_inj, jl_lt, jl_le, b1s, b2s, bEs, bEe, rIs, rIn, rIJ, rJs, rJn, rJI, ifp, ifn, if_true, if_false, Int.toNat_natCast, h6]
      have g0 := pw_pos hr.1 j
      have g1 := pw_pos hr.1 (j + 1)
      rw [pwM h ⟨hr.1, hr.2.1⟩ (by omega), b1s, pwM h ⟨hr.1, hr.2.1⟩ (by omega), b1s, show ((j : Int) + 1).toNat = j + 1 by omega, Int.toNat_natCast]
      have g2 := emod_rng (a := R) g0
      have g3 := emod_rng (a := R) g1
      have e1 := Int.emod_emod_of_dvd R (pw_dvd p (show j ≤ j + 1 by omega))
      have e2 := Int.emod_add_mul_ediv (R % p ^ (j + 1)) (p ^ j)
      rw [e1] at e2
      have e3 : 0 ≤ R % p ^ (j + 1) / p ^ j := Int.ediv_nonneg g3.1 (by omega)
      have k1 : p ∣ R % p ^ (j + 1) - d := by
        have := Int.dvd_add (Int.dvd_trans (pw_dvd1 p (show 1 ≤ j + 1 by omega)) (mod_dvd R (p ^ (j + 1)))) r4
        rwa [show ∀ a b c : Int, a - b + (b - c) = a - c by intros; omega] at this
      have k0 : p ∣ R % p ^ j - d := by
        have := Int.dvd_add (Int.dvd_trans (pw_dvd1 p hj) (mod_dvd R (p ^ j))) r4
        rwa [show ∀ a b c : Int, a - b + (b - c) = a - c by intros; omega] at this
      have k2 : p ^ (j + 1) ∣ ev c (R % p ^ (j + 1)) 7 := by
        have f1 := Int.dvd_trans (pw_dvd p (show j + 1 ≤ s by omega)) r3
        have f3 := Int.dvd_add (ev_mod (c := c) (mod_dvd R (p ^ (j + 1))) 7) f1
        rwa [Int.sub_add_cancel] at f3
      have := liftM_inner (T := T) (Q0 := R % p ^ j) hP hn hc hB (hr.le (by omega)) hd g2 k0 hj K g3 k2 k1 (IH (by omega) (by omega) (by omega)) (by omega) FU 0 (R % p ^ (j + 1) / p ^ j).toNat (by rw [show (((R % p ^ (j + 1) / p ^ j).toNat : Nat) : Int) = R % p ^ (j + 1) / p ^ j by omega]; omega) (by omega) (FU_lt (by
          have : R % p ^ (j + 1) / p ^ j ≤ R % p ^ (j + 1) := Int.ediv_le_self _ g3.1
          have := hr.le (show j + 1 ≤ r by omega)
          omega))
      rw [show ((0 : Nat) : Int) = 0 by rfl, Int.mul_zero, Int.add_zero] at this
      exact this
theorem liftM {T : St} {p : Int} {r s n : Nat} {c : Nat → Int} {d R : Int} (h : T.1 0 18 = ji p) (hP : Pr p) (hr : Rch p r) (hs : 1 ≤ s ∧ s ≤ r) (hn : n < 40) (h4 : T.1 4 n = ji d) (h6 : T.1 6 n = ji s) (hc : ∀ j : Nat, j < 7 → T.1 11 (7 * n + j) = ji (c j)) (hB : CoB c) (hd0 : 0 ≤ d ∧ d < p) (hd : ¬ p ∣ ev (dv c) d 6) (hR : LiR p s c 6 d R) : f_X10_lifted (ji n) T = some (setF T (lay p r 0 s R)) := by
  have hrr := hr.2.2.2.2
  have hp2 := hr.2.1
  unfold f_X10_lifted
  simp (disch := omega) only [i0, i1, i2, i3, i4, i5, i6, i7, i8, i12, i16, i20, i30, i39, i40, i60, i64, i97, i100, i256, i1000, i10000, im1, im20, im60, l0, l1, l2, l3, l4, l5, l8, l10000, l1e9, lm10000, jl_add, jl_sub, jl_mul, jl_neg, ji_add, ji_sub, ji_mul, ji_neg, ji_l, jl_i, rL_n, rI_n, dL_n, dI_n, mnI_j, mxI_j, ji_nat, rest_j, part_n, whole_j, times_j, kc_0, kc_gt, kc_lt, kc_le, kc_ge, ji_lt, ji_le, ji_inj, jl_inj, jl_lt, jl_le, b1s, b2s, bEs, bEe, rIs, rIn, rIJ, rJs, rJn, rJI, ifp, ifn, if_true, if_false, Int.toNat_natCast, h4]
  have := liftM_outer h hP hr hs hn h6 hc hB hd hR FU 1 (by omega) hs.1 (FU_lt (by omega))
  have e3 : R % p ^ 1 = d := by
    rw [Int.pow_one]
    obtain ⟨-, -, -, r4⟩ := hR
    have := emod_rng (a := R) (show 0 < p by omega)
    refine res_eq this.1 this.2 hd0.1 hd0.2 ?_
    have := Int.dvd_add (mod_dvd R p) r4
    rwa [show ∀ a b c : Int, a - b + (b - c) = a - c by intros; omega] at this
  rw [e3] at this
  exact this
/-! roots of unity -/
def teiS (p : Int) (r : Nat) (x : Int × Int × Int) : Int × Int × Int := lay p r 0 x.2.1 (x.2.2 ^ (p.toNat ^ x.2.1.toNat))
theorem tei_step {p u m : Int} {k : Nat} : (u ^ (p.toNat ^ k) % m) ^ p.toNat % m = u ^ (p.toNat ^ (k + 1)) % m := by
  rw [← pow_mod, ← Int.pow_mul, ← Nat.pow_succ]
theorem teiC_loop {S : St} {p : Int} {r o s : Nat} {u : Int} (h : NrC S p r) (hr : Rch p r) (hs : s ≤ r) : ∀ (N k : Nat), k ≤ s → s - k < N →
    itr (fun (q : Nat × Int32 × Int64 × Int64 × Int32 × St) k => s_X5_findRootOfUnity_29 (fun (x1 : Nat) (x3 : Int32) (x4 : Int64) (x6 : Int64) (x8 : Int32) (S : St) => k (x1, x3, x4, x6, x8, S)) q.1 q.2.1 q.2.2.1 q.2.2.2.1 q.2.2.2.2.1 q.2.2.2.2.2) N (o, ji s, jl (p ^ s), jl (u ^ (p.toNat ^ k) % p ^ s), ji k, S) = some (setC S o (lay p r 0 s (u ^ (p.toNat ^ s))))
  | 0, _, _, h => absurd h (Nat.not_lt_zero _)
  | N + 1, k, hk, hN => by
    rw [itrS]
    have IH := teiC_loop (o := o) (u := u) h hr hs N (k + 1)
    generalize itr _ N = K at IH
    show s_X5_findRootOfUnity_29 _ o (ji s) (jl (p ^ s)) (jl (u ^ (p.toNat ^ k) % p ^ s)) (ji k) S = _
    have hrr := hr.2.2.2.2
    have hp := hr.1
    have hp2 := hr.2.1
    have hm1 := pw_pos hr.1 s
    have hm2 := hr.le hs
    have g1 := emod_rng (a := u ^ (p.toNat ^ k)) hm1
    unfold s_X5_findRootOfUnity_29
    rw [h.1]
    simp (disch := omega) only [i0, i1, i2, i3, i4, i5, i6, i7, i8, i12, i16, i20, i30, i39, i40, i60, i64, i97, i100, i256, i1000, i10000, im1, im20, im60, l0, l1, l2, l3, l4, l5, l8, l10000, l1e9, lm10000, jl_add, jl_sub, jl_mul, jl_neg, ji_add, ji_sub, ji_mul, ji_neg, ji_l, jl_i, rL_n, rI_n, dL_n, dI_n, mnI_j, mxI_j, ji_nat, rest_j, part_n, whole_j, times_j, kc_0, kc_gt, kc_lt, kc_le, kc_ge, ji_lt, ji_le, ji_inj, jl_inj, jl_lt, jl_le, b1s, b2s, bEs, bEe, rIs, rIn, rIJ, rJs, rJn, rJI, ifp, ifn, if_true, if_false]
    by_cases hc : s ≤ k
    · have : s = k := by omega
      subst this
      rw [if_pos (by omega), settleC h hr (by omega) (by omega) (by omega), b1s, lay_congr (w := u ^ (p.toNat ^ s) % p ^ s) hp]
      exact Int.dvd_trans (pw_dvd p (by omega)) (mod_dvd _ _)
    · rw [if_neg (by omega), powC (by omega) (by omega) (by omega), b1s, tei_step]
      exact IH (by omega) (by omega)
theorem teiC {S : St} {p : Int} {r o k2 : Nat} {x : Int × Int × Int} (h : NrC S p r) (hr : Rch p r) (hx : NumC S k2 x) (wx : Wf p r x) (h0 : x.1 = 0) : f_X5_findRootOfUnity o k2 S = some (setC S o (teiS p r x)) := by
  have hrr := hr.2.2.2.2
  have ux := wx.u9 hr
  obtain ⟨a1, a2, a3, a4, -, a5, -⟩ := wx
  have hs : ((x.2.1).toNat : Int) = x.2.1 := by omega
  unfold f_X5_findRootOfUnity
  rw [hx.1, hx.2.1, hx.2.2, ji_sub, pwC' h hr (by omega), b1s]
  have := teiC_loop (o := o) (u := x.2.2) h hr (s := x.2.1.toNat) (by omega) FU 0 (by omega) (FU_lt (by omega))
  rw [Nat.pow_zero, Int.pow_one, Int.emod_eq_of_lt ux.1 (by rw [h0, Int.sub_zero] at a5; exact a5), hs] at this
  rw [h0, Int.sub_zero]
  exact this
theorem teiM_loop {T : St} {p : Int} {r n s : Nat} {u : Int} (h : T.1 0 18 = ji p) (hr : Rch p r) (hn : n < 40) (hs : s ≤ r) (h2 : T.1 2 n = ji s) : ∀ (N k : Nat), k ≤ s → s - k < N →
    itr (fun (q : Int32 × Int64 × Int64 × Int32 × St) k => s_X10_teich_24 (fun (x1 : Int32) (x2 : Int64) (x4 : Int64) (x6 : Int32) (S : St) => k (x1, x2, x4, x6, S)) q.1 q.2.1 q.2.2.1 q.2.2.2.1 q.2.2.2.2) N (ji n, jl (p ^ s), jl (u ^ (p.toNat ^ k) % p ^ s), ji k, T) = some (setF T (lay p r 0 s (u ^ (p.toNat ^ s))))
  | 0, _, _, h => absurd h (Nat.not_lt_zero _)
  | N + 1, k, hk, hN => by
    rw [itrS]
    have IH := teiM_loop (u := u) h hr hn hs h2 N (k + 1)
    generalize itr _ N = K at IH
    show s_X10_teich_24 _ (ji n) (jl (p ^ s)) (jl (u ^ (p.toNat ^ k) % p ^ s)) (ji k) T = _
    have hrr := hr.2.2.2.2
    have hp := hr.1
    have hp2 := hr.2.1
    have hm1 := pw_pos hr.1 s
    have hm2 := hr.le hs
    have g1 := emod_rng (a := u ^ (p.toNat ^ k)) hm1
    unfold s_X10_teich_24
    simp (disch := omega) only [i0, i1, i2, i3, i4, i5, i6, i7, i8, i12, i16, i20, i30, i39, i40, i60, i64, i97, i100, i256, i1000, i10000, im1, im20, im60, l0, l1, l2, l3, l4, l5, l8, l10000, l1e9, lm10000, jl_add, jl_sub, jl_mul, jl_neg, ji_add, ji_sub, ji_mul, ji_neg, ji_l, jl_i, rL_n, rI_n, dL_n, dI_n, mnI_j, mxI_j, ji_nat, rest_j, part_n, whole_j, times_j, kc_0, kc_gt, kc_lt, kc_le, kc_ge, ji_lt, ji_le, ji_inj, jl_inj, jl_lt, jl_le, b1s, b2s, bEs, bEe, rIs, rIn, rIJ, rJs, rJn, rJI, ifp, ifn, if_true, if_false, Int.toNat_natCast, h2, h]
    by_cases hc : s ≤ k
    · have : s = k := by omega
      subst this
      rw [if_pos (by omega), laysM h hr (by omega) (by omega) (by omega) (by omega), b1s, lay_congr (w := u ^ (p.toNat ^ s) % p ^ s) hp]
      exact Int.dvd_trans (pw_dvd p (by omega)) (mod_dvd _ _)
    · rw [if_neg (by omega), powM (by omega) (by omega) (by omega), b1s, tei_step]
      exact IH (by omega) (by omega)
theorem teiM {T : St} {p : Int} {r n : Nat} {x : Int × Int × Int} (h : T.1 0 18 = ji p) (hr : Rch p r) (hn : n < 40) (hx : NumM T n x) (wx : Wf p r x) (h0 : x.1 = 0) : f_X10_teich (ji n) T = some (setF T (teiS p r x)) := by
  have hrr := hr.2.2.2.2
  have ux := wx.u9 hr
  obtain ⟨a1, a2, a3, a4, -, a5, -⟩ := wx
  have hs : ((x.2.1).toNat : Int) = x.2.1 := by omega
  obtain ⟨x1, x2, x3⟩ := hx
  have hm1 := pw_pos hr.1 x.2.1.toNat
  have hm2 := hr.le (show x.2.1.toNat ≤ r by omega)
  rw [h0, Int.sub_zero] at a5
  unfold f_X10_teich
  simp (disch := omega) only [i0, i1, i2, i3, i4, i5, i6, i7, i8, i12, i16, i20, i30, i39, i40, i60, i64, i97, i100, i256, i1000, i10000, im1, im20, im60, l0, l1, l2, l3, l4, l5, l8, l10000, l1e9, lm10000, jl_add, jl_sub, jl_mul, jl_neg, ji_add, ji_sub, ji_mul, ji_neg, ji_l, jl_i, rL_n, rI_n, dL_n, dI_n, mnI_j, mxI_j, ji_nat, rest_j, part_n, whole_j, times_j, kc_0, kc_gt, kc_lt, kc_le, kc_ge, ji_lt, ji_le, ji_inj, jl_inj, jl_lt, jl_le, b1s, b2s, bEs, bEe, rIs, rIn, rIJ, rJs, rJn, rJI, ifp, ifn, if_true, if_false, Int.toNat_natCast, x2, x3]
  rw [pwM h ⟨hr.1, hr.2.1⟩ (by omega), b1s]
  have := teiM_loop (u := x.2.2) h hr hn (s := x.2.1.toNat) (by omega) (by rw [hs]; exact x2) FU 0 (by omega) (FU_lt (by omega))
  rw [Nat.pow_zero, Int.pow_one, hs] at this
  simp (disch := omega) only [i0, i1, i2, i3, i4, i5, i6, i7, i8, i12, i16, i20, i30, i39, i40, i60, i64, i97, i100, i256, i1000, i10000, im1, im20, im60, l0, l1, l2, l3, l4, l5, l8, l10000, l1e9, lm10000, jl_add, jl_sub, jl_mul, jl_neg, ji_add, ji_sub, ji_mul, ji_neg, ji_l, jl_i, rL_n, rI_n, dL_n, dI_n, mnI_j, mxI_j, ji_nat, rest_j, part_n, whole_j, times_j, kc_0, kc_gt, kc_lt, kc_le, kc_ge, ji_lt, ji_le, ji_inj, jl_inj, jl_lt, jl_le, b1s, b2s, bEs, bEe, rIs, rIn, rIJ, rJs, rJn, rJI, ifp, ifn, if_true, if_false]
  exact this
