/-! the value of a row at a number: the reference -/
theorem glM_loop {T : St} {p : Int} {n : Nat} (h : T.1 0 18 = ji p) (hp : 2 ≤ p ∧ p ≤ 97) (hn : n ≤ 12) : ∀ (N k : Nat), 2 ≤ k → k ≤ max n 2 → n - k < N →
    itr (fun (q : Int32 × Int32 × Int32) k => s_X10_greatest_4 (fun (x1 : Int32) (x2 : Int32) (x3 : Int32) => k (x1, x2, x3)) T q.1 q.2.1 q.2.2) N (ji n, ji (gl p k : Nat), ji k) = some (ji (gl p (max n 2) : Nat))
  | 0, _, _, _, h => absurd h (Nat.not_lt_zero _)
  | N + 1, k, h2, hk, hN => by
    rw [itrS]
    have IH := glM_loop h hp hn N (k + 1)
    generalize itr _ N = K at IH
    show s_X10_greatest_4 _ T (ji n) (ji (gl p k : Nat)) (ji k) = _
    unfold s_X10_greatest_4
    by_cases hc : n ≤ k
    · simp (disch := omega) only [i0, i1, i2, i3, i4, i5, i6, i7, i8, i12, i16, i20, i30, i39, i40, i60, i64, i97, i100, i256, i1000, i10000, im1, im20, im60, l0, l1, l2, l3, l4, l5, l8, l10000, l1e9, lm10000, jl_add, jl_sub, jl_mul, jl_neg, ji_add, ji_sub, ji_mul, ji_neg, ji_l, jl_i, rL_n, rI_n, dL_n, dI_n, mnI_j, mxI_j, ji_nat, rest_j, part_n, whole_j, times_j, kc_0, kc_gt, kc_lt, kc_le, kc_ge, ji_lt, ji_le, ji_inj, jl_inj, jl_lt, jl_le, b1s, b2s, bEs, bEe, rIs, rIn, rIJ, rJs, rJn, rJI, ifp, ifn, if_true, if_false]
      rw [show max n 2 = k by omega]
    · have g1 := gl_11 hp.1 k (by omega)
      have g2 := (vp_19 hp.1 (z := (k : Int)) (by omega)).1
      have e : gl p (k + 1) = gl p k + vp p (k : Int) := rfl
      simp (disch := omega) only [i0, i1, i2, i3, i4, i5, i6, i7, i8, i12, i16, i20, i30, i39, i40, i60, i64, i97, i100, i256, i1000, i10000, im1, im20, im60, l0, l1, l2, l3, l4, l5, l8, l10000, l1e9, lm10000, jl_add, jl_sub, jl_mul, jl_neg, ji_add, ji_sub, ji_mul, ji_neg, ji_l, jl_i, rL_n, rI_n, dL_n, dI_n, mnI_j, mxI_j, ji_nat, rest_j, part_n, whole_j, times_j, kc_0, kc_gt, kc_lt, kc_le, kc_ge, ji_lt, ji_le, ji_inj, jl_inj, jl_lt, jl_le, b1s, b2s, bEs, bEe, rIs, rIn, rIJ, rJs, rJn, rJI, ifp, ifn, if_true, if_false]
      rw [valM h hp (by omega), b1s, ji_add, show (gl p k : Int) + (vp p (k : Int) : Int) = ((gl p (k + 1) : Nat) : Int) by omega, show (k : Int) + 1 = ((k + 1 : Nat) : Int) by omega]
      exact IH (by omega) (by omega) (by omega)
theorem glM {T : St} {p : Int} {n : Nat} (h : T.1 0 18 = ji p) (hp : 2 ≤ p ∧ p ≤ 97) (hn : n ≤ 12) : f_X10_greatest (ji n) T = some (ji (gl p n : Nat)) := by
  have := glM_loop h hp hn FU 2 (by omega) (by omega) (FU_lt (by omega))
  rw [gl_012 hp.1, gl_2 hp.1] at this
  exact this
theorem knownM {T : St} {p : Int} {r n m : Nat} {x : Int × Int × Int} (h : T.1 0 18 = ji p) (hr : Rch p r) (hm : m < 40) (hx : NumM T m x) (wx : Wf p r x) (hn : n ≤ 12) : f_X10_known (ji m) (ji n) T = some (ji (min x.2.1 r - gl p n)) := by
  have hrr := hr.2.2.2.2
  obtain ⟨a1, a2, a3, -⟩ := wx
  have g1 := gl_11 hr.1 n (by omega)
  unfold f_X10_known
  rw [mostM h hr, b1s, glM h ⟨hr.1, hr.2.1⟩ hn, b1s]
  simp (disch := omega) only [i0, i1, i2, i3, i4, i5, i6, i7, i8, i12, i16, i20, i30, i39, i40, i60, i64, i97, i100, i256, i1000, i10000, im1, im20, im60, l0, l1, l2, l3, l4, l5, l8, l10000, l1e9, lm10000, jl_add, jl_sub, jl_mul, jl_neg, ji_add, ji_sub, ji_mul, ji_neg, ji_l, jl_i, rL_n, rI_n, dL_n, dI_n, mnI_j, mxI_j, ji_nat, rest_j, part_n, whole_j, times_j, kc_0, kc_gt, kc_lt, kc_le, kc_ge, ji_lt, ji_le, ji_inj, jl_inj, jl_lt, jl_le, b1s, b2s, bEs, bEe, rIs, rIn, rIJ, rJs, rJn, rJI, ifp, ifn, if_true, if_false, Int.toNat_natCast, hx.2.1]
theorem bn_gt : ∀ x k : Nat, x < k → bn x k = 0
  | x, 0, h => absurd h (Nat.not_lt_zero _)
  | 0, k + 1, _ => rfl
  | x + 1, k + 1, h => by rw [bn, bn_gt x k (by omega), bn_gt x (k + 1) (by omega)]
theorem bn_pos : ∀ x k : Nat, k ≤ x → 0 < bn x k
  | x, 0, _ => by rw [bn_0]; omega
  | 0, k + 1, h => by omega
  | x + 1, k + 1, h => by
    have := bn_pos x k (by omega)
    rw [bn]; omega
/-- what x (x - 1) .. has of p, and what is left of it -/
def av (p : Int) (X : Nat) : Nat → Nat
  | 0 => 0
  | k + 1 => av p X k + vp p ((X : Int) - k)
def aw (p : Int) (X : Nat) : Nat → Int
  | 0 => 1
  | k + 1 => aw p X k * wo p ((X : Int) - k)
theorem fl_av {p : Int} (hp : 2 ≤ p) (X : Nat) : ∀ k : Nat, k ≤ X → fl X k = p ^ av p X k * aw p X k
  | 0, _ => by show (1 : Int) = p ^ 0 * 1; simp
  | k + 1, h => by
    have h2 := (vp_wo hp (z := (X : Int) - k) (by omega)).1
    rw [fl, aw, av, fl_av hp X k (by omega), pw_add]
    generalize p ^ vp p ((X : Int) - k) = A at *
    generalize wo p ((X : Int) - k) = B at *
    generalize p ^ av p X k = C at *
    rw [h2]
    grind
theorem aw_co {p : Int} (hP : Pr p) (X : Nat) : ∀ k : Nat, k ≤ X → ¬ p ∣ aw p X k
  | 0, _ => fw_co hP 0
  | k + 1, h => by
    rw [aw]
    exact hP.mul (aw_co hP X k (by omega)) (wo_co hP.rng.1 (by omega))
theorem av_small {p : Int} (hp : 2 ≤ p) {X : Nat} (hX : (X : Int) < 9223372036854775808) : ∀ k : Nat, k ≤ 12 → av p X k ≤ 63 * k
  | 0, _ => by rw [av]; omega
  | k + 1, h => by
    have h1 := av_small hp hX k (by omega)
    have h2 := vp_62 hp (z := (X : Int) - k) (by omega)
    rw [av]; omega
theorem bn_av {p : Int} (hP : Pr p) {X k : Nat} (h : k ≤ X) : gl p (k + 1) ≤ av p X k ∧ (bn X k : Int) * fw p k = p ^ (av p X k - gl p (k + 1)) * aw p X k := by
  have hp := hP.rng.1
  have h1 := fl_bn X k
  rw [fl_av hp X k h, fc_gl hp] at h1
  have h2 : p ^ gl p (k + 1) ∣ p ^ av p X k * aw p X k := ⟨fw p k * bn X k, by rw [h1]; grind⟩
  have h3 := (pw_dvd_iff hp (aw_co hP X k h)).mp h2
  refine ⟨h3, ?_⟩
  have h4 := pw_pos hp (gl p (k + 1))
  apply Int.eq_of_mul_eq_mul_left (a := p ^ gl p (k + 1)) (by omega)
  rw [← Int.mul_assoc (p ^ gl p (k + 1)) (p ^ (av p X k - gl p (k + 1))), ← pw_add, show gl p (k + 1) + (av p X k - gl p (k + 1)) = av p X k by omega, h1]
  grind
theorem waysM_loop {T : St} {p : Int} {r X k sp : Nat} (h : T.1 0 18 = ji p) (hP : Pr p) (hr : Rch p r) (hk : k ≤ 11) (hsp : 1 ≤ sp ∧ sp ≤ r) (hX : (X : Int) < 1000000000) :
    ∀ (N j : Nat) (s : Int), j ≤ k → j ≤ X → 0 ≤ s → s < p ^ sp → p ^ sp ∣ s * fw p j - aw p X j → k - j < N →
    itr (fun (q : Int64 × Int32 × Int32 × Int64 × Int64 × Int32 × Int32) k => s_X10_ways_20 (fun (x1 : Int64) (x3 : Int32) (x4 : Int32) (x5 : Int64) (x7 : Int64) (x9 : Int32) (x10 : Int32) => k (x1, x3, x4, x5, x7, x9, x10)) T q.1 q.2.1 q.2.2.1 q.2.2.2.1 q.2.2.2.2.1 q.2.2.2.2.2.1 q.2.2.2.2.2.2) N (jl X, ji k, ji sp, jl (p ^ sp), jl s, ji ((av p X j : Int) - gl p (j + 1)), ji j) = some (jl ((bn X k : Int) % p ^ sp))
  | 0, _, _, _, _, _, _, _, h => absurd h (Nat.not_lt_zero _)
  | N + 1, j, s, hj, hjX, hs1, hs2, hs3, hN => by
    rw [itrS]
    have IH := waysM_loop h hP hr hk hsp hX N (j + 1)
    generalize itr _ N = K at IH
    show s_X10_ways_20 _ T (jl X) (ji k) (ji sp) (jl (p ^ sp)) (jl s) (ji ((av p X j : Int) - gl p (j + 1))) (ji j) = _
    have hp := hr.1
    have hp2 := hr.2.1
    have hrr := hr.2.2.2.2
    have g2 := pw_pos hp sp
    have g5 := hr.le (show sp ≤ r by omega)
    have a1 := av_small hp (X := X) (by omega) j (by omega)
    have a2 := gl_11 hp (j + 1) (by omega)
    unfold s_X10_ways_20
    by_cases hc : j = k
    · subst hc
      obtain ⟨b1, b2⟩ := bn_av hP hjX
      have b3 : p ^ sp ∣ s * p ^ (av p X j - gl p (j + 1)) - bn X j := by
        apply hP.euclidN (fw_co hP j)
        have := Int.dvd_mul_of_dvd_left (c := p ^ (av p X j - gl p (j + 1))) hs3
        rwa [show (s * fw p j - aw p X j) * p ^ (av p X j - gl p (j + 1)) = fw p j * (s * p ^ (av p X j - gl p (j + 1)) - bn X j) by
          rw [Int.sub_mul, Int.mul_comm (aw p X j), ← b2]; generalize p ^ (av p X j - gl p (j + 1)) = q; grind] at this
      have b4 : ((av p X j : Int) - gl p (j + 1)).toNat = av p X j - gl p (j + 1) := by omega
      simp (disch := omega) only [i0, i1, i2, i3, i4, i5, i6, i7, i8, i12, i16, i20, i30, i39, i40, i60, i64, i97, i100, i256, i1000, i10000, im1, im20, im60, l0, l1, l2, l3, l4, l5, l8, l10000, l1e9, lm10000, jl_add, jl_sub, jl_mul, jl_neg, ji_add, ji_sub, ji_mul, ji_neg, ji_l, jl_i, rL_n, rI_n, dL_n, dI_n, mnI_j, mxI_j, ji_nat, rest_j, part_n, whole_j, times_j, kc_0, kc_gt, kc_lt, kc_le, kc_ge, ji_lt, ji_le, ji_inj, jl_inj, jl_lt, jl_le, b1s, b2s, bEs, bEe, rIs, rIn, rIJ, rJs, rJn, rJI, ifp, ifn, if_true, if_false]
      by_cases hv : (av p X j : Int) - gl p (j + 1) < sp
      · have b5 := hr.le (show av p X j - gl p (j + 1) ≤ r by omega)
        have b6 := pw_pos hp (av p X j - gl p (j + 1))
        have b7 := sq_rng (a := s) (b := p ^ (av p X j - gl p (j + 1))) (m := 2147483648) (by omega) (by omega) (by omega)
        rw [if_pos hv, pwM h ⟨hp, hp2⟩ (by omega), b1s, b4]
        simp (disch := omega) only [i0, i1, i2, i3, i4, i5, i6, i7, i8, i12, i16, i20, i30, i39, i40, i60, i64, i97, i100, i256, i1000, i10000, im1, im20, im60, l0, l1, l2, l3, l4, l5, l8, l10000, l1e9, lm10000, jl_add, jl_sub, jl_mul, jl_neg, ji_add, ji_sub, ji_mul, ji_neg, ji_l, jl_i, rL_n, rI_n, dL_n, dI_n, mnI_j, mxI_j, ji_nat, rest_j, part_n, whole_j, times_j, kc_0, kc_gt, kc_lt, kc_le, kc_ge, ji_lt, ji_le, ji_inj, jl_inj, jl_lt, jl_le, b1s, b2s, bEs, bEe, rIs, rIn, rIJ, rJs, rJn, rJI, ifp, ifn, if_true, if_false]
        rw [Int.emod_eq_emod_iff_emod_sub_eq_zero.mpr (Int.emod_eq_zero_of_dvd b3)]
      · rw [if_neg hv]
        have b8 : p ^ sp ∣ (bn X j : Int) := by
          have := Int.dvd_sub (Int.dvd_mul_of_dvd_right (b := s) (pw_dvd p (show sp ≤ av p X j - gl p (j + 1) by omega))) b3
          rwa [Int.sub_sub_self] at this
        rw [Int.emod_eq_zero_of_dvd b8]
    · by_cases hXj : X = j
      · subst hXj
        simp (disch := omega) only [i0, i1, i2, i3, i4, i5, i6, i7, i8, i12, i16, i20, i30, i39, i40, i60, i64, i97, i100, i256, i1000, i10000, im1, im20, im60, l0, l1, l2, l3, l4, l5, l8, l10000, l1e9, lm10000, jl_add, jl_sub, jl_mul, jl_neg, ji_add, ji_sub, ji_mul, ji_neg, ji_l, jl_i, rL_n, rI_n, dL_n, dI_n, mnI_j, mxI_j, ji_nat, rest_j, part_n, whole_j, times_j, kc_0, kc_gt, kc_lt, kc_le, kc_ge, ji_lt, ji_le, ji_inj, jl_inj, jl_lt, jl_le, b1s, b2s, bEs, bEe, rIs, rIn, rIJ, rJs, rJn, rJI, ifp, ifn, if_true, if_false]
        rw [bn_gt X k (by omega)]
        rfl
      · have c0 := vp_wo hp (z := (X : Int) - j) (by omega)
        have c1 := vp_62 hp (z := (X : Int) - j) (by omega)
        have c2 := vp_19 hp (z := (j : Int) + 1) (by omega)
        have c3 := vp_le hp (z := (X : Int) - j) (by omega)
        have c4 := vp_le hp (z := (j : Int) + 1) (by omega)
        have c5 := pw_pos hp (vp p ((X : Int) - j))
        have c6 := pw_pos hp (vp p ((j : Int) + 1))
        have d1 : ((X : Int) - j) / p ^ vp p ((X : Int) - j) = wo p ((X : Int) - j) := rfl
        have d2 : ((j : Int) + 1) / p ^ vp p ((j : Int) + 1) = wo p ((j : Int) + 1) := rfl
        have d3 := Int.ediv_nonneg (show 0 ≤ (X : Int) - j by omega) (Int.le_of_lt c5)
        have d4 := Int.ediv_le_self (p ^ vp p ((X : Int) - j)) (show 0 ≤ (X : Int) - j by omega)
        rw [d1] at d3 d4
        have e1 := emod_rng (a := wo p ((X : Int) - j)) g2
        have e2 := sq_rng (a := s) (b := wo p ((X : Int) - j) % p ^ sp) ⟨hs1, hs2⟩ e1 (by omega)
        have e3 := emod_rng (a := s * (wo p ((X : Int) - j) % p ^ sp)) g2
        have e4 := iv_rng (a := wo p ((j : Int) + 1)) hp sp
        have e5 := sq_rng e3 e4 (by omega)
        have e6 := emod_rng (a := s * (wo p ((X : Int) - j) % p ^ sp) % p ^ sp * iv p sp (wo p ((j : Int) + 1))) g2
        have e7 : f_X10_inverse (jl (wo p ((j : Int) + 1))) (ji sp) T = some (jl (iv p sp (wo p ((j : Int) + 1)))) := by
          rw [invM h hP hr (by omega) (by omega), Int.toNat_natCast]
        have e8 : f_X10_power (ji (vp p ((X : Int) - j) : Nat)) T = some (jl (p ^ vp p ((X : Int) - j))) := by
          rw [pwM h ⟨hp, hp2⟩ (by omega), Int.toNat_natCast]
        have e9 : f_X10_power (ji (vp p ((j : Int) + 1) : Nat)) T = some (jl (p ^ vp p ((j : Int) + 1))) := by
          rw [pwM h ⟨hp, hp2⟩ (by omega), Int.toNat_natCast]
        have e10 : f_X10_valuationOf (jl ((X : Int) - j)) T = some (ji (vp p ((X : Int) - j) : Nat)) := valM h ⟨hp, hp2⟩ (by omega)
        have e11 : f_X10_valuationOf (jl ((j : Int) + 1)) T = some (ji (vp p ((j : Int) + 1) : Nat)) := valM h ⟨hp, hp2⟩ (by omega)
        simp (disch := omega) only [i0, i1, i2, i3, i4, i5, i6, i7, i8, i12, i16, i20, i30, i39, i40, i60, i64, i97, i100, i256, i1000, i10000, im1, im20, im60, l0, l1, l2, l3, l4, l5, l8, l10000, l1e9, lm10000, jl_add, jl_sub, jl_mul, jl_neg, ji_add, ji_sub, ji_mul, ji_neg, ji_l, jl_i, rL_n, rI_n, dL_n, dI_n, mnI_j, mxI_j, ji_nat, rest_j, part_n, whole_j, times_j, kc_0, kc_gt, kc_lt, kc_le, kc_ge, ji_lt, ji_le, ji_inj, jl_inj, jl_lt, jl_le, b1s, b2s, bEs, bEe, rIs, rIn, rIJ, rJs, rJn, rJI, ifp, ifn, if_true, if_false, e7, e8, e9, e10, e11, d1, d2]
        have f1 : (av p X j : Int) - gl p (j + 1) + ((vp p ((X : Int) - j) : Int) - vp p ((j : Int) + 1)) = (av p X (j + 1) : Int) - gl p (j + 1 + 1) := by
          have q1 : gl p (j + 1 + 1) = gl p (j + 1) + vp p ((j + 1 : Nat) : Int) := rfl
          have q2 : av p X (j + 1) = av p X j + vp p ((X : Int) - j) := rfl
          rw [show ((j + 1 : Nat) : Int) = (j : Int) + 1 by omega] at q1
          omega
        rw [f1, show (j : Int) + 1 = ((j + 1 : Nat) : Int) by omega]
        refine IH _ (by omega) (by omega) e6.1 e6.2 ?_ (by omega)
        rw [fw, aw, show ((j + 1 : Nat) : Int) = (j : Int) + 1 by omega]
        have i1 := iv_mul hP (wo_co hp (z := (j : Int) + 1) (by omega)) sp
        have i2 := mod_dvd (s * (wo p ((X : Int) - j) % p ^ sp) % p ^ sp * iv p sp (wo p ((j : Int) + 1))) (p ^ sp)
        have i3 := mod_dvd (s * (wo p ((X : Int) - j) % p ^ sp)) (p ^ sp)
        have i4 := mod_dvd (wo p ((X : Int) - j)) (p ^ sp)
        generalize iv p sp (wo p ((j : Int) + 1)) = I at *
        generalize wo p ((j : Int) + 1) = w at *
        generalize wo p ((X : Int) - j) = a at *
        generalize a % p ^ sp = a' at *
        generalize s * a' % p ^ sp = b at *
        generalize b * I % p ^ sp = c at *
        generalize p ^ sp = m at *
        clear e1 e2 e3 e4 e5 e6 e7 e8 e9 e10 e11 d1 d2 d3 d4 IH f1 c0 c2 h hr
        obtain ⟨t1, h1⟩ := i1
        obtain ⟨t2, h2⟩ := i2
        obtain ⟨t3, h3⟩ := i3
        obtain ⟨t4, h4⟩ := i4
        obtain ⟨t5, h5⟩ := hs3
        refine ⟨t2 * fw p j * w + t1 * b * fw p j + t3 * fw p j + t4 * s * fw p j + t5 * a, ?_⟩
        generalize fw p j = F at *
        generalize aw p X j = A at *
        grind
theorem waysM {T : St} {p : Int} {r X k sp : Nat} (h : T.1 0 18 = ji p) (hP : Pr p) (hr : Rch p r) (hk : k ≤ 11) (hsp : 1 ≤ sp ∧ sp ≤ r) (hX : (X : Int) < 1000000000) : f_X10_ways (jl X) (ji k) (ji sp) T = some (jl ((bn X k : Int) % p ^ sp)) := by
  have hp := hr.1
  have hrr := hr.2.2.2.2
  have g2 := pw_pos hp sp
  have g5 := hr.le (show sp ≤ r by omega)
  have g6 := pw_le hp hsp.1
  rw [Int.pow_one] at g6
  have := waysM_loop h hP hr hk hsp hX FU 0 1 (by omega) (by omega) (by omega) (by omega) (by show _ ∣ (1 : Int) * 1 - 1; exact Int.dvd_zero _) (FU_lt (by omega))
  unfold f_X10_ways
  rw [pwM h ⟨hp, hr.2.1⟩ (by omega), b1s, Int.toNat_natCast]
  simp (disch := omega) only [i0, i1, i2, i3, i4, i5, i6, i7, i8, i12, i16, i20, i30, i39, i40, i60, i64, i97, i100, i256, i1000, i10000, im1, im20, im60, l0, l1, l2, l3, l4, l5, l8, l10000, l1e9, lm10000, jl_add, jl_sub, jl_mul, jl_neg, ji_add, ji_sub, ji_mul, ji_neg, ji_l, jl_i, rL_n, rI_n, dL_n, dI_n, mnI_j, mxI_j, ji_nat, rest_j, part_n, whole_j, times_j, kc_0, kc_gt, kc_lt, kc_le, kc_ge, ji_lt, ji_le, ji_inj, jl_inj, jl_lt, jl_le, b1s, b2s, bEs, bEe, rIs, rIn, rIJ, rJs, rJn, rJI, ifp, ifn, if_true, if_false]
  rw [show (av p X 0 : Int) - gl p (0 + 1) = 0 by
    show ((0 : Nat) : Int) - ((0 + vp p ((0 : Nat) : Int) : Nat) : Int) = 0
    rw [show vp p ((0 : Nat) : Int) = 0 from rfl]; rfl] at this
  rw [Int.emod_eq_of_lt (show (0 : Int) ≤ 1 by omega) (by omega)]
  exact this
