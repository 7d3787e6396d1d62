/-! the value of a row at a number -/
def rs (f : Nat → Int) (X : Nat) : Nat → Int
  | 0 => 0
  | k + 1 => rs f X k + df f k * bn X k
def ptS (p : Int) (r : Nat) (x : Int × Int × Int) : Int := x.2.2 * p ^ x.1.toNat % p ^ (min x.2.1 r).toNat
def rowS (p : Int) (r : Nat) (x : Int × Int × Int) (n : Nat) (f : Nat → Int) : Int × Int × Int := lay p r 0 (min x.2.1 r - gl p n) (rs f (ptS p r x).toNat n)
theorem glC_loop {S : St} {p : Int} {n : Nat} (hp : 2 ≤ p ∧ p ≤ 97) (hn : n ≤ 12) : ∀ (N k : Nat), 2 ≤ k → k ≤ max n 2 → n - k < N →
    itr (fun (q : Int32 × Int32 × Int32 × Int32) k => s_X6_greatestLoss_5 (fun (x1 : Int32) (x2 : Int32) (x3 : Int32) (x4 : Int32) => k (x1, x2, x3, x4)) S q.1 q.2.1 q.2.2.1 q.2.2.2) N (ji n, ji p, ji (gl p k : Nat), ji k) = some (ji (gl p (max n 2) : Nat))
  | 0, _, _, _, h => absurd h (Nat.not_lt_zero _)
  | N + 1, k, h2, hk, hN => by
    rw [itrS]
    have IH := glC_loop (S := S) hp hn N (k + 1)
    generalize itr _ N = K at IH
    show s_X6_greatestLoss_5 _ S (ji n) (ji p) (ji (gl p k : Nat)) (ji k) = _
    unfold s_X6_greatestLoss_5
    by_cases hc : n ≤ k
    · simp (disch := omega) only [i0, i1, i2, i3, i4, i5, i6, i7, i8, i12, i16, i20, i30, i39, i40, i60, i64, i97, i100, i256, i1000, i10000, im1, im20, im60, l0, l1, l2, l3, l4, l5, l8, l10000, l1e9, lm10000, jl_add, jl_sub, jl_mul, jl_neg, ji_add, ji_sub, ji_mul, ji_neg, ji_l, jl_i, rL_n, rI_n, dL_n, dI_n, mnI_j, mxI_j, ji_nat, rest_j, part_n, whole_j, times_j, kc_0, kc_gt, kc_lt, kc_le, kc_ge, ji_lt, ji_le, ji_inj, jl_inj, jl_lt, jl_le, b1s, b2s, bEs, bEe, rIs, rIn, rIJ, rJs, rJn, rJI, ifp, ifn, if_true, if_false]
      rw [show max n 2 = k by omega]
    · have g1 := gl_11 hp.1 k (by omega)
      have g2 := (vp_19 hp.1 (z := (k : Int)) (by omega)).1
      have e : gl p (k + 1) = gl p k + vp p (k : Int) := rfl
      simp (disch := omega) only [i0, i1, i2, i3, i4, i5, i6, i7, i8, i12, i16, i20, i30, i39, i40, i60, i64, i97, i100, i256, i1000, i10000, im1, im20, im60, l0, l1, l2, l3, l4, l5, l8, l10000, l1e9, lm10000, jl_add, jl_sub, jl_mul, jl_neg, ji_add, ji_sub, ji_mul, ji_neg, ji_l, jl_i, rL_n, rI_n, dL_n, dI_n, mnI_j, mxI_j, ji_nat, rest_j, part_n, whole_j, times_j, kc_0, kc_gt, kc_lt, kc_le, kc_ge, ji_lt, ji_le, ji_inj, jl_inj, jl_lt, jl_le, b1s, b2s, bEs, bEe, rIs, rIn, rIJ, rJs, rJn, rJI, ifp, ifn, if_true, if_false]
      rw [facC (by omega) (by omega), b1s, ji_add, show (gl p k : Int) + (vp p (k : Int) : Int) = ((gl p (k + 1) : Nat) : Int) by omega, show (k : Int) + 1 = ((k + 1 : Nat) : Int) by omega]
      exact IH (by omega) (by omega) (by omega)
theorem gl_012 {p : Int} (hp : 2 ≤ p) {n : Nat} : gl p (max n 2) = gl p n := by
  have h1 : vp p ((1 : Nat) : Int) = 0 := by
    have := vp_eq (k := 0) hp (w := 1) (fun q => by have := Int.le_of_dvd (by decide) q; omega)
    simpa using this
  by_cases hc : 2 ≤ n
  · rw [show max n 2 = n by omega]
  · rw [show max n 2 = 2 by omega]
    have : n = 0 ∨ n = 1 := by omega
    rcases this with rfl | rfl
    · show 0 + vp p ((0 : Nat) : Int) + vp p ((1 : Nat) : Int) = 0
      rw [h1]; rfl
    · show 0 + vp p ((0 : Nat) : Int) + vp p ((1 : Nat) : Int) = 0 + vp p ((0 : Nat) : Int)
      rw [h1]
      rfl
theorem gl_2 {p : Int} (hp : 2 ≤ p) : gl p 2 = 0 := by
  have := gl_012 hp (n := 0)
  rw [show max 0 2 = 2 from rfl] at this
  rw [this]
  rfl
theorem glC {S : St} {p : Int} {n : Nat} (hp : 2 ≤ p ∧ p ≤ 97) (hn : n ≤ 12) : f_X6_greatestLoss (ji n) (ji p) S = some (ji (gl p n : Nat)) := by
  have := glC_loop (S := S) hp hn FU 2 (by omega) (by omega) (FU_lt (by omega))
  rw [gl_012 hp.1, gl_2 hp.1] at this
  exact this
theorem rvrC {S : St} {p : Int} {r k2 n : Nat} {x : Int × Int × Int} (h : NrC S p r) (hr : Rch p r) (hx : NumC S k2 x) (wx : Wf p r x) (hn : n ≤ 12) : f_X5_rowValueReach k2 (ji n) S = some (ji (min x.2.1 r - gl p n)) := by
  have hrr := hr.2.2.2.2
  obtain ⟨a1, a2, a3, -⟩ := wx
  have g1 := gl_11 hr.1 n (by omega)
  unfold f_X5_rowValueReach
  rw [h.1, glC ⟨hr.1, hr.2.1⟩ hn, b1s, hx.2.1, h.2.1]
  simp (disch := omega) only [i0, i1, i2, i3, i4, i5, i6, i7, i8, i12, i16, i20, i30, i39, i40, i60, i64, i97, i100, i256, i1000, i10000, im1, im20, im60, l0, l1, l2, l3, l4, l5, l8, l10000, l1e9, lm10000, jl_add, jl_sub, jl_mul, jl_neg, ji_add, ji_sub, ji_mul, ji_neg, ji_l, jl_i, rL_n, rI_n, dL_n, dI_n, mnI_j, mxI_j, ji_nat, rest_j, part_n, whole_j, times_j, kc_0, kc_gt, kc_lt, kc_le, kc_ge, ji_lt, ji_le, ji_inj, jl_inj, jl_lt, jl_le, b1s, b2s, bEs, bEe, rIs, rIn, rIJ, rJs, rJn, rJI, ifp, ifn, if_true, if_false]
/-- of x (x - 1) .. / k! the factors p taken off both parts -/
theorem row_term {p : Int} (hP : Pr p) {X k kn sp : Nat} {b : Int} (hk : gl p (k + 1) + sp ≤ kn) (hb : p ^ sp ∣ b - fw p k) : p ^ sp ∣ fl X k % p ^ kn / p ^ gl p (k + 1) * iv p sp b - bn X k := by
  have hp := hP.rng.1
  have h1 := pw_pos hp (gl p (k + 1))
  have e1 : fl X k % p ^ kn / p ^ gl p (k + 1) = fw p k * bn X k % p ^ (kn - gl p (k + 1)) := by
    rw [fl_bn, fc_gl hp, Int.mul_assoc, show kn = gl p (k + 1) + (kn - gl p (k + 1)) by omega, pw_add, Int.mul_emod_mul_of_pos _ _ h1, Int.mul_ediv_cancel_left _ (by omega), show gl p (k + 1) + (kn - gl p (k + 1)) - gl p (k + 1) = kn - gl p (k + 1) by omega]
  have e2 : iv p sp b = iv p sp (fw p k) := by
    rw [← iv_mod, Int.emod_eq_emod_iff_emod_sub_eq_zero.mpr (Int.emod_eq_zero_of_dvd hb), iv_mod]
  rw [e1, e2]
  have h2 := Int.dvd_trans (pw_dvd p (show sp ≤ kn - gl p (k + 1) by omega)) (mod_dvd (fw p k * bn X k) (p ^ (kn - gl p (k + 1))))
  have h3 := iv_mul hP (fw_co hP k) sp
  have h4 := Int.dvd_add (Int.dvd_mul_of_dvd_left (c := iv p sp (fw p k)) h2) (Int.dvd_mul_of_dvd_left (c := (bn X k : Int)) h3)
  rwa [show ∀ a f b i : Int, (a - f * b) * i + (f * i - 1) * b = a * i - b by intros; grind] at h4
theorem iv_of {p b c : Int} {n : Nat} (h : p ^ n ∣ b - c) : iv p n b = iv p n c := by
  rw [← iv_mod, Int.emod_eq_emod_iff_emod_sub_eq_zero.mpr (Int.emod_eq_zero_of_dvd h), iv_mod]
theorem rowC_100 {S : St} {p : Int} {r n X k kn sp : Nat} {f : Nat → Int} {b s : Int} (h : NrC S p r) (hP : Pr p) (hr : Rch p r) (hf : RoB f) (hk : k ≤ 11) (hrow : ∀ j : Nat, j ≤ k → S.1 9 j = ji (f j)) (hkn : kn ≤ r) (hgl : gl p (k + 1) + sp ≤ kn) (hb : p ^ sp ∣ b - fw p k) (hb2 : 0 ≤ b ∧ b ≤ 1000000000) (hbp : ¬ p ∣ b) (hs : 0 ≤ s ∧ s < p ^ sp) (hs2 : p ^ sp ∣ s - rs f X k)
    (K : Int64 → Int64 → Int64 → Int32 → Int64 → Int64 → Int64 → Int64 → Int32 → Option Int64) {v : Int64}
    (hK : ∀ s', 0 ≤ s' → s' < p ^ sp → p ^ sp ∣ s' - rs f X (k + 1) → K (jl X) (jl (p ^ kn)) (jl (p ^ sp)) (ji n) (jl s') (jl (fl X k % p ^ kn)) (jl b) (jl (p ^ gl p (k + 1))) (ji ((k + 1 : Nat) : Int)) = some v) :
    n_X5_rowSum_100 K S (jl X) (jl (p ^ kn)) (jl (p ^ sp)) (ji n) (jl s) (jl (fl X k % p ^ kn)) (jl b) (jl (p ^ gl p (k + 1))) (ji k) = some v := by
  have hp := hr.1
  have hrr := hr.2.2.2.2
  have g1 := pw_pos hp kn
  have g2 := pw_pos hp sp
  have g3 := pw_pos hp (gl p (k + 1))
  have g4 := hr.le hkn
  have g5 := hr.le (show sp ≤ r by omega)
  have g6 := hr.le (show gl p (k + 1) ≤ r by omega)
  have g7 := emod_rng (a := fl X k) g1
  have g8 := Int.ediv_nonneg g7.1 (Int.le_of_lt g3)
  have g9 := Int.ediv_le_self (p ^ gl p (k + 1)) g7.1
  have g10 := iv_rng (a := b) hp sp
  have g11 := emod_rng (a := fl X k % p ^ kn / p ^ gl p (k + 1) * iv p sp b) g2
  have g12 := df_rng hf hk
  unfold n_X5_rowSum_100
  rw [difC hf hk hrow, inv_p hP hbp (by omega) (by omega)]
  have g13 := emod_rng (a := fl X k % p ^ kn / p ^ gl p (k + 1) * iv p sp b % p ^ sp * df f k) g2
  simp (disch := omega) only [i0, i1, i2, i3, i4, i5, i6, i7, i8, i12, i16, i20, i30, i39, i40, i60, i64, i97, i100, i256, i1000, i10000, im1, im20, im60, l0, l1, l2, l3, l4, l5, l8, l10000, l1e9, lm10000, jl_add, jl_sub, jl_mul, jl_neg, ji_add, ji_sub, ji_mul, ji_neg, ji_l, jl_i, rL_n, rI_n, dL_n, dI_n, mnI_j, mxI_j, ji_nat, rest_j, part_n, whole_j, times_j, kc_0, kc_gt, kc_lt, kc_le, kc_ge, ji_lt, ji_le, ji_inj, jl_inj, jl_lt, jl_le, b1s, b2s, bEs, bEe, rIs, rIn, rIJ, rJs, rJn, rJI, ifp, ifn, if_true, if_false]
  rw [show (k : Int) + 1 = ((k + 1 : Nat) : Int) by omega]
  refine hK _ (emod_rng g2).1 (emod_rng g2).2 ?_
  have e1 := row_term hP (X := X) hgl hb
  generalize fl X k % p ^ kn / p ^ gl p (k + 1) * iv p sp b = Y at *
  have e2 := mod_dvd (s + Y % p ^ sp * df f k % p ^ sp) (p ^ sp)
  have e3 := mod_dvd (Y % p ^ sp * df f k) (p ^ sp)
  have e4 := Int.dvd_mul_of_dvd_left (c := df f k) (Int.dvd_add (mod_dvd Y (p ^ sp)) e1)
  have e5 := Int.dvd_add (Int.dvd_add (Int.dvd_add e2 e3) e4) hs2
  rw [rs]
  rwa [show ∀ a b c d e f g h : Int, a - (b + c) + (c - d * e) + (d - f + (f - g)) * e + (b - h) = a - (h + e * g) by intros; grind] at e5
theorem rowC_loop {S : St} {p : Int} {r n X kn sp : Nat} {f : Nat → Int} (h : NrC S p r) (hP : Pr p) (hr : Rch p r) (hf : RoB f) (hn : n ≤ 12) (hrow : ∀ j : Nat, j < n → S.1 9 j = ji (f j)) (hkn : kn ≤ r) (hsp : 1 ≤ sp) (hgl : gl p n + sp ≤ kn) (hX : (X : Int) < p ^ kn) :
    ∀ (N k : Nat) (s b : Int), k ≤ n → 0 ≤ s → s < p ^ sp → p ^ sp ∣ s - rs f X k → 0 ≤ b → b ≤ 1000000000 → p ^ sp ∣ b - fw p (k - 1) → n - k < N →
    itr (fun (q : Int64 × Int64 × Int64 × Int32 × Int64 × Int64 × Int64 × Int64 × Int32) k => s_X5_rowSum_19 (fun (x1 : Int64) (x3 : Int64) (x5 : Int64) (x7 : Int32) (x8 : Int64) (x10 : Int64) (x12 : Int64) (x14 : Int64) (x16 : Int32) => k (x1, x3, x5, x7, x8, x10, x12, x14, x16)) S q.1 q.2.1 q.2.2.1 q.2.2.2.1 q.2.2.2.2.1 q.2.2.2.2.2.1 q.2.2.2.2.2.2.1 q.2.2.2.2.2.2.2.1 q.2.2.2.2.2.2.2.2) N (jl X, jl (p ^ kn), jl (p ^ sp), ji n, jl s, jl (fl X (k - 1) % p ^ kn), jl b, jl (p ^ gl p k), ji k) = some (jl (rs f X n % p ^ sp))
  | 0, _, _, _, _, _, _, _, _, _, _, h => absurd h (Nat.not_lt_zero _)
  | N + 1, k, s, b, hk, hs1, hs2, hs3, hb1, hb2, hb3, hN => by
    rw [itrS]
    have IH := rowC_loop h hP hr hf hn hrow hkn hsp hgl hX N (k + 1)
    generalize itr _ N = K at IH
    show s_X5_rowSum_19 _ S (jl X) (jl (p ^ kn)) (jl (p ^ sp)) (ji n) (jl s) (jl (fl X (k - 1) % p ^ kn)) (jl b) (jl (p ^ gl p k)) (ji k) = _
    have hp := hr.1
    have hp2 := hr.2.1
    have hrr := hr.2.2.2.2
    have g1 := pw_pos hp kn
    have g2 := pw_pos hp sp
    have g4 := hr.le hkn
    have g5 := hr.le (show sp ≤ r by omega)
    unfold s_X5_rowSum_19
    by_cases hc : n ≤ k
    · have : k = n := by omega
      subst this
      simp (disch := omega) only [i0, i1, i2, i3, i4, i5, i6, i7, i8, i12, i16, i20, i30, i39, i40, i60, i64, i97, i100, i256, i1000, i10000, im1, im20, im60, l0, l1, l2, l3, l4, l5, l8, l10000, l1e9, lm10000, jl_add, jl_sub, jl_mul, jl_neg, ji_add, ji_sub, ji_mul, ji_neg, ji_l, jl_i, rL_n, rI_n, dL_n, dI_n, mnI_j, mxI_j, ji_nat, rest_j, part_n, whole_j, times_j, kc_0, kc_gt, kc_lt, kc_le, kc_ge, ji_lt, ji_le, ji_inj, jl_inj, jl_lt, jl_le, b1s, b2s, bEs, bEe, rIs, rIn, rIJ, rJs, rJn, rJI, ifp, ifn, if_true, if_false]
      congr 2
      refine res_eq hs1 hs2 (emod_rng g2).1 (emod_rng g2).2 ?_
      have := Int.dvd_sub hs3 (mod_dvd (rs f X k) (p ^ sp))
      rwa [show ∀ a b c : Int, a - b - (c - b) = a - c by intros; omega] at this
    · have m1 := gl_mono (p := p) (show k + 1 ≤ n by omega)
      have co : ∀ (b' : Int) (j : Nat), p ^ sp ∣ b' - fw p j → ¬ p ∣ b' := fun b' j hj q => by
        have := Int.dvd_sub q (Int.dvd_trans (pw_dvd1 p hsp) hj)
        rw [Int.sub_sub_self] at this
        exact fw_co hP j this
      cases k with
      | zero =>
        have e1 : p ^ gl p 0 = p ^ gl p (0 + 1) := rfl
        simp (disch := omega) only [i0, i1, i2, i3, i4, i5, i6, i7, i8, i12, i16, i20, i30, i39, i40, i60, i64, i97, i100, i256, i1000, i10000, im1, im20, im60, l0, l1, l2, l3, l4, l5, l8, l10000, l1e9, lm10000, jl_add, jl_sub, jl_mul, jl_neg, ji_add, ji_sub, ji_mul, ji_neg, ji_l, jl_i, rL_n, rI_n, dL_n, dI_n, mnI_j, mxI_j, ji_nat, rest_j, part_n, whole_j, times_j, kc_0, kc_gt, kc_lt, kc_le, kc_ge, ji_lt, ji_le, ji_inj, jl_inj, jl_lt, jl_le, b1s, b2s, bEs, bEe, rIs, rIn, rIJ, rJs, rJn, rJI, ifp, ifn, if_true, if_false]
        rw [e1]
        exact rowC_100 (k := 0) h hP hr hf (by omega) (fun j hj => hrow j (by omega)) hkn (by omega) hb3 ⟨hb1, hb2⟩ (co b _ hb3) ⟨hs1, hs2⟩ hs3 _ (fun s' q1 q2 q3 => IH s' b (by omega) q1 q2 q3 hb1 hb2 hb3 (by omega))
      | succ j =>
        have v1 := vp_19 hp (z := ((j + 1 : Nat) : Int)) (by omega)
        have m2 : gl p (j + 1 + 1) = gl p (j + 1) + vp p ((j + 1 : Nat) : Int) := rfl
        have g6 := hr.le (show gl p (j + 1) ≤ r by omega)
        have g7 := emod_rng (a := fl X j) g1
        have g8 := emod_rng (a := b * wo p ((j + 1 : Nat) : Int)) g2
        have g9 := pw_pos hp (gl p (j + 1))
        have e1 : fl X j % p ^ kn * ((X : Int) - ((j + 1 : Nat) : Int) + 1) % p ^ kn = fl X (j + 1) % p ^ kn := by
          rw [fl, Int.mul_emod, Int.emod_emod_of_dvd _ (Int.dvd_refl _), ← Int.mul_emod, show (X : Int) - ((j + 1 : Nat) : Int) + 1 = (X : Int) - j by omega]
        have e3 : p ^ sp ∣ b * wo p ((j + 1 : Nat) : Int) % p ^ sp - fw p (j + 1) := by
          rw [show j + 1 - 1 = j by omega] at hb3
          have := Int.dvd_add (mod_dvd (b * wo p ((j + 1 : Nat) : Int)) (p ^ sp)) (Int.dvd_mul_of_dvd_left (c := wo p ((j + 1 : Nat) : Int)) hb3)
          rw [fw]
          push_cast at *
          rwa [show ∀ a b c d : Int, a - b * c + (b - d) * c = a - d * c by intros; grind] at this
        have e4 : p ^ gl p (j + 1) * p ^ vp p ((j + 1 : Nat) : Int) = p ^ gl p (j + 1 + 1) := by rw [m2, pw_add]
        have hS3 := h.1
        rw [show j + 1 - 1 = j by omega]
        simp (disch := omega) only [i0, i1, i2, i3, i4, i5, i6, i7, i8, i12, i16, i20, i30, i39, i40, i60, i64, i97, i100, i256, i1000, i10000, im1, im20, im60, l0, l1, l2, l3, l4, l5, l8, l10000, l1e9, lm10000, jl_add, jl_sub, jl_mul, jl_neg, ji_add, ji_sub, ji_mul, ji_neg, ji_l, jl_i, rL_n, rI_n, dL_n, dI_n, mnI_j, mxI_j, ji_nat, rest_j, part_n, whole_j, times_j, kc_0, kc_gt, kc_lt, kc_le, kc_ge, ji_lt, ji_le, ji_inj, jl_inj, jl_lt, jl_le, b1s, b2s, bEs, bEe, rIs, rIn, rIJ, rJs, rJn, rJI, ifp, ifn, if_true, if_false, hS3]
        rw [woC (by omega) (by omega), b1s, facC (by omega) (by omega)]
        simp (disch := omega) only [i0, i1, i2, i3, i4, i5, i6, i7, i8, i12, i16, i20, i30, i39, i40, i60, i64, i97, i100, i256, i1000, i10000, im1, im20, im60, l0, l1, l2, l3, l4, l5, l8, l10000, l1e9, lm10000, jl_add, jl_sub, jl_mul, jl_neg, ji_add, ji_sub, ji_mul, ji_neg, ji_l, jl_i, rL_n, rI_n, dL_n, dI_n, mnI_j, mxI_j, ji_nat, rest_j, part_n, whole_j, times_j, kc_0, kc_gt, kc_lt, kc_le, kc_ge, ji_lt, ji_le, ji_inj, jl_inj, jl_lt, jl_le, b1s, b2s, bEs, bEe, rIs, rIn, rIJ, rJs, rJn, rJI, ifp, ifn, if_true, if_false]
        rw [pwC' h hr (by omega), b1s, Int.toNat_natCast, jl_mul, e4, e1]
        exact rowC_100 h hP hr hf (by omega) (fun j' hj => hrow j' (by omega)) hkn (by omega) e3 ⟨g8.1, by omega⟩ (co _ _ e3) ⟨hs1, hs2⟩ hs3 _ (fun s' q1 q2 q3 => IH s' _ (by omega) q1 q2 q3 g8.1 (by omega) e3 (by omega))
theorem rowValueC {S : St} {p : Int} {r o k2 n : Nat} {x : Int × Int × Int} {f : Nat → Int} (h : NrC S p r) (hP : Pr p) (hr : Rch p r) (hx : NumC S k2 x) (wx : Wf p r x) (hf : RoB f) (hn : n ≤ 12) (hrow : ∀ j : Nat, j < n → S.1 9 j = ji (f j)) (h6 : S.1 (12 + o) 6 = ji n) (h0 : 0 ≤ x.1) (hs : 0 < min x.2.1 (r : Int) - gl p n) : f_X5_findRowValue o k2 S = some (setC S o (rowS p r x n f)) := by
  have hp := hr.1
  have hrr := hr.2.2.2.2
  have wx' := wx
  obtain ⟨a1, a2, a3, a4, -⟩ := wx'
  have g0 := pw_pos hp (min x.2.1 (r : Int)).toNat
  have g3 := emod_rng (a := x.2.2 * p ^ x.1.toNat) g0
  have hX : (((ptS p r x).toNat : Nat) : Int) = ptS p r x := by
    have : 0 ≤ ptS p r x := g3.1
    omega
  have g1 := hr.le (show (min x.2.1 (r : Int)).toNat ≤ r by omega)
  have g2 := pw_pos hp (min x.2.1 (r : Int) - gl p n).toNat
  unfold f_X5_findRowValue
  rw [h6, rvrC h hr hx wx hn, b1s, hx.2.1, h.2.1, mnI_j (by omega) (by omega), i0, wholeC h hr hx wx h0 (by omega) (by omega) (by omega), b1s, pwC' h hr (by omega), b1s, pwC' h hr (by omega), b1s, Int.sub_zero, Int.sub_zero]
  have := rowC_loop (X := (ptS p r x).toNat) (kn := (min x.2.1 (r : Int)).toNat) (sp := (min x.2.1 (r : Int) - gl p n).toNat) h hP hr hf hn hrow (by omega) (by omega) (by omega) (by rw [hX]; exact g3.2) FU 0 0 1 (by omega) (by omega) g2 (by rw [rs]; exact Int.dvd_zero _) (by omega) (by omega) (by show _ ∣ (1 : Int) - 1; exact Int.dvd_zero _) (FU_lt (by omega))
  rw [hX] at this
  have g5 := hr.le (show (min x.2.1 (r : Int) - gl p n).toNat ≤ r by omega)
  have g6 := emod_rng (a := rs f (ptS p r x).toNat n) g2
  have hsum : f_X5_rowSum (jl (ptS p r x)) (jl (p ^ (min x.2.1 (r : Int)).toNat)) (jl (p ^ (min x.2.1 (r : Int) - gl p n).toNat)) (ji n) S = some (jl (rs f (ptS p r x).toNat n % p ^ (min x.2.1 (r : Int) - gl p n).toNat)) := by
    unfold f_X5_rowSum
    rw [l1, rest_j (by omega) (by omega), b1s]
    rw [show gl p 0 = 0 from rfl, Int.pow_zero, show (0 - 1 : Nat) = 0 from rfl, show fl (ptS p r x) 0 = 1 from rfl] at this
    exact this
  rw [show x.2.2 * p ^ x.1.toNat % p ^ (min x.2.1 (r : Int)).toNat = ptS p r x from rfl, hsum]
  rw [b1s, settleC h hr (by omega) (by omega) (by omega), b1s]
  unfold rowS
  rw [lay_congr (w := rs f (ptS p r x).toNat n % _) hp]
  exact Int.dvd_trans (pw_dvd p (by omega)) (mod_dvd _ _)
