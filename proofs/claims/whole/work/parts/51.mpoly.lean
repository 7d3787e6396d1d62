/-! polynomials: values, slopes -/
def ev (c : Nat → Int) (x : Int) : Nat → Int
  | 0 => 0
  | n + 1 => ev c x n + c n * x ^ n
def dv (c : Nat → Int) (k : Nat) : Int := ((k : Int) + 1) * c (k + 1)
theorem ev_congr {c e : Nat → Int} {x : Int} : ∀ n : Nat, (∀ k : Nat, k < n → c k = e k) → ev c x n = ev e x n
  | 0, _ => rfl
  | n + 1, h => by rw [ev, ev, ev_congr n (fun k hk => h k (by omega)), h n (by omega)]
theorem ev_cut {c : Nat → Int} {x : Int} {m : Nat} : ∀ n : Nat, m ≤ n → (∀ k : Nat, m ≤ k → k < n → c k = 0) → ev c x n = ev c x m
  | 0, h, _ => by rw [show m = 0 by omega]
  | n + 1, h, h0 => by
    by_cases hm : m = n + 1
    · rw [hm]
    · rw [ev, ev_cut n (by omega) (fun k h1 h2 => h0 k h1 (by omega)), h0 n (by omega) (by omega), Int.zero_mul, Int.add_zero]
theorem pow_taylor (x h : Int) : ∀ n : Nat, ∃ t, (x + h) ^ (n + 1) = x ^ (n + 1) + ((n : Int) + 1) * x ^ n * h + h * h * t
  | 0 => ⟨0, by simp [Int.pow_succ]⟩
  | n + 1 => by
    obtain ⟨t, ht⟩ := pow_taylor x h n
    refine ⟨x * t + ((n : Int) + 1) * x ^ n + h * t, ?_⟩
    rw [Int.pow_succ, ht, Int.pow_succ x (n + 1), Int.pow_succ x n]
    push_cast
    grind
theorem ev_taylor (c : Nat → Int) (x h : Int) : ∀ n : Nat, ∃ t, ev c (x + h) (n + 1) = ev c x (n + 1) + h * ev (dv c) x n + h * h * t
  | 0 => ⟨0, by simp [ev]⟩
  | n + 1 => by
    obtain ⟨t, ht⟩ := ev_taylor c x h n
    obtain ⟨u, hu⟩ := pow_taylor x h n
    refine ⟨t + c (n + 1) * u, ?_⟩
    rw [ev, ht, hu, ev.eq_2 c x (n + 1), ev.eq_2 (dv c) x n, dv]
    grind
theorem ev_mod {c : Nat → Int} {m x y : Int} (h : m ∣ x - y) : ∀ n : Nat, m ∣ ev c x n - ev c y n
  | 0 => by simp [ev]
  | n + 1 => by
    obtain ⟨t, ht⟩ := ev_taylor c y (x - y) n
    rw [show y + (x - y) = x by omega] at ht
    rw [ht]
    obtain ⟨q, hq⟩ := h
    exact ⟨q * ev (dv c) y n + q * (x - y) * t, by rw [hq]; grind⟩
/-- two roots of a polynomial, simple modulo p, that agree modulo p agree as far as both are roots -/
theorem root_un {p : Int} {s n : Nat} {c : Nat → Int} {R Q d : Int} (hP : Pr p) (hd : ¬ p ∣ ev (dv c) d n) (hR : p ∣ R - d) (hQ : p ∣ Q - d) (fR : p ^ s ∣ ev c R (n + 1)) (fQ : p ^ s ∣ ev c Q (n + 1)) : p ^ s ∣ R - Q := by
  obtain ⟨t, ht⟩ := ev_taylor c Q (R - Q) n
  rw [show Q + (R - Q) = R by omega] at ht
  have h1 : p ∣ R - Q := by
    have := Int.dvd_sub hR hQ
    rwa [show R - d - (Q - d) = R - Q by omega] at this
  have h2 : ¬ p ∣ ev (dv c) Q n + (R - Q) * t := fun q => by
    have e1 := Int.dvd_sub q (Int.dvd_mul_of_dvd_left (c := t) h1)
    rw [Int.add_sub_cancel] at e1
    have e2 := Int.dvd_sub e1 (ev_mod (c := dv c) hQ n)
    rw [Int.sub_sub_self] at e2
    exact hd e2
  apply hP.euclidN h2
  have := Int.dvd_sub fR fQ
  rw [ht] at this
  rwa [show ev c Q (n + 1) + (R - Q) * ev (dv c) Q n + (R - Q) * (R - Q) * t - ev c Q (n + 1) = (ev (dv c) Q n + (R - Q) * t) * (R - Q) by grind] at this
theorem newton_poly {p : Int} {s k n : Nat} {c : Nat → Int} {R i off R' d : Int} (hP : Pr p) (hd : ¬ p ∣ ev (dv c) d n) (hs : 1 ≤ s) (hk : 1 ≤ k) (hRd : p ∣ R - d) (hR : p ^ (min k s) ∣ ev c R (n + 1)) (hi : p ^ s ∣ ev (dv c) R n * i - 1) (ho : p ^ s ∣ off - ev c R (n + 1)) (hR' : p ^ s ∣ R' - (R - off * i)) : p ∣ R' - d ∧ p ^ (min (2 * k) s) ∣ ev c R' (n + 1) := by
  have h1 : p ^ (min k s) ∣ R' - R := by
    have e1 := Int.dvd_trans (pw_dvd p (show min k s ≤ s by omega)) hR'
    have e2 := Int.dvd_add (Int.dvd_trans (pw_dvd p (show min k s ≤ s by omega)) ho) hR
    rw [Int.sub_add_cancel] at e2
    have e3 := Int.dvd_sub e1 (Int.dvd_mul_of_dvd_left (c := i) e2)
    rwa [show R' - (R - off * i) - off * i = R' - R by omega] at e3
  constructor
  · have := Int.dvd_add (Int.dvd_trans (pw_dvd1 p (show 1 ≤ min k s by omega)) h1) hRd
    rwa [show R' - R + (R - d) = R' - d by omega] at this
  · obtain ⟨t, ht⟩ := ev_taylor c R (R' - R) n
    rw [show R + (R' - R) = R' by omega] at ht
    rw [ht]
    have f1 : p ^ (min (2 * k) s) ∣ (R' - R) * (R' - R) := by
      refine Int.dvd_trans (pw_dvd p (show min (2 * k) s ≤ min k s + min k s by omega)) ?_
      rw [pw_add]
      exact Int.mul_dvd_mul h1 h1
    have f2 : p ^ s ∣ ev c R (n + 1) + (R' - R) * ev (dv c) R n := by
      obtain ⟨a, ha⟩ := hi
      obtain ⟨b, hb⟩ := ho
      obtain ⟨e, he⟩ := hR'
      refine ⟨e * ev (dv c) R n - b - off * a, ?_⟩
      generalize p ^ s = m at *
      generalize ev c R (n + 1) = F at *
      generalize ev (dv c) R n = D at *
      grind
    exact Int.dvd_add (Int.dvd_trans (pw_dvd p (by omega)) f2) (Int.dvd_mul_of_dvd_left f1)
/-- the rows of a polynomial's coefficients -/
def PolC (S : St) (k : Nat) (c : Nat → Int) : Prop := ∀ j : Nat, j < 7 → S.1 (62 + k) j = ji (c j)
def CoB (c : Nat → Int) : Prop := ∀ j : Nat, -10000 ≤ c j ∧ c j ≤ 10000
theorem horner {m x c a : Int} (j : Nat) (e : Int) : ((a * x + c) % m * x ^ j + e) % m = (a * x ^ (j + 1) + (e + c * x ^ j)) % m := by
  apply Int.emod_eq_emod_iff_emod_sub_eq_zero.mpr
  apply Int.emod_eq_zero_of_dvd
  have := Int.dvd_mul_of_dvd_left (c := x ^ j) (mod_dvd (a * x + c) m)
  rw [Int.pow_succ]
  rwa [show ((a * x + c) % m - (a * x + c)) * x ^ j = (a * x + c) % m * x ^ j + e - (a * (x ^ j * x) + (e + c * x ^ j)) by grind] at this
theorem worthC_loop {S : St} {k : Nat} {c : Nat → Int} {x m : Int} (hc : PolC S k c) (hB : CoB c) (hx : 0 ≤ x ∧ x < 2147483648) (hm : 0 < m ∧ m ≤ 1000000000) : ∀ (N j : Nat) (a : Int), j ≤ 7 → 0 ≤ a → a < m → j < N →
    itr (fun (q : Nat × Int64 × Int64 × Int64 × Int32) k => s_X4_worthAt_17 (fun (x0 : Nat) (x1 : Int64) (x3 : Int64) (x6 : Int64) (x8 : Int32) => k (x0, x1, x3, x6, x8)) S q.1 q.2.1 q.2.2.1 q.2.2.2.1 q.2.2.2.2) N (k, jl x, jl m, jl a, ji ((j : Int) - 1)) = some (jl ((a * x ^ j + ev c x j) % m))
  | 0, _, _, _, _, _, h => absurd h (Nat.not_lt_zero _)
  | N + 1, j, a, hj, ha, ham, hN => by
    rw [itrS]
    have IH := worthC_loop hc hB hx hm N (j - 1)
    generalize itr _ N = K at IH
    show s_X4_worthAt_17 _ S k (jl x) (jl m) (jl a) (ji ((j : Int) - 1)) = _
    unfold s_X4_worthAt_17
    cases j with
    | zero =>
      simp (disch := omega) only [i0, i1, i2, i3, i4, i5, i6, i7, i8, i12, i16, i20, i30, i39, i40, i60, i64, i97, i100, i256, i1000, i10000, im1, im20, im60, l0, l1, l2, l3, l4, l5, l8, l10000, l1e9, lm10000, jl_add, jl_sub, jl_mul, jl_neg, ji_add, ji_sub, ji_mul, ji_neg, ji_l, jl_i, rL_n, rI_n, dL_n, dI_n, mnI_j, mxI_j, ji_nat, rest_j, part_n, whole_j, times_j, kc_0, kc_gt, kc_lt, kc_le, kc_ge, ji_lt, ji_le, ji_inj, jl_inj, jl_lt, jl_le, b1s, b2s, bEs, bEe, rIs, rIn, rIJ, rJs, rJn, rJI, ifp, ifn, if_true, if_false]
      rw [Int.pow_zero, Int.mul_one, ev, Int.add_zero, Int.emod_eq_of_lt ha ham]
    | succ j =>
      have e := hc j (by omega)
      have b := hB j
      have g1 := Int.mul_nonneg ha hx.1
      have g2 : a * x ≤ 1000000000 * 2147483648 := Int.mul_le_mul (by omega) (by omega) hx.1 (by omega)
      have g3 := emod_rng (a := a * x + c j) hm.1
      rw [show (((j + 1 : Nat) : Int) - 1) = (j : Int) by omega]
      simp (disch := omega) only [i0, i1, i2, i3, i4, i5, i6, i7, i8, i12, i16, i20, i30, i39, i40, i60, i64, i97, i100, i256, i1000, i10000, im1, im20, im60, l0, l1, l2, l3, l4, l5, l8, l10000, l1e9, lm10000, jl_add, jl_sub, jl_mul, jl_neg, ji_add, ji_sub, ji_mul, ji_neg, ji_l, jl_i, rL_n, rI_n, dL_n, dI_n, mnI_j, mxI_j, ji_nat, rest_j, part_n, whole_j, times_j, kc_0, kc_gt, kc_lt, kc_le, kc_ge, ji_lt, ji_le, ji_inj, jl_inj, jl_lt, jl_le, b1s, b2s, bEs, bEe, rIs, rIn, rIJ, rJs, rJn, rJI, ifp, ifn, if_true, if_false, Int.toNat_natCast, e]
      have := IH ((a * x + c j) % m) (by omega) g3.1 g3.2 (by omega)
      rw [show ((j + 1 - 1 : Nat) : Int) - 1 = (j : Int) + -1 by omega, show j + 1 - 1 = j by omega] at this
      rw [this, horner, ev]
theorem worthC {S : St} {k n : Nat} {c : Nat → Int} {x m : Int} (hc : PolC S k c) (hB : CoB c) (hx : 0 ≤ x ∧ x < 2147483648) (hm : 0 < m ∧ m ≤ 1000000000) (hn : n ≤ 7) : f_X4_worthAt k (jl x) (jl m) (ji n) S = some (jl (ev c x n % m)) := by
  unfold f_X4_worthAt n_X4_worthAt_17
  rw [i7, i1, mnI_j (by omega) (by omega), ji_sub, show min (n : Int) 7 - 1 = (n : Int) - 1 by omega, l0]
  have := worthC_loop hc hB hx hm FU n 0 hn (by omega) hm.1 (FU_lt (by omega))
  rw [Int.zero_mul, Int.zero_add] at this
  exact this
theorem riseC_loop {S : St} {k : Nat} {c : Nat → Int} {x m : Int} (hc : PolC S k c) (hB : CoB c) (hx : 0 ≤ x ∧ x < 2147483648) (hm : 0 < m ∧ m ≤ 1000000000) : ∀ (N j : Nat) (a : Int), j ≤ 6 → 0 ≤ a → a < m → j < N →
    itr (fun (q : Nat × Int64 × Int64 × Int64 × Int32) k => s_X4_riseAt_17 (fun (x0 : Nat) (x1 : Int64) (x3 : Int64) (x6 : Int64) (x8 : Int32) => k (x0, x1, x3, x6, x8)) S q.1 q.2.1 q.2.2.1 q.2.2.2.1 q.2.2.2.2) N (k, jl x, jl m, jl a, ji j) = some (jl ((a * x ^ j + ev (dv c) x j) % m))
  | 0, _, _, _, _, _, h => absurd h (Nat.not_lt_zero _)
  | N + 1, j, a, hj, ha, ham, hN => by
    rw [itrS]
    have IH := riseC_loop hc hB hx hm N (j - 1)
    generalize itr _ N = K at IH
    show s_X4_riseAt_17 _ S k (jl x) (jl m) (jl a) (ji j) = _
    unfold s_X4_riseAt_17
    cases j with
    | zero =>
      simp (disch := omega) only [i0, i1, i2, i3, i4, i5, i6, i7, i8, i12, i16, i20, i30, i39, i40, i60, i64, i97, i100, i256, i1000, i10000, im1, im20, im60, l0, l1, l2, l3, l4, l5, l8, l10000, l1e9, lm10000, jl_add, jl_sub, jl_mul, jl_neg, ji_add, ji_sub, ji_mul, ji_neg, ji_l, jl_i, rL_n, rI_n, dL_n, dI_n, mnI_j, mxI_j, ji_nat, rest_j, part_n, whole_j, times_j, kc_0, kc_gt, kc_lt, kc_le, kc_ge, ji_lt, ji_le, ji_inj, jl_inj, jl_lt, jl_le, b1s, b2s, bEs, bEe, rIs, rIn, rIJ, rJs, rJn, rJI, ifp, ifn, if_true, if_false]
      rw [Int.pow_zero, Int.mul_one, ev, Int.add_zero, Int.emod_eq_of_lt ha ham]
    | succ j =>
      have e := hc (j + 1) (by omega)
      have b := hB (j + 1)
      have g1 := Int.mul_nonneg ha hx.1
      have g2 : a * x ≤ 1000000000 * 2147483648 := Int.mul_le_mul (by omega) (by omega) hx.1 (by omega)
      have g4 : dv c j = (((j + 1 : Nat) : Int)) * c (j + 1) := by unfold dv; push_cast; rfl
      have g5 : -70000 ≤ dv c j ∧ dv c j ≤ 70000 := by
        rw [g4]
        have : j = 0 ∨ j = 1 ∨ j = 2 ∨ j = 3 ∨ j = 4 ∨ j = 5 := by omega
        rcases this with rfl | rfl | rfl | rfl | rfl | rfl <;> omega
      have g3 := emod_rng (a := a * x + dv c j) hm.1
      simp (disch := omega) only [i0, i1, i2, i3, i4, i5, i6, i7, i8, i12, i16, i20, i30, i39, i40, i60, i64, i97, i100, i256, i1000, i10000, im1, im20, im60, l0, l1, l2, l3, l4, l5, l8, l10000, l1e9, lm10000, jl_add, jl_sub, jl_mul, jl_neg, ji_add, ji_sub, ji_mul, ji_neg, ji_l, jl_i, rL_n, rI_n, dL_n, dI_n, mnI_j, mxI_j, ji_nat, rest_j, part_n, whole_j, times_j, kc_0, kc_gt, kc_lt, kc_le, kc_ge, ji_lt, ji_le, ji_inj, jl_inj, jl_lt, jl_le, b1s, b2s, bEs, bEe, rIs, rIn, rIJ, rJs, rJn, rJI, ifp, ifn, if_true, if_false, Int.toNat_natCast, e, ← g4]
      have := IH ((a * x + dv c j) % m) (by omega) g3.1 g3.2 (by omega)
      rw [show ((j + 1 - 1 : Nat) : Int) = ((j + 1 : Nat) : Int) + -1 by omega, show j + 1 - 1 = j by omega] at this
      rw [this, horner, ev]
theorem riseC {S : St} {k n : Nat} {c : Nat → Int} {x m : Int} (hc : PolC S k c) (hB : CoB c) (hx : 0 ≤ x ∧ x < 2147483648) (hm : 0 < m ∧ m ≤ 1000000000) (hn : n ≤ 7) (hn1 : 1 ≤ n) : f_X4_riseAt k (jl x) (jl m) (ji n) S = some (jl (ev (dv c) x (n - 1) % m)) := by
  unfold f_X4_riseAt n_X4_riseAt_17
  rw [i7, i1, mnI_j (by omega) (by omega), ji_sub, show min (n : Int) 7 - 1 = ((n - 1 : Nat) : Int) by omega, l0]
  have := riseC_loop hc hB hx hm FU (n - 1) 0 (by omega) (by omega) hm.1 (FU_lt (by omega))
  rw [Int.zero_mul, Int.zero_add] at this
  exact this

theorem valueOf_loop0 {T : St} {b : Nat} {c : Nat → Int} {x m : Int} (hb : b + 7 ≤ 280) (hc : ∀ j : Nat, j < 7 → T.1 11 (b + j) = ji (c j)) (hB : CoB c) (hx : 0 ≤ x ∧ x < 2147483648) (hm : 0 < m ∧ m ≤ 1000000000) : ∀ (N j : Nat) (a : Int), j ≤ 7 → 0 ≤ a → a < m → j < N →
    itr (fun (q : Int32 × Int64 × Int64 × Int32 × Int64 × Int32) k => s_X10_valueOf_7 (fun (x1 : Int32) (x2 : Int64) (x4 : Int64) (x6 : Int32) (x7 : Int64) (x9 : Int32) => k (x1, x2, x4, x6, x7, x9)) T q.1 q.2.1 q.2.2.1 q.2.2.2.1 q.2.2.2.2.1 q.2.2.2.2.2) N (ji b, jl x, jl m, ji 0, jl a, ji ((j : Int) - 1)) = some (jl ((a * x ^ j + ev c x j) % m))
  | 0, _, _, _, _, _, h => absurd h (Nat.not_lt_zero _)
  | N + 1, j, a, hj, ha, ham, hN => by
    rw [itrS]
    have IH := valueOf_loop0 hb hc hB hx hm N (j - 1)
    generalize itr _ N = K at IH
    show s_X10_valueOf_7 _ T (ji b) (jl x) (jl m) (ji 0) (jl a) (ji ((j : Int) - 1)) = _
    unfold s_X10_valueOf_7 n_X10_valueOf_19 n_X10_valueOf_58
    cases j with
    | zero =>
      simp (disch := omega) only [i0, i1, i2, i3, i4, i5, i6, i7, i8, i12, i16, i20, i30, i39, i40, i60, i64, i97, i100, i256, i1000, i10000, im1, im20, im60, l0, l1, l2, l3, l4, l5, l8, l10000, l1e9, lm10000, jl_add, jl_sub, jl_mul, jl_neg, ji_add, ji_sub, ji_mul, ji_neg, ji_l, jl_i, rL_n, rI_n, dL_n, dI_n, mnI_j, mxI_j, ji_nat, rest_j, part_n, whole_j, times_j, kc_0, kc_gt, kc_lt, kc_le, kc_ge, ji_lt, ji_le, ji_inj, jl_inj, jl_lt, jl_le, b1s, b2s, bEs, bEe, rIs, rIn, rIJ, rJs, rJn, rJI, ifp, ifn, if_true, if_false]
      rw [Int.pow_zero, Int.mul_one, ev, Int.add_zero, Int.emod_eq_of_lt ha ham]
    | succ j =>
      have e := hc j (by omega)
      have bb := hB j
      have g1 := Int.mul_nonneg ha hx.1
      have g2 : a * x ≤ 1000000000 * 2147483648 := Int.mul_le_mul (by omega) (by omega) hx.1 (by omega)
      have g3 := emod_rng (a := a * x + c j) hm.1
      rw [show (((j + 1 : Nat) : Int) - 1) = (j : Int) by omega]
      have e2 : ((b : Int) + (j : Int)).toNat = b + j := by omega
      simp (disch := omega) only [i0, i1, i2, i3, i4, i5, i6, i7, i8, i12, i16, i20, i30, i39, i40, i60, i64, i97, i100, i256, i1000, i10000, im1, im20, im60, l0, l1, l2, l3, l4, l5, l8, l10000, l1e9, lm10000, jl_add, jl_sub, jl_mul, jl_neg, ji_add, ji_sub, ji_mul, ji_neg, ji_l, jl_i, rL_n, rI_n, dL_n, dI_n, mnI_j, mxI_j, ji_nat, rest_j, part_n, whole_j, times_j, kc_0, kc_gt, kc_lt, kc_le, kc_ge, ji_lt, ji_le, ji_inj, jl_inj, jl_lt, jl_le, b1s, b2s, bEs, bEe, rIs, rIn, rIJ, rJs, rJn, rJI, ifp, ifn, if_true, if_false, i7, e2, e]
      have := IH ((a * x + c j) % m) (by omega) g3.1 g3.2 (by omega)
      rw [show ((j + 1 - 1 : Nat) : Int) - 1 = (j : Int) + -1 by omega, show j + 1 - 1 = j by omega] at this
      rw [this, horner, ev]
theorem valueOf_loop1 {T : St} {b : Nat} {c : Nat → Int} {x m : Int} (hb : b + 7 ≤ 280) (hc : ∀ j : Nat, j < 7 → T.1 11 (b + j) = ji (c j)) (hB : CoB c) (hx : 0 ≤ x ∧ x < 2147483648) (hm : 0 < m ∧ m ≤ 1000000000) : ∀ (N j : Nat) (a : Int), j ≤ 6 → 0 ≤ a → a < m → j < N →
    itr (fun (q : Int32 × Int64 × Int64 × Int32 × Int64 × Int32) k => s_X10_valueOf_7 (fun (x1 : Int32) (x2 : Int64) (x4 : Int64) (x6 : Int32) (x7 : Int64) (x9 : Int32) => k (x1, x2, x4, x6, x7, x9)) T q.1 q.2.1 q.2.2.1 q.2.2.2.1 q.2.2.2.2.1 q.2.2.2.2.2) N (ji b, jl x, jl m, ji 1, jl a, ji j) = some (jl ((a * x ^ j + ev (dv c) x j) % m))
  | 0, _, _, _, _, _, h => absurd h (Nat.not_lt_zero _)
  | N + 1, j, a, hj, ha, ham, hN => by
    rw [itrS]
    have IH := valueOf_loop1 hb hc hB hx hm N (j - 1)
    generalize itr _ N = K at IH
    show s_X10_valueOf_7 _ T (ji b) (jl x) (jl m) (ji 1) (jl a) (ji j) = _
    unfold s_X10_valueOf_7 n_X10_valueOf_19 n_X10_valueOf_58
    cases j with
    | zero =>
      simp (disch := omega) only [i0, i1, i2, i3, i4, i5, i6, i7, i8, i12, i16, i20, i30, i39, i40, i60, i64, i97, i100, i256, i1000, i10000, im1, im20, im60, l0, l1, l2, l3, l4, l5, l8, l10000, l1e9, lm10000, jl_add, jl_sub, jl_mul, jl_neg, ji_add, ji_sub, ji_mul, ji_neg, ji_l, jl_i, rL_n, rI_n, dL_n, dI_n, mnI_j, mxI_j, ji_nat, rest_j, part_n, whole_j, times_j, kc_0, kc_gt, kc_lt, kc_le, kc_ge, ji_lt, ji_le, ji_inj, jl_inj, jl_lt, jl_le, b1s, b2s, bEs, bEe, rIs, rIn, rIJ, rJs, rJn, rJI, ifp, ifn, if_true, if_false]
      rw [Int.pow_zero, Int.mul_one, ev, Int.add_zero, Int.emod_eq_of_lt ha ham]
    | succ j =>
      have e := hc (j + 1) (by omega)
      have bb := hB (j + 1)
      have g1 := Int.mul_nonneg ha hx.1
      have g2 : a * x ≤ 1000000000 * 2147483648 := Int.mul_le_mul (by omega) (by omega) hx.1 (by omega)
      have g4 : dv c j = (((j + 1 : Nat) : Int)) * c (j + 1) := by unfold dv; push_cast; rfl
      have g5 : -70000 ≤ dv c j ∧ dv c j ≤ 70000 := by
        rw [g4]
        have : j = 0 ∨ j = 1 ∨ j = 2 ∨ j = 3 ∨ j = 4 ∨ j = 5 := by omega
        rcases this with rfl | rfl | rfl | rfl | rfl | rfl <;> omega
      have g3 := emod_rng (a := a * x + dv c j) hm.1
      have e2 : ((b : Int) + ((j + 1 : Nat) : Int)).toNat = b + (j + 1) := by omega
      simp (disch := omega) only [i0, i1, i2, i3, i4, i5, i6, i7, i8, i12, i16, i20, i30, i39, i40, i60, i64, i97, i100, i256, i1000, i10000, im1, im20, im60, l0, l1, l2, l3, l4, l5, l8, l10000, l1e9, lm10000, jl_add, jl_sub, jl_mul, jl_neg, ji_add, ji_sub, ji_mul, ji_neg, ji_l, jl_i, rL_n, rI_n, dL_n, dI_n, mnI_j, mxI_j, ji_nat, rest_j, part_n, whole_j, times_j, kc_0, kc_gt, kc_lt, kc_le, kc_ge, ji_lt, ji_le, ji_inj, jl_inj, jl_lt, jl_le, b1s, b2s, bEs, bEe, rIs, rIn, rIJ, rJs, rJn, rJI, ifp, ifn, if_true, if_false, i7, e2, e, ← g4]
      have := IH ((a * x + dv c j) % m) (by omega) g3.1 g3.2 (by omega)
      rw [show ((j + 1 - 1 : Nat) : Int) = ((j + 1 : Nat) : Int) + -1 by omega, show j + 1 - 1 = j by omega] at this
      rw [this, horner, ev]
theorem valueOfM0 {T : St} {b : Nat} {c : Nat → Int} {x m : Int} (hb : b + 7 ≤ 280) (hc : ∀ j : Nat, j < 7 → T.1 11 (b + j) = ji (c j)) (hB : CoB c) (hx : 0 ≤ x ∧ x < 2147483648) (hm : 0 < m ∧ m ≤ 1000000000) : f_X10_valueOf (ji b) (jl x) (jl m) (ji 0) T = some (jl (ev c x 7 % m)) := by
  have := valueOf_loop0 hb hc hB hx hm FU 7 0 (by omega) (by omega) hm.1 (FU_lt (by omega))
  rw [Int.zero_mul, Int.zero_add] at this
  exact this
theorem valueOfM1 {T : St} {b : Nat} {c : Nat → Int} {x m : Int} (hb : b + 7 ≤ 280) (hc : ∀ j : Nat, j < 7 → T.1 11 (b + j) = ji (c j)) (hB : CoB c) (hx : 0 ≤ x ∧ x < 2147483648) (hm : 0 < m ∧ m ≤ 1000000000) : f_X10_valueOf (ji b) (jl x) (jl m) (ji 1) T = some (jl (ev (dv c) x 6 % m)) := by
  have := valueOf_loop1 hb hc hB hx hm FU 6 0 (by omega) (by omega) hm.1 (FU_lt (by omega))
  rw [Int.zero_mul, Int.zero_add] at this
  exact this
theorem valueAt_loop0 {T : St} {b : Nat} {c : Nat → Int} {x m : Int} (hb : b < 8) (hc : ∀ j : Nat, j < 7 → T.1 12 (7 * b + j) = ji (c j)) (hB : CoB c) (hx : 0 ≤ x ∧ x < 2147483648) (hm : 0 < m ∧ m ≤ 1000000000) : ∀ (N j : Nat) (a : Int), j ≤ 7 → 0 ≤ a → a < m → j < N →
    itr (fun (q : Int32 × Int64 × Int64 × Int32 × Int64 × Int32) k => s_X10_valueAt_7 (fun (x1 : Int32) (x2 : Int64) (x4 : Int64) (x6 : Int32) (x7 : Int64) (x9 : Int32) => k (x1, x2, x4, x6, x7, x9)) T q.1 q.2.1 q.2.2.1 q.2.2.2.1 q.2.2.2.2.1 q.2.2.2.2.2) N (ji b, jl x, jl m, ji 0, jl a, ji ((j : Int) - 1)) = some (jl ((a * x ^ j + ev c x j) % m))
  | 0, _, _, _, _, _, h => absurd h (Nat.not_lt_zero _)
  | N + 1, j, a, hj, ha, ham, hN => by
    rw [itrS]
    have IH := valueAt_loop0 hb hc hB hx hm N (j - 1)
    generalize itr _ N = K at IH
    show s_X10_valueAt_7 _ T (ji b) (jl x) (jl m) (ji 0) (jl a) (ji ((j : Int) - 1)) = _
    unfold s_X10_valueAt_7 n_X10_valueAt_19 n_X10_valueAt_64
    cases j with
    | zero =>
      simp (disch := omega) only [i0, i1, i2, i3, i4, i5, i6, i7, i8, i12, i16, i20, i30, i39, i40, i60, i64, i97, i100, i256, i1000, i10000, im1, im20, im60, l0, l1, l2, l3, l4, l5, l8, l10000, l1e9, lm10000, jl_add, jl_sub, jl_mul, jl_neg, ji_add, ji_sub, ji_mul, ji_neg, ji_l, jl_i, rL_n, rI_n, dL_n, dI_n, mnI_j, mxI_j, ji_nat, rest_j, part_n, whole_j, times_j, kc_0, kc_gt, kc_lt, kc_le, kc_ge, ji_lt, ji_le, ji_inj, jl_inj, jl_lt, jl_le, b1s, b2s, bEs, bEe, rIs, rIn, rIJ, rJs, rJn, rJI, ifp, ifn, if_true, if_false]
      rw [Int.pow_zero, Int.mul_one, ev, Int.add_zero, Int.emod_eq_of_lt ha ham]
    | succ j =>
      have e := hc j (by omega)
      have bb := hB j
      have g1 := Int.mul_nonneg ha hx.1
      have g2 : a * x ≤ 1000000000 * 2147483648 := Int.mul_le_mul (by omega) (by omega) hx.1 (by omega)
      have g3 := emod_rng (a := a * x + c j) hm.1
      rw [show (((j + 1 : Nat) : Int) - 1) = (j : Int) by omega]
      have e2 : (7 * (b : Int) + (j : Int)).toNat = 7 * b + j := by omega
      simp (disch := omega) only [i0, i1, i2, i3, i4, i5, i6, i7, i8, i12, i16, i20, i30, i39, i40, i60, i64, i97, i100, i256, i1000, i10000, im1, im20, im60, l0, l1, l2, l3, l4, l5, l8, l10000, l1e9, lm10000, jl_add, jl_sub, jl_mul, jl_neg, ji_add, ji_sub, ji_mul, ji_neg, ji_l, jl_i, rL_n, rI_n, dL_n, dI_n, mnI_j, mxI_j, ji_nat, rest_j, part_n, whole_j, times_j, kc_0, kc_gt, kc_lt, kc_le, kc_ge, ji_lt, ji_le, ji_inj, jl_inj, jl_lt, jl_le, b1s, b2s, bEs, bEe, rIs, rIn, rIJ, rJs, rJn, rJI, ifp, ifn, if_true, if_false, i7, e2, e]
      have := IH ((a * x + c j) % m) (by omega) g3.1 g3.2 (by omega)
      rw [show ((j + 1 - 1 : Nat) : Int) - 1 = (j : Int) + -1 by omega, show j + 1 - 1 = j by omega] at this
      rw [this, horner, ev]
theorem valueAt_loop1 {T : St} {b : Nat} {c : Nat → Int} {x m : Int} (hb : b < 8) (hc : ∀ j : Nat, j < 7 → T.1 12 (7 * b + j) = ji (c j)) (hB : CoB c) (hx : 0 ≤ x ∧ x < 2147483648) (hm : 0 < m ∧ m ≤ 1000000000) : ∀ (N j : Nat) (a : Int), j ≤ 6 → 0 ≤ a → a < m → j < N →
    itr (fun (q : Int32 × Int64 × Int64 × Int32 × Int64 × Int32) k => s_X10_valueAt_7 (fun (x1 : Int32) (x2 : Int64) (x4 : Int64) (x6 : Int32) (x7 : Int64) (x9 : Int32) => k (x1, x2, x4, x6, x7, x9)) T q.1 q.2.1 q.2.2.1 q.2.2.2.1 q.2.2.2.2.1 q.2.2.2.2.2) N (ji b, jl x, jl m, ji 1, jl a, ji j) = some (jl ((a * x ^ j + ev (dv c) x j) % m))
  | 0, _, _, _, _, _, h => absurd h (Nat.not_lt_zero _)
  | N + 1, j, a, hj, ha, ham, hN => by
    rw [itrS]
    have IH := valueAt_loop1 hb hc hB hx hm N (j - 1)
    generalize itr _ N = K at IH
    show s_X10_valueAt_7 _ T (ji b) (jl x) (jl m) (ji 1) (jl a) (ji j) = _
    unfold s_X10_valueAt_7 n_X10_valueAt_19 n_X10_valueAt_64
    cases j with
    | zero =>
      simp (disch := omega) only [i0, i1, i2, i3, i4, i5, i6, i7, i8, i12, i16, i20, i30, i39, i40, i60, i64, i97, i100, i256, i1000, i10000, im1, im20, im60, l0, l1, l2, l3, l4, l5, l8, l10000, l1e9, lm10000, jl_add, jl_sub, jl_mul, jl_neg, ji_add, ji_sub, ji_mul, ji_neg, ji_l, jl_i, rL_n, rI_n, dL_n, dI_n, mnI_j, mxI_j, ji_nat, rest_j, part_n, whole_j, times_j, kc_0, kc_gt, kc_lt, kc_le, kc_ge, ji_lt, ji_le, ji_inj, jl_inj, jl_lt, jl_le, b1s, b2s, bEs, bEe, rIs, rIn, rIJ, rJs, rJn, rJI, ifp, ifn, if_true, if_false]
      rw [Int.pow_zero, Int.mul_one, ev, Int.add_zero, Int.emod_eq_of_lt ha ham]
    | succ j =>
      have e := hc (j + 1) (by omega)
      have bb := hB (j + 1)
      have g1 := Int.mul_nonneg ha hx.1
      have g2 : a * x ≤ 1000000000 * 2147483648 := Int.mul_le_mul (by omega) (by omega) hx.1 (by omega)
      have g4 : dv c j = (((j + 1 : Nat) : Int)) * c (j + 1) := by unfold dv; push_cast; rfl
      have g5 : -70000 ≤ dv c j ∧ dv c j ≤ 70000 := by
        rw [g4]
        have : j = 0 ∨ j = 1 ∨ j = 2 ∨ j = 3 ∨ j = 4 ∨ j = 5 := by omega
        rcases this with rfl | rfl | rfl | rfl | rfl | rfl <;> omega
      have g3 := emod_rng (a := a * x + dv c j) hm.1
      have e2 : (7 * (b : Int) + ((j + 1 : Nat) : Int)).toNat = 7 * b + (j + 1) := by omega
      simp (disch := omega) only [i0, i1, i2, i3, i4, i5, i6, i7, i8, i12, i16, i20, i30, i39, i40, i60, i64, i97, i100, i256, i1000, i10000, im1, im20, im60, l0, l1, l2, l3, l4, l5, l8, l10000, l1e9, lm10000, jl_add, jl_sub, jl_mul, jl_neg, ji_add, ji_sub, ji_mul, ji_neg, ji_l, jl_i, rL_n, rI_n, dL_n, dI_n, mnI_j, mxI_j, ji_nat, rest_j, part_n, whole_j, times_j, kc_0, kc_gt, kc_lt, kc_le, kc_ge, ji_lt, ji_le, ji_inj, jl_inj, jl_lt, jl_le, b1s, b2s, bEs, bEe, rIs, rIn, rIJ, rJs, rJn, rJI, ifp, ifn, if_true, if_false, i7, e2, e, ← g4]
      have := IH ((a * x + dv c j) % m) (by omega) g3.1 g3.2 (by omega)
      rw [show ((j + 1 - 1 : Nat) : Int) = ((j + 1 : Nat) : Int) + -1 by omega, show j + 1 - 1 = j by omega] at this
      rw [this, horner, ev]
theorem valueAtM0 {T : St} {b : Nat} {c : Nat → Int} {x m : Int} (hb : b < 8) (hc : ∀ j : Nat, j < 7 → T.1 12 (7 * b + j) = ji (c j)) (hB : CoB c) (hx : 0 ≤ x ∧ x < 2147483648) (hm : 0 < m ∧ m ≤ 1000000000) : f_X10_valueAt (ji b) (jl x) (jl m) (ji 0) T = some (jl (ev c x 7 % m)) := by
  have := valueAt_loop0 hb hc hB hx hm FU 7 0 (by omega) (by omega) hm.1 (FU_lt (by omega))
  rw [Int.zero_mul, Int.zero_add] at this
  exact this
theorem valueAtM1 {T : St} {b : Nat} {c : Nat → Int} {x m : Int} (hb : b < 8) (hc : ∀ j : Nat, j < 7 → T.1 12 (7 * b + j) = ji (c j)) (hB : CoB c) (hx : 0 ≤ x ∧ x < 2147483648) (hm : 0 < m ∧ m ≤ 1000000000) : f_X10_valueAt (ji b) (jl x) (jl m) (ji 1) T = some (jl (ev (dv c) x 6 % m)) := by
  have := valueAt_loop1 hb hc hB hx hm FU 6 0 (by omega) (by omega) hm.1 (FU_lt (by omega))
  rw [Int.zero_mul, Int.zero_add] at this
  exact this
