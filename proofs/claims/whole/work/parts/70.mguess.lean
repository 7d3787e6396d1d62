/-! greatest common divisors -/
def IsG (g a b : Int) : Prop := 0 ≤ g ∧ g ∣ a ∧ g ∣ b ∧ ∀ d : Int, d ∣ a → d ∣ b → d ∣ g
def CP (a b : Int) : Prop := ∀ d : Int, d ∣ a → d ∣ b → d ∣ 1
theorem isG_un {g h a b : Int} (hg : IsG g a b) (hh : IsG h a b) : g = h := by
  obtain ⟨g1, g2, g3, g4⟩ := hg
  obtain ⟨h1, h2, h3, h4⟩ := hh
  exact Int.dvd_antisymm g1 h1 (h4 g g2 g3) (g4 h h2 h3)
theorem isG_1 {g a b : Int} (hg : IsG g a b) : g = 1 ↔ CP a b := by
  obtain ⟨g1, g2, g3, g4⟩ := hg
  constructor
  · rintro rfl d h1 h2
    exact g4 d h1 h2
  · intro h
    exact Int.dvd_antisymm g1 (by decide) (h g g2 g3) (Int.one_dvd g)
theorem isG_abs {g a b : Int} (h : IsG g a.natAbs b) : IsG g a b := by
  obtain ⟨g1, g2, g3, g4⟩ := h
  exact ⟨g1, Int.dvd_natAbs.mp g2, g3, fun d h1 h2 => g4 d (Int.dvd_natAbs.mpr h1) h2⟩
theorem isG_abs2 {g a b : Int} (h : IsG g a b.natAbs) : IsG g a b := by
  obtain ⟨g1, g2, g3, g4⟩ := h
  exact ⟨g1, g2, Int.dvd_natAbs.mp g3, fun d h1 h2 => g4 d h1 (Int.dvd_natAbs.mpr h2)⟩
theorem isG_step {g x y : Int} (h : IsG g y (x % y)) : IsG g x y := by
  obtain ⟨g1, g2, g3, g4⟩ := h
  have e := Int.emod_add_mul_ediv x y
  refine ⟨g1, ?_, g2, fun d h1 h2 => g4 d h2 ?_⟩
  · rw [← e]
    exact Int.dvd_add g3 (Int.dvd_mul_of_dvd_left g2)
  · have := Int.dvd_sub h1 (Int.dvd_mul_of_dvd_left (c := x / y) h2)
    rwa [show x - y * (x / y) = x % y by omega] at this
theorem gcdC_loop : ∀ (j n : Nat) (x y k : Int), 0 ≤ y → y < x → x ≤ 2000000000 → x * y < 2 ^ j → 0 ≤ k → k + j ≤ 100 → j < n →
    Ok (itr (fun (q : Int64 × Int64 × Int32) k => s_X8_greatestCommon_15 (fun (x4 : Int64) (x6 : Int64) (x8 : Int32) => k (x4, x6, x8)) q.1 q.2.1 q.2.2) n (jl x, jl y, ji k)) (fun v => ∃ g, v = jl g ∧ IsG g x y ∧ g ≤ 2000000000)
  | _, 0, _, _, _, _, _, _, _, _, _, h => absurd h (Nat.not_lt_zero _)
  | j, n + 1, x, y, k, hy, hxy, hx, hj, hk, hkj, hn => by
    rw [itrS]
    have IH := fun j x y k => gcdC_loop j n x y k
    generalize itr _ n = K at IH
    show Ok (s_X8_greatestCommon_15 _ (jl x) (jl y) (ji k)) _
    unfold s_X8_greatestCommon_15
    have fin : y = 0 → Ok (some (jl x)) (fun v => ∃ g, v = jl g ∧ IsG g x y ∧ g ≤ 2000000000) := fun q => by
      subst q
      exact ok_s ⟨x, rfl, ⟨by omega, Int.dvd_refl _, Int.dvd_zero _, fun d h1 _ => h1⟩, hx⟩
    by_cases h0 : y = 0
    · have := fin h0
      subst h0
      by_cases h100 : 100 ≤ k
      · simp (disch := omega) only [i0, i1, i2, i3, i4, i5, i6, i7, i8, i12, i16, i20, i30, i39, i40, i60, i64, i97, i100, i256, i1000, i10000, im1, im20, im60, l0, l1, l2, l3, l4, l5, l8, l10000, l1e9, lm10000, jl_add, jl_sub, jl_mul, jl_neg, ji_add, ji_sub, ji_mul, ji_neg, ji_l, jl_i, rL_n, rI_n, dL_n, dI_n, mnI_j, mxI_j, ji_nat, rest_j, part_n, whole_j, times_j, kc_0, kc_gt, kc_lt, kc_le, kc_ge, ji_lt, ji_le, ji_inj, jl_inj, jl_lt, jl_le, b1s, b2s, bEs, bEe, rIs, rIn, rIJ, rJs, rJn, rJI, ifp, ifn, if_true, if_false]; exact this
      · simp (disch := omega) only [i0, i1, i2, i3, i4, i5, i6, i7, i8, i12, i16, i20, i30, i39, i40, i60, i64, i97, i100, i256, i1000, i10000, im1, im20, im60, l0, l1, l2, l3, l4, l5, l8, l10000, l1e9, lm10000, jl_add, jl_sub, jl_mul, jl_neg, ji_add, ji_sub, ji_mul, ji_neg, ji_l, jl_i, rL_n, rI_n, dL_n, dI_n, mnI_j, mxI_j, ji_nat, rest_j, part_n, whole_j, times_j, kc_0, kc_gt, kc_lt, kc_le, kc_ge, ji_lt, ji_le, ji_inj, jl_inj, jl_lt, jl_le, b1s, b2s, bEs, bEe, rIs, rIn, rIJ, rJs, rJn, rJI, ifp, ifn, if_true, if_false]; exact this
    · cases j with
      | zero =>
        have := Int.mul_pos (show 0 < x by omega) (show 0 < y by omega)
        have h5 : x * y < 1 := hj
        omega
      | succ j =>
        rw [Int.pow_succ] at hj
        have hh := eu_half (show 0 < y by omega) hxy
        have e : x - x / y * y = x % y := by rw [Int.emod_def, Int.mul_comm]
        rw [e] at hh
        have g := emod_rng (a := x) (show 0 < y by omega)
        simp (disch := omega) only [i0, i1, i2, i3, i4, i5, i6, i7, i8, i12, i16, i20, i30, i39, i40, i60, i64, i97, i100, i256, i1000, i10000, im1, im20, im60, l0, l1, l2, l3, l4, l5, l8, l10000, l1e9, lm10000, jl_add, jl_sub, jl_mul, jl_neg, ji_add, ji_sub, ji_mul, ji_neg, ji_l, jl_i, rL_n, rI_n, dL_n, dI_n, mnI_j, mxI_j, ji_nat, rest_j, part_n, whole_j, times_j, kc_0, kc_gt, kc_lt, kc_le, kc_ge, ji_lt, ji_le, ji_inj, jl_inj, jl_lt, jl_le, b1s, b2s, bEs, bEe, rIs, rIn, rIJ, rJs, rJn, rJI, ifp, ifn, if_true, if_false]
        refine ok_m (IH j y (x % y) (k + 1) g.1 g.2 (by omega) (by omega) (by omega) (by omega) (by omega)) ?_
        rintro v ⟨g', rfl, h1, h2⟩
        exact ⟨g', rfl, isG_step h1, h2⟩
theorem gcdC {a b : Int} (ha : -1000000000 ≤ a ∧ a ≤ 1000000000) (hb : 1 ≤ b ∧ b ≤ 1000000000) : ∃ g : Int, f_X8_greatestCommon (jl a) (jl b) = some (jl g) ∧ IsG g a b ∧ g ≤ 2000000000 := by
  have key : Ok (f_X8_greatestCommon (jl a) (jl b)) (fun v => ∃ g, v = jl g ∧ IsG g a b ∧ g ≤ 2000000000) := by
    unfold f_X8_greatestCommon n_X8_greatestCommon_15
    rw [abL_j (by omega), abL_j (by omega), show (b.natAbs : Int) = b by omega, show FU = (FU - 1) + 1 from rfl, itrS]
    show Ok (s_X8_greatestCommon_15 _ (jl (a.natAbs : Int)) (jl b) (ji 0)) _
    have g := emod_rng (a := (a.natAbs : Int)) (show 0 < b by omega)
    have h60 : b * ((a.natAbs : Int) % b) < 2 ^ 60 := by
      have h3 : b * ((a.natAbs : Int) % b) ≤ 1000000000 * 1000000000 := Int.mul_le_mul (by omega) (by omega) g.1 (by omega)
      have h4 : (2 : Int) ^ 60 = 1152921504606846976 := by decide
      omega
    have L := gcdC_loop 60 (FU - 1) b ((a.natAbs : Int) % b) 1 g.1 g.2 (by omega) h60 (by omega) (by omega) (by show 60 < 1099511627775; omega)
    generalize itr _ (FU - 1) = K at L
    unfold s_X8_greatestCommon_15
    simp (disch := omega) only [i0, i1, i2, i3, i4, i5, i6, i7, i8, i12, i16, i20, i30, i39, i40, i60, i64, i97, i100, i256, i1000, i10000, im1, im20, im60, l0, l1, l2, l3, l4, l5, l8, l10000, l1e9, lm10000, jl_add, jl_sub, jl_mul, jl_neg, ji_add, ji_sub, ji_mul, ji_neg, ji_l, jl_i, rL_n, rI_n, dL_n, dI_n, mnI_j, mxI_j, ji_nat, rest_j, part_n, whole_j, times_j, kc_0, kc_gt, kc_lt, kc_le, kc_ge, ji_lt, ji_le, ji_inj, jl_inj, jl_lt, jl_le, b1s, b2s, bEs, bEe, rIs, rIn, rIJ, rJs, rJn, rJI, ifp, ifn, if_true, if_false]
    refine ok_m L ?_
    rintro v ⟨g', rfl, h1, h2⟩
    exact ⟨g', rfl, isG_abs (isG_step h1), h2⟩
  obtain ⟨v, e, g, rfl, h1, h2⟩ := key
  exact ⟨g, e, h1, h2⟩
theorem comM_loop : ∀ (n : Nat) (x y : Int), 0 ≤ x → x ≤ 2000000000 → 0 ≤ y → y ≤ 2000000000 → y.toNat < n →
    Ok (itr (fun (q : Int64 × Int64) k => s_X10_common_17 (fun (x4 : Int64) (x6 : Int64) => k (x4, x6)) q.1 q.2) n (jl x, jl y)) (fun v => ∃ g, v = jl g ∧ IsG g x y ∧ g ≤ 2000000000)
  | 0, _, _, _, _, _, _, h => absurd h (Nat.not_lt_zero _)
  | n + 1, x, y, hx, hx2, hy, hy2, hn => by
    rw [itrS]
    have IH := comM_loop n
    generalize itr _ n = K at IH
    show Ok (s_X10_common_17 _ (jl x) (jl y)) _
    unfold s_X10_common_17
    by_cases h0 : y = 0
    · subst h0
      simp (disch := omega) only [i0, i1, i2, i3, i4, i5, i6, i7, i8, i12, i16, i20, i30, i39, i40, i60, i64, i97, i100, i256, i1000, i10000, im1, im20, im60, l0, l1, l2, l3, l4, l5, l8, l10000, l1e9, lm10000, jl_add, jl_sub, jl_mul, jl_neg, ji_add, ji_sub, ji_mul, ji_neg, ji_l, jl_i, rL_n, rI_n, dL_n, dI_n, mnI_j, mxI_j, ji_nat, rest_j, part_n, whole_j, times_j, kc_0, kc_gt, kc_lt, kc_le, kc_ge, ji_lt, ji_le, ji_inj, jl_inj, jl_lt, jl_le, b1s, b2s, bEs, bEe, rIs, rIn, rIJ, rJs, rJn, rJI, ifp, ifn, if_true, if_false]
      exact ok_s ⟨x, rfl, ⟨hx, Int.dvd_refl _, Int.dvd_zero _, fun d h1 _ => h1⟩, hx2⟩
    · have g := emod_rng (a := x) (show 0 < y by omega)
      simp (disch := omega) only [i0, i1, i2, i3, i4, i5, i6, i7, i8, i12, i16, i20, i30, i39, i40, i60, i64, i97, i100, i256, i1000, i10000, im1, im20, im60, l0, l1, l2, l3, l4, l5, l8, l10000, l1e9, lm10000, jl_add, jl_sub, jl_mul, jl_neg, ji_add, ji_sub, ji_mul, ji_neg, ji_l, jl_i, rL_n, rI_n, dL_n, dI_n, mnI_j, mxI_j, ji_nat, rest_j, part_n, whole_j, times_j, kc_0, kc_gt, kc_lt, kc_le, kc_ge, ji_lt, ji_le, ji_inj, jl_inj, jl_lt, jl_le, b1s, b2s, bEs, bEe, rIs, rIn, rIJ, rJs, rJn, rJI, ifp, ifn, if_true, if_false]
      refine ok_m (IH y (x % y) (by omega) (by omega) g.1 (by omega) (by omega)) ?_
      rintro v ⟨g', rfl, h1, h2⟩
      exact ⟨g', rfl, isG_step h1, h2⟩
theorem comM {a b : Int} (ha : -1000000000 ≤ a ∧ a ≤ 1000000000) (hb : 0 ≤ b ∧ b ≤ 1000000000) : ∃ g : Int, f_X10_common (jl a) (jl b) = some (jl g) ∧ IsG g a b ∧ g ≤ 2000000000 := by
  have L := comM_loop FU (a.natAbs : Int) b (by omega) (by omega) hb.1 (by omega) (FU_lt (by omega))
  have key : Ok (f_X10_common (jl a) (jl b)) (fun v => ∃ g, v = jl g ∧ IsG g a b ∧ g ≤ 2000000000) := by
    have L2 : Ok (n_X10_common_17 (jl (a.natAbs : Int)) (jl b)) (fun v => ∃ g, v = jl g ∧ IsG g a b ∧ g ≤ 2000000000) := by
      refine ok_m L ?_
      rintro v ⟨g', rfl, h1, h2⟩
      exact ⟨g', rfl, isG_abs h1, h2⟩
    unfold f_X10_common
    by_cases h0 : 0 ≤ a
    · rw [show (a.natAbs : Int) = a by omega] at L2
      simp (disch := omega) only [i0, i1, i2, i3, i4, i5, i6, i7, i8, i12, i16, i20, i30, i39, i40, i60, i64, i97, i100, i256, i1000, i10000, im1, im20, im60, l0, l1, l2, l3, l4, l5, l8, l10000, l1e9, lm10000, jl_add, jl_sub, jl_mul, jl_neg, ji_add, ji_sub, ji_mul, ji_neg, ji_l, jl_i, rL_n, rI_n, dL_n, dI_n, mnI_j, mxI_j, ji_nat, rest_j, part_n, whole_j, times_j, kc_0, kc_gt, kc_lt, kc_le, kc_ge, ji_lt, ji_le, ji_inj, jl_inj, jl_lt, jl_le, b1s, b2s, bEs, bEe, rIs, rIn, rIJ, rJs, rJn, rJI, ifp, ifn, if_true, if_false]
      exact L2
    · rw [show (a.natAbs : Int) = -a by omega] at L2
      simp (disch := omega) only [i0, i1, i2, i3, i4, i5, i6, i7, i8, i12, i16, i20, i30, i39, i40, i60, i64, i97, i100, i256, i1000, i10000, im1, im20, im60, l0, l1, l2, l3, l4, l5, l8, l10000, l1e9, lm10000, jl_add, jl_sub, jl_mul, jl_neg, ji_add, ji_sub, ji_mul, ji_neg, ji_l, jl_i, rL_n, rI_n, dL_n, dI_n, mnI_j, mxI_j, ji_nat, rest_j, part_n, whole_j, times_j, kc_0, kc_gt, kc_lt, kc_le, kc_ge, ji_lt, ji_le, ji_inj, jl_inj, jl_lt, jl_le, b1s, b2s, bEs, bEe, rIs, rIn, rIJ, rJs, rJn, rJI, ifp, ifn, if_true, if_false]
      exact L2
  obtain ⟨v, e, g, rfl, h1, h2⟩ := key
  exact ⟨g, e, h1, h2⟩
/-! fractions guessed back -/
def ce (m x b : Int) : Int := if 2 * (b * x % m) ≤ m then b * x % m else b * x % m - m
def Good (p m x b : Int) : Prop := 1 ≤ b ∧ 2 * b * b < m ∧ ¬ p ∣ b ∧ 2 * ce m x b * ce m x b < m ∧ CP (ce m x b) b
theorem ce_rng {m x b : Int} (hm : 0 < m) : -m < 2 * ce m x b ∧ 2 * ce m x b ≤ m := by
  have g := emod_rng (a := b * x) hm
  unfold ce
  split <;> omega
theorem ce_dvd {m x b : Int} : m ∣ ce m x b - b * x := by
  have h := mod_dvd (b * x) m
  unfold ce
  split
  · exact h
  · have := Int.dvd_sub h (Int.dvd_refl m)
    rwa [show b * x % m - b * x - m = b * x % m - m - b * x by omega] at this
theorem ce_un {m x b a : Int} (hm : 0 < m) (h1 : -m < 2 * a) (h2 : 2 * a ≤ m) (h3 : m ∣ a - b * x) : a = ce m x b := by
  have g := ce_rng (x := x) (b := b) hm
  have h4 := Int.dvd_sub h3 (ce_dvd (m := m) (x := x) (b := b))
  rw [show a - b * x - (ce m x b - b * x) = a - ce m x b by omega] at h4
  obtain ⟨c, hc⟩ := h4
  by_cases c0 : c = 0
  · rw [c0, Int.mul_zero] at hc
    omega
  · exfalso
    rcases Int.lt_or_le c 0 with q | q
    · have : m * c ≤ m * (-1) := Int.mul_le_mul_of_nonneg_left (by omega) (by omega)
      omega
    · have : m * 1 ≤ m * c := Int.mul_le_mul_of_nonneg_left (by omega) (by omega)
      omega
theorem prod_small {m a b : Int} (ha : 0 ≤ a) (hb : 0 ≤ b) (h1 : 2 * a * a < m) (h2 : 2 * b * b < m) : 2 * (a * b) < m := by
  rcases Int.le_total a b with h | h
  · have := Int.mul_le_mul_of_nonneg_right h hb
    rw [Int.mul_assoc] at h2
    omega
  · have := Int.mul_le_mul_of_nonneg_left h ha
    rw [Int.mul_assoc] at h1
    omega
theorem sq_le {a b : Int} (h : 2 * a * a < 2 * b * b) (hb : 0 ≤ b) : a < b := by
  rcases Int.lt_or_le a b with q | q
  · exact q
  · have := Int.mul_le_mul q q hb (by omega)
    rw [Int.mul_assoc, Int.mul_assoc] at h
    omega
/-- the first rest that is small enough belongs to the fraction, if there is one -/
theorem guess_un {p m x r₀ r₁ t₀ t₁ b : Int} (hm : 0 < m) (hE : Eu m x r₀ r₁ t₀ t₁) (h0 : m ≤ 2 * r₀ * r₀) (h1 : 2 * r₁ * r₁ < m) (hg : Good p m x b) : b = t₁.natAbs ∧ (ce m x b = r₁ ∨ ce m x b = -r₁) := by
  obtain ⟨g1, g2, g3, g4, g5⟩ := hg
  have hd := ce_dvd (m := m) (x := x) (b := b)
  generalize ce m x b = a at *
  obtain ⟨e1, e2, ⟨s, A, B, hs, et0, et1, hA, hAB, hB, hm2⟩, ed0, ed1, -⟩ := hE
  have hr0 : 0 ≤ r₀ := by omega
  -- the two coordinates
  obtain ⟨c, hc⟩ := hd
  obtain ⟨c0, hc0⟩ := ed0
  obtain ⟨c1, hc1⟩ := ed1
  have hss : s * s = 1 := by rcases hs with rfl | rfl <;> rfl
  obtain ⟨u, hu⟩ : ∃ u : Int, m * u = a * B - s * b * r₁ := by
    refine ⟨c * B - s * b * c1, ?_⟩
    have ha : a = b * x + m * c := by omega
    have hr : r₁ = t₁ * x + m * c1 := by omega
    have e3 : s * b * (t₁ * x) = b * B * x := by
      rw [et1, show ∀ s b B x : Int, s * b * (s * B * x) = b * B * x * (s * s) by intros; grind, hss, Int.mul_one]
    rw [hr, Int.mul_add (s * b), e3, ha]
    exact (show ∀ m s b c1 c B x : Int, m * (c * B - s * b * c1) = (b * x + m * c) * B - (b * B * x + s * b * (m * c1)) by intros; grind) m s b c1 c B x
  obtain ⟨w, hw⟩ : ∃ w : Int, m * w = s * b * r₀ + a * A := by
    refine ⟨s * b * c0 + c * A, ?_⟩
    have ha : a = b * x + m * c := by omega
    have hr : r₀ = t₀ * x + m * c0 := by omega
    have e3 : s * b * (t₀ * x) = -(b * A * x) := by
      rw [et0, show ∀ s b A x : Int, s * b * (-s * A * x) = -(b * A * x * (s * s)) by intros; grind, hss, Int.mul_one]
    rw [hr, Int.mul_add (s * b), e3, ha]
    exact (show ∀ m s b c0 c A x : Int, m * (s * b * c0 + c * A) = -(b * A * x) + s * b * (m * c0) + (b * x + m * c) * A by intros; grind) m s b c0 c A x
  have hm0 : m ≠ 0 := by omega
  have ea : a = u * r₀ + w * r₁ := by
    apply Int.eq_of_mul_eq_mul_left hm0
    have : m * (u * r₀ + w * r₁) = (m * u) * r₀ + (m * w) * r₁ := by grind
    rw [this, hu, hw, ← hm2]
    grind
  have eb : s * b = w * B - u * A := by
    apply Int.eq_of_mul_eq_mul_left hm0
    have : m * (w * B - u * A) = (m * w) * B - (m * u) * A := by grind
    rw [this, hu, hw, ← hm2]
    grind
  have har : -r₀ < a ∧ a < r₀ := by
    constructor
    · have := sq_le (a := -a) (b := r₀) (by rw [show 2 * -a * -a = 2 * a * a by grind]; omega) hr0
      omega
    · exact sq_le (by omega) hr0
  have hbr := prod_small (a := b) (b := r₁) (by omega) e1 g2 h1
  have uz : u = 0 := by
    rcases Int.lt_trichotomy u 0 with hu0 | hu0 | hu0
    · exfalso
      have k1 : u * r₀ ≤ -1 * r₀ := Int.mul_le_mul_of_nonneg_right (by omega) hr0
      rcases Int.lt_or_le 0 w with hw0 | hw0
      · -- b is at least B
        have k2 : 1 * B ≤ w * B := Int.mul_le_mul_of_nonneg_right (by omega) (by omega)
        have k3 : u * A ≤ 0 * A := Int.mul_le_mul_of_nonneg_right (by omega) hA
        have hsb : s * b = b := by
          rcases hs with rfl | rfl
          · omega
          · omega
        rw [hsb] at eb hu
        have k4 : m * u ≤ m * (-1) := Int.mul_le_mul_of_nonneg_left (by omega) (by omega)
        have k5 : 2 * (-a * B) > m := by rw [Int.neg_mul]; omega
        have k6 : 0 < -a := by
          rcases Int.lt_or_le 0 (-a) with q | q
          · exact q
          · have := Int.mul_nonpos_of_nonpos_of_nonneg q (show 0 ≤ B by omega)
            omega
        have k7 : -a * B ≤ -a * b := Int.mul_le_mul_of_nonneg_left (by omega) (by omega)
        have k8 := prod_small (a := -a) (b := b) (by omega) (by omega) (by rw [show 2 * -a * -a = 2 * a * a by grind]; exact g4) g2
        omega
      · have k2 : w * r₁ ≤ 0 := Int.mul_nonpos_of_nonpos_of_nonneg hw0 e1
        omega
    · exact hu0
    · exfalso
      have k1 : 1 * r₀ ≤ u * r₀ := Int.mul_le_mul_of_nonneg_right (by omega) hr0
      rcases Int.lt_or_le w 0 with hw0 | hw0
      · have k2 : w * B ≤ -1 * B := Int.mul_le_mul_of_nonneg_right (by omega) (by omega)
        have k3 : 0 * A ≤ u * A := Int.mul_le_mul_of_nonneg_right (by omega) hA
        have hsb : s * b = -b := by
          rcases hs with rfl | rfl
          · omega
          · omega
        rw [hsb] at eb hu
        have k4 : m * 1 ≤ m * u := Int.mul_le_mul_of_nonneg_left (by omega) (by omega)
        rw [Int.neg_mul] at hu
        have k5 : 2 * (a * B) > m := by omega
        have k6 : 0 < a := by
          rcases Int.lt_or_le 0 a with q | q
          · exact q
          · have := Int.mul_nonpos_of_nonpos_of_nonneg q (show 0 ≤ B by omega)
            omega
        have k7 : a * B ≤ a * b := Int.mul_le_mul_of_nonneg_left (by omega) (by omega)
        have k8 := prod_small (a := a) (b := b) (by omega) (by omega) g4 g2
        omega
      · have k2 : 0 ≤ w * r₁ := Int.mul_nonneg hw0 e1
        omega
  subst uz
  rw [Int.zero_mul, Int.zero_add] at ea
  rw [Int.zero_mul, Int.sub_zero] at eb
  have w1 : w ∣ 1 := g5 w ⟨r₁, ea⟩ ⟨s * B, by
    have : b = s * (s * b) := by rw [← Int.mul_assoc, hss, Int.one_mul]
    rw [this, eb]; grind⟩
  have hw2 : w = 1 ∨ w = -1 := by
    have h5 : w.natAbs ∣ 1 := Int.natAbs_dvd_natAbs.mpr w1
    have h6 : w.natAbs = 1 := Nat.dvd_one.mp h5
    omega
  constructor
  · rw [et1]
    rcases hs with rfl | rfl <;> rcases hw2 with rfl | rfl <;> omega
  · rcases hw2 with rfl | rfl
    · left; omega
    · right; omega
