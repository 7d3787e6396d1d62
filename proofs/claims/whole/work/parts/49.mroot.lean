/-! square roots -/
def sqN (p u : Nat) : Nat → Nat → Nat
  | 0, _ => 0
  | n + 1, d => if p ≤ d then 0 else if d * d % p = u then d else sqN p u n (d + 1)
/-- the least digit of a square root; 0 if there is none -/
def sqd (p u : Int) : Nat := sqN p.toNat (u % p).toNat 100 1
theorem sqN_spec {p u : Nat} : ∀ (n d : Nat), 1 ≤ d → sqN p u n d ≠ 0 → 1 ≤ sqN p u n d ∧ sqN p u n d < p ∧ sqN p u n d * sqN p u n d % p = u
  | 0, d, _, h => absurd rfl h
  | n + 1, d, hd, h => by
    unfold sqN at h ⊢
    by_cases h1 : p ≤ d
    · rw [if_pos h1] at h; exact absurd rfl h
    · rw [if_neg h1] at h ⊢
      by_cases h2 : d * d % p = u
      · rw [if_pos h2]; exact ⟨hd, by omega, h2⟩
      · rw [if_neg h2] at h ⊢
        exact sqN_spec n (d + 1) (by omega) h
theorem sq_euler : ∀ n ∈ P25, n ≠ 2 → ∀ a, a < n → 0 < a → (sqN n a 100 1 ≠ 0 ↔ a ^ ((n - 1) / 2) % n = 1) := by decide +kernel
theorem sqd_spec {p u : Int} (hp : 2 ≤ p) (h : sqd p u ≠ 0) : 1 ≤ (sqd p u : Int) ∧ (sqd p u : Int) < p ∧ p ∣ (sqd p u : Int) * sqd p u - u := by
  obtain ⟨h1, h2, h3⟩ := sqN_spec _ _ (Nat.le_refl 1) h
  unfold sqd
  generalize sqN p.toNat (u % p).toNat 100 1 = d at *
  refine ⟨by omega, by omega, ?_⟩
  have e := emod_rng (a := u) (show 0 < p by omega)
  have h4 : ((d * d % p.toNat : Nat) : Int) = ((u % p).toNat : Int) := by rw [h3]
  rw [Int.natCast_emod, show ((p.toNat : Nat) : Int) = p by omega, show (((u % p).toNat : Nat) : Int) = u % p by omega] at h4
  apply Int.dvd_of_emod_eq_zero
  exact Int.emod_eq_emod_iff_emod_sub_eq_zero.mp (by exact_mod_cast h4)
theorem sqd_congr {p u w : Int} (h : p ∣ u - w) : sqd p u = sqd p w := by
  unfold sqd
  rw [Int.emod_eq_emod_iff_emod_sub_eq_zero.mpr (Int.emod_eq_zero_of_dvd h)]
theorem sqd_euler {p u : Int} (h : Pr p) (h2 : p ≠ 2) (hu : ¬ p ∣ u) : sqd p u ≠ 0 ↔ u ^ ((p - 1) / 2).toNat % p = 1 := by
  obtain ⟨n, rfl, hn⟩ := h
  have h1 := p25_rng n hn
  obtain ⟨b, hb, hlt⟩ := nat_res (a := u) (show (0 : Int) < n by omega)
  have hb0 : b ≠ 0 := fun q => hu (Int.dvd_of_emod_eq_zero (by rw [hb, q]; rfl))
  have := sq_euler n hn (by omega) b (by omega) (by omega)
  unfold sqd
  rw [pow_mod, hb, show ((b : Int)).toNat = b by omega, show ((n : Int)).toNat = n by omega, this, show (((n : Int) - 1) / 2).toNat = (n - 1) / 2 by omega]
  constructor
  · intro q; exact_mod_cast q
  · intro q; exact_mod_cast q
theorem rootDigitC_loop {S : St} {p : Int} {r : Nat} (h : NrC S p r) (hp : 2 ≤ p ∧ p ≤ 97) {u : Int} (hu : 0 ≤ u ∧ u < p) : ∀ (n d N : Nat), 1 ≤ d → (d : Int) ≤ p → n + d = 101 → n < N →
    itr (fun (q : Int64 × Int32) k => s_X5_rootDigit_2 (fun (x1 : Int64) (x3 : Int32) => k (x1, x3)) S q.1 q.2) N (jl u, ji d) = some (ji (sqN p.toNat u.toNat n d : Nat))
  | n, d, 0, _, _, _, hN => absurd hN (Nat.not_lt_zero _)
  | 0, d, N + 1, hd, hdp, hn, hN => by omega
  | n + 1, d, N + 1, hd, hdp, hn, hN => by
    rw [itrS]
    have IH := rootDigitC_loop h hp hu n (d + 1) N
    generalize itr _ N = K at IH
    show s_X5_rootDigit_2 _ S (jl u) (ji d) = _
    unfold s_X5_rootDigit_2 sqN
    rw [h.1]
    have h5 := sq_rng (a := (d : Int)) (b := d) (m := 98) (by omega) (by omega) (by omega)
    have h6 := emod_rng (a := (d : Int) * d) (show 0 < p by omega)
    simp (disch := omega) only [i0, i1, i2, i3, i4, i5, i6, i7, i8, i12, i16, i20, i30, i39, i40, i60, i64, i97, i100, i256, i1000, i10000, im1, im20, im60, l0, l1, l2, l3, l4, l5, l8, l10000, l1e9, lm10000, jl_add, jl_sub, jl_mul, jl_neg, ji_add, ji_sub, ji_mul, ji_neg, ji_l, jl_i, rL_n, rI_n, dL_n, dI_n, mnI_j, mxI_j, ji_nat, rest_j, part_n, whole_j, times_j, kc_0, kc_gt, kc_lt, kc_le, kc_ge, ji_lt, ji_le, ji_inj, jl_inj, jl_lt, jl_le, b1s, b2s, bEs, bEe, rIs, rIn, rIJ, rJs, rJn, rJI, ifp, ifn, if_true, if_false]
    by_cases h1 : p ≤ d
    · rw [if_pos h1, if_pos (show p.toNat ≤ d by omega)]
      rfl
    · rw [if_neg h1, if_neg (show ¬ p.toNat ≤ d by omega)]
      have e : ((d * d % p.toNat : Nat) : Int) = (d : Int) * d % p := by rw [Int.natCast_emod, show ((p.toNat : Nat) : Int) = p by omega, Int.natCast_mul]
      by_cases h2 : (d : Int) * d % p = u
      · rw [if_pos h2, if_pos (by omega)]
      · rw [if_neg h2, if_neg (by omega)]
        exact IH (by omega) (by omega) (by omega) (by omega)
theorem rootDigitC {S : St} {p : Int} {r : Nat} (h : NrC S p r) (hp : 2 ≤ p ∧ p ≤ 97) {u : Int} : f_X5_rootDigit (jl (u % p)) S = some (ji (sqd p u : Nat)) :=
  rootDigitC_loop h hp (emod_rng (by omega)) 100 1 FU (by omega) (by omega) (by omega) (FU_lt (by omega))
/-- a root of u modulo p to the power of s, p odd, with the least lowest digit -/
def RtO (p : Int) (s : Nat) (u R : Int) : Prop := 0 ≤ R ∧ R < p ^ s ∧ p ^ s ∣ R * R - u ∧ p ∣ R - sqd p u
/-- a root of u modulo 2 to the power of s -/
def RtT (s : Nat) (u R : Int) : Prop := 0 ≤ R ∧ R < 2 ^ (s - 1) ∧ (2 : Int) ^ s ∣ R * R - u ∧ (4 : Int) ∣ R - 1
theorem Pr.two {p : Int} (h : Pr p) (h2 : p ≠ 2) : ¬ p ∣ 2 := fun q => by
  have := h.rng
  have := Int.le_of_dvd (by decide) q
  omega
/-- two roots, perhaps of more or fewer digits, agree as far as their squares do -/
theorem rtO_un {p : Int} {s : Nat} {R Q d : Int} (h : Pr p) (h2 : p ≠ 2) (hd : ¬ p ∣ d) (hR : p ∣ R - d) (hQ : p ∣ Q - d) (hs : p ^ s ∣ R * R - Q * Q) : p ^ s ∣ R - Q := by
  have h3 : ¬ p ∣ R + Q := fun q => by
    have h4 := Int.dvd_sub q (Int.dvd_add hR hQ)
    rw [show R + Q - (R - d + (Q - d)) = 2 * d by omega] at h4
    exact (h.mul (h.two h2) hd) h4
  apply h.euclidN h3
  rwa [show (R + Q) * (R - Q) = R * R - Q * Q by grind]
theorem rtT_un {s : Nat} {R Q : Int} (hs0 : 1 ≤ s) (hR : (4 : Int) ∣ R - 1) (hQ : (4 : Int) ∣ Q - 1) (hs : (2 : Int) ^ s ∣ R * R - Q * Q) : (2 : Int) ^ (s - 1) ∣ R - Q := by
  have hP : Pr 2 := ⟨2, rfl, by decide⟩
  obtain ⟨a, ha⟩ := hR
  obtain ⟨b, hb⟩ := hQ
  have h3 : ¬ (2 : Int) ∣ 2 * a + 2 * b + 1 := by omega
  apply hP.euclidN h3
  rw [show s = (s - 1) + 1 by omega, Int.pow_succ, show R * R - Q * Q = (2 * a + 2 * b + 1) * (R - Q) * 2 by rw [show R = 4 * a + 1 by omega, show Q = 4 * b + 1 by omega]; grind] at hs
  exact Int.dvd_of_mul_dvd_mul_right (by decide) hs
/-- a step of Newton's -/
theorem newton {p : Int} {s k : Nat} {u R i hf R' d : Int} (h : Pr p) (h2 : p ≠ 2) (hd : ¬ p ∣ d) (hs : 1 ≤ s) (hk : 1 ≤ k) (hRd : p ∣ R - d) (hR : p ^ (min k s) ∣ R * R - u) (hi : p ^ s ∣ R * i - 1) (hh : p ^ s ∣ 2 * hf - 1) (hR' : p ^ s ∣ R' - (R + u * i) * hf) : p ∣ R' - d ∧ p ^ (min (2 * k) s) ∣ R' * R' - u := by
  have hR0 : ¬ p ∣ R := fun q => by
    have := Int.dvd_sub q hRd
    rw [Int.sub_sub_self] at this
    exact hd this
  have e1 : p ^ s ∣ 2 * R * R' - (R * R + u) := by
    obtain ⟨a, ha⟩ := hi
    obtain ⟨b, hb⟩ := hh
    obtain ⟨c, hc⟩ := hR'
    refine ⟨2 * R * c + (R + u * i) * R * b + u * a, ?_⟩
    generalize p ^ s = m at *
    grind
  constructor
  · have f1 : p ∣ 2 * R * R' - (R * R + u) := Int.dvd_trans (pw_dvd1 p hs) e1
    have f2 : p ∣ R * R - u := Int.dvd_trans (pw_dvd1 p (show 1 ≤ min k s by omega)) hR
    have f3 := Int.dvd_sub f1 f2
    rw [show 2 * R * R' - (R * R + u) - (R * R - u) = 2 * R * (R' - R) by grind] at f3
    have f4 := Int.dvd_add (h.euclid (h.mul (h.two h2) hR0) f3) hRd
    rwa [show R' - R + (R - d) = R' - d by omega] at f4
  · have f1 := Int.dvd_trans (pw_dvd p (show min (2 * k) s ≤ s by omega)) e1
    have f2 : p ^ (min (2 * k) s) ∣ (R * R - u) * (R * R - u) := by
      refine Int.dvd_trans (pw_dvd p (show min (2 * k) s ≤ min k s + min k s by omega)) ?_
      rw [pw_add]
      exact Int.mul_dvd_mul hR hR
    have hm : ¬ p ∣ 4 * (R * R) := by
      have := h.mul (h.mul (h.two h2) (h.two h2)) (h.mul hR0 hR0)
      exact this
    apply h.euclidN hm
    obtain ⟨a, ha⟩ := f1
    obtain ⟨b, hb⟩ := f2
    refine ⟨b + a * (2 * R * R' + (R * R + u)), ?_⟩
    generalize p ^ (min (2 * k) s) = m at *
    grind
theorem sqrtC_loop {S : St} {p : Int} {r o k2 s : Nat} {u d hf base : Int} (h : NrC S p r) (hP : Pr p) (h2 : p ≠ 2) (hr : Rch p r) (hd : ¬ p ∣ d) (hs : 1 ≤ s ∧ s ≤ r) (hb : -60 ≤ base ∧ base ≤ 60) (hu : S.2 (12 + k2) 10 = jl u) (hu2 : 0 ≤ u ∧ u < 1000000000) (hh : 0 ≤ hf ∧ hf < p ^ s) (hh2 : p ^ s ∣ 2 * hf - 1) :
    ∀ (N j k : Nat) (R : Int), 0 ≤ R → R < p ^ s → p ∣ R - d → 1 ≤ k → p ^ (min k s) ∣ R * R - u → s ≤ k * 2 ^ (6 - j) → j ≤ 6 → 6 - j < N →
    Ok (itr (fun (q : Nat × Nat × Int32 × Int32 × Int64 × Int64 × Int64 × Int32 × St) k => s_X5_findSquareRoot_98 (fun (x1 : Nat) (x2 : Nat) (x3 : Int32) (x4 : Int32) (x5 : Int64) (x7 : Int64) (x9 : Int64) (x11 : Int32) (S : St) => k (x1, x2, x3, x4, x5, x7, x9, x11, S)) q.1 q.2.1 q.2.2.1 q.2.2.2.1 q.2.2.2.2.1 q.2.2.2.2.2.1 q.2.2.2.2.2.2.1 q.2.2.2.2.2.2.2.1 q.2.2.2.2.2.2.2.2) N (o, k2, ji base, ji s, jl (p ^ s), jl hf, jl R, ji j, S))
      (fun S' => ∃ R, 0 ≤ R ∧ R < p ^ s ∧ p ∣ R - d ∧ p ^ s ∣ R * R - u ∧ S' = setC S o (lay p r base (base + s) R))
  | 0, _, _, _, _, _, _, _, _, _, _, hN => absurd hN (Nat.not_lt_zero _)
  | N + 1, j, k, R, hR1, hR2, hRd, hk, hR3, hsk, hj, hN => by
    rw [itrS]
    have IH := sqrtC_loop (base := base) (o := o) h hP h2 hr hd hs hb hu hu2 hh hh2 N
    generalize itr _ N = K at IH
    show Ok (s_X5_findSquareRoot_98 _ o k2 (ji base) (ji s) (jl (p ^ s)) (jl hf) (jl R) (ji j) S) _
    have hrr := hr.2.2.2.2
    have hm1 := pw_pos hr.1 s
    have hm2 := hr.le hs.2
    unfold s_X5_findSquareRoot_98
    rw [hu]
    by_cases hc : j = 6
    · subst hc
      simp (disch := omega) only [i0, i1, i2, i3, i4, i5, i6, i7, i8, i12, i16, i20, i30, i39, i40, i60, i64, i97, i100, i256, i1000, i10000, im1, im20, im60, l0, l1, l2, l3, l4, l5, l8, l10000, l1e9, lm10000, jl_add, jl_sub, jl_mul, jl_neg, ji_add, ji_sub, ji_mul, ji_neg, ji_l, jl_i, rL_n, rI_n, dL_n, dI_n, mnI_j, mxI_j, ji_nat, rest_j, part_n, whole_j, times_j, kc_0, kc_gt, kc_lt, kc_le, kc_ge, ji_lt, ji_le, ji_inj, jl_inj, jl_lt, jl_le, b1s, b2s, bEs, bEe, rIs, rIn, rIJ, rJs, rJn, rJI, ifp, ifn, if_true, if_false]
      rw [settleC h hr (by omega) (by omega) (by omega), b1s]
      refine ok_s ⟨R, hR1, hR2, hRd, ?_, rfl⟩
      rwa [show min k s = s by simp at hsk; omega] at hR3
    · have hR0 : ¬ p ∣ R := fun q => by
        have := Int.dvd_sub q hRd
        rw [Int.sub_sub_self] at this
        exact hd this
      have g1 := iv_rng (a := R) hr.1 s
      have g2 := iv_mul hP hR0 s
      have g3 := emod_rng (a := u * iv p s R) hm1
      have g4 := emod_rng (a := (R + u * iv p s R % p ^ s) * hf) hm1
      rw [inv_p hP hR0 (by omega) (by omega), b1s]
      simp (disch := omega) only [i0, i1, i2, i3, i4, i5, i6, i7, i8, i12, i16, i20, i30, i39, i40, i60, i64, i97, i100, i256, i1000, i10000, im1, im20, im60, l0, l1, l2, l3, l4, l5, l8, l10000, l1e9, lm10000, jl_add, jl_sub, jl_mul, jl_neg, ji_add, ji_sub, ji_mul, ji_neg, ji_l, jl_i, rL_n, rI_n, dL_n, dI_n, mnI_j, mxI_j, ji_nat, rest_j, part_n, whole_j, times_j, kc_0, kc_gt, kc_lt, kc_le, kc_ge, ji_lt, ji_le, ji_inj, jl_inj, jl_lt, jl_le, b1s, b2s, bEs, bEe, rIs, rIn, rIJ, rJs, rJn, rJI, ifp, ifn, if_true, if_false]
      obtain ⟨n1, n2⟩ := newton (R' := (R + u * iv p s R % p ^ s) * hf % p ^ s) hP h2 hd hs.1 hk hRd hR3 g2 hh2 (by
        have e1 := mod_dvd ((R + u * iv p s R % p ^ s) * hf) (p ^ s)
        have e2 := Int.dvd_mul_of_dvd_left (c := hf) (mod_dvd (u * iv p s R) (p ^ s))
        have e3 := Int.dvd_add e1 e2
        rwa [show ∀ a b c e f : Int, a - (b + c) * e + (c - f) * e = a - (b + f) * e by intros; grind] at e3)
      refine IH (j + 1) (2 * k) _ g4.1 g4.2 n1 (by omega) n2 ?_ (by omega) (by omega)
      rw [show 6 - j = (6 - (j + 1)) + 1 by omega, Nat.pow_succ] at hsk
      rw [Nat.mul_comm 2 k, Nat.mul_assoc, Nat.mul_comm 2]
      exact hsk
theorem two_step {e : Nat} {R u : Int} (he : 3 ≤ e) (h3 : (2 : Int) ^ e ∣ R * R - u) (h4 : (4 : Int) ∣ R - 1) (hz : ¬ (2 : Int) ^ (e + 1) ∣ R * R - u) : (2 : Int) ^ (e + 1) ∣ (R + 2 ^ (e - 1)) * (R + 2 ^ (e - 1)) - u ∧ (4 : Int) ∣ R + 2 ^ (e - 1) - 1 := by
  obtain ⟨f, rfl⟩ := Nat.exists_eq_add_of_le he
  obtain ⟨b, hb⟩ := h4
  have e1 : (2 : Int) ^ (3 + f) = 8 * 2 ^ f := by rw [pw_add]; rfl
  have e2 : (2 : Int) ^ (3 + f + 1) = 16 * 2 ^ f := by rw [show 3 + f + 1 = 4 + f by omega, pw_add]; rfl
  have e3 : (2 : Int) ^ (3 + f - 1) = 4 * 2 ^ f := by rw [show 3 + f - 1 = 2 + f by omega, pw_add]; rfl
  rw [e1] at h3
  rw [e2] at hz ⊢
  rw [e3]
  generalize (2 : Int) ^ f = w at *
  obtain ⟨a, ha⟩ := h3
  have ha2 : a = 2 * (a / 2) + 1 := by
    rcases Int.emod_two_eq a with q | q
    · exfalso
      obtain ⟨t, ht⟩ : ∃ t, a = 2 * t := ⟨a / 2, by omega⟩
      exact hz ⟨t, by rw [ha, ht]; grind⟩
    · omega
  generalize a / 2 = t at *
  refine ⟨⟨t + 1 + 2 * b + w, ?_⟩, ⟨b + w, by omega⟩⟩
  have hR : R = 4 * b + 1 := by omega
  subst ha2 hR
  grind
theorem rootTwoC_loop {S : St} {r s : Nat} {u : Int} (h : NrC S 2 r) (hr : Rch 2 r) (hs : s ≤ r) (hu : 0 ≤ u ∧ u < 2147483648) : ∀ (N e : Nat) (R : Int), 3 ≤ e → e ≤ s → 0 ≤ R → R < 2 ^ (e - 1) → (2 : Int) ^ e ∣ R * R - u → (4 : Int) ∣ R - 1 → s - e < N →
    Ok (itr (fun (q : Int64 × Int32 × Int64 × Int32) k => s_X5_rootNearTwo_6 (fun (x1 : Int64) (x3 : Int32) (x4 : Int64) (x6 : Int32) => k (x1, x3, x4, x6)) S q.1 q.2.1 q.2.2.1 q.2.2.2) N (jl u, ji s, jl R, ji e)) (fun v => ∃ R, v = jl R ∧ RtT s u R)
  | 0, _, _, _, _, _, _, _, _, hN => absurd hN (Nat.not_lt_zero _)
  | N + 1, e, R, he, hes, hR1, hR2, hR3, hR4, hN => by
    rw [itrS]
    have IH := rootTwoC_loop h hr hs hu N (e + 1)
    generalize itr _ N = K at IH
    show Ok (s_X5_rootNearTwo_6 _ S (jl u) (ji s) (jl R) (ji e)) _
    have hrr := hr.2.2.2.2
    unfold s_X5_rootNearTwo_6
    rw [h.2.1]
    by_cases hc : s ≤ e
    · simp (disch := omega) only [i0, i1, i2, i3, i4, i5, i6, i7, i8, i12, i16, i20, i30, i39, i40, i60, i64, i97, i100, i256, i1000, i10000, im1, im20, im60, l0, l1, l2, l3, l4, l5, l8, l10000, l1e9, lm10000, jl_add, jl_sub, jl_mul, jl_neg, ji_add, ji_sub, ji_mul, ji_neg, ji_l, jl_i, rL_n, rI_n, dL_n, dI_n, mnI_j, mxI_j, ji_nat, rest_j, part_n, whole_j, times_j, kc_0, kc_gt, kc_lt, kc_le, kc_ge, ji_lt, ji_le, ji_inj, jl_inj, jl_lt, jl_le, b1s, b2s, bEs, bEe, rIs, rIn, rIJ, rJs, rJn, rJI, ifp, ifn, if_true, if_false]
      have : s = e := by omega
      subst this
      exact ok_s ⟨R, rfl, hR1, hR2, hR3, hR4⟩
    · have g1 := hr.le (show e + 1 ≤ r by omega)
      have g2 := pw_pos hr.1 (e + 1)
      have g3 := hr.le (show e - 1 ≤ r by omega)
      have g4 := pw_pos hr.1 (e - 1)
      have g5 := sq_rng (a := R) (b := R) (m := 2147483648) (by omega) (by omega) (by omega)
      simp (disch := omega) only [i0, i1, i2, i3, i4, i5, i6, i7, i8, i12, i16, i20, i30, i39, i40, i60, i64, i97, i100, i256, i1000, i10000, im1, im20, im60, l0, l1, l2, l3, l4, l5, l8, l10000, l1e9, lm10000, jl_add, jl_sub, jl_mul, jl_neg, ji_add, ji_sub, ji_mul, ji_neg, ji_l, jl_i, rL_n, rI_n, dL_n, dI_n, mnI_j, mxI_j, ji_nat, rest_j, part_n, whole_j, times_j, kc_0, kc_gt, kc_lt, kc_le, kc_ge, ji_lt, ji_le, ji_inj, jl_inj, jl_lt, jl_le, b1s, b2s, bEs, bEe, rIs, rIn, rIJ, rJs, rJn, rJI, ifp, ifn, if_true, if_false]
      rw [pwC' h hr (by omega), b1s, show ((e : Int) + 1).toNat = e + 1 by omega, rest_j (by omega) (by omega), b1s, pwC' h hr (by omega), b1s, show ((e : Int) - 1).toNat = e - 1 by omega]
      have g6 := emod_rng (a := R * R - u) g2
      have q1 : (2 : Int) ^ (e + 1 - 1) = 2 ^ (e - 1) * 2 := by rw [show e + 1 - 1 = (e - 1) + 1 by omega, Int.pow_succ]
      simp (disch := omega) only [i0, i1, i2, i3, i4, i5, i6, i7, i8, i12, i16, i20, i30, i39, i40, i60, i64, i97, i100, i256, i1000, i10000, im1, im20, im60, l0, l1, l2, l3, l4, l5, l8, l10000, l1e9, lm10000, jl_add, jl_sub, jl_mul, jl_neg, ji_add, ji_sub, ji_mul, ji_neg, ji_l, jl_i, rL_n, rI_n, dL_n, dI_n, mnI_j, mxI_j, ji_nat, rest_j, part_n, whole_j, times_j, kc_0, kc_gt, kc_lt, kc_le, kc_ge, ji_lt, ji_le, ji_inj, jl_inj, jl_lt, jl_le, b1s, b2s, bEs, bEe, rIs, rIn, rIJ, rJs, rJn, rJI, ifp, ifn, if_true, if_false]
      by_cases hz : (R * R - u) % 2 ^ (e + 1) = 0
      · rw [if_pos hz]
        exact IH R (by omega) (by omega) hR1 (by omega) (Int.dvd_of_emod_eq_zero hz) hR4 (by omega)
      · rw [if_neg hz]
        refine IH (R + 2 ^ (e - 1)) (by omega) (by omega) (by omega) (by omega) ?_ ?_ (by omega)
        · exact (two_step he hR3 hR4 (fun q => hz (Int.emod_eq_zero_of_dvd q))).1
        · exact (two_step he hR3 hR4 (fun q => hz (Int.emod_eq_zero_of_dvd q))).2
