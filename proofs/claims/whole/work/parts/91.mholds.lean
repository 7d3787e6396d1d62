/-! the determinant and the shape hold together -/
theorem vp_div {p z : Int} (hp : 2 ≤ p) (hz : z ≠ 0) (h : 1 ≤ vp p z) : p ∣ z ∧ z / p ≠ 0 ∧ vp p (z / p) + 1 = vp p z := by
  have d : p ∣ z := by
    have := (vp_dvd hp hz (k := 1)).mpr h
    rwa [Int.pow_one] at this
  have e := vp_step (p := p) (z := z) hp
  rw [if_pos ⟨hz, Int.emod_eq_zero_of_dvd d⟩] at e
  refine ⟨d, fun q => ?_, by omega⟩
  have := Int.mul_ediv_cancel' d
  rw [q, Int.mul_zero] at this
  exact hz this.symm
theorem holds_in {S : St} {p z w : Int} {R : Option (Int32 × St)} {i e : Nat} {K : Int32 → Int64 → Int32 → St → Option (Int32 × St)} (hp : 2 ≤ p ∧ p ≤ 97) (he : e ≤ 70)
    (hK : ∀ z' : Int, z' ≠ 0 → (-9223372036854775808 ≤ z' ∧ z' < 9223372036854775808) → vp p z' = w → K (ji p) (jl z') (ji (i + 1 : Nat)) S = R) : ∀ (N k : Nat) (z : Int), k ≤ e → z ≠ 0 → (-9223372036854775808 ≤ z ∧ z < 9223372036854775808) → (vp p z : Int) = w + e - k → 0 ≤ w → e - k < N → itr (fun (q : Int32 × Int64 × Int32 × Int32 × Int32 × St) k => s_X1_holdsTogether_37 K (fun (x1 : Int32) (x2 : Int64) (x4 : Int32) (x5 : Int32) (x6 : Int32) (S : St) => k (x1, x2, x4, x5, x6, S)) q.1 q.2.1 q.2.2.1 q.2.2.2.1 q.2.2.2.2.1 q.2.2.2.2.2) N (ji p, jl z, ji i, ji e, ji k, S) = R
  | 0, _, _, _, _, _, _, _, h => absurd h (Nat.not_lt_zero _)
  | N + 1, k, z, hk, hz, hr, hv, hw, hN => by
    rw [itrS]
    have IH := holds_in hp he hK N (k + 1)
    generalize itr _ N = K1 at IH
    show s_X1_holdsTogether_37 K (fun (x1 : Int32) (x2 : Int64) (x4 : Int32) (x5 : Int32) (x6 : Int32) (S : St) => K1 (x1, x2, x4, x5, x6, S)) (ji p) (jl z) (ji i) (ji e) (ji k) S = R
    unfold s_X1_holdsTogether_37
    by_cases h : k = e
    · subst h
      have := hK z hz hr (by omega)
      rw [show ((i + 1 : Nat) : Int) = (i : Int) + 1 by omega] at this
      simp (disch := omega) only [i0, i1, i2, i3, i4, i5, i6, i7, i8, i12, i16, i20, i30, i39, i40, i60, i64, i97, i100, i256, i1000, i10000, im1, im20, im60, l0, l1, l2, l3, l4, l5, l8, l10000, l1e9, lm10000, jl_add, jl_sub, jl_mul, jl_neg, ji_add, ji_sub, ji_mul, ji_neg, ji_l, jl_i, rL_n, rI_n, dL_n, dI_n, mnI_j, mxI_j, ji_nat, rest_j, part_n, whole_j, times_j, kc_0, kc_gt, kc_lt, kc_le, kc_ge, ji_lt, ji_le, ji_inj, jl_inj, jl_lt, jl_le, b1s, b2s, bEs, bEe, rIs, rIn, rIJ, rJs, rJn, rJI, ifp, ifn, if_true, if_false]
      exact this
    · obtain ⟨d1, d2, d3⟩ := vp_div hp.1 hz (by omega)
      have z0 := Int.emod_eq_zero_of_dvd d1
      have rg := dvd_div_rng hp.1 z0 (M := 9223372036854775808) hr
      have next := IH (z / p) (by omega) d2 rg (by omega) hw (by omega)
      have re := rest_j (a := z) (m := p) hr (by omega)
      rw [z0] at re
      have pt := part_j (a := z) (m := p) hr (by omega)
      rw [dvd_tdiv hp.1 z0] at pt
      rw [show ((k + 1 : Nat) : Int) = (k : Int) + 1 by omega] at next
      clear IH hK hv d3
      simp (disch := omega) only [i0, i1, i2, i3, i4, i5, i6, i7, i8, i12, i16, i20, i30, i39, i40, i60, i64, i97, i100, i256, i1000, i10000, im1, im20, im60, l0, l1, l2, l3, l4, l5, l8, l10000, l1e9, lm10000, jl_add, jl_sub, jl_mul, jl_neg, ji_add, ji_sub, ji_mul, ji_neg, ji_l, jl_i, rL_n, rI_n, dL_n, dI_n, mnI_j, mxI_j, ji_nat, rest_j, part_n, whole_j, times_j, kc_0, kc_gt, kc_lt, kc_le, kc_ge, ji_lt, ji_le, ji_inj, jl_inj, jl_lt, jl_le, b1s, b2s, bEs, bEe, rIs, rIn, rIJ, rJs, rJn, rJI, ifp, ifn, if_true, if_false, re, pt]
      exact next
theorem holds_out {A : Nat → Nat → Int} {p : Int} {sz : Nat} {S0 : St} {W : Nat → Int} (hp : 2 ≤ p ∧ p ≤ 97) (hA : AB A) (hs : sz ≤ 4) (h16 : 2 ^ sz ≤ 16) (hW : ∀ k : Nat, k ≤ sz → Ls A p (2 ^ sz) k 16 0 (W k)) (hW0 : ∀ k : Nat, k < sz → 0 ≤ W k ∧ W k ≤ W (k + 1)) (hW9 : 0 ≤ W sz ∧ W sz ≤ 63) : ∀ (N i : Nat) (z : Int) (S : St), FrM S0 S → EnC S A → S.1 2 0 = ji sz → i ≤ sz → z ≠ 0 → (-9223372036854775808 ≤ z ∧ z < 9223372036854775808) → (vp p z : Int) = W sz - W i → sz - i < N →
    ∃ S' : St, FrM S0 S' ∧ itr (fun (q : Int32 × Int64 × Int32 × St) k => s_X1_holdsTogether_16 (fun (x1 : Int32) (x2 : Int64) (x4 : Int32) (S : St) => k (x1, x2, x4, S)) q.1 q.2.1 q.2.2.1 q.2.2.2) N (ji p, jl z, ji i, S) = some (ji 1, S')
  | 0, _, _, _, _, _, _, _, _, _, _, h => absurd h (Nat.not_lt_zero _)
  | N + 1, i, z, S, f0, hE, h2, hi, hz, hr, hv, hN => by
    rw [itrS]
    have IH := holds_out (S0 := S0) hp hA hs h16 hW hW0 hW9 N (i + 1)
    generalize itr _ N = K1 at IH
    show ∃ S' : St, FrM S0 S' ∧ s_X1_holdsTogether_16 (fun (x1 : Int32) (x2 : Int64) (x4 : Int32) (S : St) => K1 (x1, x2, x4, S)) (ji p) (jl z) (ji i) S = some (ji 1, S')
    unfold s_X1_holdsTogether_16
    by_cases h : i = sz
    · subst h
      have v0 : vp p z = 0 := by omega
      have re := rest_j (a := z) (m := p) hr (by omega)
      have g := emod_rng (a := z) (show (0 : Int) < p by omega)
      have nz : z % p ≠ 0 := fun q => by
        have := (vp_dvd hp.1 hz (k := 1)).mp (by rw [Int.pow_one]; exact Int.dvd_of_emod_eq_zero q)
        omega
      refine ⟨S, f0, ?_⟩
      clear IH hW hW0
      simp (disch := omega) only [i0, i1, i2, i3, i4, i5, i6, i7, i8, i12, i16, i20, i30, i39, i40, i60, i64, i97, i100, i256, i1000, i10000, im1, im20, im60, l0, l1, l2, l3, l4, l5, l8, l10000, l1e9, lm10000, jl_add, jl_sub, jl_mul, jl_neg, ji_add, ji_sub, ji_mul, ji_neg, ji_l, jl_i, rL_n, rI_n, dL_n, dI_n, mnI_j, mxI_j, ji_nat, rest_j, part_n, whole_j, times_j, kc_0, kc_gt, kc_lt, kc_le, kc_ge, ji_lt, ji_le, ji_inj, jl_inj, jl_lt, jl_le, b1s, b2s, bEs, bEe, rIs, rIn, rIJ, rJs, rJn, rJI, ifp, ifn, if_true, if_false, h2, re]
    · have w1 := hW0 i (by omega)
      obtain ⟨S1, x1, x2⟩ := exC (S := S) (k := i) hp hA hE h2 hs h16 (by omega) (hW i hi) (hW (i + 1) (by omega))
      have mono : ∀ d : Nat, i + 1 + d ≤ sz → W (i + 1) ≤ W (i + 1 + d) := fun d => by
        induction d with
        | zero => exact fun _ => Int.le_refl _
        | succ d ih =>
          intro hd
          have := ih (by omega)
          have := (hW0 (i + 1 + d) (by omega)).2
          rw [show i + 1 + (d + 1) = i + 1 + d + 1 by omega]
          omega
      have wm := mono (sz - (i + 1)) (by omega)
      rw [show i + 1 + (sz - (i + 1)) = sz by omega] at wm
      have f1 : FrM S0 S1 := ⟨x2.1.trans f0.1, fun o j q => (x2.2 o j q).trans (f0.2 o j q)⟩
      have step : ∀ z' : Int, z' ≠ 0 → (-9223372036854775808 ≤ z' ∧ z' < 9223372036854775808) → vp p z' = (W sz - W (i + 1)).toNat → ∃ S' : St, FrM S0 S' ∧ K1 (ji p, jl z', ji (i + 1 : Nat), S1) = some (ji 1, S') := fun z' q1 q2 q3 =>
        IH z' S1 f1 (hE.fr x2) (by rw [x2.1]; exact h2) (by omega) q1 q2 (by omega) (by omega)
      -- the value that remains is the same for all ways
      have key : ∃ S' : St, FrM S0 S' ∧ n_X1_holdsTogether_37 (fun (x1 : Int32) (x2 : Int64) (x4 : Int32) (S : St) => K1 (x1, x2, x4, S)) (ji p) (jl z) (ji i) (ji (W (i + 1) - W i)) (ji 0) S1 = some (ji 1, S') := by
        sorry
      obtain ⟨S', k1, k2⟩ := key
      refine ⟨S', k1, ?_⟩
      clear IH hW hW0 step
      simp (disch := omega) only [i0, i1, i2, i3, i4, i5, i6, i7, i8, i12, i16, i20, i30, i39, i40, i60, i64, i97, i100, i256, i1000, i10000, im1, im20, im60, l0, l1, l2, l3, l4, l5, l8, l10000, l1e9, lm10000, jl_add, jl_sub, jl_mul, jl_neg, ji_add, ji_sub, ji_mul, ji_neg, ji_l, jl_i, rL_n, rI_n, dL_n, dI_n, mnI_j, mxI_j, ji_nat, rest_j, part_n, whole_j, times_j, kc_0, kc_gt, kc_lt, kc_le, kc_ge, ji_lt, ji_le, ji_inj, jl_inj, jl_lt, jl_le, b1s, b2s, bEs, bEe, rIs, rIn, rIJ, rJs, rJn, rJI, ifp, ifn, if_true, if_false, h2, x1]
      exact k2
