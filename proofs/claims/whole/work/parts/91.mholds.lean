/-! the determinant and the shape hold together -/
theorem vp_div {p z : Int} (hp : 2 ≤ p) (hz : z ≠ 0) (h : 1 ≤ vp p z) : p ∣ z ∧ z / p ≠ 0 ∧ vp p (z / p) + 1 = vp p z := by
  have d : p ∣ z := by
    have := (vp_dvd hp hz (k := 1)).mpr h
    rwa [Int.pow_one] at this
  have e := vp_step (p := p) (z := z) hp
  rw [if_pos ⟨hz, Int.emod_eq_zero_of_dvd d⟩] at e
  refine ⟨d, fun q => ?_, by omega⟩
  have := Int.mul_ediv_cancel' d
  rw [q, Int.mul_zero] at this
  exact hz this.symm
theorem holds_in {S : St} {p w : Int} {i e : Nat} {K : Int32 → Int64 → Int32 → St → Option (Int32 × St)} (hp : 2 ≤ p ∧ p ≤ 97) (he : e ≤ 70) : ∀ (N k : Nat) (z : Int), k ≤ e → z ≠ 0 → (-9223372036854775808 ≤ z ∧ z < 9223372036854775808) → (vp p z : Int) = w + e - k → 0 ≤ w → e - k < N →
    ∃ z' : Int, z' ≠ 0 ∧ (-9223372036854775808 ≤ z' ∧ z' < 9223372036854775808) ∧ vp p z' = w ∧ itr (fun (q : Int32 × Int64 × Int32 × Int32 × Int32 × St) k => s_X1_holdsTogether_37 K (fun (x1 : Int32) (x2 : Int64) (x4 : Int32) (x5 : Int32) (x6 : Int32) (S : St) => k (x1, x2, x4, x5, x6, S)) q.1 q.2.1 q.2.2.1 q.2.2.2.1 q.2.2.2.2.1 q.2.2.2.2.2) N (ji p, jl z, ji i, ji e, ji k, S) = K (ji p) (jl z') (ji ((i : Int) + 1)) S
  | 0, _, _, _, _, _, _, _, h => absurd h (Nat.not_lt_zero _)
  | N + 1, k, z, hk, hz, hr, hv, hw, hN => by
    rw [itrS]
    have IH := holds_in (S := S) (w := w) (i := i) (K := K) hp he N (k + 1)
    generalize itr _ N = K1 at IH
    show ∃ z' : Int, z' ≠ 0 ∧ (-9223372036854775808 ≤ z' ∧ z' < 9223372036854775808) ∧ vp p z' = w ∧ s_X1_holdsTogether_37 K (fun (x1 : Int32) (x2 : Int64) (x4 : Int32) (x5 : Int32) (x6 : Int32) (S : St) => K1 (x1, x2, x4, x5, x6, S)) (ji p) (jl z) (ji i) (ji e) (ji k) S = _
    unfold s_X1_holdsTogether_37
    by_cases h : k = e
    · subst h
      refine ⟨z, hz, hr, by omega, ?_⟩
      simp (disch := omega) only [i0, i1, i2, i3, i4, i5, i6, i7, i8, i12, i16, i20, i30, i39, i40, i60, i64, i97, i100, i256, i1000, i10000, im1, im20, im60, l0, l1, l2, l3, l4, l5, l8, l10000, l1e9, lm10000, jl_add, jl_sub, jl_mul, jl_neg, ji_add, ji_sub, ji_mul, ji_neg, ji_l, jl_i, rL_n, rI_n, dL_n, dI_n, mnI_j, mxI_j, ji_nat, rest_j, part_n, whole_j, times_j, kc_0, kc_gt, kc_lt, kc_le, kc_ge, ji_lt, ji_le, ji_inj, jl_inj, jl_lt, jl_le, b1s, b2s, bEs, bEe, rIs, rIn, rIJ, rJs, rJn, rJI, ifp, ifn, if_true, if_false]
    · obtain ⟨d1, d2, d3⟩ := vp_div hp.1 hz (by omega)
      have z0 := Int.emod_eq_zero_of_dvd d1
      have rg := dvd_div_rng hp.1 z0 (M := 9223372036854775808) hr
      obtain ⟨z', a1, a2, a3, a4⟩ := IH (z / p) (by omega) d2 rg (by omega) hw (by omega)
      have re := rest_j (a := z) (m := p) hr (by omega)
      rw [z0] at re
      have pt := part_j (a := z) (m := p) hr (by omega)
      rw [dvd_tdiv hp.1 z0] at pt
      rw [show ((k + 1 : Nat) : Int) = (k : Int) + 1 by omega] at a4
      refine ⟨z', a1, a2, a3, ?_⟩
      clear IH hv d3
      simp (disch := omega) only [i0, i1, i2, i3, i4, i5, i6, i7, i8, i12, i16, i20, i30, i39, i40, i60, i64, i97, i100, i256, i1000, i10000, im1, im20, im60, l0, l1, l2, l3, l4, l5, l8, l10000, l1e9, lm10000, jl_add, jl_sub, jl_mul, jl_neg, ji_add, ji_sub, ji_mul, ji_neg, ji_l, jl_i, rL_n, rI_n, dL_n, dI_n, mnI_j, mxI_j, ji_nat, rest_j, part_n, whole_j, times_j, kc_0, kc_gt, kc_lt, kc_le, kc_ge, ji_lt, ji_le, ji_inj, jl_inj, jl_lt, jl_le, b1s, b2s, bEs, bEe, rIs, rIn, rIJ, rJs, rJn, rJI, ifp, ifn, if_true, if_false, re, pt]
      exact a4
theorem holds_out {A : Nat → Nat → Int} {p : Int} {sz : Nat} {S0 : St} {W : Nat → Int} (hp : 2 ≤ p ∧ p ≤ 97) (hA : AB A) (hs : sz ≤ 4) (h16 : 2 ^ sz ≤ 16) (hW : ∀ k : Nat, k ≤ sz → Ls A p (2 ^ sz) k 16 0 (W k)) (hW0 : ∀ k : Nat, k < sz → 0 ≤ W k ∧ W k ≤ W (k + 1)) (hW9 : 0 ≤ W sz ∧ W sz ≤ 63) : ∀ (N i : Nat) (z : Int) (S : St), FrM S0 S → EnC S A → S.1 2 0 = ji sz → i ≤ sz → z ≠ 0 → (-9223372036854775808 ≤ z ∧ z < 9223372036854775808) → (vp p z : Int) = W sz - W i → sz - i < N →
    ∃ S' : St, FrM S0 S' ∧ itr (fun (q : Int32 × Int64 × Int32 × St) k => s_X1_holdsTogether_16 (fun (x1 : Int32) (x2 : Int64) (x4 : Int32) (S : St) => k (x1, x2, x4, S)) q.1 q.2.1 q.2.2.1 q.2.2.2) N (ji p, jl z, ji i, S) = some (ji 1, S')
  | 0, _, _, _, _, _, _, _, _, _, _, h => absurd h (Nat.not_lt_zero _)
  | N + 1, i, z, S, f0, hE, h2, hi, hz, hr, hv, hN => by
    rw [itrS]
    have IH := holds_out (S0 := S0) hp hA hs h16 hW hW0 hW9 N (i + 1)
    generalize itr _ N = K1 at IH
    show ∃ S' : St, FrM S0 S' ∧ s_X1_holdsTogether_16 (fun (x1 : Int32) (x2 : Int64) (x4 : Int32) (S : St) => K1 (x1, x2, x4, S)) (ji p) (jl z) (ji i) S = some (ji 1, S')
    unfold s_X1_holdsTogether_16
    by_cases h : i = sz
    · subst h
      have v0 : vp p z = 0 := by omega
      have re := rest_j (a := z) (m := p) hr (by omega)
      have g := emod_rng (a := z) (show (0 : Int) < p by omega)
      have nz : z % p ≠ 0 := fun q => by
        have := (vp_dvd hp.1 hz (k := 1)).mp (by rw [Int.pow_one]; exact Int.dvd_of_emod_eq_zero q)
        omega
      refine ⟨S, f0, ?_⟩
      clear IH hW hW0
      simp (disch := omega) only [i0, i1, i2, i3, i4, i5, i6, i7, i8, i12, i16, i20, i30, i39, i40, i60, i64, i97, i100, i256, i1000, i10000, im1, im20, im60, l0, l1, l2, l3, l4, l5, l8, l10000, l1e9, lm10000, jl_add, jl_sub, jl_mul, jl_neg, ji_add, ji_sub, ji_mul, ji_neg, ji_l, jl_i, rL_n, rI_n, dL_n, dI_n, mnI_j, mxI_j, ji_nat, rest_j, part_n, whole_j, times_j, kc_0, kc_gt, kc_lt, kc_le, kc_ge, ji_lt, ji_le, ji_inj, jl_inj, jl_lt, jl_le, b1s, b2s, bEs, bEe, rIs, rIn, rIJ, rJs, rJn, rJI, ifp, ifn, if_true, if_false, h2, re]
    · have w1 := hW0 i (by omega)
      obtain ⟨S1, x1, x2⟩ := exC (S := S) (k := i) hp hA hE h2 hs h16 (by omega) (hW i hi) (hW (i + 1) (by omega))
      have mono : ∀ d : Nat, i + 1 + d ≤ sz → W (i + 1) ≤ W (i + 1 + d) := fun d => by
        induction d with
        | zero => exact fun _ => Int.le_refl _
        | succ d ih =>
          intro hd
          have := ih (by omega)
          have := (hW0 (i + 1 + d) (by omega)).2
          rw [show i + 1 + (d + 1) = i + 1 + d + 1 by omega]
          omega
      have wm := mono (sz - (i + 1)) (by omega)
      rw [show i + 1 + (sz - (i + 1)) = sz by omega] at wm
      have f1 : FrM S0 S1 := ⟨x2.1.trans f0.1, fun o j q => (x2.2 o j q).trans (f0.2 o j q)⟩
      have step : ∀ z' : Int, z' ≠ 0 → (-9223372036854775808 ≤ z' ∧ z' < 9223372036854775808) → vp p z' = (W sz - W (i + 1)).toNat → ∃ S' : St, FrM S0 S' ∧ K1 (ji p, jl z', ji (i + 1 : Nat), S1) = some (ji 1, S') := fun z' q1 q2 q3 =>
        IH z' S1 f1 (hE.fr x2) (by rw [x2.1]; exact h2) (by omega) q1 q2 (by omega) (by omega)
      obtain ⟨z', q1, q2, q3, q4⟩ := holds_in (S := S1) (w := W sz - W (i + 1)) (i := i) (e := (W (i + 1) - W i).toNat) (K := fun (x1 : Int32) (x2 : Int64) (x4 : Int32) (S : St) => K1 (x1, x2, x4, S)) hp (by omega) FU 0 z (Nat.zero_le _) hz hr (by omega) (by omega) (FU_lt (by omega))
      obtain ⟨S', k1, k2⟩ := step z' q1 q2 (by omega)
      rw [show ((i + 1 : Nat) : Int) = (i : Int) + 1 by omega] at k2
      rw [show (((W (i + 1) - W i).toNat : Nat) : Int) = W (i + 1) - W i by omega] at q4
      refine ⟨S', k1, ?_⟩
      have q5 := q4.trans k2
      clear IH hW hW0 step q4
      simp (disch := omega) only [i0, i1, i2, i3, i4, i5, i6, i7, i8, i12, i16, i20, i30, i39, i40, i60, i64, i97, i100, i256, i1000, i10000, im1, im20, im60, l0, l1, l2, l3, l4, l5, l8, l10000, l1e9, lm10000, jl_add, jl_sub, jl_mul, jl_neg, ji_add, ji_sub, ji_mul, ji_neg, ji_l, jl_i, rL_n, rI_n, dL_n, dI_n, mnI_j, mxI_j, ji_nat, rest_j, part_n, whole_j, times_j, kc_0, kc_gt, kc_lt, kc_le, kc_ge, ji_lt, ji_le, ji_inj, jl_inj, jl_lt, jl_le, b1s, b2s, bEs, bEe, rIs, rIn, rIJ, rJs, rJn, rJI, ifp, ifn, if_true, if_false, h2, x1]
      exact q5
theorem holdsC {S : St} {A : Nat → Nat → Int} {p : Int} {sz : Nat} (hp : 2 ≤ p ∧ p ≤ 97) (hA : AB A) (hE : EnC S A) (h2 : S.1 2 0 = ji sz) (hs : 1 ≤ sz ∧ sz ≤ 4) (h16 : 2 ≤ 2 ^ sz ∧ 2 ^ sz ≤ 16) : ∃ S' : St, f_X1_holdsTogether (ji p) S = some (ji 1, S') ∧ FrM S S' := by
  obtain ⟨S1, w1, w2⟩ := wholeMC (S := S) hE h2 hs.2 ⟨by omega, h16.2⟩
  have ps := k_popsz sz hs.2
  have bd := mn_bd hA (r := 2 ^ sz - 1) (c := 2 ^ sz - 1) (by omega)
  unfold f_X1_holdsTogether
  rw [w1, b2s]
  by_cases z : mn A (2 ^ sz - 1) (2 ^ sz - 1) = 0
  · refine ⟨S1, ?_, w2⟩
    rw [z]
    simp (disch := omega) only [i0, i1, i2, i3, i4, i5, i6, i7, i8, i12, i16, i20, i30, i39, i40, i60, i64, i97, i100, i256, i1000, i10000, im1, im20, im60, l0, l1, l2, l3, l4, l5, l8, l10000, l1e9, lm10000, jl_add, jl_sub, jl_mul, jl_neg, ji_add, ji_sub, ji_mul, ji_neg, ji_l, jl_i, rL_n, rI_n, dL_n, dI_n, mnI_j, mxI_j, ji_nat, rest_j, part_n, whole_j, times_j, kc_0, kc_gt, kc_lt, kc_le, kc_ge, ji_lt, ji_le, ji_inj, jl_inj, jl_lt, jl_le, b1s, b2s, bEs, bEe, rIs, rIn, rIJ, rJs, rJn, rJI, ifp, ifn, if_true, if_false]
  · have g : gd A (2 ^ sz) sz (2 ^ sz - 1) (2 ^ sz - 1) := ⟨by omega, by omega, ps.2.1, ps.2.1, z⟩
    have hall : ∀ k : Nat, ∃ v, Ls A p (2 ^ sz) k 16 0 v := fun k => Ls.ex h16.2 16
    obtain ⟨W, hW⟩ := Classical.axiomOfChoice hall
    have hex : ∀ k : Nat, k ≤ sz → ∃ r c : Nat, gd A (2 ^ sz) k r c := fun k hk => desc_le h16.2 (sz - k) ⟨_, _, by rw [show k + (sz - k) = sz by omega]; exact g⟩
    have hnn : ∀ k : Nat, k ≤ sz → 0 ≤ W k := fun k hk => by
      have rg := (hW k).rng hp.1 hA h16.2
      have : W k ≠ -1 := fun q => (ls_neg h16.2 (hW k)).mp q (hex k hk)
      omega
    have h00 : W 0 = 0 := (hW 0).un (ls_0 hp.1 ⟨by omega, h16.2⟩) h16.2 h16.2
    have hsz : W sz = vp p (mn A (2 ^ sz - 1) (2 ^ sz - 1)) := by
      have one : ∀ r c : Nat, gd A (2 ^ sz) sz r c → r = 2 ^ sz - 1 ∧ c = 2 ^ sz - 1 := fun r c q =>
        ⟨ps.2.2 r (by have := q.1; omega) q.1 q.2.2.1, ps.2.2 c (by have := q.2.1; omega) q.2.1 q.2.2.2.1⟩
      rcases hW sz with ⟨q1, q2⟩ | ⟨⟨r, c, q1, q2⟩, -⟩
      · exact absurd (Or.inl (by omega)) (q2 _ _ g)
      · obtain ⟨e1, e2⟩ := one r c q1
        rw [q2, e1, e2]
    have rg := (hW sz).rng hp.1 hA h16.2
    obtain ⟨S', s1, s2⟩ := holds_out (S0 := S) (W := W) hp hA hs.2 h16.2 (fun k _ => hW k) (fun k hk => ls_mono hp.1 h16.2 (hW k) (hW (k + 1)) (hnn (k + 1) (by omega))) ⟨hnn sz (Nat.le_refl _), rg.2⟩ FU 0 _ S1 w2 (hE.fr w2) (by rw [w2.1]; exact h2) (Nat.zero_le _) z bd (by rw [← hsz, h00]; omega) (FU_lt (by omega))
    refine ⟨S', ?_, s1⟩
    have n0 : ¬ lg_cmp (jl (mn A (2 ^ sz - 1) (2 ^ sz - 1))) 0 = 0 := by
      simp (disch := omega) only [i0, i1, i2, i3, i4, i5, i6, i7, i8, i12, i16, i20, i30, i39, i40, i60, i64, i97, i100, i256, i1000, i10000, im1, im20, im60, l0, l1, l2, l3, l4, l5, l8, l10000, l1e9, lm10000, jl_add, jl_sub, jl_mul, jl_neg, ji_add, ji_sub, ji_mul, ji_neg, ji_l, jl_i, rL_n, rI_n, dL_n, dI_n, mnI_j, mxI_j, ji_nat, rest_j, part_n, whole_j, times_j, kc_0, kc_gt, kc_lt, kc_le, kc_ge, ji_lt, ji_le, ji_inj, jl_inj, jl_lt, jl_le, b1s, b2s, bEs, bEe, rIs, rIn, rIJ, rJs, rJn, rJI, ifp, ifn, if_true, if_false]
      exact z
    rw [if_neg n0]
    exact s2
theorem sound_loop {T : St} {p : Int} {r cnt : Nat} {num early : Nat → Int × Int × Int} {D C : Nat → Nat → Int} {bc : Nat} {cn : Nat → Nat} {rowc : Nat} {sz : Nat} {en : Nat → Int} : ∀ (N k : Nat) (S : St), RN S T p r cnt num early D C bc rowc cn → RX S T sz en → k ≤ cnt → cnt - k < N →
    ∃ S' : St, FrS S S' ∧ itr (fun (q : Int32 × St) k => s_X9_isSound_2 (fun (x1 : Int32) (S : St) => k (x1, S)) q.1 q.2) N (ji k, S) = some (ji 1, S')
  | 0, _, _, _, _, _, h => absurd h (Nat.not_lt_zero _)
  | N + 1, k, S, h1, h4, hk, hN => by
    rw [itrS]
    have IH := sound_loop (T := T) (p := p) (r := r) (cnt := cnt) (num := num) (early := early) (D := D) (C := C) (bc := bc) (cn := cn) (rowc := rowc) (sz := sz) (en := en) N (k + 1)
    generalize itr _ N = K1 at IH
    show ∃ S' : St, FrS S S' ∧ s_X9_isSound_2 (fun (x1 : Int32) (S : St) => K1 (x1, S)) (ji k) S = some (ji 1, S')
    have c5 := h1.2.2.2.2.1
    have c7 := h1.2.2.2.2.2.2.1
    unfold s_X9_isSound_2
    by_cases h : k = cnt
    · subst h
      obtain ⟨e1, e2, e3, s1, s2, s3, s4⟩ := rx_mat h4
      obtain ⟨S', w1, w2⟩ := holdsC (S := S) ⟨h1.2.1.1, h1.2.1.2.1⟩ e3 e1 h4.1 ⟨s1, s2⟩ ⟨s3, s4⟩
      refine ⟨S', w2.fr, ?_⟩
      have hN1 := h1.2.2.1.1
      rw [c5, if_pos ((ji_le (by omega) (by omega)).mpr (by omega)), hN1, w1, b2s, if_pos nb1]
    · obtain ⟨S1, x1, x2⟩ := still h1 (show k < cnt by omega)
      obtain ⟨S', y1, y2⟩ := IH S1 (rn_fr h1 x2 (FrT.refl T)) (rx_fr h4 x2 (FrT.refl T)) (by omega) (by omega)
      refine ⟨S', x2.trans y1, ?_⟩
      rw [c5, if_neg (fun q => h (by have := (ji_le (by omega) (by omega)).mp q; omega)), x1, b2s, if_neg (by decide), i1, ji_add, show (k : Int) + 1 = ((k + 1 : Nat) : Int) by omega]
      exact y2
theorem T_isSound {S T : St} (h : Rel S T) : ∃ S' : St, f_X9_isSound S = some (ji 1, S') ∧ f_X10_isSound T = some (ji 1) ∧ Rel S' T := by
  have hh := h
  obtain ⟨p, r, cnt, num, early, D, C, bc, cn, pc, rowc, rv, sz, en, h1, h2, h3, h4⟩ := hh
  have c7 := h1.2.2.2.2.2.2.1
  obtain ⟨S', s1, s2⟩ := sound_loop FU 0 S h1 h4 (Nat.zero_le _) (FU_lt (by omega))
  exact ⟨S', s2, rfl, rel_fr h s1 (FrT.refl T)⟩
