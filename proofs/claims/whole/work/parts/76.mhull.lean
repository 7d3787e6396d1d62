/-! sides of the polygon -/
def sE (p : Int) (c : Nat → Int) (s : Nat) : Nat → Nat
  | 0 => s
  | k + 1 => if c (s + 1 + k) = 0 then sE p c s k else if sE p c s k = s then s + 1 + k else
      if ((vp p (c (sE p c s k)) : Int) - vp p (c s)) * (((s + 1 + k : Nat) : Int) - s) < ((vp p (c (s + 1 + k)) : Int) - vp p (c s)) * ((sE p c s k : Int) - s) then sE p c s k else s + 1 + k
theorem sE_rng {p : Int} {c : Nat → Int} {s : Nat} : ∀ k : Nat, s ≤ sE p c s k ∧ sE p c s k ≤ s + k ∧ (sE p c s k ≠ s → c (sE p c s k) ≠ 0)
  | 0 => ⟨Nat.le_refl _, Nat.le_refl _, fun q => absurd rfl q⟩
  | k + 1 => by
    obtain ⟨h1, h2, h3⟩ := sE_rng (p := p) (c := c) (s := s) k
    unfold sE
    by_cases h0 : c (s + 1 + k) = 0
    · rw [if_pos h0]
      exact ⟨h1, by omega, h3⟩
    · rw [if_neg h0]
      by_cases h4 : sE p c s k = s
      · rw [if_pos h4]
        exact ⟨by omega, by omega, fun _ => h0⟩
      · rw [if_neg h4]
        split
        · exact ⟨h1, by omega, h3⟩
        · exact ⟨by omega, by omega, fun _ => h0⟩
def nx (p : Int) (c : Nat → Int) (n s : Nat) : Nat := sE p c s (n - (s + 1))
theorem nx_rng {p : Int} {c : Nat → Int} {n s : Nat} (h : c (n - 1) ≠ 0) (hs : s < n - 1) : s < nx p c n s ∧ nx p c n s ≤ n - 1 ∧ c (nx p c n s) ≠ 0 := by
  unfold nx
  obtain ⟨k, hk⟩ : ∃ k : Nat, n - (s + 1) = k + 1 := ⟨n - (s + 1) - 1, by omega⟩
  obtain ⟨h1, h2, h3⟩ := sE_rng (p := p) (c := c) (s := s) (n - (s + 1))
  have h4 : sE p c s (n - (s + 1)) ≠ s := by
    rw [hk]
    obtain ⟨g1, g2, g3⟩ := sE_rng (p := p) (c := c) (s := s) k
    unfold sE
    rw [if_neg (by rw [show s + 1 + k = n - 1 by omega]; exact h)]
    by_cases h5 : sE p c s k = s
    · rw [if_pos h5]; omega
    · rw [if_neg h5]
      split
      · exact h5
      · omega
  exact ⟨by omega, by omega, h3 h4⟩
def st (p : Int) (c : Nat → Int) (n : Nat) : Nat → Nat
  | 0 => 0
  | k + 1 => nx p c n (st p c n k)
theorem mul_rng {a b : Int} (ha : -63 ≤ a ∧ a ≤ 63) (hb : 0 ≤ b ∧ b ≤ 7) : -441 ≤ a * b ∧ a * b ≤ 441 := by
  have h1 : a * b ≤ 63 * b := Int.mul_le_mul_of_nonneg_right ha.2 hb.1
  have h2 : (-63) * b ≤ a * b := Int.mul_le_mul_of_nonneg_right ha.1 hb.1
  omega
theorem heightC {S : St} {f : Nat} {c : Nat → Int} {p : Int} (hp : 2 ≤ p ∧ p ≤ 97) (hc : PolC S f c) (hB : CoB c) {j : Nat} (hj : j < 7) : f_X4_heightAt f (ji j) (ji p) S = some (ji (vp p (c j))) := by
  have b := hB j
  have e := hc j hj
  unfold f_X4_heightAt
  simp (disch := omega) only [i0, i1, i2, i3, i4, i5, i6, i7, i8, i12, i16, i20, i30, i39, i40, i60, i64, i97, i100, i256, i1000, i10000, im1, im20, im60, l0, l1, l2, l3, l4, l5, l8, l10000, l1e9, lm10000, jl_add, jl_sub, jl_mul, jl_neg, ji_add, ji_sub, ji_mul, ji_neg, ji_l, jl_i, rL_n, rI_n, dL_n, dI_n, mnI_j, mxI_j, ji_nat, rest_j, part_n, whole_j, times_j, kc_0, kc_gt, kc_lt, kc_le, kc_ge, ji_lt, ji_le, ji_inj, jl_inj, jl_lt, jl_le, b1s, b2s, bEs, bEe, rIs, rIn, rIJ, rJs, rJn, rJI, ifp, ifn, if_true, if_false, Int.toNat_natCast, e]
  rw [facC (by omega) (by omega), b1s]
theorem endC_loop {S : St} {f n s : Nat} {c : Nat → Int} {p : Int} (hp : 2 ≤ p ∧ p ≤ 97) (hc : PolC S f c) (hB : CoB c) (hn : n ≤ 7) (h54 : S.1 (54 + f) 0 = ji n) (hs : s < n) : ∀ (N k : Nat), s + 1 + k ≤ n → n - k < N → itr (fun (q : Nat × Int32 × Int32 × Int32 × Int32 × Int32) k => s_X4_sideEnd_15 (fun (x0 : Nat) (x1 : Int32) (x2 : Int32) (x3 : Int32) (x4 : Int32) (x5 : Int32) => k (x0, x1, x2, x3, x4, x5)) S q.1 q.2.1 q.2.2.1 q.2.2.2.1 q.2.2.2.2.1 q.2.2.2.2.2) N (f, ji s, ji p, ji (sE p c s k : Nat), ji (vp p (c s) : Nat), ji ((s + 1 + k : Nat) : Int)) = some (ji (nx p c n s : Nat))
  | 0, _, _, h => absurd h (Nat.not_lt_zero _)
  | N + 1, k, hk, hN => by
    rw [itrS]
    have IH := endC_loop hp hc hB hn h54 hs N (k + 1)
    generalize itr _ N = K at IH
    show s_X4_sideEnd_15 _ S f (ji s) (ji p) (ji (sE p c s k : Nat)) (ji (vp p (c s) : Nat)) (ji ((s + 1 + k : Nat) : Int)) = _
    obtain ⟨g1, g2, g3⟩ := sE_rng (p := p) (c := c) (s := s) k
    unfold s_X4_sideEnd_15
    by_cases h7 : n ≤ s + 1 + k
    · simp (disch := omega) only [i0, i1, i2, i3, i4, i5, i6, i7, i8, i12, i16, i20, i30, i39, i40, i60, i64, i97, i100, i256, i1000, i10000, im1, im20, im60, l0, l1, l2, l3, l4, l5, l8, l10000, l1e9, lm10000, jl_add, jl_sub, jl_mul, jl_neg, ji_add, ji_sub, ji_mul, ji_neg, ji_l, jl_i, rL_n, rI_n, dL_n, dI_n, mnI_j, mxI_j, ji_nat, rest_j, part_n, whole_j, times_j, kc_0, kc_gt, kc_lt, kc_le, kc_ge, ji_lt, ji_le, ji_inj, jl_inj, jl_lt, jl_le, b1s, b2s, bEs, bEe, rIs, rIn, rIJ, rJs, rJn, rJI, ifp, ifn, if_true, if_false, h54]
      unfold nx
      rw [show n - (s + 1) = k by omega]
    · have e := hc (s + 1 + k) (by omega)
      have b := hB (s + 1 + k)
      have b2 := hB (sE p c s k)
      have b3 := hB s
      have e2 : sE p c s (k + 1) = if c (s + 1 + k) = 0 then sE p c s k else if sE p c s k = s then s + 1 + k else
        if ((vp p (c (sE p c s k)) : Int) - vp p (c s)) * (((s + 1 + k : Nat) : Int) - s) < ((vp p (c (s + 1 + k)) : Int) - vp p (c s)) * ((sE p c s k : Int) - s) then sE p c s k else s + 1 + k := rfl
      have i1' := heightC hp hc hB (j := s + 1 + k) (by omega)
      have i2' := heightC hp hc hB (j := sE p c s k) (by omega)
      have v1 := vp_62 hp.1 (z := c (s + 1 + k)) (by omega)
      have v2 := vp_62 hp.1 (z := c (sE p c s k)) (by omega)
      have v3 := vp_62 hp.1 (z := c s) (by omega)
      have m1 := mul_rng (a := (vp p (c (sE p c s k)) : Int) - vp p (c s)) (b := ((s + 1 + k : Nat) : Int) - s) (by omega) (by omega)
      have m2 := mul_rng (a := (vp p (c (s + 1 + k)) : Int) - vp p (c s)) (b := (sE p c s k : Int) - s) (by omega) (by omega)
      by_cases h0 : c (s + 1 + k) = 0
      · rw [if_pos h0] at e2
        simp (disch := omega) only [i0, i1, i2, i3, i4, i5, i6, i7, i8, i12, i16, i20, i30, i39, i40, i60, i64, i97, i100, i256, i1000, i10000, im1, im20, im60, l0, l1, l2, l3, l4, l5, l8, l10000, l1e9, lm10000, jl_add, jl_sub, jl_mul, jl_neg, ji_add, ji_sub, ji_mul, ji_neg, ji_l, jl_i, rL_n, rI_n, dL_n, dI_n, mnI_j, mxI_j, ji_nat, rest_j, part_n, whole_j, times_j, kc_0, kc_gt, kc_lt, kc_le, kc_ge, ji_lt, ji_le, ji_inj, jl_inj, jl_lt, jl_le, b1s, b2s, bEs, bEe, rIs, rIn, rIJ, rJs, rJn, rJI, ifp, ifn, if_true, if_false, Int.toNat_natCast, h54, e]
        rw [show ((s + 1 + k : Nat) : Int) + 1 = ((s + 1 + (k + 1) : Nat) : Int) by omega, ← e2]
        exact IH (by omega) (by omega)
      · rw [if_neg h0] at e2
        by_cases h4 : sE p c s k = s
        · rw [if_pos h4] at e2
          simp (disch := omega) only [i0, i1, i2, i3, i4, i5, i6, i7, i8, i12, i16, i20, i30, i39, i40, i60, i64, i97, i100, i256, i1000, i10000, im1, im20, im60, l0, l1, l2, l3, l4, l5, l8, l10000, l1e9, lm10000, jl_add, jl_sub, jl_mul, jl_neg, ji_add, ji_sub, ji_mul, ji_neg, ji_l, jl_i, rL_n, rI_n, dL_n, dI_n, mnI_j, mxI_j, ji_nat, rest_j, part_n, whole_j, times_j, kc_0, kc_gt, kc_lt, kc_le, kc_ge, ji_lt, ji_le, ji_inj, jl_inj, jl_lt, jl_le, b1s, b2s, bEs, bEe, rIs, rIn, rIJ, rJs, rJn, rJI, ifp, ifn, if_true, if_false, Int.toNat_natCast, h54, e, i1', i2']
          rw [show ((s + 1 + k : Nat) : Int) + 1 = ((s + 1 + (k + 1) : Nat) : Int) by omega, ← e2]
          exact IH (by omega) (by omega)
        · rw [if_neg h4] at e2
          by_cases h5 : ((vp p (c (sE p c s k)) : Int) - vp p (c s)) * (((s + 1 + k : Nat) : Int) - s) < ((vp p (c (s + 1 + k)) : Int) - vp p (c s)) * ((sE p c s k : Int) - s)
          · rw [if_pos h5] at e2
            simp (disch := omega) only [i0, i1, i2, i3, i4, i5, i6, i7, i8, i12, i16, i20, i30, i39, i40, i60, i64, i97, i100, i256, i1000, i10000, im1, im20, im60, l0, l1, l2, l3, l4, l5, l8, l10000, l1e9, lm10000, jl_add, jl_sub, jl_mul, jl_neg, ji_add, ji_sub, ji_mul, ji_neg, ji_l, jl_i, rL_n, rI_n, dL_n, dI_n, mnI_j, mxI_j, ji_nat, rest_j, part_n, whole_j, times_j, kc_0, kc_gt, kc_lt, kc_le, kc_ge, ji_lt, ji_le, ji_inj, jl_inj, jl_lt, jl_le, b1s, b2s, bEs, bEe, rIs, rIn, rIJ, rJs, rJn, rJI, ifp, ifn, if_true, if_false, Int.toNat_natCast, h54, e, i1', i2']
            rw [show ((s + 1 + k : Nat) : Int) + 1 = ((s + 1 + (k + 1) : Nat) : Int) by omega, ← e2]
            exact IH (by omega) (by omega)
          · rw [if_neg h5] at e2
            simp (disch := omega) only [i0, i1, i2, i3, i4, i5, i6, i7, i8, i12, i16, i20, i30, i39, i40, i60, i64, i97, i100, i256, i1000, i10000, im1, im20, im60, l0, l1, l2, l3, l4, l5, l8, l10000, l1e9, lm10000, jl_add, jl_sub, jl_mul, jl_neg, ji_add, ji_sub, ji_mul, ji_neg, ji_l, jl_i, rL_n, rI_n, dL_n, dI_n, mnI_j, mxI_j, ji_nat, rest_j, part_n, whole_j, times_j, kc_0, kc_gt, kc_lt, kc_le, kc_ge, ji_lt, ji_le, ji_inj, jl_inj, jl_lt, jl_le, b1s, b2s, bEs, bEe, rIs, rIn, rIJ, rJs, rJn, rJI, ifp, ifn, if_true, if_false, Int.toNat_natCast, h54, e, i1', i2']
            rw [show ((s + 1 + k : Nat) : Int) + 1 = ((s + 1 + (k + 1) : Nat) : Int) by omega, ← e2]
            exact IH (by omega) (by omega)
theorem endC {S : St} {f n s : Nat} {c : Nat → Int} {p : Int} (hp : 2 ≤ p ∧ p ≤ 97) (hc : PolC S f c) (hB : CoB c) (hn : n ≤ 7) (h54 : S.1 (54 + f) 0 = ji n) (hs : s < n) : f_X4_sideEnd f (ji s) (ji p) S = some (ji (nx p c n s : Nat)) := by
  have := endC_loop hp hc hB hn h54 hs FU 0 (by omega) (FU_lt (by omega))
  unfold f_X4_sideEnd
  rw [heightC hp hc hB (by omega), b1s, i1, ji_add]
  exact this
theorem st_rng {p : Int} {c : Nat → Int} {n m : Nat} (h : c (n - 1) ≠ 0) (hn : 1 ≤ n) (h0 : c 0 ≠ 0) (hm : ∀ i : Nat, i < m → st p c n i < n - 1) : ∀ i : Nat, i ≤ m → i ≤ st p c n i ∧ st p c n i ≤ n - 1 ∧ c (st p c n i) ≠ 0
  | 0, _ => ⟨Nat.le_refl _, Nat.zero_le _, h0⟩
  | i + 1, hi => by
    obtain ⟨a, b, d⟩ := st_rng h hn h0 hm i (by omega)
    obtain ⟨x, y, z⟩ := nx_rng (p := p) h (hm i (by omega))
    unfold st
    exact ⟨by omega, y, z⟩
theorem countS_loop {S : St} {f n m : Nat} {c : Nat → Int} {p : Int} (hp : 2 ≤ p ∧ p ≤ 97) (hc : PolC S f c) (hB : CoB c) (hn : 1 ≤ n ∧ n ≤ 7) (h54 : S.1 (54 + f) 0 = ji n) (h : c (n - 1) ≠ 0) (h0 : c 0 ≠ 0) (hm : ∀ i : Nat, i < m → st p c n i < n - 1) (hm2 : st p c n m = n - 1) : ∀ (N k : Nat), k ≤ m → m - k < N → itr (fun (q : Nat × Int32 × Int32 × Int32) k => s_X4_sideCount_4 (fun (x0 : Nat) (x1 : Int32) (x2 : Int32) (x3 : Int32) => k (x0, x1, x2, x3)) S q.1 q.2.1 q.2.2.1 q.2.2.2) N (f, ji p, ji k, ji (st p c n k : Nat)) = some (ji m)
  | 0, _, _, h => absurd h (Nat.not_lt_zero _)
  | N + 1, k, hk, hN => by
    rw [itrS]
    have IH := countS_loop hp hc hB hn h54 h h0 hm hm2 N (k + 1)
    generalize itr _ N = K at IH
    show s_X4_sideCount_4 _ S f (ji p) (ji k) (ji (st p c n k : Nat)) = _
    obtain ⟨a, b, d⟩ := st_rng (p := p) h hn.1 h0 hm k hk
    obtain ⟨a', -, -⟩ := st_rng (p := p) h hn.1 h0 hm m (Nat.le_refl _)
    unfold s_X4_sideCount_4
    by_cases h7 : k = m
    · subst h7
      simp (disch := omega) only [i0, i1, i2, i3, i4, i5, i6, i7, i8, i12, i16, i20, i30, i39, i40, i60, i64, i97, i100, i256, i1000, i10000, im1, im20, im60, l0, l1, l2, l3, l4, l5, l8, l10000, l1e9, lm10000, jl_add, jl_sub, jl_mul, jl_neg, ji_add, ji_sub, ji_mul, ji_neg, ji_l, jl_i, rL_n, rI_n, dL_n, dI_n, mnI_j, mxI_j, ji_nat, rest_j, part_n, whole_j, times_j, kc_0, kc_gt, kc_lt, kc_le, kc_ge, ji_lt, ji_le, ji_inj, jl_inj, jl_lt, jl_le, b1s, b2s, bEs, bEe, rIs, rIn, rIJ, rJs, rJn, rJI, ifp, ifn, if_true, if_false, h54]
    · have g := hm k (by omega)
      have e := endC hp hc hB hn.2 h54 (s := st p c n k) (by omega)
      simp (disch := omega) only [i0, i1, i2, i3, i4, i5, i6, i7, i8, i12, i16, i20, i30, i39, i40, i60, i64, i97, i100, i256, i1000, i10000, im1, im20, im60, l0, l1, l2, l3, l4, l5, l8, l10000, l1e9, lm10000, jl_add, jl_sub, jl_mul, jl_neg, ji_add, ji_sub, ji_mul, ji_neg, ji_l, jl_i, rL_n, rI_n, dL_n, dI_n, mnI_j, mxI_j, ji_nat, rest_j, part_n, whole_j, times_j, kc_0, kc_gt, kc_lt, kc_le, kc_ge, ji_lt, ji_le, ji_inj, jl_inj, jl_lt, jl_le, b1s, b2s, bEs, bEe, rIs, rIn, rIJ, rJs, rJn, rJI, ifp, ifn, if_true, if_false, h54, e]
      exact IH (by omega) (by omega)
theorem startC_loop {S : St} {f n m i : Nat} {c : Nat → Int} {p : Int} (hp : 2 ≤ p ∧ p ≤ 97) (hc : PolC S f c) (hB : CoB c) (hn : 1 ≤ n ∧ n ≤ 7) (h54 : S.1 (54 + f) 0 = ji n) (h : c (n - 1) ≠ 0) (h0 : c 0 ≠ 0) (hm : ∀ i : Nat, i < m → st p c n i < n - 1) (hi : i < m) (hm6 : m ≤ 6) : ∀ (N k : Nat), k ≤ i → i - k < N → itr (fun (q : Nat × Int32 × Int32 × Int32 × Int32) k => s_X4_sideStart_5 (fun (x0 : Nat) (x1 : Int32) (x2 : Int32) (x3 : Int32) (x4 : Int32) => k (x0, x1, x2, x3, x4)) S q.1 q.2.1 q.2.2.1 q.2.2.2.1 q.2.2.2.2) N (f, ji i, ji p, ji (st p c n k : Nat), ji k) = some (ji (st p c n i : Nat))
  | 0, _, _, h => absurd h (Nat.not_lt_zero _)
  | N + 1, k, hk, hN => by
    rw [itrS]
    have IH := startC_loop hp hc hB hn h54 h h0 hm hi hm6 N (k + 1)
    generalize itr _ N = K at IH
    show s_X4_sideStart_5 _ S f (ji i) (ji p) (ji (st p c n k : Nat)) (ji k) = _
    obtain ⟨a, b, d⟩ := st_rng (p := p) h hn.1 h0 hm k (by omega)
    unfold s_X4_sideStart_5
    by_cases h7 : k = i
    · subst h7
      simp (disch := omega) only [i0, i1, i2, i3, i4, i5, i6, i7, i8, i12, i16, i20, i30, i39, i40, i60, i64, i97, i100, i256, i1000, i10000, im1, im20, im60, l0, l1, l2, l3, l4, l5, l8, l10000, l1e9, lm10000, jl_add, jl_sub, jl_mul, jl_neg, ji_add, ji_sub, ji_mul, ji_neg, ji_l, jl_i, rL_n, rI_n, dL_n, dI_n, mnI_j, mxI_j, ji_nat, rest_j, part_n, whole_j, times_j, kc_0, kc_gt, kc_lt, kc_le, kc_ge, ji_lt, ji_le, ji_inj, jl_inj, jl_lt, jl_le, b1s, b2s, bEs, bEe, rIs, rIn, rIJ, rJs, rJn, rJI, ifp, ifn, if_true, if_false]
    · have g := hm k (by omega)
      have e := endC hp hc hB hn.2 h54 (s := st p c n k) (by omega)
      simp (disch := omega) only [i0, i1, i2, i3, i4, i5, i6, i7, i8, i12, i16, i20, i30, i39, i40, i60, i64, i97, i100, i256, i1000, i10000, im1, im20, im60, l0, l1, l2, l3, l4, l5, l8, l10000, l1e9, lm10000, jl_add, jl_sub, jl_mul, jl_neg, ji_add, ji_sub, ji_mul, ji_neg, ji_l, jl_i, rL_n, rI_n, dL_n, dI_n, mnI_j, mxI_j, ji_nat, rest_j, part_n, whole_j, times_j, kc_0, kc_gt, kc_lt, kc_le, kc_ge, ji_lt, ji_le, ji_inj, jl_inj, jl_lt, jl_le, b1s, b2s, bEs, bEe, rIs, rIn, rIJ, rJs, rJn, rJI, ifp, ifn, if_true, if_false, e]
      rw [show (k : Int) + 1 = ((k + 1 : Nat) : Int) by omega]
      exact IH (by omega) (by omega)
theorem stepM0 {T : St} {f s j n : Nat} {x : Int} {K : Int32 → Int32 → St → Option St} {K1 : Int32 → Int32 → Int32 → Int32 → St → Option St} (hf : f < 8) (h13 : T.1 13 f = ji ((n : Int) - 1)) (hn : n ≤ 7) (hj : j < n) (e : T.1 12 (7 * f + j) = ji 0) : s_X10_lowerHull_24 K K1 (ji f) (ji s) (ji x) (ji j) T = K1 (ji f) (ji s) (ji x) (ji ((j : Int) + 1)) T := by
  have a1 : (7 * (f : Int) + (j : Int)).toNat = 7 * f + j := by omega
  unfold s_X10_lowerHull_24
  simp (disch := omega) only [i0, i1, i2, i3, i4, i5, i6, i7, i8, i12, i16, i20, i30, i39, i40, i60, i64, i97, i100, i256, i1000, i10000, im1, im20, im60, l0, l1, l2, l3, l4, l5, l8, l10000, l1e9, lm10000, jl_add, jl_sub, jl_mul, jl_neg, ji_add, ji_sub, ji_mul, ji_neg, ji_l, jl_i, rL_n, rI_n, dL_n, dI_n, mnI_j, mxI_j, ji_nat, rest_j, part_n, whole_j, times_j, kc_0, kc_gt, kc_lt, kc_le, kc_ge, ji_lt, ji_le, ji_inj, jl_inj, jl_lt, jl_le, b1s, b2s, bEs, bEe, rIs, rIn, rIJ, rJs, rJn, rJI, ifp, ifn, if_true, if_false, Int.toNat_natCast, h13, a1, e]
theorem stepM1 {T : St} {f s j n : Nat} {cj cs vj vs : Int} {K : Int32 → Int32 → St → Option St} {K1 : Int32 → Int32 → Int32 → Int32 → St → Option St} (hf : f < 8) (h13 : T.1 13 f = ji ((n : Int) - 1)) (hn : n ≤ 7) (hs : s < j) (hj : j < n) (e : T.1 12 (7 * f + j) = ji cj) (es : T.1 12 (7 * f + s) = ji cs) (hcj : cj ≠ 0) (bj : -10000 ≤ cj ∧ cj ≤ 10000) (bs : -10000 ≤ cs ∧ cs ≤ 10000) (ij : f_X10_valuationOf (jl cj) T = some (ji vj)) (is : f_X10_valuationOf (jl cs) T = some (ji vs)) : s_X10_lowerHull_24 K K1 (ji f) (ji s) (ji (-1)) (ji j) T = K1 (ji f) (ji s) (ji j) (ji ((j : Int) + 1)) T := by
  have a1 : (7 * (f : Int) + (j : Int)).toNat = 7 * f + j := by omega
  have a3 : (7 * (f : Int) + (s : Int)).toNat = 7 * f + s := by omega
  unfold s_X10_lowerHull_24 n_X10_lowerHull_131
  simp (disch := omega) only [i0, i1, i2, i3, i4, i5, i6, i7, i8, i12, i16, i20, i30, i39, i40, i60, i64, i97, i100, i256, i1000, i10000, im1, im20, im60, l0, l1, l2, l3, l4, l5, l8, l10000, l1e9, lm10000, jl_add, jl_sub, jl_mul, jl_neg, ji_add, ji_sub, ji_mul, ji_neg, ji_l, jl_i, rL_n, rI_n, dL_n, dI_n, mnI_j, mxI_j, ji_nat, rest_j, part_n, whole_j, times_j, kc_0, kc_gt, kc_lt, kc_le, kc_ge, ji_lt, ji_le, ji_inj, jl_inj, jl_lt, jl_le, b1s, b2s, bEs, bEe, rIs, rIn, rIJ, rJs, rJn, rJI, ifp, ifn, if_true, if_false, Int.toNat_natCast, h13, a1, a3, e, es, ij, is]
theorem stepM2 {T : St} {f s j k n : Nat} {cj cs ck vj vs vk A B : Int} {K : Int32 → Int32 → St → Option St} {K1 : Int32 → Int32 → Int32 → Int32 → St → Option St} (hf : f < 8) (h13 : T.1 13 f = ji ((n : Int) - 1)) (hn : n ≤ 7) (hs : s < k) (hk : k < j) (hj : j < n) (e : T.1 12 (7 * f + j) = ji cj) (es : T.1 12 (7 * f + s) = ji cs) (ek : T.1 12 (7 * f + k) = ji ck) (hcj : cj ≠ 0) (bj : -10000 ≤ cj ∧ cj ≤ 10000) (bs : -10000 ≤ cs ∧ cs ≤ 10000) (bk : -10000 ≤ ck ∧ ck ≤ 10000) (ij : f_X10_valuationOf (jl cj) T = some (ji vj)) (is : f_X10_valuationOf (jl cs) T = some (ji vs)) (ik : f_X10_valuationOf (jl ck) T = some (ji vk)) (rj : 0 ≤ vj ∧ vj ≤ 63) (rs : 0 ≤ vs ∧ vs ≤ 63) (rk : 0 ≤ vk ∧ vk ≤ 63)
    (hA : (vk - vs) * ((j : Int) - s) = A) (hB : (vj - vs) * ((k : Int) - s) = B) (bA : -441 ≤ A ∧ A ≤ 441) (bB : -441 ≤ B ∧ B ≤ 441) : s_X10_lowerHull_24 K K1 (ji f) (ji s) (ji k) (ji j) T = if A < B then K1 (ji f) (ji s) (ji k) (ji ((j : Int) + 1)) T else K1 (ji f) (ji s) (ji j) (ji ((j : Int) + 1)) T := by
  have a1 : (7 * (f : Int) + (j : Int)).toNat = 7 * f + j := by omega
  have a2 : (7 * (f : Int) + (k : Int)).toNat = 7 * f + k := by omega
  have a3 : (7 * (f : Int) + (s : Int)).toNat = 7 * f + s := by omega
  unfold s_X10_lowerHull_24 n_X10_lowerHull_131
  simp (disch := omega) only [i0, i1, i2, i3, i4, i5, i6, i7, i8, i12, i16, i20, i30, i39, i40, i60, i64, i97, i100, i256, i1000, i10000, im1, im20, im60, l0, l1, l2, l3, l4, l5, l8, l10000, l1e9, lm10000, jl_add, jl_sub, jl_mul, jl_neg, ji_add, ji_sub, ji_mul, ji_neg, ji_l, jl_i, rL_n, rI_n, dL_n, dI_n, mnI_j, mxI_j, ji_nat, rest_j, part_n, whole_j, times_j, kc_0, kc_gt, kc_lt, kc_le, kc_ge, ji_lt, ji_le, ji_inj, jl_inj, jl_lt, jl_le, b1s, b2s, bEs, bEe, rIs, rIn, rIJ, rJs, rJn, rJI, ifp, ifn, if_true, if_false, Int.toNat_natCast, h13, a1, a2, a3, e, es, ek, ij, is, ik, hA, hB]
theorem hullM_in {T : St} {R : Option St} {f n s x : Nat} {c : Nat → Int} {p : Int} {K : Int32 → Int32 → St → Option St} (h18 : T.1 0 18 = ji p) (hp : 2 ≤ p ∧ p ≤ 97) (hf : f < 8) (hc : ∀ j : Nat, j < 7 → T.1 12 (7 * f + j) = ji (c j)) (hB : CoB c) (hn : n ≤ 7) (h13 : T.1 13 f = ji ((n : Int) - 1)) (hs : s < n) (h25 : T.1 0 25 = ji x) (hx : x < 8) (hnx : nx p c n s ≠ s)
    (hK : K (ji f) (ji (nx p c n s : Nat)) (wI (wI (wI T 16 x (ji s)) 17 x (ji (nx p c n s : Nat))) 0 25 (ji ((x : Int) + 1))) = R) : ∀ (N k : Nat), s + 1 + k ≤ n → n - k < N → itr (fun (q : Int32 × Int32 × Int32 × Int32 × St) k => s_X10_lowerHull_24 K (fun (x1 : Int32) (x2 : Int32) (x3 : Int32) (x4 : Int32) (S : St) => k (x1, x2, x3, x4, S)) q.1 q.2.1 q.2.2.1 q.2.2.2.1 q.2.2.2.2) N (ji f, ji s, ji (if sE p c s k = s then -1 else (sE p c s k : Int)), ji ((s + 1 + k : Nat) : Int), T) = R
  | 0, _, _, h => absurd h (Nat.not_lt_zero _)
  | N + 1, k, hk, hN => by
    rw [itrS]
    have IH := hullM_in h18 hp hf hc hB hn h13 hs h25 hx hnx hK N (k + 1)
    generalize itr _ N = K1 at IH
    show s_X10_lowerHull_24 K (fun (x1 : Int32) (x2 : Int32) (x3 : Int32) (x4 : Int32) (S : St) => K1 (x1, x2, x3, x4, S)) (ji f) (ji s) (ji (if sE p c s k = s then -1 else (sE p c s k : Int))) (ji ((s + 1 + k : Nat) : Int)) T = _
    obtain ⟨g1, g2, g3⟩ := sE_rng (p := p) (c := c) (s := s) k
    by_cases h7 : n ≤ s + 1 + k
    · have hnk : nx p c n s = sE p c s k := by unfold nx; rw [show n - (s + 1) = k by omega]
      rw [hnk] at hK hnx
      rw [if_neg hnx]
      clear IH hnk hB hc h18
      unfold s_X10_lowerHull_24
      simp (disch := omega) only [i0, i1, i2, i3, i4, i5, i6, i7, i8, i12, i16, i20, i30, i39, i40, i60, i64, i97, i100, i256, i1000, i10000, im1, im20, im60, l0, l1, l2, l3, l4, l5, l8, l10000, l1e9, lm10000, jl_add, jl_sub, jl_mul, jl_neg, ji_add, ji_sub, ji_mul, ji_neg, ji_l, jl_i, rL_n, rI_n, dL_n, dI_n, mnI_j, mxI_j, ji_nat, rest_j, part_n, whole_j, times_j, kc_0, kc_gt, kc_lt, kc_le, kc_ge, ji_lt, ji_le, ji_inj, jl_inj, jl_lt, jl_le, b1s, b2s, bEs, bEe, rIs, rIn, rIJ, rJs, rJn, rJI, ifp, ifn, if_true, if_false, Int.toNat_natCast, h13, h25]
      exact hK
    · have e := hc (s + 1 + k) (by omega)
      have ee := hc (sE p c s k) (by omega)
      have es := hc s (by omega)
      have b := hB (s + 1 + k)
      have b2 := hB (sE p c s k)
      have b3 := hB s
      have e2 : sE p c s (k + 1) = if c (s + 1 + k) = 0 then sE p c s k else if sE p c s k = s then s + 1 + k else
        if ((vp p (c (sE p c s k)) : Int) - vp p (c s)) * (((s + 1 + k : Nat) : Int) - s) < ((vp p (c (s + 1 + k)) : Int) - vp p (c s)) * ((sE p c s k : Int) - s) then sE p c s k else s + 1 + k := rfl
      have i1' := valM h18 hp (z := c (s + 1 + k)) (by omega)
      have i2' := valM h18 hp (z := c (sE p c s k)) (by omega)
      have i3' := valM h18 hp (z := c s) (by omega)
      have v1 := vp_62 hp.1 (z := c (s + 1 + k)) (by omega)
      have v2 := vp_62 hp.1 (z := c (sE p c s k)) (by omega)
      have v3 := vp_62 hp.1 (z := c s) (by omega)
      have m1 := mul_rng (a := (vp p (c (sE p c s k)) : Int) - vp p (c s)) (b := ((s + 1 + k : Nat) : Int) - s) (by omega) (by omega)
      have m2 := mul_rng (a := (vp p (c (s + 1 + k)) : Int) - vp p (c s)) (b := (sE p c s k : Int) - s) (by omega) (by omega)
      have next := IH (by omega) (by omega)
      by_cases h0 : c (s + 1 + k) = 0
      · rw [if_pos h0] at e2
        rw [e2] at next
        rw [stepM0 hf h13 hn (by omega) (e.trans (by rw [h0])), show ((s + 1 + k : Nat) : Int) + 1 = ((s + 1 + (k + 1) : Nat) : Int) by omega]
        exact next
      · rw [if_neg h0] at e2
        by_cases h4 : sE p c s k = s
        · rw [if_pos h4] at e2
          rw [e2, if_neg (by omega)] at next
          rw [if_pos h4, stepM1 hf h13 hn (by omega) (by omega) e es h0 b b3 i1' i3', show ((s + 1 + k : Nat) : Int) + 1 = ((s + 1 + (k + 1) : Nat) : Int) by omega]
          exact next
        · rw [if_neg h4] at e2
          rw [if_neg h4, stepM2 hf h13 hn (by omega) (by omega) (by omega) e es ee h0 b b3 b2 i1' i3' i2' (by omega) (by omega) (by omega) rfl rfl m1 m2, show ((s + 1 + k : Nat) : Int) + 1 = ((s + 1 + (k + 1) : Nat) : Int) by omega]
          by_cases h5 : ((vp p (c (sE p c s k)) : Int) - vp p (c s)) * (((s + 1 + k : Nat) : Int) - s) < ((vp p (c (s + 1 + k)) : Int) - vp p (c s)) * ((sE p c s k : Int) - s)
          · rw [if_pos h5] at e2 ⊢
            rw [e2, if_neg h4] at next
            exact next
          · rw [if_neg h5] at e2 ⊢
            rw [e2, if_neg (by omega)] at next
            exact next
theorem hullM {f n : Nat} {c : Nat → Int} {p : Int} (hp : 2 ≤ p ∧ p ≤ 97) (hf : f < 8) (hB : CoB c) (hn : 1 ≤ n ∧ n ≤ 7) (h : c (n - 1) ≠ 0) : ∀ (N k : Nat) (T : St), T.1 0 18 = ji p → (∀ j : Nat, j < 7 → T.1 12 (7 * f + j) = ji (c j)) → T.1 13 f = ji ((n : Int) - 1) → T.1 0 25 = ji k → k ≤ st p c n k → st p c n k ≤ n - 1 → n - st p c n k < N →
    ∃ (m : Nat) (T' : St), k ≤ m ∧ itr (fun (q : Int32 × Int32 × St) k => s_X10_lowerHull_7 (fun (x1 : Int32) (x2 : Int32) (S : St) => k (x1, x2, S)) q.1 q.2.1 q.2.2) N (ji f, ji (st p c n k : Nat), T) = some T' ∧ st p c n m = n - 1 ∧ (∀ i : Nat, k ≤ i → i < m → st p c n i < n - 1) ∧ T'.1 0 25 = ji m ∧ (∀ i : Nat, k ≤ i → i < m → T'.1 16 i = ji (st p c n i : Nat) ∧ T'.1 17 i = ji (st p c n (i + 1) : Nat)) ∧ (∀ o i : Nat, ¬ (o = 0 ∧ i = 25) → (o = 16 ∨ o = 17 → i < k) → T'.1 o i = T.1 o i) ∧ T'.2 = T.2
  | 0, _, _, _, _, _, _, _, _, h => absurd h (Nat.not_lt_zero _)
  | N + 1, k, T, h18, hc, h13, h25, hk1, hk2, hN => by
    rw [itrS]
    have IH := hullM hp hf hB hn h N (k + 1)
    generalize itr _ N = K at IH
    show ∃ (m : Nat) (T' : St), k ≤ m ∧ s_X10_lowerHull_7 _ (ji f) (ji (st p c n k : Nat)) T = some T' ∧ _
    unfold s_X10_lowerHull_7
    by_cases h7 : st p c n k = n - 1
    · refine ⟨k, T, Nat.le_refl _, ?_, h7, fun i a b => by omega, h25, fun i a b => by omega, fun _ _ _ _ => rfl, rfl⟩
      simp (disch := omega) only [i0, i1, i2, i3, i4, i5, i6, i7, i8, i12, i16, i20, i30, i39, i40, i60, i64, i97, i100, i256, i1000, i10000, im1, im20, im60, l0, l1, l2, l3, l4, l5, l8, l10000, l1e9, lm10000, jl_add, jl_sub, jl_mul, jl_neg, ji_add, ji_sub, ji_mul, ji_neg, ji_l, jl_i, rL_n, rI_n, dL_n, dI_n, mnI_j, mxI_j, ji_nat, rest_j, part_n, whole_j, times_j, kc_0, kc_gt, kc_lt, kc_le, kc_ge, ji_lt, ji_le, ji_inj, jl_inj, jl_lt, jl_le, b1s, b2s, bEs, bEe, rIs, rIn, rIJ, rJs, rJn, rJI, ifp, ifn, if_true, if_false, Int.toNat_natCast, h13]
    · obtain ⟨g1, g2, g3⟩ := nx_rng (p := p) h (s := st p c n k) (by omega)
      have e2 : st p c n (k + 1) = nx p c n (st p c n k) := rfl
      obtain ⟨m, T', m1, m2, m3, m4, m5, m6, m7, m8⟩ := IH (wI (wI (wI T 16 k (ji (st p c n k : Nat))) 17 k (ji (st p c n (k + 1) : Nat))) 0 25 (ji ((k : Int) + 1)))
        (by simp (disch := omega) only [rIs, rIn, rIJ, rJs, rJn, rJI]; exact h18) (fun j hj => by simp (disch := omega) only [rIs, rIn, rIJ, rJs, rJn, rJI]; exact hc j hj) (by simp (disch := omega) only [rIs, rIn, rIJ, rJs, rJn, rJI]; exact h13) (by simp (disch := omega) only [rIs, rIn, rIJ, rJs, rJn, rJI]; rfl) (by omega) (by omega) (by omega)
      have inn := fun R hR => hullM_in (T := T) (R := R) (s := st p c n k) (x := k) (K := fun (x1 : Int32) (x2 : Int32) (S : St) => K (x1, x2, S)) h18 hp hf hc hB hn.2 h13 (by omega) h25 (by omega) (by omega) hR FU 0 (by omega) (FU_lt (by omega))
      have inn := inn _ (by rw [← e2])
      refine ⟨m, T', by omega, ?_, m3, fun i a b => ?_, m5, fun i a b => ?_, fun o i a b => ?_, m8⟩
      · simp (disch := omega) only [i0, i1, i2, i3, i4, i5, i6, i7, i8, i12, i16, i20, i30, i39, i40, i60, i64, i97, i100, i256, i1000, i10000, im1, im20, im60, l0, l1, l2, l3, l4, l5, l8, l10000, l1e9, lm10000, jl_add, jl_sub, jl_mul, jl_neg, ji_add, ji_sub, ji_mul, ji_neg, ji_l, jl_i, rL_n, rI_n, dL_n, dI_n, mnI_j, mxI_j, ji_nat, rest_j, part_n, whole_j, times_j, kc_0, kc_gt, kc_lt, kc_le, kc_ge, ji_lt, ji_le, ji_inj, jl_inj, jl_lt, jl_le, b1s, b2s, bEs, bEe, rIs, rIn, rIJ, rJs, rJn, rJI, ifp, ifn, if_true, if_false, Int.toNat_natCast, h13]
        rw [show sE p c (st p c n k) 0 = st p c n k from rfl, if_pos rfl, show (((st p c n k + 1 + 0 : Nat) : Nat) : Int) = (st p c n k : Int) + 1 by omega] at inn
        exact inn.trans m2
      · by_cases hi : i = k
        · subst hi; omega
        · exact m4 i (by omega) b
      · by_cases hi : i = k
        · subst hi
          rw [m7 _ _ (by omega) (by omega), m7 _ _ (by omega) (by omega)]
          exact ⟨by simp (disch := omega) only [rIs, rIn, rIJ, rJs, rJn, rJI], by simp (disch := omega) only [rIs, rIn, rIJ, rJs, rJn, rJI]⟩
        · exact m6 i (by omega) b
      · rw [m7 o i a (by omega)]
        simp (disch := omega) only [rIs, rIn, rIJ, rJs, rJn, rJI]
