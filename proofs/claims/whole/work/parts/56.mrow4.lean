theorem rowM_inner {T T' : St} {p : Int} {r n X k sp : Nat} {f : Nat → Int} {s : Int} (h : T.1 0 18 = ji p) (hP : Pr p) (hr : Rch p r) (hf : RoB f) (hk : k ≤ 11) (hn : n < 40) (hrow : ∀ j : Nat, j ≤ k → T.1 10 (12 * n + j) = ji (f j)) (hsp : 1 ≤ sp ∧ sp ≤ r) (hX : (X : Int) < 1000000000) (hs : 0 ≤ s ∧ s < p ^ sp) (hs2 : p ^ sp ∣ s - rs f X k)
    (K : Int32 × Int32 × Int64 × Int64 × Int64 × Int32 × St → Option St)
    (hK : ∀ s', 0 ≤ s' → s' < p ^ sp → p ^ sp ∣ s' - rs f X (k + 1) → K (ji n, ji sp, jl (p ^ sp), jl X, jl s', ji ((k + 1 : Nat) : Int), T) = some T') :
    ∀ (N i : Nat), i ≤ k + 1 → k + 1 - i < N →
    itr (fun (q : Int32 × Int32 × Int64 × Int64 × Int64 × Int32 × Int64 × Int32 × St) k => s_X10_rowAt_100 (fun (x2 : Int32) (x3 : Int32) (x5 : Int64) (x7 : Int64) (x9 : Int64) (x11 : Int32) (S : St) => K (x2, x3, x5, x7, x9, x11, S)) (fun (x2 : Int32) (x3 : Int32) (x5 : Int64) (x7 : Int64) (x9 : Int64) (x11 : Int32) (x12 : Int64) (x14 : Int32) (S : St) => k (x2, x3, x5, x7, x9, x11, x12, x14, S)) q.1 q.2.1 q.2.2.1 q.2.2.2.1 q.2.2.2.2.1 q.2.2.2.2.2.1 q.2.2.2.2.2.2.1 q.2.2.2.2.2.2.2.1 q.2.2.2.2.2.2.2.2) N (ji n, ji sp, jl (p ^ sp), jl X, jl s, ji k, jl (ds f k i), ji i, T) = some T'
  | 0, _, _, h => absurd h (Nat.not_lt_zero _)
  | N + 1, i, hi, hN => by
    rw [itrS]
    have IH := rowM_inner h hP hr hf hk hn hrow hsp hX hs hs2 K hK N (i + 1)
    generalize itr _ N = K2 at IH
    show s_X10_rowAt_100 _ _ (ji n) (ji sp) (jl (p ^ sp)) (jl X) (jl s) (ji k) (jl (ds f k i)) (ji i) T = _
    have hp := hr.1
    have hrr := hr.2.2.2.2
    have g2 := pw_pos hp sp
    have g5 := hr.le (show sp ≤ r by omega)
    unfold s_X10_rowAt_100
    by_cases hc : k < i
    · have g12 := ds_rng hf hk i (by omega)
      have e0 : ds f k i = df f k := by unfold df; rw [show i = k + 1 by omega]
      rw [e0] at g12
      have g13 := emod_rng (a := df f k) g2
      have g14 := emod_rng (a := (bn X k : Int)) g2
      have g15 := sq_rng g13 g14 (by omega)
      have e1 : f_X10_ways (jl X) (ji k) (ji sp) T = some (jl ((bn X k : Int) % p ^ sp)) := waysM h hP hr hk hsp hX
      rw [e0]
      simp (disch := omega) only [i0, i1, i2, i3, i4, i5, i6, i7, i8, i12, i16, i20, i30, i39, i40, i60, i64, i97, i100, i256, i1000, i10000, im1, im20, im60, l0, l1, l2, l3, l4, l5, l8, l10000, l1e9, lm10000, jl_add, jl_sub, jl_mul, jl_neg, ji_add, ji_sub, ji_mul, ji_neg, ji_l, jl_i, rL_n, rI_n, dL_n, dI_n, mnI_j, mxI_j, ji_nat, rest_j, part_n, whole_j, times_j, kc_0, kc_gt, kc_lt, kc_le, kc_ge, ji_lt, ji_le, ji_inj, jl_inj, jl_lt, jl_le, b1s, b2s, bEs, bEe, rIs, rIn, rIJ, rJs, rJn, rJI, ifp, ifn, if_true, if_false, e1]
      rw [show (k : Int) + 1 = ((k + 1 : Nat) : Int) by omega]
      refine hK _ (emod_rng g2).1 (emod_rng g2).2 ?_
      have i1 := mod_dvd (s + df f k % p ^ sp * ((bn X k : Int) % p ^ sp)) (p ^ sp)
      have i2 := mod_dvd (df f k) (p ^ sp)
      have i3 := mod_dvd (bn X k : Int) (p ^ sp)
      rw [rs]
      generalize (s + df f k % p ^ sp * ((bn X k : Int) % p ^ sp)) % p ^ sp = c at *
      generalize df f k % p ^ sp = d' at *
      generalize (bn X k : Int) % p ^ sp = b' at *
      generalize p ^ sp = m at *
      clear g13 g14 g15 g12 e1 IH h hr
      obtain ⟨t1, h1⟩ := i1
      obtain ⟨t2, h2⟩ := i2
      obtain ⟨t3, h3⟩ := i3
      obtain ⟨t4, h4⟩ := hs2
      refine ⟨t1 + t4 + t2 * b' + t3 * df f k, ?_⟩
      generalize df f k = D at *
      generalize (bn X k : Int) = B at *
      grind
    · have e := hrow i (by omega)
      have e2 : (12 * (n : Int) + (i : Int)).toNat = 12 * n + i := by omega
      have h8 : ds f k i + f i * bn k i * sg (k - i) = ds f k (i + 1) := rfl
      have h4 := hf i
      have h1 := (bn_small k hk i (by omega)).1
      have ch := chM (n := k) (k := i) hk (by omega)
      unfold sg at h8
      simp (disch := omega) only [i0, i1, i2, i3, i4, i5, i6, i7, i8, i12, i16, i20, i30, i39, i40, i60, i64, i97, i100, i256, i1000, i10000, im1, im20, im60, l0, l1, l2, l3, l4, l5, l8, l10000, l1e9, lm10000, jl_add, jl_sub, jl_mul, jl_neg, ji_add, ji_sub, ji_mul, ji_neg, ji_l, jl_i, rL_n, rI_n, dL_n, dI_n, mnI_j, mxI_j, ji_nat, rest_j, part_n, whole_j, times_j, kc_0, kc_gt, kc_lt, kc_le, kc_ge, ji_lt, ji_le, ji_inj, jl_inj, jl_lt, jl_le, b1s, b2s, bEs, bEe, rIs, rIn, rIJ, rJs, rJn, rJI, ifp, ifn, if_true, if_false, e2, e, ch]
      rw [show (i : Int) + 1 = ((i + 1 : Nat) : Int) by omega]
      by_cases hp : ((k : Int) - i) % 2 = 0
      · rw [if_pos hp]
        rw [if_pos (by omega)] at h8
        rw [h8]
        exact IH (by omega) (by omega)
      · rw [if_neg hp]
        rw [if_neg (by omega)] at h8
        rw [h8]
        exact IH (by omega) (by omega)
theorem rowM_outer {T : St} {p : Int} {r n X m sp : Nat} {f : Nat → Int} (h : T.1 0 18 = ji p) (hP : Pr p) (hr : Rch p r) (hf : RoB f) (hm : m ≤ 12) (hn : n < 40) (h7 : T.1 7 n = ji m) (hrow : ∀ j : Nat, j < m → T.1 10 (12 * n + j) = ji (f j)) (hsp : 1 ≤ sp ∧ sp ≤ r) (hX : (X : Int) < 1000000000) :
    ∀ (N k : Nat) (s : Int), k ≤ m → 0 ≤ s → s < p ^ sp → p ^ sp ∣ s - rs f X k → m - k < N →
    itr (fun (q : Int32 × Int32 × Int64 × Int64 × Int64 × Int32 × St) k => s_X10_rowAt_83 (fun (x2 : Int32) (x3 : Int32) (x5 : Int64) (x7 : Int64) (x9 : Int64) (x11 : Int32) (S : St) => k (x2, x3, x5, x7, x9, x11, S)) q.1 q.2.1 q.2.2.1 q.2.2.2.1 q.2.2.2.2.1 q.2.2.2.2.2.1 q.2.2.2.2.2.2) N (ji n, ji sp, jl (p ^ sp), jl X, jl s, ji k, T) = some (setF T (lay p r 0 sp (rs f X m)))
  | 0, _, _, _, _, _, _, h => absurd h (Nat.not_lt_zero _)
  | N + 1, k, s, hk, hs1, hs2, hs3, hN => by
    rw [itrS]
    have IH := rowM_outer h hP hr hf hm hn h7 hrow hsp hX N (k + 1)
    generalize itr _ N = K at IH
    show s_X10_rowAt_83 _ (ji n) (ji sp) (jl (p ^ sp)) (jl X) (jl s) (ji k) T = _
    have hp := hr.1
    have hrr := hr.2.2.2.2
    have g2 := pw_pos hp sp
    have g5 := hr.le (show sp ≤ r by omega)
    unfold s_X10_rowAt_83
    by_cases hc : m ≤ k
    · have : k = m := by omega
      subst this
      simp (disch := omega) only [i0, i1, i2, i3, i4, i5, i6, i7, i8, i12, i16, i20, i30, i39, i40, i60, i64, i97, i100, i256, i1000, i10000, im1, im20, im60, l0, l1, l2, l3, l4, l5, l8, l10000, l1e9, lm10000, jl_add, jl_sub, jl_mul, jl_neg, ji_add, ji_sub, ji_mul, ji_neg, ji_l, jl_i, rL_n, rI_n, dL_n, dI_n, mnI_j, mxI_j, ji_nat, rest_j, part_n, whole_j, times_j, kc_0, kc_gt, kc_lt, kc_le, kc_ge, ji_lt, ji_le, ji_inj, jl_inj, jl_lt, jl_le, b1s, b2s, bEs, bEe, rIs, rIn, rIJ, rJs, rJn, rJI, ifp, ifn, if_true, if_false, Int.toNat_natCast, h7]
      rw [laysM h hr (by omega) (by omega) (by omega) (by omega), b1s, lay_congr (w := s) hp]
      exact Int.dvd_trans (pw_dvd p (by omega)) hs3
    · simp (disch := omega) only [i0, i1, i2, i3, i4, i5, i6, i7, i8, i12, i16, i20, i30, i39, i40, i60, i64, i97, i100, i256, i1000, i10000, im1, im20, im60, l0, l1, l2, l3, l4, l5, l8, l10000, l1e9, lm10000, jl_add, jl_sub, jl_mul, jl_neg, ji_add, ji_sub, ji_mul, ji_neg, ji_l, jl_i, rL_n, rI_n, dL_n, dI_n, mnI_j, mxI_j, ji_nat, rest_j, part_n, whole_j, times_j, kc_0, kc_gt, kc_lt, kc_le, kc_ge, ji_lt, ji_le, ji_inj, jl_inj, jl_lt, jl_le, b1s, b2s, bEs, bEe, rIs, rIn, rIJ, rJs, rJn, rJI, ifp, ifn, if_true, if_false, Int.toNat_natCast, h7]
      exact rowM_inner h hP hr hf (by omega) hn (fun j hj => hrow j (by omega)) hsp hX ⟨hs1, hs2⟩ hs3 K (fun s' q1 q2 q3 => IH s' (by omega) q1 q2 q3 (by omega)) FU 0 (by omega) (FU_lt (by omega))
theorem rowM {T : St} {p : Int} {r n k2 m : Nat} {x : Int × Int × Int} {f : Nat → Int} (h : T.1 0 18 = ji p) (hP : Pr p) (hr : Rch p r) (hk2 : k2 < 40) (hx : NumM T k2 x) (wx : Wf p r x) (hf : RoB f) (hm : m ≤ 12) (hn : n < 40) (h7 : T.1 7 n = ji m) (hrow : ∀ j : Nat, j < m → T.1 10 (12 * n + j) = ji (f j)) (h0 : 0 ≤ x.1) (hs : 0 < min x.2.1 (r : Int) - gl p m) : f_X10_rowAt (ji k2) (ji n) T = some (setF T (rowS p r x m f)) := by
  have hp := hr.1
  have hrr := hr.2.2.2.2
  have ux := wx.u9 hr
  have wx' := wx
  obtain ⟨a1, a2, a3, a4, -⟩ := wx'
  obtain ⟨x1, x2, x3⟩ := hx
  have g0 := pw_pos hp (min x.2.1 (r : Int)).toNat
  have g3 := emod_rng (a := x.2.2 * p ^ x.1.toNat) g0
  have hX : (((ptS p r x).toNat : Nat) : Int) = ptS p r x := by
    have : 0 ≤ ptS p r x := g3.1
    omega
  have g1 := hr.le (show (min x.2.1 (r : Int)).toNat ≤ r by omega)
  have g2 := pw_pos hp (min x.2.1 (r : Int) - gl p m).toNat
  have hpt : ptS p r x < p ^ (min x.2.1 (r : Int)).toNat := g3.2
  have e1 : ((min x.2.1 (r : Int) - gl p m).toNat : Int) = min x.2.1 (r : Int) - gl p m := by omega
  have fin := rowM_outer (X := (ptS p r x).toNat) (sp := (min x.2.1 (r : Int) - gl p m).toNat) h hP hr hf hm hn h7 hrow (by omega) (by omega) FU 0 0 (by omega) (by omega) g2 (by rw [rs]; exact Int.dvd_zero _) (FU_lt (by omega))
  rw [hX, e1] at fin
  unfold f_X10_rowAt
  simp (disch := omega) only [ifn, ji_nat, ji_inj, ji_lt, i0, Int.toNat_natCast, h7, x1, x2, x3]
  rw [knownM h hr hk2 ⟨x1, x2, x3⟩ wx hm, b1s, mostM h hr, b1s, pwM h ⟨hp, hr.2.1⟩ (by omega), b1s]
  simp (disch := omega) only [i0, i1, i2, i3, i4, i5, i6, i7, i8, i12, i16, i20, i30, i39, i40, i60, i64, i97, i100, i256, i1000, i10000, im1, im20, im60, l0, l1, l2, l3, l4, l5, l8, l10000, l1e9, lm10000, jl_add, jl_sub, jl_mul, jl_neg, ji_add, ji_sub, ji_mul, ji_neg, ji_l, jl_i, rL_n, rI_n, dL_n, dI_n, mnI_j, mxI_j, ji_nat, rest_j, part_n, whole_j, times_j, kc_0, kc_gt, kc_lt, kc_le, kc_ge, ji_lt, ji_le, ji_inj, jl_inj, jl_lt, jl_le, b1s, b2s, bEs, bEe, rIs, rIn, rIJ, rJs, rJn, rJI, ifp, ifn, if_true, if_false]
  by_cases hc : x.1 < min x.2.1 (r : Int)
  · have b5 := hr.le (show x.1.toNat ≤ r by omega)
    have b6 := pw_pos hp x.1.toNat
    have b7 := sq_rng (a := x.2.2) (b := p ^ x.1.toNat) (m := 2147483648) (by omega) (by omega) (by omega)
    rw [if_pos hc, pwM h ⟨hp, hr.2.1⟩ (by omega), b1s, pwM h ⟨hp, hr.2.1⟩ (by omega), b1s]
    simp (disch := omega) only [i0, i1, i2, i3, i4, i5, i6, i7, i8, i12, i16, i20, i30, i39, i40, i60, i64, i97, i100, i256, i1000, i10000, im1, im20, im60, l0, l1, l2, l3, l4, l5, l8, l10000, l1e9, lm10000, jl_add, jl_sub, jl_mul, jl_neg, ji_add, ji_sub, ji_mul, ji_neg, ji_l, jl_i, rL_n, rI_n, dL_n, dI_n, mnI_j, mxI_j, ji_nat, rest_j, part_n, whole_j, times_j, kc_0, kc_gt, kc_lt, kc_le, kc_ge, ji_lt, ji_le, ji_inj, jl_inj, jl_lt, jl_le, b1s, b2s, bEs, bEe, rIs, rIn, rIJ, rJs, rJn, rJI, ifp, ifn, if_true, if_false]
    exact fin
  · rw [if_neg hc]
    have e2 : ptS p r x = 0 := Int.emod_eq_zero_of_dvd (Int.dvd_mul_of_dvd_right (pw_dvd p (by omega)))
    rw [e2] at fin
    have e3 : rowS p r x m f = lay p r 0 (min x.2.1 (r : Int) - gl p m) (rs f (0 : Int).toNat m) := by unfold rowS; rw [e2]
    rw [e3]
    exact fin
