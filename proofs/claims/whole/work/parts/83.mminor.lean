theorem lap_L {A : Nat → Nat → Int} : ∀ (k r c : Nat), r < 16 → c < 16 → pop r = k → pop c = k → lap A k r c = L A k (pl r) (pl c)
  | 0, _, _, _, _, _, _ => rfl
  | k + 1, r, c, hr, hc, pr', pc' => by
    have hr0 : r ≠ 0 := fun q => by rw [q] at pr'; exact absurd pr' (by show ¬ 0 = k + 1; omega)
    have hc0 : c ≠ 0 := fun q => by rw [q] at pc'; exact absurd pc' (by show ¬ 0 = k + 1; omega)
    obtain ⟨-, l1, l2, l3, l4, l5⟩ := k_last r hr hr0
    obtain ⟨m1, m2⟩ := k_lst r hr hr0
    have hk := (k_count r hr).2
    have s := lap_sum (fun j => A (lst r) j * lap A k (r - 2 ^ lst r) (c - 2 ^ j)) c (by omega) hc
    unfold lap L
    refine s.trans ?_
    rw [show pop c - 1 = k by omega]
    apply Sg_congr (by omega)
    intro i hi
    obtain ⟨n1, n2, n3, n4⟩ := k_pl c hc i (by omega)
    show A (lst r) (pl c i) * lap A k (r - 2 ^ lst r) (c - 2 ^ pl c i) = A (pl r k) (pl c i) * L A k (pl r) (sk i (pl c))
    rw [show pop r - 1 = k by omega] at m1
    rw [show A (lst r) (pl c i) = A (pl r k) (pl c i) by rw [m1]]
    have cl := Nat.sub_le c (2 ^ pl c i)
    rw [lap_L k _ _ (by omega) (by omega) (by omega) (by omega), L_congr k (by omega) (p' := pl r) (q' := sk i (pl c)) (fun j hj => ⟨m2 j (by omega), ?_⟩)]
    rw [n4 j (by omega)]
    rfl
/-! the minor of the one program -/
def EnM (T : St) (A : Nat → Nat → Int) : Prop := ∀ i j : Nat, i < 4 → j < 4 → T.1 15 (4 * i + j) = ji (A i j) ∧ -999 ≤ A i j ∧ A i j ≤ 999
theorem minM_in {T : St} {A : Nat → Nat → Int} {R : Option Int64} {r c k x : Nat} {acc : Int} {x6 : Int32} {K : Int32 → Int32 → Int32 → Int64 → Int32 → Option Int64} (hA : EnM T A) (hr : r < 16) (hc : c < 16) (kr : pop r = k) (kc : pop c = k) (hd : ∀ i : Nat, i < k → dg x i < k)
    (hK : K (ji r) (ji c) (ji k) (jl (acc + pr A (pl r) (pl c) x k)) (x6 + 1) = R) : ∀ (N i : Nat), i ≤ k → k - i < N → itr (fun (q : Int32 × Int32 × Int32 × Int64 × Int32 × Int32 × Int32 × Int32 × Int32 × Int64 × Int32) k => s_X10_minor_298 K (fun (x1 : Int32) (x2 : Int32) (x3 : Int32) (x4 : Int64) (x6 : Int32) (x7 : Int32) (x8 : Int32) (x9 : Int32) (x10 : Int32) (x13 : Int64) (x15 : Int32) => k (x1, x2, x3, x4, x6, x7, x8, x9, x10, x13, x15)) T q.1 q.2.1 q.2.2.1 q.2.2.2.1 q.2.2.2.2.1 q.2.2.2.2.2.1 q.2.2.2.2.2.2.1 q.2.2.2.2.2.2.2.1 q.2.2.2.2.2.2.2.2.1 q.2.2.2.2.2.2.2.2.2.1 q.2.2.2.2.2.2.2.2.2.2) N (ji r, ji c, ji k, jl acc, x6, ji (dg x 0 : Nat), ji (dg x 1 : Nat), ji (dg x 2 : Nat), ji (dg x 3 : Nat), jl (pr A (pl r) (pl c) x i), ji i) = R
  | 0, _, _, h => absurd h (Nat.not_lt_zero _)
  | N + 1, i, hi, hN => by
    rw [itrS]
    have IH := minM_in (acc := acc) (x6 := x6) hA hr hc kr kc hd hK N (i + 1)
    generalize itr _ N = K1 at IH
    show s_X10_minor_298 K (fun (x1 : Int32) (x2 : Int32) (x3 : Int32) (x4 : Int64) (x6 : Int32) (x7 : Int32) (x8 : Int32) (x9 : Int32) (x10 : Int32) (x13 : Int64) (x15 : Int32) => K1 (x1, x2, x3, x4, x6, x7, x8, x9, x10, x13, x15)) T (ji r) (ji c) (ji k) (jl acc) x6 (ji (dg x 0 : Nat)) (ji (dg x 1 : Nat)) (ji (dg x 2 : Nat)) (ji (dg x 3 : Nat)) (jl (pr A (pl r) (pl c) x i)) (ji i) = R
    have hk := (k_count r hr).2
    unfold s_X10_minor_298
    by_cases h : i = k
    · subst h
      simp (disch := omega) only [i0, i1, i2, i3, i4, i5, i6, i7, i8, i12, i16, i20, i30, i39, i40, i60, i64, i97, i100, i256, i1000, i10000, im1, im20, im60, l0, l1, l2, l3, l4, l5, l8, l10000, l1e9, lm10000, jl_add, jl_sub, jl_mul, jl_neg, ji_add, ji_sub, ji_mul, ji_neg, ji_l, jl_i, rL_n, rI_n, dL_n, dI_n, mnI_j, mxI_j, ji_nat, rest_j, part_n, whole_j, times_j, kc_0, kc_gt, kc_lt, kc_le, kc_ge, ji_lt, ji_le, ji_inj, jl_inj, jl_lt, jl_le, b1s, b2s, bEs, bEe, rIs, rIn, rIJ, rJs, rJn, rJI, ifp, ifn, if_true, if_false]
      rw [← i1]
      exact hK
    · have d := hd i (by omega)
      obtain ⟨p1, p2⟩ := k_place r hr i (by omega)
      obtain ⟨q1, q2⟩ := k_place c hc (dg x i) (by omega)
      obtain ⟨a1, a2, a3⟩ := hA (pl r i) (pl c (dg x i)) p2 q2
      have next := IH (by omega) (by omega)
      have e4 : (4 * (pl r i : Int) + (pl c (dg x i) : Int)).toNat = 4 * pl r i + pl c (dg x i) := by omega
      have e5 : pr A (pl r) (pl c) x (i + 1) = pr A (pl r) (pl c) x i * A (pl r i) (pl c (dg x i)) := rfl
      have step : n_X10_minor_353 K (fun (x1 : Int32) (x2 : Int32) (x3 : Int32) (x4 : Int64) (x6 : Int32) (x7 : Int32) (x8 : Int32) (x9 : Int32) (x10 : Int32) (x13 : Int64) (x15 : Int32) => K1 (x1, x2, x3, x4, x6, x7, x8, x9, x10, x13, x15)) T (ji r) (ji c) (ji k) (jl acc) x6 (ji (dg x 0 : Nat)) (ji (dg x 1 : Nat)) (ji (dg x 2 : Nat)) (ji (dg x 3 : Nat)) (ji i) (jl (pr A (pl r) (pl c) x i)) (ji (4 * (pl r i : Int))) (ji c) (ji (dg x i : Nat)) = R := by
        clear hK IH
        unfold n_X10_minor_353
        simp (disch := omega) only [i0, i1, i2, i3, i4, i5, i6, i7, i8, i12, i16, i20, i30, i39, i40, i60, i64, i97, i100, i256, i1000, i10000, im1, im20, im60, l0, l1, l2, l3, l4, l5, l8, l10000, l1e9, lm10000, jl_add, jl_sub, jl_mul, jl_neg, ji_add, ji_sub, ji_mul, ji_neg, ji_l, jl_i, rL_n, rI_n, dL_n, dI_n, mnI_j, mxI_j, ji_nat, rest_j, part_n, whole_j, times_j, kc_0, kc_gt, kc_lt, kc_le, kc_ge, ji_lt, ji_le, ji_inj, jl_inj, jl_lt, jl_le, b1s, b2s, bEs, bEe, rIs, rIn, rIJ, rJs, rJn, rJI, ifp, ifn, if_true, if_false, q1, e4, a1]
        rw [← e5, show (i : Int) + 1 = ((i + 1 : Nat) : Int) by omega]
        exact next
      clear next IH hK e4 e5 a1 q1
      rcases show i = 0 ∨ i = 1 ∨ i = 2 ∨ i = 3 by omega with q | q | q | q <;> subst q
      · simp (disch := omega) only [i0, i1, i2, i3, i4, i5, i6, i7, i8, i12, i16, i20, i30, i39, i40, i60, i64, i97, i100, i256, i1000, i10000, im1, im20, im60, l0, l1, l2, l3, l4, l5, l8, l10000, l1e9, lm10000, jl_add, jl_sub, jl_mul, jl_neg, ji_add, ji_sub, ji_mul, ji_neg, ji_l, jl_i, rL_n, rI_n, dL_n, dI_n, mnI_j, mxI_j, ji_nat, rest_j, part_n, whole_j, times_j, kc_0, kc_gt, kc_lt, kc_le, kc_ge, ji_lt, ji_le, ji_inj, jl_inj, jl_lt, jl_le, b1s, b2s, bEs, bEe, rIs, rIn, rIJ, rJs, rJn, rJI, ifp, ifn, if_true, if_false, p1]
        exact step
      · simp (disch := omega) only [i0, i1, i2, i3, i4, i5, i6, i7, i8, i12, i16, i20, i30, i39, i40, i60, i64, i97, i100, i256, i1000, i10000, im1, im20, im60, l0, l1, l2, l3, l4, l5, l8, l10000, l1e9, lm10000, jl_add, jl_sub, jl_mul, jl_neg, ji_add, ji_sub, ji_mul, ji_neg, ji_l, jl_i, rL_n, rI_n, dL_n, dI_n, mnI_j, mxI_j, ji_nat, rest_j, part_n, whole_j, times_j, kc_0, kc_gt, kc_lt, kc_le, kc_ge, ji_lt, ji_le, ji_inj, jl_inj, jl_lt, jl_le, b1s, b2s, bEs, bEe, rIs, rIn, rIJ, rJs, rJn, rJI, ifp, ifn, if_true, if_false, p1]
        exact step
      · simp (disch := omega) only [i0, i1, i2, i3, i4, i5, i6, i7, i8, i12, i16, i20, i30, i39, i40, i60, i64, i97, i100, i256, i1000, i10000, im1, im20, im60, l0, l1, l2, l3, l4, l5, l8, l10000, l1e9, lm10000, jl_add, jl_sub, jl_mul, jl_neg, ji_add, ji_sub, ji_mul, ji_neg, ji_l, jl_i, rL_n, rI_n, dL_n, dI_n, mnI_j, mxI_j, ji_nat, rest_j, part_n, whole_j, times_j, kc_0, kc_gt, kc_lt, kc_le, kc_ge, ji_lt, ji_le, ji_inj, jl_inj, jl_lt, jl_le, b1s, b2s, bEs, bEe, rIs, rIn, rIJ, rJs, rJn, rJI, ifp, ifn, if_true, if_false, p1]
        exact step
      · simp (disch := omega) only [i0, i1, i2, i3, i4, i5, i6, i7, i8, i12, i16, i20, i30, i39, i40, i60, i64, i97, i100, i256, i1000, i10000, im1, im20, im60, l0, l1, l2, l3, l4, l5, l8, l10000, l1e9, lm10000, jl_add, jl_sub, jl_mul, jl_neg, ji_add, ji_sub, ji_mul, ji_neg, ji_l, jl_i, rL_n, rI_n, dL_n, dI_n, mnI_j, mxI_j, ji_nat, rest_j, part_n, whole_j, times_j, kc_0, kc_gt, kc_lt, kc_le, kc_ge, ji_lt, ji_le, ji_inj, jl_inj, jl_lt, jl_le, b1s, b2s, bEs, bEe, rIs, rIn, rIJ, rJs, rJn, rJI, ifp, ifn, if_true, if_false, p1]
        exact step
theorem m276 {K : Int32 → Int32 → Int32 → Int64 → Int32 → Option Int64} {T : St} {x1 x2 x3 x6 a b c d : Int32} {x4 : Int64} {y0 y1 : Int} (h0 : 0 ≤ y0 ∧ y0 ≤ 6) (h1 : 0 ≤ y1 ∧ y1 ≤ 6) : n_X10_minor_276 K T x1 x2 x3 x4 x6 a b c d (ji y0) (ji y1) = n_X10_minor_298 K T x1 x2 x3 x4 x6 a b c d (jl (if (y0 + y1) % 2 = 0 then 1 else -1)) (ji 0) := by
  unfold n_X10_minor_276
  by_cases h : (y0 + y1) % 2 = 0
  · rw [if_pos h]
    simp (disch := omega) only [i0, i1, i2, i3, i4, i5, i6, i7, i8, i12, i16, i20, i30, i39, i40, i60, i64, i97, i100, i256, i1000, i10000, im1, im20, im60, l0, l1, l2, l3, l4, l5, l8, l10000, l1e9, lm10000, jl_add, jl_sub, jl_mul, jl_neg, ji_add, ji_sub, ji_mul, ji_neg, ji_l, jl_i, rL_n, rI_n, dL_n, dI_n, mnI_j, mxI_j, ji_nat, rest_j, part_n, whole_j, times_j, kc_0, kc_gt, kc_lt, kc_le, kc_ge, ji_lt, ji_le, ji_inj, jl_inj, jl_lt, jl_le, b1s, b2s, bEs, bEe, rIs, rIn, rIJ, rJs, rJn, rJI, ifp, ifn, if_true, if_false]
  · rw [if_neg h]
    simp (disch := omega) only [i0, i1, i2, i3, i4, i5, i6, i7, i8, i12, i16, i20, i30, i39, i40, i60, i64, i97, i100, i256, i1000, i10000, im1, im20, im60, l0, l1, l2, l3, l4, l5, l8, l10000, l1e9, lm10000, jl_add, jl_sub, jl_mul, jl_neg, ji_add, ji_sub, ji_mul, ji_neg, ji_l, jl_i, rL_n, rI_n, dL_n, dI_n, mnI_j, mxI_j, ji_nat, rest_j, part_n, whole_j, times_j, kc_0, kc_gt, kc_lt, kc_le, kc_ge, ji_lt, ji_le, ji_inj, jl_inj, jl_lt, jl_le, b1s, b2s, bEs, bEe, rIs, rIn, rIJ, rJs, rJn, rJI, ifp, ifn, if_true, if_false]
theorem m263 {K : Int32 → Int32 → Int32 → Int64 → Int32 → Option Int64} {T : St} {x1 x2 x3 x6 : Int32} {x4 : Int64} {a b c d : Nat} {y0 y1 : Int} (hc : c < 4) (hd : d < 4) : n_X10_minor_263 K T x1 x2 x3 x4 x6 (ji a) (ji b) (ji c) (ji d) (ji y0) (ji y1) = n_X10_minor_276 K T x1 x2 x3 x4 x6 (ji a) (ji b) (ji c) (ji d) (ji (y0 + y1)) (ji (inv2 c d : Nat)) := by
  unfold n_X10_minor_263 inv2
  by_cases h : c ≤ d
  · rw [if_pos ((ji_le (by omega) (by omega)).mpr (by omega))]
    simp only [if_pos h, jl_add, jl_sub, jl_mul, jl_neg, ji_add, ji_sub, ji_mul, ji_neg, ji_l, jl_i, rL_n, rI_n, dL_n, dI_n, mnI_j, mxI_j, ji_nat, rest_j, part_n, whole_j, times_j]
    try rfl
  · rw [if_neg (fun q => h (by have := (ji_le (by omega) (by omega)).mp q; omega))]
    simp only [if_neg h, jl_add, jl_sub, jl_mul, jl_neg, ji_add, ji_sub, ji_mul, ji_neg, ji_l, jl_i, rL_n, rI_n, dL_n, dI_n, mnI_j, mxI_j, ji_nat, rest_j, part_n, whole_j, times_j]
    try rfl
theorem m250 {K : Int32 → Int32 → Int32 → Int64 → Int32 → Option Int64} {T : St} {x1 x2 x3 x6 : Int32} {x4 : Int64} {a b c d : Nat} {y0 y1 : Int} (hb : b < 4) (hd : d < 4) : n_X10_minor_250 K T x1 x2 x3 x4 x6 (ji a) (ji b) (ji c) (ji d) (ji y0) (ji y1) = n_X10_minor_263 K T x1 x2 x3 x4 x6 (ji a) (ji b) (ji c) (ji d) (ji (y0 + y1)) (ji (inv2 b d : Nat)) := by
  unfold n_X10_minor_250 inv2
  by_cases h : b ≤ d
  · rw [if_pos ((ji_le (by omega) (by omega)).mpr (by omega))]
    simp only [if_pos h, jl_add, jl_sub, jl_mul, jl_neg, ji_add, ji_sub, ji_mul, ji_neg, ji_l, jl_i, rL_n, rI_n, dL_n, dI_n, mnI_j, mxI_j, ji_nat, rest_j, part_n, whole_j, times_j]
    try rfl
  · rw [if_neg (fun q => h (by have := (ji_le (by omega) (by omega)).mp q; omega))]
    simp only [if_neg h, jl_add, jl_sub, jl_mul, jl_neg, ji_add, ji_sub, ji_mul, ji_neg, ji_l, jl_i, rL_n, rI_n, dL_n, dI_n, mnI_j, mxI_j, ji_nat, rest_j, part_n, whole_j, times_j]
    try rfl
theorem m237 {K : Int32 → Int32 → Int32 → Int64 → Int32 → Option Int64} {T : St} {x1 x2 x3 x6 : Int32} {x4 : Int64} {a b c d : Nat} {y0 y1 : Int} (hb : b < 4) (hc : c < 4) : n_X10_minor_237 K T x1 x2 x3 x4 x6 (ji a) (ji b) (ji c) (ji d) (ji y0) (ji y1) = n_X10_minor_250 K T x1 x2 x3 x4 x6 (ji a) (ji b) (ji c) (ji d) (ji (y0 + y1)) (ji (inv2 b c : Nat)) := by
  unfold n_X10_minor_237 inv2
  by_cases h : b ≤ c
  · rw [if_pos ((ji_le (by omega) (by omega)).mpr (by omega))]
    simp only [if_pos h, jl_add, jl_sub, jl_mul, jl_neg, ji_add, ji_sub, ji_mul, ji_neg, ji_l, jl_i, rL_n, rI_n, dL_n, dI_n, mnI_j, mxI_j, ji_nat, rest_j, part_n, whole_j, times_j]
    try rfl
  · rw [if_neg (fun q => h (by have := (ji_le (by omega) (by omega)).mp q; omega))]
    simp only [if_neg h, jl_add, jl_sub, jl_mul, jl_neg, ji_add, ji_sub, ji_mul, ji_neg, ji_l, jl_i, rL_n, rI_n, dL_n, dI_n, mnI_j, mxI_j, ji_nat, rest_j, part_n, whole_j, times_j]
    try rfl
theorem m224 {K : Int32 → Int32 → Int32 → Int64 → Int32 → Option Int64} {T : St} {x1 x2 x3 x6 : Int32} {x4 : Int64} {a b c d : Nat} {y0 y1 : Int} (ha : a < 4) (hd : d < 4) : n_X10_minor_224 K T x1 x2 x3 x4 x6 (ji a) (ji b) (ji c) (ji d) (ji y0) (ji y1) = n_X10_minor_237 K T x1 x2 x3 x4 x6 (ji a) (ji b) (ji c) (ji d) (ji (y0 + y1)) (ji (inv2 a d : Nat)) := by
  unfold n_X10_minor_224 inv2
  by_cases h : a ≤ d
  · rw [if_pos ((ji_le (by omega) (by omega)).mpr (by omega))]
    simp only [if_pos h, jl_add, jl_sub, jl_mul, jl_neg, ji_add, ji_sub, ji_mul, ji_neg, ji_l, jl_i, rL_n, rI_n, dL_n, dI_n, mnI_j, mxI_j, ji_nat, rest_j, part_n, whole_j, times_j]
    try rfl
  · rw [if_neg (fun q => h (by have := (ji_le (by omega) (by omega)).mp q; omega))]
    simp only [if_neg h, jl_add, jl_sub, jl_mul, jl_neg, ji_add, ji_sub, ji_mul, ji_neg, ji_l, jl_i, rL_n, rI_n, dL_n, dI_n, mnI_j, mxI_j, ji_nat, rest_j, part_n, whole_j, times_j]
    try rfl
theorem m212 {K : Int32 → Int32 → Int32 → Int64 → Int32 → Option Int64} {T : St} {x1 x2 x3 x6 : Int32} {x4 : Int64} {a b c d : Nat} {y0 : Int} (ha : a < 4) (hc : c < 4) : n_X10_minor_212 K T x1 x2 x3 x4 x6 (ji a) (ji b) (ji c) (ji d) (ji y0) = n_X10_minor_224 K T x1 x2 x3 x4 x6 (ji a) (ji b) (ji c) (ji d) (ji y0) (ji (inv2 a c : Nat)) := by
  unfold n_X10_minor_212 inv2
  by_cases h : a ≤ c
  · rw [if_pos ((ji_le (by omega) (by omega)).mpr (by omega))]
    simp only [if_pos h, jl_add, jl_sub, jl_mul, jl_neg, ji_add, ji_sub, ji_mul, ji_neg, ji_l, jl_i, rL_n, rI_n, dL_n, dI_n, mnI_j, mxI_j, ji_nat, rest_j, part_n, whole_j, times_j]
    try rfl
  · rw [if_neg (fun q => h (by have := (ji_le (by omega) (by omega)).mp q; omega))]
    simp only [if_neg h, jl_add, jl_sub, jl_mul, jl_neg, ji_add, ji_sub, ji_mul, ji_neg, ji_l, jl_i, rL_n, rI_n, dL_n, dI_n, mnI_j, mxI_j, ji_nat, rest_j, part_n, whole_j, times_j]
    try rfl
theorem m148 {K : Int32 → Int32 → Int32 → Int64 → Int32 → Option Int64} {T : St} {x1 x2 x3 x6 : Int32} {x4 : Int64} {a b c d : Nat} (ha : a < 4) (hb : b < 4) (hc : c < 4) (hd : d < 4) : n_X10_minor_148 K T x1 x2 x3 x4 x6 (ji a) (ji b) (ji c) (ji d) 1 = if a ≠ b ∧ a ≠ c ∧ a ≠ d ∧ b ≠ c ∧ b ≠ d ∧ c ≠ d then n_X10_minor_298 K T x1 x2 x3 x4 x6 (ji a) (ji b) (ji c) (ji d) (jl (sgc a b c d)) (ji 0) else K x1 x2 x3 x4 (x6 + 1) := by
  have iv : ∀ u v : Nat, inv2 u v ≤ 1 := fun u v => by unfold inv2; split <;> omega
  have h1 := iv a b
  have h2 := iv a c
  have h3 := iv a d
  have h4 := iv b c
  have h5 := iv b d
  have h6 := iv c d
  have ne : ∀ u v : Nat, u < 4 → v < 4 → (ji (u : Int) = ji (v : Int) ↔ u = v) := fun u v hu hv => by
    rw [ji_inj (by omega) (by omega)]
    omega
  have go : ∀ y : Nat, y = inv2 a b → n_X10_minor_212 K T x1 x2 x3 x4 x6 (ji a) (ji b) (ji c) (ji d) (ji y) = n_X10_minor_298 K T x1 x2 x3 x4 x6 (ji a) (ji b) (ji c) (ji d) (jl (sgc a b c d)) (ji 0) := fun y hy => by
    rw [m212 ha hc, m224 ha hd, m237 hb hc, m250 hb hd, m263 hc hd, m276 (by omega) (by omega)]
    congr 2
    unfold sgc
    by_cases q : (inv2 a b + inv2 a c + inv2 a d + inv2 b c + inv2 b d + inv2 c d) % 2 = 0
    · rw [if_pos q, if_pos (by omega)]
    · rw [if_neg q, if_neg (by omega)]
  unfold n_X10_minor_148
  rw [if_neg (by decide)]
  by_cases e1 : a = b
  · rw [if_pos ((ne a b ha hb).mpr e1), if_neg (show ¬ (a ≠ b ∧ a ≠ c ∧ a ≠ d ∧ b ≠ c ∧ b ≠ d ∧ c ≠ d) by omega)]
  · rw [if_neg (fun q => e1 ((ne a b ha hb).mp q))]
    by_cases e2 : a = c
    · rw [if_pos ((ne a c ha hc).mpr e2), if_neg (show ¬ (a ≠ b ∧ a ≠ c ∧ a ≠ d ∧ b ≠ c ∧ b ≠ d ∧ c ≠ d) by omega)]
    · rw [if_neg (fun q => e2 ((ne a c ha hc).mp q))]
      by_cases e3 : a = d
      · rw [if_pos ((ne a d ha hd).mpr e3), if_neg (show ¬ (a ≠ b ∧ a ≠ c ∧ a ≠ d ∧ b ≠ c ∧ b ≠ d ∧ c ≠ d) by omega)]
      · rw [if_neg (fun q => e3 ((ne a d ha hd).mp q))]
        by_cases e4 : b = c
        · rw [if_pos ((ne b c hb hc).mpr e4), if_neg (show ¬ (a ≠ b ∧ a ≠ c ∧ a ≠ d ∧ b ≠ c ∧ b ≠ d ∧ c ≠ d) by omega)]
        · rw [if_neg (fun q => e4 ((ne b c hb hc).mp q))]
          by_cases e5 : b = d
          · rw [if_pos ((ne b d hb hd).mpr e5), if_neg (show ¬ (a ≠ b ∧ a ≠ c ∧ a ≠ d ∧ b ≠ c ∧ b ≠ d ∧ c ≠ d) by omega)]
          · rw [if_neg (fun q => e5 ((ne b d hb hd).mp q))]
            by_cases e6 : c = d
            · rw [if_pos ((ne c d hc hd).mpr e6), if_neg (show ¬ (a ≠ b ∧ a ≠ c ∧ a ≠ d ∧ b ≠ c ∧ b ≠ d ∧ c ≠ d) by omega)]
            · rw [if_neg (fun q => e6 ((ne c d hc hd).mp q)), if_pos (show a ≠ b ∧ a ≠ c ∧ a ≠ d ∧ b ≠ c ∧ b ≠ d ∧ c ≠ d from ⟨e1, e2, e3, e4, e5, e6⟩)]
              by_cases h : a ≤ b
              · rw [if_pos ((ji_le (by omega) (by omega)).mpr (by omega))]
                exact go 0 (by unfold inv2; rw [if_pos h])
              · rw [if_neg (fun q => h (by have := (ji_le (by omega) (by omega)).mp q; omega))]
                exact go 1 (by unfold inv2; rw [if_neg h])
theorem m148_0 {K : Int32 → Int32 → Int32 → Int64 → Int32 → Option Int64} {T : St} {x1 x2 x3 x6 a b c d : Int32} {x4 : Int64} : n_X10_minor_148 K T x1 x2 x3 x4 x6 a b c d 0 = K x1 x2 x3 x4 (x6 + 1) := by
  unfold n_X10_minor_148
  rw [if_pos rfl]
theorem leN {u v : Nat} (hu : u < 300) (hv : v < 300) : (ji (u : Int) ≤ ji (v : Int)) = (u ≤ v) := by
  rw [eq_iff_iff, ji_le (by omega) (by omega)]
  omega
theorem ltN {u v : Nat} (hu : u < 300) (hv : v < 300) : (ji (u : Int) < ji (v : Int)) = (u < v) := by
  rw [eq_iff_iff, ji_lt (by omega) (by omega)]
  omega
theorem eqN {u v : Nat} (hu : u < 300) (hv : v < 300) : (ji (u : Int) = ji (v : Int)) = (u = v) := by
  rw [eq_iff_iff, ji_inj (by omega) (by omega)]
  omega
theorem m118 {K : Int32 → Int32 → Int32 → Int64 → Int32 → Option Int64} {T : St} {x1 x2 x6 a b c : Int32} {x4 : Int64} {k d : Nat} (hk : 1 ≤ k ∧ k ≤ 4) (hd : d < 4) : n_X10_minor_118 K T x1 x2 (ji k) x4 x6 a b c (ji d) = if (4 ≤ k → d < k) ∧ (k = 3 → d = 3) then n_X10_minor_148 K T x1 x2 (ji k) x4 x6 a b c (ji d) 1 else n_X10_minor_148 K T x1 x2 (ji k) x4 x6 a b c (ji d) 0 := by
  have w3 : (3 : Int32) = ji (3 : Nat) := rfl
  have w4 : (4 : Int32) = ji (4 : Nat) := rfl
  unfold n_X10_minor_118
  rw [w3, w4]
  simp (disch := omega) only [leN, ltN, eqN]
  generalize n_X10_minor_148 K T x1 x2 (ji k) x4 x6 a b c (ji d) 1 = G1
  generalize n_X10_minor_148 K T x1 x2 (ji k) x4 x6 a b c (ji d) 0 = G0
  by_cases h : (4 ≤ k → d < k) ∧ (k = 3 → d = 3)
  · rw [if_pos h]
    repeat' split
    all_goals first | rfl | (exfalso; omega)
  · rw [if_neg h]
    repeat' split
    all_goals first | rfl | (exfalso; omega)
theorem m87 {K : Int32 → Int32 → Int32 → Int64 → Int32 → Option Int64} {T : St} {x1 x2 x6 a b : Int32} {x4 : Int64} {k c d : Nat} (hk : 1 ≤ k ∧ k ≤ 4) (hc : c < 4) (hd : d < 4) : n_X10_minor_87 K T x1 x2 (ji k) x4 x6 a b (ji c) (ji d) = if (3 ≤ k → c < k) ∧ (k = 2 → c = 2 ∧ d = 3) ∧ (4 ≤ k → d < k) ∧ (k = 3 → d = 3) then n_X10_minor_148 K T x1 x2 (ji k) x4 x6 a b (ji c) (ji d) 1 else n_X10_minor_148 K T x1 x2 (ji k) x4 x6 a b (ji c) (ji d) 0 := by
  have w2 : (2 : Int32) = ji (2 : Nat) := rfl
  have w3 : (3 : Int32) = ji (3 : Nat) := rfl
  unfold n_X10_minor_87
  rw [m118 hk hd, w3, w2]
  simp (disch := omega) only [leN, ltN, eqN]
  generalize n_X10_minor_148 K T x1 x2 (ji k) x4 x6 a b (ji c) (ji d) 1 = G1
  generalize n_X10_minor_148 K T x1 x2 (ji k) x4 x6 a b (ji c) (ji d) 0 = G0
  by_cases h : (3 ≤ k → c < k) ∧ (k = 2 → c = 2 ∧ d = 3) ∧ (4 ≤ k → d < k) ∧ (k = 3 → d = 3)
  · rw [if_pos h]
    repeat' split
    all_goals first | rfl | (exfalso; omega)
  · rw [if_neg h]
    repeat' split
    all_goals first | rfl | (exfalso; omega)
theorem m11 {K : Int32 → Int32 → Int32 → Int64 → Int32 → Option Int64} {T : St} {x1 x2 : Int32} {x4 : Int64} {k x : Nat} (hk : 1 ≤ k ∧ k ≤ 4) (hx : x < 256) : s_X10_minor_11 K T x1 x2 (ji k) x4 (ji x) = if okx k x = true then n_X10_minor_298 K T x1 x2 (ji k) x4 (ji x) (ji (dg x 0 : Nat)) (ji (dg x 1 : Nat)) (ji (dg x 2 : Nat)) (ji (dg x 3 : Nat)) (jl (sgx x)) (ji 0) else K x1 x2 (ji k) x4 (ji x + 1) := by
  have d0 : dg x 0 < 4 ∧ (x : Int) % 4 = (dg x 0 : Nat) := by unfold dg; omega
  have d1 : dg x 1 < 4 ∧ (x : Int) / 4 % 4 = (dg x 1 : Nat) := by unfold dg; omega
  have d2 : dg x 2 < 4 ∧ (x : Int) / 16 % 4 = (dg x 2 : Nat) := by unfold dg; omega
  have d3 : dg x 3 < 4 ∧ (x : Int) / 64 = (dg x 3 : Nat) := by unfold dg; omega
  have e0 : rI (ji x) 4 = ji (dg x 0 : Nat) := by rw [i4, rI_n (by omega) (by omega), d0.2]
  have e1 : rI (ji x / 4) 4 = ji (dg x 1 : Nat) := by rw [i4, dI_n (by omega) (by omega), rI_n (by omega) (by omega), d1.2]
  have e2 : rI (ji x / 16) 4 = ji (dg x 2 : Nat) := by rw [i4, i16, dI_n (by omega) (by omega), rI_n (by omega) (by omega), d2.2]
  have e3 : ji x / 64 = ji (dg x 3 : Nat) := by rw [i64, dI_n (by omega) (by omega), d3.2]
  have m1 := m148 (K := K) (T := T) (x1 := x1) (x2 := x2) (x3 := ji k) (x6 := ji x) (x4 := x4) d0.1 d1.1 d2.1 d3.1
  unfold s_X10_minor_11
  rw [e0, e1, e2, e3]
  unfold okx okc sgx
  obtain ⟨d0, -⟩ := d0
  obtain ⟨d1, -⟩ := d1
  obtain ⟨d2, -⟩ := d2
  obtain ⟨d3, -⟩ := d3
  clear e0 e1 e2 e3
  generalize dg x 0 = a at *
  generalize dg x 1 = b at *
  generalize dg x 2 = c at *
  generalize dg x 3 = d at *
  have w1 : (1 : Int32) = ji (1 : Nat) := rfl
  have w2 : (2 : Int32) = ji (2 : Nat) := rfl
  have w3 : (3 : Int32) = ji (3 : Nat) := rfl
  have w256 : ¬ (256 : Int32) ≤ ji x := by
    rw [i256, ji_le (by omega) (by omega)]
    omega
  rw [if_neg w256, m87 hk d2 d3]
  have cc : okc k a b c d = true ↔ (a < k ∧ (2 ≤ k → b < k) ∧ (k < 2 → b = 1) ∧ (3 ≤ k → c < k) ∧ (k < 3 → c = 2) ∧ (4 ≤ k → d < k) ∧ (k < 4 → d = 3) ∧ a ≠ b ∧ a ≠ c ∧ a ≠ d ∧ b ≠ c ∧ b ≠ d ∧ c ≠ d) := decide_eq_true_iff
  have m0 := @m148_0 K T x1 x2 (ji k) (ji x) (ji a) (ji b) (ji c) (ji d) x4
  generalize hX : K x1 x2 (ji k) x4 (ji x + 1) = X at *
  generalize n_X10_minor_298 K T x1 x2 (ji k) x4 (ji x) (ji a) (ji b) (ji c) (ji d) (jl (sgc a b c d)) (ji 0) = Y at *
  generalize n_X10_minor_148 K T x1 x2 (ji k) x4 (ji x) (ji a) (ji b) (ji c) (ji d) 1 = G1 at *
  generalize n_X10_minor_148 K T x1 x2 (ji k) x4 (ji x) (ji a) (ji b) (ji c) (ji d) 0 = G0 at *
  clear hX
  subst m0
  rw [w1, w2, w3]
  simp (disch := omega) only [leN, ltN, eqN]
  clear w1 w2 w3 w256
  unfold okc at cc
  by_cases h : decide (a < k ∧ (2 ≤ k → b < k) ∧ (k < 2 → b = 1) ∧ (3 ≤ k → c < k) ∧ (k < 3 → c = 2) ∧ (4 ≤ k → d < k) ∧ (k < 4 → d = 3) ∧ a ≠ b ∧ a ≠ c ∧ a ≠ d ∧ b ≠ c ∧ b ≠ d ∧ c ≠ d) = true
  · rw [if_pos h]
    have h' := cc.mp h
    rw [if_pos h'.2.2.2.2.2.2.2] at m1
    subst m1
    repeat' split
    all_goals first | rfl | (exfalso; omega)
  · rw [if_neg h]
    rw [cc] at h
    rw [m1]
    repeat' split
    all_goals first | rfl | (exfalso; omega)
theorem minM_loop {T : St} {A : Nat → Nat → Int} {r c k : Nat} (hA : EnM T A) (hr : r < 16) (hc : c < 16) (kr : pop r = k) (kc : pop c = k) (hk : 1 ≤ k) : ∀ (N x : Nat), x ≤ 256 → 256 - x < N → itr (fun (q : Int32 × Int32 × Int32 × Int64 × Int32) k => s_X10_minor_11 (fun (x1 : Int32) (x2 : Int32) (x3 : Int32) (x4 : Int64) (x6 : Int32) => k (x1, x2, x3, x4, x6)) T q.1 q.2.1 q.2.2.1 q.2.2.2.1 q.2.2.2.2) N (ji r, ji c, ji k, jl (sm A (pl r) (pl c) k x), ji x) = some (jl (sm A (pl r) (pl c) k 256))
  | 0, _, _, h => absurd h (Nat.not_lt_zero _)
  | N + 1, x, hx, hN => by
    rw [itrS]
    have IH := minM_loop hA hr hc kr kc hk N (x + 1)
    generalize itr _ N = K at IH
    show s_X10_minor_11 (fun (x1 : Int32) (x2 : Int32) (x3 : Int32) (x4 : Int64) (x6 : Int32) => K (x1, x2, x3, x4, x6)) T (ji r) (ji c) (ji k) (jl (sm A (pl r) (pl c) k x)) (ji x) = _
    have hk4 := (k_count r hr).2
    by_cases h : x = 256
    · subst h
      unfold s_X10_minor_11
      simp (disch := omega) only [i0, i1, i2, i3, i4, i5, i6, i7, i8, i12, i16, i20, i30, i39, i40, i60, i64, i97, i100, i256, i1000, i10000, im1, im20, im60, l0, l1, l2, l3, l4, l5, l8, l10000, l1e9, lm10000, jl_add, jl_sub, jl_mul, jl_neg, ji_add, ji_sub, ji_mul, ji_neg, ji_l, jl_i, rL_n, rI_n, dL_n, dI_n, mnI_j, mxI_j, ji_nat, rest_j, part_n, whole_j, times_j, kc_0, kc_gt, kc_lt, kc_le, kc_ge, ji_lt, ji_le, ji_inj, jl_inj, jl_lt, jl_le, b1s, b2s, bEs, bEe, rIs, rIn, rIJ, rJs, rJn, rJI, ifp, ifn, if_true, if_false]
    · have next := IH (by omega) (by omega)
      have e : (ji ((x + 1 : Nat) : Int)) = ji x + 1 := by rw [i1, ji_add, show ((x + 1 : Nat) : Int) = (x : Int) + 1 by omega]
      rw [e, sm] at next
      rw [m11 ⟨hk, by omega⟩ (by omega)]
      by_cases ok : okx k x = true
      · rw [if_pos ok] at next ⊢
        have cc : okc k (dg x 0) (dg x 1) (dg x 2) (dg x 3) = true := ok
        have cc := of_decide_eq_true cc
        refine minM_in (acc := sm A (pl r) (pl c) k x) hA hr hc kr kc (fun i hi => ?_) next FU 0 (by omega) (FU_lt (by omega))
        rcases show i = 0 ∨ i = 1 ∨ i = 2 ∨ i = 3 by omega with q | q | q | q <;> subst q <;> omega
      · rw [if_neg ok, Int.add_zero] at next
        rw [if_neg ok]
        exact next
theorem minM {T : St} {A : Nat → Nat → Int} {r c : Nat} (hA : EnM T A) (hr : r < 16) (hc : c < 16) (hk : pop r = pop c) (h0 : 1 ≤ pop r) : f_X10_minor (ji r) (ji c) T = some (jl (mn A r c)) := by
  have hk4 := (k_count r hr).2
  have L1 := minM_loop hA hr hc rfl hk.symm h0 FU 0 (by omega) (FU_lt (by omega))
  have e : sm A (pl r) (pl c) (pop r) 256 = mn A r c := by
    unfold mn
    rw [if_pos hk, lap_L (pop r) r c hr hc rfl hk.symm]
    generalize pop r = k at *
    rcases show k = 1 ∨ k = 2 ∨ k = 3 ∨ k = 4 by omega with q | q | q | q <;> subst q
    · exact sm_1 A _ _
    · exact sm_2 A _ _
    · exact sm_3 A _ _
    · exact sm_4 A _ _
  rw [e] at L1
  unfold f_X10_minor
  rw [k_bits r hr, b1s]
  exact L1
