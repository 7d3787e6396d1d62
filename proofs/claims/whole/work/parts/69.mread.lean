/-! primes -/
def isF (n : Nat) : Nat → Nat → Nat
  | 0, _ => 1
  | k + 1, d => if n < d * d then 1 else if n % d = 0 then 0 else isF n k (d + 1)
def isP (n : Nat) : Nat := if 2 ≤ n then isF n 100 2 else 0
theorem isF_01 (n : Nat) : ∀ k d : Nat, isF n k d = 0 ∨ isF n k d = 1
  | 0, _ => Or.inr rfl
  | k + 1, d => by
    unfold isF
    split
    · exact Or.inr rfl
    · split
      · exact Or.inl rfl
      · exact isF_01 n k (d + 1)
theorem isP_01 (n : Nat) : isP n = 0 ∨ isP n = 1 := by
  unfold isP
  split
  · exact isF_01 _ _ _
  · exact Or.inl rfl
theorem isP_25 : ∀ n, n ≤ 97 → isP n = 1 → n ∈ P25 := by decide +kernel
theorem isP_odd {n : Nat} (h : isP n = 1) (h2 : n ≠ 2) : n % 2 = 1 ∧ 3 ≤ n := by
  unfold isP at h
  by_cases hn : 2 ≤ n
  · rw [if_pos hn] at h
    unfold isF at h
    by_cases h3 : n = 3
    · subst h3; exact ⟨rfl, by omega⟩
    · rw [if_neg (by omega)] at h
      by_cases he : n % 2 = 0
      · rw [if_pos he] at h
        exact absurd h (by decide)
      · omega
  · rw [if_neg hn] at h
    exact absurd h (by decide)
theorem primeC_loop {n : Nat} (hn : n ≤ 10000) : ∀ (N k d : Nat), k + d = 102 → 2 ≤ d → k < N → itr (fun (q : Int32 × Int32) k => s_X8_isPrime_9 (fun (x0 : Int32) (x1 : Int32) => k (x0, x1)) q.1 q.2) N (ji n, ji d) = some (ji (isF n k d : Nat))
  | 0, _, _, _, _, h => absurd h (Nat.not_lt_zero _)
  | N + 1, k, d, hkd, hd, hN => by
    rw [itrS]
    have IH := primeC_loop hn N (k - 1) (d + 1)
    generalize itr _ N = K at IH
    show s_X8_isPrime_9 _ (ji n) (ji d) = _
    have e1 : (d : Int) * d = ((d * d : Nat) : Int) := by push_cast; rfl
    have b1' : d * d ≤ 102 * 102 := Nat.mul_le_mul (by omega) (by omega)
    have g := emod_rng (a := (n : Int)) (show (0 : Int) < d by omega)
    unfold s_X8_isPrime_9
    simp (disch := omega) only [i0, i1, i2, i3, i4, i5, i6, i7, i8, i12, i16, i20, i30, i39, i40, i60, i64, i97, i100, i256, i1000, i10000, im1, im20, im60, l0, l1, l2, l3, l4, l5, l8, l10000, l1e9, lm10000, jl_add, jl_sub, jl_mul, jl_neg, ji_add, ji_sub, ji_mul, ji_neg, ji_l, jl_i, rL_n, rI_n, dL_n, dI_n, mnI_j, mxI_j, ji_nat, rest_j, part_n, whole_j, times_j, kc_0, kc_gt, kc_lt, kc_le, kc_ge, ji_lt, ji_le, ji_inj, jl_inj, jl_lt, jl_le, b1s, b2s, bEs, bEe, rIs, rIn, rIJ, rJs, rJn, rJI, ifp, ifn, if_true, if_false, e1]
    cases k with
    | zero =>
      have : d = 102 := by omega
      subst this
      rw [if_pos (by omega)]
      rfl
    | succ k =>
      unfold isF
      by_cases h1 : n < d * d
      · rw [if_pos (by omega), if_pos h1]
        rfl
      · rw [if_neg (by omega), if_neg h1]
        by_cases h2 : n % d = 0
        · rw [if_pos (by exact_mod_cast h2), if_pos h2]
          rfl
        · rw [if_neg (by intro q; exact h2 (by exact_mod_cast q)), if_neg h2, show (d : Int) + 1 = ((d + 1 : Nat) : Int) by omega]
          exact IH (by omega) (by omega) (by omega)
theorem primeC {n : Int} (hn : -2147483648 ≤ n ∧ n ≤ 10000) : f_X8_isPrime (ji n) = some (ji (isP n.toNat : Nat)) := by
  unfold f_X8_isPrime isP
  by_cases h : 2 ≤ n
  · have := primeC_loop (n := n.toNat) (by omega) FU 100 2 (by omega) (by omega) (FU_lt (by omega))
    rw [show ((n.toNat : Nat) : Int) = n by omega] at this
    rw [i2, ifp ((ji_le (by omega) (by omega)).mpr h), if_pos (by omega)]
    exact this
  · rw [i2, ifn (fun q => h ((ji_le (by omega) (by omega)).mp q)), if_neg (by omega)]
    rfl
theorem primeM_loop {n : Nat} (hn : n ≤ 10000) : ∀ (N k d : Nat), k + d = 102 → 2 ≤ d → k < N → itr (fun (q : Int32 × Int32) k => s_X10_isPrime_9 (fun (x0 : Int32) (x1 : Int32) => k (x0, x1)) q.1 q.2) N (ji n, ji d) = some (ji (isF n k d : Nat))
  | 0, _, _, _, _, h => absurd h (Nat.not_lt_zero _)
  | N + 1, k, d, hkd, hd, hN => by
    rw [itrS]
    have IH := primeM_loop hn N (k - 1) (d + 1)
    generalize itr _ N = K at IH
    show s_X10_isPrime_9 _ (ji n) (ji d) = _
    have e1 : (d : Int) * d = ((d * d : Nat) : Int) := by push_cast; rfl
    have b1' : d * d ≤ 102 * 102 := Nat.mul_le_mul (by omega) (by omega)
    have g := emod_rng (a := (n : Int)) (show (0 : Int) < d by omega)
    unfold s_X10_isPrime_9
    simp (disch := omega) only [i0, i1, i2, i3, i4, i5, i6, i7, i8, i12, i16, i20, i30, i39, i40, i60, i64, i97, i100, i256, i1000, i10000, im1, im20, im60, l0, l1, l2, l3, l4, l5, l8, l10000, l1e9, lm10000, jl_add, jl_sub, jl_mul, jl_neg, ji_add, ji_sub, ji_mul, ji_neg, ji_l, jl_i, rL_n, rI_n, dL_n, dI_n, mnI_j, mxI_j, ji_nat, rest_j, part_n, whole_j, times_j, kc_0, kc_gt, kc_lt, kc_le, kc_ge, ji_lt, ji_le, ji_inj, jl_inj, jl_lt, jl_le, b1s, b2s, bEs, bEe, rIs, rIn, rIJ, rJs, rJn, rJI, ifp, ifn, if_true, if_false, e1]
    cases k with
    | zero =>
      have : d = 102 := by omega
      subst this
      rw [if_pos (by omega)]
      rfl
    | succ k =>
      unfold isF
      by_cases h1 : n < d * d
      · rw [if_pos (by omega), if_pos h1]
        rfl
      · rw [if_neg (by omega), if_neg h1]
        by_cases h2 : n % d = 0
        · rw [if_pos (by exact_mod_cast h2), if_pos h2]
          rfl
        · rw [if_neg (by intro q; exact h2 (by exact_mod_cast q)), if_neg h2, show (d : Int) + 1 = ((d + 1 : Nat) : Int) by omega]
          exact IH (by omega) (by omega) (by omega)
theorem primeM {n : Int} (hn : -2147483648 ≤ n ∧ n ≤ 10000) : f_X10_isPrime (ji n) = some (ji (isP n.toNat : Nat)) := by
  unfold f_X10_isPrime isP
  by_cases h : 2 ≤ n
  · have := primeM_loop (n := n.toNat) (by omega) FU 100 2 (by omega) (by omega) (FU_lt (by omega))
    rw [show ((n.toNat : Nat) : Int) = n by omega] at this
    rw [i2, ifp ((ji_le (by omega) (by omega)).mpr h), if_pos (by omega)]
    exact this
  · rw [i2, ifn (fun q => h ((ji_le (by omega) (by omega)).mp q)), if_neg (by omega)]
    rfl
theorem turnC_loop {S : St} {p : Int} {r : Nat} (hr : Rch p r) : ∀ (N e : Nat) (S1 : St), e ≤ r + 1 → (∀ o i : Nat, ¬ (o = 3 ∧ i = 1) → S1.1 o i = S.1 o i) → (∀ o i : Nat, o ≠ 6 → S1.2 o i = S.2 o i) → (1 ≤ e → S1.1 3 1 = ji ((e : Int) - 1)) → (∀ j : Nat, j < e → S1.2 6 j = jl (p ^ j)) → r + 1 - e < N →
    ∃ S2 : St, itr (fun (q : Int32 × Int64 × Int32 × St) k => s_X2_turnTo_15 (fun (x1 : Int32) (x2 : Int64) (x4 : Int32) (S : St) => k (x1, x2, x4, S)) q.1 q.2.1 q.2.2.1 q.2.2.2) N (ji p, jl (p ^ e), ji e, S1) = some S2 ∧ (∀ o i : Nat, ¬ (o = 3 ∧ i = 1) → S2.1 o i = S.1 o i) ∧ (∀ o i : Nat, o ≠ 6 → S2.2 o i = S.2 o i) ∧ S2.1 3 1 = ji (r : Int) ∧ ∀ j : Nat, j ≤ r → S2.2 6 j = jl (p ^ j)
  | 0, _, _, _, _, _, _, _, h => absurd h (Nat.not_lt_zero _)
  | N + 1, e, S1, he, g1, g2, g3, g4, hN => by
    rw [itrS]
    have IH := turnC_loop (S := S) hr N (e + 1)
    generalize itr _ N = K at IH
    show ∃ S2 : St, s_X2_turnTo_15 _ (ji p) (jl (p ^ e)) (ji e) S1 = some S2 ∧ _
    unfold s_X2_turnTo_15
    obtain ⟨h1, h2, h3, h4, h5, h6⟩ := hr
    have q1 := pw_pos h1 e
    by_cases hc : e = r + 1
    · subst hc
      have q2 : p ^ (r + 1) ≤ 97000000000 := by
        rw [Int.pow_succ]
        have : p ^ r * p ≤ 1000000000 * 97 := Int.mul_le_mul h3 h2 (by omega) (by omega)
        omega
      refine ⟨S1, ?_, g1, g2, ?_, fun j hj => g4 j (by omega)⟩
      · by_cases h30 : r + 1 = 30
        · simp (disch := omega) only [i0, i1, i2, i3, i4, i5, i6, i7, i8, i12, i16, i20, i30, i39, i40, i60, i64, i97, i100, i256, i1000, i10000, im1, im20, im60, l0, l1, l2, l3, l4, l5, l8, l10000, l1e9, lm10000, jl_add, jl_sub, jl_mul, jl_neg, ji_add, ji_sub, ji_mul, ji_neg, ji_l, jl_i, rL_n, rI_n, dL_n, dI_n, mnI_j, mxI_j, ji_nat, rest_j, part_n, whole_j, times_j, kc_0, kc_gt, kc_lt, kc_le, kc_ge, ji_lt, ji_le, ji_inj, jl_inj, jl_lt, jl_le, b1s, b2s, bEs, bEe, rIs, rIn, rIJ, rJs, rJn, rJI, ifp, ifn, if_true, if_false]
        · simp (disch := omega) only [i0, i1, i2, i3, i4, i5, i6, i7, i8, i12, i16, i20, i30, i39, i40, i60, i64, i97, i100, i256, i1000, i10000, im1, im20, im60, l0, l1, l2, l3, l4, l5, l8, l10000, l1e9, lm10000, jl_add, jl_sub, jl_mul, jl_neg, ji_add, ji_sub, ji_mul, ji_neg, ji_l, jl_i, rL_n, rI_n, dL_n, dI_n, mnI_j, mxI_j, ji_nat, rest_j, part_n, whole_j, times_j, kc_0, kc_gt, kc_lt, kc_le, kc_ge, ji_lt, ji_le, ji_inj, jl_inj, jl_lt, jl_le, b1s, b2s, bEs, bEe, rIs, rIn, rIJ, rJs, rJn, rJI, ifp, ifn, if_true, if_false]
      · rw [g3 (by omega)]
        congr 1
        omega
    · have q2 := pw_le h1 (show e ≤ r by omega)
      simp (disch := omega) only [i0, i1, i2, i3, i4, i5, i6, i7, i8, i12, i16, i20, i30, i39, i40, i60, i64, i97, i100, i256, i1000, i10000, im1, im20, im60, l0, l1, l2, l3, l4, l5, l8, l10000, l1e9, lm10000, jl_add, jl_sub, jl_mul, jl_neg, ji_add, ji_sub, ji_mul, ji_neg, ji_l, jl_i, rL_n, rI_n, dL_n, dI_n, mnI_j, mxI_j, ji_nat, rest_j, part_n, whole_j, times_j, kc_0, kc_gt, kc_lt, kc_le, kc_ge, ji_lt, ji_le, ji_inj, jl_inj, jl_lt, jl_le, b1s, b2s, bEs, bEe, rIs, rIn, rIJ, rJs, rJn, rJI, ifp, ifn, if_true, if_false, Int.toNat_natCast]
      rw [show (e : Int) + 1 = ((e + 1 : Nat) : Int) by omega, ← Int.pow_succ]
      refine IH _ (by omega) (fun o i q => ?_) (fun o i q => ?_) (fun _ => ?_) (fun j hj => ?_) (by omega)
      · simp (disch := omega) only [rIs, rIn, rIJ, rJs, rJn, rJI]; exact g1 o i q
      · simp (disch := omega) only [rIs, rIn, rIJ, rJs, rJn, rJI]; exact g2 o i q
      · simp (disch := omega) only [rIs, rIn, rIJ, rJs, rJn, rJI]
        congr 1
        omega
      · by_cases hje : j = e
        · subst hje; simp (disch := omega) only [rIs, rIn, rIJ, rJs, rJn, rJI]
        · simp (disch := omega) only [rIs, rIn, rIJ, rJs, rJn, rJI]; exact g4 j (by omega)
theorem T_setPrime {S T : St} (h : Rel S T) (a : Int32) : An [(1, 1), (5, 2)] (f_X9_setPrime a S) (f_X10_setPrime a T) := by
  obtain ⟨a, rfl, ha⟩ := ji_ex a
  have hh := h
  obtain ⟨p, r, cnt, num, early, D, C, bc, cn, pc, rowc, rv, sz, en, h1, h2, h3, h4⟩ := hh
  have c5 := h1.2.2.2.2.1
  have c6 := h1.2.2.2.2.2.1
  have c7 := h1.2.2.2.2.2.2.1
  have hN := h1.2.2.1
  have hp18 := h1.2.2.2.1
  have w97 : (97 : Int64) = jl 97 := rfl
  unfold f_X9_setPrime f_X10_setPrime n_X10_setPrime_27 n_X10_setPrime_47
  rw [w97]
  have bad : ∀ x y, x = some ((.error 1 : Except Nat Int32), S) → y = some (ji 0, th T 1) → An [(1, 1), (5, 2)] x y := by
    rintro x y rfl rfl
    exact ⟨S, th T 1, ji 0, rfl, rel_fr h (FrS.refl S) th_fr, Or.inr ⟨(1, 1), by simp, rfl, th_17⟩⟩
  by_cases h97 : 97 < a
  · refine bad _ _ ?_ ?_
    · simp (disch := omega) only [i0, i1, i2, i3, i4, i5, i6, i7, i8, i12, i16, i20, i30, i39, i40, i60, i64, i97, i100, i256, i1000, i10000, im1, im20, im60, l0, l1, l2, l3, l4, l5, l8, l10000, l1e9, lm10000, jl_add, jl_sub, jl_mul, jl_neg, ji_add, ji_sub, ji_mul, ji_neg, ji_l, jl_i, rL_n, rI_n, dL_n, dI_n, mnI_j, mxI_j, ji_nat, rest_j, part_n, whole_j, times_j, kc_0, kc_gt, kc_lt, kc_le, kc_ge, ji_lt, ji_le, ji_inj, jl_inj, jl_lt, jl_le, b1s, b2s, bEs, bEe, rIs, rIn, rIJ, rJs, rJn, rJI, ifp, ifn, if_true, if_false]
    · simp (disch := omega) only [i0, i1, i2, i3, i4, i5, i6, i7, i8, i12, i16, i20, i30, i39, i40, i60, i64, i97, i100, i256, i1000, i10000, im1, im20, im60, l0, l1, l2, l3, l4, l5, l8, l10000, l1e9, lm10000, jl_add, jl_sub, jl_mul, jl_neg, ji_add, ji_sub, ji_mul, ji_neg, ji_l, jl_i, rL_n, rI_n, dL_n, dI_n, mnI_j, mxI_j, ji_nat, rest_j, part_n, whole_j, times_j, kc_0, kc_gt, kc_lt, kc_le, kc_ge, ji_lt, ji_le, ji_inj, jl_inj, jl_lt, jl_le, b1s, b2s, bEs, bEe, rIs, rIn, rIJ, rJs, rJn, rJI, ifp, ifn, if_true, if_false, isIn_n, noN1]
  · have pC := primeC (n := a) (by omega)
    have pM := primeM (n := a) (by omega)
    rcases isP_01 a.toNat with hz | hz
    · rw [hz] at pC pM
      have pC : f_X8_isPrime (ji a) = some (ji 0) := pC
      have pM : f_X10_isPrime (ji a) = some (ji 0) := pM
      refine bad _ _ ?_ ?_
      · simp (disch := omega) only [i0, i1, i2, i3, i4, i5, i6, i7, i8, i12, i16, i20, i30, i39, i40, i60, i64, i97, i100, i256, i1000, i10000, im1, im20, im60, l0, l1, l2, l3, l4, l5, l8, l10000, l1e9, lm10000, jl_add, jl_sub, jl_mul, jl_neg, ji_add, ji_sub, ji_mul, ji_neg, ji_l, jl_i, rL_n, rI_n, dL_n, dI_n, mnI_j, mxI_j, ji_nat, rest_j, part_n, whole_j, times_j, kc_0, kc_gt, kc_lt, kc_le, kc_ge, ji_lt, ji_le, ji_inj, jl_inj, jl_lt, jl_le, b1s, b2s, bEs, bEe, rIs, rIn, rIJ, rJs, rJn, rJI, ifp, ifn, if_true, if_false, pC]
      · by_cases h2 : 2 ≤ a
        · simp (disch := omega) only [i0, i1, i2, i3, i4, i5, i6, i7, i8, i12, i16, i20, i30, i39, i40, i60, i64, i97, i100, i256, i1000, i10000, im1, im20, im60, l0, l1, l2, l3, l4, l5, l8, l10000, l1e9, lm10000, jl_add, jl_sub, jl_mul, jl_neg, ji_add, ji_sub, ji_mul, ji_neg, ji_l, jl_i, rL_n, rI_n, dL_n, dI_n, mnI_j, mxI_j, ji_nat, rest_j, part_n, whole_j, times_j, kc_0, kc_gt, kc_lt, kc_le, kc_ge, ji_lt, ji_le, ji_inj, jl_inj, jl_lt, jl_le, b1s, b2s, bEs, bEe, rIs, rIn, rIJ, rJs, rJn, rJI, ifp, ifn, if_true, if_false, isIn_y, pM, noN1]
        · simp (disch := omega) only [i0, i1, i2, i3, i4, i5, i6, i7, i8, i12, i16, i20, i30, i39, i40, i60, i64, i97, i100, i256, i1000, i10000, im1, im20, im60, l0, l1, l2, l3, l4, l5, l8, l10000, l1e9, lm10000, jl_add, jl_sub, jl_mul, jl_neg, ji_add, ji_sub, ji_mul, ji_neg, ji_l, jl_i, rL_n, rI_n, dL_n, dI_n, mnI_j, mxI_j, ji_nat, rest_j, part_n, whole_j, times_j, kc_0, kc_gt, kc_lt, kc_le, kc_ge, ji_lt, ji_le, ji_inj, jl_inj, jl_lt, jl_le, b1s, b2s, bEs, bEe, rIs, rIn, rIJ, rJs, rJn, rJI, ifp, ifn, if_true, if_false, isIn_n, noN1]
    · have hmem := isP_25 a.toNat (by omega) hz
      have hP : Pr a := by
        have := p25_rng _ hmem
        exact ⟨a.toNat, by omega, hmem⟩
      have hrg := hP.rng
      rw [hz] at pC pM
      have pC : f_X8_isPrime (ji a) = some (ji 1) := pC
      have pM : f_X10_isPrime (ji a) = some (ji 1) := pM
      have c6' : (th T 0).1 0 19 = ji cnt := (th_n (by omega)).trans c6
      have t18 : (th T 0).1 0 18 = ji p := (th_n (by omega)).trans hp18
      by_cases hc : cnt = 0
      · subst hc
        have hr' := hP.rch
        obtain ⟨S2, e1, e2, e3, e4, e5⟩ := turnC_loop (S := wI (wI S 3 0 (ji a)) 3 1 (ji 0)) hr' FU 0 (wI (wI S 3 0 (ji a)) 3 1 (ji 0)) (by omega) (fun _ _ _ => rfl) (fun _ _ _ => rfl) (fun q => by omega) (fun j hj => absurd hj (Nat.not_lt_zero _)) (FU_lt (by have := hr'.2.2.2.2; omega))
        have e6 : f_X2_turnTo (ji a) S = some S2 := by
          rw [Int.pow_zero] at e1
          exact e1
        have s3 := hN.1
        simp (disch := omega) only [i0, i1, i2, i3, i4, i5, i6, i7, i8, i12, i16, i20, i30, i39, i40, i60, i64, i97, i100, i256, i1000, i10000, im1, im20, im60, l0, l1, l2, l3, l4, l5, l8, l10000, l1e9, lm10000, jl_add, jl_sub, jl_mul, jl_neg, ji_add, ji_sub, ji_mul, ji_neg, ji_l, jl_i, rL_n, rI_n, dL_n, dI_n, mnI_j, mxI_j, ji_nat, rest_j, part_n, whole_j, times_j, kc_0, kc_gt, kc_lt, kc_le, kc_ge, ji_lt, ji_le, ji_inj, jl_inj, jl_lt, jl_le, b1s, b2s, bEs, bEe, rIs, rIn, rIJ, rJs, rJn, rJI, ifp, ifn, if_true, if_false, isIn_y, pC, pM, c5, c6', noY, th_th, e6, s3, t18]
        have ss : ∀ o i : Nat, o ≠ 3 → S2.1 o i = S.1 o i := fun o i ho => by
          rw [e2 _ _ (by omega)]
          simp (disch := omega) only [rIs, rIn, rIJ, rJs, rJn, rJI]
        have tt : ∀ o i : Nat, ¬ (o = 0 ∧ (i = 17 ∨ i = 18)) → (wI (th T 0) 0 18 (ji a)).1 o i = T.1 o i := fun o i ho => by
          rw [rIn (by omega)]
          exact th_n (by omega)
        refine ⟨S2, wI (th T 0) 0 18 (ji a), _, rfl, ⟨a, rc a, 0, num, early, D, C, bc, cn, pc, rowc, rv, sz, en, ⟨hP, hr', ⟨?_, e4, e5⟩, rIs, ?_, ?_, by omega, fun n hn => absurd hn (Nat.not_lt_zero _)⟩, ?_, ?_, ?_⟩, Or.inl ⟨rfl, ?_⟩⟩
        · rw [e2 _ _ (by omega)]
          simp (disch := omega) only [rIs, rIn, rIJ, rJs, rJn, rJI]
        · rw [ss _ _ (by omega)]; exact c5
        · rw [tt _ _ (by omega)]; exact c6
        · obtain ⟨t1, t2, t3, t4, t5, t6⟩ := h2
          refine ⟨?_, ?_, t3, fun f hf => ⟨fun j hj => ?_, (t4 f hf).2.1, fun j hj => ?_⟩, fun f hf => ?_, t6⟩
          · rw [ss _ _ (by omega)]; exact t1
          · rw [tt _ _ (by omega)]; exact t2
          · rw [ss _ _ (by omega)]; exact (t4 f hf).1 j hj
          · rw [tt _ _ (by omega)]; exact (t4 f hf).2.2 j hj
          · rw [ss _ _ (by omega), tt _ _ (by omega)]; exact t5 f hf
        · obtain ⟨t1, t2, t3, t4, t5⟩ := h3
          refine ⟨?_, ?_, t3, t4, fun j hj => ?_⟩
          · rw [ss _ _ (by omega)]; exact t1
          · rw [tt _ _ (by omega)]; exact t2
          · rw [ss _ _ (by omega), tt _ _ (by omega)]; exact t5 j hj
        · obtain ⟨t1, t2, t3, t4, t5⟩ := h4
          refine ⟨?_, ?_, t3, t4, fun j hj => ?_⟩
          · rw [ss _ _ (by omega)]; exact t1
          · rw [tt _ _ (by omega)]; exact t2
          · rw [ss _ _ (by omega), tt _ _ (by omega)]; exact t5 j hj
        · rw [rIn (by omega)]; exact th_17
      · simp (disch := omega) only [i0, i1, i2, i3, i4, i5, i6, i7, i8, i12, i16, i20, i30, i39, i40, i60, i64, i97, i100, i256, i1000, i10000, im1, im20, im60, l0, l1, l2, l3, l4, l5, l8, l10000, l1e9, lm10000, jl_add, jl_sub, jl_mul, jl_neg, ji_add, ji_sub, ji_mul, ji_neg, ji_l, jl_i, rL_n, rI_n, dL_n, dI_n, mnI_j, mxI_j, ji_nat, rest_j, part_n, whole_j, times_j, kc_0, kc_gt, kc_lt, kc_le, kc_ge, ji_lt, ji_le, ji_inj, jl_inj, jl_lt, jl_le, b1s, b2s, bEs, bEe, rIs, rIn, rIJ, rJs, rJn, rJI, ifp, ifn, if_true, if_false, isIn_y, pC, pM, c5, c6', noY, noN2, th_th]
        exact ⟨S, th T 2, ji 0, rfl, rel_fr h (FrS.refl S) th_fr, Or.inr ⟨(5, 2), by simp, rfl, th_17⟩⟩
/-! reads -/
theorem T_reach {S T : St} (h : Rel S T) : ∃ v : Int32, f_X9_reach S = some v ∧ f_X10_reach T = some v := by
  obtain ⟨p, r, cnt, num, early, D, C, bc, cn, pc, rowc, rv, sz, en, h1, h2, h3, h4⟩ := h
  refine ⟨ji r, ?_, ?_⟩
  · unfold f_X9_reach
    rw [h1.2.2.1.2.1]
  · unfold f_X10_reach
    rw [mostM h1.2.2.2.1 h1.2.1, b1s]
theorem T_precision {S T : St} (h : Rel S T) (a : Int32) : AnR [(3, 1)] S (f_X9_precision a S) (f_X10_precision a T) := by
  obtain ⟨a, rfl, ha⟩ := ji_ex a
  have hh := h
  obtain ⟨p, r, cnt, num, early, D, C, bc, cn, pc, rowc, rv, sz, en, h1, h2, h3, h4⟩ := hh
  have c5 := h1.2.2.2.2.1
  have c6 := h1.2.2.2.2.2.1
  have c7 := h1.2.2.2.2.2.2.1
  unfold f_X9_precision f_X10_precision
  by_cases hab : 0 ≤ a ∧ a < cnt
  · obtain ⟨xa, ma, wa, -⟩ := num3 hab h1.2.2.2.2.2.2.2
    have n1 := needN_y c5 c7 hab
    have n3 := noNum_y c6 c7 hab
    have n4 := numbC (S := S) (n := 40) (v := a) ⟨hab.1, by omega⟩ (by omega)
    have t1 := xa.2.1
    have t2 : (th T 0).1 2 a.toNat = ji (num a.toNat).2.1 := (th_n (by omega)).trans ma.2.1
    simp (disch := omega) only [i0, i1, i2, i3, i4, i5, i6, i7, i8, i12, i16, i20, i30, i39, i40, i60, i64, i97, i100, i256, i1000, i10000, im1, im20, im60, l0, l1, l2, l3, l4, l5, l8, l10000, l1e9, lm10000, jl_add, jl_sub, jl_mul, jl_neg, ji_add, ji_sub, ji_mul, ji_neg, ji_l, jl_i, rL_n, rI_n, dL_n, dI_n, mnI_j, mxI_j, ji_nat, rest_j, part_n, whole_j, times_j, kc_0, kc_gt, kc_lt, kc_le, kc_ge, ji_lt, ji_le, ji_inj, jl_inj, jl_lt, jl_le, b1s, b2s, bEs, bEe, rIs, rIn, rIJ, rJs, rJn, rJI, ifp, ifn, if_true, if_false, n1, n3, n4, t1, t2]
    exact ⟨th T 0, _, rfl, rel_fr h (FrS.refl S) th_fr, Or.inl ⟨rfl, th_17⟩⟩
  · have n1 := needN_n c5 c7 ha hab
    have n3 := noNum_n c6 c7 ha hab
    simp (disch := omega) only [i0, i1, i2, i3, i4, i5, i6, i7, i8, i12, i16, i20, i30, i39, i40, i60, i64, i97, i100, i256, i1000, i10000, im1, im20, im60, l0, l1, l2, l3, l4, l5, l8, l10000, l1e9, lm10000, jl_add, jl_sub, jl_mul, jl_neg, ji_add, ji_sub, ji_mul, ji_neg, ji_l, jl_i, rL_n, rI_n, dL_n, dI_n, mnI_j, mxI_j, ji_nat, rest_j, part_n, whole_j, times_j, kc_0, kc_gt, kc_lt, kc_le, kc_ge, ji_lt, ji_le, ji_inj, jl_inj, jl_lt, jl_le, b1s, b2s, bEs, bEe, rIs, rIn, rIJ, rJs, rJn, rJI, ifp, ifn, if_true, if_false, n1, n3]
    exact ⟨th T 1, _, rfl, rel_fr h (FrS.refl S) th_fr, Or.inr ⟨(3, 1), by simp, rfl, th_17⟩⟩
theorem T_valuation {S T : St} (h : Rel S T) (a : Int32) : AnR [(3, 1)] S (f_X9_valuation a S) (f_X10_valuation a T) := by
  obtain ⟨a, rfl, ha⟩ := ji_ex a
  have hh := h
  obtain ⟨p, r, cnt, num, early, D, C, bc, cn, pc, rowc, rv, sz, en, h1, h2, h3, h4⟩ := hh
  have c5 := h1.2.2.2.2.1
  have c6 := h1.2.2.2.2.2.1
  have c7 := h1.2.2.2.2.2.2.1
  unfold f_X9_valuation f_X10_valuation
  by_cases hab : 0 ≤ a ∧ a < cnt
  · obtain ⟨xa, ma, wa, -⟩ := num3 hab h1.2.2.2.2.2.2.2
    have n1 := needN_y c5 c7 hab
    have n3 := noNum_y c6 c7 hab
    have n4 := numbC (S := S) (n := 40) (v := a) ⟨hab.1, by omega⟩ (by omega)
    have t1 := xa.1
    have t2 : (th T 0).1 1 a.toNat = ji (num a.toNat).1 := (th_n (by omega)).trans ma.1
    simp (disch := omega) only [i0, i1, i2, i3, i4, i5, i6, i7, i8, i12, i16, i20, i30, i39, i40, i60, i64, i97, i100, i256, i1000, i10000, im1, im20, im60, l0, l1, l2, l3, l4, l5, l8, l10000, l1e9, lm10000, jl_add, jl_sub, jl_mul, jl_neg, ji_add, ji_sub, ji_mul, ji_neg, ji_l, jl_i, rL_n, rI_n, dL_n, dI_n, mnI_j, mxI_j, ji_nat, rest_j, part_n, whole_j, times_j, kc_0, kc_gt, kc_lt, kc_le, kc_ge, ji_lt, ji_le, ji_inj, jl_inj, jl_lt, jl_le, b1s, b2s, bEs, bEe, rIs, rIn, rIJ, rJs, rJn, rJI, ifp, ifn, if_true, if_false, n1, n3, n4, t1, t2]
    exact ⟨th T 0, _, rfl, rel_fr h (FrS.refl S) th_fr, Or.inl ⟨rfl, th_17⟩⟩
  · have n1 := needN_n c5 c7 ha hab
    have n3 := noNum_n c6 c7 ha hab
    simp (disch := omega) only [i0, i1, i2, i3, i4, i5, i6, i7, i8, i12, i16, i20, i30, i39, i40, i60, i64, i97, i100, i256, i1000, i10000, im1, im20, im60, l0, l1, l2, l3, l4, l5, l8, l10000, l1e9, lm10000, jl_add, jl_sub, jl_mul, jl_neg, ji_add, ji_sub, ji_mul, ji_neg, ji_l, jl_i, rL_n, rI_n, dL_n, dI_n, mnI_j, mxI_j, ji_nat, rest_j, part_n, whole_j, times_j, kc_0, kc_gt, kc_lt, kc_le, kc_ge, ji_lt, ji_le, ji_inj, jl_inj, jl_lt, jl_le, b1s, b2s, bEs, bEe, rIs, rIn, rIJ, rJs, rJn, rJI, ifp, ifn, if_true, if_false, n1, n3]
    exact ⟨th T 1, _, rfl, rel_fr h (FrS.refl S) th_fr, Or.inr ⟨(3, 1), by simp, rfl, th_17⟩⟩
theorem T_digit {S T : St} (h : Rel S T) (a b : Int32) : AnR [(3, 1), (6, 2)] S (f_X9_digit a b S) (f_X10_digit a b T) := by
  obtain ⟨a, rfl, ha⟩ := ji_ex a
  obtain ⟨b, rfl, hb⟩ := ji_ex b
  have hh := h
  obtain ⟨p, r, cnt, num, early, D, C, bc, cn, pc, rowc, rv, sz, en, h1, h2, h3, h4⟩ := hh
  have hr := h1.2.1
  have hrr := hr.2.2.2.2
  have hp1 := hr.1
  have hp2 := hr.2.1
  have hN := h1.2.2.1
  have c5 := h1.2.2.2.2.1
  have c6 := h1.2.2.2.2.2.1
  have c7 := h1.2.2.2.2.2.2.1
  unfold f_X9_digit f_X10_digit n_X10_digit_24 f_X5_digitOf
  by_cases hab : 0 ≤ a ∧ a < cnt
  · obtain ⟨xa, ma, wa, -⟩ := num3 hab h1.2.2.2.2.2.2.2
    have ux := wa.u9 hr
    have n1 := needN_y c5 c7 hab
    have n3 := noNum_y c6 c7 hab
    have n4 := numbC (S := S) (n := 40) (v := a) ⟨hab.1, by omega⟩ (by omega)
    have s1 := xa.1
    have s2 := xa.2.1
    have s3 := xa.2.2
    have t1 : (th T 0).1 1 a.toNat = ji (num a.toNat).1 := (th_n (by omega)).trans ma.1
    have t2 : (th T 0).1 2 a.toNat = ji (num a.toNat).2.1 := (th_n (by omega)).trans ma.2.1
    have t3 : (th T 0).2 8 a.toNat = jl (num a.toNat).2.2 := ma.2.2
    have t18 : (th T 0).1 0 18 = ji p := (th_n (by omega)).trans h1.2.2.2.1
    have q18 := hN.1
    obtain ⟨a1, a2, a3, a4, -⟩ := wa
    by_cases hg : b < (num a.toNat).2.1
    · by_cases hl : b < (num a.toNat).1
      · simp (disch := omega) only [i0, i1, i2, i3, i4, i5, i6, i7, i8, i12, i16, i20, i30, i39, i40, i60, i64, i97, i100, i256, i1000, i10000, im1, im20, im60, l0, l1, l2, l3, l4, l5, l8, l10000, l1e9, lm10000, jl_add, jl_sub, jl_mul, jl_neg, ji_add, ji_sub, ji_mul, ji_neg, ji_l, jl_i, rL_n, rI_n, dL_n, dI_n, mnI_j, mxI_j, ji_nat, rest_j, part_n, whole_j, times_j, kc_0, kc_gt, kc_lt, kc_le, kc_ge, ji_lt, ji_le, ji_inj, jl_inj, jl_lt, jl_le, b1s, b2s, bEs, bEe, rIs, rIn, rIJ, rJs, rJn, rJI, ifp, ifn, if_true, if_false, n1, n3, n4, s1, s2, t1, t2, noY, th_th]
        exact ⟨th T 0, _, rfl, rel_fr h (FrS.refl S) th_fr, Or.inl ⟨rfl, th_17⟩⟩
      · have e1 := pwC' (e := b - (num a.toNat).1) hN hr (by omega)
        have e2 := pwM (T := th T 0) (e := b - (num a.toNat).1) t18 ⟨hp1, hp2⟩ (by omega)
        have g1 := pw_pos hp1 (b - (num a.toNat).1).toNat
        have g2 := hr.le (show (b - (num a.toNat).1).toNat ≤ r by omega)
        have g3 := Int.ediv_nonneg ux.1 (Int.le_of_lt g1)
        have g4 := Int.ediv_le_self (p ^ (b - (num a.toNat).1).toNat) ux.1
        have g5 := emod_rng (a := (num a.toNat).2.2 / p ^ (b - (num a.toNat).1).toNat) (show 0 < p by omega)
        simp (disch := omega) only [i0, i1, i2, i3, i4, i5, i6, i7, i8, i12, i16, i20, i30, i39, i40, i60, i64, i97, i100, i256, i1000, i10000, im1, im20, im60, l0, l1, l2, l3, l4, l5, l8, l10000, l1e9, lm10000, jl_add, jl_sub, jl_mul, jl_neg, ji_add, ji_sub, ji_mul, ji_neg, ji_l, jl_i, rL_n, rI_n, dL_n, dI_n, mnI_j, mxI_j, ji_nat, rest_j, part_n, whole_j, times_j, kc_0, kc_gt, kc_lt, kc_le, kc_ge, ji_lt, ji_le, ji_inj, jl_inj, jl_lt, jl_le, b1s, b2s, bEs, bEe, rIs, rIn, rIJ, rJs, rJn, rJI, ifp, ifn, if_true, if_false, n1, n3, n4, s1, s2, s3, t1, t2, t3, t18, q18, noY, th_th, e1, e2]
        exact ⟨th T 0, _, rfl, rel_fr h (FrS.refl S) th_fr, Or.inl ⟨rfl, th_17⟩⟩
    · simp (disch := omega) only [i0, i1, i2, i3, i4, i5, i6, i7, i8, i12, i16, i20, i30, i39, i40, i60, i64, i97, i100, i256, i1000, i10000, im1, im20, im60, l0, l1, l2, l3, l4, l5, l8, l10000, l1e9, lm10000, jl_add, jl_sub, jl_mul, jl_neg, ji_add, ji_sub, ji_mul, ji_neg, ji_l, jl_i, rL_n, rI_n, dL_n, dI_n, mnI_j, mxI_j, ji_nat, rest_j, part_n, whole_j, times_j, kc_0, kc_gt, kc_lt, kc_le, kc_ge, ji_lt, ji_le, ji_inj, jl_inj, jl_lt, jl_le, b1s, b2s, bEs, bEe, rIs, rIn, rIJ, rJs, rJn, rJI, ifp, ifn, if_true, if_false, n1, n3, n4, s2, t2, noN2, th_th]
      exact ⟨th T 2, _, rfl, rel_fr h (FrS.refl S) th_fr, Or.inr ⟨(6, 2), by simp, rfl, th_17⟩⟩
  · have n1 := needN_n c5 c7 ha hab
    have n3 := noNum_n c6 c7 ha hab
    simp (disch := omega) only [i0, i1, i2, i3, i4, i5, i6, i7, i8, i12, i16, i20, i30, i39, i40, i60, i64, i97, i100, i256, i1000, i10000, im1, im20, im60, l0, l1, l2, l3, l4, l5, l8, l10000, l1e9, lm10000, jl_add, jl_sub, jl_mul, jl_neg, ji_add, ji_sub, ji_mul, ji_neg, ji_l, jl_i, rL_n, rI_n, dL_n, dI_n, mnI_j, mxI_j, ji_nat, rest_j, part_n, whole_j, times_j, kc_0, kc_gt, kc_lt, kc_le, kc_ge, ji_lt, ji_le, ji_inj, jl_inj, jl_lt, jl_le, b1s, b2s, bEs, bEe, rIs, rIn, rIJ, rJs, rJn, rJI, ifp, ifn, if_true, if_false, n1, n3]
    exact ⟨th T 1, _, rfl, rel_fr h (FrS.refl S) th_fr, Or.inr ⟨(3, 1), by simp, rfl, th_17⟩⟩
