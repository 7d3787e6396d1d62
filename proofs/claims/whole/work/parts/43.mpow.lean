/-! bits of longs -/
theorem jl_and1 {e : Int} (h : -9223372036854775808 ≤ e ∧ e < 9223372036854775808) : jl e &&& 1 = jl (e % 2) := by
  apply Int64.toBitVec_inj.mp
  rw [Int64.toBitVec_and]
  apply BitVec.eq_of_toNat_eq
  rw [BitVec.toNat_and]
  show (BitVec.ofInt 64 e).toNat &&& 1 = (BitVec.ofInt 64 (e % 2)).toNat
  rw [Nat.and_one_is_mod, BitVec.toNat_ofInt, BitVec.toNat_ofInt]
  omega
theorem jl_shr1 {e : Int} (h : 0 ≤ e ∧ e < 9223372036854775808) : jl e >>> (Int32.toInt64 1 &&& 63) = jl (e / 2) := by
  apply Int64.toInt_inj.mp
  rw [jl_toInt (by omega)]
  show ((jl e) >>> (Int32.toInt64 1 &&& 63)).toBitVec.toInt = _
  rw [Int64.toBitVec_shiftRight, BitVec.toInt_sshiftRight', show (((Int32.toInt64 1 &&& 63) : Int64).toBitVec.smod (64 : BitVec 64)).toNat = 1 by decide, Int.shiftRight_eq_div_pow]
  show (jl e).toInt / _ = _
  rw [jl_toInt (by omega)]
  rfl
/-! powers of rests -/
theorem pow_half {x m r : Int} (e : Int) (he : 0 < e) : r * x ^ e.toNat % m = (if e % 2 = 1 then r * x % m else r) * (x * x % m) ^ (e / 2).toNat % m := by
  have h1 : (x * x % m) ^ (e / 2).toNat % m = (x * x) ^ (e / 2).toNat % m := (pow_mod (x * x) m _).symm
  have h2 : x ^ e.toNat = (if e % 2 = 1 then x else 1) * (x * x) ^ (e / 2).toNat := by
    have e2 : e.toNat = 2 * (e / 2).toNat + (if e % 2 = 1 then 1 else 0) := by split <;> omega
    rw [e2, Int.pow_add, Int.pow_mul, show x ^ 2 = x * x by rw [Int.pow_succ, Int.pow_one]]
    split
    · rw [Int.pow_one, Int.mul_comm]
    · rw [Int.pow_zero, Int.mul_one, Int.one_mul]
  rw [h2]
  split
  · rw [← Int.mul_assoc, Int.mul_emod, ← h1, ← Int.mul_emod, Int.mul_emod (r * x % m), Int.emod_emod_of_dvd _ (Int.dvd_refl m), ← Int.mul_emod]
  · rw [Int.one_mul, Int.mul_emod, ← h1, ← Int.mul_emod]
theorem emod_rng {a m : Int} (hm : 0 < m) : 0 ≤ a % m ∧ a % m < m := ⟨Int.emod_nonneg a (by omega), Int.emod_lt_of_pos a hm⟩
theorem sq_rng {a b m : Int} (ha : 0 ≤ a ∧ a < m) (hb : 0 ≤ b ∧ b < m) (hm : m ≤ 2147483648) : 0 ≤ a * b ∧ a * b < 4611686018427387904 := by
  have h1 := Int.mul_nonneg ha.1 hb.1
  have h2 : a * b ≤ 2147483647 * 2147483647 := Int.mul_le_mul (by omega) (by omega) hb.1 (by omega)
  omega
theorem powC_loop {m : Int} (hm : 0 < m ∧ m ≤ 2147483648) : ∀ (n : Nat) (r x e : Int), (0 ≤ r ∧ r < m) → (0 ≤ x ∧ x < m) → 0 ≤ e → e < 9223372036854775808 → e.toNat < n →
    itr (fun (q : Int64 × Int64 × Int64 × Int64) k => s_X8_powerModulo_19 (fun (x4 : Int64) (x6 : Int64) (x8 : Int64) (x10 : Int64) => k (x4, x6, x8, x10)) q.1 q.2.1 q.2.2.1 q.2.2.2) n (jl m, jl r, jl x, jl e) = some (jl (r * x ^ e.toNat % m))
  | 0, _, _, _, _, _, _, _, h => absurd h (Nat.not_lt_zero _)
  | n + 1, r, x, e, hr, hx, he, he2, hn => by
    rw [itrS]
    have IH := powC_loop hm n
    generalize itr _ n = K at IH
    show s_X8_powerModulo_19 _ (jl m) (jl r) (jl x) (jl e) = _
    unfold s_X8_powerModulo_19 n_X8_powerModulo_46
    by_cases h0 : e = 0
    · rw [l0, ifp ((jc_le (by omega) (by omega)).mpr (by omega)), h0]
      simp only [Int.toNat_zero, Int.pow_zero, Int.mul_one]
      rw [Int.emod_eq_of_lt hr.1 hr.2]
    · have h1 := emod_rng (a := r * x) hm.1
      have h2 := emod_rng (a := x * x) hm.1
      have h4 : 0 ≤ e % 2 ∧ e % 2 < 2 := by omega
      rw [pow_half e (by omega)]
      rw [l0, ifn (fun q => by have := (jc_le (by omega) (by omega)).mp q; omega), jl_and1 (by omega), l1, jl_shr1 (by omega), times_j (by omega) (by omega) hm, times_j (by omega) (by omega) hm, b1s, b1s, b1s]
      by_cases h3 : e % 2 = 1
      · rw [ifp ((jc_0 (by omega) (by omega)).mpr h3), if_pos h3]
        exact IH _ _ _ h1 h2 (by omega) (by omega) (by omega)
      · rw [ifn (fun q => h3 ((jc_0 (by omega) (by omega)).mp q)), if_neg h3]
        exact IH _ _ _ hr h2 (by omega) (by omega) (by omega)
theorem powC {x e m : Int} (hm : 0 < m ∧ m ≤ 2147483648) (hx : -9223372036854775808 ≤ x ∧ x < 9223372036854775808) (he : 0 ≤ e ∧ e < 1099511627776) : f_X8_powerModulo (jl x) (jl e) (jl m) = some (jl (x ^ e.toNat % m)) := by
  unfold f_X8_powerModulo
  rw [l1, rest_j (by omega) (by omega), b1s, rest_j hx (by omega), b1s]
  refine (powC_loop hm FU _ _ e (emod_rng hm.1) (emod_rng hm.1) he.1 (by omega) (FU_lt (by omega))).trans ?_
  rw [Int.mul_emod, Int.emod_emod_of_dvd _ (Int.dvd_refl m), ← pow_mod, ← Int.mul_emod, Int.one_mul]
theorem powM_loop {m : Int} (hm : 0 < m ∧ m ≤ 2147483648) : ∀ (n : Nat) (r x e : Int), (0 ≤ r ∧ r < m) → (0 ≤ x ∧ x < m) → 0 ≤ e → e < 9223372036854775808 → e.toNat < n →
    itr (fun (q : Int64 × Int64 × Int64 × Int64) k => s_X10_raised_17 (fun (x4 : Int64) (x6 : Int64) (x8 : Int64) (x10 : Int64) => k (x4, x6, x8, x10)) q.1 q.2.1 q.2.2.1 q.2.2.2) n (jl m, jl r, jl x, jl e) = some (jl (r * x ^ e.toNat % m))
  | 0, _, _, _, _, _, _, _, h => absurd h (Nat.not_lt_zero _)
  | n + 1, r, x, e, hr, hx, he, he2, hn => by
    rw [itrS]
    have IH := powM_loop hm n
    generalize itr _ n = K at IH
    show s_X10_raised_17 _ (jl m) (jl r) (jl x) (jl e) = _
    unfold s_X10_raised_17 n_X10_raised_45
    by_cases h0 : e = 0
    · rw [l0, ifp ((jc_le (by omega) (by omega)).mpr (by omega)), h0]
      simp only [Int.toNat_zero, Int.pow_zero, Int.mul_one]
      rw [Int.emod_eq_of_lt hr.1 hr.2]
    · have h1 := emod_rng (a := r * x) hm.1
      have h2 := emod_rng (a := x * x) hm.1
      have h4 : 0 ≤ e % 2 ∧ e % 2 < 2 := by omega
      have h5 := sq_rng hr hx hm.2
      have h6 := sq_rng hx hx hm.2
      rw [pow_half e (by omega)]
      simp (disch := omega) only [i0, i1, i2, i3, i4, i5, i6, i7, i8, i12, i16, i20, i30, i39, i40, i60, i64, i97, i100, i256, i1000, i10000, im1, im20, im60, l0, l1, l2, l3, l4, l5, l8, l10000, l1e9, lm10000, jl_add, jl_sub, jl_mul, jl_neg, ji_add, ji_sub, ji_mul, ji_neg, ji_l, jl_i, rL_n, rI_n, dL_n, dI_n, mnI_j, mxI_j, ji_nat, rest_j, part_n, whole_j, times_j, kc_0, kc_gt, kc_lt, kc_le, kc_ge, ji_lt, ji_le, ji_inj, jl_inj, jl_lt, jl_le, b1s, b2s, bEs, bEe, rIs, rIn, rIJ, rJs, rJn, rJI, ifp, ifn, if_true, if_false]
      by_cases h3 : e % 2 = 1
      · rw [if_pos h3, if_pos h3]
        exact IH _ _ _ h1 h2 (by omega) (by omega) (by omega)
      · rw [if_neg h3, if_neg h3]
        exact IH _ _ _ hr h2 (by omega) (by omega) (by omega)
theorem powM {x e m : Int} (hm : 0 < m ∧ m ≤ 2147483648) (hx : -9223372036854775808 ≤ x ∧ x < 9223372036854775808) (he : 0 ≤ e ∧ e < 1099511627776) : f_X10_raised (jl x) (jl e) (jl m) = some (jl (x ^ e.toNat % m)) := by
  unfold f_X10_raised n_X10_raised_17
  rw [l0, ifn (fun q => by have := (jl_inj (by omega) (by omega)).mp q; omega), l1, rL_j (by omega) (by omega), whole_j hx (by omega), b1s, Int.tmod_eq_emod_of_nonneg (by omega)]
  refine (powM_loop hm FU _ _ e (emod_rng hm.1) (emod_rng hm.1) he.1 (by omega) (FU_lt (by omega))).trans ?_
  rw [Int.mul_emod, Int.emod_emod_of_dvd _ (Int.dvd_refl m), ← pow_mod, ← Int.mul_emod, Int.one_mul]
