/-! rows and their differences; how many ways there are to choose -/
def bn : Nat → Nat → Nat
  | _, 0 => 1
  | 0, _ + 1 => 0
  | n + 1, k + 1 => bn n k + bn n (k + 1)
def fl (x : Int) : Nat → Int
  | 0 => 1
  | k + 1 => fl x k * (x - k)
def fc : Nat → Int
  | 0 => 1
  | k + 1 => fc k * ((k : Int) + 1)
theorem bn_0 (n : Nat) : bn n 0 = 1 := by cases n <;> rfl
theorem bn_mul : ∀ x k : Nat, ((k : Int) + 1) * bn x (k + 1) = ((x : Int) - k) * bn x k
  | 0, 0 => by simp [bn]
  | 0, k + 1 => by simp [bn]
  | x + 1, 0 => by
    have h := bn_mul x 0
    have e : bn (x + 1) (0 + 1) = bn x 0 + bn x (0 + 1) := rfl
    rw [e, bn_0, bn_0]
    rw [bn_0] at h
    push_cast at *
    omega
  | x + 1, k + 1 => by
    have h1 := bn_mul x (k + 1)
    have h2 := bn_mul x k
    rw [bn, bn]
    push_cast at *
    grind
theorem fl_bn (x : Nat) : ∀ k : Nat, fl x k = fc k * bn x k
  | 0 => by rw [fl, fc, bn_0]; rfl
  | k + 1 => by
    have := bn_mul x k
    rw [fl, fc, fl_bn x k]
    grind
theorem fl_mod {m x y : Int} (h : m ∣ x - y) : ∀ k : Nat, m ∣ fl x k - fl y k
  | 0 => by simp [fl]
  | k + 1 => by
    obtain ⟨a, ha⟩ := fl_mod h k
    obtain ⟨b, hb⟩ := h
    refine ⟨a * (x - k) + b * fl y k, ?_⟩
    rw [fl, fl]
    grind
/-- what k! has of p, and what is left of it -/
def gl (p : Int) : Nat → Nat
  | 0 => 0
  | k + 1 => gl p k + vp p k
def fw (p : Int) : Nat → Int
  | 0 => 1
  | k + 1 => fw p k * wo p ((k : Int) + 1)
theorem gl_mono {p : Int} : ∀ {a b : Nat}, a ≤ b → gl p a ≤ gl p b
  | a, 0, h => by rw [show a = 0 by omega]; exact Nat.le_refl _
  | a, b + 1, h => by
    by_cases hc : a = b + 1
    · rw [hc]; exact Nat.le_refl _
    · have := gl_mono (p := p) (show a ≤ b by omega)
      rw [gl]; omega
theorem fc_gl {p : Int} (hp : 2 ≤ p) : ∀ k : Nat, fc k = p ^ gl p (k + 1) * fw p k
  | 0 => by
    show (1 : Int) = p ^ (0 + 0) * 1
    simp
  | k + 1 => by
    have h := (vp_wo hp (z := (k : Int) + 1) (by omega)).1
    have e : gl p (k + 1 + 1) = gl p (k + 1) + vp p ((k + 1 : Nat) : Int) := rfl
    rw [fc, fw, fc_gl hp k, e, pw_add]
    push_cast
    generalize p ^ vp p ((k : Int) + 1) = A at *
    generalize wo p ((k : Int) + 1) = B at *
    generalize p ^ gl p (k + 1) = C at *
    rw [h]
    grind
theorem fw_co {p : Int} (hP : Pr p) : ∀ k : Nat, ¬ p ∣ fw p k
  | 0 => fun q => by
    have := hP.rng
    have := Int.le_of_dvd (by decide) (show p ∣ 1 from q)
    omega
  | k + 1 => by
    rw [fw]
    exact hP.mul (fw_co hP k) (wo_co hP.rng.1 (by omega))
theorem gl_11 {p : Int} (hp : 2 ≤ p) : ∀ k : Nat, k ≤ 12 → gl p k ≤ 240
  | 0, _ => by rw [gl]; omega
  | k + 1, h => by
    have := gl_11 hp k (by omega)
    have h2 := (vp_19 hp (z := (k : Int)) (by omega)).1
    have h3 : gl p k ≤ 20 * k := by
      clear this h2
      induction k with
      | zero => rw [gl]; omega
      | succ n ih =>
        have := ih (by omega)
        have h2 := (vp_19 hp (z := (n : Int)) (by omega)).1
        rw [gl]; omega
    rw [gl]; omega
/-- of close numbers the ways to choose are close -/
theorem bn_mod {p : Int} (hP : Pr p) {x y n k : Nat} (h : p ^ n ∣ (x : Int) - y) : p ^ (n - gl p (k + 1)) ∣ (bn x k : Int) - bn y k := by
  have hp := hP.rng.1
  have h1 := fl_mod h k
  rw [fl_bn, fl_bn, ← Int.mul_sub, fc_gl hp, Int.mul_assoc] at h1
  by_cases hc : n ≤ gl p (k + 1)
  · rw [show n - gl p (k + 1) = 0 by omega, Int.pow_zero]
    exact Int.one_dvd _
  · rw [show n = gl p (k + 1) + (n - gl p (k + 1)) by omega, pw_add] at h1
    have h2 := Int.dvd_of_mul_dvd_mul_left (by have := pw_pos hp (gl p (k + 1)); omega) h1
    exact hP.euclidN (fw_co hP k) _ h2
/-! the differences -/
def sg (n : Nat) : Int := if n % 2 = 0 then 1 else -1
def ds (f : Nat → Int) (k : Nat) : Nat → Int
  | 0 => 0
  | i + 1 => ds f k i + f i * bn k i * sg (k - i)
def df (f : Nat → Int) (k : Nat) : Int := ds f k (k + 1)
def RoB (f : Nat → Int) : Prop := ∀ j : Nat, -10000 ≤ f j ∧ f j ≤ 10000
theorem bn_small : ∀ n, n ≤ 11 → ∀ k, k ≤ n → bn n k ≤ 462 ∧ bn n k * (n - k) / (k + 1) = bn n (k + 1) := by decide +kernel
theorem bn_small2 : ∀ n, n ≤ 11 → ∀ k, k ≤ n → ∀ i, i < k → bn (n - k + i) i ≤ 462 ∧ bn (n - k + i) i * (n - k + (i + 1)) / (i + 1) = bn (n - k + (i + 1)) (i + 1) := by decide +kernel
theorem part_rng {f : Nat → Int} (hf : RoB f) {k i : Nat} (hk : k ≤ 11) (hi : i ≤ k) : -4620000 ≤ f i * bn k i * sg (k - i) ∧ f i * bn k i * sg (k - i) ≤ 4620000 ∧ -4620000 ≤ f i * bn k i ∧ f i * bn k i ≤ 4620000 := by
  have h1 := (bn_small k hk i hi).1
  have h2 := hf i
  have h3 : -4620000 ≤ f i * bn k i ∧ f i * bn k i ≤ 4620000 := by
    generalize (bn k i) = b at *
    have a1 : f i * b ≤ 10000 * b := Int.mul_le_mul_of_nonneg_right h2.2 (by omega)
    have a2 : -10000 * (b : Int) ≤ f i * b := Int.mul_le_mul_of_nonneg_right h2.1 (by omega)
    omega
  unfold sg
  split <;> omega
theorem ds_rng {f : Nat → Int} (hf : RoB f) {k : Nat} (hk : k ≤ 11) : ∀ i : Nat, i ≤ k + 1 → -(4620000 * (i : Int)) ≤ ds f k i ∧ ds f k i ≤ 4620000 * (i : Int)
  | 0, _ => by rw [ds]; omega
  | i + 1, h => by
    have h1 := ds_rng hf hk i (by omega)
    have h2 := part_rng hf hk (i := i) (by omega)
    rw [ds]
    omega
theorem df_rng {f : Nat → Int} (hf : RoB f) {k : Nat} (hk : k ≤ 11) : -60000000 ≤ df f k ∧ df f k ≤ 60000000 := by
  have := ds_rng hf hk (k + 1) (Nat.le_refl _)
  unfold df
  omega
theorem ji_and1 {e : Int} (h : -2147483648 ≤ e ∧ e < 2147483648) : ji e &&& ji 1 = ji (e % 2) := by
  apply Int32.toBitVec_inj.mp
  rw [Int32.toBitVec_and]
  apply BitVec.eq_of_toNat_eq
  rw [BitVec.toNat_and]
  show (BitVec.ofInt 32 e).toNat &&& 1 = (BitVec.ofInt 32 (e % 2)).toNat
  rw [Nat.and_one_is_mod, BitVec.toNat_ofInt, BitVec.toNat_ofInt]
  omega
theorem difC_loop {S : St} {f : Nat → Int} {k : Nat} (hf : RoB f) (hk : k ≤ 11) (h : ∀ j : Nat, j ≤ k → S.1 9 j = ji (f j)) : ∀ (N i : Nat), i ≤ k + 1 → k + 1 - i < N →
    itr (fun (q : Int32 × Int64 × Int64 × Int32) k => s_X6_differenceOf_8 (fun (x1 : Int32) (x2 : Int64) (x4 : Int64) (x6 : Int32) => k (x1, x2, x4, x6)) S q.1 q.2.1 q.2.2.1 q.2.2.2) N (ji k, jl (ds f k i), jl (bn k i : Nat), ji i) = some (ji (df f k))
  | 0, _, _, h => absurd h (Nat.not_lt_zero _)
  | N + 1, i, hi, hN => by
    rw [itrS]
    have IH := difC_loop hf hk h N (i + 1)
    generalize itr _ N = K at IH
    show s_X6_differenceOf_8 _ S (ji k) (jl (ds f k i)) (jl (bn k i : Nat)) (ji i) = _
    unfold s_X6_differenceOf_8 n_X6_differenceOf_58
    by_cases hc : k < i
    · simp (disch := omega) only [i0, i1, i2, i3, i4, i5, i6, i7, i8, i12, i16, i20, i30, i39, i40, i60, i64, i97, i100, i256, i1000, i10000, im1, im20, im60, l0, l1, l2, l3, l4, l5, l8, l10000, l1e9, lm10000, jl_add, jl_sub, jl_mul, jl_neg, ji_add, ji_sub, ji_mul, ji_neg, ji_l, jl_i, rL_n, rI_n, dL_n, dI_n, mnI_j, mxI_j, ji_nat, rest_j, part_n, whole_j, times_j, kc_0, kc_gt, kc_lt, kc_le, kc_ge, ji_lt, ji_le, ji_inj, jl_inj, jl_lt, jl_le, b1s, b2s, bEs, bEe, rIs, rIn, rIJ, rJs, rJn, rJI, ifp, ifn, if_true, if_false]
      unfold df
      rw [show i = k + 1 by omega]
    · have e := h i (by omega)
      have h1 := bn_small k hk i (by omega)
      have h2 := part_rng hf hk (i := i) (by omega)
      have h3 := ds_rng hf hk i (by omega)
      have h4 := hf i
      have h5 : (bn k i : Int) * ((k : Int) - i) = ((bn k i * (k - i) : Nat) : Int) := by push_cast; rw [show ((k - i : Nat) : Int) = (k : Int) - i by omega]
      have h6 : bn k i * (k - i) ≤ 462 * 11 := Nat.mul_le_mul h1.1 (by omega)
      have h7 : ((bn k i * (k - i) : Nat) : Int) / ((i : Int) + 1) = (bn k (i + 1) : Nat) := by
        rw [← h1.2]
        push_cast
        rfl
      have h8 : ds f k i + f i * bn k i * sg (k - i) = ds f k (i + 1) := rfl
      have h9 : (bn k i : Int) * f i = f i * bn k i := Int.mul_comm _ _
      simp (disch := omega) only [i0, i1, i2, i3, i4, i5, i6, i7, i8, i12, i16, i20, i30, i39, i40, i60, i64, i97, i100, i256, i1000, i10000, im1, im20, im60, l0, l1, l2, l3, l4, l5, l8, l10000, l1e9, lm10000, jl_add, jl_sub, jl_mul, jl_neg, ji_add, ji_sub, ji_mul, ji_neg, ji_l, jl_i, rL_n, rI_n, dL_n, dI_n, mnI_j, mxI_j, ji_nat, rest_j, part_n, whole_j, times_j, kc_0, kc_gt, kc_lt, kc_le, kc_ge, ji_lt, ji_le, ji_inj, jl_inj, jl_lt, jl_le, b1s, b2s, bEs, bEe, rIs, rIn, rIJ, rJs, rJn, rJI, ifp, ifn, if_true, if_false, ji_and1, Int.toNat_natCast, e, h5, h7, h9]
      unfold sg at h8
      rw [show (i : Int) + 1 = ((i + 1 : Nat) : Int) by omega]
      by_cases hp : ((k : Int) - i) % 2 = 1
      · rw [if_pos hp]
        rw [if_neg (by omega)] at h8
        rw [show ds f k i - f i * ↑(bn k i) = ds f k (i + 1) by omega]
        exact IH (by omega) (by omega)
      · rw [if_neg hp]
        rw [if_pos (by omega)] at h8
        rw [show ds f k i + f i * ↑(bn k i) = ds f k (i + 1) by omega]
        exact IH (by omega) (by omega)
theorem difC {S : St} {f : Nat → Int} {k : Nat} (hf : RoB f) (hk : k ≤ 11) (h : ∀ j : Nat, j ≤ k → S.1 9 j = ji (f j)) : f_X6_differenceOf (ji k) S = some (ji (df f k)) := by
  have := difC_loop hf hk h FU 0 (by omega) (FU_lt (by omega))
  rw [bn_0] at this
  exact this
theorem chM_loop {n k : Nat} (hn : n ≤ 11) (hk : k ≤ n) : ∀ (N i : Nat), i ≤ k → k - i < N →
    itr (fun (q : Int32 × Int32 × Int64 × Int32) k => s_X10_choose_5 (fun (x0 : Int32) (x1 : Int32) (x2 : Int64) (x4 : Int32) => k (x0, x1, x2, x4)) q.1 q.2.1 q.2.2.1 q.2.2.2) N (ji n, ji k, jl (bn (n - k + i) i : Nat), ji ((i : Int) + 1)) = some (ji (bn n k : Nat))
  | 0, _, _, h => absurd h (Nat.not_lt_zero _)
  | N + 1, i, hi, hN => by
    rw [itrS]
    have IH := chM_loop hn hk N (i + 1)
    generalize itr _ N = K at IH
    show s_X10_choose_5 _ (ji n) (ji k) (jl (bn (n - k + i) i : Nat)) (ji ((i : Int) + 1)) = _
    unfold s_X10_choose_5
    by_cases hc : i = k
    · subst hc
      simp (disch := omega) only [i0, i1, i2, i3, i4, i5, i6, i7, i8, i12, i16, i20, i30, i39, i40, i60, i64, i97, i100, i256, i1000, i10000, im1, im20, im60, l0, l1, l2, l3, l4, l5, l8, l10000, l1e9, lm10000, jl_add, jl_sub, jl_mul, jl_neg, ji_add, ji_sub, ji_mul, ji_neg, ji_l, jl_i, rL_n, rI_n, dL_n, dI_n, mnI_j, mxI_j, ji_nat, rest_j, part_n, whole_j, times_j, kc_0, kc_gt, kc_lt, kc_le, kc_ge, ji_lt, ji_le, ji_inj, jl_inj, jl_lt, jl_le, b1s, b2s, bEs, bEe, rIs, rIn, rIJ, rJs, rJn, rJI, ifp, ifn, if_true, if_false]
      rw [show n - i + i = n by omega]
    · obtain ⟨h1, h2⟩ := bn_small2 n hn k hk i (by omega)
      have h5 : (bn (n - k + i) i : Int) * ((n : Int) - k + (i + 1)) = ((bn (n - k + i) i * (n - k + (i + 1)) : Nat) : Int) := by push_cast; rw [show ((n - k : Nat) : Int) = (n : Int) - k by omega]
      have h6 : bn (n - k + i) i * (n - k + (i + 1)) ≤ 462 * 12 := Nat.mul_le_mul h1 (by omega)
      have h7 : ((bn (n - k + i) i * (n - k + (i + 1)) : Nat) : Int) / ((i : Int) + 1) = (bn (n - k + (i + 1)) (i + 1) : Nat) := by
        rw [← h2]
        push_cast
        rfl
      simp (disch := omega) only [i0, i1, i2, i3, i4, i5, i6, i7, i8, i12, i16, i20, i30, i39, i40, i60, i64, i97, i100, i256, i1000, i10000, im1, im20, im60, l0, l1, l2, l3, l4, l5, l8, l10000, l1e9, lm10000, jl_add, jl_sub, jl_mul, jl_neg, ji_add, ji_sub, ji_mul, ji_neg, ji_l, jl_i, rL_n, rI_n, dL_n, dI_n, mnI_j, mxI_j, ji_nat, rest_j, part_n, whole_j, times_j, kc_0, kc_gt, kc_lt, kc_le, kc_ge, ji_lt, ji_le, ji_inj, jl_inj, jl_lt, jl_le, b1s, b2s, bEs, bEe, rIs, rIn, rIJ, rJs, rJn, rJI, ifp, ifn, if_true, if_false, h5, h7]
      have := IH (by omega) (by omega)
      push_cast at this
      exact this
theorem chM {n k : Nat} (hn : n ≤ 11) (hk : k ≤ n) : f_X10_choose (ji n) (ji k) = some (ji (bn n k : Nat)) := by
  have := chM_loop hn hk FU 0 (by omega) (FU_lt (by omega))
  rw [bn_0] at this
  exact this
theorem difM_loop {T : St} {f : Nat → Int} {k : Nat} (hf : RoB f) (hk : k ≤ 11) (h : ∀ j : Nat, j ≤ k → T.1 14 j = ji (f j)) : ∀ (N i : Nat), i ≤ k + 1 → k + 1 - i < N →
    itr (fun (q : Int32 × Int32 × Int32 × St) k => s_X10_difference_27 (fun (x1 : Int32) (x2 : Int32) (x3 : Int32) (S : St) => k (x1, x2, x3, S)) q.1 q.2.1 q.2.2.1 q.2.2.2) N (ji k, ji (ds f k i), ji i, T) = some (ji (df f k), T)
  | 0, _, _, h => absurd h (Nat.not_lt_zero _)
  | N + 1, i, hi, hN => by
    rw [itrS]
    have IH := difM_loop hf hk h N (i + 1)
    generalize itr _ N = K at IH
    show s_X10_difference_27 _ (ji k) (ji (ds f k i)) (ji i) T = _
    unfold s_X10_difference_27
    by_cases hc : k < i
    · simp (disch := omega) only [i0, i1, i2, i3, i4, i5, i6, i7, i8, i12, i16, i20, i30, i39, i40, i60, i64, i97, i100, i256, i1000, i10000, im1, im20, im60, l0, l1, l2, l3, l4, l5, l8, l10000, l1e9, lm10000, jl_add, jl_sub, jl_mul, jl_neg, ji_add, ji_sub, ji_mul, ji_neg, ji_l, jl_i, rL_n, rI_n, dL_n, dI_n, mnI_j, mxI_j, ji_nat, rest_j, part_n, whole_j, times_j, kc_0, kc_gt, kc_lt, kc_le, kc_ge, ji_lt, ji_le, ji_inj, jl_inj, jl_lt, jl_le, b1s, b2s, bEs, bEe, rIs, rIn, rIJ, rJs, rJn, rJI, ifp, ifn, if_true, if_false]
      unfold df
      rw [show i = k + 1 by omega]
    · have e := h i (by omega)
      have h8 : ds f k i + f i * bn k i * sg (k - i) = ds f k (i + 1) := rfl
      unfold sg at h8
      simp (disch := omega) only [i0, i1, i2, i3, i4, i5, i6, i7, i8, i12, i16, i20, i30, i39, i40, i60, i64, i97, i100, i256, i1000, i10000, im1, im20, im60, l0, l1, l2, l3, l4, l5, l8, l10000, l1e9, lm10000, jl_add, jl_sub, jl_mul, jl_neg, ji_add, ji_sub, ji_mul, ji_neg, ji_l, jl_i, rL_n, rI_n, dL_n, dI_n, mnI_j, mxI_j, ji_nat, rest_j, part_n, whole_j, times_j, kc_0, kc_gt, kc_lt, kc_le, kc_ge, ji_lt, ji_le, ji_inj, jl_inj, jl_lt, jl_le, b1s, b2s, bEs, bEe, rIs, rIn, rIJ, rJs, rJn, rJI, ifp, ifn, if_true, if_false, Int.toNat_natCast, e]
      rw [chM hk (by omega), b1s, show (i : Int) + 1 = ((i + 1 : Nat) : Int) by omega]
      simp (disch := omega) only [i0, i1, i2, i3, i4, i5, i6, i7, i8, i12, i16, i20, i30, i39, i40, i60, i64, i97, i100, i256, i1000, i10000, im1, im20, im60, l0, l1, l2, l3, l4, l5, l8, l10000, l1e9, lm10000, jl_add, jl_sub, jl_mul, jl_neg, ji_add, ji_sub, ji_mul, ji_neg, ji_l, jl_i, rL_n, rI_n, dL_n, dI_n, mnI_j, mxI_j, ji_nat, rest_j, part_n, whole_j, times_j, kc_0, kc_gt, kc_lt, kc_le, kc_ge, ji_lt, ji_le, ji_inj, jl_inj, jl_lt, jl_le, b1s, b2s, bEs, bEe, rIs, rIn, rIJ, rJs, rJn, rJI, ifp, ifn, if_true, if_false, Int.toNat_natCast, e]
      by_cases hp : ((k : Int) - i) % 2 = 0
      · rw [if_pos hp]
        rw [if_pos (by omega)] at h8
        rw [h8]
        exact IH (by omega) (by omega)
      · rw [if_neg hp]
        rw [if_neg (by omega)] at h8
        rw [h8]
        exact IH (by omega) (by omega)
theorem difM {T : St} {f : Nat → Int} {k : Nat} (hf : RoB f) (hk : k ≤ 11) (h : ∀ j : Nat, j ≤ k → T.1 14 j = ji (f j)) : n_X10_difference_27 (ji k) (ji 0) (ji 0) T = some (ji (df f k), T) :=
  difM_loop hf hk h FU 0 (by omega) (FU_lt (by omega))
