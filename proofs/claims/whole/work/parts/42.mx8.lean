/-! the class's functions of whole numbers -/
theorem dvd_tdiv {p z : Int} (hp : 2 ≤ p) (h : z % p = 0) : z.tdiv p = z / p := by
  obtain ⟨c, rfl⟩ := Int.dvd_of_emod_eq_zero h
  rw [Int.mul_tdiv_cancel_left _ (by omega), Int.mul_ediv_cancel_left _ (by omega)]
theorem dvd_div_rng {p z : Int} (hp : 2 ≤ p) (h : z % p = 0) {M : Int} (hM : -M ≤ z ∧ z < M) : -M ≤ z / p ∧ z / p < M := by
  obtain ⟨c, rfl⟩ := Int.dvd_of_emod_eq_zero h
  rw [Int.mul_ediv_cancel_left _ (by omega)]
  rcases Int.lt_or_le c 0 with h1 | h1
  · have := Int.mul_le_mul_of_nonpos_right hp (Int.le_of_lt h1)
    omega
  · have := Int.mul_le_mul_of_nonneg_right hp h1
    omega
theorem facC_loop {p : Int} (hp : 2 ≤ p ∧ p ≤ 10000) : ∀ (j n : Nat) (z k : Int), vp p z = j → (-9223372036854775808 ≤ z ∧ z < 9223372036854775808) → j < n → 0 ≤ k → k + j ≤ 63 →
    itr (fun (q : Int32 × Int64 × Int32) k => s_X8_factorCount_5 (fun (x2 : Int32) (x3 : Int64) (x5 : Int32) => k (x2, x3, x5)) q.1 q.2.1 q.2.2) n (ji p, jl z, ji k) = some (ji (k + j))
  | j, 0, _, _, _, _, h, _, _ => absurd h (Nat.not_lt_zero _)
  | j, n + 1, z, k, hv, hz, hn, hk, hkj => by
    rw [itrS]
    show s_X8_factorCount_5 _ (ji p) (jl z) (ji k) = _
    unfold s_X8_factorCount_5
    rw [ifn (show ¬ (64 : Int32) ≤ ji k from fun q => by rw [i64, ji_le (by omega) (by omega)] at q; omega), l0, ji_l (by omega)]
    rw [vp_step hp.1] at hv
    by_cases h0 : z = 0
    · rw [ifp ((jc_0 (by omega) (by omega)).mpr h0)]
      rw [if_neg (fun q => q.1 h0)] at hv
      rw [← hv]; simp
    · rw [ifn (fun q => h0 ((jc_0 (by omega) (by omega)).mp q)), rest_j hz (by omega), b1s]
      have h1 := Int.emod_nonneg z (show p ≠ 0 by omega)
      have h2 := Int.emod_lt_of_pos z (show 0 < p by omega)
      by_cases hd : z % p = 0
      · rw [ifp ((jc_0 (by omega) (by omega)).mpr hd), part_j hz (by omega), b1s, dvd_tdiv hp.1 hd]
        rw [if_pos ⟨h0, hd⟩] at hv
        have h3 := dvd_div_rng hp.1 hd hz
        have := facC_loop hp (j - 1) n (z / p) (k + 1) (by omega) h3 (by omega) (by omega) (by omega)
        rw [i1, ji_add]
        refine Eq.trans this ?_
        congr 2
        omega
      · rw [ifn (fun q => hd ((jc_0 (by omega) (by omega)).mp q))]
        rw [if_neg (fun q => hd q.2)] at hv
        rw [← hv]; simp
theorem facC {p z : Int} (hp : 2 ≤ p ∧ p ≤ 10000) (hz : -9223372036854775808 ≤ z ∧ z < 9223372036854775808) : f_X8_factorCount (jl z) (ji p) = some (ji (vp p z)) := by
  have h := vp_62 hp.1 hz
  have := facC_loop hp (vp p z) FU z 0 rfl hz (FU_lt (by omega)) (by omega) (by omega)
  rw [show (0 : Int) + (vp p z : Int) = vp p z by omega] at this
  exact this
theorem woC_loop {p : Int} (hp : 2 ≤ p ∧ p ≤ 10000) : ∀ (j n : Nat) (z k : Int), vp p z = j → (-9223372036854775808 ≤ z ∧ z < 9223372036854775808) → j < n → 0 ≤ k → k + j ≤ 63 →
    itr (fun (q : Int32 × Int64 × Int32) k => s_X8_withoutFactors_5 (fun (x2 : Int32) (x3 : Int64) (x5 : Int32) => k (x2, x3, x5)) q.1 q.2.1 q.2.2) n (ji p, jl z, ji k) = some (jl (wo p z))
  | j, 0, _, _, _, _, h, _, _ => absurd h (Nat.not_lt_zero _)
  | j, n + 1, z, k, hv, hz, hn, hk, hkj => by
    rw [itrS]
    show s_X8_withoutFactors_5 _ (ji p) (jl z) (ji k) = _
    unfold s_X8_withoutFactors_5
    rw [ifn (show ¬ (64 : Int32) ≤ ji k from fun q => by rw [i64, ji_le (by omega) (by omega)] at q; omega), l0, ji_l (by omega)]
    rw [vp_step hp.1] at hv
    rw [wo_step hp.1]
    by_cases h0 : z = 0
    · rw [ifp ((jc_0 (by omega) (by omega)).mpr h0), if_neg (fun q => q.1 h0)]
    · rw [ifn (fun q => h0 ((jc_0 (by omega) (by omega)).mp q)), rest_j hz (by omega), b1s]
      have h1 := Int.emod_nonneg z (show p ≠ 0 by omega)
      have h2 := Int.emod_lt_of_pos z (show 0 < p by omega)
      by_cases hd : z % p = 0
      · rw [ifp ((jc_0 (by omega) (by omega)).mpr hd), part_j hz (by omega), b1s, dvd_tdiv hp.1 hd]
        rw [if_pos ⟨h0, hd⟩] at hv ⊢
        have h3 := dvd_div_rng hp.1 hd hz
        have := woC_loop hp (j - 1) n (z / p) (k + 1) (by omega) h3 (by omega) (by omega) (by omega)
        rw [i1, ji_add]
        exact this
      · rw [ifn (fun q => hd ((jc_0 (by omega) (by omega)).mp q)), if_neg (fun q => hd q.2)]
theorem woC {p z : Int} (hp : 2 ≤ p ∧ p ≤ 10000) (hz : -9223372036854775808 ≤ z ∧ z < 9223372036854775808) : f_X8_withoutFactors (jl z) (ji p) = some (jl (wo p z)) := by
  have h := vp_62 hp.1 hz
  exact woC_loop hp (vp p z) FU z 0 rfl hz (FU_lt (by omega)) (by omega) (by omega)
/-! Euclid's steps, with the times of the number -/
def Eu (m a r₀ r₁ t₀ t₁ : Int) : Prop := 0 ≤ r₁ ∧ r₁ < r₀ ∧ (∃ s A B : Int, (s = 1 ∨ s = -1) ∧ t₀ = -s * A ∧ t₁ = s * B ∧ 0 ≤ A ∧ A ≤ B ∧ 1 ≤ B ∧ B * r₀ + A * r₁ = m) ∧ m ∣ r₀ - t₀ * a ∧ m ∣ r₁ - t₁ * a ∧ ∀ d : Int, d ∣ r₀ → d ∣ r₁ → d ∣ m ∧ d ∣ a
theorem Eu.init {m a : Int} (h0 : 0 ≤ a) (h1 : a < m) : Eu m a m a 0 1 :=
  ⟨h0, h1, ⟨1, 0, 1, Or.inl rfl, by omega, by omega, by omega, by omega, by omega, by omega⟩, ⟨1, by omega⟩, ⟨0, by omega⟩, fun d h2 h3 => ⟨h2, h3⟩⟩
theorem Eu.step {m a r₀ r₁ t₀ t₁ : Int} (h : Eu m a r₀ r₁ t₀ t₁) (hr : 0 < r₁) : Eu m a r₁ (r₀ - r₀ / r₁ * r₁) t₁ (t₀ - r₀ / r₁ * t₁) := by
  obtain ⟨h1, h2, ⟨s, A, B, hs, e0, e1, hA, hAB, hB, hm⟩, ⟨c0, d0⟩, ⟨c1, d1⟩, hd⟩ := h
  have hq1 : 1 ≤ r₀ / r₁ := Int.le_ediv_of_mul_le hr (by omega)
  have e : r₀ - r₀ / r₁ * r₁ = r₀ % r₁ := by rw [Int.emod_def, Int.mul_comm]
  have h3 := Int.emod_nonneg r₀ (show r₁ ≠ 0 by omega)
  have h4 := Int.emod_lt_of_pos r₀ hr
  rw [← e] at h3 h4
  generalize r₀ / r₁ = q at *
  have hqB : B ≤ q * B := by
    have := Int.mul_le_mul_of_nonneg_right hq1 (show 0 ≤ B by omega)
    omega
  refine ⟨h3, h4, ⟨-s, B, A + q * B, ?_, ?_, ?_, by omega, by omega, by omega, ?_⟩, ⟨c1, d1⟩, ⟨c0 - q * c1, ?_⟩, fun d g0 g1 => ?_⟩
  · omega
  · rw [e1]; grind
  · rw [e0, e1]; grind
  · rw [← hm]; grind
  · grind
  · apply hd d _ g0
    have := Int.dvd_add g1 (Int.dvd_mul_of_dvd_right (b := q) g0)
    rwa [Int.sub_add_cancel] at this
theorem eu_half {r₀ r₁ : Int} (h1 : 0 < r₁) (h2 : r₁ < r₀) : 2 * (r₁ * (r₀ - r₀ / r₁ * r₁)) ≤ r₀ * r₁ := by
  have hq1 : 1 ≤ r₀ / r₁ := Int.le_ediv_of_mul_le h1 (by omega)
  have e : r₀ - r₀ / r₁ * r₁ = r₀ % r₁ := by rw [Int.emod_def, Int.mul_comm]
  have h4 := Int.emod_lt_of_pos r₀ h1
  rw [← e] at h4
  have h5 := Int.mul_le_mul_of_nonneg_right hq1 (Int.le_of_lt h1)
  generalize r₀ / r₁ * r₁ = Q at *
  have h6 : r₁ * (2 * (r₀ - Q)) ≤ r₁ * r₀ := Int.mul_le_mul_of_nonneg_left (by omega) (Int.le_of_lt h1)
  have e2 : 2 * (r₁ * (r₀ - Q)) = r₁ * (2 * (r₀ - Q)) := by grind
  rw [e2, Int.mul_comm r₀ r₁]
  exact h6
theorem euq {r₀ r₁ : Int} (h0 : 0 ≤ r₀) : r₀.tdiv r₁ = r₀ / r₁ := Int.tdiv_eq_ediv_of_nonneg h0
theorem invC_loop {m a : Int} (hm : 0 < m ∧ m ≤ 1000000000) (hc : ∃ y, m ∣ a * y - 1) : ∀ (j n : Nat) (r₀ r₁ t₀ t₁ k : Int), Eu m a r₀ r₁ t₀ t₁ → r₀ * r₁ < 2 ^ j → r₀ ≤ m → 0 ≤ k → k + j ≤ 100 → j < n →
    Ok (itr (fun (q : Int64 × Int64 × Int64 × Int64 × Int64 × Int32) k => s_X8_inverseModulo_19 (fun (x2 : Int64) (x4 : Int64) (x6 : Int64) (x8 : Int64) (x10 : Int64) (x12 : Int32) => k (x2, x4, x6, x8, x10, x12)) q.1 q.2.1 q.2.2.1 q.2.2.2.1 q.2.2.2.2.1 q.2.2.2.2.2) n (jl m, jl r₀, jl r₁, jl t₀, jl t₁, ji k))
      (fun r => ∃ x, r = jl x ∧ 0 ≤ x ∧ x < m ∧ m ∣ a * x - 1)
  | j, 0, _, _, _, _, _, _, _, _, _, _, h => absurd h (Nat.not_lt_zero _)
  | j, n + 1, r₀, r₁, t₀, t₁, k, hE, hj, hr, hk, hkj, hn => by
    rw [itrS]
    show Ok (s_X8_inverseModulo_19 _ (jl m) (jl r₀) (jl r₁) (jl t₀) (jl t₁) (ji k)) _
    unfold s_X8_inverseModulo_19
    have hr0 := hE.1
    have hr1 := hE.2.1
    have fin : r₁ = 0 → Ok (n_X8_inverseModulo_84 (jl m) (jl t₀)) (fun r => ∃ x, r = jl x ∧ 0 ≤ x ∧ x < m ∧ m ∣ a * x - 1) := by
      intro hz
      obtain ⟨-, -, ⟨s, A, B, hs, e0, e1, hA, hAB, hB, hm2⟩, ⟨c0, d0⟩, -, hd⟩ := hE
      subst hz
      have hB2 : B ≤ B * r₀ := by
        have := Int.mul_le_mul_of_nonneg_left (show 1 ≤ r₀ by omega) (show 0 ≤ B by omega)
        omega
      have ht : -1000000000 ≤ t₀ ∧ t₀ ≤ 1000000000 := by
        rcases hs with rfl | rfl <;> omega
      unfold n_X8_inverseModulo_84
      rw [rest_j (by omega) (by omega), b1s]
      refine ok_s ⟨_, rfl, Int.emod_nonneg _ (by omega), Int.emod_lt_of_pos _ hm.1, ?_⟩
      obtain ⟨g1, g2⟩ := hd r₀ (Int.dvd_refl _) (Int.dvd_zero _)
      obtain ⟨y, hy⟩ := hc
      have g3 : r₀ ∣ 1 := by
        have := Int.dvd_sub (Int.dvd_mul_of_dvd_left (c := y) g2) (Int.dvd_trans g1 hy)
        rwa [Int.sub_sub_self] at this
      have g4 : r₀ = 1 := by
        have := Int.le_of_dvd (by decide) g3
        omega
      have h4 := Int.emod_add_mul_ediv t₀ m
      refine ⟨-c0 - a * (t₀ / m), ?_⟩
      generalize t₀ / m = w at *
      generalize t₀ % m = u at *
      subst g4
      grind
    by_cases h100 : k = 100
    · rw [ifp (show (100 : Int32) ≤ ji k by rw [i100, ji_le (by omega) (by omega)]; omega)]
      apply fin
      have : j = 0 := by omega
      subst this
      have h5 : r₀ * r₁ < 1 := hj
      by_cases hz : r₁ = 0
      · exact hz
      · have := Int.mul_pos (show 0 < r₀ by omega) (show 0 < r₁ by omega)
        omega
    · rw [ifn (show ¬ (100 : Int32) ≤ ji k from fun q => by rw [i100, ji_le (by omega) (by omega)] at q; omega), l0]
      by_cases hz : r₁ = 0
      · rw [ifp ((jc_0 (by omega) (by omega)).mpr hz)]
        exact fin hz
      · rw [ifn (fun q => hz ((jc_0 (by omega) (by omega)).mp q)), part_j (by omega) (by omega), b1s, euq (by omega), jl_mul, jl_mul, jl_sub, jl_sub, i1, ji_add]
        have hh := eu_half (show 0 < r₁ by omega) hr1
        have hE2 := hE.step (show 0 < r₁ by omega)
        cases j with
        | zero =>
          have h5 : r₀ * r₁ < 1 := hj
          have := Int.mul_pos (show 0 < r₀ by omega) (show 0 < r₁ by omega)
          omega
        | succ j =>
          rw [Int.pow_succ] at hj
          exact invC_loop hm hc j n _ _ _ _ (k + 1) hE2 (by omega) (by omega) (by omega) (by omega) (by omega)
theorem invC {m a : Int} (hm : 0 < m ∧ m ≤ 1000000000) (ha : -9223372036854775808 ≤ a ∧ a < 9223372036854775808) (hc : ∃ y, m ∣ a * y - 1) : Ok (f_X8_inverseModulo (jl a) (jl m)) (fun r => ∃ x, r = jl x ∧ 0 ≤ x ∧ x < m ∧ m ∣ a * x - 1) := by
  unfold f_X8_inverseModulo
  rw [rest_j ha (by omega), b1s]
  have h1 := Int.emod_nonneg a (show m ≠ 0 by omega)
  have h2 := Int.emod_lt_of_pos a hm.1
  have e := Int.emod_add_mul_ediv a m
  have hc2 : ∃ y, m ∣ a % m * y - 1 := by
    obtain ⟨y, c, hy⟩ := hc
    refine ⟨y, c - a / m * y, ?_⟩
    generalize a / m = q at *
    generalize a % m = r at *
    grind
  have hb : m * (a % m) < 2 ^ 60 := by
    have h3 : m * (a % m) ≤ 1000000000 * 1000000000 := Int.mul_le_mul (by omega) (by omega) h1 (by omega)
    have h4 : (2 : Int) ^ 60 = 1152921504606846976 := by decide
    omega
  refine ok_m (invC_loop hm hc2 60 FU m (a % m) 0 1 0 (Eu.init h1 h2) hb (by omega) (by omega) (by omega) (FU_lt (by omega))) ?_
  rintro r ⟨x, rfl, h5, h6, c, h7⟩
  refine ⟨x, rfl, h5, h6, c + a / m * x, ?_⟩
  generalize a / m = q at *
  generalize a % m = r at *
  grind
theorem inv_p {p a : Int} (h : Pr p) (ha : ¬ p ∣ a) (hr : -9223372036854775808 ≤ a ∧ a < 9223372036854775808) {n : Nat} (hn : p ^ n ≤ 1000000000) : f_X8_inverseModulo (jl a) (jl (p ^ n)) = some (jl (iv p n a)) := by
  have hp := pw_pos h.rng.1 n
  obtain ⟨r, e, x, rfl, h1, h2, h3⟩ := invC ⟨hp, hn⟩ hr ⟨_, iv_mul h ha n⟩
  rw [e, iv_un h ha h1 h2 h3]
