/-! how often a number divides another one -/
def vpF (p : Int) : Nat → Int → Nat
  | 0, _ => 0
  | n + 1, z => if z ≠ 0 ∧ z % p = 0 then vpF p n (z / p) + 1 else 0
def vp (p z : Int) : Nat := vpF p z.natAbs z
def wo (p z : Int) : Int := z / p ^ vp p z
theorem pw_pos {p : Int} (hp : 2 ≤ p) (n : Nat) : 0 < p ^ n := Int.pow_pos (by omega)
theorem pw_s (p : Int) (n : Nat) : p ^ (n + 1) = p * p ^ n := by rw [Int.pow_succ, Int.mul_comm]
theorem pw_add (p : Int) (a b : Nat) : p ^ (a + b) = p ^ a * p ^ b := Int.pow_add p a b
theorem pw_le {p : Int} (hp : 2 ≤ p) {a b : Nat} (h : a ≤ b) : p ^ a ≤ p ^ b := by
  obtain ⟨c, rfl⟩ := Nat.exists_eq_add_of_le h
  rw [pw_add]
  have h1 := pw_pos hp a
  have h2 := pw_pos hp c
  have := Int.mul_le_mul_of_nonneg_left (show 1 ≤ p ^ c by omega) (Int.le_of_lt h1)
  omega
theorem pw_lt {p : Int} (hp : 2 ≤ p) {a b : Nat} (h : a < b) : p ^ a < p ^ b := by
  have h1 := pw_le hp (show a + 1 ≤ b from h)
  rw [pw_s] at h1
  have h2 := pw_pos hp a
  have := Int.mul_le_mul_of_nonneg_right hp (Int.le_of_lt h2)
  omega
theorem pw_le_iff {p : Int} (hp : 2 ≤ p) {a b : Nat} : p ^ a ≤ p ^ b ↔ a ≤ b :=
  ⟨fun h => Nat.le_of_not_lt (fun q => by have := pw_lt hp q; omega), pw_le hp⟩
theorem pw_dvd (p : Int) {a b : Nat} (h : a ≤ b) : p ^ a ∣ p ^ b := by
  obtain ⟨c, rfl⟩ := Nat.exists_eq_add_of_le h
  exact ⟨p ^ c, pw_add p a c⟩
theorem pw_dvd1 (p : Int) {n : Nat} (h : 1 ≤ n) : p ∣ p ^ n := by
  have := pw_dvd p h
  rwa [Int.pow_one] at this
theorem pw_big {p : Int} (hp : 2 ≤ p) : ∀ n : Nat, (n : Int) < p ^ n
  | 0 => by simp
  | n + 1 => by
    have h1 := pw_big hp n
    rw [pw_s]
    have := Int.mul_le_mul_of_nonneg_right hp (Int.le_of_lt (pw_pos hp n))
    push_cast
    omega
theorem fac_ex {p : Int} (hp : 2 ≤ p) : ∀ (n : Nat) (z : Int), z.natAbs ≤ n → z ≠ 0 → ∃ (k : Nat) (w : Int), z = p ^ k * w ∧ ¬ p ∣ w
  | 0, z, h, hz => absurd (Int.natAbs_eq_zero.mp (Nat.le_zero.mp h)) hz
  | n + 1, z, h, hz => by
    by_cases hd : p ∣ z
    · obtain ⟨c, rfl⟩ := hd
      have hc : c ≠ 0 := fun q => hz (by rw [q, Int.mul_zero])
      have h1 : 0 < c.natAbs := Int.natAbs_pos.mpr hc
      rw [Int.natAbs_mul] at h
      have h2 : 2 * c.natAbs ≤ p.natAbs * c.natAbs := Nat.mul_le_mul_right _ (by omega)
      obtain ⟨k, w, hk, hw⟩ := fac_ex hp n c (by omega) hc
      exact ⟨k + 1, w, by rw [pw_s, Int.mul_assoc, ← hk], hw⟩
    · exact ⟨0, z, by simp, hd⟩
theorem vpF_eq {p : Int} (hp : 2 ≤ p) : ∀ (k n : Nat) (w : Int), ¬ p ∣ w → k < n → vpF p n (p ^ k * w) = k
  | k, 0, w, hw, h => absurd h (Nat.not_lt_zero _)
  | 0, n + 1, w, hw, h => by
    unfold vpF
    rw [if_neg]
    intro q
    exact hw (Int.dvd_of_emod_eq_zero (by simpa using q.2))
  | k + 1, n + 1, w, hw, h => by
    have hw0 : w ≠ 0 := fun q => hw (by rw [q]; exact Int.dvd_zero p)
    have h1 : p ^ (k + 1) * w = p * (p ^ k * w) := by rw [pw_s, Int.mul_assoc]
    unfold vpF
    rw [h1, if_pos, Int.mul_ediv_cancel_left _ (by omega), vpF_eq hp k n w hw (by omega)]
    refine ⟨?_, Int.mul_emod_right _ _⟩
    have := pw_pos hp k
    exact Int.mul_ne_zero (by omega) (Int.mul_ne_zero (by omega) hw0)
theorem vp_eq {p : Int} (hp : 2 ≤ p) {k : Nat} {w : Int} (hw : ¬ p ∣ w) : vp p (p ^ k * w) = k := by
  unfold vp
  apply vpF_eq hp k _ w hw
  have hw0 : w ≠ 0 := fun q => hw (by rw [q]; exact Int.dvd_zero p)
  rw [Int.natAbs_mul]
  have h1 := pw_big hp k
  have h2 : 0 < w.natAbs := Int.natAbs_pos.mpr hw0
  have h3 : (p ^ k).natAbs * 1 ≤ (p ^ k).natAbs * w.natAbs := Nat.mul_le_mul_left _ h2
  omega
theorem wo_eq {p : Int} (hp : 2 ≤ p) {k : Nat} {w : Int} (hw : ¬ p ∣ w) : wo p (p ^ k * w) = w := by
  unfold wo
  rw [vp_eq hp hw, Int.mul_ediv_cancel_left]
  have := pw_pos hp k
  omega
theorem vp_wo {p z : Int} (hp : 2 ≤ p) (hz : z ≠ 0) : z = p ^ vp p z * wo p z ∧ ¬ p ∣ wo p z := by
  obtain ⟨k, w, rfl, hw⟩ := fac_ex hp _ z (Nat.le_refl _) hz
  rw [vp_eq hp hw, wo_eq hp hw]
  exact ⟨rfl, hw⟩
theorem vp_0 (p : Int) : vp p 0 = 0 := rfl
theorem wo_0 (p : Int) : wo p 0 = 0 := by unfold wo; rw [Int.zero_ediv]
theorem pw_dvd_iff {p w : Int} (hp : 2 ≤ p) (hw : ¬ p ∣ w) {j k : Nat} : p ^ k ∣ p ^ j * w ↔ k ≤ j := by
  constructor
  · intro hk
    apply Nat.le_of_not_lt
    intro hlt
    obtain ⟨d, rfl⟩ := Nat.exists_eq_add_of_lt hlt
    obtain ⟨c, hc⟩ := hk
    rw [show j + d + 1 = j + (d + 1) by omega, pw_add, Int.mul_assoc] at hc
    have h3 : w = p ^ (d + 1) * c := Int.eq_of_mul_eq_mul_left (by have := pw_pos hp j; omega) hc
    exact hw ⟨p ^ d * c, by rw [h3, pw_s, Int.mul_assoc]⟩
  · intro hk
    exact Int.dvd_mul_of_dvd_left (pw_dvd p hk)
theorem vp_dvd {p z : Int} (hp : 2 ≤ p) (hz : z ≠ 0) {k : Nat} : p ^ k ∣ z ↔ k ≤ vp p z := by
  obtain ⟨j, w, rfl, hw⟩ := fac_ex hp _ z (Nat.le_refl _) hz
  rw [vp_eq hp hw, pw_dvd_iff hp hw]
theorem vp_le {p z : Int} (hp : 2 ≤ p) (hz : z ≠ 0) : p ^ vp p z ≤ z.natAbs := by
  have h1 : p ^ vp p z ∣ z := (vp_dvd hp hz).mpr (Nat.le_refl _)
  exact Int.le_of_dvd (by omega) (Int.dvd_natAbs.mpr h1)
theorem vp_62 {p z : Int} (hp : 2 ≤ p) (h : -9223372036854775808 ≤ z ∧ z < 9223372036854775808) : vp p z ≤ 63 := by
  by_cases hz : z = 0
  · subst hz; exact Nat.zero_le _
  · apply Nat.le_of_not_lt
    intro q
    have h1 := vp_le hp hz
    have h2 := pw_le hp (show 64 ≤ vp p z from q)
    have h3 : (2 : Int) ^ 64 ≤ p ^ 64 := by
      have : ∀ n : Nat, (2 : Int) ^ n ≤ p ^ n := fun n => by
        induction n with
        | zero => simp
        | succ n ih =>
          rw [pw_s, pw_s]
          exact Int.mul_le_mul hp ih (Int.le_of_lt (pw_pos (by omega) n)) (by omega)
      exact this 64
    have h4 : (2 : Int) ^ 64 = 18446744073709551616 := by decide
    omega
theorem vp_neg (p z : Int) (hp : 2 ≤ p) : vp p (-z) = vp p z := by
  by_cases hz : z = 0
  · subst hz; rfl
  · obtain ⟨j, w, rfl, hw⟩ := fac_ex hp _ z (Nat.le_refl _) hz
    rw [vp_eq hp hw, ← Int.mul_neg, vp_eq hp (fun q => hw (Int.dvd_neg.mp q))]
theorem vp_step {p z : Int} (hp : 2 ≤ p) : vp p z = if z ≠ 0 ∧ z % p = 0 then vp p (z / p) + 1 else 0 := by
  by_cases h : z ≠ 0 ∧ z % p = 0
  · rw [if_pos h]
    obtain ⟨h1, h2⟩ := h
    obtain ⟨c, rfl⟩ := Int.dvd_of_emod_eq_zero h2
    have hc : c ≠ 0 := fun q => h1 (by rw [q, Int.mul_zero])
    rw [Int.mul_ediv_cancel_left _ (by omega)]
    obtain ⟨j, w, rfl, hw⟩ := fac_ex hp _ c (Nat.le_refl _) hc
    rw [vp_eq hp hw, ← Int.mul_assoc, ← pw_s, vp_eq hp hw]
  · rw [if_neg h]
    by_cases hz : z = 0
    · rw [hz]; rfl
    · have := vp_eq (k := 0) hp (w := z) (fun q => h ⟨hz, Int.emod_eq_zero_of_dvd q⟩)
      simpa using this
theorem wo_step {p z : Int} (hp : 2 ≤ p) : wo p z = if z ≠ 0 ∧ z % p = 0 then wo p (z / p) else z := by
  by_cases h : z ≠ 0 ∧ z % p = 0
  · rw [if_pos h]
    obtain ⟨h1, h2⟩ := h
    obtain ⟨c, rfl⟩ := Int.dvd_of_emod_eq_zero h2
    have hc : c ≠ 0 := fun q => h1 (by rw [q, Int.mul_zero])
    rw [Int.mul_ediv_cancel_left _ (by omega)]
    obtain ⟨j, w, rfl, hw⟩ := fac_ex hp _ c (Nat.le_refl _) hc
    rw [wo_eq hp hw, ← Int.mul_assoc, ← pw_s, wo_eq hp hw]
  · rw [if_neg h]
    by_cases hz : z = 0
    · rw [hz, wo_0]
    · have := wo_eq (k := 0) hp (w := z) (fun q => h ⟨hz, Int.emod_eq_zero_of_dvd q⟩)
      simpa using this
/-! the primes up to 97 -/
def P25 : List Nat := [2, 3, 5, 7, 11, 13, 17, 19, 23, 29, 31, 37, 41, 43, 47, 53, 59, 61, 67, 71, 73, 79, 83, 89, 97]
def Pr (p : Int) : Prop := ∃ n : Nat, p = (n : Int) ∧ n ∈ P25
theorem p25_rng : ∀ n ∈ P25, 2 ≤ n ∧ n ≤ 97 := by decide
theorem p25_fermat : ∀ n ∈ P25, ∀ a, a < n → 0 < a → a ^ (n - 1) % n = 1 := by decide +kernel
theorem Pr.rng {p : Int} (h : Pr p) : 2 ≤ p ∧ p ≤ 97 := by
  obtain ⟨n, rfl, hn⟩ := h
  have := p25_rng n hn
  omega
theorem nat_res {p a : Int} (hp : 0 < p) : ∃ b : Nat, a % p = (b : Int) ∧ (b : Int) < p := by
  have h1 := Int.emod_nonneg a (show p ≠ 0 by omega)
  have h2 := Int.emod_lt_of_pos a hp
  exact ⟨(a % p).toNat, by omega, by omega⟩
theorem pow_mod (a p : Int) : ∀ n : Nat, a ^ n % p = (a % p) ^ n % p
  | 0 => by simp
  | n + 1 => by rw [Int.pow_succ, Int.pow_succ, Int.mul_emod, pow_mod a p n, ← Int.mul_emod, Int.mul_emod, Int.mul_emod ((a % p) ^ n)]; simp
theorem Pr.fermat {p a : Int} (h : Pr p) (ha : ¬ p ∣ a) : a ^ (p - 1).toNat % p = 1 := by
  obtain ⟨n, rfl, hn⟩ := h
  have h1 := p25_rng n hn
  obtain ⟨b, hb, hlt⟩ := nat_res (a := a) (show (0 : Int) < n by omega)
  have hb0 : b ≠ 0 := fun q => ha (Int.dvd_of_emod_eq_zero (by rw [hb, q]; rfl))
  have h2 := p25_fermat n hn b (by omega) (by omega)
  rw [pow_mod, hb, show ((n : Int) - 1).toNat = n - 1 by omega]
  exact_mod_cast h2
theorem Pr.euclid {p a b : Int} (h : Pr p) (ha : ¬ p ∣ a) (hab : p ∣ a * b) : p ∣ b := by
  have h1 := h.fermat ha
  have h2 := h.rng
  have h3 : (p - 1).toNat = (p - 2).toNat + 1 := by omega
  rw [h3, Int.pow_succ] at h1
  have h4 : p ∣ a ^ (p - 2).toNat * (a * b) := Int.dvd_mul_of_dvd_right hab
  have h5 : p ∣ a ^ (p - 2).toNat * a - 1 := Int.dvd_of_emod_eq_zero (by rw [Int.sub_emod, h1]; simp)
  have h6 : b = a ^ (p - 2).toNat * (a * b) - (a ^ (p - 2).toNat * a - 1) * b := by grind
  rw [h6]
  exact Int.dvd_sub h4 (Int.dvd_mul_of_dvd_left h5)
theorem Pr.mul {p a b : Int} (h : Pr p) (ha : ¬ p ∣ a) (hb : ¬ p ∣ b) : ¬ p ∣ a * b := fun q => hb (h.euclid ha q)
theorem Pr.pow {p a : Int} (h : Pr p) (ha : ¬ p ∣ a) : ∀ n : Nat, ¬ p ∣ a ^ n
  | 0 => fun q => by
    have := h.rng
    have := Int.le_of_dvd (by decide) (show p ∣ 1 by simpa using q)
    omega
  | n + 1 => by rw [Int.pow_succ]; exact h.mul (Pr.pow h ha n) ha
theorem Pr.euclidN {p a b : Int} (h : Pr p) (ha : ¬ p ∣ a) : ∀ n : Nat, p ^ n ∣ a * b → p ^ n ∣ b
  | 0, _ => by simp
  | n + 1, hd => by
    have h1 : p ^ n ∣ b := Pr.euclidN h ha n (Int.dvd_trans (pw_dvd p (Nat.le_succ n)) hd)
    obtain ⟨c, rfl⟩ := h1
    have h2 : p ^ n * p ∣ p ^ n * (a * c) := by
      rw [← Int.pow_succ]
      have e : p ^ n * (a * c) = a * (p ^ n * c) := by grind
      rw [e]; exact hd
    have h3 : p ∣ a * c := Int.dvd_of_mul_dvd_mul_left (by have := pw_pos h.rng.1 n; omega) h2
    rw [Int.pow_succ]
    exact Int.mul_dvd_mul_left _ (h.euclid ha h3)
theorem vp_mul {p a b : Int} (h : Pr p) (ha : a ≠ 0) (hb : b ≠ 0) : vp p (a * b) = vp p a + vp p b := by
  have hp := h.rng.1
  obtain ⟨j, w, rfl, hw⟩ := fac_ex hp _ a (Nat.le_refl _) ha
  obtain ⟨k, v, rfl, hv⟩ := fac_ex hp _ b (Nat.le_refl _) hb
  rw [vp_eq hp hw, vp_eq hp hv, show p ^ j * w * (p ^ k * v) = p ^ (j + k) * (w * v) by rw [pw_add]; grind, vp_eq hp (h.mul hw hv)]
/-! powers of one more than a multiple, and Euler's -/
def gs (y : Int) : Nat → Int
  | 0 => 0
  | n + 1 => y * gs y n + 1
theorem gs_eq (y : Int) : ∀ n : Nat, y ^ n - 1 = (y - 1) * gs y n
  | 0 => by simp [gs]
  | n + 1 => by
    have := gs_eq y n
    rw [gs, Int.pow_succ]
    grind
theorem gs_mod (y : Int) : ∀ n : Nat, y - 1 ∣ gs y n - n
  | 0 => by simp [gs]
  | n + 1 => by
    obtain ⟨c, hc⟩ := gs_mod y n
    refine ⟨gs y n + c, ?_⟩
    rw [gs]
    push_cast
    grind
theorem one_lift {p y : Int} (hp : 2 ≤ p) {k : Nat} (hk : 1 ≤ k) (h : p ^ k ∣ y - 1) : p ^ (k + 1) ∣ y ^ p.toNat - 1 := by
  rw [gs_eq, Int.pow_succ]
  apply Int.mul_dvd_mul h
  have h1 : p ∣ y - 1 := Int.dvd_trans (pw_dvd1 p hk) h
  have h2 := Int.dvd_trans h1 (gs_mod y p.toNat)
  rw [show (p.toNat : Int) = p by omega] at h2
  have h3 := Int.dvd_add h2 (Int.dvd_refl p)
  rwa [Int.sub_add_cancel] at h3
/-- p to the power of n - 1, times p - 1 -/
def eu (p : Int) : Nat → Nat
  | 0 => 0
  | n + 1 => p.toNat ^ n * (p - 1).toNat
theorem euler {p a : Int} (h : Pr p) (ha : ¬ p ∣ a) : ∀ n : Nat, p ^ (n + 1) ∣ a ^ eu p (n + 1) - 1
  | 0 => by
    have := h.fermat ha
    simp only [eu, Nat.pow_zero, Nat.one_mul, Int.pow_succ, Int.pow_zero, Int.one_mul]
    exact Int.dvd_of_emod_eq_zero (by rw [Int.sub_emod, this]; simp)
  | n + 1 => by
    have h1 := one_lift h.rng.1 (Nat.succ_le_succ (Nat.zero_le n)) (euler h ha n)
    rw [← Int.pow_mul] at h1
    have e : eu p (n + 1) * p.toNat = eu p (n + 1 + 1) := by
      simp only [eu]
      rw [Nat.pow_succ, Nat.mul_right_comm]
    rwa [e] at h1
theorem eu_pos {p : Int} (h : Pr p) (n : Nat) : 1 ≤ eu p (n + 1) := by
  have := h.rng
  exact Nat.mul_pos (Nat.pow_pos (by omega)) (by omega)
/-- the inverse modulo p to the power of n -/
def iv (p : Int) (n : Nat) (a : Int) : Int := if n = 0 then 0 else a ^ (eu p n - 1) % p ^ n
theorem iv_rng {p a : Int} (hp : 2 ≤ p) (n : Nat) : 0 ≤ iv p n a ∧ iv p n a < p ^ n := by
  have h := pw_pos hp n
  unfold iv
  by_cases hn : n = 0
  · rw [if_pos hn]; omega
  · rw [if_neg hn]
    exact ⟨Int.emod_nonneg _ (by omega), Int.emod_lt_of_pos _ h⟩
theorem iv_mul {p a : Int} (h : Pr p) (ha : ¬ p ∣ a) (n : Nat) : p ^ n ∣ a * iv p n a - 1 := by
  unfold iv
  cases n with
  | zero => simp
  | succ n =>
    rw [if_neg (by omega)]
    have h1 := euler h ha n
    have h2 := eu_pos h n
    have h3 : eu p (n + 1) = (eu p (n + 1) - 1) + 1 := by omega
    rw [h3, Int.pow_succ a] at h1
    have h4 := Int.emod_add_mul_ediv (a ^ (eu p (n + 1) - 1)) (p ^ (n + 1))
    generalize a ^ (eu p (n + 1) - 1) % p ^ (n + 1) = r at h4 ⊢
    generalize a ^ (eu p (n + 1) - 1) / p ^ (n + 1) = q at h4
    rw [← h4] at h1
    obtain ⟨c, hc⟩ := h1
    exact ⟨c - q * a, by grind⟩
theorem res_eq {m x y : Int} (h1 : 0 ≤ x) (h2 : x < m) (h3 : 0 ≤ y) (h4 : y < m) (h : m ∣ x - y) : x = y := by
  have h5 := Int.emod_eq_of_lt h1 h2
  have h6 := Int.emod_eq_of_lt h3 h4
  have h7 := Int.emod_emod_of_dvd x (Int.dvd_refl m)
  have := Int.emod_emod_of_dvd y (Int.dvd_refl m)
  have h8 : x % m = y % m := (Int.emod_eq_emod_iff_emod_sub_eq_zero).mpr (Int.emod_eq_zero_of_dvd h)
  omega
/-- an inverse in its range is the inverse -/
theorem iv_un {p a x : Int} (h : Pr p) (ha : ¬ p ∣ a) {n : Nat} (h1 : 0 ≤ x) (h2 : x < p ^ n) (h3 : p ^ n ∣ a * x - 1) : x = iv p n a := by
  obtain ⟨h4, h5⟩ := iv_rng (a := a) h.rng.1 n
  refine res_eq h1 h2 h4 h5 (h.euclidN ha n ?_)
  have h6 := Int.dvd_sub h3 (iv_mul h ha n)
  have e : a * x - 1 - (a * iv p n a - 1) = a * (x - iv p n a) := by grind
  rwa [e] at h6
theorem iv_co {p a : Int} (h : Pr p) (ha : ¬ p ∣ a) {n : Nat} (hn : 1 ≤ n) : ¬ p ∣ iv p n a := fun q => by
  have h1 : p ∣ a * iv p n a - 1 := Int.dvd_trans (pw_dvd1 p hn) (iv_mul h ha n)
  have h2 := Int.dvd_sub (Int.dvd_mul_of_dvd_right (b := a) q) h1
  have e : a * iv p n a - (a * iv p n a - 1) = 1 := by omega
  rw [e] at h2
  have := Int.le_of_dvd (by decide) h2
  have := h.rng
  omega
