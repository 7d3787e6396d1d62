/-! the mathematics: integers in place of the machine's words -/
def jl (z : Int) : Int64 := Int64.ofInt z
def ji (z : Int) : Int32 := Int32.ofInt z
theorem jl_add {a b : Int} : jl a + jl b = jl (a + b) := (Int64.ofInt_add a b).symm
theorem jl_sub {a b : Int} : jl a - jl b = jl (a - b) := (Int64.ofInt_sub a b).symm
theorem jl_mul {a b : Int} : jl a * jl b = jl (a * b) := (Int64.ofInt_mul a b).symm
theorem jl_neg {a : Int} : -jl a = jl (-a) := (Int64.ofInt_neg a).symm
theorem ji_add {a b : Int} : ji a + ji b = ji (a + b) := (Int32.ofInt_add a b).symm
theorem ji_sub {a b : Int} : ji a - ji b = ji (a - b) := (Int32.ofInt_sub a b).symm
theorem ji_mul {a b : Int} : ji a * ji b = ji (a * b) := (Int32.ofInt_mul a b).symm
theorem ji_neg {a : Int} : -ji a = ji (-a) := (Int32.ofInt_neg a).symm
theorem jl_toInt {a : Int} (h : -9223372036854775808 ≤ a ∧ a < 9223372036854775808) : (jl a).toInt = a := Int64.toInt_ofInt_of_le h.1 h.2
theorem ji_toInt {a : Int} (h : -2147483648 ≤ a ∧ a < 2147483648) : (ji a).toInt = a := Int32.toInt_ofInt_of_le h.1 h.2
theorem jl_of (x : Int64) : jl x.toInt = x := Int64.ofInt_toInt x
theorem ji_of (x : Int32) : ji x.toInt = x := Int32.ofInt_toInt x
theorem jl_ex (x : Int64) : ∃ z : Int, x = jl z ∧ -9223372036854775808 ≤ z ∧ z < 9223372036854775808 := ⟨x.toInt, (jl_of x).symm, Int64.le_toInt x, Int64.toInt_lt x⟩
theorem ji_ex (x : Int32) : ∃ z : Int, x = ji z ∧ -2147483648 ≤ z ∧ z < 2147483648 := ⟨x.toInt, (ji_of x).symm, Int32.le_toInt x, Int32.toInt_lt x⟩
theorem ji_l {a : Int} (h : -2147483648 ≤ a ∧ a < 2147483648) : (ji a).toInt64 = jl a := by
  apply Int64.toInt_inj.mp
  rw [Int32.toInt_toInt64, ji_toInt h, jl_toInt (by omega)]
theorem jl_i {a : Int} : (jl a).toInt32 = ji a := Int64.toInt32_ofInt
theorem jl_inj {a b : Int} (ha : -9223372036854775808 ≤ a ∧ a < 9223372036854775808) (hb : -9223372036854775808 ≤ b ∧ b < 9223372036854775808) : jl a = jl b ↔ a = b :=
  ⟨fun h => by rw [← jl_toInt ha, ← jl_toInt hb, h], fun h => by rw [h]⟩
theorem ji_inj {a b : Int} (ha : -2147483648 ≤ a ∧ a < 2147483648) (hb : -2147483648 ≤ b ∧ b < 2147483648) : ji a = ji b ↔ a = b :=
  ⟨fun h => by rw [← ji_toInt ha, ← ji_toInt hb, h], fun h => by rw [h]⟩
theorem ji_lt {a b : Int} (ha : -2147483648 ≤ a ∧ a < 2147483648) (hb : -2147483648 ≤ b ∧ b < 2147483648) : ji a < ji b ↔ a < b := by
  rw [Int32.lt_iff_toInt_lt, ji_toInt ha, ji_toInt hb]
theorem ji_le {a b : Int} (ha : -2147483648 ≤ a ∧ a < 2147483648) (hb : -2147483648 ≤ b ∧ b < 2147483648) : ji a ≤ ji b ↔ a ≤ b := by
  rw [Int32.le_iff_toInt_le, ji_toInt ha, ji_toInt hb]
theorem jl_lt {a b : Int} (ha : -9223372036854775808 ≤ a ∧ a < 9223372036854775808) (hb : -9223372036854775808 ≤ b ∧ b < 9223372036854775808) : jl a < jl b ↔ a < b := by
  rw [Int64.lt_iff_toInt_lt, jl_toInt ha, jl_toInt hb]
theorem jl_le {a b : Int} (ha : -9223372036854775808 ≤ a ∧ a < 9223372036854775808) (hb : -9223372036854775808 ≤ b ∧ b < 9223372036854775808) : jl a ≤ jl b ↔ a ≤ b := by
  rw [Int64.le_iff_toInt_le, jl_toInt ha, jl_toInt hb]
/-- division, the divisor above 0 -/
theorem jl_div {a b : Int} (ha : -9223372036854775808 ≤ a ∧ a < 9223372036854775808) (hb : 0 < b ∧ b < 9223372036854775808) : jl a / jl b = jl (a.tdiv b) := by
  apply Int64.toInt_inj.mp
  have h1 : (jl b) ≠ -1 := fun h => by
    have := congrArg Int64.toInt h
    rw [jl_toInt (by omega), show (-1 : Int64).toInt = -1 by decide] at this
    omega
  rw [Int64.toInt_div_of_ne_right _ _ h1, jl_toInt ha, jl_toInt (by omega), jl_toInt]
  have h2 : (a.tdiv b).natAbs ≤ a.natAbs := by rw [Int.natAbs_tdiv]; exact Nat.div_le_self _ _
  have h3 : a = -9223372036854775808 → 0 < b → a.tdiv b ≤ 0 := fun e h0 => by
    subst e
    rw [Int.neg_tdiv]
    have := Int.tdiv_nonneg (show (0 : Int) ≤ 9223372036854775808 by decide) (Int.le_of_lt h0)
    omega
  omega
theorem ji_div {a b : Int} (ha : -2147483648 ≤ a ∧ a < 2147483648) (hb : 0 < b ∧ b < 2147483648) : ji a / ji b = ji (a.tdiv b) := by
  apply Int32.toInt_inj.mp
  have h1 : (ji b) ≠ -1 := fun h => by
    have := congrArg Int32.toInt h
    rw [ji_toInt (by omega), show (-1 : Int32).toInt = -1 by decide] at this
    omega
  rw [Int32.toInt_div_of_ne_right _ _ h1, ji_toInt ha, ji_toInt (by omega), ji_toInt]
  have h2 : (a.tdiv b).natAbs ≤ a.natAbs := by rw [Int.natAbs_tdiv]; exact Nat.div_le_self _ _
  have h3 : a = -2147483648 → 0 < b → a.tdiv b ≤ 0 := fun e h0 => by
    subst e
    rw [Int.neg_tdiv]
    have := Int.tdiv_nonneg (show (0 : Int) ≤ 2147483648 by decide) (Int.le_of_lt h0)
    omega
  omega
theorem rL_j {a b : Int} (ha : -9223372036854775808 ≤ a ∧ a < 9223372036854775808) (hb : 0 < b ∧ b < 9223372036854775808) : rL (jl a) (jl b) = jl (a.tmod b) := by
  unfold rL
  rw [jl_div ha hb, jl_mul, jl_sub, Int.tmod_def, Int.mul_comm]
theorem rI_j {a b : Int} (ha : -2147483648 ≤ a ∧ a < 2147483648) (hb : 0 < b ∧ b < 2147483648) : rI (ji a) (ji b) = ji (a.tmod b) := by
  unfold rI
  rw [ji_div ha hb, ji_mul, ji_sub, Int.tmod_def, Int.mul_comm]
/-! compares of longs -/
theorem lc_0 {x y : Int64} : lg_cmp x y = 0 ↔ x.toInt = y.toInt := by
  unfold lg_cmp
  by_cases h : x > y
  · rw [if_pos h]
    have := Int64.lt_iff_toInt_lt.mp h
    constructor
    · intro h; exact absurd h (by decide)
    · intro h; omega
  · rw [if_neg h]
    by_cases h2 : x = y
    · rw [if_pos h2, h2]; simp
    · rw [if_neg h2]
      constructor
      · intro h; exact absurd h (by decide)
      · intro h; exact absurd (Int64.toInt_inj.mp h) h2
theorem lc_tri (x y : Int64) : (lg_cmp x y = 1 ∧ y.toInt < x.toInt) ∨ (lg_cmp x y = 0 ∧ x.toInt = y.toInt) ∨ (lg_cmp x y = -1 ∧ x.toInt < y.toInt) := by
  unfold lg_cmp
  by_cases h : x > y
  · rw [if_pos h]; exact Or.inl ⟨rfl, Int64.lt_iff_toInt_lt.mp h⟩
  · rw [if_neg h]
    have h1 : ¬ y.toInt < x.toInt := fun q => h (Int64.lt_iff_toInt_lt.mpr q)
    by_cases h2 : x = y
    · rw [if_pos h2]; exact Or.inr (Or.inl ⟨rfl, by rw [h2]⟩)
    · rw [if_neg h2]
      have h3 : x.toInt ≠ y.toInt := fun q => h2 (Int64.toInt_inj.mp q)
      exact Or.inr (Or.inr ⟨rfl, by omega⟩)
theorem lc_gt {x y : Int64} : (0 : Int32) < lg_cmp x y ↔ y.toInt < x.toInt := by
  rcases lc_tri x y with ⟨h, g⟩ | ⟨h, g⟩ | ⟨h, g⟩ <;> rw [h]
  · exact ⟨fun _ => g, fun _ => by decide⟩
  · exact ⟨fun h => absurd h (by decide), fun _ => by omega⟩
  · exact ⟨fun h => absurd h (by decide), fun _ => by omega⟩
theorem lc_lt {x y : Int64} : lg_cmp x y < (0 : Int32) ↔ x.toInt < y.toInt := by
  rcases lc_tri x y with ⟨h, g⟩ | ⟨h, g⟩ | ⟨h, g⟩ <;> rw [h]
  · exact ⟨fun h => absurd h (by decide), fun _ => by omega⟩
  · exact ⟨fun h => absurd h (by decide), fun _ => by omega⟩
  · exact ⟨fun _ => g, fun _ => by decide⟩
theorem lc_le {x y : Int64} : lg_cmp x y ≤ (0 : Int32) ↔ x.toInt ≤ y.toInt := by
  rcases lc_tri x y with ⟨h, g⟩ | ⟨h, g⟩ | ⟨h, g⟩ <;> rw [h]
  · exact ⟨fun h => absurd h (by decide), fun _ => by omega⟩
  · exact ⟨fun _ => by omega, fun _ => by decide⟩
  · exact ⟨fun _ => by omega, fun _ => by decide⟩
theorem lc_ge {x y : Int64} : (0 : Int32) ≤ lg_cmp x y ↔ y.toInt ≤ x.toInt := by
  rcases lc_tri x y with ⟨h, g⟩ | ⟨h, g⟩ | ⟨h, g⟩ <;> rw [h]
  · exact ⟨fun _ => by omega, fun _ => by decide⟩
  · exact ⟨fun _ => by omega, fun _ => by decide⟩
  · exact ⟨fun h => absurd h (by decide), fun _ => by omega⟩
theorem jc_0 {a b : Int} (ha : -9223372036854775808 ≤ a ∧ a < 9223372036854775808) (hb : -9223372036854775808 ≤ b ∧ b < 9223372036854775808) : lg_cmp (jl a) (jl b) = 0 ↔ a = b := by rw [lc_0, jl_toInt ha, jl_toInt hb]
theorem jc_gt {a b : Int} (ha : -9223372036854775808 ≤ a ∧ a < 9223372036854775808) (hb : -9223372036854775808 ≤ b ∧ b < 9223372036854775808) : (0 : Int32) < lg_cmp (jl a) (jl b) ↔ b < a := by rw [lc_gt, jl_toInt ha, jl_toInt hb]
theorem jc_lt {a b : Int} (ha : -9223372036854775808 ≤ a ∧ a < 9223372036854775808) (hb : -9223372036854775808 ≤ b ∧ b < 9223372036854775808) : lg_cmp (jl a) (jl b) < (0 : Int32) ↔ a < b := by rw [lc_lt, jl_toInt ha, jl_toInt hb]
theorem jc_le {a b : Int} (ha : -9223372036854775808 ≤ a ∧ a < 9223372036854775808) (hb : -9223372036854775808 ≤ b ∧ b < 9223372036854775808) : lg_cmp (jl a) (jl b) ≤ (0 : Int32) ↔ a ≤ b := by rw [lc_le, jl_toInt ha, jl_toInt hb]
theorem jc_ge {a b : Int} (ha : -9223372036854775808 ≤ a ∧ a < 9223372036854775808) (hb : -9223372036854775808 ≤ b ∧ b < 9223372036854775808) : (0 : Int32) ≤ lg_cmp (jl a) (jl b) ↔ b ≤ a := by rw [lc_ge, jl_toInt ha, jl_toInt hb]
/-! written numbers -/
theorem ji_lit (n : Nat) [OfNat Int32 n] (h : (OfNat.ofNat n : Int32) = Int32.ofNat n) : (OfNat.ofNat n : Int32) = ji (n : Int) := by rw [h]; rfl
theorem i0 : (0 : Int32) = ji 0 := rfl
theorem i1 : (1 : Int32) = ji 1 := rfl
theorem i2 : (2 : Int32) = ji 2 := rfl
theorem i3 : (3 : Int32) = ji 3 := rfl
theorem i4 : (4 : Int32) = ji 4 := rfl
theorem i5 : (5 : Int32) = ji 5 := rfl
theorem i6 : (6 : Int32) = ji 6 := rfl
theorem i7 : (7 : Int32) = ji 7 := rfl
theorem i8 : (8 : Int32) = ji 8 := rfl
theorem i12 : (12 : Int32) = ji 12 := rfl
theorem i16 : (16 : Int32) = ji 16 := rfl
theorem i20 : (20 : Int32) = ji 20 := rfl
theorem i30 : (30 : Int32) = ji 30 := rfl
theorem i39 : (39 : Int32) = ji 39 := rfl
theorem i40 : (40 : Int32) = ji 40 := rfl
theorem i60 : (60 : Int32) = ji 60 := rfl
theorem i64 : (64 : Int32) = ji 64 := rfl
theorem i97 : (97 : Int32) = ji 97 := rfl
theorem i100 : (100 : Int32) = ji 100 := rfl
theorem i256 : (256 : Int32) = ji 256 := rfl
theorem i1000 : (1000 : Int32) = ji 1000 := rfl
theorem i10000 : (10000 : Int32) = ji 10000 := rfl
theorem im1 : (-1 : Int32) = ji (-1) := rfl
theorem im20 : (-20 : Int32) = ji (-20) := rfl
theorem im60 : (-60 : Int32) = ji (-60) := rfl
theorem l0 : (0 : Int64) = jl 0 := rfl
theorem l1 : (1 : Int64) = jl 1 := rfl
theorem l2 : (2 : Int64) = jl 2 := rfl
theorem l3 : (3 : Int64) = jl 3 := rfl
theorem l4 : (4 : Int64) = jl 4 := rfl
theorem l5 : (5 : Int64) = jl 5 := rfl
theorem l8 : (8 : Int64) = jl 8 := rfl
theorem l10000 : (10000 : Int64) = jl 10000 := rfl
theorem l1e9 : (1000000000 : Int64) = jl 1000000000 := rfl
theorem lm10000 : (-10000 : Int64) = jl (-10000) := rfl
theorem ji_nat {a : Int} (h : -2147483648 ≤ a ∧ a < 2147483648) : (ji a).toNatClampNeg = a.toNat := by
  show (ji a).toInt.toNat = a.toNat
  rw [ji_toInt h]
theorem mnI_j {a b : Int} (ha : -2147483648 ≤ a ∧ a < 2147483648) (hb : -2147483648 ≤ b ∧ b < 2147483648) : mnI (ji a) (ji b) = ji (min a b) := by
  unfold mnI
  by_cases h : b < a
  · rw [if_pos ((ji_lt hb ha).mpr h), show min a b = b by omega]
  · rw [if_neg (fun q => h ((ji_lt hb ha).mp q)), show min a b = a by omega]
theorem mxI_j {a b : Int} (ha : -2147483648 ≤ a ∧ a < 2147483648) (hb : -2147483648 ≤ b ∧ b < 2147483648) : mxI (ji a) (ji b) = ji (max a b) := by
  unfold mxI
  by_cases h : a < b
  · rw [if_pos ((ji_lt ha hb).mpr h), show max a b = b by omega]
  · rw [if_neg (fun q => h ((ji_lt ha hb).mp q)), show max a b = a by omega]
theorem abL_j {a : Int} (ha : -9223372036854775808 < a ∧ a < 9223372036854775808) : abL (jl a) = jl (a.natAbs : Int) := by
  unfold abL
  rw [l0]
  by_cases h : 0 < a
  · rw [if_pos ((jl_lt (by omega) (by omega)).mpr h), show (a.natAbs : Int) = a by omega]
  · rw [if_neg (fun q => h ((jl_lt (by omega) (by omega)).mp q)), jl_neg, show (a.natAbs : Int) = -a by omega]
/-! functions that may fail -/
theorem b1s {α β : Type} {v : α} {k : α → Option β} : b1 (some v) k = k v := rfl
theorem b2s {α β γ : Type} {v : α} {w : β} {k : α → β → Option γ} : b2 (some (v, w)) k = k v w := rfl
theorem bEs {α γ : Type} {v : α} {kE : Nat → Option γ} {k : α → Option γ} : bE (some (.ok v)) kE k = k v := rfl
theorem bEe {α γ : Type} {n : Nat} {kE : Nat → Option γ} {k : α → Option γ} : bE (some (.error n)) kE k = kE n := rfl
theorem itrS {P R : Type} {F : P → (P → Option R) → Option R} {n : Nat} {x : P} : itr F (n + 1) x = F x (itr F n) := rfl
/-- a loop with a measure, to one result -/
theorem itr_eq {P R : Type} {F : P → (P → Option R) → Option R} (J : P → Prop) (μ : P → Nat) (r : R)
    (hs : ∀ x k, J x → (∀ y, J y → μ y < μ x → k y = some r) → F x k = some r) : ∀ n x, J x → μ x < n → itr F n x = some r
  | 0, _, _, h => absurd h (Nat.not_lt_zero _)
  | n + 1, x, hx, h => hs x (itr F n) hx (fun y hy hl => itr_eq J μ r hs n y hy (by omega))
/-- a loop with a measure, to a result of which something holds -/
def Ok {α : Type} (o : Option α) (P : α → Prop) : Prop := ∃ r, o = some r ∧ P r
theorem itr_ok {P R : Type} {F : P → (P → Option R) → Option R} (J : P → Prop) (μ : P → Nat) (Po : R → Prop)
    (hs : ∀ x k, J x → (∀ y, J y → μ y < μ x → Ok (k y) Po) → Ok (F x k) Po) : ∀ n x, J x → μ x < n → Ok (itr F n x) Po
  | 0, _, _, h => absurd h (Nat.not_lt_zero _)
  | n + 1, x, hx, h => hs x (itr F n) hx (fun y hy hl => itr_ok J μ Po hs n y hy (by omega))
theorem ok_s {α : Type} {P : α → Prop} {r : α} (h : P r) : Ok (some r) P := ⟨r, rfl, h⟩
theorem ok_b1 {α β : Type} {o : Option α} {k : α → Option β} {P : α → Prop} {Q : β → Prop} (h : Ok o P) (hk : ∀ v, P v → Ok (k v) Q) : Ok (b1 o k) Q := by
  obtain ⟨r, rfl, hr⟩ := h
  exact hk r hr
theorem ok_m {α : Type} {o : Option α} {P Q : α → Prop} (h : Ok o P) (hk : ∀ v, P v → Q v) : Ok o Q := by
  obtain ⟨r, rfl, hr⟩ := h
  exact ⟨r, rfl, hk r hr⟩
theorem FU_lt {n : Nat} (h : n < 1099511627776) : n < FU := h
theorem ifp {α : Type} {c : Prop} [Decidable c] {a b : α} (h : c) : (if c then a else b) = a := if_pos h
theorem ifn {α : Type} {c : Prop} [Decidable c] {a b : α} (h : ¬ c) : (if c then a else b) = b := if_neg h
/-! the small functions -/
theorem rest_j {a m : Int} (ha : -9223372036854775808 ≤ a ∧ a < 9223372036854775808) (hm : 0 < m ∧ m < 9223372036854775808) : f_X8_rest (jl a) (jl m) = some (jl (a % m)) := by
  unfold f_X8_rest
  have h1 := Int.emod_nonneg a (show m ≠ 0 by omega)
  have h2 := Int.emod_lt_of_pos a hm.1
  have h3 : -m < a.tmod m := by have := Int.lt_tmod_of_pos a hm.1; omega
  have h4 : a.tmod m < m := Int.tmod_lt_of_pos a hm.1
  rw [rL_j ha hm, l0, if_pos ((jc_gt (by omega) (by omega)).mpr hm.1), if_neg (fun q => by have := (jl_inj (by omega) (by omega)).mp q; omega)]
  have h5 : a % m = if 0 ≤ a.tmod m then a.tmod m else a.tmod m + m := by
    rw [Int.emod_def, Int.tmod_def] at *
    have e := Int.tdiv_eq_ediv (a := a) (b := m)
    rcases Int.lt_or_le a 0 with hn | hp
    · by_cases hd : m ∣ a
      · obtain ⟨c, rfl⟩ := hd
        rw [Int.mul_tdiv_cancel_left _ (by omega), Int.mul_ediv_cancel_left _ (by omega)]
        simp
      · rw [if_neg (by omega)] at e
        have hs : m.sign = 1 := Int.sign_eq_one_of_pos hm.1
        rw [hs] at e
        have hz : a - m * (a / m) ≠ 0 := fun q => hd ⟨a / m, by omega⟩
        rw [e, Int.mul_add, Int.mul_one] at h3 h4 ⊢
        rw [if_neg (by omega)]
        omega
    · rw [if_pos (Or.inl hp)] at e
      rw [e, Int.add_zero] at *
      rw [if_pos (by omega)]
  by_cases hc : 0 ≤ a.tmod m
  · rw [if_pos ((jc_ge (by omega) (by omega)).mpr hc), h5, if_pos hc]
  · rw [if_neg (fun q => hc ((jc_ge (by omega) (by omega)).mp q)), jl_add, h5, if_neg hc]
theorem part_j {a m : Int} (ha : -9223372036854775808 ≤ a ∧ a < 9223372036854775808) (hm : 0 < m ∧ m < 9223372036854775808) : f_X8_part (jl a) (jl m) = some (jl (a.tdiv m)) := by
  unfold f_X8_part
  rw [l0, if_neg (fun q => by have := (jc_0 (by omega) (by omega)).mp q; omega), if_neg (fun q => by have := (jl_inj (by omega) (by omega)).mp q; omega), jl_div ha hm]
theorem whole_j {a m : Int} (ha : -9223372036854775808 ≤ a ∧ a < 9223372036854775808) (hm : 0 < m ∧ m < 9223372036854775808) : f_X10_whole (jl a) (jl m) = some (jl (a % m)) := by
  have h := rest_j ha hm
  unfold f_X8_rest at h
  unfold f_X10_whole
  rw [if_pos (by rw [l0]; exact (jc_gt (by omega) (by omega)).mpr hm.1)] at h
  exact h
theorem tmod_z {a m : Int} (hm : 0 < m) : a.tmod m = 0 ↔ a % m = 0 := by
  rw [← Int.dvd_iff_tmod_eq_zero, ← Int.dvd_iff_emod_eq_zero]
theorem times_j {a b m : Int} (ha : -9223372036854775808 ≤ a ∧ a < 9223372036854775808) (hb : -9223372036854775808 ≤ b ∧ b < 9223372036854775808) (hm : 0 < m ∧ m ≤ 2147483648) : f_X8_timesModulo (jl a) (jl b) (jl m) = some (jl (a * b % m)) := by
  unfold f_X8_timesModulo
  rw [rest_j ha (by omega), b1s, rest_j hb (by omega), b1s, jl_mul]
  have h1 := Int.emod_nonneg a (show m ≠ 0 by omega)
  have h2 := Int.emod_lt_of_pos a hm.1
  have h3 := Int.emod_nonneg b (show m ≠ 0 by omega)
  have h4 := Int.emod_lt_of_pos b hm.1
  have h5 := Int.mul_nonneg h1 h3
  have h6 : a % m * (b % m) ≤ 2147483647 * 2147483647 := Int.mul_le_mul (by omega) (by omega) h3 (by omega)
  rw [rest_j (by omega) (by omega), b1s, ← Int.mul_emod]
/-! the same, for one sweep -/
theorem kc_0 {a b : Int} (ha : -9223372036854775808 ≤ a ∧ a < 9223372036854775808) (hb : -9223372036854775808 ≤ b ∧ b < 9223372036854775808) : lg_cmp (jl a) (jl b) = ji 0 ↔ a = b := jc_0 ha hb
theorem kc_gt {a b : Int} (ha : -9223372036854775808 ≤ a ∧ a < 9223372036854775808) (hb : -9223372036854775808 ≤ b ∧ b < 9223372036854775808) : ji 0 < lg_cmp (jl a) (jl b) ↔ b < a := jc_gt ha hb
theorem kc_lt {a b : Int} (ha : -9223372036854775808 ≤ a ∧ a < 9223372036854775808) (hb : -9223372036854775808 ≤ b ∧ b < 9223372036854775808) : lg_cmp (jl a) (jl b) < ji 0 ↔ a < b := jc_lt ha hb
theorem kc_le {a b : Int} (ha : -9223372036854775808 ≤ a ∧ a < 9223372036854775808) (hb : -9223372036854775808 ≤ b ∧ b < 9223372036854775808) : lg_cmp (jl a) (jl b) ≤ ji 0 ↔ a ≤ b := jc_le ha hb
theorem kc_ge {a b : Int} (ha : -9223372036854775808 ≤ a ∧ a < 9223372036854775808) (hb : -9223372036854775808 ≤ b ∧ b < 9223372036854775808) : ji 0 ≤ lg_cmp (jl a) (jl b) ↔ b ≤ a := jc_ge ha hb
/-- remainders and quotients of what is not below 0 -/
theorem rL_n {a b : Int} (ha : 0 ≤ a ∧ a < 9223372036854775808) (hb : 0 < b ∧ b < 9223372036854775808) : rL (jl a) (jl b) = jl (a % b) := by rw [rL_j (by omega) hb, Int.tmod_eq_emod_of_nonneg ha.1]
theorem rI_n {a b : Int} (ha : 0 ≤ a ∧ a < 2147483648) (hb : 0 < b ∧ b < 2147483648) : rI (ji a) (ji b) = ji (a % b) := by rw [rI_j (by omega) hb, Int.tmod_eq_emod_of_nonneg ha.1]
theorem dL_n {a b : Int} (ha : 0 ≤ a ∧ a < 9223372036854775808) (hb : 0 < b ∧ b < 9223372036854775808) : jl a / jl b = jl (a / b) := by rw [jl_div (by omega) hb, Int.tdiv_eq_ediv_of_nonneg ha.1]
theorem dI_n {a b : Int} (ha : 0 ≤ a ∧ a < 2147483648) (hb : 0 < b ∧ b < 2147483648) : ji a / ji b = ji (a / b) := by rw [ji_div (by omega) hb, Int.tdiv_eq_ediv_of_nonneg ha.1]
theorem part_n {a m : Int} (ha : 0 ≤ a ∧ a < 9223372036854775808) (hm : 0 < m ∧ m < 9223372036854775808) : f_X8_part (jl a) (jl m) = some (jl (a / m)) := by rw [part_j (by omega) hm, Int.tdiv_eq_ediv_of_nonneg ha.1]
/-! reading what was written -/
theorem rIs {S : St} {o i : Nat} {v : Int32} : (wI S o i v).1 o i = v := by simp [wI]
theorem rIn {S : St} {o i a b : Nat} {v : Int32} (h : ¬ (a = o ∧ b = i)) : (wI S o i v).1 a b = S.1 a b := by simp only [wI]; rw [if_neg h]
theorem rIJ {S : St} {o i : Nat} {v : Int32} : (wI S o i v).2 = S.2 := rfl
theorem rJs {S : St} {o i : Nat} {v : Int64} : (wJ S o i v).2 o i = v := by simp [wJ]
theorem rJn {S : St} {o i a b : Nat} {v : Int64} (h : ¬ (a = o ∧ b = i)) : (wJ S o i v).2 a b = S.2 a b := by simp only [wJ]; rw [if_neg h]
theorem rJI {S : St} {o i : Nat} {v : Int64} : (wJ S o i v).1 = S.1 := rfl
theorem wII {S : St} {o i : Nat} {v w : Int32} : wI (wI S o i v) o i w = wI S o i w := by
  unfold wI
  refine Prod.ext ?_ rfl
  funext a b
  by_cases h : a = o ∧ b = i
  · simp only [if_pos h]
  · simp only [if_neg h]
theorem wIc {S : St} {o i a b : Nat} {v w : Int32} (h : ¬ (a = o ∧ b = i)) : wI (wI S o i v) a b w = wI (wI S a b w) o i v := by
  unfold wI
  refine Prod.ext ?_ rfl
  funext x y
  by_cases h1 : x = a ∧ y = b
  · by_cases h2 : x = o ∧ y = i
    · exact absurd ⟨h1.1.symm.trans h2.1, h1.2.symm.trans h2.2⟩ h
    · simp only [if_pos h1, if_neg h2]
  · simp only [if_neg h1]
theorem wIs {S : St} {o i : Nat} {v : Int32} (h : S.1 o i = v) : wI S o i v = S := by
  unfold wI
  refine Prod.ext ?_ rfl
  funext x y
  by_cases h1 : x = o ∧ y = i
  · simp only [if_pos h1]; rw [h1.1, h1.2, h]
  · simp only [if_neg h1]
theorem wJI {S : St} {o i a b : Nat} {v : Int64} {w : Int32} : wI (wJ S o i v) a b w = wJ (wI S a b w) o i v := rfl
theorem wJJ {S : St} {o i : Nat} {v w : Int64} : wJ (wJ S o i v) o i w = wJ S o i w := by
  unfold wJ
  refine Prod.ext rfl ?_
  funext a b
  by_cases h : a = o ∧ b = i
  · simp only [if_pos h]
  · simp only [if_neg h]
