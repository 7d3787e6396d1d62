/-! numbers as they should be, what they stand for, and which one says more -/
def Wf (p : Int) (r : Nat) (x : Int × Int × Int) : Prop := -60 ≤ x.1 ∧ x.1 ≤ x.2.1 ∧ x.2.1 ≤ 60 ∧ x.2.1 - x.1 ≤ r ∧ 0 ≤ x.2.2 ∧ x.2.2 < p ^ (x.2.1 - x.1).toNat ∧ (x.2.2 = 0 ∨ ¬ p ∣ x.2.2) ∧ (x.2.2 = 0 → x.1 = x.2.1)
theorem Wf.u0 {p : Int} {r : Nat} {x : Int × Int × Int} (h : Wf p r x) : x.2.2 = 0 ↔ x.2.1 ≤ x.1 := by
  obtain ⟨h1, h2, h3, h4, h5, h6, h7, h8⟩ := h
  constructor
  · intro q; rw [h8 q]; omega
  · intro q
    rw [show (x.2.1 - x.1).toNat = 0 by omega, Int.pow_zero] at h6
    omega
theorem Wf.u9 {p : Int} {r : Nat} {x : Int × Int × Int} (h : Wf p r x) (hr : Rch p r) : 0 ≤ x.2.2 ∧ x.2.2 < 1000000000 := by
  obtain ⟨h1, h2, h3, h4, h5, h6, h7, h8⟩ := h
  have := hr.le (show (x.2.1 - x.1).toNat ≤ r by omega)
  omega
theorem nothing_wf {p : Int} {r : Nat} {h : Int} (h1 : -60 ≤ h) (h2 : h ≤ 60) : Wf p r (h, h, 0) := by
  refine ⟨h1, Int.le_refl _, h2, ?_, Int.le_refl 0, ?_, Or.inl rfl, fun _ => rfl⟩
  · show h - h ≤ (r : Int)
    omega
  · show (0 : Int) < p ^ (h - h).toNat
    rw [show (h - h).toNat = 0 by omega, Int.pow_zero]
    omega
theorem lay_cases {p : Int} {r : Nat} {base known w : Int} (hr : Rch p r) (hs : min known 60 - base ≤ r) :
    (lay p r base known w = (min known 60, min known 60, 0) ∧ (min known 60 ≤ base ∨ p ^ (min known 60 - base).toNat ∣ w)) ∨
    (∃ (v : Nat) (c : Int), base < min known 60 ∧ (v : Int) < min known 60 - base ∧ ¬ p ∣ c ∧ 0 < c ∧ c < p ^ (min known 60 - base - v).toNat ∧ p ^ (min known 60 - base).toNat ∣ p ^ v * c - w ∧ lay p r base known w = (base + v, min known 60, c)) := by
  have hp := hr.1
  have h4 := hr.2.2.2.2
  unfold lay
  rw [show min (min known 60 - base) (r : Int) = min known 60 - base by omega]
  by_cases hc : min known 60 - base ≤ 0 ∨ w % p ^ (min known 60 - base).toNat = 0
  · rw [if_pos hc]
    refine Or.inl ⟨rfl, ?_⟩
    rcases hc with hc | hc
    · exact Or.inl (by omega)
    · exact Or.inr (Int.dvd_of_emod_eq_zero hc)
  · rw [if_neg hc]
    refine Or.inr ?_
    have c1 : base < min known 60 := by
      apply Int.lt_of_not_ge
      intro q
      exact hc (Or.inl (by omega))
    have c2 : w % p ^ (min known 60 - base).toNat ≠ 0 := fun q => hc (Or.inr q)
    have c3 := pw_pos hp (min known 60 - base).toNat
    have c4 := emod_rng (a := w) c3
    have c5 : p ^ (min known 60 - base).toNat ∣ w % p ^ (min known 60 - base).toNat - w := by
      have := Int.emod_add_mul_ediv w (p ^ (min known 60 - base).toNat)
      refine ⟨-(w / p ^ (min known 60 - base).toNat), ?_⟩
      rw [Int.mul_neg]
      omega
    generalize w % p ^ (min known 60 - base).toNat = g at *
    obtain ⟨v, c, rfl, hcc⟩ := fac_ex hp _ g (Nat.le_refl _) c2
    have d1 := pw_pos hp v
    have d2 : 0 < c := by
      rcases Int.lt_or_le 0 c with q | q
      · exact q
      · have := Int.mul_nonpos_of_nonneg_of_nonpos (Int.le_of_lt d1) q
        omega
    have d3 : p ^ v * 1 ≤ p ^ v * c := Int.mul_le_mul_of_nonneg_left (by omega) (by omega)
    have d4 : v < (min known 60 - base).toNat := by
      apply Nat.lt_of_not_le
      intro q
      have := pw_le hp q
      omega
    have d5 : c < p ^ (min known 60 - base - v).toNat := by
      rw [show (min known 60 - base).toNat = v + (min known 60 - base - v).toNat by omega, pw_add] at c4
      exact Int.lt_of_mul_lt_mul_left c4.2 (by omega)
    refine ⟨v, c, c1, by omega, hcc, d2, d5, c5, ?_⟩
    rw [vp_eq hp hcc, wo_eq hp hcc, show base + (min known 60 - base) = min known 60 by omega]
theorem lay_wf {p : Int} {r : Nat} {base known w : Int} (hr : Rch p r) (hs : min known 60 - base ≤ r) (hb : -60 ≤ base) (hk : -60 ≤ known) : Wf p r (lay p r base known w) := by
  rcases lay_cases (w := w) hr hs with ⟨e, -⟩ | ⟨v, c, h1, h2, h3, h4, h5, -, e⟩
  · rw [e]
    exact nothing_wf (by omega) (by omega)
  · rw [e]
    refine ⟨?_, ?_, ?_, ?_, ?_, ?_, Or.inr h3, ?_⟩
    · show -60 ≤ base + v; omega
    · show base + v ≤ min known 60; omega
    · show min known 60 ≤ 60; omega
    · show min known 60 - (base + v) ≤ r; omega
    · show 0 ≤ c; omega
    · show c < p ^ (min known 60 - (base + v)).toNat
      rw [show min known 60 - (base + v) = min known 60 - base - v by omega]
      exact h5
    · intro q
      have q : c = 0 := q
      omega
theorem lay_N {p : Int} {r : Nat} {base known w : Int} (hr : Rch p r) (hs : min known 60 - base ≤ r) : (lay p r base known w).2.1 = min known 60 := by
  rcases lay_cases (w := w) hr hs with ⟨e, -⟩ | ⟨v, c, h1, h2, h3, h4, h5, -, e⟩ <;> rw [e]
theorem lay_v {p : Int} {r : Nat} {base known w : Int} (hr : Rch p r) (hs : min known 60 - base ≤ r) : min base (min known 60) ≤ (lay p r base known w).1 := by
  rcases lay_cases (w := w) hr hs with ⟨e, -⟩ | ⟨v, c, h1, h2, h3, h4, h5, -, e⟩ <;> rw [e]
  · show min base (min known 60) ≤ min known 60; omega
  · show min base (min known 60) ≤ base + v; omega
/-- x is z times p to the power of B, as far as it is known -/
def Rep (p : Int) (x : Int × Int × Int) (B z : Int) : Prop := B ≤ x.1 ∧ p ^ (x.2.1 - B).toNat ∣ x.2.2 * p ^ (x.1 - B).toNat - z
theorem pw_split {p a b c : Int} (h1 : c ≤ b) (h2 : b ≤ a) : p ^ (a - c).toNat = p ^ (a - b).toNat * p ^ (b - c).toNat := by
  rw [← pw_add, show (a - c).toNat = (a - b).toNat + (b - c).toNat by omega]
theorem lay_rep {p : Int} {r : Nat} {base known w B : Int} (hr : Rch p r) (hs : min known 60 - base ≤ r) (hB : B ≤ base) (hB2 : B ≤ min known 60) : Rep p (lay p r base known w) B (w * p ^ (base - B).toNat) := by
  rcases lay_cases (w := w) hr hs with ⟨e, h⟩ | ⟨v, c, h1, h2, h3, h4, h5, h6, e⟩
  · rw [e]
    refine ⟨hB2, ?_⟩
    show p ^ (min known 60 - B).toNat ∣ 0 * _ - w * p ^ (base - B).toNat
    rw [Int.zero_mul, Int.zero_sub]
    apply Int.dvd_neg.mpr
    by_cases hc : min known 60 ≤ base
    · exact Int.dvd_mul_of_dvd_right (pw_dvd p (by omega))
    · rcases h with h | h
      · exact absurd h hc
      · rw [pw_split hB (show base ≤ min known 60 by omega)]
        exact Int.mul_dvd_mul h (Int.dvd_refl _)
  · rw [e]
    refine ⟨by show B ≤ base + v; omega, ?_⟩
    show p ^ (min known 60 - B).toNat ∣ c * p ^ (base + v - B).toNat - w * p ^ (base - B).toNat
    rw [pw_split hB (show base ≤ min known 60 by omega), show (base + v - B).toNat = v + (base - B).toNat by omega, pw_add]
    have e2 : c * (p ^ v * p ^ (base - B).toNat) - w * p ^ (base - B).toNat = (p ^ v * c - w) * p ^ (base - B).toNat := by grind
    rw [e2]
    exact Int.mul_dvd_mul h6 (Int.dvd_refl _)
theorem rep_self {p : Int} {x : Int × Int × Int} {B : Int} (h : B ≤ x.1) : Rep p x B (x.2.2 * p ^ (x.1 - B).toNat) := ⟨h, by rw [Int.sub_self]; exact Int.dvd_zero _⟩
theorem rep_down {p : Int} {x : Int × Int × Int} {B C z : Int} (h : Rep p x B z) (hx : x.1 ≤ x.2.1) (hC : C ≤ B) : Rep p x C (z * p ^ (B - C).toNat) := by
  obtain ⟨h1, h2⟩ := h
  refine ⟨by omega, ?_⟩
  rw [pw_split hC (show B ≤ x.2.1 by omega), pw_split hC h1]
  have e2 : x.2.2 * (p ^ (x.1 - B).toNat * p ^ (B - C).toNat) - z * p ^ (B - C).toNat = (x.2.2 * p ^ (x.1 - B).toNat - z) * p ^ (B - C).toNat := by grind
  rw [e2]
  exact Int.mul_dvd_mul h2 (Int.dvd_refl _)
/-- x says what y says, and perhaps more -/
def Rf (p : Int) (x y : Int × Int × Int) : Prop := y.2.1 ≤ x.2.1 ∧ ((y.2.2 = 0 ∧ y.2.1 ≤ x.1) ∨ (y.2.2 ≠ 0 ∧ x.2.2 ≠ 0 ∧ x.1 = y.1 ∧ p ^ (y.2.1 - y.1).toNat ∣ x.2.2 - y.2.2))
theorem Rf.refl {p : Int} {r : Nat} {x : Int × Int × Int} (h : Wf p r x) : Rf p x x := by
  refine ⟨Int.le_refl _, ?_⟩
  by_cases h0 : x.2.2 = 0
  · exact Or.inl ⟨h0, h.u0.mp h0⟩
  · exact Or.inr ⟨h0, h0, rfl, by rw [Int.sub_self]; exact Int.dvd_zero _⟩
theorem Rf.trans {p : Int} {x y z : Int × Int × Int} (h : Rf p x y) (g : Rf p y z) (hy : y.1 ≤ y.2.1) : Rf p x z := by
  obtain ⟨h1, h2⟩ := h
  obtain ⟨g1, g2⟩ := g
  refine ⟨by omega, ?_⟩
  rcases g2 with ⟨a, b⟩ | ⟨a, b, c, d⟩
  · left
    refine ⟨a, ?_⟩
    rcases h2 with ⟨e, f⟩ | ⟨e, f, k, l⟩ <;> omega
  · right
    rcases h2 with ⟨e, f⟩ | ⟨e, f, k, l⟩
    · exact absurd e b
    · refine ⟨a, f, by omega, ?_⟩
      have l2 := Int.dvd_trans (pw_dvd p (show (z.2.1 - z.1).toNat ≤ (y.2.1 - y.1).toNat by omega)) l
      have := Int.dvd_add l2 d
      rwa [show x.2.2 - y.2.2 + (y.2.2 - z.2.2) = x.2.2 - z.2.2 by omega] at this
theorem Rf.v {p : Int} {x y : Int × Int × Int} (h : Rf p x y) (hy : y.2.2 = 0 → y.1 = y.2.1) : y.1 ≤ x.1 := by
  obtain ⟨h1, ⟨a, b⟩ | ⟨a, b, c, d⟩⟩ := h
  · rw [hy a]; exact b
  · omega
theorem rep_of_rf {p : Int} {x y : Int × Int × Int} {B z : Int} (h : Rf p x y) (hx : Rep p x B z) (hy : y.1 ≤ y.2.1) (hB : B ≤ y.1) : Rep p y B z := by
  obtain ⟨h1, h2⟩ := h
  obtain ⟨g1, g2⟩ := hx
  refine ⟨hB, ?_⟩
  have g3 := Int.dvd_trans (pw_dvd p (show (y.2.1 - B).toNat ≤ (x.2.1 - B).toNat by omega)) g2
  rcases h2 with ⟨a, b⟩ | ⟨a, b, c, d⟩
  · rw [a, Int.zero_mul, Int.zero_sub]
    have g4 : p ^ (y.2.1 - B).toNat ∣ x.2.2 * p ^ (x.1 - B).toNat := Int.dvd_mul_of_dvd_right (pw_dvd p (by omega))
    have := Int.dvd_sub g3 g4
    rwa [show x.2.2 * p ^ (x.1 - B).toNat - z - x.2.2 * p ^ (x.1 - B).toNat = -z by omega] at this
  · have g4 : p ^ (y.2.1 - B).toNat ∣ (x.2.2 - y.2.2) * p ^ (x.1 - B).toNat := by
      rw [pw_split hB hy, c]
      exact Int.mul_dvd_mul d (Int.dvd_refl _)
    have := Int.dvd_sub g3 g4
    rw [c] at this
    rwa [show x.2.2 * p ^ (y.1 - B).toNat - z - (x.2.2 - y.2.2) * p ^ (y.1 - B).toNat = y.2.2 * p ^ (y.1 - B).toNat - z by grind] at this
theorem rf_of_rep {p : Int} {r : Nat} {x y : Int × Int × Int} {B z w : Int} (hp : 2 ≤ p) (hx : Wf p r x) (hy : Wf p r y) (gx : Rep p x B z) (gy : Rep p y B w) (hN : y.2.1 ≤ x.2.1) (hzw : p ^ (y.2.1 - B).toNat ∣ z - w) : Rf p x y := by
  obtain ⟨a1, a2, a3, a4, a5, a6, a7, a8⟩ := hx
  obtain ⟨b1, b2, b3, b4, b5, b6, b7, b8⟩ := hy
  obtain ⟨c1, c2⟩ := gx
  obtain ⟨d1, d2⟩ := gy
  have c3 := Int.dvd_trans (pw_dvd p (show (y.2.1 - B).toNat ≤ (x.2.1 - B).toNat by omega)) c2
  have e1 : p ^ (y.2.1 - B).toNat ∣ x.2.2 * p ^ (x.1 - B).toNat - y.2.2 * p ^ (y.1 - B).toNat := by
    have := Int.dvd_sub (Int.dvd_add c3 hzw) d2
    rwa [show x.2.2 * p ^ (x.1 - B).toNat - z + (z - w) - (y.2.2 * p ^ (y.1 - B).toNat - w) = x.2.2 * p ^ (x.1 - B).toNat - y.2.2 * p ^ (y.1 - B).toNat by omega] at this
  refine ⟨hN, ?_⟩
  by_cases hy0 : y.2.2 = 0
  · left
    refine ⟨hy0, ?_⟩
    by_cases hx0 : x.2.2 = 0
    · rw [a8 hx0]; exact hN
    · have hx1 : ¬ p ∣ x.2.2 := a7.resolve_left hx0
      rw [hy0, Int.zero_mul, Int.sub_zero, Int.mul_comm] at e1
      have := (pw_dvd_iff hp hx1).mp e1
      omega
  · right
    have hy1 : ¬ p ∣ y.2.2 := b7.resolve_left hy0
    have hy2 : y.1 < y.2.1 := by
      apply Int.lt_of_not_ge
      intro q
      rw [show (y.2.1 - y.1).toNat = 0 by omega, Int.pow_zero] at b6
      omega
    have key : ∀ s : Nat, s ≤ (y.2.1 - B).toNat → (p ^ s ∣ x.2.2 * p ^ (x.1 - B).toNat ↔ p ^ s ∣ y.2.2 * p ^ (y.1 - B).toNat) := fun s hs => by
      have e2 := Int.dvd_trans (pw_dvd p hs) e1
      constructor
      · intro q
        have := Int.dvd_sub q e2
        rwa [Int.sub_sub_self] at this
      · intro q
        have := Int.dvd_add q e2
        rwa [show y.2.2 * p ^ (y.1 - B).toNat + (x.2.2 * p ^ (x.1 - B).toNat - y.2.2 * p ^ (y.1 - B).toNat) = x.2.2 * p ^ (x.1 - B).toNat by omega] at this
    have hx0 : x.2.2 ≠ 0 := fun q => by
      have h1 := (key (y.2.1 - B).toNat (Nat.le_refl _)).mp (by rw [q, Int.zero_mul]; exact Int.dvd_zero _)
      rw [Int.mul_comm] at h1
      have := (pw_dvd_iff hp hy1).mp h1
      omega
    have hx1 : ¬ p ∣ x.2.2 := a7.resolve_left hx0
    have k1 := (key (y.1 - B).toNat (by omega)).mpr (Int.dvd_mul_of_dvd_right (Int.dvd_refl _))
    rw [Int.mul_comm] at k1
    have k2 := (pw_dvd_iff hp hx1).mp k1
    have k3 : ¬ p ^ (y.1 - B + 1).toNat ∣ x.2.2 * p ^ (x.1 - B).toNat := fun q => by
      have h1 := (key (y.1 - B + 1).toNat (by omega)).mp q
      rw [Int.mul_comm] at h1
      have := (pw_dvd_iff hp hy1).mp h1
      omega
    rw [Int.mul_comm, pw_dvd_iff hp hx1] at k3
    have k4 : x.1 = y.1 := by omega
    refine ⟨hy0, hx0, k4, ?_⟩
    rw [k4, pw_split d1 b2, ← Int.sub_mul, Int.mul_comm _ (p ^ (y.1 - B).toNat), Int.mul_comm _ (p ^ (y.1 - B).toNat)] at e1
    exact Int.dvd_of_mul_dvd_mul_left (by have := pw_pos hp (y.1 - B).toNat; omega) e1
