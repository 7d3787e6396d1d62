theorem HasSq.lt {p : Int} {r : Nat} {x : Int × Int × Int} (wx : Wf p r x) (h : HasSq p x) : x.1 < x.2.1 := by
  apply Int.lt_of_not_ge
  intro g
  exact h.1 (wx.u0.mpr g)
theorem HasSq.rf {p : Int} {r : Nat} {x x' : Int × Int × Int} (wx' : Wf p r x') (h : HasSq p x') (hx : Rf p x x') : HasSq p x := by
  have hlt := h.lt wx'
  obtain ⟨q1, q2, q3, q4⟩ := h
  obtain ⟨-, c1, c2, c3⟩ := hx.2.resolve_left (fun q => q1 q.1)
  have hN := hx.1
  refine ⟨c1, by rw [c2]; exact q2, fun h2 => ?_, fun h2 => ?_⟩
  · obtain ⟨q5, q6⟩ := q3 h2
    refine ⟨by omega, ?_⟩
    subst h2
    have := Int.dvd_trans (pw_dvd 2 (show 3 ≤ (x'.2.1 - x'.1).toNat by omega)) c3
    have e : (2 : Int) ^ 3 = 8 := by decide
    rw [e] at this
    omega
  · have := Int.dvd_trans (pw_dvd1 p (show 1 ≤ (x'.2.1 - x'.1).toNat by omega)) c3
    rw [sqd_congr this]
    exact q4 h2
theorem root_wf {p : Int} {r : Nat} {x : Int × Int × Int} {R : Int} (hr : Rch p r) (wx : Wf p r x) (h : HasSq p x) : Wf p r (rootL p r x R) := by
  have hlt := h.lt wx
  have h3 := h.2.2.1
  obtain ⟨a1, a2, a3, a4, -⟩ := wx
  unfold rootL
  by_cases hp : p = 2
  · have := (h3 hp).1
    rw [if_pos hp]
    exact lay_wf hr (by omega) (by omega) (by omega)
  · rw [if_neg hp]
    exact lay_wf hr (by omega) (by omega) (by omega)
theorem root_rf {p : Int} {r : Nat} {x x' : Int × Int × Int} {R R' : Int} (hP : Pr p) (hr : Rch p r) (wx : Wf p r x) (wx' : Wf p r x') (h : HasSq p x) (h' : HasSq p x') (hx : Rf p x x') (hR : RootR p x R) (hR' : RootR p x' R') : Rf p (rootL p r x R) (rootL p r x' R') := by
  have hlt := h'.lt wx'
  have hN := hx.1
  obtain ⟨-, c1, c2, c3⟩ := hx.2.resolve_left (fun q => h'.1 q.1)
  obtain ⟨a1, a2, a3, a4, -⟩ := wx
  obtain ⟨a1', a2', a3', a4', -⟩ := wx'
  unfold rootL
  unfold RootR at hR hR'
  have key : p ^ (x'.2.1 - x'.1).toNat ∣ R * R - R' * R' := by
    have e1 : p ^ (x.2.1 - x.1).toNat ∣ R * R - x.2.2 := by
      by_cases hp : p = 2
      · rw [if_pos hp] at hR; rw [hp]; exact hR.2.2.1
      · rw [if_neg hp] at hR; exact hR.2.2.1
    have e2 : p ^ (x'.2.1 - x'.1).toNat ∣ R' * R' - x'.2.2 := by
      by_cases hp : p = 2
      · rw [if_pos hp] at hR'; rw [hp]; exact hR'.2.2.1
      · rw [if_neg hp] at hR'; exact hR'.2.2.1
    have := Int.dvd_add (Int.dvd_sub (Int.dvd_trans (pw_dvd p (show (x'.2.1 - x'.1).toNat ≤ (x.2.1 - x.1).toNat by omega)) e1) e2) c3
    rwa [show R * R - x.2.2 - (R' * R' - x'.2.2) + (x.2.2 - x'.2.2) = R * R - R' * R' by omega] at this
  by_cases hp : p = 2
  · have q5 := (h'.2.2.1 hp).1
    rw [if_pos hp] at hR hR'
    rw [if_pos hp, if_pos hp, c2]
    refine lay_rf hr (by omega) (by omega) (by omega) (by omega) (by omega) (by omega) ?_
    rw [hp] at key ⊢
    rw [show (x'.1 / 2 + (x'.2.1 - x'.1) - 1 - x'.1 / 2).toNat = (x'.2.1 - x'.1).toNat - 1 by omega]
    exact rtT_un (by omega) hR.2.2.2 hR'.2.2.2 key
  · have q5 := h'.2.2.2 hp
    rw [if_neg hp] at hR hR'
    rw [if_neg hp, if_neg hp, c2]
    refine lay_rf hr (by omega) (by omega) (by omega) (by omega) (by omega) (by omega) ?_
    rw [show (x'.1 / 2 + (x'.2.1 - x'.1) - x'.1 / 2).toNat = (x'.2.1 - x'.1).toNat by omega]
    have e3 : sqd p x.2.2 = sqd p x'.2.2 := sqd_congr (Int.dvd_trans (pw_dvd1 p (by omega)) c3)
    have hR4 := hR.2.2.2
    rw [e3] at hR4
    exact rtO_un hP hp (sqd_co hP q5) hR4 hR'.2.2.2 key
theorem tei_wf {p : Int} {r : Nat} {x : Int × Int × Int} (hr : Rch p r) (wx : Wf p r x) (h0 : x.1 = 0) : Wf p r (teiS p r x) := by
  obtain ⟨a1, a2, a3, a4, -⟩ := wx
  exact lay_wf hr (by omega) (by omega) (by omega)
theorem tei_stay {p u : Int} (hP : Pr p) (hu : ¬ p ∣ u) {n : Nat} : ∀ d : Nat, p ^ n ∣ u ^ (p.toNat ^ (n + d)) - u ^ (p.toNat ^ n)
  | 0 => by rw [Nat.add_zero, Int.sub_self]; exact Int.dvd_zero _
  | d + 1 => by
    have h1 := tei_stay hP hu (n := n) d
    have hr := hP.rng
    have e1 : p.toNat ^ (n + (d + 1)) = p.toNat ^ (n + d) + eu p (n + d + 1) := by
      simp only [eu]
      rw [show n + (d + 1) = (n + d) + 1 by omega, Nat.pow_succ, show p.toNat = (p - 1).toNat + 1 by omega, Nat.mul_add]
      omega
    have h2 := Int.dvd_mul_of_dvd_right (b := u ^ (p.toNat ^ (n + d))) (Int.dvd_trans (pw_dvd p (show n ≤ n + d + 1 by omega)) (euler hP hu (n + d)))
    rw [e1, Int.pow_add]
    have := Int.dvd_add h2 h1
    rwa [show ∀ a b c : Int, a * (b - 1) + (a - c) = a * b - c by intros; grind] at this
theorem pow_dvd_sub {m a b : Int} (h : m ∣ a - b) : ∀ n : Nat, m ∣ a ^ n - b ^ n
  | 0 => by simp
  | n + 1 => by
    have := Int.dvd_add (Int.dvd_mul_of_dvd_left (c := a) (pow_dvd_sub h n)) (Int.dvd_mul_of_dvd_right (b := b ^ n) h)
    rw [Int.pow_succ, Int.pow_succ]
    rwa [show ∀ x y a b : Int, (x - y) * a + y * (a - b) = x * a - y * b by intros; grind] at this
theorem tei_rf {p : Int} {r : Nat} {x x' : Int × Int × Int} (hP : Pr p) (hr : Rch p r) (wx : Wf p r x) (wx' : Wf p r x') (h0 : x'.1 = 0) (hu : x'.2.2 ≠ 0) (hx : Rf p x x') : Rf p (teiS p r x) (teiS p r x') := by
  have hN := hx.1
  have hz := wx'.u0
  obtain ⟨-, c1, c2, c3⟩ := hx.2.resolve_left (fun q => hu q.1)
  obtain ⟨a1, a2, a3, a4, -, -, a5, -⟩ := wx
  obtain ⟨a1', a2', a3', a4', -⟩ := wx'
  unfold teiS
  refine lay_rf hr (by omega) (by omega) (by omega) (by omega) (by omega) (by omega) ?_
  rw [Int.sub_zero]
  have hco : ¬ p ∣ x.2.2 := a5.resolve_left c1
  have e1 := tei_stay hP hco (n := x'.2.1.toNat) (x.2.1.toNat - x'.2.1.toNat)
  rw [show x'.2.1.toNat + (x.2.1.toNat - x'.2.1.toNat) = x.2.1.toNat by omega] at e1
  rw [h0, Int.sub_zero] at c3
  have e2 := pow_dvd_sub c3 (p.toNat ^ x'.2.1.toNat)
  have := Int.dvd_add e1 e2
  rwa [show ∀ a b c : Int, a - b + (b - c) = a - c by intros; omega] at this
theorem row_wf {p : Int} {r n : Nat} {x : Int × Int × Int} {f : Nat → Int} (hr : Rch p r) (wx : Wf p r x) (h0 : 0 ≤ x.1) (hs : 0 < min x.2.1 (r : Int) - gl p n) : Wf p r (rowS p r x n f) := by
  obtain ⟨a1, a2, a3, a4, -⟩ := wx
  exact lay_wf hr (by omega) (by omega) (by omega)
theorem rs_mod {p : Int} (hP : Pr p) {f : Nat → Int} {X Y kn : Nat} (h : p ^ kn ∣ (X : Int) - Y) {g : Nat} : ∀ n : Nat, gl p n ≤ g → p ^ (kn - g) ∣ rs f X n - rs f Y n
  | 0, _ => by rw [rs, rs, Int.sub_self]; exact Int.dvd_zero _
  | n + 1, hg => by
    have m1 := gl_mono (p := p) (show n ≤ n + 1 by omega)
    have h1 := rs_mod hP h (f := f) (g := g) n (by omega)
    have h2 := Int.dvd_trans (pw_dvd p (show kn - g ≤ kn - gl p (n + 1) by omega)) (bn_mod hP (k := n) h)
    have := Int.dvd_add h1 (Int.dvd_mul_of_dvd_right (b := df f n) h2)
    rw [rs, rs]
    rwa [show ∀ a b c d e : Int, a - b + c * (d - e) = a + c * d - (b + c * e) by intros; grind] at this
theorem row_rf {p : Int} {r n : Nat} {x x' : Int × Int × Int} {f : Nat → Int} (hP : Pr p) (hr : Rch p r) (wx : Wf p r x) (wx' : Wf p r x') (h0 : 0 ≤ x'.1) (hs : 0 < min x'.2.1 (r : Int) - gl p n) (hx : Rf p x x') : Rf p (rowS p r x n f) (rowS p r x' n f) := by
  have hN := hx.1
  have vx := hx.v wx'.uz
  obtain ⟨a1, a2, a3, a4, -⟩ := wx
  obtain ⟨a1', a2', a3', a4', -⟩ := wx'
  unfold rowS
  refine lay_rf hr (by omega) (by omega) (by omega) (by omega) (by omega) (by omega) ?_
  have q1 := pw_pos hr.1 (min x.2.1 (r : Int)).toNat
  have q2 := pw_pos hr.1 (min x'.2.1 (r : Int)).toNat
  have k1 := (emod_rng (a := x.2.2 * p ^ x.1.toNat) q1).1
  have k2 := (emod_rng (a := x'.2.2 * p ^ x'.1.toNat) q2).1
  have e1 : (((ptS p r x).toNat : Nat) : Int) = ptS p r x := by unfold ptS; omega
  have e2 : (((ptS p r x').toNat : Nat) : Int) = ptS p r x' := by unfold ptS; omega
  have r1 := (rep_of_rf hx (rep_self (B := 0) (by omega)) a2' h0).2
  have h1 : p ^ (min x'.2.1 (r : Int)).toNat ∣ (((ptS p r x).toNat : Nat) : Int) - ((ptS p r x').toNat : Nat) := by
    rw [e1, e2]
    have m1 := Int.dvd_trans (pw_dvd p (show (min x'.2.1 (r : Int)).toNat ≤ (min x.2.1 (r : Int)).toNat by omega)) (mod_dvd (x.2.2 * p ^ x.1.toNat) (p ^ (min x.2.1 (r : Int)).toNat))
    have m2 := mod_dvd (x'.2.2 * p ^ x'.1.toNat) (p ^ (min x'.2.1 (r : Int)).toNat)
    have m3 := Int.dvd_trans (pw_dvd p (show (min x'.2.1 (r : Int)).toNat ≤ (x'.2.1 - 0).toNat by omega)) r1
    rw [Int.sub_zero, Int.sub_zero] at m3
    have := Int.dvd_sub (Int.dvd_sub m1 m2) m3
    unfold ptS
    rwa [show ∀ a b c d : Int, a - b - (c - d) - (d - b) = a - c by intros; omega] at this
  have := rs_mod hP (f := f) h1 (g := gl p n) n (Nat.le_refl _)
  rwa [show (min x'.2.1 (r : Int)).toNat - gl p n = (min x'.2.1 (r : Int) - gl p n - 0).toNat by omega] at this
/-- two numbers that stand for the same one agree -/
theorem agree_of {p : Int} {r : Nat} {x y : Int × Int × Int} {B z w : Int} (hr : Rch p r) (wx : Wf p r x) (wy : Wf p r y) (gx : Rep p x B z) (gy : Rep p y B w) (hzw : p ^ (min x.2.1 y.2.1 - B).toNat ∣ z - w) : (sumS p r x y (-1)).2.2 = 0 := by
  obtain ⟨a1, a2, a3, a4, -⟩ := wx
  obtain ⟨b1, b2, b3, b4, -⟩ := wy
  obtain ⟨c1, c2⟩ := gx
  obtain ⟨d1, d2⟩ := gy
  have q1 := Int.dvd_trans (pw_dvd p (show (min x.2.1 y.2.1 - B).toNat ≤ (x.2.1 - B).toNat by omega)) c2
  have q2 := Int.dvd_trans (pw_dvd p (show (min x.2.1 y.2.1 - B).toNat ≤ (y.2.1 - B).toNat by omega)) d2
  have q3 := Int.dvd_add (Int.dvd_sub q1 q2) hzw
  rw [pw_split (show B ≤ min x.1 y.1 by omega) (show min x.1 y.1 ≤ x.1 by omega), pw_split (show B ≤ min x.1 y.1 by omega) (show min x.1 y.1 ≤ y.1 by omega), pw_split (show B ≤ min x.1 y.1 by omega) (show min x.1 y.1 ≤ min x.2.1 y.2.1 by omega)] at q3
  have q4 : p ^ (min x.2.1 y.2.1 - min x.1 y.1).toNat ∣ x.2.2 * p ^ (x.1 - min x.1 y.1).toNat + -1 * (y.2.2 * p ^ (y.1 - min x.1 y.1).toNat) := by
    refine Int.dvd_of_mul_dvd_mul_right (show p ^ (min x.1 y.1 - B).toNat ≠ 0 by have := pw_pos hr.1 (min x.1 y.1 - B).toNat; omega) ?_
    rwa [show ∀ a b c d e f g : Int, a * (b * c) - d - (e * (f * c) - g) + (d - g) = (a * b + -1 * (e * f)) * c by intros; grind] at q3
  unfold sumS lay
  rw [if_pos]
  exact Or.inr (Int.emod_eq_zero_of_dvd (Int.dvd_trans (pw_dvd p (by omega)) q4))
theorem agree_rf {p : Int} {r : Nat} {x y : Int × Int × Int} (hr : Rch p r) (wx : Wf p r x) (wy : Wf p r y) (h : Rf p x y) : (sumS p r x y (-1)).2.2 = 0 := by
  have hv := h.v wy.uz
  have g1 := rep_self (p := p) (B := y.1) hv
  refine agree_of hr wx wy g1 (rep_of_rf h g1 wy.2.1 (Int.le_refl _)) ?_
  rw [Int.sub_self]
  exact Int.dvd_zero _
theorem root_sq {p : Int} {r : Nat} {x : Int × Int × Int} {R : Int} (hP : Pr p) (hr : Rch p r) (wx : Wf p r x) (h : HasSq p x) (hR : RootR p x R) : (sumS p r (prodS p r (rootL p r x R) (rootL p r x R)) x (-1)).2.2 = 0 := by
  have wl := root_wf (R := R) hr wx h
  have hlt := h.lt wx
  have h2 := h.2.1
  have wx' := wx
  obtain ⟨a1, a2, a3, a4, -⟩ := wx'
  have key : ∃ s : Int, rootL p r x R = lay p r (x.1 / 2) (x.1 / 2 + s) R ∧ 0 < s ∧ s ≤ x.2.1 - x.1 ∧ p ^ s.toNat ∣ R * R - x.2.2 ∧ ¬ p ∣ R := by
    unfold rootL
    unfold RootR at hR
    by_cases hp : p = 2
    · have q5 := (h.2.2.1 hp).1
      rw [if_pos hp] at hR ⊢
      refine ⟨x.2.1 - x.1 - 1, by rw [Int.add_sub_assoc], by omega, by omega, ?_⟩
      rw [hp]
      refine ⟨Int.dvd_trans (pw_dvd 2 (by omega)) hR.2.2.1, ?_⟩
      have := hR.2.2.2
      omega
    · rw [if_neg hp] at hR ⊢
      refine ⟨x.2.1 - x.1, rfl, by omega, by omega, hR.2.2.1, fun q => ?_⟩
      have := Int.dvd_sub q hR.2.2.2
      rw [Int.sub_sub_self] at this
      exact sqd_co hP (h.2.2.2 hp) this
  obtain ⟨s, e, s1, s2, s3, s4⟩ := key
  rw [e] at wl ⊢
  have nl := lay_N (p := p) (r := r) (base := x.1 / 2) (known := x.1 / 2 + s) (w := R) hr (by omega)
  have vl := lay_v (p := p) (r := r) (base := x.1 / 2) (known := x.1 / 2 + s) (w := R) hr (by omega)
  have g1 := lay_rep (p := p) (r := r) (base := x.1 / 2) (known := x.1 / 2 + s) (w := R) (B := x.1 / 2) hr (by omega) (by omega) (by omega)
  rw [Int.sub_self, show (0 : Int).toNat = 0 from rfl, Int.pow_zero, Int.mul_one] at g1
  have v0 : (lay p r (x.1 / 2) (x.1 / 2 + s) R).1 = x.1 / 2 := by
    rcases lay_cases (p := p) (r := r) (base := x.1 / 2) (known := x.1 / 2 + s) (w := R) hr (by omega) with ⟨-, q | q⟩ | ⟨v, c, h1, h2, h3, h4, h5, h6, e7⟩
    · omega
    · exact absurd (Int.dvd_trans (pw_dvd1 p (by omega)) q) s4
    · rw [e7]
      show x.1 / 2 + (v : Int) = x.1 / 2
      by_cases hv : v = 0
      · omega
      · exfalso
        have t1 := Int.dvd_sub (Int.dvd_mul_of_dvd_left (c := c) (pw_dvd1 p (show 1 ≤ v by omega))) (Int.dvd_trans (pw_dvd1 p (show 1 ≤ (min (x.1 / 2 + s) 60 - x.1 / 2).toNat by omega)) h6)
        rw [Int.sub_sub_self] at t1
        exact s4 t1
  generalize hy : lay p r (x.1 / 2) (x.1 / 2 + s) R = y at *
  have wy := wl
  obtain ⟨b1, b2, b3, b4, -⟩ := wl
  have wp := prod_wf hr wy wy (by omega)
  have np : (prodS p r y y).2.1 = min (y.1 + y.2.1) 60 := by
    unfold prodS
    rw [lay_N hr (by omega), show min (y.1 + y.2.1) (y.1 + y.2.1) = y.1 + y.2.1 by omega]
  have g2 := lay_rep (p := p) (r := r) (base := y.1 + y.1) (known := min (y.1 + y.2.1) (y.1 + y.2.1)) (w := y.2.2 * y.2.2) (B := x.1) hr (by omega) (by omega) (by omega)
  refine agree_of (x := prodS p r y y) hr wp wx g2 (rep_self (Int.le_refl x.1)) ?_
  rw [np]
  have e1 : y.2.2 * y.2.2 * p ^ (y.1 + y.1 - x.1).toNat = y.2.2 * p ^ (y.1 - x.1 / 2).toNat * (y.2.2 * p ^ (y.1 - x.1 / 2).toNat) := by
    rw [show (y.1 + y.1 - x.1).toNat = (y.1 - x.1 / 2).toNat + (y.1 - x.1 / 2).toNat by omega, pw_add]
    generalize p ^ (y.1 - x.1 / 2).toNat = A
    grind
  rw [e1, Int.sub_self, show (0 : Int).toNat = 0 from rfl, Int.pow_zero, Int.mul_one]
  -- y is R as far as it is known, and a square is known as far as its root and what it begins with
  have q1 := g1.2
  generalize hA : y.2.2 * p ^ (y.1 - x.1 / 2).toNat = A at *
  have q2 : p ^ (y.1 - x.1 / 2).toNat ∣ A := by rw [← hA]; exact Int.dvd_mul_of_dvd_right (Int.dvd_refl _)
  have q3 : p ^ (min (min (y.1 + y.2.1) 60) x.2.1 - x.1).toNat ∣ A * A - R * R := by
    have t1 : p ^ (y.2.1 - x.1 / 2).toNat ∣ R - A := by
      have := Int.dvd_neg.mpr q1
      rwa [show -(A - R) = R - A by omega] at this
    -- A A - R R = -(R - A) (R - A) - 2 A (R - A)
    have t2 : p ^ ((y.2.1 - x.1 / 2).toNat + (y.1 - x.1 / 2).toNat) ∣ A * (R - A) := by
      rw [pw_add, Int.mul_comm A]
      exact Int.mul_dvd_mul t1 q2
    have t3 : p ^ ((y.2.1 - x.1 / 2).toNat + (y.2.1 - x.1 / 2).toNat) ∣ (R - A) * (R - A) := by
      rw [pw_add]
      exact Int.mul_dvd_mul t1 t1
    have t4 := Int.dvd_trans (pw_dvd p (show (min (min (y.1 + y.2.1) 60) x.2.1 - x.1).toNat ≤ (y.2.1 - x.1 / 2).toNat + (y.1 - x.1 / 2).toNat by omega)) t2
    have t5 := Int.dvd_trans (pw_dvd p (show (min (min (y.1 + y.2.1) 60) x.2.1 - x.1).toNat ≤ (y.2.1 - x.1 / 2).toNat + (y.2.1 - x.1 / 2).toNat by omega)) t3
    have t6 := Int.dvd_neg.mpr (Int.dvd_add t5 (Int.dvd_mul_of_dvd_right (b := 2) t4))
    rwa [show -((R - A) * (R - A) + 2 * (A * (R - A))) = A * A - R * R by grind] at t6
  have q4 : p ^ (min (min (y.1 + y.2.1) 60) x.2.1 - x.1).toNat ∣ R * R - x.2.2 := by
    refine Int.dvd_trans (pw_dvd p ?_) s3
    omega
  have := Int.dvd_add q3 q4
  rwa [show A * A - R * R + (R * R - x.2.2) = A * A - x.2.2 by omega] at this
