/-! more digits never change those that were known -/
theorem lay_rf {p : Int} {r : Nat} {base known known' w w' : Int} (hr : Rch p r) (hs : min known 60 - base ≤ r) (hs' : min known' 60 - base ≤ r) (hb : -60 ≤ base) (hb2 : base ≤ 60) (hk' : base ≤ known') (hk : known' ≤ known) (hw : p ^ (known' - base).toNat ∣ w - w') : Rf p (lay p r base known w) (lay p r base known' w') := by
  have n1 := lay_N (w := w) hr hs
  have n2 := lay_N (w := w') hr hs'
  refine rf_of_rep (B := base) hr.1 (lay_wf hr hs hb (by omega)) (lay_wf hr hs' hb (by omega)) (lay_rep hr hs (Int.le_refl _) (by omega)) (lay_rep hr hs' (Int.le_refl _) (by omega)) (by omega) ?_
  rw [n2, Int.sub_self, show (0 : Int).toNat = 0 from rfl, Int.pow_zero, Int.mul_one, Int.mul_one]
  exact Int.dvd_trans (pw_dvd p (by omega)) hw
theorem Wf.uz {p : Int} {r : Nat} {x : Int × Int × Int} (h : Wf p r x) : x.2.2 = 0 → x.1 = x.2.1 := h.2.2.2.2.2.2.2
theorem sum_rf {p : Int} {r : Nat} {x x' y y' : Int × Int × Int} {s : Int} (hr : Rch p r) (wx : Wf p r x) (wx' : Wf p r x') (wy : Wf p r y) (wy' : Wf p r y') (hx : Rf p x x') (hy : Rf p y y') : Rf p (sumS p r x y s) (sumS p r x' y' s) := by
  have vx := hx.v wx'.uz
  have vy := hy.v wy'.uz
  have Nx := hx.1
  have Ny := hy.1
  have ax := wx
  have ax' := wx'
  have ay := wy
  have ay' := wy'
  obtain ⟨a1, a2, a3, a4, -⟩ := ax
  obtain ⟨a1', a2', a3', a4', -⟩ := ax'
  obtain ⟨b1, b2, b3, b4, -⟩ := ay
  obtain ⟨b1', b2', b3', b4', -⟩ := ay'
  have r1 := rep_of_rf hx (rep_self (B := min x'.1 y'.1) (by omega)) a2' (by omega)
  have r2 := rep_of_rf hy (rep_self (B := min x'.1 y'.1) (by omega)) b2' (by omega)
  unfold sumS
  have n1 := lay_N (p := p) (r := r) (base := min x.1 y.1) (known := min x.2.1 y.2.1) (w := x.2.2 * p ^ (x.1 - min x.1 y.1).toNat + s * (y.2.2 * p ^ (y.1 - min x.1 y.1).toNat)) hr (by omega)
  have n2 := lay_N (p := p) (r := r) (base := min x'.1 y'.1) (known := min x'.2.1 y'.2.1) (w := x'.2.2 * p ^ (x'.1 - min x'.1 y'.1).toNat + s * (y'.2.2 * p ^ (y'.1 - min x'.1 y'.1).toNat)) hr (by omega)
  refine rf_of_rep (B := min x'.1 y'.1) hr.1 (lay_wf hr (by omega) (by omega) (by omega)) (lay_wf hr (by omega) (by omega) (by omega)) (lay_rep hr (by omega) (by omega) (by omega)) (lay_rep hr (by omega) (by omega) (by omega)) (by omega) ?_
  rw [n2, Int.sub_self, show (0 : Int).toNat = 0 from rfl, Int.pow_zero, Int.mul_one]
  have e1 : (x.2.2 * p ^ (x.1 - min x.1 y.1).toNat + s * (y.2.2 * p ^ (y.1 - min x.1 y.1).toNat)) * p ^ (min x.1 y.1 - min x'.1 y'.1).toNat = x.2.2 * p ^ (x.1 - min x'.1 y'.1).toNat + s * (y.2.2 * p ^ (y.1 - min x'.1 y'.1).toNat) := by
    rw [pw_split (show min x'.1 y'.1 ≤ min x.1 y.1 by omega) (show min x.1 y.1 ≤ x.1 by omega), pw_split (show min x'.1 y'.1 ≤ min x.1 y.1 by omega) (show min x.1 y.1 ≤ y.1 by omega)]
    generalize p ^ (x.1 - min x.1 y.1).toNat = A
    generalize p ^ (y.1 - min x.1 y.1).toNat = C
    generalize p ^ (min x.1 y.1 - min x'.1 y'.1).toNat = D
    grind
  rw [e1]
  have q1 := Int.dvd_trans (pw_dvd p (show (min (min x'.2.1 y'.2.1) 60 - min x'.1 y'.1).toNat ≤ (x'.2.1 - min x'.1 y'.1).toNat by omega)) r1.2
  have q2 := Int.dvd_trans (pw_dvd p (show (min (min x'.2.1 y'.2.1) 60 - min x'.1 y'.1).toNat ≤ (y'.2.1 - min x'.1 y'.1).toNat by omega)) r2.2
  have q3 := Int.dvd_neg.mpr (Int.dvd_add q1 (Int.dvd_mul_of_dvd_right (b := s) q2))
  rwa [show ∀ a b c d e : Int, -(a - b + e * (c - d)) = b + e * d - (a + e * c) by intros; grind] at q3
theorem prod_wf {p : Int} {r : Nat} {x y : Int × Int × Int} (hr : Rch p r) (wx : Wf p r x) (wy : Wf p r y) (h : -60 ≤ x.1 + y.1) : Wf p r (prodS p r x y) := by
  obtain ⟨a1, a2, a3, a4, -⟩ := wx
  obtain ⟨b1, b2, b3, b4, -⟩ := wy
  exact lay_wf hr (by omega) (by omega) (by omega)
theorem sum_wf {p : Int} {r : Nat} {x y : Int × Int × Int} {s : Int} (hr : Rch p r) (wx : Wf p r x) (wy : Wf p r y) : Wf p r (sumS p r x y s) := by
  obtain ⟨a1, a2, a3, a4, -⟩ := wx
  obtain ⟨b1, b2, b3, b4, -⟩ := wy
  exact lay_wf hr (by omega) (by omega) (by omega)
theorem quot_wf {p : Int} {r : Nat} {x y : Int × Int × Int} (hr : Rch p r) (wx : Wf p r x) (wy : Wf p r y) (h : -60 ≤ x.1 - y.1) : Wf p r (quotS p r x y) := by
  obtain ⟨a1, a2, a3, a4, -⟩ := wx
  obtain ⟨b1, b2, b3, b4, -⟩ := wy
  exact lay_wf hr (by omega) (by omega) (by omega)
theorem prod_rf {p : Int} {r : Nat} {x x' y y' : Int × Int × Int} (hr : Rch p r) (wx : Wf p r x) (wx' : Wf p r x') (wy : Wf p r y) (wy' : Wf p r y') (hx : Rf p x x') (hy : Rf p y y') (h60 : -60 ≤ x'.1 + y'.1) : Rf p (prodS p r x y) (prodS p r x' y') := by
  have vx := hx.v wx'.uz
  have vy := hy.v wy'.uz
  have Nx := hx.1
  have Ny := hy.1
  have w1 := prod_wf hr wx wy (by omega)
  have w2 := prod_wf hr wx' wy' h60
  obtain ⟨a1, a2, a3, a4, -⟩ := wx
  obtain ⟨a1', a2', a3', a4', -⟩ := wx'
  obtain ⟨b1, b2, b3, b4, -⟩ := wy
  obtain ⟨b1', b2', b3', b4', -⟩ := wy'
  have r1 := rep_of_rf hx (rep_self (B := x'.1) vx) a2' (Int.le_refl _)
  have r2 := rep_of_rf hy (rep_self (B := y'.1) vy) b2' (Int.le_refl _)
  have n1 := lay_N (p := p) (r := r) (base := x.1 + y.1) (known := min (x.1 + y.2.1) (y.1 + x.2.1)) (w := x.2.2 * y.2.2) hr (by omega)
  have n2 := lay_N (p := p) (r := r) (base := x'.1 + y'.1) (known := min (x'.1 + y'.2.1) (y'.1 + x'.2.1)) (w := x'.2.2 * y'.2.2) hr (by omega)
  have l1 := lay_rep (p := p) (r := r) (base := x.1 + y.1) (known := min (x.1 + y.2.1) (y.1 + x.2.1)) (w := x.2.2 * y.2.2) (B := min (x'.1 + y'.1) 60) hr (by omega) (by omega) (by omega)
  have l2 := lay_rep (p := p) (r := r) (base := x'.1 + y'.1) (known := min (x'.1 + y'.2.1) (y'.1 + x'.2.1)) (w := x'.2.2 * y'.2.2) (B := min (x'.1 + y'.1) 60) hr (by omega) (by omega) (by omega)
  refine rf_of_rep hr.1 w1 w2 l1 l2 (by unfold prodS; omega) ?_
  unfold prodS
  rw [n2]
  have e1 : x.2.2 * y.2.2 * p ^ (x.1 + y.1 - min (x'.1 + y'.1) 60).toNat = x.2.2 * p ^ (x.1 - x'.1).toNat * (y.2.2 * p ^ (y.1 - y'.1).toNat) * p ^ (x'.1 + y'.1 - min (x'.1 + y'.1) 60).toNat := by
    rw [show (x.1 + y.1 - min (x'.1 + y'.1) 60).toNat = (x.1 - x'.1).toNat + (y.1 - y'.1).toNat + (x'.1 + y'.1 - min (x'.1 + y'.1) 60).toNat by omega, pw_add, pw_add]
    generalize p ^ (x.1 - x'.1).toNat = A
    generalize p ^ (y.1 - y'.1).toNat = C
    generalize p ^ (x'.1 + y'.1 - min (x'.1 + y'.1) 60).toNat = D
    grind
  rw [e1, ← Int.sub_mul]
  refine Int.dvd_trans (pw_dvd p (show _ ≤ (min (x'.1 + y'.2.1) (y'.1 + x'.2.1) - min (x'.1 + y'.1) 60).toNat by omega)) ?_
  rw [pw_split (show min (x'.1 + y'.1) 60 ≤ x'.1 + y'.1 by omega) (show x'.1 + y'.1 ≤ min (x'.1 + y'.2.1) (y'.1 + x'.2.1) by omega)]
  refine Int.mul_dvd_mul ?_ (Int.dvd_refl _)
  have q1 := Int.dvd_trans (pw_dvd p (show (min (x'.1 + y'.2.1) (y'.1 + x'.2.1) - (x'.1 + y'.1)).toNat ≤ (x'.2.1 - x'.1).toNat by omega)) r1.2
  have q2 := Int.dvd_trans (pw_dvd p (show (min (x'.1 + y'.2.1) (y'.1 + x'.2.1) - (x'.1 + y'.1)).toNat ≤ (y'.2.1 - y'.1).toNat by omega)) r2.2
  rw [Int.sub_self, show (0 : Int).toNat = 0 from rfl, Int.pow_zero, Int.mul_one] at q1 q2
  have q3 := Int.dvd_neg.mpr (Int.dvd_add (Int.dvd_mul_of_dvd_left (c := y.2.2 * p ^ (y.1 - y'.1).toNat) q1) (Int.dvd_mul_of_dvd_right (b := x'.2.2) q2))
  rwa [show ∀ a b c d : Int, -((a - b) * d + a * (c - d)) = b * d - a * c by intros; grind] at q3
theorem iv_agree {p : Int} {e m n : Nat} {u v : Int} (hP : Pr p) (hu : ¬ p ∣ u) (hv : ¬ p ∣ v) (hm : e ≤ m) (hn : e ≤ n) (h : p ^ e ∣ u - v) : p ^ e ∣ iv p m u - iv p n v := by
  have h1 := Int.dvd_trans (pw_dvd p hm) (iv_mul hP hu m)
  have h2 := Int.dvd_trans (pw_dvd p hn) (iv_mul hP hv n)
  apply hP.euclidN hu
  have h3 := Int.dvd_sub (Int.dvd_sub h1 h2) (Int.dvd_mul_of_dvd_left (c := iv p n v) h)
  rwa [show ∀ a b c d : Int, a * c - 1 - (b * d - 1) - (a - b) * d = a * (c - d) by intros; grind] at h3
theorem quot_rf {p : Int} {r : Nat} {x x' y y' : Int × Int × Int} (hP : Pr p) (hr : Rch p r) (wx : Wf p r x) (wx' : Wf p r x') (wy : Wf p r y) (wy' : Wf p r y') (hx : Rf p x x') (hy : Rf p y y') (h60 : -60 ≤ x'.1 - y'.1) (hy0 : y'.2.2 ≠ 0) : Rf p (quotS p r x y) (quotS p r x' y') := by
  have vx := hx.v wx'.uz
  have Nx := hx.1
  have Ny := hy.1
  have hy1 := hy.2.resolve_left (fun q => hy0 q.1)
  obtain ⟨-, y0, vy, cy⟩ := hy1
  have w1 := quot_wf hr wx wy (by omega)
  have w2 := quot_wf hr wx' wy' h60
  have xz := wx'.u0
  obtain ⟨a1, a2, a3, a4, -⟩ := wx
  obtain ⟨a1', a2', a3', a4', -⟩ := wx'
  obtain ⟨b1, b2, b3, b4, -, -, b5, -⟩ := wy
  obtain ⟨b1', b2', b3', b4', -, -, b5', -⟩ := wy'
  have r1 := rep_of_rf hx (rep_self (B := x'.1) vx) a2' (Int.le_refl _)
  unfold quotS at *
  have n1 := lay_N (p := p) (r := r) (base := x.1 - y.1) (known := min (x.2.1 - y.1) (x.1 + y.2.1 - 2 * y.1)) (w := x.2.2 * iv p (min (x.2.1 - y.1) (x.1 + y.2.1 - 2 * y.1) - (x.1 - y.1)).toNat y.2.2) hr (by omega)
  have n2 := lay_N (p := p) (r := r) (base := x'.1 - y'.1) (known := min (x'.2.1 - y'.1) (x'.1 + y'.2.1 - 2 * y'.1)) (w := x'.2.2 * iv p (min (x'.2.1 - y'.1) (x'.1 + y'.2.1 - 2 * y'.1) - (x'.1 - y'.1)).toNat y'.2.2) hr (by omega)
  have l1 := lay_rep (p := p) (r := r) (base := x.1 - y.1) (known := min (x.2.1 - y.1) (x.1 + y.2.1 - 2 * y.1)) (w := x.2.2 * iv p (min (x.2.1 - y.1) (x.1 + y.2.1 - 2 * y.1) - (x.1 - y.1)).toNat y.2.2) (B := min (x'.1 - y'.1) 60) hr (by omega) (by omega) (by omega)
  have l2 := lay_rep (p := p) (r := r) (base := x'.1 - y'.1) (known := min (x'.2.1 - y'.1) (x'.1 + y'.2.1 - 2 * y'.1)) (w := x'.2.2 * iv p (min (x'.2.1 - y'.1) (x'.1 + y'.2.1 - 2 * y'.1) - (x'.1 - y'.1)).toNat y'.2.2) (B := min (x'.1 - y'.1) 60) hr (by omega) (by omega) (by omega)
  refine rf_of_rep hr.1 w1 w2 l1 l2 (by omega) ?_
  rw [n2]
  have e1 : x.2.2 * iv p (min (x.2.1 - y.1) (x.1 + y.2.1 - 2 * y.1) - (x.1 - y.1)).toNat y.2.2 * p ^ (x.1 - y.1 - min (x'.1 - y'.1) 60).toNat = x.2.2 * p ^ (x.1 - x'.1).toNat * iv p (min (x.2.1 - y.1) (x.1 + y.2.1 - 2 * y.1) - (x.1 - y.1)).toNat y.2.2 * p ^ (x'.1 - y'.1 - min (x'.1 - y'.1) 60).toNat := by
    rw [show (x.1 - y.1 - min (x'.1 - y'.1) 60).toNat = (x.1 - x'.1).toNat + (x'.1 - y'.1 - min (x'.1 - y'.1) 60).toNat by omega, pw_add]
    generalize p ^ (x.1 - x'.1).toNat = A
    generalize p ^ (x'.1 - y'.1 - min (x'.1 - y'.1) 60).toNat = D
    generalize iv p (min (x.2.1 - y.1) (x.1 + y.2.1 - 2 * y.1) - (x.1 - y.1)).toNat y.2.2 = I
    grind
  rw [e1, ← Int.sub_mul]
  refine Int.dvd_trans (pw_dvd p (show _ ≤ (min (x'.2.1 - y'.1) (x'.1 + y'.2.1 - 2 * y'.1) - min (x'.1 - y'.1) 60).toNat by omega)) ?_
  rw [pw_split (show min (x'.1 - y'.1) 60 ≤ x'.1 - y'.1 by omega) (show x'.1 - y'.1 ≤ min (x'.2.1 - y'.1) (x'.1 + y'.2.1 - 2 * y'.1) by omega)]
  refine Int.mul_dvd_mul ?_ (Int.dvd_refl _)
  by_cases he : (min (x'.2.1 - y'.1) (x'.1 + y'.2.1 - 2 * y'.1) - (x'.1 - y'.1)).toNat = 0
  · rw [he, Int.pow_zero]
    exact Int.one_dvd _
  · have hx0 : x'.2.2 ≠ 0 := fun q => by
      have := xz.mp q
      omega
    have hx1 := hx.2.resolve_left (fun q => hx0 q.1)
    have hv := hx1.2.2.1
    have q1 := Int.dvd_trans (pw_dvd p (show (min (x'.2.1 - y'.1) (x'.1 + y'.2.1 - 2 * y'.1) - (x'.1 - y'.1)).toNat ≤ (x'.2.1 - x'.1).toNat by omega)) r1.2
    rw [Int.sub_self, show (0 : Int).toNat = 0 from rfl, Int.pow_zero, Int.mul_one] at q1
    have q2 := iv_agree (e := (min (x'.2.1 - y'.1) (x'.1 + y'.2.1 - 2 * y'.1) - (x'.1 - y'.1)).toNat) (m := (min (x.2.1 - y.1) (x.1 + y.2.1 - 2 * y.1) - (x.1 - y.1)).toNat) (n := (min (x'.2.1 - y'.1) (x'.1 + y'.2.1 - 2 * y'.1) - (x'.1 - y'.1)).toNat) hP (b5.resolve_left y0) (b5'.resolve_left hy0) (by omega) (Nat.le_refl _) (Int.dvd_trans (pw_dvd p (by omega)) cy)
    have q3 := Int.dvd_sub (Int.dvd_mul_of_dvd_right (b := x'.2.2) q2) (Int.dvd_mul_of_dvd_left (c := iv p (min (x.2.1 - y.1) (x.1 + y.2.1 - 2 * y.1) - (x.1 - y.1)).toNat y.2.2) q1)
    rwa [show ∀ a b c d : Int, a * (c - d) - (a - b) * c = b * c - a * d by intros; grind] at q3
theorem frac_wf {p : Int} {r : Nat} {a b N : Int} (hr : Rch p r) (hf : FrOk a b N) : Wf p r (fracS p r a b N) := by
  obtain ⟨f1, f2, f3, f4, f5, f6⟩ := hf
  have v1 := (vp_19 hr.1 ⟨f1, f2⟩).1
  have v2 := (vp_19 hr.1 (z := b) (by omega)).1
  unfold fracS
  by_cases hc : a = 0 ∨ N ≤ (vp p a : Int) - vp p b
  · rw [if_pos hc]; exact nothing_wf (by omega) f6
  · rw [if_neg hc]
    have : ¬ N ≤ (vp p a : Int) - vp p b := fun q => hc (Or.inr q)
    exact lay_wf hr (by omega) (by omega) (by omega)
theorem frac_rf {p : Int} {r : Nat} {a b N N' : Int} (hP : Pr p) (hr : Rch p r) (hf : FrOk a b N) (hf' : FrOk a b N') (hN : N' ≤ N) : Rf p (fracS p r a b N) (fracS p r a b N') := by
  have hrr := hr.2.2.2.2
  obtain ⟨f1, f2, f3, f4, f5, f6⟩ := hf
  obtain ⟨-, -, -, -, f5', f6'⟩ := hf'
  have v1 := (vp_19 hr.1 ⟨f1, f2⟩).1
  have v2 := (vp_19 hr.1 (z := b) (by omega)).1
  unfold fracS
  by_cases ha : a = 0
  · rw [if_pos (Or.inl ha), if_pos (Or.inl ha)]
    exact ⟨hN, Or.inl ⟨rfl, hN⟩⟩
  · by_cases h' : N' ≤ (vp p a : Int) - vp p b
    · rw [if_pos (Or.inr h' : a = 0 ∨ N' ≤ (vp p a : Int) - vp p b)]
      by_cases h : N ≤ (vp p a : Int) - vp p b
      · rw [if_pos (Or.inr h)]
        exact ⟨hN, Or.inl ⟨rfl, hN⟩⟩
      · rw [if_neg (fun q => q.elim ha h)]
        have n1 := lay_N (p := p) (r := r) (base := (vp p a : Int) - vp p b) (known := min N ((vp p a : Int) - vp p b + r)) (w := wo p a * iv p (min N ((vp p a : Int) - vp p b + r) - ((vp p a : Int) - vp p b)).toNat (wo p b)) hr (by omega)
        have m1 := lay_v (p := p) (r := r) (base := (vp p a : Int) - vp p b) (known := min N ((vp p a : Int) - vp p b + r)) (w := wo p a * iv p (min N ((vp p a : Int) - vp p b + r) - ((vp p a : Int) - vp p b)).toNat (wo p b)) hr (by omega)
        refine ⟨?_, Or.inl ⟨rfl, ?_⟩⟩
        · rw [n1]; show N' ≤ _; omega
        · show N' ≤ _; omega
    · rw [if_neg (fun q => q.elim ha (fun q => h' (by omega))), if_neg (fun q => q.elim ha h')]
      refine lay_rf hr (by omega) (by omega) (by omega) (by omega) (by omega) (by omega) ?_
      rw [← Int.mul_sub]
      exact Int.dvd_mul_of_dvd_right (iv_agree hP (wo_co hr.1 (by omega)) (wo_co hr.1 (by omega)) (by omega) (by omega) (by rw [Int.sub_self]; exact Int.dvd_zero _))
