theorem gd_tm {A : Nat → Nat → Int} {M k r c : Nat} (hM : M ≤ 16) (g : gd A M (k + 1) r c) : mn A r c = tm A k r c 0 + tm A k r c 1 + tm A k r c 2 + tm A k r c 3 ∧ ∀ j : Nat, j < 4 → tm A k r c j = 0 ∨ (bt c j = 1 ∧ r - 2 ^ lst r < M ∧ c - 2 ^ j < M ∧ pop (r - 2 ^ lst r) = k ∧ pop (c - 2 ^ j) = k ∧ lap A k (r - 2 ^ lst r) (c - 2 ^ j) = mn A (r - 2 ^ lst r) (c - 2 ^ j)) := by
  obtain ⟨g1, g2, g3, g4, g5⟩ := g
  have hr0 : r ≠ 0 := fun q => by rw [q, show pop 0 = 0 from rfl] at g3; omega
  obtain ⟨-, l1, l2, -, l4, l5⟩ := k_last r (by omega) hr0
  refine ⟨?_, fun j hj => ?_⟩
  · unfold mn
    rw [if_pos (by omega), g3]
    rfl
  · by_cases hb : bt c j = 1
    · obtain ⟨t1, t2⟩ := k_take c (by omega) j hj hb
      have cs := Nat.sub_le c (2 ^ j)
      refine Or.inr ⟨hb, by omega, by omega, by omega, by omega, ?_⟩
      unfold mn
      rw [if_pos (by omega), show pop (r - 2 ^ lst r) = k by omega]
    · exact Or.inl (if_neg hb)
theorem desc {A : Nat → Nat → Int} {M k r c : Nat} (hM : M ≤ 16) (g : gd A M (k + 1) r c) : ∃ r' c' : Nat, gd A M k r' c' := by
  obtain ⟨e, h⟩ := gd_tm hM g
  have nz := g.2.2.2.2
  have : ∃ j : Nat, j < 4 ∧ tm A k r c j ≠ 0 := by
    by_cases h0 : tm A k r c 0 = 0
    · by_cases h1 : tm A k r c 1 = 0
      · by_cases h2 : tm A k r c 2 = 0
        · exact ⟨3, by omega, fun q => nz (by rw [e, h0, h1, h2, q]; rfl)⟩
        · exact ⟨2, by omega, h2⟩
      · exact ⟨1, by omega, h1⟩
    · exact ⟨0, by omega, h0⟩
  obtain ⟨j, hj, hn⟩ := this
  rcases h j hj with q | ⟨b, h1, h2, h3, h4, h5⟩
  · exact absurd q hn
  · refine ⟨r - 2 ^ lst r, c - 2 ^ j, h1, h2, h3, h4, fun q => hn ?_⟩
    unfold tm
    rw [if_pos b, h5, q, Int.mul_zero, Int.mul_zero]
theorem desc_le {A : Nat → Nat → Int} {M k : Nat} (hM : M ≤ 16) : ∀ d : Nat, (∃ r c : Nat, gd A M (k + d) r c) → ∃ r c : Nat, gd A M k r c
  | 0, h => h
  | d + 1, ⟨r, c, g⟩ => desc_le hM d (desc hM (k := k + d) g)
theorem gd_dvd {A : Nat → Nat → Int} {p : Int} {M k r c v : Nat} (hp : 2 ≤ p) (hM : M ≤ 16) (g : gd A M (k + 1) r c) (h : ∀ r' c' : Nat, gd A M k r' c' → v ≤ vp p (mn A r' c')) : v ≤ vp p (mn A r c) := by
  obtain ⟨e, t⟩ := gd_tm hM g
  have d : ∀ j : Nat, j < 4 → p ^ v ∣ tm A k r c j := fun j hj => by
    rcases t j hj with q | ⟨b, h1, h2, h3, h4, h5⟩
    · rw [q]; exact Int.dvd_zero _
    · have : p ^ v ∣ mn A (r - 2 ^ lst r) (c - 2 ^ j) := by
        by_cases z : mn A (r - 2 ^ lst r) (c - 2 ^ j) = 0
        · rw [z]; exact Int.dvd_zero _
        · exact (vp_dvd hp z).mpr (h _ _ ⟨h1, h2, h3, h4, z⟩)
      unfold tm
      rw [if_pos b, h5]
      exact Int.dvd_mul_of_dvd_right (Int.dvd_mul_of_dvd_right this)
  refine (vp_dvd hp g.2.2.2.2).mp ?_
  rw [e]
  exact Int.dvd_add (Int.dvd_add (Int.dvd_add (d 0 (by omega)) (d 1 (by omega))) (d 2 (by omega))) (d 3 (by omega))
theorem ls_mono {A : Nat → Nat → Int} {p v w : Int} {M k : Nat} (hp : 2 ≤ p) (hM : M ≤ 16) (h : Ls A p M k 16 0 v) (g : Ls A p M (k + 1) 16 0 w) (hw : 0 ≤ w) : 0 ≤ v ∧ v ≤ w := by
  rcases g with ⟨g1, -⟩ | ⟨⟨r, c, g1, g2⟩, -⟩
  · omega
  · obtain ⟨r', c', d⟩ := desc hM g1
    rcases h with ⟨-, h2⟩ | ⟨⟨r0, c0, h1, h3⟩, h2⟩
    · exact absurd (Or.inl (by have := d.1; omega)) (h2 r' c' d)
    · have := gd_dvd (v := v.toNat) hp hM g1 (fun r' c' q => by
        have := h2 r' c' q (Or.inl (by have := q.1; omega))
        omega)
      omega
theorem ls_neg {A : Nat → Nat → Int} {p v : Int} {M k : Nat} (hM : M ≤ 16) (h : Ls A p M k 16 0 v) : v = -1 ↔ ¬ ∃ r c : Nat, gd A M k r c := by
  rcases h with ⟨h1, h2⟩ | ⟨⟨r0, c0, h1, h3⟩, h2⟩
  · refine ⟨fun _ q => ?_, fun _ => h1⟩
    obtain ⟨r, c, g⟩ := q
    exact h2 r c g (Or.inl (by have := g.1; omega))
  · exact ⟨fun q => by omega, fun q => absurd ⟨r0, c0, h1⟩ q⟩
/-! ranks -/
def Mx (A : Nat → Nat → Int) (M r c v : Nat) : Prop := (∃ r' c' : Nat, gd A M v r' c') ∧ ∀ k r' c' : Nat, gd A M k r' c' → (r' < r ∨ (r' = r ∧ c' < c)) → k ≤ v
theorem rkC_in {S : St} {A : Nat → Nat → Int} {sz M r w : Nat} {R : Option (Int32 × St)} {K : Int32 → Int32 → St → Option (Int32 × St)} (hA : AB A) (h2 : S.1 2 0 = ji sz) (hs : sz ≤ 4) (hM : M = 2 ^ sz) (hM16 : M ≤ 16) (hr : r < 16) (hm : ∀ r c : Nat, r < M → c < M → S.2 11 (16 * r + c) = jl (mn A r c))
    (hK : ∀ v : Nat, v ≤ 4 → Mx A M (r + 1) 0 v → K (ji v) (ji (r + 1 : Nat)) S = R) : ∀ (N c v : Nat), c ≤ 16 → v ≤ 4 → Mx A M r c v → 16 - c < N → itr (fun (q : Int32 × Int32 × Int32 × St) k => s_X1_fullRows_16 K (fun (x1 : Int32) (x2 : Int32) (x3 : Int32) (S : St) => k (x1, x2, x3, S)) q.1 q.2.1 q.2.2.1 q.2.2.2) N (ji v, ji r, ji c, S) = R
  | 0, _, _, _, _, _, h => absurd h (Nat.not_lt_zero _)
  | N + 1, c, v, hc, hv, hx, hN => by
    rw [itrS]
    have IH := rkC_in (w := w) hA h2 hs hM hM16 hr hm hK N (c + 1)
    generalize itr _ N = K1 at IH
    show s_X1_fullRows_16 K (fun (x1 : Int32) (x2 : Int32) (x3 : Int32) (S : St) => K1 (x1, x2, x3, S)) (ji v) (ji r) (ji c) S = R
    unfold s_X1_fullRows_16
    by_cases h : c = 16
    · subst h
      have := hK v hv ⟨hx.1, fun k r' c' g q => hx.2 k r' c' g (by have := g.2.1; omega)⟩
      simp (disch := omega) only [i0, i1, i2, i3, i4, i5, i6, i7, i8, i12, i16, i20, i30, i39, i40, i60, i64, i97, i100, i256, i1000, i10000, im1, im20, im60, l0, l1, l2, l3, l4, l5, l8, l10000, l1e9, lm10000, jl_add, jl_sub, jl_mul, jl_neg, ji_add, ji_sub, ji_mul, ji_neg, ji_l, jl_i, rL_n, rI_n, dL_n, dI_n, mnI_j, mxI_j, ji_nat, rest_j, part_n, whole_j, times_j, kc_0, kc_gt, kc_lt, kc_le, kc_ge, ji_lt, ji_le, ji_inj, jl_inj, jl_lt, jl_le, b1s, b2s, bEs, bEe, rIs, rIn, rIJ, rJs, rJn, rJI, ifp, ifn, if_true, if_false]
      exact this
    · have mi := minC (S := S) hr (show c < 16 by omega)
      have im := isMinC (S := S) (r := r) (c := c) h2 hs hM hM16 hr (by omega)
      obtain ⟨p1, p2⟩ := k_count r (by omega)
      have skip : (∀ k : Nat, ¬ gd A M k r c) → _ := fun g => IH v (by omega) hv ⟨hx.1, fun k r' c' q q2 => by
        by_cases e : r' = r ∧ c' = c
        · exact absurd (by rw [← e.1, ← e.2]; exact q) (g k)
        · exact hx.2 k r' c' q (by omega)⟩ (by omega)
      rw [show ((c + 1 : Nat) : Int) = (c : Int) + 1 by omega] at skip IH
      by_cases c1 : r < M ∧ c < M ∧ pop r = pop c
      · rw [if_pos c1] at im
        have mv := hm r c c1.1 c1.2.1
        have bd := mn_bd hA (r := r) (c := c) hr
        rw [mv] at mi
        by_cases c3 : mn A r c = 0
        · have next := skip (fun k q => q.2.2.2.2 c3)
          rw [c3] at mi
          clear hK skip IH hm
          simp (disch := omega) only [i0, i1, i2, i3, i4, i5, i6, i7, i8, i12, i16, i20, i30, i39, i40, i60, i64, i97, i100, i256, i1000, i10000, im1, im20, im60, l0, l1, l2, l3, l4, l5, l8, l10000, l1e9, lm10000, jl_add, jl_sub, jl_mul, jl_neg, ji_add, ji_sub, ji_mul, ji_neg, ji_l, jl_i, rL_n, rI_n, dL_n, dI_n, mnI_j, mxI_j, ji_nat, rest_j, part_n, whole_j, times_j, kc_0, kc_gt, kc_lt, kc_le, kc_ge, ji_lt, ji_le, ji_inj, jl_inj, jl_lt, jl_le, b1s, b2s, bEs, bEe, rIs, rIn, rIJ, rJs, rJn, rJI, ifp, ifn, if_true, if_false, mi, im]
          exact next
        · have g : gd A M (pop r) r c := ⟨c1.1, c1.2.1, rfl, by omega, c3⟩
          have next := IH (max v (pop r)) (by omega) (by omega) ⟨by
            by_cases e : pop r ≤ v
            · rw [show max v (pop r) = v by omega]; exact hx.1
            · rw [show max v (pop r) = pop r by omega]; exact ⟨r, c, g⟩, fun k r' c' q q2 => by
            by_cases e : r' = r ∧ c' = c
            · have := q.2.2.1
              rw [e.1] at this
              omega
            · have := hx.2 k r' c' q (by omega)
              omega⟩ (by omega)
          rw [show ((max v (pop r) : Nat) : Int) = max (v : Int) (pop r : Nat) by omega] at next
          clear hK skip IH hm
          simp (disch := omega) only [i0, i1, i2, i3, i4, i5, i6, i7, i8, i12, i16, i20, i30, i39, i40, i60, i64, i97, i100, i256, i1000, i10000, im1, im20, im60, l0, l1, l2, l3, l4, l5, l8, l10000, l1e9, lm10000, jl_add, jl_sub, jl_mul, jl_neg, ji_add, ji_sub, ji_mul, ji_neg, ji_l, jl_i, rL_n, rI_n, dL_n, dI_n, mnI_j, mxI_j, ji_nat, rest_j, part_n, whole_j, times_j, kc_0, kc_gt, kc_lt, kc_le, kc_ge, ji_lt, ji_le, ji_inj, jl_inj, jl_lt, jl_le, b1s, b2s, bEs, bEe, rIs, rIn, rIJ, rJs, rJn, rJI, ifp, ifn, if_true, if_false, mi, im, p1]
          exact next
      · rw [if_neg c1] at im
        have next := skip (fun k q => c1 ⟨q.1, q.2.1, by rw [q.2.2.1, q.2.2.2.1]⟩)
        clear hK skip IH hm
        simp (disch := omega) only [i0, i1, i2, i3, i4, i5, i6, i7, i8, i12, i16, i20, i30, i39, i40, i60, i64, i97, i100, i256, i1000, i10000, im1, im20, im60, l0, l1, l2, l3, l4, l5, l8, l10000, l1e9, lm10000, jl_add, jl_sub, jl_mul, jl_neg, ji_add, ji_sub, ji_mul, ji_neg, ji_l, jl_i, rL_n, rI_n, dL_n, dI_n, mnI_j, mxI_j, ji_nat, rest_j, part_n, whole_j, times_j, kc_0, kc_gt, kc_lt, kc_le, kc_ge, ji_lt, ji_le, ji_inj, jl_inj, jl_lt, jl_le, b1s, b2s, bEs, bEe, rIs, rIn, rIJ, rJs, rJn, rJI, ifp, ifn, if_true, if_false, im]
        exact next
theorem rkC_out {S : St} {A : Nat → Nat → Int} {sz M w : Nat} (hA : AB A) (h2 : S.1 2 0 = ji sz) (hs : sz ≤ 4) (hM : M = 2 ^ sz) (hM16 : M ≤ 16) (hm : ∀ r c : Nat, r < M → c < M → S.2 11 (16 * r + c) = jl (mn A r c)) (hw : Mx A M 16 0 w) : ∀ (N r v : Nat), r ≤ 16 → v ≤ 4 → Mx A M r 0 v → 16 - r < N → itr (fun (q : Int32 × Int32 × St) k => s_X1_fullRows_8 (fun (x1 : Int32) (x2 : Int32) (S : St) => k (x1, x2, S)) q.1 q.2.1 q.2.2) N (ji v, ji r, S) = some (ji w, S)
  | 0, _, _, _, _, _, h => absurd h (Nat.not_lt_zero _)
  | N + 1, r, v, hr, hv, hx, hN => by
    rw [itrS]
    have IH := rkC_out hA h2 hs hM hM16 hm hw N (r + 1)
    generalize itr _ N = K1 at IH
    show s_X1_fullRows_8 (fun (x1 : Int32) (x2 : Int32) (S : St) => K1 (x1, x2, S)) (ji v) (ji r) S = some (ji w, S)
    unfold s_X1_fullRows_8
    by_cases h : r = 16
    · subst h
      obtain ⟨r1, c1, g1⟩ := hx.1
      obtain ⟨r2, c2, g2⟩ := hw.1
      have a1 := hx.2 w r2 c2 g2 (Or.inl (by have := g2.1; omega))
      have a2 := hw.2 v r1 c1 g1 (Or.inl (by have := g1.1; omega))
      rw [show v = w by omega]
      simp (disch := omega) only [i0, i1, i2, i3, i4, i5, i6, i7, i8, i12, i16, i20, i30, i39, i40, i60, i64, i97, i100, i256, i1000, i10000, im1, im20, im60, l0, l1, l2, l3, l4, l5, l8, l10000, l1e9, lm10000, jl_add, jl_sub, jl_mul, jl_neg, ji_add, ji_sub, ji_mul, ji_neg, ji_l, jl_i, rL_n, rI_n, dL_n, dI_n, mnI_j, mxI_j, ji_nat, rest_j, part_n, whole_j, times_j, kc_0, kc_gt, kc_lt, kc_le, kc_ge, ji_lt, ji_le, ji_inj, jl_inj, jl_lt, jl_le, b1s, b2s, bEs, bEe, rIs, rIn, rIJ, rJs, rJn, rJI, ifp, ifn, if_true, if_false]
    · have inn := rkC_in (r := r) (w := w) (R := some (ji w, S)) (K := fun (x1 : Int32) (x2 : Int32) (S : St) => K1 (x1, x2, S)) hA h2 hs hM hM16 (by omega) hm (fun v' hv' hx' => IH v' (by omega) hv' hx' (by omega)) FU 0 v (by omega) hv hx (FU_lt (by omega))
      clear IH hm
      simp (disch := omega) only [i0, i1, i2, i3, i4, i5, i6, i7, i8, i12, i16, i20, i30, i39, i40, i60, i64, i97, i100, i256, i1000, i10000, im1, im20, im60, l0, l1, l2, l3, l4, l5, l8, l10000, l1e9, lm10000, jl_add, jl_sub, jl_mul, jl_neg, ji_add, ji_sub, ji_mul, ji_neg, ji_l, jl_i, rL_n, rI_n, dL_n, dI_n, mnI_j, mxI_j, ji_nat, rest_j, part_n, whole_j, times_j, kc_0, kc_gt, kc_lt, kc_le, kc_ge, ji_lt, ji_le, ji_inj, jl_inj, jl_lt, jl_le, b1s, b2s, bEs, bEe, rIs, rIn, rIJ, rJs, rJn, rJI, ifp, ifn, if_true, if_false]
      exact inn
theorem gd_0 {A : Nat → Nat → Int} {M : Nat} (hM : 1 ≤ M) : gd A M 0 0 0 := ⟨by omega, by omega, rfl, rfl, by rw [show mn A 0 0 = 1 from rfl]; omega⟩
theorem k_popsz : ∀ s, s ≤ 4 → (∀ r, r < 16 → r < 2 ^ s → pop r ≤ s) ∧ pop (2 ^ s - 1) = s ∧ (∀ r, r < 16 → r < 2 ^ s → pop r = s → r = 2 ^ s - 1) := by decide +kernel
theorem Mx.ex {A : Nat → Nat → Int} {M sz : Nat} (hM : M = 2 ^ sz) (hs : sz ≤ 4) (hM16 : 1 ≤ M ∧ M ≤ 16) : ∃ w : Nat, Mx A M 16 0 w ∧ w ≤ sz := by
  have key : ∀ n : Nat, n ≤ sz → (∀ k r c : Nat, gd A M k r c → k ≤ n) → ∃ w : Nat, Mx A M 16 0 w ∧ w ≤ sz := fun n => by
    induction n with
    | zero => exact fun _ h => ⟨0, ⟨⟨0, 0, gd_0 hM16.1⟩, fun k r c g _ => h k r c g⟩, by omega⟩
    | succ n ih =>
      intro hn h
      by_cases e : ∃ r c : Nat, gd A M (n + 1) r c
      · exact ⟨n + 1, ⟨e, fun k r c g _ => h k r c g⟩, hn⟩
      · exact ih (by omega) (fun k r c g => by
          have := h k r c g
          by_cases q : k = n + 1
          · subst q; exact absurd ⟨r, c, g⟩ e
          · omega)
  refine key sz (Nat.le_refl _) (fun k r c g => ?_)
  have := (k_popsz sz hs).1 r (by have := g.1; omega) (by rw [← hM]; exact g.1)
  rw [← g.2.2.1]
  exact this
theorem rkC {S : St} {A : Nat → Nat → Int} {sz M w : Nat} (hA : AB A) (hE : EnC S A) (h2 : S.1 2 0 = ji sz) (hs : sz ≤ 4) (hM : M = 2 ^ sz) (hM16 : 1 ≤ M ∧ M ≤ 16) (hw : Mx A M 16 0 w) : ∃ S' : St, f_X1_fullRows S = some (ji w, S') ∧ FrM S S' := by
  obtain ⟨S', s1, s2, s3⟩ := fillC hE h2 hs
  rw [← hM] at s3
  have := rkC_out (S := S') hA (by rw [s2.1]; exact h2) hs hM hM16.2 s3 hw FU 0 0 (by omega) (by omega) ⟨⟨0, 0, gd_0 hM16.1⟩, fun k r c g q => by omega⟩ (FU_lt (by omega))
  refine ⟨S', ?_, s2⟩
  unfold f_X1_fullRows
  rw [s1, b1s]
  exact this
theorem rkM_loop {T : St} {A : Nat → Nat → Int} {p : Int} {sz M w : Nat} (h18 : T.1 0 18 = ji p) (hp : 2 ≤ p ∧ p ≤ 97) (hA : AB A) (hE : EnM T A) (h22 : T.1 0 22 = ji sz) (hs : 1 ≤ sz ∧ sz ≤ 4) (hM : M = 2 ^ sz) (hM16 : 2 ≤ M ∧ M ≤ 16) (hw : Mx A M 16 0 w) (hws : w ≤ sz) : ∀ (N k : Nat), k ≤ w → w - k < N → itr (fun (q : Int32) k => s_X10_rankOf_2 (fun (x1 : Int32) => k (x1)) T q) N (ji k) = some (ji w)
  | 0, _, _, h => absurd h (Nat.not_lt_zero _)
  | N + 1, k, hk, hN => by
    rw [itrS]
    have IH := rkM_loop h18 hp hA hE h22 hs hM hM16 hw hws N (k + 1)
    generalize itr _ N = K1 at IH
    show s_X10_rankOf_2 (fun (x1 : Int32) => K1 (x1)) T (ji k) = some (ji w)
    unfold s_X10_rankOf_2
    by_cases h : k = w
    · subst h
      by_cases h3 : sz = k
      · subst h3
        simp (disch := omega) only [i0, i1, i2, i3, i4, i5, i6, i7, i8, i12, i16, i20, i30, i39, i40, i60, i64, i97, i100, i256, i1000, i10000, im1, im20, im60, l0, l1, l2, l3, l4, l5, l8, l10000, l1e9, lm10000, jl_add, jl_sub, jl_mul, jl_neg, ji_add, ji_sub, ji_mul, ji_neg, ji_l, jl_i, rL_n, rI_n, dL_n, dI_n, mnI_j, mxI_j, ji_nat, rest_j, part_n, whole_j, times_j, kc_0, kc_gt, kc_lt, kc_le, kc_ge, ji_lt, ji_le, ji_inj, jl_inj, jl_lt, jl_le, b1s, b2s, bEs, bEe, rIs, rIn, rIJ, rJs, rJn, rJI, ifp, ifn, if_true, if_false, h22]
      · obtain ⟨v, hv⟩ := Ls.ex (A := A) (p := p) (k := k + 1) hM16.2 16
        have := (ls_neg hM16.2 hv).mpr (fun ⟨r, c, g⟩ => by
          have := hw.2 (k + 1) r c g (Or.inl (by have := g.1; omega))
          omega)
        subst this
        have e := leM h18 hp hA hE h22 hs hM hM16 (show k + 1 ≤ 5 by omega) hv
        rw [show ((k + 1 : Nat) : Int) = (k : Int) + 1 by omega] at e
        clear hE hw IH
        simp (disch := omega) only [i0, i1, i2, i3, i4, i5, i6, i7, i8, i12, i16, i20, i30, i39, i40, i60, i64, i97, i100, i256, i1000, i10000, im1, im20, im60, l0, l1, l2, l3, l4, l5, l8, l10000, l1e9, lm10000, jl_add, jl_sub, jl_mul, jl_neg, ji_add, ji_sub, ji_mul, ji_neg, ji_l, jl_i, rL_n, rI_n, dL_n, dI_n, mnI_j, mxI_j, ji_nat, rest_j, part_n, whole_j, times_j, kc_0, kc_gt, kc_lt, kc_le, kc_ge, ji_lt, ji_le, ji_inj, jl_inj, jl_lt, jl_le, b1s, b2s, bEs, bEe, rIs, rIn, rIJ, rJs, rJn, rJI, ifp, ifn, if_true, if_false, h22, e]
    · obtain ⟨v, hv⟩ := Ls.ex (A := A) (p := p) (k := k + 1) hM16.2 16
      have g : ∃ r c : Nat, gd A M (k + 1) r c := desc_le hM16.2 (w - (k + 1)) (by rw [show k + 1 + (w - (k + 1)) = w by omega]; exact hw.1)
      have vr := hv.rng hp.1 hA hM16.2
      have vn : v ≠ -1 := fun q => (ls_neg hM16.2 hv).mp q g
      have e := leM h18 hp hA hE h22 hs hM hM16 (show k + 1 ≤ 5 by omega) hv
      have next := IH (by omega) (by omega)
      rw [show ((k + 1 : Nat) : Int) = (k : Int) + 1 by omega] at e next
      clear hE hw IH
      simp (disch := omega) only [i0, i1, i2, i3, i4, i5, i6, i7, i8, i12, i16, i20, i30, i39, i40, i60, i64, i97, i100, i256, i1000, i10000, im1, im20, im60, l0, l1, l2, l3, l4, l5, l8, l10000, l1e9, lm10000, jl_add, jl_sub, jl_mul, jl_neg, ji_add, ji_sub, ji_mul, ji_neg, ji_l, jl_i, rL_n, rI_n, dL_n, dI_n, mnI_j, mxI_j, ji_nat, rest_j, part_n, whole_j, times_j, kc_0, kc_gt, kc_lt, kc_le, kc_ge, ji_lt, ji_le, ji_inj, jl_inj, jl_lt, jl_le, b1s, b2s, bEs, bEe, rIs, rIn, rIJ, rJs, rJn, rJI, ifp, ifn, if_true, if_false, h22, e]
      exact next
theorem rkM {T : St} {A : Nat → Nat → Int} {p : Int} {sz M w : Nat} (h18 : T.1 0 18 = ji p) (hp : 2 ≤ p ∧ p ≤ 97) (hA : AB A) (hE : EnM T A) (h22 : T.1 0 22 = ji sz) (hs : 1 ≤ sz ∧ sz ≤ 4) (hM : M = 2 ^ sz) (hM16 : 2 ≤ M ∧ M ≤ 16) (hw : Mx A M 16 0 w) (hws : w ≤ sz) : f_X10_rankOf T = some (ji w) :=
  rkM_loop h18 hp hA hE h22 hs hM hM16 hw hws FU 0 (Nat.zero_le _) (FU_lt (by omega))
/-- the matrix of both -/
def mA (en : Nat → Int) (i j : Nat) : Int := if i < 4 ∧ j < 4 then en (4 * i + j) else 0
theorem rx_mat {S T : St} {sz : Nat} {en : Nat → Int} (h : RX S T sz en) : EnC S (mA en) ∧ EnM T (mA en) ∧ AB (mA en) ∧ 1 ≤ sz ∧ sz ≤ 4 ∧ 2 ≤ 2 ^ sz ∧ 2 ^ sz ≤ 16 := by
  obtain ⟨h1, h2, h3, h4, h5⟩ := h
  have e : ∀ i j : Nat, i < 4 → j < 4 → mA en i j = en (4 * i + j) := fun i j hi hj => if_pos ⟨hi, hj⟩
  refine ⟨fun i j hi hj => ?_, fun i j hi hj => ?_, fun i j => ?_, h3, h4, ?_⟩
  · rw [e i j hi hj]
    obtain ⟨a, b, d⟩ := h5 (4 * i + j) (by omega)
    exact ⟨a, d⟩
  · rw [e i j hi hj]
    obtain ⟨a, b, d⟩ := h5 (4 * i + j) (by omega)
    exact ⟨b, d⟩
  · by_cases q : i < 4 ∧ j < 4
    · rw [e i j q.1 q.2]
      obtain ⟨a, b, d⟩ := h5 (4 * i + j) (by omega)
      omega
    · unfold mA
      rw [if_neg q]
      decide
  · rcases show sz = 1 ∨ sz = 2 ∨ sz = 3 ∨ sz = 4 by omega with q | q | q | q <;> subst q <;> decide
theorem wholeMC {S : St} {A : Nat → Nat → Int} {sz : Nat} (hE : EnC S A) (h2 : S.1 2 0 = ji sz) (hs : sz ≤ 4) (h16 : 1 ≤ 2 ^ sz ∧ 2 ^ sz ≤ 16) : ∃ S' : St, f_X1_wholeMinor S = some (jl (mn A (2 ^ sz - 1) (2 ^ sz - 1)), S') ∧ FrM S S' := by
  obtain ⟨S', s1, s2, s3⟩ := fillC hE h2 hs
  refine ⟨S', ?_, s2⟩
  have mi := minC (S := S') (r := 2 ^ sz - 1) (c := 2 ^ sz - 1) (by omega) (by omega)
  rw [s3 _ _ (by omega) (by omega)] at mi
  have m1 : ji ((2 ^ sz : Nat) : Int) - 1 = ji ((2 ^ sz - 1 : Nat) : Int) := by
    rw [i1, ji_sub]
    congr 1
    omega
  unfold f_X1_wholeMinor
  rw [s1, b1s, s2.1, h2, k_shl sz hs, m1, mi, b1s]
theorem T_determinant {S T : St} (h : Rel S T) : ∃ (S' : St) (v : Int64), f_X9_determinant S = some (v, S') ∧ f_X10_determinant T = some v ∧ Rel S' T := by
  have hh := h
  obtain ⟨p, r, cnt, num, early, D, C, bc, cn, pc, rowc, rv, sz, en, h1, h2, h3, h4⟩ := hh
  obtain ⟨e1, e2, e3, s1, s2, s3, s4⟩ := rx_mat h4
  obtain ⟨S', w1, w2⟩ := wholeMC (S := S) e1 h4.1 s2 ⟨by omega, s4⟩
  have ps := (k_popsz sz s2).2.1
  have m := minM (T := T) e2 (r := 2 ^ sz - 1) (c := 2 ^ sz - 1) (by omega) (by omega) rfl (by omega)
  have m1 : ji ((2 ^ sz : Nat) : Int) - 1 = ji ((2 ^ sz - 1 : Nat) : Int) := by
    rw [i1, ji_sub]
    congr 1
    omega
  refine ⟨S', jl (mn (mA en) (2 ^ sz - 1) (2 ^ sz - 1)), ?_, ?_, rel_fr h w2.fr (FrT.refl T)⟩
  · unfold f_X9_determinant
    rw [w1, b2s]
  · unfold f_X10_determinant
    rw [h4.2.1, k_shl sz s2, m1, m, b1s]
theorem T_rank {S T : St} (h : Rel S T) : ∃ (S' : St) (v : Int32), f_X9_rank S = some (v, S') ∧ f_X10_rank T = some v ∧ Rel S' T := by
  have hh := h
  obtain ⟨p, r, cnt, num, early, D, C, bc, cn, pc, rowc, rv, sz, en, h1, h2, h3, h4⟩ := hh
  obtain ⟨e1, e2, e3, s1, s2, s3, s4⟩ := rx_mat h4
  obtain ⟨w, w1, w2⟩ := Mx.ex (A := mA en) (M := 2 ^ sz) rfl s2 ⟨by omega, s4⟩
  obtain ⟨S', r1, r2⟩ := rkC (S := S) e3 e1 h4.1 s2 rfl ⟨by omega, s4⟩ w1
  have m := rkM h1.2.2.2.1 ⟨h1.2.1.1, h1.2.1.2.1⟩ e3 e2 h4.2.1 ⟨s1, s2⟩ rfl ⟨s3, s4⟩ w1 w2
  refine ⟨S', ji w, ?_, ?_, rel_fr h r2.fr (FrT.refl T)⟩
  · unfold f_X9_rank
    rw [r1, b2s]
  · unfold f_X10_rank
    rw [m, b1s]
theorem exC {S : St} {A : Nat → Nat → Int} {p v v' : Int} {sz k : Nat} (hp : 2 ≤ p ∧ p ≤ 97) (hA : AB A) (hE : EnC S A) (h2 : S.1 2 0 = ji sz) (hs : sz ≤ 4) (h16 : 2 ^ sz ≤ 16) (hk : k ≤ 4) (hv : Ls A p (2 ^ sz) k 16 0 v) (hv' : Ls A p (2 ^ sz) (k + 1) 16 0 v') : ∃ S' : St, f_X1_exponentAt (ji k) (ji p) S = some (ji (v' - v), S') ∧ FrM S S' := by
  obtain ⟨S', s1, s2, s3⟩ := fillC hE h2 hs
  refine ⟨S', ?_, s2⟩
  have l1 := leC (S := S') (k := k) hp hA (by rw [s2.1]; exact h2) hs rfl h16 (by omega) s3 hv
  have l2 := leC (S := S') (k := k + 1) hp hA (by rw [s2.1]; exact h2) hs rfl h16 (by omega) s3 hv'
  unfold f_X1_exponentAt
  rw [s1, b1s, i1, ji_add, show (k : Int) + 1 = ((k + 1 : Nat) : Int) by omega, l2, b1s, l1, b1s, ji_sub]
theorem T_shape {S T : St} (h : Rel S T) (a : Int32) : An [(6, 1)] (f_X9_shape a S) (f_X10_shape a T) := by
  obtain ⟨a, rfl, ha⟩ := ji_ex a
  have hh := h
  obtain ⟨p, r, cnt, num, early, D, C, bc, cn, pc, rowc, rv, sz, en, h1, h2, h3, h4⟩ := hh
  have hp : 2 ≤ p ∧ p ≤ 97 := ⟨h1.2.1.1, h1.2.1.2.1⟩
  have hN1 := h1.2.2.1.1
  have h18 := h1.2.2.2.1
  obtain ⟨e1, e2, e3, s1, s2, s3, s4⟩ := rx_mat h4
  obtain ⟨w, w1, w2⟩ := Mx.ex (A := mA en) (M := 2 ^ sz) rfl s2 ⟨by omega, s4⟩
  obtain ⟨S', r1, r2⟩ := rkC (S := S) e3 e1 h4.1 s2 rfl ⟨by omega, s4⟩ w1
  have m := rkM h18 hp e3 e2 h4.2.1 ⟨s1, s2⟩ rfl ⟨s3, s4⟩ w1 w2
  have h3' : S'.1 3 0 = ji p := by rw [r2.1]; exact hN1
  unfold f_X9_shape f_X10_shape
  by_cases hz : 0 ≤ a ∧ a < w
  · obtain ⟨v, hv⟩ := Ls.ex (A := mA en) (p := p) (k := a.toNat) s4 16
    obtain ⟨v', hv'⟩ := Ls.ex (A := mA en) (p := p) (k := a.toNat + 1) s4 16
    obtain ⟨S2, x1, x2⟩ := exC (S := S') (k := a.toNat) hp e3 (e1.fr r2) (by rw [r2.1]; exact h4.1) s2 s4 (by omega) hv hv'
    have t22 : (th T 0).1 0 22 = ji sz := (th_n (by omega)).trans h4.2.1
    have t18 : (th T 0).1 0 18 = ji p := (th_n (by omega)).trans h18
    have eM : EnM (th T 0) (mA en) := fun i j hi hj => by rw [th_n (by omega)]; exact e2 i j hi hj
    have l1 := leM t18 hp e3 eM t22 ⟨s1, s2⟩ rfl ⟨s3, s4⟩ (show a.toNat ≤ 5 by omega) hv
    have l2 := leM t18 hp e3 eM t22 ⟨s1, s2⟩ rfl ⟨s3, s4⟩ (show a.toNat + 1 ≤ 5 by omega) hv'
    rw [show ((a.toNat : Nat) : Int) = a by omega] at l1 x1
    rw [show ((a.toNat + 1 : Nat) : Int) = a + 1 by omega] at l2
    have f := r2.fr.trans x2.fr
    clear e1 e2 eM hv hv' w1 h1 h2 h3
    simp (disch := omega) only [i0, i1, i2, i3, i4, i5, i6, i7, i8, i12, i16, i20, i30, i39, i40, i60, i64, i97, i100, i256, i1000, i10000, im1, im20, im60, l0, l1, l2, l3, l4, l5, l8, l10000, l1e9, lm10000, jl_add, jl_sub, jl_mul, jl_neg, ji_add, ji_sub, ji_mul, ji_neg, ji_l, jl_i, rL_n, rI_n, dL_n, dI_n, mnI_j, mxI_j, ji_nat, rest_j, part_n, whole_j, times_j, kc_0, kc_gt, kc_lt, kc_le, kc_ge, ji_lt, ji_le, ji_inj, jl_inj, jl_lt, jl_le, b1s, b2s, bEs, bEe, rIs, rIn, rIJ, rJs, rJn, rJI, ifp, ifn, if_true, if_false, r1, h3', x1, m, isIn_y, noY, l1, l2]
    exact ⟨S2, th T 0, _, rfl, rel_fr h f th_fr, Or.inl ⟨rfl, th_17⟩⟩
  · clear e1 e2 w1 h1 h2 h3
    by_cases h0 : a < 0
    · simp (disch := omega) only [i0, i1, i2, i3, i4, i5, i6, i7, i8, i12, i16, i20, i30, i39, i40, i60, i64, i97, i100, i256, i1000, i10000, im1, im20, im60, l0, l1, l2, l3, l4, l5, l8, l10000, l1e9, lm10000, jl_add, jl_sub, jl_mul, jl_neg, ji_add, ji_sub, ji_mul, ji_neg, ji_l, jl_i, rL_n, rI_n, dL_n, dI_n, mnI_j, mxI_j, ji_nat, rest_j, part_n, whole_j, times_j, kc_0, kc_gt, kc_lt, kc_le, kc_ge, ji_lt, ji_le, ji_inj, jl_inj, jl_lt, jl_le, b1s, b2s, bEs, bEe, rIs, rIn, rIJ, rJs, rJn, rJI, ifp, ifn, if_true, if_false, m, isIn_n, noN1]
      exact ⟨S, th T 1, _, rfl, rel_fr h (FrS.refl S) th_fr, Or.inr ⟨(6, 1), by simp, rfl, th_17⟩⟩
    · simp (disch := omega) only [i0, i1, i2, i3, i4, i5, i6, i7, i8, i12, i16, i20, i30, i39, i40, i60, i64, i97, i100, i256, i1000, i10000, im1, im20, im60, l0, l1, l2, l3, l4, l5, l8, l10000, l1e9, lm10000, jl_add, jl_sub, jl_mul, jl_neg, ji_add, ji_sub, ji_mul, ji_neg, ji_l, jl_i, rL_n, rI_n, dL_n, dI_n, mnI_j, mxI_j, ji_nat, rest_j, part_n, whole_j, times_j, kc_0, kc_gt, kc_lt, kc_le, kc_ge, ji_lt, ji_le, ji_inj, jl_inj, jl_lt, jl_le, b1s, b2s, bEs, bEe, rIs, rIn, rIJ, rJs, rJn, rJI, ifp, ifn, if_true, if_false, r1, m, isIn_n, noN1]
      exact ⟨S', th T 1, _, rfl, rel_fr h r2.fr th_fr, Or.inr ⟨(6, 1), by simp, rfl, th_17⟩⟩
