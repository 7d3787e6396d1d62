/-! the lowest number that is like one -/
theorem like_loop {S T : St} {cnt : Nat} {num : Nat → Int × Int × Int} {p : Int} {r : Nat} {a : Int} (hr : Rch p r) (hc : cnt ≤ 40) (ha : 0 ≤ a ∧ a < cnt) (hn : ∀ n : Nat, n < cnt → NumC S n (num n) ∧ NumM T n (num n) ∧ Wf p r (num n)) :
    ∀ (N k : Nat), (k : Int) ≤ a → (a - k).toNat < N → ∃ v : Int, itr (fun (q : Int32 × Nat × Int32) k => s_X5_lowestLike_8 (fun (x1 : Int32) (x2 : Nat) (x3 : Int32) => k (x1, x2, x3)) S q.1 q.2.1 q.2.2) N (ji a, a.toNat, ji k) = some (ji v) ∧
      itr (fun (q : Int32 × Int32 × St) k => s_X10_like_12 (fun (x1 : Int32) (x2 : Int32) (S : St) => k (x1, x2, S)) q.1 q.2.1 q.2.2) N (ji a, ji k, T) = some (ji v, T)
  | 0, _, _, h => absurd h (Nat.not_lt_zero _)
  | N + 1, k, hk, hN => by
    rw [itrS, itrS]
    have IH := like_loop hr hc ha hn N (k + 1)
    generalize itr (fun (q : Int32 × Nat × Int32) k => s_X5_lowestLike_8 (fun (x1 : Int32) (x2 : Nat) (x3 : Int32) => k (x1, x2, x3)) S q.1 q.2.1 q.2.2) N = K1 at IH
    generalize itr (fun (q : Int32 × Int32 × St) k => s_X10_like_12 (fun (x1 : Int32) (x2 : Int32) (S : St) => k (x1, x2, S)) q.1 q.2.1 q.2.2) N = K2 at IH
    show ∃ v : Int, s_X5_lowestLike_8 (fun (x1 : Int32) (x2 : Nat) (x3 : Int32) => K1 (x1, x2, x3)) S (ji a) a.toNat (ji k) = some (ji v) ∧ s_X10_like_12 (fun (x1 : Int32) (x2 : Int32) (S : St) => K2 (x1, x2, S)) (ji a) (ji k) T = some (ji v, T)
    obtain ⟨⟨x1, x2, x3⟩, ⟨y1, y2, y3⟩, wx⟩ := hn a.toNat (by omega)
    obtain ⟨⟨u1, u2, u3⟩, ⟨v1, v2, v3⟩, wu⟩ := hn k (by omega)
    have ux := wx.u9 hr
    have uu := wu.u9 hr
    obtain ⟨a1, a2, a3, -⟩ := wx
    obtain ⟨b1', b2', b3', -⟩ := wu
    unfold s_X5_lowestLike_8 s_X10_like_12 f_X3_isLike
    by_cases hka : (k : Int) = a
    · have : k = a.toNat := by omega
      subst this
      refine ⟨a, ?_, ?_⟩
      · simp (disch := omega) only [i0, i1, i2, i3, i4, i5, i6, i7, i8, i12, i16, i20, i30, i39, i40, i60, i64, i97, i100, i256, i1000, i10000, im1, im20, im60, l0, l1, l2, l3, l4, l5, l8, l10000, l1e9, lm10000, jl_add, jl_sub, jl_mul, jl_neg, ji_add, ji_sub, ji_mul, ji_neg, ji_l, jl_i, rL_n, rI_n, dL_n, dI_n, mnI_j, mxI_j, ji_nat, rest_j, part_n, whole_j, times_j, kc_0, kc_gt, kc_lt, kc_le, kc_ge, ji_lt, ji_le, ji_inj, jl_inj, jl_lt, jl_le, b1s, b2s, bEs, bEe, rIs, rIn, rIJ, rJs, rJn, rJI, ifp, ifn, if_true, if_false]
      · simp (disch := omega) only [i0, i1, i2, i3, i4, i5, i6, i7, i8, i12, i16, i20, i30, i39, i40, i60, i64, i97, i100, i256, i1000, i10000, im1, im20, im60, l0, l1, l2, l3, l4, l5, l8, l10000, l1e9, lm10000, jl_add, jl_sub, jl_mul, jl_neg, ji_add, ji_sub, ji_mul, ji_neg, ji_l, jl_i, rL_n, rI_n, dL_n, dI_n, mnI_j, mxI_j, ji_nat, rest_j, part_n, whole_j, times_j, kc_0, kc_gt, kc_lt, kc_le, kc_ge, ji_lt, ji_le, ji_inj, jl_inj, jl_lt, jl_le, b1s, b2s, bEs, bEe, rIs, rIn, rIJ, rJs, rJn, rJI, ifp, ifn, if_true, if_false, Int.toNat_natCast, y1, y2, y3]
        rw [hka]
    · have next := IH (by omega) (by omega)
      rw [show ((k + 1 : Nat) : Int) = (k : Int) + 1 by omega] at next
      by_cases e1 : (num k).1 = (num a.toNat).1
      · by_cases e2 : (num k).2.1 = (num a.toNat).2.1
        · by_cases e3 : (num k).2.2 = (num a.toNat).2.2
          · refine ⟨k, ?_, ?_⟩
            · simp (disch := omega) only [i0, i1, i2, i3, i4, i5, i6, i7, i8, i12, i16, i20, i30, i39, i40, i60, i64, i97, i100, i256, i1000, i10000, im1, im20, im60, l0, l1, l2, l3, l4, l5, l8, l10000, l1e9, lm10000, jl_add, jl_sub, jl_mul, jl_neg, ji_add, ji_sub, ji_mul, ji_neg, ji_l, jl_i, rL_n, rI_n, dL_n, dI_n, mnI_j, mxI_j, ji_nat, rest_j, part_n, whole_j, times_j, kc_0, kc_gt, kc_lt, kc_le, kc_ge, ji_lt, ji_le, ji_inj, jl_inj, jl_lt, jl_le, b1s, b2s, bEs, bEe, rIs, rIn, rIJ, rJs, rJn, rJI, ifp, ifn, if_true, if_false, Int.toNat_natCast, x1, x2, x3, u1, u2, u3]
            · simp (disch := omega) only [i0, i1, i2, i3, i4, i5, i6, i7, i8, i12, i16, i20, i30, i39, i40, i60, i64, i97, i100, i256, i1000, i10000, im1, im20, im60, l0, l1, l2, l3, l4, l5, l8, l10000, l1e9, lm10000, jl_add, jl_sub, jl_mul, jl_neg, ji_add, ji_sub, ji_mul, ji_neg, ji_l, jl_i, rL_n, rI_n, dL_n, dI_n, mnI_j, mxI_j, ji_nat, rest_j, part_n, whole_j, times_j, kc_0, kc_gt, kc_lt, kc_le, kc_ge, ji_lt, ji_le, ji_inj, jl_inj, jl_lt, jl_le, b1s, b2s, bEs, bEe, rIs, rIn, rIJ, rJs, rJn, rJI, ifp, ifn, if_true, if_false, Int.toNat_natCast, y1, y2, y3, v1, v2, v3]
          · obtain ⟨v, n1, n2⟩ := next
            refine ⟨v, ?_, ?_⟩
            · simp (disch := omega) only [i0, i1, i2, i3, i4, i5, i6, i7, i8, i12, i16, i20, i30, i39, i40, i60, i64, i97, i100, i256, i1000, i10000, im1, im20, im60, l0, l1, l2, l3, l4, l5, l8, l10000, l1e9, lm10000, jl_add, jl_sub, jl_mul, jl_neg, ji_add, ji_sub, ji_mul, ji_neg, ji_l, jl_i, rL_n, rI_n, dL_n, dI_n, mnI_j, mxI_j, ji_nat, rest_j, part_n, whole_j, times_j, kc_0, kc_gt, kc_lt, kc_le, kc_ge, ji_lt, ji_le, ji_inj, jl_inj, jl_lt, jl_le, b1s, b2s, bEs, bEe, rIs, rIn, rIJ, rJs, rJn, rJI, ifp, ifn, if_true, if_false, Int.toNat_natCast, x1, x2, x3, u1, u2, u3]
              exact n1
            · simp (disch := omega) only [i0, i1, i2, i3, i4, i5, i6, i7, i8, i12, i16, i20, i30, i39, i40, i60, i64, i97, i100, i256, i1000, i10000, im1, im20, im60, l0, l1, l2, l3, l4, l5, l8, l10000, l1e9, lm10000, jl_add, jl_sub, jl_mul, jl_neg, ji_add, ji_sub, ji_mul, ji_neg, ji_l, jl_i, rL_n, rI_n, dL_n, dI_n, mnI_j, mxI_j, ji_nat, rest_j, part_n, whole_j, times_j, kc_0, kc_gt, kc_lt, kc_le, kc_ge, ji_lt, ji_le, ji_inj, jl_inj, jl_lt, jl_le, b1s, b2s, bEs, bEe, rIs, rIn, rIJ, rJs, rJn, rJI, ifp, ifn, if_true, if_false, Int.toNat_natCast, y1, y2, y3, v1, v2, v3]
              exact n2
        · obtain ⟨v, n1, n2⟩ := next
          refine ⟨v, ?_, ?_⟩
          · simp (disch := omega) only [i0, i1, i2, i3, i4, i5, i6, i7, i8, i12, i16, i20, i30, i39, i40, i60, i64, i97, i100, i256, i1000, i10000, im1, im20, im60, l0, l1, l2, l3, l4, l5, l8, l10000, l1e9, lm10000, jl_add, jl_sub, jl_mul, jl_neg, ji_add, ji_sub, ji_mul, ji_neg, ji_l, jl_i, rL_n, rI_n, dL_n, dI_n, mnI_j, mxI_j, ji_nat, rest_j, part_n, whole_j, times_j, kc_0, kc_gt, kc_lt, kc_le, kc_ge, ji_lt, ji_le, ji_inj, jl_inj, jl_lt, jl_le, b1s, b2s, bEs, bEe, rIs, rIn, rIJ, rJs, rJn, rJI, ifp, ifn, if_true, if_false, Int.toNat_natCast, x1, x2, x3, u1, u2, u3]
            exact n1
          · simp (disch := omega) only [i0, i1, i2, i3, i4, i5, i6, i7, i8, i12, i16, i20, i30, i39, i40, i60, i64, i97, i100, i256, i1000, i10000, im1, im20, im60, l0, l1, l2, l3, l4, l5, l8, l10000, l1e9, lm10000, jl_add, jl_sub, jl_mul, jl_neg, ji_add, ji_sub, ji_mul, ji_neg, ji_l, jl_i, rL_n, rI_n, dL_n, dI_n, mnI_j, mxI_j, ji_nat, rest_j, part_n, whole_j, times_j, kc_0, kc_gt, kc_lt, kc_le, kc_ge, ji_lt, ji_le, ji_inj, jl_inj, jl_lt, jl_le, b1s, b2s, bEs, bEe, rIs, rIn, rIJ, rJs, rJn, rJI, ifp, ifn, if_true, if_false, Int.toNat_natCast, y1, y2, y3, v1, v2, v3]
            exact n2
      · obtain ⟨v, n1, n2⟩ := next
        refine ⟨v, ?_, ?_⟩
        · simp (disch := omega) only [i0, i1, i2, i3, i4, i5, i6, i7, i8, i12, i16, i20, i30, i39, i40, i60, i64, i97, i100, i256, i1000, i10000, im1, im20, im60, l0, l1, l2, l3, l4, l5, l8, l10000, l1e9, lm10000, jl_add, jl_sub, jl_mul, jl_neg, ji_add, ji_sub, ji_mul, ji_neg, ji_l, jl_i, rL_n, rI_n, dL_n, dI_n, mnI_j, mxI_j, ji_nat, rest_j, part_n, whole_j, times_j, kc_0, kc_gt, kc_lt, kc_le, kc_ge, ji_lt, ji_le, ji_inj, jl_inj, jl_lt, jl_le, b1s, b2s, bEs, bEe, rIs, rIn, rIJ, rJs, rJn, rJI, ifp, ifn, if_true, if_false, Int.toNat_natCast, x1, x2, x3, u1, u2, u3]
          exact n1
        · by_cases e2 : (num k).2.1 = (num a.toNat).2.1
          · simp (disch := omega) only [i0, i1, i2, i3, i4, i5, i6, i7, i8, i12, i16, i20, i30, i39, i40, i60, i64, i97, i100, i256, i1000, i10000, im1, im20, im60, l0, l1, l2, l3, l4, l5, l8, l10000, l1e9, lm10000, jl_add, jl_sub, jl_mul, jl_neg, ji_add, ji_sub, ji_mul, ji_neg, ji_l, jl_i, rL_n, rI_n, dL_n, dI_n, mnI_j, mxI_j, ji_nat, rest_j, part_n, whole_j, times_j, kc_0, kc_gt, kc_lt, kc_le, kc_ge, ji_lt, ji_le, ji_inj, jl_inj, jl_lt, jl_le, b1s, b2s, bEs, bEe, rIs, rIn, rIJ, rJs, rJn, rJI, ifp, ifn, if_true, if_false, Int.toNat_natCast, y1, y2, y3, v1, v2, v3]
            exact n2
          · simp (disch := omega) only [i0, i1, i2, i3, i4, i5, i6, i7, i8, i12, i16, i20, i30, i39, i40, i60, i64, i97, i100, i256, i1000, i10000, im1, im20, im60, l0, l1, l2, l3, l4, l5, l8, l10000, l1e9, lm10000, jl_add, jl_sub, jl_mul, jl_neg, ji_add, ji_sub, ji_mul, ji_neg, ji_l, jl_i, rL_n, rI_n, dL_n, dI_n, mnI_j, mxI_j, ji_nat, rest_j, part_n, whole_j, times_j, kc_0, kc_gt, kc_lt, kc_le, kc_ge, ji_lt, ji_le, ji_inj, jl_inj, jl_lt, jl_le, b1s, b2s, bEs, bEe, rIs, rIn, rIJ, rJs, rJn, rJI, ifp, ifn, if_true, if_false, Int.toNat_natCast, y1, y2, y3, v1, v2, v3]
            exact n2
theorem T_like {S T : St} (h : Rel S T) (a : Int32) : AnR [(3, 1)] S (f_X9_like a S) (f_X10_like a T) := by
  obtain ⟨a, rfl, ha⟩ := ji_ex a
  have hh := h
  obtain ⟨p, r, cnt, num, early, D, C, bc, cn, pc, rowc, rv, sz, en, h1, h2, h3, h4⟩ := hh
  have c5 := h1.2.2.2.2.1
  have c6 := h1.2.2.2.2.2.1
  have c7 := h1.2.2.2.2.2.2.1
  have c8 := h1.2.2.2.2.2.2.2
  unfold f_X9_like f_X10_like
  by_cases hab : 0 ≤ a ∧ a < cnt
  · have n1 := needN_y c5 c7 hab
    have n3 := noNum_y c6 c7 hab
    have n4 := numbC (S := S) (n := 40) (v := a) ⟨hab.1, by omega⟩ (by omega)
    obtain ⟨v, e1, e2⟩ := like_loop (S := S) (T := th T 0) (num := num) h1.2.1 c7 hab (fun n hn => by
      obtain ⟨q1, ⟨q2, q3, q4⟩, q5, -⟩ := c8 n hn
      exact ⟨q1, ⟨(th_n (by omega)).trans q2, (th_n (by omega)).trans q3, q4⟩, q5⟩) FU 0 (by omega) (FU_lt (by omega))
    have e1' : f_X5_lowestLike (ji a) S = some (ji v) := by
      unfold f_X5_lowestLike
      rw [n4, b1s, if_pos (by omega)]
      exact e1
    have e2' : n_X10_like_12 (ji a) (ji 0) (th T 0) = some (ji v, th T 0) := e2
    simp (disch := omega) only [i0, i1, i2, i3, i4, i5, i6, i7, i8, i12, i16, i20, i30, i39, i40, i60, i64, i97, i100, i256, i1000, i10000, im1, im20, im60, l0, l1, l2, l3, l4, l5, l8, l10000, l1e9, lm10000, jl_add, jl_sub, jl_mul, jl_neg, ji_add, ji_sub, ji_mul, ji_neg, ji_l, jl_i, rL_n, rI_n, dL_n, dI_n, mnI_j, mxI_j, ji_nat, rest_j, part_n, whole_j, times_j, kc_0, kc_gt, kc_lt, kc_le, kc_ge, ji_lt, ji_le, ji_inj, jl_inj, jl_lt, jl_le, b1s, b2s, bEs, bEe, rIs, rIn, rIJ, rJs, rJn, rJI, ifp, ifn, if_true, if_false, n1, n3, e1', e2']
    exact ⟨th T 0, _, rfl, rel_fr h (FrS.refl S) th_fr, Or.inl ⟨rfl, th_17⟩⟩
  · have n1 := needN_n c5 c7 ha hab
    have n3 := noNum_n c6 c7 ha hab
    simp (disch := omega) only [i0, i1, i2, i3, i4, i5, i6, i7, i8, i12, i16, i20, i30, i39, i40, i60, i64, i97, i100, i256, i1000, i10000, im1, im20, im60, l0, l1, l2, l3, l4, l5, l8, l10000, l1e9, lm10000, jl_add, jl_sub, jl_mul, jl_neg, ji_add, ji_sub, ji_mul, ji_neg, ji_l, jl_i, rL_n, rI_n, dL_n, dI_n, mnI_j, mxI_j, ji_nat, rest_j, part_n, whole_j, times_j, kc_0, kc_gt, kc_lt, kc_le, kc_ge, ji_lt, ji_le, ji_inj, jl_inj, jl_lt, jl_le, b1s, b2s, bEs, bEe, rIs, rIn, rIJ, rJs, rJn, rJI, ifp, ifn, if_true, if_false, n1, n3]
    exact ⟨th T 1, _, rfl, rel_fr h (FrS.refl S) th_fr, Or.inr ⟨(3, 1), by simp, rfl, th_17⟩⟩
/-! polynomials and the row grow -/
theorem rn_fr2 {S S' T T' : St} {p : Int} {r cnt : Nat} {num early : Nat → Int × Int × Int} {D C : Nat → Nat → Int} {bc rowc bc' rowc' : Nat} {cn cn' : Nat → Nat} (h : RN S T p r cnt num early D C bc rowc cn)
    (hS1 : ∀ o i : Nat, o = 1 ∨ o = 3 ∨ (12 ≤ o ∧ o < 52) → S'.1 o i = S.1 o i) (hS2 : ∀ o i : Nat, o = 6 ∨ (12 ≤ o ∧ o < 52) → S'.2 o i = S.2 o i)
    (hT1 : ∀ o i : Nat, (o = 0 ∧ (i = 18 ∨ i = 19)) ∨ (1 ≤ o ∧ o ≤ 7) ∨ o = 10 ∨ o = 11 → T'.1 o i = T.1 o i) (hT2 : ∀ i : Nat, T'.2 8 i = T.2 8 i)
    (hP : ∀ n : Nat, n < cnt → D n 0 = 7 → Idx (D n 3) 8 → Lnk (D n) bc rowc cn → (∃ cc : Nat → Int, PolC S (D n 3).toNat cc ∧ CoB cc ∧ ∀ j : Nat, j < (D n 6).toNat → cc j = C n j) → ∃ cc : Nat → Int, PolC S' (D n 3).toNat cc ∧ CoB cc ∧ ∀ j : Nat, j < (D n 6).toNat → cc j = C n j)
    (hR : ∀ j : Nat, j < rowc → S'.1 9 j = S.1 9 j) (hL : ∀ n : Nat, n < cnt → Lnk (D n) bc rowc cn → Lnk (D n) bc' rowc' cn') : RN S' T' p r cnt num early D C bc' rowc' cn' := by
  obtain ⟨h1, h2, ⟨n1, n2, n3⟩, h4, h5, h6, h7, h8⟩ := h
  refine ⟨h1, h2, ⟨?_, ?_, fun e he => ?_⟩, ?_, ?_, ?_, h7, fun n hn => ?_⟩
  · rw [hS1 _ _ (by omega)]; exact n1
  · rw [hS1 _ _ (by omega)]; exact n2
  · rw [hS2 _ _ (by omega)]; exact n3 e he
  · rw [hT1 _ _ (by omega)]; exact h4
  · rw [hS1 _ _ (by omega)]; exact h5
  · rw [hT1 _ _ (by omega)]; exact h6
  · obtain ⟨⟨a1, a2, a3⟩, ⟨b1, b2, b3⟩, a4, ⟨e1, e2, e3⟩, a5, a6, ⟨q1, q2, q3⟩, ⟨g1, g2, g3, g4, g5, g6⟩, a9, a10, a11⟩ := h8 n hn
    refine ⟨⟨?_, ?_, ?_⟩, ⟨?_, ?_, ?_⟩, a4, ⟨?_, ?_, ?_⟩, a5, a6, ⟨fun j hj => ?_, fun k => hP n hn k (a9.f7 k) a11 (q2 k), fun k j hj => ?_⟩, ⟨?_, fun k => ?_, fun k k' => ?_, fun k k' => ?_, fun k => ?_, fun k => ?_⟩, a9, a10, hL n hn a11⟩
    · rw [hS1 _ _ (by omega)]; exact a1
    · rw [hS1 _ _ (by omega)]; exact a2
    · rw [hS2 _ _ (by omega)]; exact a3
    · rw [hT1 _ _ (by omega)]; exact b1
    · rw [hT1 _ _ (by omega)]; exact b2
    · rw [hT2]; exact b3
    · rw [hS1 _ _ (by omega)]; exact e1
    · rw [hS1 _ _ (by omega)]; exact e2
    · rw [hS2 _ _ (by omega)]; exact e3
    · rw [hS1 _ _ (by omega)]; exact q1 j hj
    · have := a11.2 k
      rw [hR j (by omega)]; exact q3 k j hj
    · rw [hT1 _ _ (by omega)]; exact g1
    · rw [hT1 _ _ (by omega), hT1 _ _ (by omega), hT1 _ _ (by omega)]; exact g2 k
    · rw [hT1 _ _ (by omega)]; exact g3 k k'
    · rw [hT1 _ _ (by omega)]; exact g4 k k'
    · rw [hT1 _ _ (by omega), hT1 _ _ (by omega)]
      exact ⟨(g5 k).1, (g5 k).2.1, fun j hj => by rw [hT1 _ _ (by omega)]; exact (g5 k).2.2 j hj⟩
    · rw [hT1 _ _ (by omega)]
      exact ⟨(g6 k).1, fun j hj => by rw [hT1 _ _ (by omega)]; exact (g6 k).2 j hj⟩
theorem needZ_y {a : Int} (ha : a ≠ 0 ∧ -10000 ≤ a ∧ a ≤ 10000) : f_X9_needWholeNotZero (ji a) = some (.ok ()) := by
  have w1 : (-10000 : Int32) = ji (-10000) := rfl
  unfold f_X9_needWholeNotZero
  rw [w1]
  simp (disch := omega) only [i0, i1, i2, i3, i4, i5, i6, i7, i8, i12, i16, i20, i30, i39, i40, i60, i64, i97, i100, i256, i1000, i10000, im1, im20, im60, l0, l1, l2, l3, l4, l5, l8, l10000, l1e9, lm10000, jl_add, jl_sub, jl_mul, jl_neg, ji_add, ji_sub, ji_mul, ji_neg, ji_l, jl_i, rL_n, rI_n, dL_n, dI_n, mnI_j, mxI_j, ji_nat, rest_j, part_n, whole_j, times_j, kc_0, kc_gt, kc_lt, kc_le, kc_ge, ji_lt, ji_le, ji_inj, jl_inj, jl_lt, jl_le, b1s, b2s, bEs, bEe, rIs, rIn, rIJ, rJs, rJn, rJI, ifp, ifn, if_true, if_false]
theorem needZ_n {a : Int} (hr : -2147483648 ≤ a ∧ a < 2147483648) (ha : ¬ (a ≠ 0 ∧ -10000 ≤ a ∧ a ≤ 10000)) : f_X9_needWholeNotZero (ji a) = some (.error 1) := by
  have w1 : (-10000 : Int32) = ji (-10000) := rfl
  unfold f_X9_needWholeNotZero
  rw [w1]
  by_cases h0 : a = 0
  · simp (disch := omega) only [i0, i1, i2, i3, i4, i5, i6, i7, i8, i12, i16, i20, i30, i39, i40, i60, i64, i97, i100, i256, i1000, i10000, im1, im20, im60, l0, l1, l2, l3, l4, l5, l8, l10000, l1e9, lm10000, jl_add, jl_sub, jl_mul, jl_neg, ji_add, ji_sub, ji_mul, ji_neg, ji_l, jl_i, rL_n, rI_n, dL_n, dI_n, mnI_j, mxI_j, ji_nat, rest_j, part_n, whole_j, times_j, kc_0, kc_gt, kc_lt, kc_le, kc_ge, ji_lt, ji_le, ji_inj, jl_inj, jl_lt, jl_le, b1s, b2s, bEs, bEe, rIs, rIn, rIJ, rJs, rJn, rJI, ifp, ifn, if_true, if_false]
  · by_cases h1 : a < -10000
    · simp (disch := omega) only [i0, i1, i2, i3, i4, i5, i6, i7, i8, i12, i16, i20, i30, i39, i40, i60, i64, i97, i100, i256, i1000, i10000, im1, im20, im60, l0, l1, l2, l3, l4, l5, l8, l10000, l1e9, lm10000, jl_add, jl_sub, jl_mul, jl_neg, ji_add, ji_sub, ji_mul, ji_neg, ji_l, jl_i, rL_n, rI_n, dL_n, dI_n, mnI_j, mxI_j, ji_nat, rest_j, part_n, whole_j, times_j, kc_0, kc_gt, kc_lt, kc_le, kc_ge, ji_lt, ji_le, ji_inj, jl_inj, jl_lt, jl_le, b1s, b2s, bEs, bEe, rIs, rIn, rIJ, rJs, rJn, rJI, ifp, ifn, if_true, if_false]
    · simp (disch := omega) only [i0, i1, i2, i3, i4, i5, i6, i7, i8, i12, i16, i20, i30, i39, i40, i60, i64, i97, i100, i256, i1000, i10000, im1, im20, im60, l0, l1, l2, l3, l4, l5, l8, l10000, l1e9, lm10000, jl_add, jl_sub, jl_mul, jl_neg, ji_add, ji_sub, ji_mul, ji_neg, ji_l, jl_i, rL_n, rI_n, dL_n, dI_n, mnI_j, mxI_j, ji_nat, rest_j, part_n, whole_j, times_j, kc_0, kc_gt, kc_lt, kc_le, kc_ge, ji_lt, ji_le, ji_inj, jl_inj, jl_lt, jl_le, b1s, b2s, bEs, bEe, rIs, rIn, rIJ, rJs, rJn, rJI, ifp, ifn, if_true, if_false]
theorem T_begin {S T : St} (h : Rel S T) (a : Int32) : An [(1, 1), (2, 2)] (f_X9_begin a S) (f_X10_begin a T) := by
  obtain ⟨a, rfl, ha⟩ := ji_ex a
  have hh := h
  obtain ⟨p, r, cnt, num, early, D, C, bc, cn, pc, rowc, rv, sz, en, h1, h2, h3, h4⟩ := hh
  have hh2 := h2
  obtain ⟨t1, t2, t3, t4, t5, t6⟩ := hh2
  by_cases hz : a ≠ 0 ∧ -10000 ≤ a ∧ a ≤ 10000
  · have n1 := needZ_y hz
    by_cases hb : bc < 8
    · have pg := pageC (S := S) (k := bc) hb
      have e7 : (7 * (bc : Int)).toNat = 7 * bc := by omega
      have m20 : (th T 0).1 0 20 = ji bc := (th_n (by omega)).trans t2
      have kC : f_X9_begin (ji a) S = some (.ok (ji bc), wI (wI (wI S (62 + bc) 0 (ji a)) (54 + bc) 0 (ji 1)) 4 0 (ji ((bc + 1 : Nat) : Int))) := by
        unfold f_X9_begin f_X0_isFull f_X0_open f_X4_append
        simp (disch := omega) only [i0, i1, i2, i3, i4, i5, i6, i7, i8, i12, i16, i20, i30, i39, i40, i60, i64, i97, i100, i256, i1000, i10000, im1, im20, im60, l0, l1, l2, l3, l4, l5, l8, l10000, l1e9, lm10000, jl_add, jl_sub, jl_mul, jl_neg, ji_add, ji_sub, ji_mul, ji_neg, ji_l, jl_i, rL_n, rI_n, dL_n, dI_n, mnI_j, mxI_j, ji_nat, rest_j, part_n, whole_j, times_j, kc_0, kc_gt, kc_lt, kc_le, kc_ge, ji_lt, ji_le, ji_inj, jl_inj, jl_lt, jl_le, b1s, b2s, bEs, bEe, rIs, rIn, rIJ, rJs, rJn, rJI, ifp, ifn, if_true, if_false, Int.toNat_natCast, n1, t1, pg]
        rw [show (bc : Int) + 1 - 1 = bc by omega, show (bc : Int) + 1 = ((bc + 1 : Nat) : Int) by omega]
        rfl
      have kM : f_X10_begin (ji a) T = some (ji bc, wI (wI (wI (th T 0) 12 (7 * bc) (ji a)) 13 bc (ji 0)) 0 20 (ji ((bc + 1 : Nat) : Int))) := by
        unfold f_X10_begin n_X10_begin_24 n_X10_begin_46
        rw [lm10000, l10000]
        simp (disch := omega) only [i0, i1, i2, i3, i4, i5, i6, i7, i8, i12, i16, i20, i30, i39, i40, i60, i64, i97, i100, i256, i1000, i10000, im1, im20, im60, l0, l1, l2, l3, l4, l5, l8, l10000, l1e9, lm10000, jl_add, jl_sub, jl_mul, jl_neg, ji_add, ji_sub, ji_mul, ji_neg, ji_l, jl_i, rL_n, rI_n, dL_n, dI_n, mnI_j, mxI_j, ji_nat, rest_j, part_n, whole_j, times_j, kc_0, kc_gt, kc_lt, kc_le, kc_ge, ji_lt, ji_le, ji_inj, jl_inj, jl_lt, jl_le, b1s, b2s, bEs, bEe, rIs, rIn, rIJ, rJs, rJn, rJI, ifp, ifn, if_true, if_false, Int.toNat_natCast, isIn_y, noY, th_th, m20, e7]
        rw [show (bc : Int) + 1 = ((bc + 1 : Nat) : Int) by omega]
      refine ⟨_, _, _, kM, ?_, Or.inl ⟨kC, ?_⟩⟩
      rotate_left
      · simp (disch := omega) only [rIs, rIn, rIJ, rJs, rJn, rJI]; exact th_17
      · have sS : ∀ o i : Nat, o ≠ 4 → o ≠ 54 + bc → o ≠ 62 + bc → (wI (wI (wI S (62 + bc) 0 (ji a)) (54 + bc) 0 (ji 1)) 4 0 (ji ((bc + 1 : Nat) : Int))).1 o i = S.1 o i := fun o i q1 q2 q3 => by simp (disch := omega) only [rIs, rIn, rIJ, rJs, rJn, rJI]
        have sT : ∀ o i : Nat, o ≠ 12 → o ≠ 13 → ¬ (o = 0 ∧ (i = 17 ∨ i = 20)) → (wI (wI (wI (th T 0) 12 (7 * bc) (ji a)) 13 bc (ji 0)) 0 20 (ji ((bc + 1 : Nat) : Int))).1 o i = T.1 o i := fun o i q1 q2 q3 => by simp (disch := omega) only [rIs, rIn, rIJ, rJs, rJn, rJI]; exact th_n (by omega)
        obtain ⟨cn', cn1, cn2⟩ : ∃ cn' : Nat → Nat, cn' bc = 1 ∧ ∀ f : Nat, f ≠ bc → cn' f = cn f := ⟨fun f => if f = bc then 1 else cn f, if_pos rfl, fun f hf => if_neg hf⟩
        obtain ⟨pc', pc1, pc2, pc3⟩ : ∃ pc' : Nat → Nat → Int, pc' bc 0 = a ∧ (∀ j : Nat, j ≠ 0 → pc' bc j = 0) ∧ ∀ f : Nat, f ≠ bc → pc' f = pc f := ⟨fun f => if f = bc then (fun j => if j = 0 then a else 0) else pc f, by simp, fun j hj => by simp [hj], fun f hf => if_neg hf⟩
        refine ⟨p, r, cnt, num, early, D, C, bc + 1, cn', pc', rowc, rv, sz, en, ?_, ⟨?_, ?_, by omega, ?_, ?_, ?_⟩, ?_, ?_⟩
        · refine rn_fr2 h1 (fun o i q => sS o i (by omega) (by omega) (by omega)) (fun _ _ _ => rfl) (fun o i q => sT o i (by omega) (by omega) (by omega)) (fun _ => rfl) (fun n hn k hi hl hc => ?_) (fun j _ => sS _ _ (by omega) (by omega) (by omega)) (fun n hn hl => ⟨fun k => ?_, fun k => hl.2 k⟩)
          · obtain ⟨cc, u1, u2, u3⟩ := hc
            have := (hl.1 k).1
            have := hi.1
            exact ⟨cc, fun j hj => by rw [sS _ _ (by omega) (by omega) (by omega)]; exact u1 j hj, u2, u3⟩
          · have := hl.1 k
            have hne : (D n 3).toNat ≠ bc := by
              have := ((h1.2.2.2.2.2.2.2 n hn).2.2.2.2.2.2.2.2.1.f7 k).1
              omega
            rw [cn2 _ hne]
            exact ⟨by omega, this.2⟩
        · exact rIs
        · exact rIs
        · intro f hf
          by_cases hfb : f = bc
          · subst hfb
            refine ⟨fun j hj => ?_, fun j => ?_, fun j hj => ?_⟩
            · by_cases hj0 : j = 0
              · subst hj0
                rw [pc1]
                simp (disch := omega) only [rIs, rIn, rIJ, rJs, rJn, rJI]
              · rw [pc2 j hj0]
                simp (disch := omega) only [rIs, rIn, rIJ, rJs, rJn, rJI]
                have := (t4 f hf).1 j hj
                rw [t6 f (Nat.le_refl _) hf j] at this
                exact this
            · by_cases hj0 : j = 0
              · subst hj0; rw [pc1]; omega
              · rw [pc2 j hj0]; omega
            · by_cases hj0 : j = 0
              · subst hj0
                rw [pc1]
                simp (disch := omega) only [rIs, rIn, rIJ, rJs, rJn, rJI, Nat.add_zero]
              · rw [pc2 j hj0]
                rw [rIn (by omega), rIn (by omega), rIn (by omega), th_n (by omega)]
                have := (t4 f hf).2.2 j hj
                rw [t6 f (Nat.le_refl _) hf j] at this
                exact this
          · rw [pc3 f hfb]
            refine ⟨fun j hj => ?_, (t4 f hf).2.1, fun j hj => ?_⟩
            · rw [sS _ _ (by omega) (by omega) (by omega)]; exact (t4 f hf).1 j hj
            · rw [rIn (by omega), rIn (by omega), rIn (by omega), th_n (by omega)]
              exact (t4 f hf).2.2 j hj
        · intro f hf
          by_cases hfb : f = bc
          · subst hfb
            rw [cn1]
            refine ⟨by omega, by omega, ?_, ?_, ?_, ?_, fun j hj => pc2 j (by omega)⟩
            · simp (disch := omega) only [rIs, rIn, rIJ, rJs, rJn, rJI]; rfl
            · simp (disch := omega) only [rIs, rIn, rIJ, rJs, rJn, rJI]; rfl
            · show pc' f 0 ≠ 0
              rw [pc1]; exact hz.1
            · rw [pc1]; exact hz.1
          · rw [cn2 f hfb, pc3 f hfb]
            obtain ⟨u1, u2, u3, u4, u5⟩ := t5 f (by omega)
            refine ⟨u1, u2, ?_, ?_, u5⟩
            · rw [sS _ _ (by omega) (by omega) (by omega)]; exact u3
            · rw [rIn (by omega), rIn (by omega), rIn (by omega), th_n (by omega)]; exact u4
        · intro f hf hf8 j
          rw [pc3 f (by omega)]
          exact t6 f (by omega) hf8 j
        · obtain ⟨u1, u2, u3, u4, u5⟩ := h3
          refine ⟨?_, ?_, u3, u4, fun j hj => ?_⟩
          · rw [sS _ _ (by omega) (by omega) (by omega)]; exact u1
          · rw [sT _ _ (by omega) (by omega) (by omega)]; exact u2
          · rw [sS _ _ (by omega) (by omega) (by omega), sT _ _ (by omega) (by omega) (by omega)]; exact u5 j hj
        · obtain ⟨u1, u2, u3, u4, u5⟩ := h4
          refine ⟨?_, ?_, u3, u4, fun j hj => ?_⟩
          · rw [sS _ _ (by omega) (by omega) (by omega)]; exact u1
          · rw [sT _ _ (by omega) (by omega) (by omega)]; exact u2
          · rw [sS _ _ (by omega) (by omega) (by omega), sT _ _ (by omega) (by omega) (by omega)]; exact u5 j hj
    · have hb : bc = 8 := by omega
      subst hb
      have m20 : (th T 0).1 0 20 = ji 8 := (th_n (by omega)).trans t2
      unfold f_X9_begin f_X10_begin n_X10_begin_24 n_X10_begin_46 f_X0_isFull
      rw [lm10000, l10000]
      simp (disch := omega) only [i0, i1, i2, i3, i4, i5, i6, i7, i8, i12, i16, i20, i30, i39, i40, i60, i64, i97, i100, i256, i1000, i10000, im1, im20, im60, l0, l1, l2, l3, l4, l5, l8, l10000, l1e9, lm10000, jl_add, jl_sub, jl_mul, jl_neg, ji_add, ji_sub, ji_mul, ji_neg, ji_l, jl_i, rL_n, rI_n, dL_n, dI_n, mnI_j, mxI_j, ji_nat, rest_j, part_n, whole_j, times_j, kc_0, kc_gt, kc_lt, kc_le, kc_ge, ji_lt, ji_le, ji_inj, jl_inj, jl_lt, jl_le, b1s, b2s, bEs, bEe, rIs, rIn, rIJ, rJs, rJn, rJI, ifp, ifn, if_true, if_false, n1, t1, isIn_y, noY, noN2, th_th, m20]
      exact ⟨S, th T 2, ji 0, rfl, rel_fr h (FrS.refl S) th_fr, Or.inr ⟨(2, 2), by simp, rfl, th_17⟩⟩
  · have n1 := needZ_n ha hz
    unfold f_X9_begin f_X10_begin n_X10_begin_24
    rw [lm10000, l10000]
    refine ⟨S, th T 1, ji 0, ?_, rel_fr h (FrS.refl S) th_fr, Or.inr ⟨(1, 1), by simp, ?_, th_17⟩⟩
    · by_cases h0 : -10000 ≤ a ∧ a ≤ 10000
      · have : a = 0 := by omega
        subst this
        simp (disch := omega) only [i0, i1, i2, i3, i4, i5, i6, i7, i8, i12, i16, i20, i30, i39, i40, i60, i64, i97, i100, i256, i1000, i10000, im1, im20, im60, l0, l1, l2, l3, l4, l5, l8, l10000, l1e9, lm10000, jl_add, jl_sub, jl_mul, jl_neg, ji_add, ji_sub, ji_mul, ji_neg, ji_l, jl_i, rL_n, rI_n, dL_n, dI_n, mnI_j, mxI_j, ji_nat, rest_j, part_n, whole_j, times_j, kc_0, kc_gt, kc_lt, kc_le, kc_ge, ji_lt, ji_le, ji_inj, jl_inj, jl_lt, jl_le, b1s, b2s, bEs, bEe, rIs, rIn, rIJ, rJs, rJn, rJI, ifp, ifn, if_true, if_false, isIn_y, noN1]
      · simp (disch := omega) only [i0, i1, i2, i3, i4, i5, i6, i7, i8, i12, i16, i20, i30, i39, i40, i60, i64, i97, i100, i256, i1000, i10000, im1, im20, im60, l0, l1, l2, l3, l4, l5, l8, l10000, l1e9, lm10000, jl_add, jl_sub, jl_mul, jl_neg, ji_add, ji_sub, ji_mul, ji_neg, ji_l, jl_i, rL_n, rI_n, dL_n, dI_n, mnI_j, mxI_j, ji_nat, rest_j, part_n, whole_j, times_j, kc_0, kc_gt, kc_lt, kc_le, kc_ge, ji_lt, ji_le, ji_inj, jl_inj, jl_lt, jl_le, b1s, b2s, bEs, bEe, rIs, rIn, rIJ, rJs, rJn, rJI, ifp, ifn, if_true, if_false, isIn_n, noN1]
    · simp (disch := omega) only [i0, i1, i2, i3, i4, i5, i6, i7, i8, i12, i16, i20, i30, i39, i40, i60, i64, i97, i100, i256, i1000, i10000, im1, im20, im60, l0, l1, l2, l3, l4, l5, l8, l10000, l1e9, lm10000, jl_add, jl_sub, jl_mul, jl_neg, ji_add, ji_sub, ji_mul, ji_neg, ji_l, jl_i, rL_n, rI_n, dL_n, dI_n, mnI_j, mxI_j, ji_nat, rest_j, part_n, whole_j, times_j, kc_0, kc_gt, kc_lt, kc_le, kc_ge, ji_lt, ji_le, ji_inj, jl_inj, jl_lt, jl_le, b1s, b2s, bEs, bEe, rIs, rIn, rIJ, rJs, rJn, rJI, ifp, ifn, if_true, if_false, n1]
