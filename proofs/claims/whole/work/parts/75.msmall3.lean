/-! values of the row, differences, the matrix -/
theorem rel_x {S S' T T' : St} {p : Int} {r cnt : Nat} {num early : Nat → Int × Int × Int} {D C : Nat → Nat → Int} {bc : Nat} {cn : Nat → Nat} {pc : Nat → Nat → Int} {rowc : Nat} {rv : Nat → Int} {sz sz' : Nat} {en en' : Nat → Int}
    (h : RN S T p r cnt num early D C bc rowc cn ∧ RP S T bc cn pc ∧ RR S T rowc rv ∧ RX S T sz en) (hS : ∀ o i : Nat, o ≠ 10 → o ≠ 2 → S'.1 o i = S.1 o i) (hS2 : S'.2 = S.2) (hT : ∀ o i : Nat, o ≠ 15 → ¬ (o = 0 ∧ (i = 17 ∨ i = 22)) → T'.1 o i = T.1 o i) (hT2 : T'.2 = T.2) (hX : RX S' T' sz' en') : Rel S' T' := by
  obtain ⟨h1, ⟨t1, t2, t3, t4, t5, t6⟩, ⟨u1, u2, u3, u4, u5⟩, h4⟩ := h
  refine ⟨p, r, cnt, num, early, D, C, bc, cn, pc, rowc, rv, sz', en', ?_, ⟨?_, ?_, t3, fun f hf => ⟨fun j hj => ?_, (t4 f hf).2.1, fun j hj => ?_⟩, fun f hf => ?_, t6⟩, ⟨?_, ?_, u3, u4, fun j hj => ?_⟩, hX⟩
  · refine rn_fr2 h1 (fun o i q => hS o i (by omega) (by omega)) (fun o i _ => by rw [hS2]) (fun o i q => hT o i (by omega) (by omega)) (fun i => by rw [hT2]) (fun n hn k hi hl hc => ?_) (fun j _ => hS _ _ (by omega) (by omega)) (fun n hn hl => hl)
    obtain ⟨cc, v1, v2, v3⟩ := hc
    exact ⟨cc, fun j hj => by rw [hS _ _ (by omega) (by omega)]; exact v1 j hj, v2, v3⟩
  · rw [hS _ _ (by omega) (by omega)]; exact t1
  · rw [hT _ _ (by omega) (by omega)]; exact t2
  · rw [hS _ _ (by omega) (by omega)]; exact (t4 f hf).1 j hj
  · rw [hT _ _ (by omega) (by omega)]; exact (t4 f hf).2.2 j hj
  · rw [hS _ _ (by omega) (by omega), hT _ _ (by omega) (by omega)]; exact t5 f hf
  · rw [hS _ _ (by omega) (by omega)]; exact u1
  · rw [hT _ _ (by omega) (by omega)]; exact u2
  · rw [hS _ _ (by omega) (by omega), hT _ _ (by omega) (by omega)]; exact u5 j hj
theorem T_value {S T : St} (h : Rel S T) (a : Int32) : An [(1, 1), (2, 2)] (f_X9_value a S) (f_X10_value a T) := by
  obtain ⟨a, rfl, ha⟩ := ji_ex a
  have hh := h
  obtain ⟨p, r, cnt, num, early, D, C, bc, cn, pc, rowc, rv, sz, en, h1, h2, h3, h4⟩ := hh
  have hh3 := h3
  obtain ⟨u1, u2, u3, u4, u5⟩ := hh3
  have w1 : (-10000 : Int32) = ji (-10000) := rfl
  have m21 : (th T 0).1 0 21 = ji rowc := (th_n (by omega)).trans u2
  by_cases hz : -10000 ≤ a ∧ a ≤ 10000
  · by_cases hb : rowc < 12
    · have kC : f_X9_value (ji a) S = some (.ok (ji ((rowc + 1 : Nat) : Int)), wI (wI S 9 rowc (ji a)) 5 0 (ji ((rowc + 1 : Nat) : Int))) := by
        unfold f_X9_value f_X6_isFull f_X6_append
        rw [w1]
        simp (disch := omega) only [i0, i1, i2, i3, i4, i5, i6, i7, i8, i12, i16, i20, i30, i39, i40, i60, i64, i97, i100, i256, i1000, i10000, im1, im20, im60, l0, l1, l2, l3, l4, l5, l8, l10000, l1e9, lm10000, jl_add, jl_sub, jl_mul, jl_neg, ji_add, ji_sub, ji_mul, ji_neg, ji_l, jl_i, rL_n, rI_n, dL_n, dI_n, mnI_j, mxI_j, ji_nat, rest_j, part_n, whole_j, times_j, kc_0, kc_gt, kc_lt, kc_le, kc_ge, ji_lt, ji_le, ji_inj, jl_inj, jl_lt, jl_le, b1s, b2s, bEs, bEe, rIs, rIn, rIJ, rJs, rJn, rJI, ifp, ifn, if_true, if_false, Int.toNat_natCast, needW_y, u1]
        rw [show (rowc : Int) + 1 = ((rowc + 1 : Nat) : Int) by omega]
      have kM : f_X10_value (ji a) T = some (ji ((rowc + 1 : Nat) : Int), wI (wI (th T 0) 14 rowc (ji a)) 0 21 (ji ((rowc + 1 : Nat) : Int))) := by
        unfold f_X10_value n_X10_value_34
        rw [lm10000, l10000]
        simp (disch := omega) only [i0, i1, i2, i3, i4, i5, i6, i7, i8, i12, i16, i20, i30, i39, i40, i60, i64, i97, i100, i256, i1000, i10000, im1, im20, im60, l0, l1, l2, l3, l4, l5, l8, l10000, l1e9, lm10000, jl_add, jl_sub, jl_mul, jl_neg, ji_add, ji_sub, ji_mul, ji_neg, ji_l, jl_i, rL_n, rI_n, dL_n, dI_n, mnI_j, mxI_j, ji_nat, rest_j, part_n, whole_j, times_j, kc_0, kc_gt, kc_lt, kc_le, kc_ge, ji_lt, ji_le, ji_inj, jl_inj, jl_lt, jl_le, b1s, b2s, bEs, bEe, rIs, rIn, rIJ, rJs, rJn, rJI, ifp, ifn, if_true, if_false, Int.toNat_natCast, isIn_y, noY, th_th, m21]
        rw [show (rowc : Int) + 1 = ((rowc + 1 : Nat) : Int) by omega]
      refine ⟨_, _, _, kM, ?_, Or.inl ⟨kC, ?_⟩⟩
      rotate_left
      · simp (disch := omega) only [rIs, rIn, rIJ, rJs, rJn, rJI]; exact th_17
      · have sS : ∀ o i : Nat, o ≠ 5 → ¬ (o = 9 ∧ i = rowc) → (wI (wI S 9 rowc (ji a)) 5 0 (ji ((rowc + 1 : Nat) : Int))).1 o i = S.1 o i := fun o i q1 q2 => by simp (disch := omega) only [rIs, rIn, rIJ, rJs, rJn, rJI]
        have sT : ∀ o i : Nat, ¬ (o = 14 ∧ i = rowc) → ¬ (o = 0 ∧ (i = 17 ∨ i = 21)) → (wI (wI (th T 0) 14 rowc (ji a)) 0 21 (ji ((rowc + 1 : Nat) : Int))).1 o i = T.1 o i := fun o i q1 q2 => by simp (disch := omega) only [rIs, rIn, rIJ, rJs, rJn, rJI]; exact th_n (by omega)
        obtain ⟨rv', rv1, rv2⟩ : ∃ rv' : Nat → Int, rv' rowc = a ∧ ∀ j : Nat, j ≠ rowc → rv' j = rv j := ⟨fun j => if j = rowc then a else rv j, if_pos rfl, fun j hj => if_neg hj⟩
        refine ⟨p, r, cnt, num, early, D, C, bc, cn, pc, rowc + 1, rv', sz, en, ?_, ?_, ⟨rIs, rIs, by omega, fun j => ?_, fun j hj => ?_⟩, ?_⟩
        · refine rn_fr2 h1 (fun o i q => sS o i (by omega) (by omega)) (fun _ _ _ => rfl) (fun o i q => sT o i (by omega) (by omega)) (fun _ => rfl) (fun n hn k hi hl hc => ?_) (fun j _ => sS _ _ (by omega) (by omega)) (fun n hn hl => ⟨hl.1, fun k => ?_⟩)
          · obtain ⟨cc, v1, v2, v3⟩ := hc
            exact ⟨cc, fun j hj => by rw [sS _ _ (by omega) (by omega)]; exact v1 j hj, v2, v3⟩
          · have := hl.2 k
            omega
        · obtain ⟨t1, t2, t3, t4, t5, t6⟩ := h2
          refine ⟨?_, ?_, t3, fun f hf => ⟨fun j hj => ?_, (t4 f hf).2.1, fun j hj => ?_⟩, fun f hf => ?_, t6⟩
          · rw [sS _ _ (by omega) (by omega)]; exact t1
          · rw [sT _ _ (by omega) (by omega)]; exact t2
          · rw [sS _ _ (by omega) (by omega)]; exact (t4 f hf).1 j hj
          · rw [sT _ _ (by omega) (by omega)]; exact (t4 f hf).2.2 j hj
          · rw [sS _ _ (by omega) (by omega), sT _ _ (by omega) (by omega)]; exact t5 f hf
        · by_cases hj : j = rowc
          · subst hj; rw [rv1]; omega
          · rw [rv2 j hj]; exact u4 j
        · by_cases hjr : j = rowc
          · subst hjr
            rw [rv1]
            exact ⟨by simp (disch := omega) only [rIs, rIn, rIJ, rJs, rJn, rJI], by simp (disch := omega) only [rIs, rIn, rIJ, rJs, rJn, rJI]⟩
          · rw [rv2 j hjr, sS _ _ (by omega) (by omega), sT _ _ (by omega) (by omega)]
            exact u5 j (by omega)
        · obtain ⟨v1, v2, v3, v4, v5⟩ := h4
          refine ⟨?_, ?_, v3, v4, fun j hj => ?_⟩
          · rw [sS _ _ (by omega) (by omega)]; exact v1
          · rw [sT _ _ (by omega) (by omega)]; exact v2
          · rw [sS _ _ (by omega) (by omega), sT _ _ (by omega) (by omega)]; exact v5 j hj
    · have hb : rowc = 12 := by omega
      subst hb
      unfold f_X9_value f_X10_value n_X10_value_34 f_X6_isFull
      rw [lm10000, l10000, w1]
      simp (disch := omega) only [i0, i1, i2, i3, i4, i5, i6, i7, i8, i12, i16, i20, i30, i39, i40, i60, i64, i97, i100, i256, i1000, i10000, im1, im20, im60, l0, l1, l2, l3, l4, l5, l8, l10000, l1e9, lm10000, jl_add, jl_sub, jl_mul, jl_neg, ji_add, ji_sub, ji_mul, ji_neg, ji_l, jl_i, rL_n, rI_n, dL_n, dI_n, mnI_j, mxI_j, ji_nat, rest_j, part_n, whole_j, times_j, kc_0, kc_gt, kc_lt, kc_le, kc_ge, ji_lt, ji_le, ji_inj, jl_inj, jl_lt, jl_le, b1s, b2s, bEs, bEe, rIs, rIn, rIJ, rJs, rJn, rJI, ifp, ifn, if_true, if_false, needW_y, u1, isIn_y, noY, noN2, th_th, m21]
      exact ⟨S, th T 2, ji 0, rfl, rel_fr h (FrS.refl S) th_fr, Or.inr ⟨(2, 2), by simp, rfl, th_17⟩⟩
  · unfold f_X9_value f_X10_value
    rw [lm10000, l10000, w1]
    simp (disch := omega) only [i0, i1, i2, i3, i4, i5, i6, i7, i8, i12, i16, i20, i30, i39, i40, i60, i64, i97, i100, i256, i1000, i10000, im1, im20, im60, l0, l1, l2, l3, l4, l5, l8, l10000, l1e9, lm10000, jl_add, jl_sub, jl_mul, jl_neg, ji_add, ji_sub, ji_mul, ji_neg, ji_l, jl_i, rL_n, rI_n, dL_n, dI_n, mnI_j, mxI_j, ji_nat, rest_j, part_n, whole_j, times_j, kc_0, kc_gt, kc_lt, kc_le, kc_ge, ji_lt, ji_le, ji_inj, jl_inj, jl_lt, jl_le, b1s, b2s, bEs, bEe, rIs, rIn, rIJ, rJs, rJn, rJI, ifp, ifn, if_true, if_false, needW_n, isIn_n, noN1]
    exact ⟨S, th T 1, ji 0, rfl, rel_fr h (FrS.refl S) th_fr, Or.inr ⟨(1, 1), by simp, rfl, th_17⟩⟩
theorem T_difference {S T : St} (h : Rel S T) (a : Int32) : AnR [(6, 1)] S (f_X9_difference a S) (f_X10_difference a T) := by
  obtain ⟨a, rfl, ha⟩ := ji_ex a
  have hh := h
  obtain ⟨p, r, cnt, num, early, D, C, bc, cn, pc, rowc, rv, sz, en, h1, h2, ⟨u1, u2, u3, u4, u5⟩, h4⟩ := hh
  unfold f_X9_difference f_X10_difference
  by_cases hz : 0 ≤ a ∧ a < rowc
  · have ea : ((a.toNat : Nat) : Int) = a := by omega
    have e1 := difC (S := S) (f := rv) (k := a.toNat) u4 (by omega) (fun j hj => (u5 j (by omega)).1)
    have e2 := difM (T := th T 0) (f := rv) (k := a.toNat) u4 (by omega) (fun j hj => (th_n (by omega)).trans (u5 j (by omega)).2)
    rw [ea] at e1 e2
    simp (disch := omega) only [i0, i1, i2, i3, i4, i5, i6, i7, i8, i12, i16, i20, i30, i39, i40, i60, i64, i97, i100, i256, i1000, i10000, im1, im20, im60, l0, l1, l2, l3, l4, l5, l8, l10000, l1e9, lm10000, jl_add, jl_sub, jl_mul, jl_neg, ji_add, ji_sub, ji_mul, ji_neg, ji_l, jl_i, rL_n, rI_n, dL_n, dI_n, mnI_j, mxI_j, ji_nat, rest_j, part_n, whole_j, times_j, kc_0, kc_gt, kc_lt, kc_le, kc_ge, ji_lt, ji_le, ji_inj, jl_inj, jl_lt, jl_le, b1s, b2s, bEs, bEe, rIs, rIn, rIJ, rJs, rJn, rJI, ifp, ifn, if_true, if_false, u1, u2, isIn_y, noY, e1, e2]
    exact ⟨th T 0, _, rfl, rel_fr h (FrS.refl S) th_fr, Or.inl ⟨rfl, th_17⟩⟩
  · by_cases h0 : a < 0
    · simp (disch := omega) only [i0, i1, i2, i3, i4, i5, i6, i7, i8, i12, i16, i20, i30, i39, i40, i60, i64, i97, i100, i256, i1000, i10000, im1, im20, im60, l0, l1, l2, l3, l4, l5, l8, l10000, l1e9, lm10000, jl_add, jl_sub, jl_mul, jl_neg, ji_add, ji_sub, ji_mul, ji_neg, ji_l, jl_i, rL_n, rI_n, dL_n, dI_n, mnI_j, mxI_j, ji_nat, rest_j, part_n, whole_j, times_j, kc_0, kc_gt, kc_lt, kc_le, kc_ge, ji_lt, ji_le, ji_inj, jl_inj, jl_lt, jl_le, b1s, b2s, bEs, bEe, rIs, rIn, rIJ, rJs, rJn, rJI, ifp, ifn, if_true, if_false, u1, u2, isIn_n, noN1]
      exact ⟨th T 1, _, rfl, rel_fr h (FrS.refl S) th_fr, Or.inr ⟨(6, 1), by simp, rfl, th_17⟩⟩
    · simp (disch := omega) only [i0, i1, i2, i3, i4, i5, i6, i7, i8, i12, i16, i20, i30, i39, i40, i60, i64, i97, i100, i256, i1000, i10000, im1, im20, im60, l0, l1, l2, l3, l4, l5, l8, l10000, l1e9, lm10000, jl_add, jl_sub, jl_mul, jl_neg, ji_add, ji_sub, ji_mul, ji_neg, ji_l, jl_i, rL_n, rI_n, dL_n, dI_n, mnI_j, mxI_j, ji_nat, rest_j, part_n, whole_j, times_j, kc_0, kc_gt, kc_lt, kc_le, kc_ge, ji_lt, ji_le, ji_inj, jl_inj, jl_lt, jl_le, b1s, b2s, bEs, bEe, rIs, rIn, rIJ, rJs, rJn, rJI, ifp, ifn, if_true, if_false, u1, u2, isIn_n, noN1]
      exact ⟨th T 1, _, rfl, rel_fr h (FrS.refl S) th_fr, Or.inr ⟨(6, 1), by simp, rfl, th_17⟩⟩
theorem clrC : ∀ (N k : Nat) (S : St), k ≤ 16 → 16 - k < N → ∃ S' : St, itr (fun (q : Int32 × St) k => s_X1_clearTo_7 (fun (x2 : Int32) (S : St) => k (x2, S)) q.1 q.2) N (ji k, S) = some S' ∧ S'.2 = S.2 ∧ (∀ o i : Nat, ¬ (o = 10 ∧ k ≤ i) → S'.1 o i = S.1 o i) ∧ ∀ i : Nat, k ≤ i → i < 16 → S'.1 10 i = ji 0
  | 0, _, _, _, h => absurd h (Nat.not_lt_zero _)
  | N + 1, k, S, hk, hN => by
    rw [itrS]
    have IH := clrC N (k + 1)
    generalize itr _ N = K at IH
    show ∃ S' : St, s_X1_clearTo_7 _ (ji k) S = _ ∧ _
    unfold s_X1_clearTo_7
    by_cases h7 : 16 ≤ k
    · have : k = 16 := by omega
      subst this
      refine ⟨S, ?_, rfl, fun _ _ _ => rfl, fun i a b => by omega⟩
      simp (disch := omega) only [i0, i1, i2, i3, i4, i5, i6, i7, i8, i12, i16, i20, i30, i39, i40, i60, i64, i97, i100, i256, i1000, i10000, im1, im20, im60, l0, l1, l2, l3, l4, l5, l8, l10000, l1e9, lm10000, jl_add, jl_sub, jl_mul, jl_neg, ji_add, ji_sub, ji_mul, ji_neg, ji_l, jl_i, rL_n, rI_n, dL_n, dI_n, mnI_j, mxI_j, ji_nat, rest_j, part_n, whole_j, times_j, kc_0, kc_gt, kc_lt, kc_le, kc_ge, ji_lt, ji_le, ji_inj, jl_inj, jl_lt, jl_le, b1s, b2s, bEs, bEe, rIs, rIn, rIJ, rJs, rJn, rJI, ifp, ifn, if_true, if_false]
    · obtain ⟨S', a1, a2, a3, a4⟩ := IH (wI S 10 k (ji 0)) (by omega) (by omega)
      refine ⟨S', ?_, a2, fun o i q => ?_, fun i q1 q2 => ?_⟩
      · simp (disch := omega) only [i0, i1, i2, i3, i4, i5, i6, i7, i8, i12, i16, i20, i30, i39, i40, i60, i64, i97, i100, i256, i1000, i10000, im1, im20, im60, l0, l1, l2, l3, l4, l5, l8, l10000, l1e9, lm10000, jl_add, jl_sub, jl_mul, jl_neg, ji_add, ji_sub, ji_mul, ji_neg, ji_l, jl_i, rL_n, rI_n, dL_n, dI_n, mnI_j, mxI_j, ji_nat, rest_j, part_n, whole_j, times_j, kc_0, kc_gt, kc_lt, kc_le, kc_ge, ji_lt, ji_le, ji_inj, jl_inj, jl_lt, jl_le, b1s, b2s, bEs, bEe, rIs, rIn, rIJ, rJs, rJn, rJI, ifp, ifn, if_true, if_false, Int.toNat_natCast]
        rw [show (k : Int) + 1 = ((k + 1 : Nat) : Int) by omega]
        exact a1
      · rw [a3 o i (by omega), rIn (by omega)]
      · by_cases hi : i = k
        · subst hi
          rw [a3 _ _ (by omega), rIs]
        · exact a4 i (by omega) q2
theorem clrM {v : Int32} : ∀ (N k : Nat) (T : St), k ≤ 16 → 16 - k < N → ∃ T' : St, itr (fun (q : Int32 × Int32 × St) k => s_X10_setSize_31 (fun (x2 : Int32) (x3 : Int32) (S : St) => k (x2, x3, S)) q.1 q.2.1 q.2.2) N (v, ji k, T) = some (v, T') ∧ T'.2 = T.2 ∧ (∀ o i : Nat, ¬ (o = 15 ∧ k ≤ i) → T'.1 o i = T.1 o i) ∧ ∀ i : Nat, k ≤ i → i < 16 → T'.1 15 i = ji 0
  | 0, _, _, _, h => absurd h (Nat.not_lt_zero _)
  | N + 1, k, T, hk, hN => by
    rw [itrS]
    have IH := clrM (v := v) N (k + 1)
    generalize itr _ N = K at IH
    show ∃ T' : St, s_X10_setSize_31 _ v (ji k) T = _ ∧ _
    unfold s_X10_setSize_31
    by_cases h7 : 16 ≤ k
    · have : k = 16 := by omega
      subst this
      refine ⟨T, ?_, rfl, fun _ _ _ => rfl, fun i a b => by omega⟩
      simp (disch := omega) only [i0, i1, i2, i3, i4, i5, i6, i7, i8, i12, i16, i20, i30, i39, i40, i60, i64, i97, i100, i256, i1000, i10000, im1, im20, im60, l0, l1, l2, l3, l4, l5, l8, l10000, l1e9, lm10000, jl_add, jl_sub, jl_mul, jl_neg, ji_add, ji_sub, ji_mul, ji_neg, ji_l, jl_i, rL_n, rI_n, dL_n, dI_n, mnI_j, mxI_j, ji_nat, rest_j, part_n, whole_j, times_j, kc_0, kc_gt, kc_lt, kc_le, kc_ge, ji_lt, ji_le, ji_inj, jl_inj, jl_lt, jl_le, b1s, b2s, bEs, bEe, rIs, rIn, rIJ, rJs, rJn, rJI, ifp, ifn, if_true, if_false]
    · obtain ⟨T', a1, a2, a3, a4⟩ := IH (wI T 15 k (ji 0)) (by omega) (by omega)
      refine ⟨T', ?_, a2, fun o i q => ?_, fun i q1 q2 => ?_⟩
      · simp (disch := omega) only [i0, i1, i2, i3, i4, i5, i6, i7, i8, i12, i16, i20, i30, i39, i40, i60, i64, i97, i100, i256, i1000, i10000, im1, im20, im60, l0, l1, l2, l3, l4, l5, l8, l10000, l1e9, lm10000, jl_add, jl_sub, jl_mul, jl_neg, ji_add, ji_sub, ji_mul, ji_neg, ji_l, jl_i, rL_n, rI_n, dL_n, dI_n, mnI_j, mxI_j, ji_nat, rest_j, part_n, whole_j, times_j, kc_0, kc_gt, kc_lt, kc_le, kc_ge, ji_lt, ji_le, ji_inj, jl_inj, jl_lt, jl_le, b1s, b2s, bEs, bEe, rIs, rIn, rIJ, rJs, rJn, rJI, ifp, ifn, if_true, if_false, Int.toNat_natCast]
        rw [show (k : Int) + 1 = ((k + 1 : Nat) : Int) by omega]
        exact a1
      · rw [a3 o i (by omega), rIn (by omega)]
      · by_cases hi : i = k
        · subst hi
          rw [a3 _ _ (by omega), rIs]
        · exact a4 i (by omega) q2
theorem T_setSize {S T : St} (h : Rel S T) (a : Int32) : An [(1, 1)] (f_X9_setSize a S) (f_X10_setSize a T) := by
  obtain ⟨a, rfl, ha⟩ := ji_ex a
  have hh := h
  obtain ⟨p, r, cnt, num, early, D, C, bc, cn, pc, rowc, rv, sz, en, hh⟩ := hh
  have h4 := hh.2.2.2
  obtain ⟨v1, v2, v3, v4, v5⟩ := h4
  have m22 : (th T 0).1 0 22 = ji sz := (th_n (by omega)).trans v2
  by_cases hz : 1 ≤ a ∧ a ≤ 4
  · obtain ⟨S', a1, a2, a3, a4⟩ := clrC FU 0 (wI S 2 0 (ji a)) (by omega) (FU_lt (by omega))
    obtain ⟨T', b1', b2', b3, b4⟩ := clrM (v := ji sz) FU 0 (wI (th T 0) 0 22 (ji a)) (by omega) (FU_lt (by omega))
    have a1 : f_X1_clearTo (ji a) S = some S' := a1
    have b1' : n_X10_setSize_31 (ji sz) (ji 0) (wI (th T 0) 0 22 (ji a)) = some (ji sz, T') := b1'
    unfold f_X9_setSize f_X10_setSize
    simp (disch := omega) only [i0, i1, i2, i3, i4, i5, i6, i7, i8, i12, i16, i20, i30, i39, i40, i60, i64, i97, i100, i256, i1000, i10000, im1, im20, im60, l0, l1, l2, l3, l4, l5, l8, l10000, l1e9, lm10000, jl_add, jl_sub, jl_mul, jl_neg, ji_add, ji_sub, ji_mul, ji_neg, ji_l, jl_i, rL_n, rI_n, dL_n, dI_n, mnI_j, mxI_j, ji_nat, rest_j, part_n, whole_j, times_j, kc_0, kc_gt, kc_lt, kc_le, kc_ge, ji_lt, ji_le, ji_inj, jl_inj, jl_lt, jl_le, b1s, b2s, bEs, bEe, rIs, rIn, rIJ, rJs, rJn, rJI, ifp, ifn, if_true, if_false, needW_y, isIn_y, noY, m22, v1, a1, b1']
    refine ⟨S', T', _, rfl, ?_, Or.inl ⟨rfl, ?_⟩⟩
    rotate_left
    · rw [b3 _ _ (by omega), rIn (by omega)]; exact th_17
    · refine rel_x (sz' := a.toNat) (en' := fun _ => 0) hh (fun o i q1 q2 => ?_) a2 (fun o i q1 q2 => ?_) b2' ⟨?_, ?_, by omega, by omega, fun k hk => ⟨a4 k (by omega) hk, b4 k (by omega) hk, by show (-999 : Int) ≤ 0; omega, by show (0 : Int) ≤ 999; omega⟩⟩
      · rw [a3 _ _ (by omega), rIn (by omega)]
      · rw [b3 _ _ (by omega), rIn (by omega), th_n (by omega)]
      · rw [a3 _ _ (by omega), rIs, show ((a.toNat : Nat) : Int) = a by omega]
      · rw [b3 _ _ (by omega), rIs, show ((a.toNat : Nat) : Int) = a by omega]
  · unfold f_X9_setSize f_X10_setSize
    simp (disch := omega) only [i0, i1, i2, i3, i4, i5, i6, i7, i8, i12, i16, i20, i30, i39, i40, i60, i64, i97, i100, i256, i1000, i10000, im1, im20, im60, l0, l1, l2, l3, l4, l5, l8, l10000, l1e9, lm10000, jl_add, jl_sub, jl_mul, jl_neg, ji_add, ji_sub, ji_mul, ji_neg, ji_l, jl_i, rL_n, rI_n, dL_n, dI_n, mnI_j, mxI_j, ji_nat, rest_j, part_n, whole_j, times_j, kc_0, kc_gt, kc_lt, kc_le, kc_ge, ji_lt, ji_le, ji_inj, jl_inj, jl_lt, jl_le, b1s, b2s, bEs, bEe, rIs, rIn, rIJ, rJs, rJn, rJI, ifp, ifn, if_true, if_false, needW_n, isIn_n, noN1]
    exact ⟨S, th T 1, ji 0, rfl, rel_fr h (FrS.refl S) th_fr, Or.inr ⟨(1, 1), by simp, rfl, th_17⟩⟩
theorem has_y {S : St} {sz : Nat} {a b : Int} (h : S.1 2 0 = ji sz) (hs : sz ≤ 4) (ha : 0 ≤ a ∧ a < sz) (hb : 0 ≤ b ∧ b < sz) : f_X1_has (ji a) (ji b) S = some (ji 1) := by
  unfold f_X1_has
  rw [h]
  simp (disch := omega) only [i0, i1, i2, i3, i4, i5, i6, i7, i8, i12, i16, i20, i30, i39, i40, i60, i64, i97, i100, i256, i1000, i10000, im1, im20, im60, l0, l1, l2, l3, l4, l5, l8, l10000, l1e9, lm10000, jl_add, jl_sub, jl_mul, jl_neg, ji_add, ji_sub, ji_mul, ji_neg, ji_l, jl_i, rL_n, rI_n, dL_n, dI_n, mnI_j, mxI_j, ji_nat, rest_j, part_n, whole_j, times_j, kc_0, kc_gt, kc_lt, kc_le, kc_ge, ji_lt, ji_le, ji_inj, jl_inj, jl_lt, jl_le, b1s, b2s, bEs, bEe, rIs, rIn, rIJ, rJs, rJn, rJI, ifp, ifn, if_true, if_false]
theorem has_n {S : St} {sz : Nat} {a b : Int} (h : S.1 2 0 = ji sz) (hs : sz ≤ 4) (ra : -2147483648 ≤ a ∧ a < 2147483648) (rb : -2147483648 ≤ b ∧ b < 2147483648) (hn : ¬ ((0 ≤ a ∧ a < sz) ∧ (0 ≤ b ∧ b < sz))) : f_X1_has (ji a) (ji b) S = some (ji 0) := by
  unfold f_X1_has
  rw [h]
  by_cases h0 : a < 0
  · simp (disch := omega) only [i0, i1, i2, i3, i4, i5, i6, i7, i8, i12, i16, i20, i30, i39, i40, i60, i64, i97, i100, i256, i1000, i10000, im1, im20, im60, l0, l1, l2, l3, l4, l5, l8, l10000, l1e9, lm10000, jl_add, jl_sub, jl_mul, jl_neg, ji_add, ji_sub, ji_mul, ji_neg, ji_l, jl_i, rL_n, rI_n, dL_n, dI_n, mnI_j, mxI_j, ji_nat, rest_j, part_n, whole_j, times_j, kc_0, kc_gt, kc_lt, kc_le, kc_ge, ji_lt, ji_le, ji_inj, jl_inj, jl_lt, jl_le, b1s, b2s, bEs, bEe, rIs, rIn, rIJ, rJs, rJn, rJI, ifp, ifn, if_true, if_false]
  · by_cases h1 : (sz : Int) ≤ a
    · simp (disch := omega) only [i0, i1, i2, i3, i4, i5, i6, i7, i8, i12, i16, i20, i30, i39, i40, i60, i64, i97, i100, i256, i1000, i10000, im1, im20, im60, l0, l1, l2, l3, l4, l5, l8, l10000, l1e9, lm10000, jl_add, jl_sub, jl_mul, jl_neg, ji_add, ji_sub, ji_mul, ji_neg, ji_l, jl_i, rL_n, rI_n, dL_n, dI_n, mnI_j, mxI_j, ji_nat, rest_j, part_n, whole_j, times_j, kc_0, kc_gt, kc_lt, kc_le, kc_ge, ji_lt, ji_le, ji_inj, jl_inj, jl_lt, jl_le, b1s, b2s, bEs, bEe, rIs, rIn, rIJ, rJs, rJn, rJI, ifp, ifn, if_true, if_false]
    · by_cases h2 : b < 0
      · simp (disch := omega) only [i0, i1, i2, i3, i4, i5, i6, i7, i8, i12, i16, i20, i30, i39, i40, i60, i64, i97, i100, i256, i1000, i10000, im1, im20, im60, l0, l1, l2, l3, l4, l5, l8, l10000, l1e9, lm10000, jl_add, jl_sub, jl_mul, jl_neg, ji_add, ji_sub, ji_mul, ji_neg, ji_l, jl_i, rL_n, rI_n, dL_n, dI_n, mnI_j, mxI_j, ji_nat, rest_j, part_n, whole_j, times_j, kc_0, kc_gt, kc_lt, kc_le, kc_ge, ji_lt, ji_le, ji_inj, jl_inj, jl_lt, jl_le, b1s, b2s, bEs, bEe, rIs, rIn, rIJ, rJs, rJn, rJI, ifp, ifn, if_true, if_false]
      · simp (disch := omega) only [i0, i1, i2, i3, i4, i5, i6, i7, i8, i12, i16, i20, i30, i39, i40, i60, i64, i97, i100, i256, i1000, i10000, im1, im20, im60, l0, l1, l2, l3, l4, l5, l8, l10000, l1e9, lm10000, jl_add, jl_sub, jl_mul, jl_neg, ji_add, ji_sub, ji_mul, ji_neg, ji_l, jl_i, rL_n, rI_n, dL_n, dI_n, mnI_j, mxI_j, ji_nat, rest_j, part_n, whole_j, times_j, kc_0, kc_gt, kc_lt, kc_le, kc_ge, ji_lt, ji_le, ji_inj, jl_inj, jl_lt, jl_le, b1s, b2s, bEs, bEe, rIs, rIn, rIJ, rJs, rJn, rJI, ifp, ifn, if_true, if_false]
theorem T_setEntry {S T : St} (h : Rel S T) (a b c : Int32) : An [(3, 1), (1, 2)] (f_X9_setEntry a b c S) (f_X10_setEntry a b c T) := by
  obtain ⟨a, rfl, ha⟩ := ji_ex a
  obtain ⟨b, rfl, hb⟩ := ji_ex b
  obtain ⟨c, rfl, hc⟩ := ji_ex c
  have hh := h
  obtain ⟨p, r, cnt, num, early, D, C, bc, cn, pc, rowc, rv, sz, en, hh⟩ := hh
  have h4 := hh.2.2.2
  obtain ⟨v1, v2, v3, v4, v5⟩ := h4
  have w1 : (-999 : Int32) = ji (-999) := rfl
  have w2 : (999 : Int32) = ji 999 := rfl
  have w3 : (-999 : Int64) = jl (-999) := rfl
  have w4 : (999 : Int64) = jl 999 := rfl
  by_cases hab : (0 ≤ a ∧ a < sz) ∧ (0 ≤ b ∧ b < sz)
  · obtain ⟨⟨a1, a2⟩, b1', b2'⟩ := hab
    have hy := has_y (S := S) v1 v4 ⟨a1, a2⟩ ⟨b1', b2'⟩
    have ea : a * 4 = 4 * a := Int.mul_comm _ _
    obtain ⟨q1, q2, q3, q4⟩ := v5 (4 * a + b).toNat (by omega)
    have m15 : (th T 0).1 15 (4 * a + b).toNat = ji (en (4 * a + b).toNat) := (th_n (by omega)).trans q2
    by_cases hz : -999 ≤ c ∧ c ≤ 999
    · have kC : f_X9_setEntry (ji a) (ji b) (ji c) S = some (.ok (ji (en (4 * a + b).toNat)), wI S 10 (4 * a + b).toNat (ji c)) := by
        unfold f_X9_setEntry f_X1_replace f_X1_entryAt
        rw [w1, w2]
        simp (disch := omega) only [i0, i1, i2, i3, i4, i5, i6, i7, i8, i12, i16, i20, i30, i39, i40, i60, i64, i97, i100, i256, i1000, i10000, im1, im20, im60, l0, l1, l2, l3, l4, l5, l8, l10000, l1e9, lm10000, jl_add, jl_sub, jl_mul, jl_neg, ji_add, ji_sub, ji_mul, ji_neg, ji_l, jl_i, rL_n, rI_n, dL_n, dI_n, mnI_j, mxI_j, ji_nat, rest_j, part_n, whole_j, times_j, kc_0, kc_gt, kc_lt, kc_le, kc_ge, ji_lt, ji_le, ji_inj, jl_inj, jl_lt, jl_le, b1s, b2s, bEs, bEe, rIs, rIn, rIJ, rJs, rJn, rJI, ifp, ifn, if_true, if_false, hy, needW_y, ea, q1]
      have kM : f_X10_setEntry (ji a) (ji b) (ji c) T = some (ji (en (4 * a + b).toNat), wI (th T 0) 15 (4 * a + b).toNat (ji c)) := by
        unfold f_X10_setEntry n_X10_setEntry_38
        rw [w3, w4]
        simp (disch := omega) only [i0, i1, i2, i3, i4, i5, i6, i7, i8, i12, i16, i20, i30, i39, i40, i60, i64, i97, i100, i256, i1000, i10000, im1, im20, im60, l0, l1, l2, l3, l4, l5, l8, l10000, l1e9, lm10000, jl_add, jl_sub, jl_mul, jl_neg, ji_add, ji_sub, ji_mul, ji_neg, ji_l, jl_i, rL_n, rI_n, dL_n, dI_n, mnI_j, mxI_j, ji_nat, rest_j, part_n, whole_j, times_j, kc_0, kc_gt, kc_lt, kc_le, kc_ge, ji_lt, ji_le, ji_inj, jl_inj, jl_lt, jl_le, b1s, b2s, bEs, bEe, rIs, rIn, rIJ, rJs, rJn, rJI, ifp, ifn, if_true, if_false, v2, isIn_y, noY, th_th, m15]
      refine ⟨_, _, _, kM, ?_, Or.inl ⟨kC, ?_⟩⟩
      rotate_left
      · rw [rIn (by omega)]; exact th_17
      · obtain ⟨en', e1, e2⟩ : ∃ en' : Nat → Int, en' (4 * a + b).toNat = c ∧ ∀ j : Nat, j ≠ (4 * a + b).toNat → en' j = en j := ⟨fun j => if j = (4 * a + b).toNat then c else en j, if_pos rfl, fun j hj => if_neg hj⟩
        refine rel_x (sz' := sz) (en' := en') hh (fun o i q1 q2 => rIn (by omega)) rfl (fun o i q1 q2 => (rIn (by omega)).trans (th_n (by omega))) rfl ⟨?_, ?_, v3, v4, fun k hk => ?_⟩
        · rw [rIn (by omega)]; exact v1
        · rw [rIn (by omega)]; exact (th_n (by omega)).trans v2
        · by_cases hj : k = (4 * a + b).toNat
          · rw [hj, e1]
            exact ⟨rIs, rIs, hz⟩
          · rw [e2 k hj, rIn (by omega), rIn (by omega), th_n (by omega)]
            exact v5 k hk
    · unfold f_X9_setEntry f_X10_setEntry n_X10_setEntry_38
      rw [w1, w2, w3, w4]
      simp (disch := omega) only [i0, i1, i2, i3, i4, i5, i6, i7, i8, i12, i16, i20, i30, i39, i40, i60, i64, i97, i100, i256, i1000, i10000, im1, im20, im60, l0, l1, l2, l3, l4, l5, l8, l10000, l1e9, lm10000, jl_add, jl_sub, jl_mul, jl_neg, ji_add, ji_sub, ji_mul, ji_neg, ji_l, jl_i, rL_n, rI_n, dL_n, dI_n, mnI_j, mxI_j, ji_nat, rest_j, part_n, whole_j, times_j, kc_0, kc_gt, kc_lt, kc_le, kc_ge, ji_lt, ji_le, ji_inj, jl_inj, jl_lt, jl_le, b1s, b2s, bEs, bEe, rIs, rIn, rIJ, rJs, rJn, rJI, ifp, ifn, if_true, if_false, hy, needW_n, v2, isIn_y, isIn_n, noY, noN2, th_th]
      exact ⟨S, th T 2, ji 0, rfl, rel_fr h (FrS.refl S) th_fr, Or.inr ⟨(1, 2), by simp, rfl, th_17⟩⟩
  · have hn := has_n (S := S) v1 v4 ha hb hab
    have kM : f_X10_setEntry (ji a) (ji b) (ji c) T = some (ji 0, th T 1) := by
      unfold f_X10_setEntry n_X10_setEntry_38
      by_cases h0 : 0 ≤ a ∧ a < sz
      · simp (disch := omega) only [i0, i1, i2, i3, i4, i5, i6, i7, i8, i12, i16, i20, i30, i39, i40, i60, i64, i97, i100, i256, i1000, i10000, im1, im20, im60, l0, l1, l2, l3, l4, l5, l8, l10000, l1e9, lm10000, jl_add, jl_sub, jl_mul, jl_neg, ji_add, ji_sub, ji_mul, ji_neg, ji_l, jl_i, rL_n, rI_n, dL_n, dI_n, mnI_j, mxI_j, ji_nat, rest_j, part_n, whole_j, times_j, kc_0, kc_gt, kc_lt, kc_le, kc_ge, ji_lt, ji_le, ji_inj, jl_inj, jl_lt, jl_le, b1s, b2s, bEs, bEe, rIs, rIn, rIJ, rJs, rJn, rJI, ifp, ifn, if_true, if_false, v2, isIn_y, isIn_n, noN1]
      · simp (disch := omega) only [i0, i1, i2, i3, i4, i5, i6, i7, i8, i12, i16, i20, i30, i39, i40, i60, i64, i97, i100, i256, i1000, i10000, im1, im20, im60, l0, l1, l2, l3, l4, l5, l8, l10000, l1e9, lm10000, jl_add, jl_sub, jl_mul, jl_neg, ji_add, ji_sub, ji_mul, ji_neg, ji_l, jl_i, rL_n, rI_n, dL_n, dI_n, mnI_j, mxI_j, ji_nat, rest_j, part_n, whole_j, times_j, kc_0, kc_gt, kc_lt, kc_le, kc_ge, ji_lt, ji_le, ji_inj, jl_inj, jl_lt, jl_le, b1s, b2s, bEs, bEe, rIs, rIn, rIJ, rJs, rJn, rJI, ifp, ifn, if_true, if_false, v2, isIn_n, noN1]
    rw [kM]
    unfold f_X9_setEntry
    simp (disch := omega) only [i0, i1, i2, i3, i4, i5, i6, i7, i8, i12, i16, i20, i30, i39, i40, i60, i64, i97, i100, i256, i1000, i10000, im1, im20, im60, l0, l1, l2, l3, l4, l5, l8, l10000, l1e9, lm10000, jl_add, jl_sub, jl_mul, jl_neg, ji_add, ji_sub, ji_mul, ji_neg, ji_l, jl_i, rL_n, rI_n, dL_n, dI_n, mnI_j, mxI_j, ji_nat, rest_j, part_n, whole_j, times_j, kc_0, kc_gt, kc_lt, kc_le, kc_ge, ji_lt, ji_le, ji_inj, jl_inj, jl_lt, jl_le, b1s, b2s, bEs, bEe, rIs, rIn, rIJ, rJs, rJn, rJI, ifp, ifn, if_true, if_false, hn]
    exact ⟨S, th T 1, ji 0, rfl, rel_fr h (FrS.refl S) th_fr, Or.inr ⟨(3, 1), by simp, rfl, th_17⟩⟩
