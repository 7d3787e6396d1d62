theorem initC {S : St} {a : Int} (ha : 0 ≤ a ∧ a < 40) : ∀ (N k : Nat) (S1 : St), k ≤ 40 → FrS S S1 → (∀ j : Nat, j < k → S1.1 (12 + j) 7 = ji (if (j : Int) = a then 1 else 0)) → 40 - k < N →
    ∃ S2 : St, itr (fun (q : Int32 × Int32 × St) k => s_X5_markFractionsUnder_2 (fun (x1 : Int32) (x2 : Int32) (S : St) => k (x1, x2, S)) q.1 q.2.1 q.2.2) N (ji a, ji k, S1) = n_X5_markFractionsUnder_50 (ji 0) (ji a) S2 ∧ FrS S S2 ∧ ∀ j : Nat, j < 40 → S2.1 (12 + j) 7 = ji (if (j : Int) = a then 1 else 0)
  | 0, _, _, _, _, _, h => absurd h (Nat.not_lt_zero _)
  | N + 1, k, S1, hk, fS, hm, hN => by
    rw [itrS]
    have IH := initC (S := S) ha N (k + 1)
    generalize itr _ N = K at IH
    show ∃ S2 : St, s_X5_markFractionsUnder_2 _ (ji a) (ji k) S1 = _ ∧ _
    unfold s_X5_markFractionsUnder_2
    by_cases hc : 40 ≤ k
    · have : k = 40 := by omega
      subst this
      refine ⟨S1, ?_, fS, hm⟩
      simp (disch := omega) only [i0, i1, i2, i3, i4, i5, i6, i7, i8, i12, i16, i20, i30, i39, i40, i60, i64, i97, i100, i256, i1000, i10000, im1, im20, im60, l0, l1, l2, l3, l4, l5, l8, l10000, l1e9, lm10000, jl_add, jl_sub, jl_mul, jl_neg, ji_add, ji_sub, ji_mul, ji_neg, ji_l, jl_i, rL_n, rI_n, dL_n, dI_n, mnI_j, mxI_j, ji_nat, rest_j, part_n, whole_j, times_j, kc_0, kc_gt, kc_lt, kc_le, kc_ge, ji_lt, ji_le, ji_inj, jl_inj, jl_lt, jl_le, b1s, b2s, bEs, bEe, rIs, rIn, rIJ, rJs, rJn, rJI, ifp, ifn, if_true, if_false]
      rw [show min a (40 - 1) = a by omega]
    · have step : ∀ v : Int, v = (if (k : Int) = a then 1 else 0) → ∃ S2 : St, K (ji a, ji ((k + 1 : Nat) : Int), wI S1 (12 + k) 7 (ji v)) = n_X5_markFractionsUnder_50 (ji 0) (ji a) S2 ∧ FrS S S2 ∧ ∀ j : Nat, j < 40 → S2.1 (12 + j) 7 = ji (if (j : Int) = a then 1 else 0) := by
        intro v hv
        refine IH _ (by omega) (fS.trans ⟨fun o i a b c => rIn (by omega), fun _ _ _ _ _ => rfl⟩) (fun j hj => ?_) (by omega)
        by_cases hjk : j = k
        · subst hjk; rw [rIs, hv]
        · rw [rIn (by omega)]; exact hm j (by omega)
      simp (disch := omega) only [i0, i1, i2, i3, i4, i5, i6, i7, i8, i12, i16, i20, i30, i39, i40, i60, i64, i97, i100, i256, i1000, i10000, im1, im20, im60, l0, l1, l2, l3, l4, l5, l8, l10000, l1e9, lm10000, jl_add, jl_sub, jl_mul, jl_neg, ji_add, ji_sub, ji_mul, ji_neg, ji_l, jl_i, rL_n, rI_n, dL_n, dI_n, mnI_j, mxI_j, ji_nat, rest_j, part_n, whole_j, times_j, kc_0, kc_gt, kc_lt, kc_le, kc_ge, ji_lt, ji_le, ji_inj, jl_inj, jl_lt, jl_le, b1s, b2s, bEs, bEe, rIs, rIn, rIJ, rJs, rJn, rJI, ifp, ifn, if_true, if_false, Int.toNat_natCast]
      rw [show (k : Int) + 1 = ((k + 1 : Nat) : Int) by omega]
      by_cases hka : (k : Int) = a
      · rw [if_pos hka]
        exact step 1 (by rw [if_pos hka])
      · rw [if_neg hka]
        exact step 0 (by rw [if_neg hka])
theorem initM {T : St} {a : Int} {cnt : Nat} (hc40 : cnt ≤ 40) (h19 : T.1 0 19 = ji cnt) (ha : 0 ≤ a ∧ a < cnt) : ∀ (N k : Nat) (T1 : St), k ≤ cnt → FrT T T1 → (∀ j : Nat, j < k → T1.1 9 j = ji (if (j : Int) = a then 1 else 0)) → cnt - k < N →
    ∃ T2 : St, itr (fun (q : Int32 × Int32 × St) k => s_X10_hangsOn_2 (fun (x1 : Int32) (x2 : Int32) (S : St) => k (x1, x2, S)) q.1 q.2.1 q.2.2) N (ji a, ji k, T1) = n_X10_hangsOn_36 (ji 0) (ji a) T2 ∧ FrT T T2 ∧ ∀ j : Nat, j < cnt → T2.1 9 j = ji (if (j : Int) = a then 1 else 0)
  | 0, _, _, _, _, _, h => absurd h (Nat.not_lt_zero _)
  | N + 1, k, T1, hk, fT, hm, hN => by
    rw [itrS]
    have IH := initM hc40 h19 ha N (k + 1)
    generalize itr _ N = K at IH
    show ∃ T2 : St, s_X10_hangsOn_2 _ (ji a) (ji k) T1 = _ ∧ _
    unfold s_X10_hangsOn_2
    have q19 : T1.1 0 19 = ji cnt := (fT.1 _ _ (by omega) (by omega) (by omega) (by omega)).trans h19
    by_cases hc : cnt ≤ k
    · have : k = cnt := by omega
      subst this
      refine ⟨T1, ?_, fT, hm⟩
      simp (disch := omega) only [i0, i1, i2, i3, i4, i5, i6, i7, i8, i12, i16, i20, i30, i39, i40, i60, i64, i97, i100, i256, i1000, i10000, im1, im20, im60, l0, l1, l2, l3, l4, l5, l8, l10000, l1e9, lm10000, jl_add, jl_sub, jl_mul, jl_neg, ji_add, ji_sub, ji_mul, ji_neg, ji_l, jl_i, rL_n, rI_n, dL_n, dI_n, mnI_j, mxI_j, ji_nat, rest_j, part_n, whole_j, times_j, kc_0, kc_gt, kc_lt, kc_le, kc_ge, ji_lt, ji_le, ji_inj, jl_inj, jl_lt, jl_le, b1s, b2s, bEs, bEe, rIs, rIn, rIJ, rJs, rJn, rJI, ifp, ifn, if_true, if_false, q19]
    · have step : ∀ v : Int, v = (if (k : Int) = a then 1 else 0) → ∃ T2 : St, K (ji a, ji ((k + 1 : Nat) : Int), wI T1 9 k (ji v)) = n_X10_hangsOn_36 (ji 0) (ji a) T2 ∧ FrT T T2 ∧ ∀ j : Nat, j < cnt → T2.1 9 j = ji (if (j : Int) = a then 1 else 0) := by
        intro v hv
        refine IH _ (by omega) (fT.trans ⟨fun o i a b c d => rIn (by omega), fun _ _ _ => rfl⟩) (fun j hj => ?_) (by omega)
        by_cases hjk : j = k
        · subst hjk; rw [rIs, hv]
        · rw [rIn (by omega)]; exact hm j (by omega)
      have v1 := vpn 1 (Or.inr rfl)
      have v0 := vpn 0 (Or.inl rfl)
      simp (disch := omega) only [i0, i1, i2, i3, i4, i5, i6, i7, i8, i12, i16, i20, i30, i39, i40, i60, i64, i97, i100, i256, i1000, i10000, im1, im20, im60, l0, l1, l2, l3, l4, l5, l8, l10000, l1e9, lm10000, jl_add, jl_sub, jl_mul, jl_neg, ji_add, ji_sub, ji_mul, ji_neg, ji_l, jl_i, rL_n, rI_n, dL_n, dI_n, mnI_j, mxI_j, ji_nat, rest_j, part_n, whole_j, times_j, kc_0, kc_gt, kc_lt, kc_le, kc_ge, ji_lt, ji_le, ji_inj, jl_inj, jl_lt, jl_le, b1s, b2s, bEs, bEe, rIs, rIn, rIJ, rJs, rJn, rJI, ifp, ifn, if_true, if_false, Int.toNat_natCast, q19, v1, v0]
      rw [show (k : Int) + 1 = ((k + 1 : Nat) : Int) by omega]
      by_cases hka : (k : Int) = a
      · rw [if_pos hka]
        exact step 1 (by rw [if_pos hka])
      · rw [if_neg hka]
        exact step 0 (by rw [if_neg hka])
/-- both sides mark the same -/
theorem marks {S T : St} {p : Int} {r cnt : Nat} {num early : Nat → Int × Int × Int} {D C : Nat → Nat → Int} {bc rowc : Nat} {cn : Nat → Nat} {a : Int} (h : RN S T p r cnt num early D C bc rowc cn) (ha : 0 ≤ a ∧ a < cnt) :
    ∃ (S2 T2 : St) (g : Int), (g = 0 ∨ g = 1) ∧ f_X5_markFractionsUnder (ji a) S = some (ji g, S2) ∧ f_X10_hangsOn (ji a) T = some (ji g, T2) ∧ FrS S S2 ∧ FrT T T2 ∧ Mk S2 T2 cnt := by
  have h40 := h.2.2.2.2.2.2.1
  obtain ⟨S1, e1, f1, m1⟩ := initC (S := S) (a := a) (by omega) FU 0 S (by omega) (FrS.refl S) (fun j hj => absurd hj (Nat.not_lt_zero _)) (FU_lt (by omega))
  obtain ⟨T1, e2, f2, m2⟩ := initM (T := T) (a := a) h40 h.2.2.2.2.2.1 ha FU 0 T (by omega) (FrT.refl T) (fun j hj => absurd hj (Nat.not_lt_zero _)) (FU_lt (by omega))
  obtain ⟨S2, T2, g, hg, k1, k2, k3, k4, k5⟩ := mark_loop h FU a 0 S1 T1 (by omega) (by omega) (Or.inl rfl) f1 f2 (fun i hi => by
    rw [m1 i (by omega), m2 i hi]
    refine ⟨rfl, ?_⟩
    split
    · exact Or.inr rfl
    · exact Or.inl rfl) (FU_lt (by omega))
  exact ⟨S2, T2, g, hg, e1.trans k1, e2.trans k2, k3, k4, k5⟩
/-- what is asked of the numbers then -/
def Dn (S : St) (D : Nat → Nat → Int) (more : Int) : Nat → Nat → Int := fun n j => if j = 5 ∧ D n 0 = 0 ∧ S.1 (12 + n) 7 = ji 1 then min (D n 5 + more) 60 else D n j
theorem Dn_n {S : St} {D : Nat → Nat → Int} {more : Int} {n j : Nat} (h : j ≠ 5) : Dn S D more n j = D n j := if_neg (fun q => h q.1)
/-- the wishes, first -/
theorem wishM {S T : St} {p : Int} {r cnt : Nat} {num early : Nat → Int × Int × Int} {D C : Nat → Nat → Int} {bc rowc : Nat} {cn : Nat → Nat} {a more : Int} (h : RN S T p r cnt num early D C bc rowc cn) (hM : Mk S T cnt) (hmore : 1 ≤ more ∧ more ≤ 20) :
    ∀ (N k : Nat) (T1 : St), k ≤ cnt → (∀ o i : Nat, o ≠ 6 → T1.1 o i = T.1 o i) → T1.2 = T.2 → (∀ n : Nat, n < cnt → D n 0 = 0 → T1.1 6 n = ji (if n < k then Dn S D more n 5 else D n 5)) → (∀ n : Nat, n < cnt → D n 0 ≠ 0 → T1.1 6 n = T.1 6 n) → cnt - k < N →
    ∃ T2 : St, itr (fun (q : Int32 × Int32 × Int32 × St) k => s_X10_refine_42 (fun (x1 : Int32) (x2 : Int32) (x3 : Int32) (S : St) => k (x1, x2, x3, S)) q.1 q.2.1 q.2.2.1 q.2.2.2) N (ji a, ji more, ji k, T1) = n_X10_refine_95 (ji a) (ji 0) T2 ∧ (∀ o i : Nat, o ≠ 6 → T2.1 o i = T.1 o i) ∧ T2.2 = T.2 ∧ (∀ n : Nat, n < cnt → D n 0 = 0 → T2.1 6 n = ji (Dn S D more n 5)) ∧ (∀ n : Nat, n < cnt → D n 0 ≠ 0 → T2.1 6 n = T.1 6 n)
  | 0, _, _, _, _, _, _, _, hN => absurd hN (Nat.not_lt_zero _)
  | N + 1, k, T1, hk, g1, g2, g3, g4, hN => by
    rw [itrS]
    have h40 := h.2.2.2.2.2.2.1
    have IH := wishM (a := a) h hM hmore N (k + 1)
    generalize itr _ N = K at IH
    show ∃ T2 : St, s_X10_refine_42 _ (ji a) (ji more) (ji k) T1 = _ ∧ _
    unfold s_X10_refine_42
    have q19 : T1.1 0 19 = ji cnt := (g1 _ _ (by omega)).trans h.2.2.2.2.2.1
    by_cases hc : cnt ≤ k
    · have : k = cnt := by omega
      subst this
      refine ⟨T1, ?_, g1, g2, fun n hn h0 => by rw [g3 n hn h0, if_pos hn], g4⟩
      simp (disch := omega) only [i0, i1, i2, i3, i4, i5, i6, i7, i8, i12, i16, i20, i30, i39, i40, i60, i64, i97, i100, i256, i1000, i10000, im1, im20, im60, l0, l1, l2, l3, l4, l5, l8, l10000, l1e9, lm10000, jl_add, jl_sub, jl_mul, jl_neg, ji_add, ji_sub, ji_mul, ji_neg, ji_l, jl_i, rL_n, rI_n, dL_n, dI_n, mnI_j, mxI_j, ji_nat, rest_j, part_n, whole_j, times_j, kc_0, kc_gt, kc_lt, kc_le, kc_ge, ji_lt, ji_le, ji_inj, jl_inj, jl_lt, jl_le, b1s, b2s, bEs, bEe, rIs, rIn, rIJ, rJs, rJn, rJI, ifp, ifn, if_true, if_false, q19]
    · obtain ⟨m1, m2⟩ := hM k (by omega)
      obtain ⟨-, -, -, -, -, -, a7, a8, a9, -, -⟩ := h.2.2.2.2.2.2.2 k (by omega)
      have pa := a9.par (by omega)
      have t9 : T1.1 9 k = T.1 9 k := g1 _ _ (by omega)
      have t3 : T1.1 3 k = ji (D k 0) := (g1 _ _ (by omega)).trans a8.1
      have same : (Dn S D more k 5 = D k 5 ∨ D k 0 ≠ 0) → ∃ T2 : St, K (ji a, ji more, ji ((k + 1 : Nat) : Int), T1) = n_X10_refine_95 (ji a) (ji 0) T2 ∧ (∀ o i : Nat, o ≠ 6 → T2.1 o i = T.1 o i) ∧ T2.2 = T.2 ∧ (∀ n : Nat, n < cnt → D n 0 = 0 → T2.1 6 n = ji (Dn S D more n 5)) ∧ (∀ n : Nat, n < cnt → D n 0 ≠ 0 → T2.1 6 n = T.1 6 n) := by
        intro hs
        refine IH T1 (by omega) g1 g2 (fun n hn h0 => ?_) g4 (by omega)
        rw [g3 n hn h0]
        by_cases hnk : n = k
        · subst hnk
          rw [if_neg (by omega), if_pos (by omega), hs.resolve_right (fun q => q h0)]
        · by_cases hlt : n < k
          · rw [if_pos hlt, if_pos (by omega)]
          · rw [if_neg hlt, if_neg (by omega)]
      by_cases hm : S.1 (12 + k) 7 = ji 0
      · have e9 : T.1 9 k = ji 0 := m1.symm.trans hm
        simp (disch := omega) only [i0, i1, i2, i3, i4, i5, i6, i7, i8, i12, i16, i20, i30, i39, i40, i60, i64, i97, i100, i256, i1000, i10000, im1, im20, im60, l0, l1, l2, l3, l4, l5, l8, l10000, l1e9, lm10000, jl_add, jl_sub, jl_mul, jl_neg, ji_add, ji_sub, ji_mul, ji_neg, ji_l, jl_i, rL_n, rI_n, dL_n, dI_n, mnI_j, mxI_j, ji_nat, rest_j, part_n, whole_j, times_j, kc_0, kc_gt, kc_lt, kc_le, kc_ge, ji_lt, ji_le, ji_inj, jl_inj, jl_lt, jl_le, b1s, b2s, bEs, bEe, rIs, rIn, rIJ, rJs, rJn, rJI, ifp, ifn, if_true, if_false, Int.toNat_natCast, q19, t9, e9]
        rw [show (k : Int) + 1 = ((k + 1 : Nat) : Int) by omega]
        refine same (Or.inl (if_neg (fun q => ?_)))
        rw [hm] at q
        exact absurd q.2.2 (by decide)
      · have hm1 := m2.resolve_left hm
        have e9 : T.1 9 k = ji 1 := m1.symm.trans hm1
        by_cases h0 : D k 0 = 0
        · have f5 : -20 ≤ D k 5 ∧ D k 5 ≤ 60 := by
            rcases a9 with ⟨_, f, -⟩ | ⟨q, -⟩ | ⟨q, -⟩ | ⟨q, -⟩ | ⟨q, -⟩ | ⟨q, -⟩ | ⟨q, -⟩ | ⟨q, -⟩ | ⟨q, -⟩
            · exact f.2.2.2.2
            all_goals omega
          have t6 := g3 k (by omega) h0
          rw [if_neg (by omega)] at t6
          have ed : Dn S D more k 5 = min 60 (D k 5 + more) := by
            unfold Dn
            rw [if_pos ⟨rfl, h0, hm1⟩]
            omega
          simp (disch := omega) only [i0, i1, i2, i3, i4, i5, i6, i7, i8, i12, i16, i20, i30, i39, i40, i60, i64, i97, i100, i256, i1000, i10000, im1, im20, im60, l0, l1, l2, l3, l4, l5, l8, l10000, l1e9, lm10000, jl_add, jl_sub, jl_mul, jl_neg, ji_add, ji_sub, ji_mul, ji_neg, ji_l, jl_i, rL_n, rI_n, dL_n, dI_n, mnI_j, mxI_j, ji_nat, rest_j, part_n, whole_j, times_j, kc_0, kc_gt, kc_lt, kc_le, kc_ge, ji_lt, ji_le, ji_inj, jl_inj, jl_lt, jl_le, b1s, b2s, bEs, bEe, rIs, rIn, rIJ, rJs, rJn, rJI, ifp, ifn, if_true, if_false, Int.toNat_natCast, q19, t9, e9, t3, t6]
          rw [show (k : Int) + 1 = ((k + 1 : Nat) : Int) by omega]
          refine IH _ (by omega) (fun o i q => by rw [rIn (by omega)]; exact g1 o i q) g2 (fun n hn hn0 => ?_) (fun n hn hn0 => ?_) (by omega)
          · by_cases hnk : n = k
            · subst hnk
              rw [rIs, if_pos (by omega), ed]
            · rw [rIn (by omega), g3 n hn hn0]
              by_cases hlt : n < k
              · rw [if_pos hlt, if_pos (by omega)]
              · rw [if_neg hlt, if_neg (by omega)]
          · have hnk : n ≠ k := fun q => by subst q; exact hn0 h0
            rw [rIn (by omega)]
            exact g4 n hn hn0
        · simp (disch := omega) only [i0, i1, i2, i3, i4, i5, i6, i7, i8, i12, i16, i20, i30, i39, i40, i60, i64, i97, i100, i256, i1000, i10000, im1, im20, im60, l0, l1, l2, l3, l4, l5, l8, l10000, l1e9, lm10000, jl_add, jl_sub, jl_mul, jl_neg, ji_add, ji_sub, ji_mul, ji_neg, ji_l, jl_i, rL_n, rI_n, dL_n, dI_n, mnI_j, mxI_j, ji_nat, rest_j, part_n, whole_j, times_j, kc_0, kc_gt, kc_lt, kc_le, kc_ge, ji_lt, ji_le, ji_inj, jl_inj, jl_lt, jl_le, b1s, b2s, bEs, bEe, rIs, rIn, rIJ, rJs, rJn, rJI, ifp, ifn, if_true, if_false, Int.toNat_natCast, q19, t9, e9, t3]
          rw [show (k : Int) + 1 = ((k + 1 : Nat) : Int) by omega]
          exact same (Or.inr h0)
/-- then all are found anew -/
theorem anew {S T T1 : St} {p : Int} {r cnt : Nat} {num early : Nat → Int × Int × Int} {D C : Nat → Nat → Int} {bc rowc : Nat} {cn : Nat → Nat} {a more : Int} (h : RN S T p r cnt num early D C bc rowc cn) (hM : Mk S T cnt) (hmore : 1 ≤ more ∧ more ≤ 20) (ha : 0 ≤ a ∧ a < cnt)
    (w1 : ∀ o i : Nat, o ≠ 6 → T1.1 o i = T.1 o i) (w2 : T1.2 = T.2) (w3 : ∀ n : Nat, n < cnt → D n 0 = 0 → T1.1 6 n = ji (Dn S D more n 5)) (w4 : ∀ n : Nat, n < cnt → D n 0 ≠ 0 → T1.1 6 n = T.1 6 n) :
    ∀ (N k : Nat) (S2 T2 : St) (num' : Nat → Int × Int × Int), k ≤ cnt →
      (∀ o i : Nat, ¬ (12 ≤ o ∧ o < 12 + k ∧ (i = 5 ∨ i = 8 ∨ i = 9)) → S2.1 o i = S.1 o i) → (∀ o i : Nat, ¬ (12 ≤ o ∧ o < 12 + k ∧ i = 10) → S2.2 o i = S.2 o i) →
      (∀ o i : Nat, o ≠ 1 → o ≠ 2 → ¬ (o = 0 ∧ (i = 23 ∨ i = 24)) → T2.1 o i = T1.1 o i) → (∀ o i : Nat, o ≠ 8 → o ≠ 0 → T2.2 o i = T1.2 o i) →
      (∀ n : Nat, n < k → NumC S2 n (num' n) ∧ NumM T2 n (num' n) ∧ Wf p r (num' n) ∧ Rf p (num' n) (num n) ∧ S2.1 (12 + n) 5 = ji (Dn S D more n 5) ∧ Pre p r (Dn S D more n) (C n) num' n ∧ DY p r (Dn S D more n) (C n) num' (num' n)) → cnt - k < N →
    ∃ (S3 T3 : St) (num3 : Nat → Int × Int × Int), itr (fun (q : Int32 × Int32 × St) k => s_X5_findMore_2 (fun (x1 : Int32) (x2 : Int32) (S : St) => k (x1, x2, S)) q.1 q.2.1 q.2.2) N (ji more, ji k, S2) = some S3 ∧
      itr (fun (q : Int32 × Int32 × St) k => s_X10_refine_95 (fun (x1 : Int32) (x3 : Int32) (S : St) => k (x1, x3, S)) q.1 q.2.1 q.2.2) N (ji a, ji k, T2) = some (T3.1 2 a.toNat, T3) ∧
      (∀ o i : Nat, ¬ (12 ≤ o ∧ o < 12 + cnt ∧ (i = 5 ∨ i = 8 ∨ i = 9)) → S3.1 o i = S.1 o i) ∧ (∀ o i : Nat, ¬ (12 ≤ o ∧ o < 12 + cnt ∧ i = 10) → S3.2 o i = S.2 o i) ∧
      (∀ o i : Nat, o ≠ 1 → o ≠ 2 → ¬ (o = 0 ∧ (i = 23 ∨ i = 24)) → T3.1 o i = T1.1 o i) ∧ (∀ o i : Nat, o ≠ 8 → o ≠ 0 → T3.2 o i = T1.2 o i) ∧
      (∀ n : Nat, n < cnt → NumC S3 n (num3 n) ∧ NumM T3 n (num3 n) ∧ Wf p r (num3 n) ∧ Rf p (num3 n) (num n) ∧ S3.1 (12 + n) 5 = ji (Dn S D more n 5) ∧ Pre p r (Dn S D more n) (C n) num3 n ∧ DY p r (Dn S D more n) (C n) num3 (num3 n))
  | 0, _, _, _, _, _, _, _, _, _, _, hN => absurd hN (Nat.not_lt_zero _)
  | N + 1, k, S2, T2, num', hk, s1, s2, t1, t2, hn, hN => by
    rw [itrS, itrS]
    have h40 := h.2.2.2.2.2.2.1
    have IH := anew h hM hmore ha w1 w2 w3 w4 N (k + 1)
    generalize itr (fun (q : Int32 × Int32 × St) k => s_X5_findMore_2 (fun (x1 : Int32) (x2 : Int32) (S : St) => k (x1, x2, S)) q.1 q.2.1 q.2.2) N = K1 at IH
    generalize itr (fun (q : Int32 × Int32 × St) k => s_X10_refine_95 (fun (x1 : Int32) (x3 : Int32) (S : St) => k (x1, x3, S)) q.1 q.2.1 q.2.2) N = K2 at IH
    show ∃ (S3 T3 : St) (num3 : Nat → Int × Int × Int), s_X5_findMore_2 (fun (x1 : Int32) (x2 : Int32) (S : St) => K1 (x1, x2, S)) (ji more) (ji k) S2 = some S3 ∧ s_X10_refine_95 (fun (x1 : Int32) (x3 : Int32) (S : St) => K2 (x1, x3, S)) (ji a) (ji k) T2 = some (T3.1 2 a.toNat, T3) ∧ _
    obtain ⟨h1, h2, ⟨N1, N2, N3⟩, h4, h5, h6, h7, h8⟩ := h
    have q3 : S2.1 1 3 = ji cnt := (s1 _ _ (by omega)).trans h5
    have q19 : T2.1 0 19 = ji cnt := (t1 _ _ (by omega) (by omega) (by omega)).trans ((w1 _ _ (by omega)).trans h6)
    by_cases hc : cnt ≤ k
    · have : k = cnt := by omega
      subst this
      refine ⟨S2, T2, num', ?_, ?_, s1, s2, t1, t2, hn⟩
      · unfold s_X5_findMore_2
        simp (disch := omega) only [i0, i1, i2, i3, i4, i5, i6, i7, i8, i12, i16, i20, i30, i39, i40, i60, i64, i97, i100, i256, i1000, i10000, im1, im20, im60, l0, l1, l2, l3, l4, l5, l8, l10000, l1e9, lm10000, jl_add, jl_sub, jl_mul, jl_neg, ji_add, ji_sub, ji_mul, ji_neg, ji_l, jl_i, rL_n, rI_n, dL_n, dI_n, mnI_j, mxI_j, ji_nat, rest_j, part_n, whole_j, times_j, kc_0, kc_gt, kc_lt, kc_le, kc_ge, ji_lt, ji_le, ji_inj, jl_inj, jl_lt, jl_le, b1s, b2s, bEs, bEe, rIs, rIn, rIJ, rJs, rJn, rJI, ifp, ifn, if_true, if_false, q3]
      · unfold s_X10_refine_95
        simp (disch := omega) only [i0, i1, i2, i3, i4, i5, i6, i7, i8, i12, i16, i20, i30, i39, i40, i60, i64, i97, i100, i256, i1000, i10000, im1, im20, im60, l0, l1, l2, l3, l4, l5, l8, l10000, l1e9, lm10000, jl_add, jl_sub, jl_mul, jl_neg, ji_add, ji_sub, ji_mul, ji_neg, ji_l, jl_i, rL_n, rI_n, dL_n, dI_n, mnI_j, mxI_j, ji_nat, rest_j, part_n, whole_j, times_j, kc_0, kc_gt, kc_lt, kc_le, kc_ge, ji_lt, ji_le, ji_inj, jl_inj, jl_lt, jl_le, b1s, b2s, bEs, bEe, rIs, rIn, rIJ, rJs, rJn, rJI, ifp, ifn, if_true, if_false, q19]
    · obtain ⟨-, -, -, -, -, -, a7, a8, a9, a10, a11⟩ := h8 k (by omega)
      obtain ⟨m1, m2⟩ := hM k (by omega)
      have s7 : S2.1 (12 + k) 7 = S.1 (12 + k) 7 := s1 _ _ (by omega)
      have s0 : S2.1 (12 + k) 0 = ji (D k 0) := (s1 _ _ (by omega)).trans (a7.1 0 (by omega))
      have s5 : S2.1 (12 + k) 5 = ji (D k 5) := (s1 _ _ (by omega)).trans (a7.1 5 (by omega))
      have d50 : D k 0 = 0 → D k 5 ≤ Dn S D more k 5 ∧ Dn S D more k 5 ≤ 60 := fun q0 => by
        have f5 : D k 5 ≤ 60 := by
          rcases a9 with ⟨_, f, -⟩ | ⟨q, -⟩ | ⟨q, -⟩ | ⟨q, -⟩ | ⟨q, -⟩ | ⟨q, -⟩ | ⟨q, -⟩ | ⟨q, -⟩ | ⟨q, -⟩
          · exact f.2.2.2.2.2
          all_goals omega
        unfold Dn
        split <;> omega
      have d5 : D k 0 ≠ 0 → Dn S D more k 5 = D k 5 := fun q0 => if_neg (fun q => q0 q.2.1)
      have dn : ∀ j : Nat, j ≠ 5 → Dn S D more k j = D k j := fun j hj => Dn_n hj
      have rfs : ∀ i : Nat, i < k → Wf p r (num i) ∧ Wf p r (num' i) ∧ Rf p (num' i) (num i) := fun i hi => ⟨(h8 i (by omega)).2.2.1, (hn i hi).2.2.1, (hn i hi).2.2.2.1⟩
      have pre' : Pre p r (Dn S D more k) (C k) num' k := pre_rf a9 rfs dn d5 d50
      -- the class asks, if it is marked
      have ask : ∃ S2' : St, s_X5_findMore_2 (fun (x1 : Int32) (x2 : Int32) (S : St) => K1 (x1, x2, S)) (ji more) (ji k) S2 = (b1 (f_X5_find k S2') fun S3 => K1 (ji more, ji ((k + 1 : Nat) : Int), S3)) ∧ S2'.1 (12 + k) 5 = ji (Dn S D more k 5) ∧ (∀ o i : Nat, ¬ (o = 12 + k ∧ i = 5) → S2'.1 o i = S2.1 o i) ∧ S2'.2 = S2.2 := by
        unfold s_X5_findMore_2 n_X5_findMore_55
        by_cases hm : S.1 (12 + k) 7 = ji 0
        · refine ⟨S2, ?_, ?_, fun _ _ _ => rfl, rfl⟩
          · rw [hm] at s7
            simp (disch := omega) only [i0, i1, i2, i3, i4, i5, i6, i7, i8, i12, i16, i20, i30, i39, i40, i60, i64, i97, i100, i256, i1000, i10000, im1, im20, im60, l0, l1, l2, l3, l4, l5, l8, l10000, l1e9, lm10000, jl_add, jl_sub, jl_mul, jl_neg, ji_add, ji_sub, ji_mul, ji_neg, ji_l, jl_i, rL_n, rI_n, dL_n, dI_n, mnI_j, mxI_j, ji_nat, rest_j, part_n, whole_j, times_j, kc_0, kc_gt, kc_lt, kc_le, kc_ge, ji_lt, ji_le, ji_inj, jl_inj, jl_lt, jl_le, b1s, b2s, bEs, bEe, rIs, rIn, rIJ, rJs, rJn, rJI, ifp, ifn, if_true, if_false, Int.toNat_natCast, q3, s7]
            rw [show (k : Int) + 1 = ((k + 1 : Nat) : Int) by omega]
          · rw [s5]
            congr 1
            exact (if_neg (fun q => by rw [hm] at q; exact absurd q.2.2 (by decide))).symm
        · have hm1 := m2.resolve_left hm
          rw [hm1] at s7
          by_cases h0 : D k 0 = 0
          · have f5 : -20 ≤ D k 5 ∧ D k 5 ≤ 60 := by
              rcases a9 with ⟨_, f, -⟩ | ⟨q, -⟩ | ⟨q, -⟩ | ⟨q, -⟩ | ⟨q, -⟩ | ⟨q, -⟩ | ⟨q, -⟩ | ⟨q, -⟩ | ⟨q, -⟩
              · exact f.2.2.2.2
              all_goals omega
            refine ⟨wI S2 (12 + k) 5 (ji (min (D k 5 + more) 60)), ?_, ?_, fun o i q => rIn q, rfl⟩
            · simp (disch := omega) only [i0, i1, i2, i3, i4, i5, i6, i7, i8, i12, i16, i20, i30, i39, i40, i60, i64, i97, i100, i256, i1000, i10000, im1, im20, im60, l0, l1, l2, l3, l4, l5, l8, l10000, l1e9, lm10000, jl_add, jl_sub, jl_mul, jl_neg, ji_add, ji_sub, ji_mul, ji_neg, ji_l, jl_i, rL_n, rI_n, dL_n, dI_n, mnI_j, mxI_j, ji_nat, rest_j, part_n, whole_j, times_j, kc_0, kc_gt, kc_lt, kc_le, kc_ge, ji_lt, ji_le, ji_inj, jl_inj, jl_lt, jl_le, b1s, b2s, bEs, bEe, rIs, rIn, rIJ, rJs, rJn, rJI, ifp, ifn, if_true, if_false, Int.toNat_natCast, q3, s7, s0, s5]
              rw [show (k : Int) + 1 = ((k + 1 : Nat) : Int) by omega]
            · rw [rIs]
              congr 1
              exact (if_pos ⟨rfl, h0, hm1⟩).symm
          · refine ⟨S2, ?_, ?_, fun _ _ _ => rfl, rfl⟩
            · have := a9.par (by omega)
              simp (disch := omega) only [i0, i1, i2, i3, i4, i5, i6, i7, i8, i12, i16, i20, i30, i39, i40, i60, i64, i97, i100, i256, i1000, i10000, im1, im20, im60, l0, l1, l2, l3, l4, l5, l8, l10000, l1e9, lm10000, jl_add, jl_sub, jl_mul, jl_neg, ji_add, ji_sub, ji_mul, ji_neg, ji_l, jl_i, rL_n, rI_n, dL_n, dI_n, mnI_j, mxI_j, ji_nat, rest_j, part_n, whole_j, times_j, kc_0, kc_gt, kc_lt, kc_le, kc_ge, ji_lt, ji_le, ji_inj, jl_inj, jl_lt, jl_le, b1s, b2s, bEs, bEe, rIs, rIn, rIJ, rJs, rJn, rJI, ifp, ifn, if_true, if_false, Int.toNat_natCast, q3, s7, s0]
              rw [show (k : Int) + 1 = ((k + 1 : Nat) : Int) by omega]
            · rw [s5, d5 h0]
      obtain ⟨S2', e1, z5, z1, z2⟩ := ask
      have Nr : NrC S2' p r := ⟨by rw [z1 _ _ (by omega), s1 _ _ (by omega)]; exact N1, by rw [z1 _ _ (by omega), s1 _ _ (by omega)]; exact N2, fun e he => by rw [z2, s2 _ _ (by omega)]; exact N3 e he⟩
      have t18 : T2.1 0 18 = ji p := (t1 _ _ (by omega) (by omega) (by omega)).trans ((w1 _ _ (by omega)).trans h4)
      have dc : DC S2' k (Dn S D more k) (C k) := by
        refine ⟨fun j hj => ?_, fun q => ?_, fun q j hj => ?_⟩
        · by_cases hj5 : j = 5
          · subst hj5; exact z5
          · rw [z1 _ _ (by omega), s1 _ _ (by omega), dn j hj5]; exact a7.1 j hj
        · rw [dn 0 (by omega)] at q
          obtain ⟨cc, u1, u2, u3⟩ := a7.2.1 q
          obtain ⟨i1, i2⟩ := a9.f7 q
          rw [dn 3 (by omega), dn 6 (by omega)]
          exact ⟨cc, fun j hj => by rw [z1 _ _ (by omega), s1 _ _ (by omega)]; exact u1 j hj, u2, u3⟩
        · rw [dn 0 (by omega)] at q
          rw [dn 6 (by omega)] at hj
          rw [z1 _ _ (by omega), s1 _ _ (by omega)]
          exact a7.2.2 q j hj
      have te : ∀ o i : Nat, o = 3 ∨ o = 4 ∨ o = 5 ∨ o = 7 ∨ o = 10 ∨ o = 11 → T2.1 o i = T.1 o i := fun o i ho => (t1 _ _ (by omega) (by omega) (by omega)).trans (w1 _ _ (by omega))
      have dm : DM T2 k (Dn S D more k) (C k) := by
        obtain ⟨u1, u2, u3, u4, u5, u6⟩ := a8
        unfold DM
        rw [dn 0 (by omega), dn 1 (by omega), dn 2 (by omega), dn 3 (by omega), dn 4 (by omega), dn 6 (by omega)]
        refine ⟨?_, fun q => ⟨?_, ?_, ?_⟩, fun q q' => ?_, fun q q' => ?_, fun q => ⟨?_, ?_, fun j hj => ?_⟩, fun q => ⟨?_, fun j hj => ?_⟩⟩
        · rw [te _ _ (by omega)]; exact u1
        · rw [te _ _ (by omega)]; exact (u2 q).1
        · rw [te _ _ (by omega)]; exact (u2 q).2.1
        · rw [t1 _ _ (by omega) (by omega) (by omega)]; exact w3 k (by omega) q
        · rw [te _ _ (by omega)]; exact u3 q q'
        · rw [te _ _ (by omega)]; exact u4 q q'
        · rw [te _ _ (by omega)]; exact (u5 q).1
        · rw [t1 _ _ (by omega) (by omega) (by omega), w4 k (by omega) (by omega), d5 (by omega)]; exact (u5 q).2.1
        · rw [te _ _ (by omega)]; exact (u5 q).2.2 j hj
        · rw [te _ _ (by omega)]; exact (u6 q).1
        · rw [te _ _ (by omega)]; exact (u6 q).2 j hj
      have nums : ∀ i : Nat, i < k → NumC S2' i (num' i) ∧ NumM T2 i (num' i) ∧ Wf p r (num' i) := fun i hi => by
        obtain ⟨⟨v1, v2, v3⟩, v4, v5, -⟩ := hn i hi
        exact ⟨⟨by rw [z1 _ _ (by omega)]; exact v1, by rw [z1 _ _ (by omega)]; exact v2, by rw [z2]; exact v3⟩, v4, v5⟩
      obtain ⟨y, dy, wy, fC, fM⟩ := find_ok Nr t18 h1 h2 (by omega) nums pre' dc dm
      have rfy := dy_rf h1 h2 a9 rfs dn d5 d50 a10 dy
      have e2 : s_X10_refine_95 (fun (x1 : Int32) (x3 : Int32) (S : St) => K2 (x1, x3, S)) (ji a) (ji k) T2 = K2 (ji a, ji ((k + 1 : Nat) : Int), setM T2 k y) := by
        unfold s_X10_refine_95
        simp (disch := omega) only [i0, i1, i2, i3, i4, i5, i6, i7, i8, i12, i16, i20, i30, i39, i40, i60, i64, i97, i100, i256, i1000, i10000, im1, im20, im60, l0, l1, l2, l3, l4, l5, l8, l10000, l1e9, lm10000, jl_add, jl_sub, jl_mul, jl_neg, ji_add, ji_sub, ji_mul, ji_neg, ji_l, jl_i, rL_n, rI_n, dL_n, dI_n, mnI_j, mxI_j, ji_nat, rest_j, part_n, whole_j, times_j, kc_0, kc_gt, kc_lt, kc_le, kc_ge, ji_lt, ji_le, ji_inj, jl_inj, jl_lt, jl_le, b1s, b2s, bEs, bEe, rIs, rIn, rIJ, rJs, rJn, rJI, ifp, ifn, if_true, if_false, q19, fM]
        rw [show (k : Int) + 1 = ((k + 1 : Nat) : Int) by omega]
      rw [e1, fC, b1s, e2]
      have wk : ∀ i : Nat, i < k → (fun i => if i = k then y else num' i) i = num' i := fun i hi => if_neg (by omega)
      refine IH (setC S2' k y) (setM T2 k y) (fun i => if i = k then y else num' i) (by omega) (fun o i q => ?_) (fun o i q => ?_) (fun o i q1 q2 q3 => ?_) (fun o i q1 q2 => ?_) (fun n hnk => ?_) (by omega)
      · unfold setC
        simp (disch := omega) only [rIs, rIn, rIJ, rJs, rJn, rJI]
        rw [z1 _ _ (by omega), s1 _ _ (by omega)]
      · unfold setC
        simp (disch := omega) only [rIs, rIn, rIJ, rJs, rJn, rJI]
        rw [z2, s2 _ _ (by omega)]
      · unfold setM setF
        simp (disch := omega) only [rIs, rIn, rIJ, rJs, rJn, rJI]
        exact t1 o i q1 q2 q3
      · unfold setM setF
        simp (disch := omega) only [rIs, rIn, rIJ, rJs, rJn, rJI]
        exact t2 o i q1 q2
      · by_cases hne : n = k
        · subst hne
          have e : (if n = n then y else num' n) = y := if_pos rfl
          rw [e]
          refine ⟨⟨?_, ?_, ?_⟩, ⟨?_, ?_, ?_⟩, wy, rfy, ?_, pre_congr pre' (fun i hi => ⟨(nums i hi).2.2, wk i hi⟩), dy_congr pre' dy wk⟩
          · unfold setC; simp (disch := omega) only [rIs, rIn, rIJ, rJs, rJn, rJI]
          · unfold setC; simp (disch := omega) only [rIs, rIn, rIJ, rJs, rJn, rJI]
          · unfold setC; simp (disch := omega) only [rIs, rIn, rIJ, rJs, rJn, rJI]
          · unfold setM; simp (disch := omega) only [rIs, rIn, rIJ, rJs, rJn, rJI]
          · unfold setM; simp (disch := omega) only [rIs, rIn, rIJ, rJs, rJn, rJI]
          · unfold setM; simp (disch := omega) only [rIs, rIn, rIJ, rJs, rJn, rJI]
          · unfold setC; simp (disch := omega) only [rIs, rIn, rIJ, rJs, rJn, rJI]; exact z5
        · obtain ⟨⟨v1, v2, v3⟩, ⟨v4, v5, v6⟩, v7, v8, v9, v10, v11⟩ := hn n (by omega)
          have e : (if n = k then y else num' n) = num' n := if_neg hne
          have wn : ∀ i : Nat, i < n → (fun i => if i = k then y else num' i) i = num' i := fun i hi => if_neg (by omega)
          rw [e]
          refine ⟨⟨?_, ?_, ?_⟩, ⟨?_, ?_, ?_⟩, v7, v8, ?_, pre_congr v10 (fun i hi => ⟨(nums i (by omega)).2.2, wn i hi⟩), dy_congr v10 v11 wn⟩
          · unfold setC; simp (disch := omega) only [rIs, rIn, rIJ, rJs, rJn, rJI]; rw [z1 _ _ (by omega)]; exact v1
          · unfold setC; simp (disch := omega) only [rIs, rIn, rIJ, rJs, rJn, rJI]; rw [z1 _ _ (by omega)]; exact v2
          · unfold setC; simp (disch := omega) only [rIs, rIn, rIJ, rJs, rJn, rJI]; rw [z2]; exact v3
          · unfold setM setF; simp (disch := omega) only [rIs, rIn, rIJ, rJs, rJn, rJI]; exact v4
          · unfold setM setF; simp (disch := omega) only [rIs, rIn, rIJ, rJs, rJn, rJI]; exact v5
          · unfold setM setF; simp (disch := omega) only [rIs, rIn, rIJ, rJs, rJn, rJI]; exact v6
          · unfold setC; simp (disch := omega) only [rIs, rIn, rIJ, rJs, rJn, rJI]; rw [z1 _ _ (by omega)]; exact v9
