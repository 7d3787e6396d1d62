theorem T_lift {S T : St} (h : Rel S T) (a b c : Int32) : An [(3, 1), (1, 2), (5, 3), (2, 4)] (f_X9_lift a b c S) (f_X10_lift a b c T) := by
  obtain ⟨a, rfl, ha⟩ := ji_ex a
  obtain ⟨b, rfl, hb⟩ := ji_ex b
  obtain ⟨c, rfl, hc0⟩ := ji_ex c
  have hh := h
  obtain ⟨p, r, cnt, num, early, D, C, bc, cn, pc, rowc, rv, sz, en, h1, h2, h3, h4⟩ := hh
  have hr := h1.2.1
  have hrr := hr.2.2.2.2
  have hp1 := hr.1
  have hp2 := hr.2.1
  have hN := h1.2.2.1
  have p18 := h1.2.2.2.1
  have c5 := h1.2.2.2.2.1
  have c6 := h1.2.2.2.2.2.1
  have c7 := h1.2.2.2.2.2.2.1
  have b4 := h2.1
  have b20 := h2.2.1
  have b8 := h2.2.2.1
  have hN1 := hN.1
  have hN2 := hN.2.1
  unfold f_X9_lift f_X10_lift n_X10_lift_44 n_X10_lift_68
  by_cases ga : 0 ≤ a ∧ a < bc
  · have ga1 := ga.1
    have ga2 := ga.2
    have n1 := needP_y b4 b8 ga
    have n2 := noP_y b20 b8 ga
    have t18 : (th T 0).1 0 18 = ji p := (th_n (by omega)).trans p18
    have mo := mostM t18 hr
    have bad2 : ∀ x y, x = some ((.error 1 : Except Nat Int32), S) → y = some (ji 0, th T 2) → An [(3, 1), (1, 2), (5, 3), (2, 4)] x y := by
      rintro x y rfl rfl
      exact ⟨S, th T 2, ji 0, rfl, rel_fr h (FrS.refl S) th_fr, Or.inr ⟨(1, 2), by simp, rfl, th_17⟩⟩
    by_cases gb : 0 ≤ b ∧ b ≤ p - 1
    · by_cases gc : 1 ≤ c ∧ c ≤ r
      · obtain ⟨P1, P2, P3⟩ := h2.2.2.2.1 a.toNat (by omega)
        obtain ⟨Q1, Q2, Q3, Q4, Q5, Q6, Q7⟩ := h2.2.2.2.2.1 a.toNat (by omega)
        have ea : ((a.toNat : Nat) : Int) = a := by omega
        have s1 := signC (S := S) (k := a.toNat) (n := cn a.toNat) (p := p) (d := b) ⟨hp1, hp2⟩ (by omega) P1 P2 ⟨Q1, Q2⟩ Q3 Q7
        have s2 := signM (T := th T 0) (f := a.toNat) (p := p) (d := b) t18 ⟨hp1, hp2⟩ (by omega) (by omega) (c := pc a.toNat) (fun j hj => (th_n (by omega)).trans (P3 j hj)) P2
        have pg := pageC (S := S) (k := a.toNat) (by omega)
        rw [ea] at s2 pg
        have hsr := rsg_rng (p := p) (c := pc a.toNat) (d := b)
        have w115 : (115 : Int32) = ji 115 := rfl
        rw [w115]
        by_cases hs : rsg p (pc a.toNat) b = 115
        · have hs2 := rsg_115.mp hs
          have c6' : (th T 0).1 0 19 = ji cnt := (th_n (by omega)).trans c6
          by_cases hc : cnt < 40
          · have r1 := needR_y c5 hc
            have r2 := roomY (k := 4) c6' hc
            obtain ⟨T2, k1, k2, k3, k4⟩ := keepsM (T := th T 0) (f := a.toNat) (cnt := cnt) (c := pc a.toNat) (by omega) hc c6' (fun j hj => (th_n (by omega)).trans (P3 j hj))
            rw [ea] at k1
            have c6'' : T2.1 0 19 = ji cnt := (k2 _ _ (by omega)).trans c6'
            have n5 := comesM (k := 7) (a := b) (b := 0) (w := c) c6'' hc
            have n6 : f_X5_addLifted (ji a) (ji b) (ji c) S = b1 (f_X5_find cnt (wI (wI (wI (wI (wI (wI (wI S (12 + cnt) 0 (ji 7)) (12 + cnt) 1 (ji (-1))) (12 + cnt) 2 (ji (-1))) (12 + cnt) 3 (ji a)) (12 + cnt) 4 (ji b)) (12 + cnt) 5 (ji c)) (12 + cnt) 6 (ji (cn a.toNat)))) fun S7 => f_X5_keep cnt S7 := by
              unfold f_X5_addLifted f_X3_become
              have pg2 := fun S => pageC (S := S) (k := a.toNat) (by omega)
              rw [ea] at pg2
              rw [c5, numbC (n := 40) ⟨by omega, by omega⟩ (by omega), b1s, Int.toNat_natCast, if_pos (by omega), b1s, pg2, b1s, if_pos (by omega)]
              simp only [b2_id]
              simp (disch := omega) only [rIs, rIn, rIJ, rJs, rJn, rJI]
              rw [Q3]
              rfl
            generalize hS : wI (wI (wI (wI (wI (wI (wI S (12 + cnt) 0 (ji 7)) (12 + cnt) 1 (ji (-1))) (12 + cnt) 2 (ji (-1))) (12 + cnt) 3 (ji a)) (12 + cnt) 4 (ji b)) (12 + cnt) 5 (ji c)) (12 + cnt) 6 (ji (cn a.toNat)) = S1 at *
            generalize hT : cm T2 cnt 7 b 0 c = T1 at *
            have d0 : dOf S1 cnt 0 = 7 := by unfold dOf; rw [← hS]; simp (disch := omega) only [rIs, rIn, rIJ, rJs, rJn, rJI]; exact ji_toInt (by omega)
            have d1 : dOf S1 cnt 1 = -1 := by unfold dOf; rw [← hS]; simp (disch := omega) only [rIs, rIn, rIJ, rJs, rJn, rJI]; exact ji_toInt (by omega)
            have d2 : dOf S1 cnt 2 = -1 := by unfold dOf; rw [← hS]; simp (disch := omega) only [rIs, rIn, rIJ, rJs, rJn, rJI]; exact ji_toInt (by omega)
            have d3 : dOf S1 cnt 3 = a := by unfold dOf; rw [← hS]; simp (disch := omega) only [rIs, rIn, rIJ, rJs, rJn, rJI]; exact ji_toInt ha
            have d4 : dOf S1 cnt 4 = b := by unfold dOf; rw [← hS]; simp (disch := omega) only [rIs, rIn, rIJ, rJs, rJn, rJI]; exact ji_toInt hb
            have d5 : dOf S1 cnt 5 = c := by unfold dOf; rw [← hS]; simp (disch := omega) only [rIs, rIn, rIJ, rJs, rJn, rJI]; exact ji_toInt hc0
            have d6 : dOf S1 cnt 6 = cn a.toNat := by unfold dOf; rw [← hS]; simp (disch := omega) only [rIs, rIn, rIJ, rJs, rJn, rJI]; exact ji_toInt (by omega)
            have m3 : T1.1 3 cnt = ji 7 := by rw [← hT]; unfold cm; simp (disch := omega) only [rIs, rIn, rIJ, rJs, rJn, rJI]
            have m4 : T1.1 4 cnt = ji b := by rw [← hT]; unfold cm; simp (disch := omega) only [rIs, rIn, rIJ, rJs, rJn, rJI]
            have m6 : T1.1 6 cnt = ji c := by rw [← hT]; unfold cm; simp (disch := omega) only [rIs, rIn, rIJ, rJs, rJn, rJI]
            have m11 : ∀ j : Nat, j < 7 → T1.1 11 (7 * cnt + j) = ji (pc a.toNat j) := fun j hj => by rw [← hT]; unfold cm; simp (disch := omega) only [rIs, rIn, rIJ, rJs, rJn, rJI]; exact k4 j hj
            have fT : FnT cnt (th T 0) T1 := ⟨fun o i g1 g2 g3 g4 g5 g6 g7 => by rw [← hT]; unfold cm; simp (disch := omega) only [rIs, rIn, rIJ, rJs, rJn, rJI]; exact k2 o i g7, fun o i g1 g2 => by rw [← hT]; show T2.2 o i = _; rw [k3]⟩
            obtain ⟨S', T', e1, e2, e3, e4⟩ := new_num (S1 := S1) (T1 := T1) (d := dOf S1 cnt) (c := pc a.toNat) (rn_fr h1 (FrS.refl S) (th_fr (k := 0))) (rp_fr h2 (FrS.refl S) th_fr) (rr_fr h3 (FrS.refl S) th_fr) (rx_fr h4 (FrS.refl S) th_fr) hc ⟨fun o i g1 g2 g3 g4 => by rw [← hS]; simp (disch := omega) only [rIs, rIn, rIJ, rJs, rJn, rJI], fun o i g1 g2 g3 g4 => by rw [← hS]; rfl⟩ fT
              ⟨fun j hj => (ji_of _).symm, fun q => ⟨pc a.toNat, by rw [d3]; exact fun j hj => by rw [← hS]; simp (disch := omega) only [rIs, rIn, rIJ, rJs, rJn, rJI]; exact P1 j hj, P2, fun _ _ => rfl⟩, fun q => by omega⟩
              ⟨by rw [d0]; exact m3, fun q => by omega, fun q q' => by omega, fun q q' => by omega, fun q => by rw [d4, d5]; exact ⟨m4, m6, m11⟩, fun q => by omega⟩
              (Or.inr (Or.inr (Or.inr (Or.inr (Or.inr (Or.inr (Or.inr (Or.inl ⟨d0, d1, d2, by omega, by omega, by omega, by omega, by omega, by omega, by rw [d3]; exact ⟨ga1, by omega⟩, P2, fun j hj => Q7 j (by omega), by rw [d4]; exact hs2.1, by rw [d4]; exact hs2.2⟩))))))))
              ⟨fun q => by rw [d3, d6]; exact ⟨ga2, Int.le_refl _⟩, fun q => by omega⟩
            rw [← n6] at e1
            rw [← n5] at e2
            simp (disch := omega) only [i0, i1, i2, i3, i4, i5, i6, i7, i8, i12, i16, i20, i30, i39, i40, i60, i64, i97, i100, i256, i1000, i10000, im1, im20, im60, l0, l1, l2, l3, l4, l5, l8, l10000, l1e9, lm10000, jl_add, jl_sub, jl_mul, jl_neg, ji_add, ji_sub, ji_mul, ji_neg, ji_l, jl_i, rL_n, rI_n, dL_n, dI_n, mnI_j, mxI_j, ji_nat, rest_j, part_n, whole_j, times_j, kc_0, kc_gt, kc_lt, kc_le, kc_ge, ji_lt, ji_le, ji_inj, jl_inj, jl_lt, jl_le, b1s, b2s, bEs, bEe, rIs, rIn, rIJ, rJs, rJn, rJI, ifp, ifn, if_true, if_false, hN1, hN2, t18, needW_y, isIn_y, n1, n2, mo, pg, s1, s2, hs, r1, r2, k1, noY, th_th, e1, e2]
            refine ⟨S', T', _, rfl, e3, Or.inl ⟨rfl, e4.trans ?_⟩⟩
            rw [← hT]; unfold cm; simp (disch := omega) only [rIs, rIn, rIJ, rJs, rJn, rJI]
            exact (k2 _ _ (by omega)).trans th_17
          · have hc : cnt = 40 := by omega
            subst hc
            have r2 := roomN4 c6'
            have r1 := needR_n c5
            simp (disch := omega) only [i0, i1, i2, i3, i4, i5, i6, i7, i8, i12, i16, i20, i30, i39, i40, i60, i64, i97, i100, i256, i1000, i10000, im1, im20, im60, l0, l1, l2, l3, l4, l5, l8, l10000, l1e9, lm10000, jl_add, jl_sub, jl_mul, jl_neg, ji_add, ji_sub, ji_mul, ji_neg, ji_l, jl_i, rL_n, rI_n, dL_n, dI_n, mnI_j, mxI_j, ji_nat, rest_j, part_n, whole_j, times_j, kc_0, kc_gt, kc_lt, kc_le, kc_ge, ji_lt, ji_le, ji_inj, jl_inj, jl_lt, jl_le, b1s, b2s, bEs, bEe, rIs, rIn, rIJ, rJs, rJn, rJI, ifp, ifn, if_true, if_false, hN1, hN2, t18, needW_y, isIn_y, n1, n2, mo, pg, s1, s2, hs, r1, r2, noY, th_th]
            exact ⟨S, th T 4, ji 0, rfl, rel_fr h (FrS.refl S) th_fr, Or.inr ⟨(2, 4), by simp, rfl, th_17⟩⟩
        · simp (disch := omega) only [i0, i1, i2, i3, i4, i5, i6, i7, i8, i12, i16, i20, i30, i39, i40, i60, i64, i97, i100, i256, i1000, i10000, im1, im20, im60, l0, l1, l2, l3, l4, l5, l8, l10000, l1e9, lm10000, jl_add, jl_sub, jl_mul, jl_neg, ji_add, ji_sub, ji_mul, ji_neg, ji_l, jl_i, rL_n, rI_n, dL_n, dI_n, mnI_j, mxI_j, ji_nat, rest_j, part_n, whole_j, times_j, kc_0, kc_gt, kc_lt, kc_le, kc_ge, ji_lt, ji_le, ji_inj, jl_inj, jl_lt, jl_le, b1s, b2s, bEs, bEe, rIs, rIn, rIJ, rJs, rJn, rJI, ifp, ifn, if_true, if_false, hN1, hN2, t18, needW_y, isIn_y, n1, n2, mo, pg, s1, s2, noY, noN3, th_th]
          exact ⟨S, th T 3, ji 0, rfl, rel_fr h (FrS.refl S) th_fr, Or.inr ⟨(5, 3), by simp, rfl, th_17⟩⟩
      · refine bad2 _ _ ?_ ?_
        · simp (disch := omega) only [i0, i1, i2, i3, i4, i5, i6, i7, i8, i12, i16, i20, i30, i39, i40, i60, i64, i97, i100, i256, i1000, i10000, im1, im20, im60, l0, l1, l2, l3, l4, l5, l8, l10000, l1e9, lm10000, jl_add, jl_sub, jl_mul, jl_neg, ji_add, ji_sub, ji_mul, ji_neg, ji_l, jl_i, rL_n, rI_n, dL_n, dI_n, mnI_j, mxI_j, ji_nat, rest_j, part_n, whole_j, times_j, kc_0, kc_gt, kc_lt, kc_le, kc_ge, ji_lt, ji_le, ji_inj, jl_inj, jl_lt, jl_le, b1s, b2s, bEs, bEe, rIs, rIn, rIJ, rJs, rJn, rJI, ifp, ifn, if_true, if_false, hN1, hN2, needW_y, needW_n, n1]
        · simp (disch := omega) only [i0, i1, i2, i3, i4, i5, i6, i7, i8, i12, i16, i20, i30, i39, i40, i60, i64, i97, i100, i256, i1000, i10000, im1, im20, im60, l0, l1, l2, l3, l4, l5, l8, l10000, l1e9, lm10000, jl_add, jl_sub, jl_mul, jl_neg, ji_add, ji_sub, ji_mul, ji_neg, ji_l, jl_i, rL_n, rI_n, dL_n, dI_n, mnI_j, mxI_j, ji_nat, rest_j, part_n, whole_j, times_j, kc_0, kc_gt, kc_lt, kc_le, kc_ge, ji_lt, ji_le, ji_inj, jl_inj, jl_lt, jl_le, b1s, b2s, bEs, bEe, rIs, rIn, rIJ, rJs, rJn, rJI, ifp, ifn, if_true, if_false, t18, isIn_y, isIn_n, n2, mo, noN2, th_th]
    · refine bad2 _ _ ?_ ?_
      · simp (disch := omega) only [i0, i1, i2, i3, i4, i5, i6, i7, i8, i12, i16, i20, i30, i39, i40, i60, i64, i97, i100, i256, i1000, i10000, im1, im20, im60, l0, l1, l2, l3, l4, l5, l8, l10000, l1e9, lm10000, jl_add, jl_sub, jl_mul, jl_neg, ji_add, ji_sub, ji_mul, ji_neg, ji_l, jl_i, rL_n, rI_n, dL_n, dI_n, mnI_j, mxI_j, ji_nat, rest_j, part_n, whole_j, times_j, kc_0, kc_gt, kc_lt, kc_le, kc_ge, ji_lt, ji_le, ji_inj, jl_inj, jl_lt, jl_le, b1s, b2s, bEs, bEe, rIs, rIn, rIJ, rJs, rJn, rJI, ifp, ifn, if_true, if_false, hN1, hN2, needW_n, n1]
      · simp (disch := omega) only [i0, i1, i2, i3, i4, i5, i6, i7, i8, i12, i16, i20, i30, i39, i40, i60, i64, i97, i100, i256, i1000, i10000, im1, im20, im60, l0, l1, l2, l3, l4, l5, l8, l10000, l1e9, lm10000, jl_add, jl_sub, jl_mul, jl_neg, ji_add, ji_sub, ji_mul, ji_neg, ji_l, jl_i, rL_n, rI_n, dL_n, dI_n, mnI_j, mxI_j, ji_nat, rest_j, part_n, whole_j, times_j, kc_0, kc_gt, kc_lt, kc_le, kc_ge, ji_lt, ji_le, ji_inj, jl_inj, jl_lt, jl_le, b1s, b2s, bEs, bEe, rIs, rIn, rIJ, rJs, rJn, rJI, ifp, ifn, if_true, if_false, t18, isIn_n, n2, noN2, th_th]
  · have n1 := needP_n b4 b8 ha ga
    have n2 := noP_n b20 b8 ha ga
    simp (disch := omega) only [i0, i1, i2, i3, i4, i5, i6, i7, i8, i12, i16, i20, i30, i39, i40, i60, i64, i97, i100, i256, i1000, i10000, im1, im20, im60, l0, l1, l2, l3, l4, l5, l8, l10000, l1e9, lm10000, jl_add, jl_sub, jl_mul, jl_neg, ji_add, ji_sub, ji_mul, ji_neg, ji_l, jl_i, rL_n, rI_n, dL_n, dI_n, mnI_j, mxI_j, ji_nat, rest_j, part_n, whole_j, times_j, kc_0, kc_gt, kc_lt, kc_le, kc_ge, ji_lt, ji_le, ji_inj, jl_inj, jl_lt, jl_le, b1s, b2s, bEs, bEe, rIs, rIn, rIJ, rJs, rJn, rJI, ifp, ifn, if_true, if_false, n1, n2]
    exact ⟨S, th T 1, ji 0, rfl, rel_fr h (FrS.refl S) th_fr, Or.inr ⟨(3, 1), by simp, rfl, th_17⟩⟩
/-! at -/
theorem atM_loop {T : St} {cnt : Nat} {a : Int} (hc : cnt < 40) (h19 : T.1 0 19 = ji cnt) : ∀ (N k : Nat) (T1 : St), k ≤ 12 → (∀ o i : Nat, ¬ (o = 10 ∧ 12 * cnt ≤ i ∧ i < 12 * cnt + 12) → T1.1 o i = T.1 o i) → T1.2 = T.2 → (∀ j : Nat, j < k → T1.1 10 (12 * cnt + j) = T.1 14 j) → 12 - k < N →
    ∃ T2 : St, itr (fun (q : Int32 × Int32 × St) k => s_X10_at_54 (fun (x1 : Int32) (x2 : Int32) (S : St) => k (x1, x2, S)) q.1 q.2.1 q.2.2) N (ji a, ji k, T1) = (b2 (f_X10_comes (ji 8) (ji a) (ji 0) (ji 0) (wI T2 7 cnt (T.1 0 21))) fun v4 S5 => some (v4, S5)) ∧ (∀ o i : Nat, ¬ (o = 10 ∧ 12 * cnt ≤ i ∧ i < 12 * cnt + 12) → T2.1 o i = T.1 o i) ∧ T2.2 = T.2 ∧ (∀ j : Nat, j < 12 → T2.1 10 (12 * cnt + j) = T.1 14 j)
  | 0, _, _, _, _, _, _, h => absurd h (Nat.not_lt_zero _)
  | N + 1, k, T1, hk, g1, g2, g3, hN => by
    rw [itrS]
    have IH := atM_loop (a := a) hc h19 N (k + 1)
    generalize itr _ N = K at IH
    show ∃ T2 : St, s_X10_at_54 _ (ji a) (ji k) T1 = _ ∧ _
    unfold s_X10_at_54
    have q1 : T1.1 0 19 = ji cnt := (g1 _ _ (by omega)).trans h19
    have q3 : T1.1 0 21 = T.1 0 21 := g1 _ _ (by omega)
    have e2 : (12 * (cnt : Int) + (k : Int)).toNat = 12 * cnt + k := by omega
    by_cases h7 : 12 ≤ k
    · have : k = 12 := by omega
      subst this
      refine ⟨T1, ?_, g1, g2, g3⟩
      simp (disch := omega) only [i0, i1, i2, i3, i4, i5, i6, i7, i8, i12, i16, i20, i30, i39, i40, i60, i64, i97, i100, i256, i1000, i10000, im1, im20, im60, l0, l1, l2, l3, l4, l5, l8, l10000, l1e9, lm10000, jl_add, jl_sub, jl_mul, jl_neg, ji_add, ji_sub, ji_mul, ji_neg, ji_l, jl_i, rL_n, rI_n, dL_n, dI_n, mnI_j, mxI_j, ji_nat, rest_j, part_n, whole_j, times_j, kc_0, kc_gt, kc_lt, kc_le, kc_ge, ji_lt, ji_le, ji_inj, jl_inj, jl_lt, jl_le, b1s, b2s, bEs, bEe, rIs, rIn, rIJ, rJs, rJn, rJI, ifp, ifn, if_true, if_false, q1, q3, Int.toNat_natCast]
    · have q2 : T1.1 14 k = T.1 14 k := g1 _ _ (by omega)
      simp (disch := omega) only [i0, i1, i2, i3, i4, i5, i6, i7, i8, i12, i16, i20, i30, i39, i40, i60, i64, i97, i100, i256, i1000, i10000, im1, im20, im60, l0, l1, l2, l3, l4, l5, l8, l10000, l1e9, lm10000, jl_add, jl_sub, jl_mul, jl_neg, ji_add, ji_sub, ji_mul, ji_neg, ji_l, jl_i, rL_n, rI_n, dL_n, dI_n, mnI_j, mxI_j, ji_nat, rest_j, part_n, whole_j, times_j, kc_0, kc_gt, kc_lt, kc_le, kc_ge, ji_lt, ji_le, ji_inj, jl_inj, jl_lt, jl_le, b1s, b2s, bEs, bEe, rIs, rIn, rIJ, rJs, rJn, rJI, ifp, ifn, if_true, if_false, q1, q2, e2, Int.toNat_natCast]
      rw [show (k : Int) + 1 = ((k + 1 : Nat) : Int) by omega]
      have := IH (wI T1 10 (12 * cnt + k) (T.1 14 k)) (by omega) (fun o i a => by rw [rIn (by omega)]; exact g1 o i a) g2 (fun j hj => by
        by_cases hjk : j = k
        · subst hjk; exact rIs
        · rw [rIn (by omega)]; exact g3 j (by omega)) (by omega)
      exact this
theorem T_at {S T : St} (h : Rel S T) (a : Int32) : An [(3, 1), (5, 2), (2, 3)] (f_X9_at a S) (f_X10_at a T) := by
  obtain ⟨a, rfl, ha⟩ := ji_ex a
  have hh := h
  obtain ⟨p, r, cnt, num, early, D, C, bc, cn, pc, rowc, rv, sz, en, h1, h2, h3, h4⟩ := hh
  have hr := h1.2.1
  have hN := h1.2.2.1
  have p18 := h1.2.2.2.1
  have c5 := h1.2.2.2.2.1
  have c6 := h1.2.2.2.2.2.1
  have c7 := h1.2.2.2.2.2.2.1
  have c8 := h1.2.2.2.2.2.2.2
  have hrr := hr.2.2.2.2
  have r5 := h3.1
  have r21 := h3.2.1
  have r12 := h3.2.2.1
  have hrb := h3.2.2.2.1
  have hrow := h3.2.2.2.2
  unfold f_X9_at f_X10_at n_X10_at_35
  by_cases hab : 0 ≤ a ∧ a < cnt
  · obtain ⟨xa, ma, wa, -⟩ := num3 hab c8
    have c6' : (th T 0).1 0 19 = ji cnt := (th_n (by omega)).trans c6
    have n1 := needN_y c5 c7 hab
    have n3 := noNum_y c6 c7 hab
    have n4 := numbC (S := S) (n := 40) (v := a) ⟨hab.1, by omega⟩ (by omega)
    have t1 := xa.1
    have t2 : (th T 0).1 1 a.toNat = ji (num a.toNat).1 := (th_n (by omega)).trans ma.1
    have t3 : (th T 0).1 0 21 = ji rowc := (th_n (by omega)).trans r21
    have rv1 := rvrC (n := rowc) hN hr xa wa r12
    have kn := knownM (T := th T 0) (m := a.toNat) (n := rowc) ((th_n (by omega)).trans p18) hr (by omega) (x := num a.toNat) ⟨(th_n (by omega)).trans ma.1, (th_n (by omega)).trans ma.2.1, by rw [th_2]; exact ma.2.2⟩ wa r12
    rw [show ((a.toNat : Nat) : Int) = a by omega] at kn
    have vq := wa.1
    have vs := wa.2.1
    have vu := wa.2.2.1
    have gl1 := gl_11 hr.1 rowc r12
    have bad2 : ∀ x y, x = some ((.error 5 : Except Nat Int32), S) → y = some (ji 0, th T 2) → An [(3, 1), (5, 2), (2, 3)] x y := by
      rintro x y rfl rfl
      exact ⟨S, th T 2, ji 0, rfl, rel_fr h (FrS.refl S) th_fr, Or.inr ⟨(5, 2), by simp, rfl, th_17⟩⟩
    by_cases hs : 0 ≤ (num a.toNat).1
    · by_cases hk : 0 < min (num a.toNat).2.1 (r : Int) - gl p rowc
      · by_cases hc : cnt < 40
        · have r2 := roomY (k := 3) c6' hc
          have r1 := needR_y c5 hc
          obtain ⟨T2, k1, k2, k3, k4⟩ := atM_loop (T := th T 0) (a := a) hc c6' FU 0 (th T 0) (by omega) (fun _ _ _ => rfl) rfl (fun j hj => absurd hj (Nat.not_lt_zero _)) (FU_lt (by omega))
          rw [b2_id, t3] at k1
          have k1 : n_X10_at_54 (ji a) (ji 0) (th T 0) = f_X10_comes (ji 8) (ji a) (ji 0) (ji 0) (wI T2 7 cnt (ji rowc)) := k1
          have c6'' : (wI T2 7 cnt (ji rowc)).1 0 19 = ji cnt := by rw [rIn (by omega)]; exact (k2 _ _ (by omega)).trans c6'
          have n5 := comesM (k := 8) (a := a) (b := 0) (w := 0) c6'' hc
          have n6 : f_X5_addRowValue (ji a) S = b1 (f_X5_find cnt (wI (wI (wI (wI S (12 + cnt) 0 (ji 8)) (12 + cnt) 1 (ji a)) (12 + cnt) 2 (ji (-1))) (12 + cnt) 6 (ji rowc))) fun S7 => f_X5_keep cnt S7 := by
            unfold f_X5_addRowValue f_X3_become
            rw [c5, numbC (n := 40) ⟨by omega, by omega⟩ (by omega), b1s, Int.toNat_natCast, if_pos (by omega), b1s]
            simp only [b2_id]
            simp (disch := omega) only [rIs, rIn, rIJ, rJs, rJn, rJI]
            rw [r5]
            rfl
          generalize hS : wI (wI (wI (wI S (12 + cnt) 0 (ji 8)) (12 + cnt) 1 (ji a)) (12 + cnt) 2 (ji (-1))) (12 + cnt) 6 (ji rowc) = S1 at *
          generalize hT : cm (wI T2 7 cnt (ji rowc)) cnt 8 a 0 0 = T1 at *
          have d0 : dOf S1 cnt 0 = 8 := by unfold dOf; rw [← hS]; simp (disch := omega) only [rIs, rIn, rIJ, rJs, rJn, rJI]; exact ji_toInt (by omega)
          have d1 : dOf S1 cnt 1 = a := by unfold dOf; rw [← hS]; simp (disch := omega) only [rIs, rIn, rIJ, rJs, rJn, rJI]; exact ji_toInt ha
          have d2 : dOf S1 cnt 2 = -1 := by unfold dOf; rw [← hS]; simp (disch := omega) only [rIs, rIn, rIJ, rJs, rJn, rJI]; exact ji_toInt (by omega)
          have d6 : dOf S1 cnt 6 = rowc := by unfold dOf; rw [← hS]; simp (disch := omega) only [rIs, rIn, rIJ, rJs, rJn, rJI]; exact ji_toInt (by omega)
          have m3 : T1.1 3 cnt = ji 8 := by rw [← hT]; unfold cm; simp (disch := omega) only [rIs, rIn, rIJ, rJs, rJn, rJI]
          have m4 : T1.1 4 cnt = ji a := by rw [← hT]; unfold cm; simp (disch := omega) only [rIs, rIn, rIJ, rJs, rJn, rJI]
          have m7 : T1.1 7 cnt = ji rowc := by rw [← hT]; unfold cm; simp (disch := omega) only [rIs, rIn, rIJ, rJs, rJn, rJI]
          have m10 : ∀ j : Nat, j < rowc → T1.1 10 (12 * cnt + j) = ji (rv j) := fun j hj => by
            rw [← hT]; unfold cm; simp (disch := omega) only [rIs, rIn, rIJ, rJs, rJn, rJI]
            rw [k4 j (by omega)]
            exact (th_n (by omega)).trans (hrow j hj).2
          have fT : FnT cnt (th T 0) T1 := ⟨fun o i g1 g2 g3 g4 g5 g6 g7 => by rw [← hT]; unfold cm; simp (disch := omega) only [rIs, rIn, rIJ, rJs, rJn, rJI]; exact k2 o i g6, fun o i g1 g2 => by rw [← hT]; show T2.2 o i = _; rw [k3]⟩
          obtain ⟨S', T', e1, e2, e3, e4⟩ := new_num (S1 := S1) (T1 := T1) (d := dOf S1 cnt) (c := rv) (rn_fr h1 (FrS.refl S) (th_fr (k := 0))) (rp_fr h2 (FrS.refl S) th_fr) (rr_fr h3 (FrS.refl S) th_fr) (rx_fr h4 (FrS.refl S) th_fr) hc ⟨fun o i g1 g2 g3 g4 => by rw [← hS]; simp (disch := omega) only [rIs, rIn, rIJ, rJs, rJn, rJI], fun o i g1 g2 g3 g4 => by rw [← hS]; rfl⟩ fT
            ⟨fun j hj => (ji_of _).symm, fun q => by omega, fun q j hj => by rw [← hS]; simp (disch := omega) only [rIs, rIn, rIJ, rJs, rJn, rJI]; exact (hrow j (by omega)).1⟩
            ⟨by rw [d0]; exact m3, fun q => by omega, fun q q' => by rw [d1]; exact m4, fun q q' => by omega, fun q => by omega, fun q => by rw [d6]; exact ⟨m7, fun j hj => m10 j (by omega)⟩⟩
            (Or.inr (Or.inr (Or.inr (Or.inr (Or.inr (Or.inr (Or.inr (Or.inr ⟨d0, by rw [d1]; exact hab, d2, by omega, by omega, hrb, by rw [d1]; exact hs, by rw [d1, d6]; exact hk⟩))))))))
            ⟨fun q => by omega, fun q => by omega⟩
          rw [← n6] at e1
          rw [← n5, ← k1] at e2
          simp (disch := omega) only [i0, i1, i2, i3, i4, i5, i6, i7, i8, i12, i16, i20, i30, i39, i40, i60, i64, i97, i100, i256, i1000, i10000, im1, im20, im60, l0, l1, l2, l3, l4, l5, l8, l10000, l1e9, lm10000, jl_add, jl_sub, jl_mul, jl_neg, ji_add, ji_sub, ji_mul, ji_neg, ji_l, jl_i, rL_n, rI_n, dL_n, dI_n, mnI_j, mxI_j, ji_nat, rest_j, part_n, whole_j, times_j, kc_0, kc_gt, kc_lt, kc_le, kc_ge, ji_lt, ji_le, ji_inj, jl_inj, jl_lt, jl_le, b1s, b2s, bEs, bEe, rIs, rIn, rIJ, rJs, rJn, rJI, ifp, ifn, if_true, if_false, r5, t3, n1, n3, n4, t1, t2, rv1, kn, r1, r2, noY, th_th, e1, e2]
          refine ⟨S', T', _, rfl, e3, Or.inl ⟨rfl, e4.trans ?_⟩⟩
          rw [← hT]; unfold cm; simp (disch := omega) only [rIs, rIn, rIJ, rJs, rJn, rJI]
          exact (k2 _ _ (by omega)).trans th_17
        · have hc : cnt = 40 := by omega
          subst hc
          have r2 := roomN3 c6'
          have r1 := needR_n c5
          simp (disch := omega) only [i0, i1, i2, i3, i4, i5, i6, i7, i8, i12, i16, i20, i30, i39, i40, i60, i64, i97, i100, i256, i1000, i10000, im1, im20, im60, l0, l1, l2, l3, l4, l5, l8, l10000, l1e9, lm10000, jl_add, jl_sub, jl_mul, jl_neg, ji_add, ji_sub, ji_mul, ji_neg, ji_l, jl_i, rL_n, rI_n, dL_n, dI_n, mnI_j, mxI_j, ji_nat, rest_j, part_n, whole_j, times_j, kc_0, kc_gt, kc_lt, kc_le, kc_ge, ji_lt, ji_le, ji_inj, jl_inj, jl_lt, jl_le, b1s, b2s, bEs, bEe, rIs, rIn, rIJ, rJs, rJn, rJI, ifp, ifn, if_true, if_false, r5, t3, n1, n3, n4, t1, t2, rv1, kn, r1, r2, noY, th_th]
          exact ⟨S, th T 3, ji 0, rfl, rel_fr h (FrS.refl S) th_fr, Or.inr ⟨(2, 3), by simp, rfl, th_17⟩⟩
      · refine bad2 _ _ ?_ ?_
        · simp (disch := omega) only [i0, i1, i2, i3, i4, i5, i6, i7, i8, i12, i16, i20, i30, i39, i40, i60, i64, i97, i100, i256, i1000, i10000, im1, im20, im60, l0, l1, l2, l3, l4, l5, l8, l10000, l1e9, lm10000, jl_add, jl_sub, jl_mul, jl_neg, ji_add, ji_sub, ji_mul, ji_neg, ji_l, jl_i, rL_n, rI_n, dL_n, dI_n, mnI_j, mxI_j, ji_nat, rest_j, part_n, whole_j, times_j, kc_0, kc_gt, kc_lt, kc_le, kc_ge, ji_lt, ji_le, ji_inj, jl_inj, jl_lt, jl_le, b1s, b2s, bEs, bEe, rIs, rIn, rIJ, rJs, rJn, rJI, ifp, ifn, if_true, if_false, r5, n1, n4, t1, rv1]
        · simp (disch := omega) only [i0, i1, i2, i3, i4, i5, i6, i7, i8, i12, i16, i20, i30, i39, i40, i60, i64, i97, i100, i256, i1000, i10000, im1, im20, im60, l0, l1, l2, l3, l4, l5, l8, l10000, l1e9, lm10000, jl_add, jl_sub, jl_mul, jl_neg, ji_add, ji_sub, ji_mul, ji_neg, ji_l, jl_i, rL_n, rI_n, dL_n, dI_n, mnI_j, mxI_j, ji_nat, rest_j, part_n, whole_j, times_j, kc_0, kc_gt, kc_lt, kc_le, kc_ge, ji_lt, ji_le, ji_inj, jl_inj, jl_lt, jl_le, b1s, b2s, bEs, bEe, rIs, rIn, rIJ, rJs, rJn, rJI, ifp, ifn, if_true, if_false, t3, n3, t2, kn, noN2, th_th]
    · refine bad2 _ _ ?_ ?_
      · simp (disch := omega) only [i0, i1, i2, i3, i4, i5, i6, i7, i8, i12, i16, i20, i30, i39, i40, i60, i64, i97, i100, i256, i1000, i10000, im1, im20, im60, l0, l1, l2, l3, l4, l5, l8, l10000, l1e9, lm10000, jl_add, jl_sub, jl_mul, jl_neg, ji_add, ji_sub, ji_mul, ji_neg, ji_l, jl_i, rL_n, rI_n, dL_n, dI_n, mnI_j, mxI_j, ji_nat, rest_j, part_n, whole_j, times_j, kc_0, kc_gt, kc_lt, kc_le, kc_ge, ji_lt, ji_le, ji_inj, jl_inj, jl_lt, jl_le, b1s, b2s, bEs, bEe, rIs, rIn, rIJ, rJs, rJn, rJI, ifp, ifn, if_true, if_false, n1, n4, t1]
      · simp (disch := omega) only [i0, i1, i2, i3, i4, i5, i6, i7, i8, i12, i16, i20, i30, i39, i40, i60, i64, i97, i100, i256, i1000, i10000, im1, im20, im60, l0, l1, l2, l3, l4, l5, l8, l10000, l1e9, lm10000, jl_add, jl_sub, jl_mul, jl_neg, ji_add, ji_sub, ji_mul, ji_neg, ji_l, jl_i, rL_n, rI_n, dL_n, dI_n, mnI_j, mxI_j, ji_nat, rest_j, part_n, whole_j, times_j, kc_0, kc_gt, kc_lt, kc_le, kc_ge, ji_lt, ji_le, ji_inj, jl_inj, jl_lt, jl_le, b1s, b2s, bEs, bEe, rIs, rIn, rIJ, rJs, rJn, rJI, ifp, ifn, if_true, if_false, n3, t2, noN2, th_th]
  · rw [noNum_n c6 c7 ha hab, b2s, ifn (show ¬ ji 1 = (0 : Int32) by decide)]
    refine ⟨S, th T 1, 0, rfl, rel_fr h (FrS.refl S) th_fr, Or.inr ⟨(3, 1), by simp, ?_, th_17⟩⟩
    rw [needN_n c5 c7 ha hab, bEe]
