theorem T_refine {S T : St} (h : Rel S T) (a b : Int32) : An [(3, 1), (1, 2), (5, 3)] (f_X9_refine a b S) (f_X10_refine a b T) := by
  obtain ⟨a, rfl, ha⟩ := ji_ex a
  obtain ⟨b, rfl, hb⟩ := ji_ex b
  have hh := h
  obtain ⟨p, r, cnt, num, early, D, C, bc, cn, pc, rowc, rv, sz, en, h1, h2, h3, h4⟩ := hh
  have c5 := h1.2.2.2.2.1
  have c6 := h1.2.2.2.2.2.1
  have c7 := h1.2.2.2.2.2.2.1
  have w5 : (20 : Int64) = jl 20 := rfl
  unfold f_X9_refine f_X10_refine
  by_cases hab : 0 ≤ a ∧ a < cnt
  · have n1 := needN_y c5 c7 hab
    have n3 := noNum_y c6 c7 hab
    by_cases gb : 1 ≤ b ∧ b ≤ 20
    · have h1' := rn_fr h1 (FrS.refl S) (th_fr (T := T) (k := 0))
      obtain ⟨S2, T2, g, hg, e1, e2, f1, f2, m⟩ := marks h1' hab
      rcases hg with rfl | rfl
      · rw [w5]
        simp (disch := omega) only [i0, i1, i2, i3, i4, i5, i6, i7, i8, i12, i16, i20, i30, i39, i40, i60, i64, i97, i100, i256, i1000, i10000, im1, im20, im60, l0, l1, l2, l3, l4, l5, l8, l10000, l1e9, lm10000, jl_add, jl_sub, jl_mul, jl_neg, ji_add, ji_sub, ji_mul, ji_neg, ji_l, jl_i, rL_n, rI_n, dL_n, dI_n, mnI_j, mxI_j, ji_nat, rest_j, part_n, whole_j, times_j, kc_0, kc_gt, kc_lt, kc_le, kc_ge, ji_lt, ji_le, ji_inj, jl_inj, jl_lt, jl_le, b1s, b2s, bEs, bEe, rIs, rIn, rIJ, rJs, rJn, rJI, ifp, ifn, if_true, if_false, n1, n3, needW_y, isIn_y, noY, th_th, e1, e2, noN3]
        exact ⟨S2, th T2 3, ji 0, rfl, rel_fr h f1 ((th_fr (k := 0)).trans (f2.trans th_fr)), Or.inr ⟨(5, 3), by simp, rfl, th_17⟩⟩
      · have F : FrT T (th T2 0) := (th_fr (k := 0)).trans (f2.trans th_fr)
        have H1 := rn_fr h1 f1 F
        have H2 := rp_fr h2 f1 F
        have H3 := rr_fr h3 f1 F
        have H4 := rx_fr h4 f1 F
        have M : Mk S2 (th T2 0) cnt := fun i hi => by
          rw [th_n (by omega)]
          exact m i hi
        obtain ⟨T3, k1, k2, k3, k4, k5⟩ := wishM (a := a) (more := b) H1 M gb FU 0 (th T2 0) (by omega) (fun _ _ _ => rfl) rfl (fun n hn h0 => by
          rw [if_neg (by omega)]
          exact ((H1.2.2.2.2.2.2.2 n hn).2.2.2.2.2.2.2.1.2.1 h0).2.2) (fun _ _ _ => rfl) (FU_lt (by omega))
        obtain ⟨S4, T4, num3, j1, j2, j3, j4, j5, j6, j7⟩ := anew H1 M gb hab k2 k3 k4 k5 FU 0 S2 T3 num (by omega) (fun _ _ _ => rfl) (fun _ _ _ => rfl) (fun _ _ _ _ _ => rfl) (fun _ _ _ _ => rfl) (fun n hn => absurd hn (Nat.not_lt_zero _)) (FU_lt (by omega))
        have e3 : f_X5_findMore (ji b) S2 = some S4 := j1
        have e4 : n_X10_refine_42 (ji a) (ji b) (ji 0) (th T2 0) = some (T4.1 2 a.toNat, T4) := k1.trans j2
        have n4 := numbC (S := S4) (n := 40) (v := a) ⟨hab.1, by omega⟩ (by omega)
        obtain ⟨⟨-, v1, -⟩, ⟨-, v2, -⟩, -⟩ := j7 a.toNat (by omega)
        have t17 : T4.1 0 17 = ji 0 := by rw [j5 _ _ (by omega) (by omega) (by omega), k2 _ _ (by omega)]; exact th_17
        have hab2 := hab.2
        rw [w5]
        simp (disch := omega) only [i0, i1, i2, i3, i4, i5, i6, i7, i8, i12, i16, i20, i30, i39, i40, i60, i64, i97, i100, i256, i1000, i10000, im1, im20, im60, l0, l1, l2, l3, l4, l5, l8, l10000, l1e9, lm10000, jl_add, jl_sub, jl_mul, jl_neg, ji_add, ji_sub, ji_mul, ji_neg, ji_l, jl_i, rL_n, rI_n, dL_n, dI_n, mnI_j, mxI_j, ji_nat, rest_j, part_n, whole_j, times_j, kc_0, kc_gt, kc_lt, kc_le, kc_ge, ji_lt, ji_le, ji_inj, jl_inj, jl_lt, jl_le, b1s, b2s, bEs, bEe, rIs, rIn, rIJ, rJs, rJn, rJI, ifp, ifn, if_true, if_false, n1, n3, n4, needW_y, isIn_y, noY, th_th, e1, e2, e3, e4, v1, v2]
        refine ⟨S4, T4, _, rfl, ?_, Or.inl ⟨rfl, t17⟩⟩
        -- the relation again
        obtain ⟨q1, q2, ⟨N1, N2, N3⟩, q4, q5, q6, q7, q8⟩ := H1
        have tt : ∀ o i : Nat, o ≠ 1 → o ≠ 2 → o ≠ 6 → ¬ (o = 0 ∧ (i = 23 ∨ i = 24)) → T4.1 o i = (th T2 0).1 o i := fun o i a1 a2 a3 a4 => (j5 o i a1 a2 a4).trans (k2 o i a3)
        refine ⟨p, r, cnt, num3, early, Dn S2 D b, C, bc, cn, pc, rowc, rv, sz, en, ⟨q1, q2, ⟨?_, ?_, fun e he => ?_⟩, ?_, ?_, ?_, q7, fun n hn => ?_⟩, ?_, ?_, ?_⟩
        · rw [j3 _ _ (by omega)]; exact N1
        · rw [j3 _ _ (by omega)]; exact N2
        · rw [j4 _ _ (by omega)]; exact N3 e he
        · rw [tt _ _ (by omega) (by omega) (by omega) (by omega)]; exact q4
        · rw [j3 _ _ (by omega)]; exact q5
        · rw [tt _ _ (by omega) (by omega) (by omega) (by omega)]; exact q6
        · obtain ⟨u1, u2, u3, u4, u5, u6, u7⟩ := j7 n hn
          obtain ⟨-, -, a4, ⟨x1, x2, x3⟩, a5, a6, a7, a8, a9, a10, a11⟩ := q8 n hn
          have dn : ∀ j : Nat, j ≠ 5 → Dn S2 D b n j = D n j := fun j hj => Dn_n hj
          refine ⟨u1, u2, u3, ⟨?_, ?_, ?_⟩, a5, Rf.trans u4 a6 a4.2.1, ?_, ?_, u6, u7, ?_⟩
          · rw [j3 _ _ (by omega)]; exact x1
          · rw [j3 _ _ (by omega)]; exact x2
          · rw [j4 _ _ (by omega)]; exact x3
          · refine ⟨fun j hj => ?_, fun q => ?_, fun q j hj => ?_⟩
            · by_cases hj5 : j = 5
              · subst hj5; exact u5
              · rw [j3 _ _ (by omega), dn j hj5]; exact a7.1 j hj
            · rw [dn 0 (by omega)] at q
              obtain ⟨cc, y1, y2, y3⟩ := a7.2.1 q
              obtain ⟨i1, i2⟩ := a9.f7 q
              rw [dn 3 (by omega), dn 6 (by omega)]
              exact ⟨cc, fun j hj => by rw [j3 _ _ (by omega)]; exact y1 j hj, y2, y3⟩
            · rw [dn 0 (by omega)] at q
              rw [dn 6 (by omega)] at hj
              rw [j3 _ _ (by omega)]
              exact a7.2.2 q j hj
          · obtain ⟨y1, y2, y3, y4, y5, y6⟩ := a8
            unfold DM
            rw [dn 0 (by omega), dn 1 (by omega), dn 2 (by omega), dn 3 (by omega), dn 4 (by omega), dn 6 (by omega)]
            refine ⟨?_, fun q => ⟨?_, ?_, ?_⟩, fun q q' => ?_, fun q q' => ?_, fun q => ⟨?_, ?_, fun j hj => ?_⟩, fun q => ⟨?_, fun j hj => ?_⟩⟩
            · rw [tt _ _ (by omega) (by omega) (by omega) (by omega)]; exact y1
            · rw [tt _ _ (by omega) (by omega) (by omega) (by omega)]; exact (y2 q).1
            · rw [tt _ _ (by omega) (by omega) (by omega) (by omega)]; exact (y2 q).2.1
            · rw [j5 _ _ (by omega) (by omega) (by omega)]; exact k4 n hn q
            · rw [tt _ _ (by omega) (by omega) (by omega) (by omega)]; exact y3 q q'
            · rw [tt _ _ (by omega) (by omega) (by omega) (by omega)]; exact y4 q q'
            · rw [tt _ _ (by omega) (by omega) (by omega) (by omega)]; exact (y5 q).1
            · rw [j5 _ _ (by omega) (by omega) (by omega), k5 n hn (by omega), show Dn S2 D b n 5 = D n 5 from if_neg (fun w => by have := w.2.1; omega)]; exact (y5 q).2.1
            · rw [tt _ _ (by omega) (by omega) (by omega) (by omega)]; exact (y5 q).2.2 j hj
            · rw [tt _ _ (by omega) (by omega) (by omega) (by omega)]; exact (y6 q).1
            · rw [tt _ _ (by omega) (by omega) (by omega) (by omega)]; exact (y6 q).2 j hj
          · unfold Lnk
            rw [dn 0 (by omega), dn 3 (by omega), dn 6 (by omega)]
            exact a11
        · obtain ⟨t1, t2, t3, t4, t5, t6⟩ := H2
          refine ⟨?_, ?_, t3, fun f hf => ⟨fun j hj => ?_, (t4 f hf).2.1, fun j hj => ?_⟩, fun f hf => ?_, t6⟩
          · rw [j3 _ _ (by omega)]; exact t1
          · rw [tt _ _ (by omega) (by omega) (by omega) (by omega)]; exact t2
          · rw [j3 _ _ (by omega)]; exact (t4 f hf).1 j hj
          · rw [tt _ _ (by omega) (by omega) (by omega) (by omega)]; exact (t4 f hf).2.2 j hj
          · rw [j3 _ _ (by omega), tt _ _ (by omega) (by omega) (by omega) (by omega)]; exact t5 f hf
        · obtain ⟨t1, t2, t3, t4, t5⟩ := H3
          refine ⟨?_, ?_, t3, t4, fun j hj => ?_⟩
          · rw [j3 _ _ (by omega)]; exact t1
          · rw [tt _ _ (by omega) (by omega) (by omega) (by omega)]; exact t2
          · rw [j3 _ _ (by omega), tt _ _ (by omega) (by omega) (by omega) (by omega)]; exact t5 j hj
        · obtain ⟨t1, t2, t3, t4, t5⟩ := H4
          refine ⟨?_, ?_, t3, t4, fun j hj => ?_⟩
          · rw [j3 _ _ (by omega)]; exact t1
          · rw [tt _ _ (by omega) (by omega) (by omega) (by omega)]; exact t2
          · rw [j3 _ _ (by omega), tt _ _ (by omega) (by omega) (by omega) (by omega)]; exact t5 j hj
    · rw [w5]
      simp (disch := omega) only [i0, i1, i2, i3, i4, i5, i6, i7, i8, i12, i16, i20, i30, i39, i40, i60, i64, i97, i100, i256, i1000, i10000, im1, im20, im60, l0, l1, l2, l3, l4, l5, l8, l10000, l1e9, lm10000, jl_add, jl_sub, jl_mul, jl_neg, ji_add, ji_sub, ji_mul, ji_neg, ji_l, jl_i, rL_n, rI_n, dL_n, dI_n, mnI_j, mxI_j, ji_nat, rest_j, part_n, whole_j, times_j, kc_0, kc_gt, kc_lt, kc_le, kc_ge, ji_lt, ji_le, ji_inj, jl_inj, jl_lt, jl_le, b1s, b2s, bEs, bEe, rIs, rIn, rIJ, rJs, rJn, rJI, ifp, ifn, if_true, if_false, n1, n3, needW_n, isIn_n, noN2, th_th]
      exact ⟨S, th T 2, ji 0, rfl, rel_fr h (FrS.refl S) th_fr, Or.inr ⟨(1, 2), by simp, rfl, th_17⟩⟩
  · rw [noNum_n c6 c7 ha hab, b2s, ifn (show ¬ ji 1 = (0 : Int32) by decide)]
    refine ⟨S, th T 1, 0, rfl, rel_fr h (FrS.refl S) th_fr, Or.inr ⟨(3, 1), by simp, ?_, th_17⟩⟩
    rw [needN_n c5 c7 ha hab, bEe]
