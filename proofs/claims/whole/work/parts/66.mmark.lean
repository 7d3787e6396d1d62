/-! marking all on which a number hangs -/
theorem vpn (b : Int) (h : b = 0 ∨ b = 1) : vp_nar .boolean (ji b) = ji b := by
  rcases h with rfl | rfl <;> rfl
def mkS (S : St) (v : Int) : St := if 0 ≤ v then wI S (12 + v.toNat) 7 (ji 1) else S
def mkT (T : St) (v : Int) : St := if 0 ≤ v then wI T 9 v.toNat (ji 1) else T
def Mk (S T : St) (cnt : Nat) : Prop := ∀ i : Nat, i < cnt → S.1 (12 + i) 7 = T.1 9 i ∧ (S.1 (12 + i) 7 = ji 0 ∨ S.1 (12 + i) 7 = ji 1)
theorem mk_mk {S T : St} {cnt : Nat} {v : Int} (h : Mk S T cnt) : Mk (mkS S v) (mkT T v) cnt := by
  intro i hi
  obtain ⟨a, b⟩ := h i hi
  unfold mkS mkT
  by_cases hv : 0 ≤ v
  · rw [if_pos hv, if_pos hv]
    by_cases hiv : i = v.toNat
    · subst hiv
      rw [rIs, rIs]
      exact ⟨rfl, Or.inr rfl⟩
    · rw [rIn (by omega), rIn (by omega)]
      exact ⟨a, b⟩
  · rw [if_neg hv, if_neg hv]
    exact ⟨a, b⟩
theorem mkS_fr {S : St} {v : Int} (hv : v < 40) : FrS S (mkS S v) := by
  unfold mkS
  by_cases h : 0 ≤ v
  · rw [if_pos h]
    exact ⟨fun o i a b c => rIn (by omega), fun _ _ _ _ _ => rfl⟩
  · rw [if_neg h]; exact FrS.refl S
theorem mkT_fr {T : St} {v : Int} : FrT T (mkT T v) := by
  unfold mkT
  by_cases h : 0 ≤ v
  · rw [if_pos h]
    exact ⟨fun o i a b c d => rIn (by omega), fun _ _ _ => rfl⟩
  · rw [if_neg h]; exact FrT.refl T
theorem markC {S : St} {v : Int} (hv : -1 ≤ v ∧ v < 40) : f_X5_mark (ji v) S = some (mkS S v) := by
  unfold f_X5_mark mkS
  by_cases h : 0 ≤ v
  · rw [if_pos h]
    simp (disch := omega) only [i0, i1, i2, i3, i4, i5, i6, i7, i8, i12, i16, i20, i30, i39, i40, i60, i64, i97, i100, i256, i1000, i10000, im1, im20, im60, l0, l1, l2, l3, l4, l5, l8, l10000, l1e9, lm10000, jl_add, jl_sub, jl_mul, jl_neg, ji_add, ji_sub, ji_mul, ji_neg, ji_l, jl_i, rL_n, rI_n, dL_n, dI_n, mnI_j, mxI_j, ji_nat, rest_j, part_n, whole_j, times_j, kc_0, kc_gt, kc_lt, kc_le, kc_ge, ji_lt, ji_le, ji_inj, jl_inj, jl_lt, jl_le, b1s, b2s, bEs, bEe, rIs, rIn, rIJ, rJs, rJn, rJI, ifp, ifn, if_true, if_false]
  · rw [if_neg h]
    simp (disch := omega) only [i0, i1, i2, i3, i4, i5, i6, i7, i8, i12, i16, i20, i30, i39, i40, i60, i64, i97, i100, i256, i1000, i10000, im1, im20, im60, l0, l1, l2, l3, l4, l5, l8, l10000, l1e9, lm10000, jl_add, jl_sub, jl_mul, jl_neg, ji_add, ji_sub, ji_mul, ji_neg, ji_l, jl_i, rL_n, rI_n, dL_n, dI_n, mnI_j, mxI_j, ji_nat, rest_j, part_n, whole_j, times_j, kc_0, kc_gt, kc_lt, kc_le, kc_ge, ji_lt, ji_le, ji_inj, jl_inj, jl_lt, jl_le, b1s, b2s, bEs, bEe, rIs, rIn, rIJ, rJs, rJn, rJI, ifp, ifn, if_true, if_false]
/-- of which numbers a number comes -/
theorem Pre.par {p : Int} {r n : Nat} {d c : Nat → Int} {num : Nat → Int × Int × Int} (h : Pre p r d c num n) (hn : n < 40) : 0 ≤ d 0 ∧ d 0 ≤ 8 ∧ -1 ≤ d 1 ∧ d 1 < n ∧ -1 ≤ d 2 ∧ d 2 < n ∧ (d 0 = 0 ∨ d 0 = 7 → d 1 = -1) ∧ (d 0 ≠ 0 → d 0 ≠ 7 → 0 ≤ d 1) ∧ (1 ≤ d 0 → d 0 ≤ 4 → 0 ≤ d 2) ∧ (¬ (1 ≤ d 0 ∧ d 0 ≤ 4) → d 2 = -1) := by
  rcases h with ⟨k, -, e1, e2⟩ | ⟨k, ⟨a1, a2⟩, b1, b2⟩ | ⟨k, ⟨a1, a2⟩, b1, b2⟩ | ⟨k, ⟨a1, a2⟩, ⟨b1, b2⟩, -⟩ | ⟨k, ⟨a1, a2⟩, ⟨b1, b2⟩, -⟩ | ⟨k, ⟨a1, a2⟩, e2, -⟩ | ⟨k, ⟨a1, a2⟩, e2, -⟩ | ⟨k, e1, e2, -⟩ | ⟨k, ⟨a1, a2⟩, e2, -⟩
  all_goals omega
theorem mark_loop {S T : St} {p : Int} {r cnt : Nat} {num early : Nat → Int × Int × Int} {D C : Nat → Nat → Int} {bc rowc : Nat} {cn : Nat → Nat} (h : RN S T p r cnt num early D C bc rowc cn) :
    ∀ (N : Nat) (k f : Int) (S1 T1 : St), -1 ≤ k → k < cnt → (f = 0 ∨ f = 1) → FrS S S1 → FrT T T1 → Mk S1 T1 cnt → (k + 1).toNat < N →
    ∃ (S2 T2 : St) (g : Int), (g = 0 ∨ g = 1) ∧ itr (fun (q : Int32 × Int32 × St) k => s_X5_markFractionsUnder_50 (fun (x2 : Int32) (x3 : Int32) (S : St) => k (x2, x3, S)) q.1 q.2.1 q.2.2) N (ji f, ji k, S1) = some (ji g, S2) ∧
      itr (fun (q : Int32 × Int32 × St) k => s_X10_hangsOn_36 (fun (x2 : Int32) (x3 : Int32) (S : St) => k (x2, x3, S)) q.1 q.2.1 q.2.2) N (ji f, ji k, T1) = some (ji g, T2) ∧ FrS S S2 ∧ FrT T T2 ∧ Mk S2 T2 cnt
  | 0, _, _, _, _, _, _, _, _, _, _, hN => absurd hN (Nat.not_lt_zero _)
  | N + 1, k, f, S1, T1, hk1, hk2, hf, fS, fT, hM, hN => by
    have h40 := h.2.2.2.2.2.2.1
    rw [itrS, itrS]
    have IH := mark_loop h N (k - 1)
    generalize itr (fun (q : Int32 × Int32 × St) k => s_X5_markFractionsUnder_50 (fun (x2 : Int32) (x3 : Int32) (S : St) => k (x2, x3, S)) q.1 q.2.1 q.2.2) N = K1 at IH
    generalize itr (fun (q : Int32 × Int32 × St) k => s_X10_hangsOn_36 (fun (x2 : Int32) (x3 : Int32) (S : St) => k (x2, x3, S)) q.1 q.2.1 q.2.2) N = K2 at IH
    show ∃ (S2 T2 : St) (g : Int), (g = 0 ∨ g = 1) ∧ s_X5_markFractionsUnder_50 (fun (x2 : Int32) (x3 : Int32) (S : St) => K1 (x2, x3, S)) (ji f) (ji k) S1 = some (ji g, S2) ∧ s_X10_hangsOn_36 (fun (x2 : Int32) (x3 : Int32) (S : St) => K2 (x2, x3, S)) (ji f) (ji k) T1 = some (ji g, T2) ∧ FrS S S2 ∧ FrT T T2 ∧ Mk S2 T2 cnt
    unfold s_X5_markFractionsUnder_50 s_X10_hangsOn_36 n_X10_hangsOn_84 n_X10_hangsOn_116
    have nbf : narrow .boolean (.int (ji f)) = .int (ji f) := by rcases hf with rfl | rfl <;> rfl
    by_cases hneg : k < 0
    · refine ⟨S1, T1, f, hf, ?_, ?_, fS, fT, hM⟩
      · rw [i0, ifp ((ji_lt (by omega) (by omega)).mpr hneg), if_pos nbf]
      · rw [i0, ifp ((ji_lt (by omega) (by omega)).mpr hneg), if_pos nbf]
    · obtain ⟨m1, m2⟩ := hM k.toNat (by omega)
      obtain ⟨-, -, -, -, -, -, a7, a8, a9, -, -⟩ := h.2.2.2.2.2.2.2 k.toNat (by omega)
      have pa := a9.par (by omega)
      have ea : ((k.toNat : Nat) : Int) = k := by omega
      by_cases hm : S1.1 (12 + k.toNat) 7 = ji 0
      · rw [hm] at m1
        have := IH f S1 T1 (by omega) (by omega) hf fS fT hM (by omega)
        rw [show k - 1 = k + -1 by omega] at this
        simp (disch := omega) only [i0, i1, i2, i3, i4, i5, i6, i7, i8, i12, i16, i20, i30, i39, i40, i60, i64, i97, i100, i256, i1000, i10000, im1, im20, im60, l0, l1, l2, l3, l4, l5, l8, l10000, l1e9, lm10000, jl_add, jl_sub, jl_mul, jl_neg, ji_add, ji_sub, ji_mul, ji_neg, ji_l, jl_i, rL_n, rI_n, dL_n, dI_n, mnI_j, mxI_j, ji_nat, rest_j, part_n, whole_j, times_j, kc_0, kc_gt, kc_lt, kc_le, kc_ge, ji_lt, ji_le, ji_inj, jl_inj, jl_lt, jl_le, b1s, b2s, bEs, bEe, rIs, rIn, rIJ, rJs, rJn, rJI, ifp, ifn, if_true, if_false, hm, ← m1]
        exact this
      · have hm1 : S1.1 (12 + k.toNat) 7 = ji 1 := m2.resolve_left hm
        have ht1 : T1.1 9 k.toNat = ji 1 := m1.symm.trans hm1
        obtain ⟨p0, p1, p2, p3, p4, p5, p6, p7, p8, p9⟩ := pa
        have q0 : S1.1 (12 + k.toNat) 0 = ji (D k.toNat 0) := (fS.1 _ _ (by omega) (by omega) (by omega)).trans (a7.1 0 (by omega))
        have q1 : S1.1 (12 + k.toNat) 1 = ji (D k.toNat 1) := (fS.1 _ _ (by omega) (by omega) (by omega)).trans (a7.1 1 (by omega))
        have q2 : (mkS S1 (D k.toNat 1)).1 (12 + k.toNat) 2 = ji (D k.toNat 2) := by
          rw [(mkS_fr (by omega)).1 _ _ (by omega) (by omega) (by omega)]
          exact (fS.1 _ _ (by omega) (by omega) (by omega)).trans (a7.1 2 (by omega))
        have q3 : (mkS (mkS S1 (D k.toNat 1)) (D k.toNat 2)).1 (12 + k.toNat) 0 = ji (D k.toNat 0) := by
          rw [(mkS_fr (by omega)).1 _ _ (by omega) (by omega) (by omega), (mkS_fr (by omega)).1 _ _ (by omega) (by omega) (by omega)]
          exact q0
        have r0 : T1.1 3 k.toNat = ji (D k.toNat 0) := (fT.1 _ _ (by omega) (by omega) (by omega) (by omega)).trans a8.1
        have FS : FrS S (mkS (mkS S1 (D k.toNat 1)) (D k.toNat 2)) := fS.trans ((mkS_fr (by omega)).trans (mkS_fr (by omega)))
        have FT : FrT T (mkT (mkT T1 (D k.toNat 1)) (D k.toNat 2)) := fT.trans (mkT_fr.trans mkT_fr)
        have MM := mk_mk (v := D k.toNat 2) (mk_mk (v := D k.toNat 1) hM)
        have c1 := markC (S := S1) (v := D k.toNat 1) (by omega)
        have c2 := markC (S := mkS S1 (D k.toNat 1)) (v := D k.toNat 2) (by omega)
        have vn := vpn 1 (Or.inr rfl)
        -- the reference's own way to the same marks
        have two : ∀ T2 : St, T2.1 3 k.toNat = ji (D k.toNat 0) → (1 ≤ D k.toNat 0 → D k.toNat 0 ≤ 4 → T2.1 5 k.toNat = ji (D k.toNat 2)) →
            n_X10_hangsOn_84 (fun (x2 : Int32) (x3 : Int32) (S : St) => K2 (x2, x3, S)) (ji f) (ji k) T2 = K2 (ji (if D k.toNat 0 = 0 then 1 else f), ji (k + -1), mkT T2 (D k.toNat 2)) := by
          intro T2 t3 t5
          have t3' : (mkT T2 (D k.toNat 2)).1 3 k.toNat = ji (D k.toNat 0) := by rw [mkT_fr.1 _ _ (by omega) (by omega) (by omega) (by omega)]; exact t3
          have o1 : ji f ||| ji 1 = ji 1 := by rcases hf with rfl | rfl <;> decide
          have o0 : ji f ||| ji 0 = ji f := by rcases hf with rfl | rfl <;> decide
          unfold n_X10_hangsOn_84 n_X10_hangsOn_116
          by_cases g : 1 ≤ D k.toNat 0 ∧ D k.toNat 0 ≤ 4
          · have t5' := t5 g.1 g.2
            have e2 : mkT T2 (D k.toNat 2) = wI T2 9 (D k.toNat 2).toNat (ji 1) := if_pos (p8 g.1 g.2)
            have w := p8 g.1 g.2
            rw [e2] at t3' ⊢
            simp (disch := omega) only [i0, i1, i2, i3, i4, i5, i6, i7, i8, i12, i16, i20, i30, i39, i40, i60, i64, i97, i100, i256, i1000, i10000, im1, im20, im60, l0, l1, l2, l3, l4, l5, l8, l10000, l1e9, lm10000, jl_add, jl_sub, jl_mul, jl_neg, ji_add, ji_sub, ji_mul, ji_neg, ji_l, jl_i, rL_n, rI_n, dL_n, dI_n, mnI_j, mxI_j, ji_nat, rest_j, part_n, whole_j, times_j, kc_0, kc_gt, kc_lt, kc_le, kc_ge, ji_lt, ji_le, ji_inj, jl_inj, jl_lt, jl_le, b1s, b2s, bEs, bEe, rIs, rIn, rIJ, rJs, rJn, rJI, ifp, ifn, if_true, if_false, t3, t5', vn, o0]
          · have e2 : mkT T2 (D k.toNat 2) = T2 := if_neg (by have := p9 g; omega)
            rw [e2]
            by_cases g0 : D k.toNat 0 = 0
            · simp (disch := omega) only [i0, i1, i2, i3, i4, i5, i6, i7, i8, i12, i16, i20, i30, i39, i40, i60, i64, i97, i100, i256, i1000, i10000, im1, im20, im60, l0, l1, l2, l3, l4, l5, l8, l10000, l1e9, lm10000, jl_add, jl_sub, jl_mul, jl_neg, ji_add, ji_sub, ji_mul, ji_neg, ji_l, jl_i, rL_n, rI_n, dL_n, dI_n, mnI_j, mxI_j, ji_nat, rest_j, part_n, whole_j, times_j, kc_0, kc_gt, kc_lt, kc_le, kc_ge, ji_lt, ji_le, ji_inj, jl_inj, jl_lt, jl_le, b1s, b2s, bEs, bEe, rIs, rIn, rIJ, rJs, rJn, rJI, ifp, ifn, if_true, if_false, t3, o1]
            · by_cases g1 : D k.toNat 0 < 1
              · omega
              · simp (disch := omega) only [i0, i1, i2, i3, i4, i5, i6, i7, i8, i12, i16, i20, i30, i39, i40, i60, i64, i97, i100, i256, i1000, i10000, im1, im20, im60, l0, l1, l2, l3, l4, l5, l8, l10000, l1e9, lm10000, jl_add, jl_sub, jl_mul, jl_neg, ji_add, ji_sub, ji_mul, ji_neg, ji_l, jl_i, rL_n, rI_n, dL_n, dI_n, mnI_j, mxI_j, ji_nat, rest_j, part_n, whole_j, times_j, kc_0, kc_gt, kc_lt, kc_le, kc_ge, ji_lt, ji_le, ji_inj, jl_inj, jl_lt, jl_le, b1s, b2s, bEs, bEe, rIs, rIn, rIJ, rJs, rJn, rJI, ifp, ifn, if_true, if_false, t3, o0]
        have one : s_X10_hangsOn_36 (fun (x2 : Int32) (x3 : Int32) (S : St) => K2 (x2, x3, S)) (ji f) (ji k) T1 = K2 (ji (if D k.toNat 0 = 0 then 1 else f), ji (k + -1), mkT (mkT T1 (D k.toNat 1)) (D k.toNat 2)) := by
          unfold s_X10_hangsOn_36
          by_cases g : D k.toNat 0 = 0 ∨ D k.toNat 0 = 7
          · have e1 : mkT T1 (D k.toNat 1) = T1 := if_neg (by have := p6 g; omega)
            rw [e1]
            have tw := two T1 r0 (fun _ _ => by omega)
            by_cases g0 : D k.toNat 0 = 0
            · simp (disch := omega) only [i0, ji_lt, ji_inj, ji_nat, ifn, ifp, ht1, r0, tw]
            · simp (disch := omega) only [i0, i7, ji_lt, ji_inj, ji_nat, ifn, ifp, ht1, r0, tw]
          · have g0 : D k.toNat 0 ≠ 0 := fun q => g (Or.inl q)
            have g7 : D k.toNat 0 ≠ 7 := fun q => g (Or.inr q)
            have w := p7 g0 g7
            have t4 : T1.1 4 k.toNat = ji (D k.toNat 1) := (fT.1 _ _ (by omega) (by omega) (by omega) (by omega)).trans (a8.2.2.1 g0 g7)
            have e1 : mkT T1 (D k.toNat 1) = wI T1 9 (D k.toNat 1).toNat (ji 1) := if_pos w
            have tw := two (mkT T1 (D k.toNat 1)) (by rw [mkT_fr.1 _ _ (by omega) (by omega) (by omega) (by omega)]; exact r0) (fun g1 g2 => by
              rw [mkT_fr.1 _ _ (by omega) (by omega) (by omega) (by omega)]
              exact (fT.1 _ _ (by omega) (by omega) (by omega) (by omega)).trans (a8.2.2.2.1 g1 g2))
            rw [e1] at tw ⊢
            simp (disch := omega) only [i0, i1, i7, ji_lt, ji_inj, ji_nat, ifn, ifp, ht1, r0, t4, vn, tw]
        unfold s_X10_hangsOn_36 n_X10_hangsOn_84 n_X10_hangsOn_116 at one
        rw [one]
        have hf' : (if D k.toNat 0 = 0 then (1 : Int) else f) = 0 ∨ (if D k.toNat 0 = 0 then (1 : Int) else f) = 1 := by
          split
          · exact Or.inr rfl
          · exact hf
        have := IH (if D k.toNat 0 = 0 then 1 else f) _ _ (by omega) (by omega) hf' FS FT MM (by omega)
        rw [show k - 1 = k + -1 by omega] at this
        have cl : s_X5_markFractionsUnder_50 (fun (x2 : Int32) (x3 : Int32) (S : St) => K1 (x2, x3, S)) (ji f) (ji k) S1 = K1 (ji (if D k.toNat 0 = 0 then 1 else f), ji (k + -1), mkS (mkS S1 (D k.toNat 1)) (D k.toNat 2)) := by
          unfold s_X5_markFractionsUnder_50
          simp (disch := omega) only [i0, i1, i2, i3, i4, i5, i6, i7, i8, i12, i16, i20, i30, i39, i40, i60, i64, i97, i100, i256, i1000, i10000, im1, im20, im60, l0, l1, l2, l3, l4, l5, l8, l10000, l1e9, lm10000, jl_add, jl_sub, jl_mul, jl_neg, ji_add, ji_sub, ji_mul, ji_neg, ji_l, jl_i, rL_n, rI_n, dL_n, dI_n, mnI_j, mxI_j, ji_nat, rest_j, part_n, whole_j, times_j, kc_0, kc_gt, kc_lt, kc_le, kc_ge, ji_lt, ji_le, ji_inj, jl_inj, jl_lt, jl_le, b1s, b2s, bEs, bEe, rIs, rIn, rIJ, rJs, rJn, rJI, ifp, ifn, if_true, if_false, hm1, q1, c1, q2, c2, q3]
          rcases hf with rfl | rfl
          · by_cases g0 : D k.toNat 0 = 0
            · rw [if_pos (by rfl), if_pos g0, if_pos g0]
            · rw [if_pos (by rfl), if_neg g0, if_neg g0]
          · rw [if_neg (by omega)]
            by_cases g0 : D k.toNat 0 = 0
            · rw [if_pos g0]
            · rw [if_neg g0]
        unfold s_X5_markFractionsUnder_50 at cl
        rw [cl]
        exact this
