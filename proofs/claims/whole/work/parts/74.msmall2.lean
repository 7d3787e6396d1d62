def nz (c : Nat → Int) : Nat → Nat
  | 0 => 0
  | n + 1 => nz c n + (if c n = 0 then 0 else 1)
theorem nz_le (c : Nat → Int) : ∀ n : Nat, nz c n ≤ n
  | 0 => Nat.le_refl _
  | n + 1 => by
    have := nz_le c n
    unfold nz
    split <;> omega
theorem countC_loop {S : St} {f : Nat} {c : Nat → Int} (hc : PolC S f c) (hB : CoB c) : ∀ (N k : Nat), k ≤ 7 → 7 - k < N → itr (fun (q : Nat × Int32 × Int32) k => s_X4_termCount_4 (fun (x0 : Nat) (x1 : Int32) (x2 : Int32) => k (x0, x1, x2)) S q.1 q.2.1 q.2.2) N (f, ji (nz c k : Nat), ji k) = some (ji (nz c 7 : Nat))
  | 0, _, _, h => absurd h (Nat.not_lt_zero _)
  | N + 1, k, hk, hN => by
    rw [itrS]
    have IH := countC_loop hc hB N (k + 1)
    generalize itr _ N = K at IH
    show s_X4_termCount_4 _ S f (ji (nz c k : Nat)) (ji k) = _
    have := nz_le c k
    unfold s_X4_termCount_4
    by_cases h7 : 7 ≤ k
    · have : k = 7 := by omega
      subst this
      simp (disch := omega) only [i0, i1, i2, i3, i4, i5, i6, i7, i8, i12, i16, i20, i30, i39, i40, i60, i64, i97, i100, i256, i1000, i10000, im1, im20, im60, l0, l1, l2, l3, l4, l5, l8, l10000, l1e9, lm10000, jl_add, jl_sub, jl_mul, jl_neg, ji_add, ji_sub, ji_mul, ji_neg, ji_l, jl_i, rL_n, rI_n, dL_n, dI_n, mnI_j, mxI_j, ji_nat, rest_j, part_n, whole_j, times_j, kc_0, kc_gt, kc_lt, kc_le, kc_ge, ji_lt, ji_le, ji_inj, jl_inj, jl_lt, jl_le, b1s, b2s, bEs, bEe, rIs, rIn, rIJ, rJs, rJn, rJI, ifp, ifn, if_true, if_false]
    · have e := hc k (by omega)
      have b := hB k
      have e2 : nz c (k + 1) = nz c k + (if c k = 0 then 0 else 1) := rfl
      simp (disch := omega) only [i0, i1, i2, i3, i4, i5, i6, i7, i8, i12, i16, i20, i30, i39, i40, i60, i64, i97, i100, i256, i1000, i10000, im1, im20, im60, l0, l1, l2, l3, l4, l5, l8, l10000, l1e9, lm10000, jl_add, jl_sub, jl_mul, jl_neg, ji_add, ji_sub, ji_mul, ji_neg, ji_l, jl_i, rL_n, rI_n, dL_n, dI_n, mnI_j, mxI_j, ji_nat, rest_j, part_n, whole_j, times_j, kc_0, kc_gt, kc_lt, kc_le, kc_ge, ji_lt, ji_le, ji_inj, jl_inj, jl_lt, jl_le, b1s, b2s, bEs, bEe, rIs, rIn, rIJ, rJs, rJn, rJI, ifp, ifn, if_true, if_false, Int.toNat_natCast, e]
      rw [show (k : Int) + 1 = ((k + 1 : Nat) : Int) by omega]
      by_cases h0 : c k = 0
      · rw [if_pos h0]
        have e3 : nz c (k + 1) = nz c k := by rw [e2, if_pos h0]; rfl
        rw [← e3]
        exact IH (by omega) (by omega)
      · rw [if_neg h0]
        rw [if_neg h0] at e2
        rw [show (nz c k : Int) + 1 = ((nz c (k + 1) : Nat) : Int) by omega]
        exact IH (by omega) (by omega)
theorem countM_loop {T : St} {f : Nat} {c : Nat → Int} (hf : f < 8) (hc : ∀ j : Nat, j < 7 → T.1 12 (7 * f + j) = ji (c j)) (hB : CoB c) : ∀ (N k : Nat), k ≤ 7 → 7 - k < N → itr (fun (q : Int32 × Int32 × Int32 × St) k => s_X10_term_86 (fun (x1 : Int32) (x4 : Int32) (x5 : Int32) (S : St) => k (x1, x4, x5, S)) q.1 q.2.1 q.2.2.1 q.2.2.2) N (ji f, ji (nz c k : Nat), ji k, T) = some (ji (nz c 7 : Nat), T)
  | 0, _, _, h => absurd h (Nat.not_lt_zero _)
  | N + 1, k, hk, hN => by
    rw [itrS]
    have IH := countM_loop hf hc hB N (k + 1)
    generalize itr _ N = K at IH
    show s_X10_term_86 _ (ji f) (ji (nz c k : Nat)) (ji k) T = _
    have := nz_le c k
    unfold s_X10_term_86
    by_cases h7 : 7 ≤ k
    · have : k = 7 := by omega
      subst this
      simp (disch := omega) only [i0, i1, i2, i3, i4, i5, i6, i7, i8, i12, i16, i20, i30, i39, i40, i60, i64, i97, i100, i256, i1000, i10000, im1, im20, im60, l0, l1, l2, l3, l4, l5, l8, l10000, l1e9, lm10000, jl_add, jl_sub, jl_mul, jl_neg, ji_add, ji_sub, ji_mul, ji_neg, ji_l, jl_i, rL_n, rI_n, dL_n, dI_n, mnI_j, mxI_j, ji_nat, rest_j, part_n, whole_j, times_j, kc_0, kc_gt, kc_lt, kc_le, kc_ge, ji_lt, ji_le, ji_inj, jl_inj, jl_lt, jl_le, b1s, b2s, bEs, bEe, rIs, rIn, rIJ, rJs, rJn, rJI, ifp, ifn, if_true, if_false]
    · have e := hc k (by omega)
      have b := hB k
      have e1 : (7 * (f : Int) + (k : Int)).toNat = 7 * f + k := by omega
      have e2 : nz c (k + 1) = nz c k + (if c k = 0 then 0 else 1) := rfl
      simp (disch := omega) only [i0, i1, i2, i3, i4, i5, i6, i7, i8, i12, i16, i20, i30, i39, i40, i60, i64, i97, i100, i256, i1000, i10000, im1, im20, im60, l0, l1, l2, l3, l4, l5, l8, l10000, l1e9, lm10000, jl_add, jl_sub, jl_mul, jl_neg, ji_add, ji_sub, ji_mul, ji_neg, ji_l, jl_i, rL_n, rI_n, dL_n, dI_n, mnI_j, mxI_j, ji_nat, rest_j, part_n, whole_j, times_j, kc_0, kc_gt, kc_lt, kc_le, kc_ge, ji_lt, ji_le, ji_inj, jl_inj, jl_lt, jl_le, b1s, b2s, bEs, bEe, rIs, rIn, rIJ, rJs, rJn, rJI, ifp, ifn, if_true, if_false, e1, e]
      rw [show (k : Int) + 1 = ((k + 1 : Nat) : Int) by omega]
      by_cases h0 : c k = 0
      · rw [if_pos h0]
        have e3 : nz c (k + 1) = nz c k := by rw [e2, if_pos h0]; rfl
        rw [Int.add_zero, ← e3]
        exact IH (by omega) (by omega)
      · rw [if_neg h0]
        rw [if_neg h0] at e2
        rw [show (nz c k : Int) + 1 = ((nz c (k + 1) : Nat) : Int) by omega]
        exact IH (by omega) (by omega)
theorem T_term {S T : St} (h : Rel S T) (a b c : Int32) : An [(3, 1), (1, 2)] (f_X9_term a b c S) (f_X10_term a b c T) := by
  obtain ⟨a, rfl, ha⟩ := ji_ex a
  obtain ⟨b, rfl, hb⟩ := ji_ex b
  obtain ⟨c, rfl, hc0⟩ := ji_ex c
  have hh := h
  obtain ⟨p, r, cnt, num, early, D, C, bc, cn, pc, rowc, rv, sz, en, h1, h2, h3, h4⟩ := hh
  have hh2 := h2
  obtain ⟨t1, t2, t3, t4, t5, t6⟩ := hh2
  have w6 : (6 : Int64) = jl 6 := rfl
  by_cases ga : 0 ≤ a ∧ a < bc
  · have ga1 := ga.1
    have ga2 := ga.2
    have n1 := needP_y t1 t3 ga
    have n2 := noP_y t2 t3 ga
    have ea : ((a.toNat : Nat) : Int) = a := by omega
    have pg := fun S => pageC (S := S) (k := a.toNat) (by omega)
    rw [ea] at pg
    obtain ⟨P1, P2, P3⟩ := t4 a.toNat (by omega)
    obtain ⟨Q1, Q2, Q3, Q4, Q5, Q6, Q7⟩ := t5 a.toNat (by omega)
    have m13 : (th T 0).1 13 a.toNat = ji ((cn a.toNat : Int) - 1) := (th_n (by omega)).trans Q4
    have bad2 : ∀ x y, x = some ((.error 1 : Except Nat Int32), S) → y = some (ji 0, th T 2) → An [(3, 1), (1, 2)] x y := by
      rintro x y rfl rfl
      exact ⟨S, th T 2, ji 0, rfl, rel_fr h (FrS.refl S) th_fr, Or.inr ⟨(1, 2), by simp, rfl, th_17⟩⟩
    by_cases gb : (cn a.toNat : Int) ≤ b ∧ b ≤ 6
    · by_cases hz : c ≠ 0 ∧ -10000 ≤ c ∧ c ≤ 10000
      · have nz1 := needZ_y hz
        obtain ⟨pf, pf1, pf2⟩ : ∃ pf : Nat → Int, pf b.toNat = c ∧ ∀ j : Nat, j ≠ b.toNat → pf j = pc a.toNat j := ⟨fun j => if j = b.toNat then c else pc a.toNat j, if_pos rfl, fun j hj => if_neg hj⟩
        have hB : CoB pf := fun j => by
          by_cases hj : j = b.toNat
          · subst hj; rw [pf1]; omega
          · rw [pf2 j hj]; exact P2 j
        generalize hS' : wI (wI S (62 + a.toNat) b.toNat (ji c)) (54 + a.toNat) 0 (ji (b + 1)) = S'
        generalize hT' : wI (wI (th T 0) 12 (7 * a.toNat + b.toNat) (ji c)) 13 a.toNat (ji b) = T'
        have sS : ∀ o i : Nat, o ≠ 54 + a.toNat → ¬ (o = 62 + a.toNat ∧ i = b.toNat) → S'.1 o i = S.1 o i := fun o i q1 q2 => by rw [← hS']; simp (disch := omega) only [rIs, rIn, rIJ, rJs, rJn, rJI]
        have sT : ∀ o i : Nat, ¬ (o = 12 ∧ i = 7 * a.toNat + b.toNat) → o ≠ 13 → ¬ (o = 0 ∧ i = 17) → T'.1 o i = T.1 o i := fun o i q1 q2 q3 => by rw [← hT']; simp (disch := omega) only [rIs, rIn, rIJ, rJs, rJn, rJI]; exact th_n (by omega)
        have sPol : PolC S' a.toNat pf := fun j hj => by
          by_cases hjb : j = b.toNat
          · subst hjb; rw [pf1, ← hS']; simp (disch := omega) only [rIs, rIn, rIJ, rJs, rJn, rJI]
          · rw [pf2 j hjb, sS _ _ (by omega) (by omega)]; exact P1 j hj
        have tPol : ∀ j : Nat, j < 7 → T'.1 12 (7 * a.toNat + j) = ji (pf j) := fun j hj => by
          by_cases hjb : j = b.toNat
          · subst hjb; rw [pf1, ← hT']; simp (disch := omega) only [rIs, rIn, rIJ, rJs, rJn, rJI]
          · rw [pf2 j hjb, sT _ _ (by omega) (by omega) (by omega)]; exact P3 j hj
        have cC : f_X4_termCount a.toNat S' = some (ji (nz pf 7 : Nat)) := countC_loop sPol hB FU 0 (by omega) (FU_lt (by omega))
        have cM : n_X10_term_86 (ji a) (ji 0) (ji 0) T' = some (ji (nz pf 7 : Nat), T') := by
          have := countM_loop (f := a.toNat) (by omega) tPol hB FU 0 (by omega) (FU_lt (by omega))
          rw [ea] at this
          exact this
        have kC : f_X9_term (ji a) (ji b) (ji c) S = some (.ok (ji (nz pf 7 : Nat)), S') := by
          unfold f_X9_term f_X4_append
          simp (disch := omega) only [i0, i1, i2, i3, i4, i5, i6, i7, i8, i12, i16, i20, i30, i39, i40, i60, i64, i97, i100, i256, i1000, i10000, im1, im20, im60, l0, l1, l2, l3, l4, l5, l8, l10000, l1e9, lm10000, jl_add, jl_sub, jl_mul, jl_neg, ji_add, ji_sub, ji_mul, ji_neg, ji_l, jl_i, rL_n, rI_n, dL_n, dI_n, mnI_j, mxI_j, ji_nat, rest_j, part_n, whole_j, times_j, kc_0, kc_gt, kc_lt, kc_le, kc_ge, ji_lt, ji_le, ji_inj, jl_inj, jl_lt, jl_le, b1s, b2s, bEs, bEe, rIs, rIn, rIJ, rJs, rJn, rJI, ifp, ifn, if_true, if_false, n1, pg, Q3, needW_y, nz1, hS', cC]
        have kM : f_X10_term (ji a) (ji b) (ji c) T = some (ji (nz pf 7 : Nat), T') := by
          unfold f_X10_term n_X10_term_52
          rw [lm10000, l10000, w6]
          have e7 : (7 * a + b).toNat = 7 * a.toNat + b.toNat := by omega
          simp (disch := omega) only [i0, i1, i2, i3, i4, i5, i6, i7, i8, i12, i16, i20, i30, i39, i40, i60, i64, i97, i100, i256, i1000, i10000, im1, im20, im60, l0, l1, l2, l3, l4, l5, l8, l10000, l1e9, lm10000, jl_add, jl_sub, jl_mul, jl_neg, ji_add, ji_sub, ji_mul, ji_neg, ji_l, jl_i, rL_n, rI_n, dL_n, dI_n, mnI_j, mxI_j, ji_nat, rest_j, part_n, whole_j, times_j, kc_0, kc_gt, kc_lt, kc_le, kc_ge, ji_lt, ji_le, ji_inj, jl_inj, jl_lt, jl_le, b1s, b2s, bEs, bEe, rIs, rIn, rIJ, rJs, rJn, rJI, ifp, ifn, if_true, if_false, n2, m13, isIn_y, noY, th_th, e7, hT', cM]
        refine ⟨S', T', _, kM, ?_, Or.inl ⟨kC, ?_⟩⟩
        · obtain ⟨cn', cn1, cn2⟩ : ∃ cn' : Nat → Nat, cn' a.toNat = b.toNat + 1 ∧ ∀ f : Nat, f ≠ a.toNat → cn' f = cn f := ⟨fun f => if f = a.toNat then b.toNat + 1 else cn f, if_pos rfl, fun f hf => if_neg hf⟩
          obtain ⟨pc', pc1, pc2⟩ : ∃ pc' : Nat → Nat → Int, pc' a.toNat = pf ∧ ∀ f : Nat, f ≠ a.toNat → pc' f = pc f := ⟨fun f => if f = a.toNat then pf else pc f, if_pos rfl, fun f hf => if_neg hf⟩
          refine ⟨p, r, cnt, num, early, D, C, bc, cn', pc', rowc, rv, sz, en, ?_, ⟨?_, ?_, t3, ?_, ?_, ?_⟩, ?_, ?_⟩
          · refine rn_fr2 h1 (fun o i q => sS o i (by omega) (by omega)) (fun o i _ => by rw [← hS']; rfl) (fun o i q => sT o i (by omega) (by omega) (by omega)) (fun i => by rw [← hT']; rfl) (fun n hn k hi hl hc => ?_) (fun j _ => sS _ _ (by omega) (by omega)) (fun n hn hl => ⟨fun k => ?_, fun k => hl.2 k⟩)
            · obtain ⟨cc, u1, u2, u3⟩ := hc
              by_cases hfa : (D n 3).toNat = a.toNat
              · have hl2 := (hl.1 k).2
                rw [hfa] at hl2 u1 ⊢
                -- what was frozen lies below the new term
                refine ⟨fun j => if j = b.toNat then c else cc j, fun j hj => ?_, fun j => ?_, fun j hj => ?_⟩
                · show S'.1 (62 + a.toNat) j = ji (if j = b.toNat then c else cc j)
                  by_cases hjb : j = b.toNat
                  · subst hjb; rw [if_pos rfl, ← hS']; simp (disch := omega) only [rIs, rIn, rIJ, rJs, rJn, rJI]
                  · rw [if_neg hjb, sS _ _ (by omega) (by omega)]; exact u1 j hj
                · show -10000 ≤ (if j = b.toNat then c else cc j) ∧ (if j = b.toNat then c else cc j) ≤ 10000
                  split
                  · omega
                  · exact u2 j
                · show (if j = b.toNat then c else cc j) = C n j
                  rw [if_neg (by omega)]
                  exact u3 j hj
              · exact ⟨cc, fun j hj => by rw [sS _ _ (by omega) (by omega)]; exact u1 j hj, u2, u3⟩
            · have := hl.1 k
              by_cases hfa : (D n 3).toNat = a.toNat
              · rw [hfa, cn1]
                rw [hfa] at this
                exact ⟨this.1, by omega⟩
              · rw [cn2 _ hfa]; exact this
          · rw [sS _ _ (by omega) (by omega)]; exact t1
          · rw [sT _ _ (by omega) (by omega) (by omega)]; exact t2
          · intro f hf
            by_cases hfa : f = a.toNat
            · subst hfa
              rw [pc1]
              exact ⟨sPol, hB, tPol⟩
            · rw [pc2 f hfa]
              exact ⟨fun j hj => by rw [sS _ _ (by omega) (by omega)]; exact (t4 f hf).1 j hj, (t4 f hf).2.1, fun j hj => by rw [sT _ _ (by omega) (by omega) (by omega)]; exact (t4 f hf).2.2 j hj⟩
          · intro f hf
            by_cases hfa : f = a.toNat
            · subst hfa
              rw [pc1, cn1]
              refine ⟨by omega, by omega, ?_, ?_, ?_, ?_, fun j hj => ?_⟩
              · rw [← hS']; simp (disch := omega) only [rIs, rIn, rIJ, rJs, rJn, rJI]
                congr 1
                omega
              · rw [← hT']; simp (disch := omega) only [rIs, rIn, rIJ, rJs, rJn, rJI]
                congr 1
                omega
              · rw [show b.toNat + 1 - 1 = b.toNat by omega, pf1]; exact hz.1
              · rw [pf2 0 (by omega)]; exact Q6
              · rw [pf2 j (by omega)]; exact Q7 j (by omega)
            · rw [pc2 f hfa, cn2 f hfa]
              obtain ⟨u1, u2, u3, u4, u5⟩ := t5 f hf
              exact ⟨u1, u2, by rw [sS _ _ (by omega) (by omega)]; exact u3, by rw [← hT']; simp (disch := omega) only [rIs, rIn, rIJ, rJs, rJn, rJI]; exact (th_n (by omega)).trans u4, u5⟩
          · intro f hf hf8 j
            rw [pc2 f (by omega)]
            exact t6 f hf hf8 j
          · obtain ⟨u1, u2, u3, u4, u5⟩ := h3
            refine ⟨?_, ?_, u3, u4, fun j hj => ?_⟩
            · rw [sS _ _ (by omega) (by omega)]; exact u1
            · rw [sT _ _ (by omega) (by omega) (by omega)]; exact u2
            · rw [sS _ _ (by omega) (by omega), sT _ _ (by omega) (by omega) (by omega)]; exact u5 j hj
          · obtain ⟨u1, u2, u3, u4, u5⟩ := h4
            refine ⟨?_, ?_, u3, u4, fun j hj => ?_⟩
            · rw [sS _ _ (by omega) (by omega)]; exact u1
            · rw [sT _ _ (by omega) (by omega) (by omega)]; exact u2
            · rw [sS _ _ (by omega) (by omega), sT _ _ (by omega) (by omega) (by omega)]; exact u5 j hj
        · rw [← hT']; simp (disch := omega) only [rIs, rIn, rIJ, rJs, rJn, rJI]; exact th_17
      · have nz1 := needZ_n hc0 hz
        refine bad2 _ _ ?_ ?_
        · unfold f_X9_term
          simp (disch := omega) only [i0, i1, i2, i3, i4, i5, i6, i7, i8, i12, i16, i20, i30, i39, i40, i60, i64, i97, i100, i256, i1000, i10000, im1, im20, im60, l0, l1, l2, l3, l4, l5, l8, l10000, l1e9, lm10000, jl_add, jl_sub, jl_mul, jl_neg, ji_add, ji_sub, ji_mul, ji_neg, ji_l, jl_i, rL_n, rI_n, dL_n, dI_n, mnI_j, mxI_j, ji_nat, rest_j, part_n, whole_j, times_j, kc_0, kc_gt, kc_lt, kc_le, kc_ge, ji_lt, ji_le, ji_inj, jl_inj, jl_lt, jl_le, b1s, b2s, bEs, bEe, rIs, rIn, rIJ, rJs, rJn, rJI, ifp, ifn, if_true, if_false, n1, pg, Q3, needW_y, nz1]
        · unfold f_X10_term n_X10_term_52
          rw [lm10000, l10000, w6]
          by_cases h0 : -10000 ≤ c ∧ c ≤ 10000
          · have : c = 0 := by omega
            subst this
            simp (disch := omega) only [i0, i1, i2, i3, i4, i5, i6, i7, i8, i12, i16, i20, i30, i39, i40, i60, i64, i97, i100, i256, i1000, i10000, im1, im20, im60, l0, l1, l2, l3, l4, l5, l8, l10000, l1e9, lm10000, jl_add, jl_sub, jl_mul, jl_neg, ji_add, ji_sub, ji_mul, ji_neg, ji_l, jl_i, rL_n, rI_n, dL_n, dI_n, mnI_j, mxI_j, ji_nat, rest_j, part_n, whole_j, times_j, kc_0, kc_gt, kc_lt, kc_le, kc_ge, ji_lt, ji_le, ji_inj, jl_inj, jl_lt, jl_le, b1s, b2s, bEs, bEe, rIs, rIn, rIJ, rJs, rJn, rJI, ifp, ifn, if_true, if_false, n2, m13, isIn_y, noN2, th_th]
          · simp (disch := omega) only [i0, i1, i2, i3, i4, i5, i6, i7, i8, i12, i16, i20, i30, i39, i40, i60, i64, i97, i100, i256, i1000, i10000, im1, im20, im60, l0, l1, l2, l3, l4, l5, l8, l10000, l1e9, lm10000, jl_add, jl_sub, jl_mul, jl_neg, ji_add, ji_sub, ji_mul, ji_neg, ji_l, jl_i, rL_n, rI_n, dL_n, dI_n, mnI_j, mxI_j, ji_nat, rest_j, part_n, whole_j, times_j, kc_0, kc_gt, kc_lt, kc_le, kc_ge, ji_lt, ji_le, ji_inj, jl_inj, jl_lt, jl_le, b1s, b2s, bEs, bEe, rIs, rIn, rIJ, rJs, rJn, rJI, ifp, ifn, if_true, if_false, n2, m13, isIn_y, isIn_n, noN2, th_th]
    · refine bad2 _ _ ?_ ?_
      · unfold f_X9_term
        simp (disch := omega) only [i0, i1, i2, i3, i4, i5, i6, i7, i8, i12, i16, i20, i30, i39, i40, i60, i64, i97, i100, i256, i1000, i10000, im1, im20, im60, l0, l1, l2, l3, l4, l5, l8, l10000, l1e9, lm10000, jl_add, jl_sub, jl_mul, jl_neg, ji_add, ji_sub, ji_mul, ji_neg, ji_l, jl_i, rL_n, rI_n, dL_n, dI_n, mnI_j, mxI_j, ji_nat, rest_j, part_n, whole_j, times_j, kc_0, kc_gt, kc_lt, kc_le, kc_ge, ji_lt, ji_le, ji_inj, jl_inj, jl_lt, jl_le, b1s, b2s, bEs, bEe, rIs, rIn, rIJ, rJs, rJn, rJI, ifp, ifn, if_true, if_false, n1, pg, Q3, needW_n]
      · unfold f_X10_term n_X10_term_52
        rw [lm10000, l10000, w6]
        simp (disch := omega) only [i0, i1, i2, i3, i4, i5, i6, i7, i8, i12, i16, i20, i30, i39, i40, i60, i64, i97, i100, i256, i1000, i10000, im1, im20, im60, l0, l1, l2, l3, l4, l5, l8, l10000, l1e9, lm10000, jl_add, jl_sub, jl_mul, jl_neg, ji_add, ji_sub, ji_mul, ji_neg, ji_l, jl_i, rL_n, rI_n, dL_n, dI_n, mnI_j, mxI_j, ji_nat, rest_j, part_n, whole_j, times_j, kc_0, kc_gt, kc_lt, kc_le, kc_ge, ji_lt, ji_le, ji_inj, jl_inj, jl_lt, jl_le, b1s, b2s, bEs, bEe, rIs, rIn, rIJ, rJs, rJn, rJI, ifp, ifn, if_true, if_false, n2, m13, isIn_n, noN2, th_th]
  · have n1 := needP_n t1 t3 ha ga
    have n2 := noP_n t2 t3 ha ga
    unfold f_X9_term f_X10_term
    simp (disch := omega) only [i0, i1, i2, i3, i4, i5, i6, i7, i8, i12, i16, i20, i30, i39, i40, i60, i64, i97, i100, i256, i1000, i10000, im1, im20, im60, l0, l1, l2, l3, l4, l5, l8, l10000, l1e9, lm10000, jl_add, jl_sub, jl_mul, jl_neg, ji_add, ji_sub, ji_mul, ji_neg, ji_l, jl_i, rL_n, rI_n, dL_n, dI_n, mnI_j, mxI_j, ji_nat, rest_j, part_n, whole_j, times_j, kc_0, kc_gt, kc_lt, kc_le, kc_ge, ji_lt, ji_le, ji_inj, jl_inj, jl_lt, jl_le, b1s, b2s, bEs, bEe, rIs, rIn, rIJ, rJs, rJn, rJI, ifp, ifn, if_true, if_false, n1, n2]
    exact ⟨S, th T 1, ji 0, rfl, rel_fr h (FrS.refl S) th_fr, Or.inr ⟨(3, 1), by simp, rfl, th_17⟩⟩
theorem T_residue {S T : St} (h : Rel S T) (a b : Int32) : AnR [(3, 1), (1, 2)] S (f_X9_residue a b S) (f_X10_residue a b T) := by
  obtain ⟨a, rfl, ha⟩ := ji_ex a
  obtain ⟨b, rfl, hb⟩ := ji_ex b
  have hh := h
  obtain ⟨p, r, cnt, num, early, D, C, bc, cn, pc, rowc, rv, sz, en, h1, h2, h3, h4⟩ := hh
  have hr := h1.2.1
  have hp1 := hr.1
  have hp2 := hr.2.1
  have hN1 := h1.2.2.1.1
  have t18 : (th T 0).1 0 18 = ji p := (th_n (by omega)).trans h1.2.2.2.1
  obtain ⟨t1, t2, t3, t4, t5, t6⟩ := h2
  have w45 : (45 : Int32) = ji 45 := rfl
  unfold f_X9_residue f_X10_residue
  rw [w45]
  by_cases ga : 0 ≤ a ∧ a < bc
  · have ga1 := ga.1
    have ga2 := ga.2
    have n1 := needP_y t1 t3 ga
    have n2 := noP_y t2 t3 ga
    have ea : ((a.toNat : Nat) : Int) = a := by omega
    by_cases gb : 0 ≤ b ∧ b ≤ p - 1
    · obtain ⟨P1, P2, P3⟩ := t4 a.toNat (by omega)
      obtain ⟨Q1, Q2, Q3, Q4, Q5, Q6, Q7⟩ := t5 a.toNat (by omega)
      have s1 := signC (S := S) (k := a.toNat) (n := cn a.toNat) (p := p) (d := b) ⟨hp1, hp2⟩ (by omega) P1 P2 ⟨Q1, Q2⟩ Q3 Q7
      have s2 := signM (T := th T 0) (f := a.toNat) (p := p) (d := b) t18 ⟨hp1, hp2⟩ (by omega) (by omega) (c := pc a.toNat) (fun j hj => (th_n (by omega)).trans (P3 j hj)) P2
      have pg := pageC (S := S) (k := a.toNat) (by omega)
      rw [ea] at s2 pg
      have nb : narrow .char (.int (ji (rsg p (pc a.toNat) b))) = .int (ji (rsg p (pc a.toNat) b)) := by
        rcases rsg_rng (p := p) (c := pc a.toNat) (d := b) with q | q | q <;> rw [q] <;> rfl
      simp (disch := omega) only [i0, i1, i2, i3, i4, i5, i6, i7, i8, i12, i16, i20, i30, i39, i40, i60, i64, i97, i100, i256, i1000, i10000, im1, im20, im60, l0, l1, l2, l3, l4, l5, l8, l10000, l1e9, lm10000, jl_add, jl_sub, jl_mul, jl_neg, ji_add, ji_sub, ji_mul, ji_neg, ji_l, jl_i, rL_n, rI_n, dL_n, dI_n, mnI_j, mxI_j, ji_nat, rest_j, part_n, whole_j, times_j, kc_0, kc_gt, kc_lt, kc_le, kc_ge, ji_lt, ji_le, ji_inj, jl_inj, jl_lt, jl_le, b1s, b2s, bEs, bEe, rIs, rIn, rIJ, rJs, rJn, rJI, ifp, ifn, if_true, if_false, hN1, t18, needW_y, isIn_y, n1, n2, pg, s1, s2, noY, th_th]
      exact ⟨th T 0, _, rfl, rel_fr h (FrS.refl S) th_fr, Or.inl ⟨rfl, th_17⟩⟩
    · simp (disch := omega) only [i0, i1, i2, i3, i4, i5, i6, i7, i8, i12, i16, i20, i30, i39, i40, i60, i64, i97, i100, i256, i1000, i10000, im1, im20, im60, l0, l1, l2, l3, l4, l5, l8, l10000, l1e9, lm10000, jl_add, jl_sub, jl_mul, jl_neg, ji_add, ji_sub, ji_mul, ji_neg, ji_l, jl_i, rL_n, rI_n, dL_n, dI_n, mnI_j, mxI_j, ji_nat, rest_j, part_n, whole_j, times_j, kc_0, kc_gt, kc_lt, kc_le, kc_ge, ji_lt, ji_le, ji_inj, jl_inj, jl_lt, jl_le, b1s, b2s, bEs, bEe, rIs, rIn, rIJ, rJs, rJn, rJI, ifp, ifn, if_true, if_false, hN1, t18, needW_n, isIn_n, n1, n2, noN2, th_th]
      exact ⟨th T 2, _, rfl, rel_fr h (FrS.refl S) th_fr, Or.inr ⟨(1, 2), by simp, rfl, th_17⟩⟩
  · have n1 := needP_n t1 t3 ha ga
    have n2 := noP_n t2 t3 ha ga
    simp (disch := omega) only [i0, i1, i2, i3, i4, i5, i6, i7, i8, i12, i16, i20, i30, i39, i40, i60, i64, i97, i100, i256, i1000, i10000, im1, im20, im60, l0, l1, l2, l3, l4, l5, l8, l10000, l1e9, lm10000, jl_add, jl_sub, jl_mul, jl_neg, ji_add, ji_sub, ji_mul, ji_neg, ji_l, jl_i, rL_n, rI_n, dL_n, dI_n, mnI_j, mxI_j, ji_nat, rest_j, part_n, whole_j, times_j, kc_0, kc_gt, kc_lt, kc_le, kc_ge, ji_lt, ji_le, ji_inj, jl_inj, jl_lt, jl_le, b1s, b2s, bEs, bEe, rIs, rIn, rIJ, rJs, rJn, rJI, ifp, ifn, if_true, if_false, n1, n2]
    exact ⟨th T 1, _, rfl, rel_fr h (FrS.refl S) th_fr, Or.inr ⟨(3, 1), by simp, rfl, th_17⟩⟩
/-! roots modulo a power -/
def nr (c : Nat → Int) (m : Int) : Nat → Nat
  | 0 => 0
  | k + 1 => nr c m k + (if ev c k 7 % m = 0 then 1 else 0)
theorem nr_le (c : Nat → Int) (m : Int) : ∀ n : Nat, nr c m n ≤ n
  | 0 => Nat.le_refl _
  | n + 1 => by
    have := nr_le c m n
    unfold nr
    split <;> omega
theorem rootsC_loop {S : St} {f n : Nat} {c : Nat → Int} {m : Nat} (hc : PolC S f c) (hB : CoB c) (hn : n ≤ 7) (h54 : S.1 (54 + f) 0 = ji n) (hz : ∀ j : Nat, n ≤ j → c j = 0) (hm : 0 < m ∧ m ≤ 10000) : ∀ (N k : Nat), k ≤ m → m - k < N → itr (fun (q : Nat × Int32 × Int32 × Int32) k => s_X4_rootCount_4 (fun (x0 : Nat) (x1 : Int32) (x2 : Int32) (x3 : Int32) => k (x0, x1, x2, x3)) S q.1 q.2.1 q.2.2.1 q.2.2.2) N (f, ji m, ji (nr c m k : Nat), ji k) = some (ji (nr c m m : Nat))
  | 0, _, _, h => absurd h (Nat.not_lt_zero _)
  | N + 1, k, hk, hN => by
    rw [itrS]
    have IH := rootsC_loop hc hB hn h54 hz hm N (k + 1)
    generalize itr _ N = K at IH
    show s_X4_rootCount_4 _ S f (ji m) (ji (nr c m k : Nat)) (ji k) = _
    have := nr_le c m k
    unfold s_X4_rootCount_4
    by_cases h7 : m ≤ k
    · have : k = m := by omega
      subst this
      simp (disch := omega) only [i0, i1, i2, i3, i4, i5, i6, i7, i8, i12, i16, i20, i30, i39, i40, i60, i64, i97, i100, i256, i1000, i10000, im1, im20, im60, l0, l1, l2, l3, l4, l5, l8, l10000, l1e9, lm10000, jl_add, jl_sub, jl_mul, jl_neg, ji_add, ji_sub, ji_mul, ji_neg, ji_l, jl_i, rL_n, rI_n, dL_n, dI_n, mnI_j, mxI_j, ji_nat, rest_j, part_n, whole_j, times_j, kc_0, kc_gt, kc_lt, kc_le, kc_ge, ji_lt, ji_le, ji_inj, jl_inj, jl_lt, jl_le, b1s, b2s, bEs, bEe, rIs, rIn, rIJ, rJs, rJn, rJI, ifp, ifn, if_true, if_false]
    · have g := emod_rng (a := ev c k 7) (show (0 : Int) < m by omega)
      have w := worthC (S := S) (k := f) (n := n) hc hB (x := (k : Int)) (m := (m : Int)) (by omega) (by omega) hn
      rw [show ev c (k : Int) n = ev c k 7 from (ev_cut 7 hn (fun j a b => hz j a)).symm] at w
      have e2 : nr c m (k + 1) = nr c m k + (if ev c k 7 % m = 0 then 1 else 0) := rfl
      simp (disch := omega) only [i0, i1, i2, i3, i4, i5, i6, i7, i8, i12, i16, i20, i30, i39, i40, i60, i64, i97, i100, i256, i1000, i10000, im1, im20, im60, l0, l1, l2, l3, l4, l5, l8, l10000, l1e9, lm10000, jl_add, jl_sub, jl_mul, jl_neg, ji_add, ji_sub, ji_mul, ji_neg, ji_l, jl_i, rL_n, rI_n, dL_n, dI_n, mnI_j, mxI_j, ji_nat, rest_j, part_n, whole_j, times_j, kc_0, kc_gt, kc_lt, kc_le, kc_ge, ji_lt, ji_le, ji_inj, jl_inj, jl_lt, jl_le, b1s, b2s, bEs, bEe, rIs, rIn, rIJ, rJs, rJn, rJI, ifp, ifn, if_true, if_false, h54, w]
      rw [show (k : Int) + 1 = ((k + 1 : Nat) : Int) by omega]
      by_cases h0 : ev c k 7 % (m : Int) = 0
      · rw [if_pos h0]
        rw [if_pos h0] at e2
        rw [show (nr c m k : Int) + 1 = ((nr c m (k + 1) : Nat) : Int) by omega]
        exact IH (by omega) (by omega)
      · rw [if_neg h0]
        have e3 : nr c m (k + 1) = nr c m k := by rw [e2, if_neg h0]; rfl
        rw [← e3]
        exact IH (by omega) (by omega)
theorem rootsM_loop {T : St} {f : Nat} {c : Nat → Int} {m : Nat} (hf : f < 8) (hc : ∀ j : Nat, j < 7 → T.1 12 (7 * f + j) = ji (c j)) (hB : CoB c) (hm : 0 < m ∧ m ≤ 10000) : ∀ (N k : Nat), k ≤ m → m - k < N → itr (fun (q : Int32 × Int64 × Int32 × Int64 × St) k => s_X10_rootsModulo_77 (fun (x1 : Int32) (x3 : Int64) (x5 : Int32) (x6 : Int64) (S : St) => k (x1, x3, x5, x6, S)) q.1 q.2.1 q.2.2.1 q.2.2.2.1 q.2.2.2.2) N (ji f, jl m, ji (nr c m k : Nat), jl k, T) = some (ji (nr c m m : Nat), T)
  | 0, _, _, h => absurd h (Nat.not_lt_zero _)
  | N + 1, k, hk, hN => by
    rw [itrS]
    have IH := rootsM_loop hf hc hB hm N (k + 1)
    generalize itr _ N = K at IH
    show s_X10_rootsModulo_77 _ (ji f) (jl m) (ji (nr c m k : Nat)) (jl k) T = _
    have := nr_le c m k
    unfold s_X10_rootsModulo_77
    by_cases h7 : m ≤ k
    · have : k = m := by omega
      subst this
      simp (disch := omega) only [i0, i1, i2, i3, i4, i5, i6, i7, i8, i12, i16, i20, i30, i39, i40, i60, i64, i97, i100, i256, i1000, i10000, im1, im20, im60, l0, l1, l2, l3, l4, l5, l8, l10000, l1e9, lm10000, jl_add, jl_sub, jl_mul, jl_neg, ji_add, ji_sub, ji_mul, ji_neg, ji_l, jl_i, rL_n, rI_n, dL_n, dI_n, mnI_j, mxI_j, ji_nat, rest_j, part_n, whole_j, times_j, kc_0, kc_gt, kc_lt, kc_le, kc_ge, ji_lt, ji_le, ji_inj, jl_inj, jl_lt, jl_le, b1s, b2s, bEs, bEe, rIs, rIn, rIJ, rJs, rJn, rJI, ifp, ifn, if_true, if_false]
    · have g := emod_rng (a := ev c k 7) (show (0 : Int) < m by omega)
      have w := valueAtM0 (T := T) (b := f) hf hc hB (x := (k : Int)) (m := (m : Int)) (by omega) (by omega)
      have e2 : nr c m (k + 1) = nr c m k + (if ev c k 7 % m = 0 then 1 else 0) := rfl
      simp (disch := omega) only [i0, i1, i2, i3, i4, i5, i6, i7, i8, i12, i16, i20, i30, i39, i40, i60, i64, i97, i100, i256, i1000, i10000, im1, im20, im60, l0, l1, l2, l3, l4, l5, l8, l10000, l1e9, lm10000, jl_add, jl_sub, jl_mul, jl_neg, ji_add, ji_sub, ji_mul, ji_neg, ji_l, jl_i, rL_n, rI_n, dL_n, dI_n, mnI_j, mxI_j, ji_nat, rest_j, part_n, whole_j, times_j, kc_0, kc_gt, kc_lt, kc_le, kc_ge, ji_lt, ji_le, ji_inj, jl_inj, jl_lt, jl_le, b1s, b2s, bEs, bEe, rIs, rIn, rIJ, rJs, rJn, rJI, ifp, ifn, if_true, if_false, w]
      rw [show (k : Int) + 1 = ((k + 1 : Nat) : Int) by omega]
      by_cases h0 : ev c k 7 % (m : Int) = 0
      · rw [if_pos h0]
        rw [if_pos h0] at e2
        rw [show (nr c m k : Int) + 1 = ((nr c m (k + 1) : Nat) : Int) by omega]
        exact IH (by omega) (by omega)
      · rw [if_neg h0]
        have e3 : nr c m (k + 1) = nr c m k := by rw [e2, if_neg h0]; rfl
        rw [Int.add_zero, ← e3]
        exact IH (by omega) (by omega)
theorem powM_roots {T : St} {p e : Int} {f : Int} (h : T.1 0 18 = ji p) (hp : 2 ≤ p ∧ p ≤ 97) (he : -2147483648 ≤ e ∧ e < 2147483648) : ∀ (N k : Nat), (k : Int) ≤ max e 0 → p ^ k ≤ 970000 → (k = 0 ∨ p ^ (k - 1) ≤ 10000) → 30 - k < N →
    ∃ j : Nat, k ≤ j ∧ itr (fun (q : Int32 × Int32 × Int64 × Int32 × St) k => s_X10_rootsModulo_15 (fun (x1 : Int32) (x2 : Int32) (x3 : Int64) (x5 : Int32) (S : St) => k (x1, x2, x3, x5, S)) q.1 q.2.1 q.2.2.1 q.2.2.2.1 q.2.2.2.2) N (ji f, ji e, jl (p ^ k), ji k, T) = n_X10_rootsModulo_43 (ji f) (ji e) (jl (p ^ j)) T ∧ p ^ j ≤ 970000 ∧ (((j : Int) = max e 0 ∧ p ^ j ≤ 10000) ∨ (10000 < p ^ j ∧ (j : Int) ≤ max e 0))
  | 0, _, _, _, _, h => absurd h (Nat.not_lt_zero _)
  | N + 1, k, hk, hp9, hpk, hN => by
    rw [itrS]
    have IH := powM_roots (f := f) h hp he N (k + 1)
    generalize itr _ N = K at IH
    show ∃ j : Nat, k ≤ j ∧ s_X10_rootsModulo_15 _ (ji f) (ji e) (jl (p ^ k)) (ji k) T = _ ∧ _
    have g := pw_pos hp.1 k
    have gb := pw_big hp.1 k
    unfold s_X10_rootsModulo_15
    by_cases c1 : e ≤ k
    · refine ⟨k, Nat.le_refl _, ?_, hp9, ?_⟩
      · simp (disch := omega) only [i0, i1, i2, i3, i4, i5, i6, i7, i8, i12, i16, i20, i30, i39, i40, i60, i64, i97, i100, i256, i1000, i10000, im1, im20, im60, l0, l1, l2, l3, l4, l5, l8, l10000, l1e9, lm10000, jl_add, jl_sub, jl_mul, jl_neg, ji_add, ji_sub, ji_mul, ji_neg, ji_l, jl_i, rL_n, rI_n, dL_n, dI_n, mnI_j, mxI_j, ji_nat, rest_j, part_n, whole_j, times_j, kc_0, kc_gt, kc_lt, kc_le, kc_ge, ji_lt, ji_le, ji_inj, jl_inj, jl_lt, jl_le, b1s, b2s, bEs, bEe, rIs, rIn, rIJ, rJs, rJn, rJI, ifp, ifn, if_true, if_false]
      · by_cases c2 : 10000 < p ^ k
        · exact Or.inr ⟨c2, hk⟩
        · exact Or.inl ⟨by omega, by omega⟩
    · by_cases c2 : 10000 < p ^ k
      · refine ⟨k, Nat.le_refl _, ?_, hp9, Or.inr ⟨c2, hk⟩⟩
        simp (disch := omega) only [i0, i1, i2, i3, i4, i5, i6, i7, i8, i12, i16, i20, i30, i39, i40, i60, i64, i97, i100, i256, i1000, i10000, im1, im20, im60, l0, l1, l2, l3, l4, l5, l8, l10000, l1e9, lm10000, jl_add, jl_sub, jl_mul, jl_neg, ji_add, ji_sub, ji_mul, ji_neg, ji_l, jl_i, rL_n, rI_n, dL_n, dI_n, mnI_j, mxI_j, ji_nat, rest_j, part_n, whole_j, times_j, kc_0, kc_gt, kc_lt, kc_le, kc_ge, ji_lt, ji_le, ji_inj, jl_inj, jl_lt, jl_le, b1s, b2s, bEs, bEe, rIs, rIn, rIJ, rJs, rJn, rJI, ifp, ifn, if_true, if_false]
      · have h2 : k < 20 := by
          apply Nat.lt_of_not_le
          intro q
          have q1 := pw_le hp.1 q
          have q2 : (2 : Int) ^ 20 ≤ p ^ 20 := by
            have : ∀ n : Nat, (2 : Int) ^ n ≤ p ^ n := fun n => by
              induction n with
              | zero => simp
              | succ n ih =>
                rw [pw_s, pw_s]
                exact Int.mul_le_mul hp.1 ih (Int.le_of_lt (pw_pos (by omega) n)) (by omega)
            exact this 20
          have q3 : (2 : Int) ^ 20 = 1048576 := by decide
          omega
        have e1 : p ^ (k + 1) = p ^ k * p := Int.pow_succ p k
        have e2 : p ^ k * p ≤ 10000 * 97 := Int.mul_le_mul (by omega) hp.2 (by omega) (by omega)
        obtain ⟨j, j1, j2, j3, j4⟩ := IH (by omega) (by omega) (Or.inr (by rw [show k + 1 - 1 = k by omega]; omega)) (by omega)
        refine ⟨j, by omega, ?_, j3, j4⟩
        simp (disch := omega) only [i0, i1, i2, i3, i4, i5, i6, i7, i8, i12, i16, i20, i30, i39, i40, i60, i64, i97, i100, i256, i1000, i10000, im1, im20, im60, l0, l1, l2, l3, l4, l5, l8, l10000, l1e9, lm10000, jl_add, jl_sub, jl_mul, jl_neg, ji_add, ji_sub, ji_mul, ji_neg, ji_l, jl_i, rL_n, rI_n, dL_n, dI_n, mnI_j, mxI_j, ji_nat, rest_j, part_n, whole_j, times_j, kc_0, kc_gt, kc_lt, kc_le, kc_ge, ji_lt, ji_le, ji_inj, jl_inj, jl_lt, jl_le, b1s, b2s, bEs, bEe, rIs, rIn, rIJ, rJs, rJn, rJI, ifp, ifn, if_true, if_false, h]
        rw [← e1, show (k : Int) + 1 = ((k + 1 : Nat) : Int) by omega]
        exact j2
theorem T_rootsModulo {S T : St} (h : Rel S T) (a b : Int32) : AnR [(3, 1), (1, 2)] S (f_X9_rootsModulo a b S) (f_X10_rootsModulo a b T) := by
  obtain ⟨a, rfl, ha⟩ := ji_ex a
  obtain ⟨b, rfl, hb⟩ := ji_ex b
  have hh := h
  obtain ⟨p, r, cnt, num, early, D, C, bc, cn, pc, rowc, rv, sz, en, h1, h2, h3, h4⟩ := hh
  have hr := h1.2.1
  have hrr := hr.2.2.2.2
  have hp1 := hr.1
  have hp2 := hr.2.1
  have hN := h1.2.2.1
  have hN2 := hN.2.1
  have t18 : (th T 0).1 0 18 = ji p := (th_n (by omega)).trans h1.2.2.2.1
  obtain ⟨t1, t2, t3, t4, t5, t6⟩ := h2
  by_cases ga : 0 ≤ a ∧ a < bc
  · have ga1 := ga.1
    have ga2 := ga.2
    have n1 := needP_y t1 t3 ga
    have n2 := noP_y t2 t3 ga
    have ea : ((a.toNat : Nat) : Int) = a := by omega
    obtain ⟨P1, P2, P3⟩ := t4 a.toNat (by omega)
    obtain ⟨Q1, Q2, Q3, Q4, Q5, Q6, Q7⟩ := t5 a.toNat (by omega)
    have pg := pageC (S := S) (k := a.toNat) (by omega)
    rw [ea] at pg
    obtain ⟨j, j1, j2, j3, j4⟩ := powM_roots (T := th T 0) (p := p) (e := b) (f := a) t18 ⟨hp1, hp2⟩ hb FU 0 (by omega) (by rw [Int.pow_zero]; omega) (Or.inl rfl) (FU_lt (by omega))
    have j2 : n_X10_rootsModulo_15 (ji a) (ji b) (jl 1) (ji 0) (th T 0) = n_X10_rootsModulo_43 (ji a) (ji b) (jl (p ^ j)) (th T 0) := by
      rw [Int.pow_zero] at j2
      exact j2
    have gj := pw_pos hp1 j
    by_cases good : 1 ≤ b ∧ p ^ j ≤ 10000
    · obtain ⟨g1, g2⟩ := good
      have jb : (j : Int) = b := by
        rcases j4 with ⟨q, -⟩ | ⟨q, -⟩ <;> omega
      have jr : j ≤ r := hr.un.mp (by omega)
      have pw := pwC' (e := b) hN hr (by omega)
      rw [show b.toNat = j by omega] at pw
      obtain ⟨m, hm⟩ : ∃ m : Nat, p ^ j = (m : Int) := ⟨(p ^ j).toNat, by omega⟩
      rw [hm] at j2 pw gj g2
      have r1 := rootsC_loop (S := S) (f := a.toNat) (n := cn a.toNat) (m := m) P1 P2 Q2 Q3 Q7 (by omega) FU 0 (by omega) (FU_lt (by omega))
      have r2 := rootsM_loop (T := th T 0) (f := a.toNat) (m := m) (by omega) (c := pc a.toNat) (fun j hj => (th_n (by omega)).trans (P3 j hj)) P2 (by omega) FU 0 (by omega) (FU_lt (by omega))
      have r1 : f_X4_rootCount a.toNat (ji m) S = some (ji (nr (pc a.toNat) m m : Nat)) := r1
      have r2 : n_X10_rootsModulo_77 (ji a) (jl m) (ji 0) (jl 0) (th T 0) = some (ji (nr (pc a.toNat) m m : Nat), th T 0) := by rw [ea] at r2; exact r2
      unfold f_X9_rootsModulo f_X10_rootsModulo
      simp (disch := omega) only [i0, i1, i2, i3, i4, i5, i6, i7, i8, i12, i16, i20, i30, i39, i40, i60, i64, i97, i100, i256, i1000, i10000, im1, im20, im60, l0, l1, l2, l3, l4, l5, l8, l10000, l1e9, lm10000, jl_add, jl_sub, jl_mul, jl_neg, ji_add, ji_sub, ji_mul, ji_neg, ji_l, jl_i, rL_n, rI_n, dL_n, dI_n, mnI_j, mxI_j, ji_nat, rest_j, part_n, whole_j, times_j, kc_0, kc_gt, kc_lt, kc_le, kc_ge, ji_lt, ji_le, ji_inj, jl_inj, jl_lt, jl_le, b1s, b2s, bEs, bEe, rIs, rIn, rIJ, rJs, rJn, rJI, ifp, ifn, if_true, if_false, hN2, n1, n2, needW_y, pw, pg, r1, j2]
      unfold n_X10_rootsModulo_43 n_X10_rootsModulo_62
      simp (disch := omega) only [i0, i1, i2, i3, i4, i5, i6, i7, i8, i12, i16, i20, i30, i39, i40, i60, i64, i97, i100, i256, i1000, i10000, im1, im20, im60, l0, l1, l2, l3, l4, l5, l8, l10000, l1e9, lm10000, jl_add, jl_sub, jl_mul, jl_neg, ji_add, ji_sub, ji_mul, ji_neg, ji_l, jl_i, rL_n, rI_n, dL_n, dI_n, mnI_j, mxI_j, ji_nat, rest_j, part_n, whole_j, times_j, kc_0, kc_gt, kc_lt, kc_le, kc_ge, ji_lt, ji_le, ji_inj, jl_inj, jl_lt, jl_le, b1s, b2s, bEs, bEe, rIs, rIn, rIJ, rJs, rJn, rJI, ifp, ifn, if_true, if_false, noY, th_th, r2]
      exact ⟨th T 0, _, rfl, rel_fr h (FrS.refl S) th_fr, Or.inl ⟨rfl, th_17⟩⟩
    · have mM : n_X10_rootsModulo_43 (ji a) (ji b) (jl (p ^ j)) (th T 0) = some (ji 0, th T 2) := by
        unfold n_X10_rootsModulo_43 n_X10_rootsModulo_62
        by_cases c1 : b < 1
        · simp (disch := omega) only [i0, i1, i2, i3, i4, i5, i6, i7, i8, i12, i16, i20, i30, i39, i40, i60, i64, i97, i100, i256, i1000, i10000, im1, im20, im60, l0, l1, l2, l3, l4, l5, l8, l10000, l1e9, lm10000, jl_add, jl_sub, jl_mul, jl_neg, ji_add, ji_sub, ji_mul, ji_neg, ji_l, jl_i, rL_n, rI_n, dL_n, dI_n, mnI_j, mxI_j, ji_nat, rest_j, part_n, whole_j, times_j, kc_0, kc_gt, kc_lt, kc_le, kc_ge, ji_lt, ji_le, ji_inj, jl_inj, jl_lt, jl_le, b1s, b2s, bEs, bEe, rIs, rIn, rIJ, rJs, rJn, rJI, ifp, ifn, if_true, if_false, noN2, th_th]
        · have c2 : 10000 < p ^ j := by
            apply Int.lt_of_not_ge
            intro q
            exact good ⟨by omega, q⟩
          simp (disch := omega) only [i0, i1, i2, i3, i4, i5, i6, i7, i8, i12, i16, i20, i30, i39, i40, i60, i64, i97, i100, i256, i1000, i10000, im1, im20, im60, l0, l1, l2, l3, l4, l5, l8, l10000, l1e9, lm10000, jl_add, jl_sub, jl_mul, jl_neg, ji_add, ji_sub, ji_mul, ji_neg, ji_l, jl_i, rL_n, rI_n, dL_n, dI_n, mnI_j, mxI_j, ji_nat, rest_j, part_n, whole_j, times_j, kc_0, kc_gt, kc_lt, kc_le, kc_ge, ji_lt, ji_le, ji_inj, jl_inj, jl_lt, jl_le, b1s, b2s, bEs, bEe, rIs, rIn, rIJ, rJs, rJn, rJI, ifp, ifn, if_true, if_false, noN2, th_th]
      have mC : f_X9_rootsModulo (ji a) (ji b) S = some (.error 1) := by
        unfold f_X9_rootsModulo
        by_cases c1 : 1 ≤ b ∧ b ≤ r
        · have pw := pwC' (e := b) hN hr (by omega)
          have c2 : 10000 < p ^ b.toNat := by
            rcases j4 with ⟨q, q2⟩ | ⟨q, q2⟩
            · exact absurd ⟨c1.1, q2⟩ good
            · have := pw_le hp1 (show j ≤ b.toNat by omega)
              omega
          have c3 := hr.le (show b.toNat ≤ r by omega)
          simp (disch := omega) only [i0, i1, i2, i3, i4, i5, i6, i7, i8, i12, i16, i20, i30, i39, i40, i60, i64, i97, i100, i256, i1000, i10000, im1, im20, im60, l0, l1, l2, l3, l4, l5, l8, l10000, l1e9, lm10000, jl_add, jl_sub, jl_mul, jl_neg, ji_add, ji_sub, ji_mul, ji_neg, ji_l, jl_i, rL_n, rI_n, dL_n, dI_n, mnI_j, mxI_j, ji_nat, rest_j, part_n, whole_j, times_j, kc_0, kc_gt, kc_lt, kc_le, kc_ge, ji_lt, ji_le, ji_inj, jl_inj, jl_lt, jl_le, b1s, b2s, bEs, bEe, rIs, rIn, rIJ, rJs, rJn, rJI, ifp, ifn, if_true, if_false, hN2, n1, needW_y, pw]
        · simp (disch := omega) only [i0, i1, i2, i3, i4, i5, i6, i7, i8, i12, i16, i20, i30, i39, i40, i60, i64, i97, i100, i256, i1000, i10000, im1, im20, im60, l0, l1, l2, l3, l4, l5, l8, l10000, l1e9, lm10000, jl_add, jl_sub, jl_mul, jl_neg, ji_add, ji_sub, ji_mul, ji_neg, ji_l, jl_i, rL_n, rI_n, dL_n, dI_n, mnI_j, mxI_j, ji_nat, rest_j, part_n, whole_j, times_j, kc_0, kc_gt, kc_lt, kc_le, kc_ge, ji_lt, ji_le, ji_inj, jl_inj, jl_lt, jl_le, b1s, b2s, bEs, bEe, rIs, rIn, rIJ, rJs, rJn, rJI, ifp, ifn, if_true, if_false, hN2, n1, needW_n]
      have mM2 : f_X10_rootsModulo (ji a) (ji b) T = some (ji 0, th T 2) := by
        unfold f_X10_rootsModulo
        simp (disch := omega) only [i0, i1, i2, i3, i4, i5, i6, i7, i8, i12, i16, i20, i30, i39, i40, i60, i64, i97, i100, i256, i1000, i10000, im1, im20, im60, l0, l1, l2, l3, l4, l5, l8, l10000, l1e9, lm10000, jl_add, jl_sub, jl_mul, jl_neg, ji_add, ji_sub, ji_mul, ji_neg, ji_l, jl_i, rL_n, rI_n, dL_n, dI_n, mnI_j, mxI_j, ji_nat, rest_j, part_n, whole_j, times_j, kc_0, kc_gt, kc_lt, kc_le, kc_ge, ji_lt, ji_le, ji_inj, jl_inj, jl_lt, jl_le, b1s, b2s, bEs, bEe, rIs, rIn, rIJ, rJs, rJn, rJI, ifp, ifn, if_true, if_false, n2, j2, mM]
      rw [mC, mM2]
      exact ⟨th T 2, _, rfl, rel_fr h (FrS.refl S) th_fr, Or.inr ⟨(1, 2), by simp, rfl, th_17⟩⟩
  · have n1 := needP_n t1 t3 ha ga
    have n2 := noP_n t2 t3 ha ga
    unfold f_X9_rootsModulo f_X10_rootsModulo
    simp (disch := omega) only [i0, i1, i2, i3, i4, i5, i6, i7, i8, i12, i16, i20, i30, i39, i40, i60, i64, i97, i100, i256, i1000, i10000, im1, im20, im60, l0, l1, l2, l3, l4, l5, l8, l10000, l1e9, lm10000, jl_add, jl_sub, jl_mul, jl_neg, ji_add, ji_sub, ji_mul, ji_neg, ji_l, jl_i, rL_n, rI_n, dL_n, dI_n, mnI_j, mxI_j, ji_nat, rest_j, part_n, whole_j, times_j, kc_0, kc_gt, kc_lt, kc_le, kc_ge, ji_lt, ji_le, ji_inj, jl_inj, jl_lt, jl_le, b1s, b2s, bEs, bEe, rIs, rIn, rIJ, rJs, rJn, rJI, ifp, ifn, if_true, if_false, n1, n2]
    exact ⟨th T 1, _, rfl, rel_fr h (FrS.refl S) th_fr, Or.inr ⟨(3, 1), by simp, rfl, th_17⟩⟩
