theorem guessM_loop {T : St} {p m x : Int} (h : T.1 0 18 = ji p) (hp : 2 ≤ p ∧ p ≤ 97) (hm : 0 < m ∧ m ≤ 1000000000) (hx : 0 ≤ x ∧ x < m) :
    ∀ (N : Nat) (b : Int) (T1 : St), 1 ≤ b → b ≤ 30000 → FrT T T1 → T1.1 = T.1 → (∀ b' : Int, b' < b → ¬ Good p m x b') → (30001 - b).toNat < N →
    ∃ (T2 : St) (v : Int), itr (fun (q : Int64 × Int64 × Int64 × St) k => s_X10_guess_60 (fun (x3 : Int64) (x5 : Int64) (x7 : Int64) (S : St) => k (x3, x5, x7, S)) q.1 q.2.1 q.2.2.1 q.2.2.2) N (jl m, jl x, jl b, T1) = some (jl v, T2) ∧ FrT T T2 ∧ T2.1 = T.1 ∧ 0 ≤ v ∧ v ≤ 30000 ∧ ((v = 0 ∧ ∀ b' : Int, ¬ Good p m x b') ∨ (Good p m x v ∧ T2.2 0 26 = jl (ce m x v) ∧ ∀ b' : Int, b' < v → ¬ Good p m x b'))
  | 0, _, _, _, _, _, _, _, hN => absurd hN (Nat.not_lt_zero _)
  | N + 1, b, T1, hb, hb2, fT, f1, hno, hN => by
    rw [itrS]
    have IH := guessM_loop h hp hm hx N (b + 1)
    generalize itr _ N = K at IH
    show ∃ (T2 : St) (v : Int), s_X10_guess_60 _ (jl m) (jl x) (jl b) T1 = some (jl v, T2) ∧ _
    have hbb : 2 * b * b ≤ 2 * 30000 * 30000 := by
      rw [Int.mul_assoc, Int.mul_assoc]
      have := Int.mul_le_mul hb2 hb2 (by omega) (by omega)
      omega
    have hbb0 := Int.mul_nonneg (show 0 ≤ 2 * b by omega) (show 0 ≤ b by omega)
    have hbx0 := Int.mul_nonneg (show 0 ≤ b by omega) hx.1
    have hbx : b * x ≤ 30000 * 1000000000 := Int.mul_le_mul hb2 (by omega) hx.1 (by omega)
    have g := emod_rng (a := b * x) hm.1
    have hcr := ce_rng (x := x) (b := b) hm.1
    by_cases hstop : m ≤ 2 * b * b
    · refine ⟨T1, 0, ?_, fT, f1, by omega, by omega, Or.inl ⟨rfl, fun b' hg => ?_⟩⟩
      · unfold s_X10_guess_60
        simp (disch := omega) only [i0, i1, i2, i3, i4, i5, i6, i7, i8, i12, i16, i20, i30, i39, i40, i60, i64, i97, i100, i256, i1000, i10000, im1, im20, im60, l0, l1, l2, l3, l4, l5, l8, l10000, l1e9, lm10000, jl_add, jl_sub, jl_mul, jl_neg, ji_add, ji_sub, ji_mul, ji_neg, ji_l, jl_i, rL_n, rI_n, dL_n, dI_n, mnI_j, mxI_j, ji_nat, rest_j, part_n, whole_j, times_j, kc_0, kc_gt, kc_lt, kc_le, kc_ge, ji_lt, ji_le, ji_inj, jl_inj, jl_lt, jl_le, b1s, b2s, bEs, bEe, rIs, rIn, rIJ, rJs, rJn, rJI, ifp, ifn, if_true, if_false]
      · by_cases hlt : b' < b
        · exact hno b' hlt hg
        · have h1 := hg.2.1
          have h2 := Int.mul_le_mul (show b ≤ b' by omega) (show b ≤ b' by omega) (by omega) (by omega)
          rw [Int.mul_assoc] at h1 hstop
          omega
    · have hb3 : b < 30000 := by
        rcases Int.lt_or_le b 30000 with q | q
        · exact q
        · have := Int.mul_le_mul q q (by omega) (by omega)
          rw [Int.mul_assoc] at hstop
          omega
      have ha2 : -1000000000 ≤ ce m x b ∧ ce m x b ≤ 1000000000 := by omega
      have hsq : 0 ≤ 2 * ce m x b * ce m x b ∧ 2 * ce m x b * ce m x b ≤ 2000000000000000000 := by
        have e : (ce m x b).natAbs * (ce m x b).natAbs ≤ 1000000000 * 1000000000 := Nat.mul_le_mul (by omega) (by omega)
        have e2 : ((ce m x b).natAbs : Int) * (ce m x b).natAbs = ce m x b * ce m x b := Int.natAbs_mul_self' _
        rw [Int.mul_assoc]
        have e3 : (((ce m x b).natAbs * (ce m x b).natAbs : Nat) : Int) = ((ce m x b).natAbs : Int) * (ce m x b).natAbs := by push_cast; rfl
        omega
      have first : s_X10_guess_60 (fun (x3 : Int64) (x5 : Int64) (x7 : Int64) (S : St) => K (x3, x5, x7, S)) (jl m) (jl x) (jl b) T1 = n_X10_guess_102 (fun (x3 : Int64) (x5 : Int64) (x7 : Int64) (S : St) => K (x3, x5, x7, S)) (jl m) (jl x) (jl b) (jl (ce m x b)) T1 := by
        unfold s_X10_guess_60
        simp (disch := omega) only [i0, l0, l2, jl_mul, kc_ge, kc_le, ifp, ifn, whole_j, b1s, jl_sub]
        unfold ce
        by_cases q : 2 * (b * x % m) ≤ m
        · rw [if_pos q, if_pos q]
        · rw [if_neg q, if_neg q]
      have fT2 : FrT T (wJ T1 0 26 (jl (ce m x b))) := fT.trans ⟨fun _ _ _ _ _ _ => rfl, fun o i a => rJn (by omega)⟩
      have t18 : T1.1 0 18 = ji p := (fT.1 _ _ (by omega) (by omega) (by omega) (by omega)).trans h
      have next : ¬ Good p m x b → ∃ (T2 : St) (v : Int), K (jl m, jl x, jl (b + 1), wJ T1 0 26 (jl (ce m x b))) = some (jl v, T2) ∧ FrT T T2 ∧ T2.1 = T.1 ∧ 0 ≤ v ∧ v ≤ 30000 ∧ ((v = 0 ∧ ∀ b' : Int, ¬ Good p m x b') ∨ (Good p m x v ∧ T2.2 0 26 = jl (ce m x v) ∧ ∀ b' : Int, b' < v → ¬ Good p m x b')) := fun hn =>
        IH _ (by omega) (by omega) fT2 f1 (fun b' hb' => by
          by_cases q : b' = b
          · subst q; exact hn
          · exact hno b' (by omega)) (by omega)
      rw [first]
      unfold n_X10_guess_102
      have gp := emod_rng (a := b) (show 0 < p by omega)
      obtain ⟨gc, ec, hgc, hgc2⟩ := comM (a := ce m x b) (b := b) ha2 (by omega)
      have hgc1 := isG_1 hgc
      have hgc0 := hgc.1
      simp (disch := omega) only [i0, i1, i2, i3, i4, i5, i6, i7, i8, i12, i16, i20, i30, i39, i40, i60, i64, i97, i100, i256, i1000, i10000, im1, im20, im60, l0, l1, l2, l3, l4, l5, l8, l10000, l1e9, lm10000, jl_add, jl_sub, jl_mul, jl_neg, ji_add, ji_sub, ji_mul, ji_neg, ji_l, jl_i, rL_n, rI_n, dL_n, dI_n, mnI_j, mxI_j, ji_nat, rest_j, part_n, whole_j, times_j, kc_0, kc_gt, kc_lt, kc_le, kc_ge, ji_lt, ji_le, ji_inj, jl_inj, jl_lt, jl_le, b1s, b2s, bEs, bEe, rIs, rIn, rIJ, rJs, rJn, rJI, ifp, ifn, if_true, if_false, t18, ec]
      by_cases c1 : b % p = 0
      · rw [if_pos c1]
        exact next (fun q => q.2.2.1 (Int.dvd_of_emod_eq_zero c1))
      · rw [if_neg c1]
        by_cases c2 : m ≤ 2 * ce m x b * ce m x b
        · rw [if_pos c2]
          exact next (fun q => by have := q.2.2.2.1; omega)
        · rw [if_neg c2]
          by_cases c3 : gc = 1
          · rw [if_pos c3]
            refine ⟨_, b, rfl, fT2, f1, by omega, by omega, Or.inr ⟨⟨hb, by omega, fun q => c1 (Int.emod_eq_zero_of_dvd q), by omega, hgc1.mp c3⟩, rJs, hno⟩⟩
          · rw [if_neg c3]
            exact next (fun q => c3 (hgc1.mpr q.2.2.2.2))
theorem guessM {T : St} {p : Int} {r n : Nat} {x : Int × Int × Int} (h : T.1 0 18 = ji p) (hr : Rch p r) (hn : n < 40) (hx : NumM T n x) (wx : Wf p r x) (h0 : 0 ≤ x.1) :
    ∃ (T2 : St) (v : Int), f_X10_guess (ji n) T = some (jl v, T2) ∧ FrT T T2 ∧ T2.1 = T.1 ∧ 0 ≤ v ∧ v ≤ 30000 ∧ ((v = 0 ∧ ∀ b' : Int, ¬ Good p (p ^ (min x.2.1 (r : Int)).toNat) (ptS p r x) b') ∨ (Good p (p ^ (min x.2.1 (r : Int)).toNat) (ptS p r x) v ∧ T2.2 0 26 = jl (ce (p ^ (min x.2.1 (r : Int)).toNat) (ptS p r x) v) ∧ ∀ b' : Int, b' < v → ¬ Good p (p ^ (min x.2.1 (r : Int)).toNat) (ptS p r x) b')) := by
  have hp := hr.1
  have hrr := hr.2.2.2.2
  have ux := wx.u9 hr
  have wx' := wx
  obtain ⟨a1, a2, a3, a4, -⟩ := wx'
  obtain ⟨x1, x2, x3⟩ := hx
  have g0 := pw_pos hp (min x.2.1 (r : Int)).toNat
  have g3 := emod_rng (a := x.2.2 * p ^ x.1.toNat) g0
  have g1 := hr.le (show (min x.2.1 (r : Int)).toNat ≤ r by omega)
  have hpt : 0 ≤ ptS p r x ∧ ptS p r x < p ^ (min x.2.1 (r : Int)).toNat := g3
  have L := guessM_loop (x := ptS p r x) h ⟨hp, hr.2.1⟩ ⟨g0, g1⟩ hpt FU 1 T (by omega) (by omega) (FrT.refl T) rfl (fun b' hb' q => by have := q.1; omega) (FU_lt (by omega))
  have key : f_X10_guess (ji n) T = n_X10_guess_60 (jl (p ^ (min x.2.1 (r : Int)).toNat)) (jl (ptS p r x)) (jl 1) T := by
    unfold f_X10_guess
    rw [mostM h hr, b1s]
    simp (disch := omega) only [ifn, ji_nat, ji_inj, ji_lt, i0, Int.toNat_natCast, x1, x2, x3, mnI_j]
    rw [pwM h ⟨hp, hr.2.1⟩ (by omega), b1s]
    by_cases hc : x.1 < min x.2.1 (r : Int)
    · have b5 := hr.le (show x.1.toNat ≤ r by omega)
      have b6 := pw_pos hp x.1.toNat
      have b7 := sq_rng (a := x.2.2) (b := p ^ x.1.toNat) (m := 2147483648) (by omega) (by omega) (by omega)
      rw [if_pos hc, pwM h ⟨hp, hr.2.1⟩ (by omega), b1s, jl_mul, whole_j (by omega) (by omega), b1s]
      rfl
    · rw [if_neg hc]
      have e2 : ptS p r x = 0 := Int.emod_eq_zero_of_dvd (Int.dvd_mul_of_dvd_right (pw_dvd p (by omega)))
      rw [e2]
      rfl
  obtain ⟨T2, v, e, rest⟩ := L
  exact ⟨T2, v, key.trans e, rest⟩
theorem guessC_loop {S : St} {m x : Int} (hm : 0 < m ∧ m ≤ 1000000000) : ∀ (j n : Nat) (r₀ r₁ t₀ t₁ k : Int), Eu m x r₀ r₁ t₀ t₁ → m ≤ 2 * r₀ * r₀ → r₀ ≤ m → r₀ * r₁ < 2 ^ j → 0 ≤ k → k + j ≤ 100 → j < n →
    ∃ r₀' r₁' t₀' t₁' : Int, Eu m x r₀' r₁' t₀' t₁' ∧ m ≤ 2 * r₀' * r₀' ∧ r₀' ≤ m ∧ 2 * r₁' * r₁' < m ∧ itr (fun (q : Int64 × Int64 × Int64 × Int64 × Int64 × Int32) k => s_X5_guessedBottom_36 (fun (x3 : Int64) (x5 : Int64) (x7 : Int64) (x9 : Int64) (x11 : Int64) (x13 : Int32) => k (x3, x5, x7, x9, x11, x13)) S q.1 q.2.1 q.2.2.1 q.2.2.2.1 q.2.2.2.2.1 q.2.2.2.2.2) n (jl m, jl r₀, jl r₁, jl t₀, jl t₁, ji k) = n_X5_guessedBottom_108 S (jl m) (jl r₁') (jl t₁')
  | _, 0, _, _, _, _, _, _, _, _, _, _, _, h => absurd h (Nat.not_lt_zero _)
  | j, n + 1, r₀, r₁, t₀, t₁, k, hE, h0, hr, hj, hk, hkj, hn => by
    rw [itrS]
    have IH := fun j a b c d e => guessC_loop (S := S) (x := x) hm j n a b c d e
    generalize itr _ n = K at IH
    show ∃ r₀' r₁' t₀' t₁' : Int, Eu m x r₀' r₁' t₀' t₁' ∧ m ≤ 2 * r₀' * r₀' ∧ r₀' ≤ m ∧ 2 * r₁' * r₁' < m ∧ s_X5_guessedBottom_36 _ S (jl m) (jl r₀) (jl r₁) (jl t₀) (jl t₁) (ji k) = _
    have e1 := hE.1
    have e2 := hE.2.1
    have hsq : 0 ≤ 2 * r₁ * r₁ ∧ 2 * r₁ * r₁ ≤ 2000000000000000000 := by
      have q := sq_rng (a := r₁) (b := r₁) (m := 1000000000) (by omega) (by omega) (by omega)
      have q2 : r₁ * r₁ ≤ 1000000000 * 1000000000 := Int.mul_le_mul (by omega) (by omega) e1 (by omega)
      rw [Int.mul_assoc]
      omega
    unfold s_X5_guessedBottom_36
    by_cases h1 : 2 * r₁ * r₁ < m
    · refine ⟨r₀, r₁, t₀, t₁, hE, h0, hr, h1, ?_⟩
      by_cases h100 : 100 ≤ k
      · simp (disch := omega) only [i0, i1, i2, i3, i4, i5, i6, i7, i8, i12, i16, i20, i30, i39, i40, i60, i64, i97, i100, i256, i1000, i10000, im1, im20, im60, l0, l1, l2, l3, l4, l5, l8, l10000, l1e9, lm10000, jl_add, jl_sub, jl_mul, jl_neg, ji_add, ji_sub, ji_mul, ji_neg, ji_l, jl_i, rL_n, rI_n, dL_n, dI_n, mnI_j, mxI_j, ji_nat, rest_j, part_n, whole_j, times_j, kc_0, kc_gt, kc_lt, kc_le, kc_ge, ji_lt, ji_le, ji_inj, jl_inj, jl_lt, jl_le, b1s, b2s, bEs, bEe, rIs, rIn, rIJ, rJs, rJn, rJI, ifp, ifn, if_true, if_false]
      · simp (disch := omega) only [i0, i1, i2, i3, i4, i5, i6, i7, i8, i12, i16, i20, i30, i39, i40, i60, i64, i97, i100, i256, i1000, i10000, im1, im20, im60, l0, l1, l2, l3, l4, l5, l8, l10000, l1e9, lm10000, jl_add, jl_sub, jl_mul, jl_neg, ji_add, ji_sub, ji_mul, ji_neg, ji_l, jl_i, rL_n, rI_n, dL_n, dI_n, mnI_j, mxI_j, ji_nat, rest_j, part_n, whole_j, times_j, kc_0, kc_gt, kc_lt, kc_le, kc_ge, ji_lt, ji_le, ji_inj, jl_inj, jl_lt, jl_le, b1s, b2s, bEs, bEe, rIs, rIn, rIJ, rJs, rJn, rJI, ifp, ifn, if_true, if_false]
    · have hr1 : 0 < r₁ := by
        rcases Int.lt_or_le 0 r₁ with q | q
        · exact q
        · exfalso
          have : r₁ = 0 := by omega
          subst this
          omega
      cases j with
      | zero =>
        have := Int.mul_pos (show 0 < r₀ by omega) hr1
        have h5 : r₀ * r₁ < 1 := hj
        omega
      | succ j =>
        rw [Int.pow_succ] at hj
        have hh := eu_half hr1 e2
        have hE2 := hE.step hr1
        simp (disch := omega) only [i100, i1, l2, l0, i0, ji_le, jl_mul, kc_lt, ifn, part_n, b1s, jl_sub, ji_add]
        exact IH j r₁ _ t₁ _ (k + 1) hE2 (by omega) (by omega) (by omega) (by omega) (by omega) (by omega)
theorem guessC {S : St} {p : Int} {r k : Nat} {x : Int × Int × Int} (h : NrC S p r) (hr : Rch p r) (hx : NumC S k x) (wx : Wf p r x) (h0 : 0 ≤ x.1) (hN : 0 < x.2.1) :
    ∃ v : Int, f_X5_guessedBottom k S = some (jl v) ∧ 0 ≤ v ∧ ((v = 0 ∧ ∀ b' : Int, ¬ Good p (p ^ (min x.2.1 (r : Int)).toNat) (ptS p r x) b') ∨ Good p (p ^ (min x.2.1 (r : Int)).toNat) (ptS p r x) v) := by
  have hp := hr.1
  have hrr := hr.2.2.2.2
  have hp2 := hr.2.1
  have wx' := wx
  obtain ⟨a1, a2, a3, a4, -⟩ := wx'
  have g0 := pw_pos hp (min x.2.1 (r : Int)).toNat
  have g3 := emod_rng (a := x.2.2 * p ^ x.1.toNat) g0
  have g1 := hr.le (show (min x.2.1 (r : Int)).toNat ≤ r by omega)
  have hpt : 0 ≤ ptS p r x ∧ ptS p r x < p ^ (min x.2.1 (r : Int)).toNat := g3
  have key : f_X5_guessedBottom k S = n_X5_guessedBottom_36 S (jl (p ^ (min x.2.1 (r : Int)).toNat)) (jl (p ^ (min x.2.1 (r : Int)).toNat)) (jl (ptS p r x)) (jl 0) (jl 1) (ji 0) := by
    unfold f_X5_guessedBottom f_X5_guessSpan
    rw [hx.2.1, h.2.1, mnI_j (by omega) (by omega), b1s, pwC' h hr (by omega), b1s, i0, wholeC h hr hx wx h0 (by omega) (by omega) (by omega), b1s, Int.sub_zero, Int.sub_zero]
    rfl
  rw [key]
  generalize p ^ (min x.2.1 (r : Int)).toNat = m at *
  generalize ptS p r x = X at *
  have hmm : m ≤ 2 * m * m := by
    have := Int.mul_le_mul_of_nonneg_right (show 1 ≤ 2 * m by omega) (show 0 ≤ m by omega)
    omega
  have hj : m * X < 2 ^ 60 := by
    have h3 : m * X ≤ 1000000000 * 1000000000 := Int.mul_le_mul (by omega) (by omega) hpt.1 (by omega)
    have h4 : (2 : Int) ^ 60 = 1152921504606846976 := by decide
    omega
  obtain ⟨r₀, r₁, t₀, t₁, hE, k1, k2, k3, k4⟩ := guessC_loop (S := S) ⟨g0, g1⟩ 60 FU m X 0 1 0 (Eu.init hpt.1 hpt.2) hmm (by omega) hj (by omega) (by omega) (FU_lt (by omega))
  have k4 : n_X5_guessedBottom_36 S (jl m) (jl m) (jl X) (jl 0) (jl 1) (ji 0) = n_X5_guessedBottom_108 S (jl m) (jl r₁) (jl t₁) := k4
  rw [k4]
  have un := fun b hg => guess_un (p := p) (b := b) g0 hE k1 k3 hg
  obtain ⟨e1, e2, ⟨s, A, B, hs, et0, et1, hA, hAB, hB, hm2⟩, -, ed1, -⟩ := hE
  have hBm : B ≤ m := by
    have := Int.mul_le_mul_of_nonneg_left (show 1 ≤ r₀ by omega) (show 0 ≤ B by omega)
    have := Int.mul_nonneg hA e1
    omega
  have htB : (t₁.natAbs : Int) = B := by rcases hs with rfl | rfl <;> omega
  have ht : -9223372036854775808 < t₁ ∧ t₁ < 9223372036854775808 := by rcases hs with rfl | rfl <;> omega
  have hBB : 0 ≤ 2 * B * B ∧ 2 * B * B ≤ 2000000000000000000 := by
    have q := Int.mul_nonneg (show 0 ≤ B by omega) (show 0 ≤ B by omega)
    have q2 : B * B ≤ 1000000000 * 1000000000 := Int.mul_le_mul (by omega) (by omega) (by omega) (by omega)
    rw [Int.mul_assoc]
    omega
  have gp := emod_rng (a := B) (show 0 < p by omega)
  obtain ⟨gc, ec, hgc, hgc2⟩ := gcdC (a := r₁) (b := B) (by omega) (by omega)
  have hgc1 := isG_1 hgc
  have hgc0 := hgc.1
  -- what the class tests is what makes the bottom good
  have hce : ce m X B = s * r₁ := by
    refine (ce_un g0 ?_ ?_ ?_).symm
    · have : r₁ = 0 ∨ 2 * r₁ ≤ 2 * r₁ * r₁ := by
        rcases Int.lt_or_le 0 r₁ with q | q
        · right
          have := Int.mul_le_mul_of_nonneg_left (show 1 ≤ r₁ by omega) (show 0 ≤ 2 * r₁ by omega)
          omega
        · left; omega
      rcases hs with rfl | rfl <;> omega
    · have : r₁ = 0 ∨ 2 * r₁ ≤ 2 * r₁ * r₁ := by
        rcases Int.lt_or_le 0 r₁ with q | q
        · right
          have := Int.mul_le_mul_of_nonneg_left (show 1 ≤ r₁ by omega) (show 0 ≤ 2 * r₁ by omega)
          omega
        · left; omega
      rcases hs with rfl | rfl <;> omega
    · have := Int.dvd_mul_of_dvd_right (b := s) ed1
      rw [et1] at this
      rcases hs with rfl | rfl
      · rwa [show (1 : Int) * (r₁ - 1 * B * X) = 1 * r₁ - B * X by rw [Int.one_mul, Int.one_mul, Int.one_mul]] at this
      · rwa [show (-1 : Int) * (r₁ - -1 * B * X) = -1 * r₁ - B * X by rw [Int.neg_one_mul, Int.neg_one_mul, Int.neg_one_mul, Int.neg_mul]; omega] at this
  have good_iff : Good p m X B ↔ (2 * B * B < m ∧ gc = 1 ∧ ¬ B % p = 0) := by
    unfold Good
    rw [hce, hgc1, Int.dvd_iff_emod_eq_zero]
    have c1 : 2 * (s * r₁) * (s * r₁) = 2 * r₁ * r₁ := by rcases hs with rfl | rfl <;> grind
    have c2 : CP (s * r₁) B ↔ CP r₁ B := by
      rcases hs with rfl | rfl
      · rw [Int.one_mul]
      · rw [Int.neg_one_mul]
        exact ⟨fun q d d1 d2 => q d (Int.dvd_neg.mpr d1) d2, fun q d d1 d2 => q d (Int.dvd_neg.mp d1) d2⟩
    rw [c1, c2]
    exact ⟨fun q => ⟨q.2.1, q.2.2.2.2, q.2.2.1⟩, fun q => ⟨hB, q.1, q.2.2, k3, q.2.1⟩⟩
  have none : ¬ Good p m X B → ∀ b' : Int, ¬ Good p m X b' := fun hn b' hg => by
    have := (un b' hg).1
    rw [htB] at this
    rw [this] at hg
    exact hn hg
  have fin : ∃ v : Int, n_X5_guessedBottom_108 S (jl m) (jl r₁) (jl t₁) = some (jl v) ∧ ((Good p m X B ∧ v = B) ∨ (¬ Good p m X B ∧ v = 0)) := by
    have s3 := h.1
    unfold n_X5_guessedBottom_108 n_X5_guessedBottom_134 n_X5_guessedBottom_171
    rw [abL_j ht, htB, good_iff]
    simp (disch := omega) only [i0, i1, i2, i3, i4, i5, i6, i7, i8, i12, i16, i20, i30, i39, i40, i60, i64, i97, i100, i256, i1000, i10000, im1, im20, im60, l0, l1, l2, l3, l4, l5, l8, l10000, l1e9, lm10000, jl_add, jl_sub, jl_mul, jl_neg, ji_add, ji_sub, ji_mul, ji_neg, ji_l, jl_i, rL_n, rI_n, dL_n, dI_n, mnI_j, mxI_j, ji_nat, rest_j, part_n, whole_j, times_j, kc_0, kc_gt, kc_lt, kc_le, kc_ge, ji_lt, ji_le, ji_inj, jl_inj, jl_lt, jl_le, b1s, b2s, bEs, bEe, rIs, rIn, rIJ, rJs, rJn, rJI, ifp, ifn, if_true, if_false, ec, s3]
    by_cases c1 : m ≤ 2 * B * B
    · rw [if_pos c1]
      refine ⟨0, ?_, Or.inr ⟨fun q => by omega, rfl⟩⟩
      by_cases c2 : gc = 1
      · rw [if_pos c2]
        by_cases c3 : B % p = 0
        · rw [if_pos c3]
        · rw [if_neg c3]
      · rw [if_neg c2]
    · rw [if_neg c1]
      by_cases c2 : gc = 1
      · rw [if_pos c2]
        by_cases c3 : B % p = 0
        · rw [if_pos c3]
          exact ⟨0, rfl, Or.inr ⟨fun q => q.2.2 c3, rfl⟩⟩
        · rw [if_neg c3]
          exact ⟨B, rfl, Or.inl ⟨⟨by omega, c2, c3⟩, rfl⟩⟩
      · rw [if_neg c2]
        exact ⟨0, rfl, Or.inr ⟨fun q => c2 q.2.1, rfl⟩⟩
  obtain ⟨v, ev, hv⟩ := fin
  refine ⟨v, ev, ?_, ?_⟩
  · rcases hv with ⟨-, rfl⟩ | ⟨-, rfl⟩ <;> omega
  · rcases hv with ⟨q, rfl⟩ | ⟨q, rfl⟩
    · exact Or.inr q
    · exact Or.inl ⟨rfl, none q⟩
