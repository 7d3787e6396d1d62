/-! how many are nothing, how many digits there are -/
def AnF {α : Type} (L : List (Nat × Nat)) (S : St) (x : Option (Except Nat α)) (y : Option (α × St)) : Prop := ∃ (T' : St) (v : α), y = some (v, T') ∧ Rel S T' ∧ ((x = some (.ok v) ∧ T'.1 0 17 = 0) ∨ ∃ q ∈ L, x = some (.error q.1) ∧ T'.1 0 17 = ji q.2)
def cz (num : Nat → Int × Int × Int) : Nat → Nat
  | 0 => 0
  | n + 1 => cz num n + if (num n).2.2 = 0 then 1 else 0
theorem cz_le (num : Nat → Int × Int × Int) : ∀ n : Nat, cz num n ≤ n
  | 0 => Nat.le_refl _
  | n + 1 => by
    have := cz_le num n
    unfold cz
    split <;> omega
theorem czC_loop {S : St} {p : Int} {r cnt : Nat} {num : Nat → Int × Int × Int} (hc : cnt ≤ 40) (h3 : S.1 1 3 = ji cnt) (hn : ∀ n : Nat, n < cnt → NumC S n (num n) ∧ Wf p r (num n)) : ∀ (N k : Nat), k ≤ cnt → cnt - k < N → itr (fun (q : Int32 × Int32) k => s_X5_nothingCount_4 (fun (x1 : Int32) (x2 : Int32) => k (x1, x2)) S q.1 q.2) N (ji (cz num k : Nat), ji k) = some (ji (cz num cnt : Nat))
  | 0, _, _, h => absurd h (Nat.not_lt_zero _)
  | N + 1, k, hk, hN => by
    rw [itrS]
    have IH := czC_loop hc h3 hn N (k + 1)
    generalize itr _ N = K1 at IH
    show s_X5_nothingCount_4 (fun (x1 : Int32) (x2 : Int32) => K1 (x1, x2)) S (ji (cz num k : Nat)) (ji k) = _
    have cl := cz_le num k
    unfold s_X5_nothingCount_4 f_X3_isNothing
    by_cases h : k = cnt
    · subst h
      simp (disch := omega) only [i0, i1, i2, i3, i4, i5, i6, i7, i8, i12, i16, i20, i30, i39, i40, i60, i64, i97, i100, i256, i1000, i10000, im1, im20, im60, l0, l1, l2, l3, l4, l5, l8, l10000, l1e9, lm10000, jl_add, jl_sub, jl_mul, jl_neg, ji_add, ji_sub, ji_mul, ji_neg, ji_l, jl_i, rL_n, rI_n, dL_n, dI_n, mnI_j, mxI_j, ji_nat, rest_j, part_n, whole_j, times_j, kc_0, kc_gt, kc_lt, kc_le, kc_ge, ji_lt, ji_le, ji_inj, jl_inj, jl_lt, jl_le, b1s, b2s, bEs, bEe, rIs, rIn, rIJ, rJs, rJn, rJI, ifp, ifn, if_true, if_false, h3]
    · obtain ⟨⟨n1, n2, n3⟩, w⟩ := hn k (by omega)
      have u := w.u0
      obtain ⟨w1, w2, w3, -⟩ := w
      have next := IH (by omega) (by omega)
      rw [show ((k + 1 : Nat) : Int) = (k : Int) + 1 by omega] at next
      have e : cz num (k + 1) = cz num k + if (num k).2.2 = 0 then 1 else 0 := rfl
      by_cases q : (num k).2.2 = 0
      · rw [if_pos q] at e
        have := u.mp q
        rw [e, show ((cz num k + 1 : Nat) : Int) = (cz num k : Int) + 1 by omega] at next
        simp (disch := omega) only [i0, i1, i2, i3, i4, i5, i6, i7, i8, i12, i16, i20, i30, i39, i40, i60, i64, i97, i100, i256, i1000, i10000, im1, im20, im60, l0, l1, l2, l3, l4, l5, l8, l10000, l1e9, lm10000, jl_add, jl_sub, jl_mul, jl_neg, ji_add, ji_sub, ji_mul, ji_neg, ji_l, jl_i, rL_n, rI_n, dL_n, dI_n, mnI_j, mxI_j, ji_nat, rest_j, part_n, whole_j, times_j, kc_0, kc_gt, kc_lt, kc_le, kc_ge, ji_lt, ji_le, ji_inj, jl_inj, jl_lt, jl_le, b1s, b2s, bEs, bEe, rIs, rIn, rIJ, rJs, rJn, rJI, ifp, ifn, if_true, if_false, Int.toNat_natCast, h3, n1, n2]
        exact next
      · rw [if_neg q] at e
        have : ¬ (num k).2.1 ≤ (num k).1 := fun x => q (u.mpr x)
        rw [e, Nat.add_zero] at next
        simp (disch := omega) only [i0, i1, i2, i3, i4, i5, i6, i7, i8, i12, i16, i20, i30, i39, i40, i60, i64, i97, i100, i256, i1000, i10000, im1, im20, im60, l0, l1, l2, l3, l4, l5, l8, l10000, l1e9, lm10000, jl_add, jl_sub, jl_mul, jl_neg, ji_add, ji_sub, ji_mul, ji_neg, ji_l, jl_i, rL_n, rI_n, dL_n, dI_n, mnI_j, mxI_j, ji_nat, rest_j, part_n, whole_j, times_j, kc_0, kc_gt, kc_lt, kc_le, kc_ge, ji_lt, ji_le, ji_inj, jl_inj, jl_lt, jl_le, b1s, b2s, bEs, bEe, rIs, rIn, rIJ, rJs, rJn, rJI, ifp, ifn, if_true, if_false, Int.toNat_natCast, h3, n1, n2]
        exact next
theorem czM_loop {T : St} {p : Int} {r cnt : Nat} {num : Nat → Int × Int × Int} (hr : Rch p r) (hc : 1 ≤ cnt ∧ cnt ≤ 40) (h3 : T.1 0 19 = ji cnt) (hn : ∀ n : Nat, n < cnt → NumM T n (num n) ∧ Wf p r (num n)) : ∀ (N k : Nat), k ≤ cnt → cnt - k < N → itr (fun (q : Int32 × Int32 × St) k => s_X10_nothingShare_26 (fun (x1 : Int32) (x2 : Int32) (S : St) => k (x1, x2, S)) q.1 q.2.1 q.2.2) N (ji (cz num k : Nat), ji k, T) = some (FP.fdiv (FP.i2f (ji (cz num cnt : Nat))) (FP.i2f (ji (cnt : Nat))), T)
  | 0, _, _, h => absurd h (Nat.not_lt_zero _)
  | N + 1, k, hk, hN => by
    rw [itrS]
    have IH := czM_loop hr hc h3 hn N (k + 1)
    generalize itr _ N = K1 at IH
    show s_X10_nothingShare_26 (fun (x1 : Int32) (x2 : Int32) (S : St) => K1 (x1, x2, S)) (ji (cz num k : Nat)) (ji k) T = _
    have cl := cz_le num k
    unfold s_X10_nothingShare_26
    by_cases h : k = cnt
    · subst h
      have f := k_flt (cz num k) (by omega) k (by omega) (by omega)
      rw [h3, if_pos ((ji_le (by omega) (by omega)).mpr (by omega)), if_pos f]
    · obtain ⟨⟨n1, n2, n3⟩, w⟩ := hn k (by omega)
      have u := w.u9 hr
      have next := IH (by omega) (by omega)
      rw [show ((k + 1 : Nat) : Int) = (k : Int) + 1 by omega] at next
      have e : cz num (k + 1) = cz num k + if (num k).2.2 = 0 then 1 else 0 := rfl
      rw [h3, if_neg (fun q => h (by have := (ji_le (by omega) (by omega)).mp q; omega))]
      by_cases q : (num k).2.2 = 0
      · rw [if_pos q] at e
        rw [e, show ((cz num k + 1 : Nat) : Int) = (cz num k : Int) + 1 by omega] at next
        simp (disch := omega) only [i0, i1, i2, i3, i4, i5, i6, i7, i8, i12, i16, i20, i30, i39, i40, i60, i64, i97, i100, i256, i1000, i10000, im1, im20, im60, l0, l1, l2, l3, l4, l5, l8, l10000, l1e9, lm10000, jl_add, jl_sub, jl_mul, jl_neg, ji_add, ji_sub, ji_mul, ji_neg, ji_l, jl_i, rL_n, rI_n, dL_n, dI_n, mnI_j, mxI_j, ji_nat, rest_j, part_n, whole_j, times_j, kc_0, kc_gt, kc_lt, kc_le, kc_ge, ji_lt, ji_le, ji_inj, jl_inj, jl_lt, jl_le, b1s, b2s, bEs, bEe, rIs, rIn, rIJ, rJs, rJn, rJI, ifp, ifn, if_true, if_false, Int.toNat_natCast, h3, n3]
        exact next
      · rw [if_neg q] at e
        rw [e, Nat.add_zero] at next
        simp (disch := omega) only [i0, i1, i2, i3, i4, i5, i6, i7, i8, i12, i16, i20, i30, i39, i40, i60, i64, i97, i100, i256, i1000, i10000, im1, im20, im60, l0, l1, l2, l3, l4, l5, l8, l10000, l1e9, lm10000, jl_add, jl_sub, jl_mul, jl_neg, ji_add, ji_sub, ji_mul, ji_neg, ji_l, jl_i, rL_n, rI_n, dL_n, dI_n, mnI_j, mxI_j, ji_nat, rest_j, part_n, whole_j, times_j, kc_0, kc_gt, kc_lt, kc_le, kc_ge, ji_lt, ji_le, ji_inj, jl_inj, jl_lt, jl_le, b1s, b2s, bEs, bEe, rIs, rIn, rIJ, rJs, rJn, rJI, ifp, ifn, if_true, if_false, Int.toNat_natCast, h3, n3]
        exact next
theorem T_nothingShare {S T : St} (h : Rel S T) : AnF [(4, 1)] S (f_X9_nothingShare S) (f_X10_nothingShare T) := by
  have hh := h
  obtain ⟨p, r, cnt, num, early, D, C, bc, cn, pc, rowc, rv, sz, en, h1, h2, h3, h4⟩ := hh
  have hr := h1.2.1
  have c5 := h1.2.2.2.2.1
  have c6 := h1.2.2.2.2.2.1
  have c7 := h1.2.2.2.2.2.2.1
  have c8 := h1.2.2.2.2.2.2.2
  have t19 : (th T 0).1 0 19 = ji cnt := (th_n (by omega)).trans c6
  unfold f_X9_nothingShare f_X10_nothingShare n_X10_nothingShare_13
  rw [c5, c6]
  by_cases h0 : cnt = 0
  · subst h0
    simp (disch := omega) only [i0, i1, i2, i3, i4, i5, i6, i7, i8, i12, i16, i20, i30, i39, i40, i60, i64, i97, i100, i256, i1000, i10000, im1, im20, im60, l0, l1, l2, l3, l4, l5, l8, l10000, l1e9, lm10000, jl_add, jl_sub, jl_mul, jl_neg, ji_add, ji_sub, ji_mul, ji_neg, ji_l, jl_i, rL_n, rI_n, dL_n, dI_n, mnI_j, mxI_j, ji_nat, rest_j, part_n, whole_j, times_j, kc_0, kc_gt, kc_lt, kc_le, kc_ge, ji_lt, ji_le, ji_inj, jl_inj, jl_lt, jl_le, b1s, b2s, bEs, bEe, rIs, rIn, rIJ, rJs, rJn, rJI, ifp, ifn, if_true, if_false, noN1]
    exact ⟨th T 1, _, rfl, rel_fr h (FrS.refl S) th_fr, Or.inr ⟨(4, 1), by simp, rfl, th_17⟩⟩
  · have e1 := czC_loop (S := S) (p := p) (r := r) c7 c5 (fun n hn => ⟨(c8 n hn).1, (c8 n hn).2.2.1⟩) FU 0 (Nat.zero_le _) (FU_lt (by omega))
    have e2 := czM_loop (T := th T 0) (p := p) (r := r) hr ⟨by omega, c7⟩ t19 (fun n hn => by
      obtain ⟨q1, ⟨q2, q3, q4⟩, q5, -⟩ := c8 n hn
      exact ⟨⟨(th_n (by omega)).trans q2, (th_n (by omega)).trans q3, q4⟩, q5⟩) FU 0 (Nat.zero_le _) (FU_lt (by omega))
    have e1 : f_X5_nothingCount S = some (ji (cz num cnt : Nat)) := e1
    have e2 : n_X10_nothingShare_26 (ji 0) (ji 0) (th T 0) = _ := e2
    have cl := cz_le num cnt
    have f := k_flt (cz num cnt) (by omega) cnt (by omega) (by omega)
    have n0 : ¬ ji (cnt : Int) = 0 := fun q => by
      rw [i0] at q
      have := (ji_inj (by omega) (by omega)).mp q
      omega
    have n1 : ¬ ji (cnt : Int) ≤ 0 := fun q => by
      rw [i0] at q
      have := (ji_le (by omega) (by omega)).mp q
      omega
    rw [if_neg n0, if_neg n1, e1, b1s, if_pos f, i1, noY, b2s, i0, if_pos rfl, e2]
    exact ⟨th T 0, _, rfl, rel_fr h (FrS.refl S) th_fr, Or.inl ⟨rfl, th_17⟩⟩
def dz (num : Nat → Int × Int × Int) : Nat → Int
  | 0 => 0
  | n + 1 => dz num n + ((num n).2.1 - (num n).1)
theorem dz_le {p : Int} {r cnt : Nat} {num : Nat → Int × Int × Int} (hr : Rch p r) (hn : ∀ n : Nat, n < cnt → Wf p r (num n)) : ∀ n : Nat, n ≤ cnt → 0 ≤ dz num n ∧ dz num n ≤ 29 * n
  | 0, _ => by unfold dz; omega
  | n + 1, h => by
    have hrr := hr.2.2.2.2
    have := dz_le hr hn n (by omega)
    obtain ⟨w1, w2, w3, w4, -⟩ := hn n (by omega)
    unfold dz
    omega
theorem dzC_loop {S : St} {p : Int} {r cnt : Nat} {num : Nat → Int × Int × Int} (hr : Rch p r) (hc : cnt ≤ 40) (h3 : S.1 1 3 = ji cnt) (hn : ∀ n : Nat, n < cnt → NumC S n (num n) ∧ Wf p r (num n)) : ∀ (N k : Nat), k ≤ cnt → cnt - k < N → itr (fun (q : Int32 × Int32) k => s_X5_digitCount_4 (fun (x1 : Int32) (x2 : Int32) => k (x1, x2)) S q.1 q.2) N (ji (dz num k), ji k) = some (ji (dz num cnt))
  | 0, _, _, h => absurd h (Nat.not_lt_zero _)
  | N + 1, k, hk, hN => by
    rw [itrS]
    have IH := dzC_loop hr hc h3 hn N (k + 1)
    generalize itr _ N = K1 at IH
    show s_X5_digitCount_4 (fun (x1 : Int32) (x2 : Int32) => K1 (x1, x2)) S (ji (dz num k)) (ji k) = _
    unfold s_X5_digitCount_4
    by_cases h : k = cnt
    · subst h
      simp (disch := omega) only [i0, i1, i2, i3, i4, i5, i6, i7, i8, i12, i16, i20, i30, i39, i40, i60, i64, i97, i100, i256, i1000, i10000, im1, im20, im60, l0, l1, l2, l3, l4, l5, l8, l10000, l1e9, lm10000, jl_add, jl_sub, jl_mul, jl_neg, ji_add, ji_sub, ji_mul, ji_neg, ji_l, jl_i, rL_n, rI_n, dL_n, dI_n, mnI_j, mxI_j, ji_nat, rest_j, part_n, whole_j, times_j, kc_0, kc_gt, kc_lt, kc_le, kc_ge, ji_lt, ji_le, ji_inj, jl_inj, jl_lt, jl_le, b1s, b2s, bEs, bEe, rIs, rIn, rIJ, rJs, rJn, rJI, ifp, ifn, if_true, if_false, h3]
    · obtain ⟨⟨n1, n2, n3⟩, w⟩ := hn k (by omega)
      have next := IH (by omega) (by omega)
      have e : dz num (k + 1) = dz num k + (num k).2.1 - (num k).1 := by
        show dz num k + ((num k).2.1 - (num k).1) = _
        omega
      rw [show ((k + 1 : Nat) : Int) = (k : Int) + 1 by omega, e] at next
      simp (disch := omega) only [i0, i1, i2, i3, i4, i5, i6, i7, i8, i12, i16, i20, i30, i39, i40, i60, i64, i97, i100, i256, i1000, i10000, im1, im20, im60, l0, l1, l2, l3, l4, l5, l8, l10000, l1e9, lm10000, jl_add, jl_sub, jl_mul, jl_neg, ji_add, ji_sub, ji_mul, ji_neg, ji_l, jl_i, rL_n, rI_n, dL_n, dI_n, mnI_j, mxI_j, ji_nat, rest_j, part_n, whole_j, times_j, kc_0, kc_gt, kc_lt, kc_le, kc_ge, ji_lt, ji_le, ji_inj, jl_inj, jl_lt, jl_le, b1s, b2s, bEs, bEe, rIs, rIn, rIJ, rJs, rJn, rJI, ifp, ifn, if_true, if_false, Int.toNat_natCast, h3, n1, n2]
      exact next
theorem dzM_loop {T : St} {p : Int} {r cnt : Nat} {num : Nat → Int × Int × Int} (hr : Rch p r) (hc : 1 ≤ cnt ∧ cnt ≤ 40) (h3 : T.1 0 19 = ji cnt) (hn : ∀ n : Nat, n < cnt → NumM T n (num n) ∧ Wf p r (num n)) : ∀ (N k : Nat), k ≤ cnt → cnt - k < N → itr (fun (q : Int32 × Int32 × St) k => s_X10_meanDigits_26 (fun (x1 : Int32) (x2 : Int32) (S : St) => k (x1, x2, S)) q.1 q.2.1 q.2.2) N (ji (dz num k), ji k, T) = some (FP.ddiv (FP.i2d (ji (dz num cnt))) (FP.i2d (ji (cnt : Nat))), T)
  | 0, _, _, h => absurd h (Nat.not_lt_zero _)
  | N + 1, k, hk, hN => by
    rw [itrS]
    have IH := dzM_loop hr hc h3 hn N (k + 1)
    generalize itr _ N = K1 at IH
    show s_X10_meanDigits_26 (fun (x1 : Int32) (x2 : Int32) (S : St) => K1 (x1, x2, S)) (ji (dz num k)) (ji k) T = _
    unfold s_X10_meanDigits_26
    by_cases h : k = cnt
    · subst h
      have dl := dz_le hr (fun n hn' => (hn n hn').2) k (Nat.le_refl _)
      have f := k_dbl k (by omega) (by omega) (dz num k).toNat (by omega)
      rw [show (((dz num k).toNat : Nat) : Int) = dz num k by omega] at f
      rw [h3, if_pos ((ji_le (by omega) (by omega)).mpr (by omega)), if_pos f]
    · obtain ⟨⟨n1, n2, n3⟩, w⟩ := hn k (by omega)
      have next := IH (by omega) (by omega)
      have e : dz num (k + 1) = dz num k + ((num k).2.1 - (num k).1) := rfl
      rw [show ((k + 1 : Nat) : Int) = (k : Int) + 1 by omega, e] at next
      rw [h3, if_neg (fun q => h (by have := (ji_le (by omega) (by omega)).mp q; omega))]
      simp (disch := omega) only [i0, i1, i2, i3, i4, i5, i6, i7, i8, i12, i16, i20, i30, i39, i40, i60, i64, i97, i100, i256, i1000, i10000, im1, im20, im60, l0, l1, l2, l3, l4, l5, l8, l10000, l1e9, lm10000, jl_add, jl_sub, jl_mul, jl_neg, ji_add, ji_sub, ji_mul, ji_neg, ji_l, jl_i, rL_n, rI_n, dL_n, dI_n, mnI_j, mxI_j, ji_nat, rest_j, part_n, whole_j, times_j, kc_0, kc_gt, kc_lt, kc_le, kc_ge, ji_lt, ji_le, ji_inj, jl_inj, jl_lt, jl_le, b1s, b2s, bEs, bEe, rIs, rIn, rIJ, rJs, rJn, rJI, ifp, ifn, if_true, if_false, Int.toNat_natCast, h3, n1, n2]
      exact next
theorem T_meanDigits {S T : St} (h : Rel S T) : AnF [(4, 1)] S (f_X9_meanDigits S) (f_X10_meanDigits T) := by
  have hh := h
  obtain ⟨p, r, cnt, num, early, D, C, bc, cn, pc, rowc, rv, sz, en, h1, h2, h3, h4⟩ := hh
  have hr := h1.2.1
  have c5 := h1.2.2.2.2.1
  have c6 := h1.2.2.2.2.2.1
  have c7 := h1.2.2.2.2.2.2.1
  have c8 := h1.2.2.2.2.2.2.2
  have t19 : (th T 0).1 0 19 = ji cnt := (th_n (by omega)).trans c6
  unfold f_X9_meanDigits f_X10_meanDigits n_X10_meanDigits_13
  rw [c5, c6]
  by_cases h0 : cnt = 0
  · subst h0
    simp (disch := omega) only [i0, i1, i2, i3, i4, i5, i6, i7, i8, i12, i16, i20, i30, i39, i40, i60, i64, i97, i100, i256, i1000, i10000, im1, im20, im60, l0, l1, l2, l3, l4, l5, l8, l10000, l1e9, lm10000, jl_add, jl_sub, jl_mul, jl_neg, ji_add, ji_sub, ji_mul, ji_neg, ji_l, jl_i, rL_n, rI_n, dL_n, dI_n, mnI_j, mxI_j, ji_nat, rest_j, part_n, whole_j, times_j, kc_0, kc_gt, kc_lt, kc_le, kc_ge, ji_lt, ji_le, ji_inj, jl_inj, jl_lt, jl_le, b1s, b2s, bEs, bEe, rIs, rIn, rIJ, rJs, rJn, rJI, ifp, ifn, if_true, if_false, noN1]
    exact ⟨th T 1, _, rfl, rel_fr h (FrS.refl S) th_fr, Or.inr ⟨(4, 1), by simp, rfl, th_17⟩⟩
  · have e1 := dzC_loop (S := S) (p := p) (r := r) hr c7 c5 (fun n hn => ⟨(c8 n hn).1, (c8 n hn).2.2.1⟩) FU 0 (Nat.zero_le _) (FU_lt (by omega))
    have e2 := dzM_loop (T := th T 0) (p := p) (r := r) hr ⟨by omega, c7⟩ t19 (fun n hn => by
      obtain ⟨q1, ⟨q2, q3, q4⟩, q5, -⟩ := c8 n hn
      exact ⟨⟨(th_n (by omega)).trans q2, (th_n (by omega)).trans q3, q4⟩, q5⟩) FU 0 (Nat.zero_le _) (FU_lt (by omega))
    have e1 : f_X5_digitCount S = some (ji (dz num cnt)) := e1
    have e2 : n_X10_meanDigits_26 (ji 0) (ji 0) (th T 0) = _ := e2
    have dl := dz_le hr (fun n hn' => (c8 n hn').2.2.1) cnt (Nat.le_refl _)
    have f := k_dbl cnt (by omega) h0 (dz num cnt).toNat (by omega)
    rw [show (((dz num cnt).toNat : Nat) : Int) = dz num cnt by omega] at f
    have n0 : ¬ ji (cnt : Int) = 0 := fun q => by
      rw [i0] at q
      have := (ji_inj (by omega) (by omega)).mp q
      omega
    have n1 : ¬ ji (cnt : Int) ≤ 0 := fun q => by
      rw [i0] at q
      have := (ji_le (by omega) (by omega)).mp q
      omega
    rw [if_neg n0, if_neg n1, e1, b1s, if_pos f, i1, noY, b2s, i0, if_pos rfl, e2]
    exact ⟨th T 0, _, rfl, rel_fr h (FrS.refl S) th_fr, Or.inl ⟨rfl, th_17⟩⟩
