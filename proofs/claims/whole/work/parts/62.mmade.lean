/-! calls that make a number of others -/
theorem noY {T : St} {k : Int} : f_X10_no (ji 1) (ji k) T = some (ji 0, th T 0) := by
  unfold f_X10_no n_X10_no_10
  simp (disch := omega) only [i0, i1, i2, i3, i4, i5, i6, i7, i8, i12, i16, i20, i30, i39, i40, i60, i64, i97, i100, i256, i1000, i10000, im1, im20, im60, l0, l1, l2, l3, l4, l5, l8, l10000, l1e9, lm10000, jl_add, jl_sub, jl_mul, jl_neg, ji_add, ji_sub, ji_mul, ji_neg, ji_l, jl_i, rL_n, rI_n, dL_n, dI_n, mnI_j, mxI_j, ji_nat, rest_j, part_n, whole_j, times_j, kc_0, kc_gt, kc_lt, kc_le, kc_ge, ji_lt, ji_le, ji_inj, jl_inj, jl_lt, jl_le, b1s, b2s, bEs, bEe, rIs, rIn, rIJ, rJs, rJn, rJI, ifp, ifn, if_true, if_false]
  rfl
theorem roomY {T : St} {cnt : Nat} {k : Int} (h : T.1 0 19 = ji cnt) (hc : cnt < 40) : f_X10_noRoom (ji k) T = some (ji 0, th T 0) := by
  unfold f_X10_noRoom n_X10_noRoom_15
  rw [h]
  simp (disch := omega) only [i0, i1, i2, i3, i4, i5, i6, i7, i8, i12, i16, i20, i30, i39, i40, i60, i64, i97, i100, i256, i1000, i10000, im1, im20, im60, l0, l1, l2, l3, l4, l5, l8, l10000, l1e9, lm10000, jl_add, jl_sub, jl_mul, jl_neg, ji_add, ji_sub, ji_mul, ji_neg, ji_l, jl_i, rL_n, rI_n, dL_n, dI_n, mnI_j, mxI_j, ji_nat, rest_j, part_n, whole_j, times_j, kc_0, kc_gt, kc_lt, kc_le, kc_ge, ji_lt, ji_le, ji_inj, jl_inj, jl_lt, jl_le, b1s, b2s, bEs, bEe, rIs, rIn, rIJ, rJs, rJn, rJI, ifp, ifn, if_true, if_false, noY]
  rw [if_pos nb0]
theorem noN1 {T : St} : f_X10_no (ji 0) (ji 1) T = some (ji 1, th T 1) := noM_n (k := 1)
theorem roomN1 {T : St} (h : T.1 0 19 = ji 40) : f_X10_noRoom (ji 1) T = some (ji 1, th T 1) := noRoom_n (k := 1) h
theorem noN2 {T : St} : f_X10_no (ji 0) (ji 2) T = some (ji 1, th T 2) := noM_n (k := 2)
theorem roomN2 {T : St} (h : T.1 0 19 = ji 40) : f_X10_noRoom (ji 2) T = some (ji 1, th T 2) := noRoom_n (k := 2) h
theorem noN3 {T : St} : f_X10_no (ji 0) (ji 3) T = some (ji 1, th T 3) := noM_n (k := 3)
theorem roomN3 {T : St} (h : T.1 0 19 = ji 40) : f_X10_noRoom (ji 3) T = some (ji 1, th T 3) := noRoom_n (k := 3) h
theorem noN4 {T : St} : f_X10_no (ji 0) (ji 4) T = some (ji 1, th T 4) := noM_n (k := 4)
theorem roomN4 {T : St} (h : T.1 0 19 = ji 40) : f_X10_noRoom (ji 4) T = some (ji 1, th T 4) := noRoom_n (k := 4) h
theorem b2_id {α β : Type} {o : Option (α × β)} : (b2 o fun v w => some (v, w)) = o := by
  cases o with
  | none => rfl
  | some q => rfl
def cm (T : St) (n : Nat) (k a b w : Int) : St := wI (wI (wI (wI (wI T 3 n (ji k)) 4 n (ji a)) 5 n (ji b)) 6 n (ji w)) 9 n (vp_nar .boolean (ji 0))
theorem comesM {T : St} {cnt : Nat} {k a b w : Int} (h : T.1 0 19 = ji cnt) (hc : cnt < 40) : f_X10_comes (ji k) (ji a) (ji b) (ji w) T = b1 (f_X10_finds (ji cnt) (cm T cnt k a b w)) fun S7 => some (S7.1 0 19, wI S7 0 19 (S7.1 0 19 + 1)) := by
  unfold f_X10_comes cm
  simp (disch := omega) only [i0, i1, i2, i3, i4, i5, i6, i7, i8, i12, i16, i20, i30, i39, i40, i60, i64, i97, i100, i256, i1000, i10000, im1, im20, im60, l0, l1, l2, l3, l4, l5, l8, l10000, l1e9, lm10000, jl_add, jl_sub, jl_mul, jl_neg, ji_add, ji_sub, ji_mul, ji_neg, ji_l, jl_i, rL_n, rI_n, dL_n, dI_n, mnI_j, mxI_j, ji_nat, rest_j, part_n, whole_j, times_j, kc_0, kc_gt, kc_lt, kc_le, kc_ge, ji_lt, ji_le, ji_inj, jl_inj, jl_lt, jl_le, b1s, b2s, bEs, bEe, rIs, rIn, rIJ, rJs, rJn, rJI, ifp, ifn, if_true, if_false, Int.toNat_natCast, h]
theorem addMadeC {S : St} {cnt : Nat} {k a b : Int} (h : S.1 1 3 = ji cnt) (hc : cnt < 40) : f_X5_addMade (ji k) (ji a) (ji b) S = b1 (f_X5_find cnt (wI (wI (wI S (12 + cnt) 0 (ji k)) (12 + cnt) 1 (ji a)) (12 + cnt) 2 (ji b))) fun S7 => f_X5_keep cnt S7 := by
  unfold f_X5_addMade f_X3_become
  rw [h, numbC (n := 40) ⟨by omega, by omega⟩ (by omega), b1s, Int.toNat_natCast, if_pos (by omega), b1s]
  simp only [b2_id]
def dOf (S : St) (n : Nat) : Nat → Int := fun j => (S.1 (12 + n) j).toInt
theorem made {S T : St} {p : Int} {r cnt : Nat} {num early : Nat → Int × Int × Int} {D C : Nat → Nat → Int} {bc rowc : Nat} {cn : Nat → Nat} {pc : Nat → Nat → Int} {rv : Nat → Int} {sz : Nat} {en : Nat → Int} {k a b b' : Int}
    (h : RN S T p r cnt num early D C bc rowc cn) (hP : RP S T bc cn pc) (hR : RR S T rowc rv) (hX : RX S T sz en) (hc : cnt < 40) (hk : 1 ≤ k ∧ k ≤ 6) (ha : -2147483648 ≤ a ∧ a < 2147483648) (hb : -2147483648 ≤ b ∧ b < 2147483648) (hb' : k ≤ 4 → b' = b)
    (hd : ∀ d : Nat → Int, d 0 = k → d 1 = a → d 2 = b → Pre p r d (fun _ => 0) num cnt) :
    ∃ S' T' : St, f_X5_addMade (ji k) (ji a) (ji b) S = some (ji cnt, S') ∧ f_X10_comes (ji k) (ji a) (ji b') (ji 0) T = some (ji cnt, T') ∧ Rel S' T' ∧ T'.1 0 17 = T.1 0 17 := by
  have h5 := h.2.2.2.2.1
  have h6 := h.2.2.2.2.2.1
  rw [addMadeC h5 hc, comesM h6 hc]
  generalize hS : wI (wI (wI S (12 + cnt) 0 (ji k)) (12 + cnt) 1 (ji a)) (12 + cnt) 2 (ji b) = S1
  generalize hT : cm T cnt k a b' 0 = T1
  have d0 : dOf S1 cnt 0 = k := by unfold dOf; rw [← hS]; simp (disch := omega) only [rIs, rIn, rIJ, rJs, rJn, rJI]; exact ji_toInt (by omega)
  have d1 : dOf S1 cnt 1 = a := by unfold dOf; rw [← hS]; simp (disch := omega) only [rIs, rIn, rIJ, rJs, rJn, rJI]; exact ji_toInt ha
  have d2 : dOf S1 cnt 2 = b := by unfold dOf; rw [← hS]; simp (disch := omega) only [rIs, rIn, rIJ, rJs, rJn, rJI]; exact ji_toInt hb
  obtain ⟨S', T', e1, e2, e3, e4⟩ := new_num (S1 := S1) (T1 := T1) (d := dOf S1 cnt) (c := fun _ => 0) h hP hR hX hc ⟨fun o i g1 g2 g3 g4 => by rw [← hS]; simp (disch := omega) only [rIs, rIn, rIJ, rJs, rJn, rJI], fun o i g1 g2 g3 g4 => by rw [← hS]; rfl⟩
    ⟨fun o i g1 g2 g3 g4 g5 g6 g7 => by rw [← hT]; unfold cm; simp (disch := omega) only [rIs, rIn, rIJ, rJs, rJn, rJI], fun o i g1 g2 => by rw [← hT]; rfl⟩
    ⟨fun j hj => (ji_of _).symm, fun q => by omega, fun q => by omega⟩
    ⟨by rw [d0, ← hT]; unfold cm; simp (disch := omega) only [rIs, rIn, rIJ, rJs, rJn, rJI], fun q => by omega, fun q q' => by rw [d1, ← hT]; unfold cm; simp (disch := omega) only [rIs, rIn, rIJ, rJs, rJn, rJI], fun q q' => by rw [d2, ← hb' (by omega), ← hT]; unfold cm; simp (disch := omega) only [rIs, rIn, rIJ, rJs, rJn, rJI], fun q => by omega, fun q => by omega⟩
    (hd _ d0 d1 d2) ⟨fun q => by omega, fun q => by omega⟩
  exact ⟨S', T', e1, e2, e3, e4.trans (by rw [← hT]; unfold cm; simp (disch := omega) only [rIs, rIn, rIJ, rJs, rJn, rJI])⟩
theorem num3 {P : Nat → Prop} {a : Int} {n : Nat} (h : 0 ≤ a ∧ a < n) (g : ∀ i : Nat, i < n → P i) : P a.toNat := g _ (by omega)
theorem T_add {S T : St} (h : Rel S T) (a b : Int32) : An [(3, 1), (2, 2)] (f_X9_add a b S) (f_X10_add a b T) := by
  obtain ⟨a, rfl, ha⟩ := ji_ex a
  obtain ⟨b, rfl, hb⟩ := ji_ex b
  have hh := h
  obtain ⟨p, r, cnt, num, early, D, C, bc, cn, pc, rowc, rv, sz, en, h1, h2, h3, h4⟩ := hh
  have c5 := h1.2.2.2.2.1
  have c6 := h1.2.2.2.2.2.1
  have c7 := h1.2.2.2.2.2.2.1
  unfold f_X9_add f_X10_add
  by_cases hab : (0 ≤ a ∧ a < cnt) ∧ (0 ≤ b ∧ b < cnt)
  · rw [needN_y c5 c7 hab.1, bEs, needN_y c5 c7 hab.2, bEs, noNums_y c6 c7 hab.1 hab.2, b2s, ifp (show ji 0 = (0 : Int32) from rfl)]
    have c6' : (th T 0).1 0 19 = ji cnt := (th_n (by omega)).trans c6
    by_cases hc : cnt < 40
    · rw [needR_y c5 hc, bEs, i2, roomY c6' hc, b2s, ifp (show ji 0 = (0 : Int32) from rfl), th_th]
      obtain ⟨S', T', e1, e2, e3, e4⟩ := made (k := 1) (a := a) (b := b) (b' := b) (rn_fr h1 (FrS.refl S) (th_fr (k := 0))) (rp_fr h2 (FrS.refl S) th_fr) (rr_fr h3 (FrS.refl S) th_fr) (rx_fr h4 (FrS.refl S) th_fr) hc (by omega) ha hb (fun _ => rfl) (fun d q0 q1 q2 => Or.inr (Or.inl ⟨q0, by rw [q1]; exact hab.1, by rw [q2]; exact hab.2⟩))
      rw [i1, i0, e1, b2s, e2, b2s]
      exact ⟨S', T', _, rfl, e3, Or.inl ⟨rfl, e4.trans th_17⟩⟩
    · have : cnt = 40 := by omega
      subst this
      rw [needR_n c5, bEe, i2, roomN2 c6', b2s, ifn (show ¬ ji 1 = (0 : Int32) by decide), th_th]
      exact ⟨S, th T 2, 0, rfl, rel_fr h (FrS.refl S) th_fr, Or.inr ⟨(2, 2), by simp, rfl, th_17⟩⟩
  · rw [noNums_n c6 c7 ha hb hab, b2s, ifn (show ¬ ji 1 = (0 : Int32) by decide)]
    have : (bE (f_X9_needNumber (ji a) S) (fun n2 => some (.error n2, S)) fun _ => bE (f_X9_needNumber (ji b) S) (fun n4 => some (.error n4, S)) fun _ => bE (f_X9_needRoom S) (fun n6 => some (.error n6, S)) fun _ => b2 (f_X5_addMade 1 (ji a) (ji b) S) fun v8 S9 => some (Except.ok v8, S9)) = some ((.error 3 : Except Nat Int32), S) := by
      by_cases q : 0 ≤ a ∧ a < cnt
      · rw [needN_y c5 c7 q, bEs, needN_n c5 c7 hb (fun q' => hab ⟨q, q'⟩), bEe]
      · rw [needN_n c5 c7 ha q, bEe]
    rw [this]
    exact ⟨S, th T 1, 0, rfl, rel_fr h (FrS.refl S) th_fr, Or.inr ⟨(3, 1), by simp, rfl, th_17⟩⟩
theorem T_subtract {S T : St} (h : Rel S T) (a b : Int32) : An [(3, 1), (2, 2)] (f_X9_subtract a b S) (f_X10_subtract a b T) := by
  obtain ⟨a, rfl, ha⟩ := ji_ex a
  obtain ⟨b, rfl, hb⟩ := ji_ex b
  have hh := h
  obtain ⟨p, r, cnt, num, early, D, C, bc, cn, pc, rowc, rv, sz, en, h1, h2, h3, h4⟩ := hh
  have c5 := h1.2.2.2.2.1
  have c6 := h1.2.2.2.2.2.1
  have c7 := h1.2.2.2.2.2.2.1
  unfold f_X9_subtract f_X10_subtract
  by_cases hab : (0 ≤ a ∧ a < cnt) ∧ (0 ≤ b ∧ b < cnt)
  · rw [needN_y c5 c7 hab.1, bEs, needN_y c5 c7 hab.2, bEs, noNums_y c6 c7 hab.1 hab.2, b2s, ifp (show ji 0 = (0 : Int32) from rfl)]
    have c6' : (th T 0).1 0 19 = ji cnt := (th_n (by omega)).trans c6
    by_cases hc : cnt < 40
    · rw [needR_y c5 hc, bEs, i2, roomY c6' hc, b2s, ifp (show ji 0 = (0 : Int32) from rfl), th_th]
      obtain ⟨S', T', e1, e2, e3, e4⟩ := made (k := 2) (a := a) (b := b) (b' := b) (rn_fr h1 (FrS.refl S) (th_fr (k := 0))) (rp_fr h2 (FrS.refl S) th_fr) (rr_fr h3 (FrS.refl S) th_fr) (rx_fr h4 (FrS.refl S) th_fr) hc (by omega) ha hb (fun _ => rfl) (fun d q0 q1 q2 => Or.inr (Or.inr (Or.inl ⟨q0, by rw [q1]; exact hab.1, by rw [q2]; exact hab.2⟩)))
      rw [i0, e1, b2s, e2, b2s]
      exact ⟨S', T', _, rfl, e3, Or.inl ⟨rfl, e4.trans th_17⟩⟩
    · have : cnt = 40 := by omega
      subst this
      rw [needR_n c5, bEe, i2, roomN2 c6', b2s, ifn (show ¬ ji 1 = (0 : Int32) by decide), th_th]
      exact ⟨S, th T 2, 0, rfl, rel_fr h (FrS.refl S) th_fr, Or.inr ⟨(2, 2), by simp, rfl, th_17⟩⟩
  · rw [noNums_n c6 c7 ha hb hab, b2s, ifn (show ¬ ji 1 = (0 : Int32) by decide)]
    have : (bE (f_X9_needNumber (ji a) S) (fun n2 => some (.error n2, S)) fun _ => bE (f_X9_needNumber (ji b) S) (fun n4 => some (.error n4, S)) fun _ => bE (f_X9_needRoom S) (fun n6 => some (.error n6, S)) fun _ => b2 (f_X5_addMade 2 (ji a) (ji b) S) fun v8 S9 => some (Except.ok v8, S9)) = some ((.error 3 : Except Nat Int32), S) := by
      by_cases q : 0 ≤ a ∧ a < cnt
      · rw [needN_y c5 c7 q, bEs, needN_n c5 c7 hb (fun q' => hab ⟨q, q'⟩), bEe]
      · rw [needN_n c5 c7 ha q, bEe]
    rw [this]
    exact ⟨S, th T 1, 0, rfl, rel_fr h (FrS.refl S) th_fr, Or.inr ⟨(3, 1), by simp, rfl, th_17⟩⟩
theorem setF_fr {T : St} {x : Int × Int × Int} : FrT T (setF T x) := ⟨fun o i a b c d => by unfold setF; simp (disch := omega) only [rIs, rIn, rIJ, rJs, rJn, rJI], fun o i a => by unfold setF; simp (disch := omega) only [rIs, rIn, rIJ, rJs, rJn, rJI]⟩
theorem lay_unit {p : Int} {r : Nat} {base known w : Int} (hr : Rch p r) (hs : min known 60 - base ≤ r) (hw : base < known → ¬ p ∣ w) (hk : base ≤ known) : (lay p r base known w).1 = min base 60 := by
  rcases lay_cases (w := w) hr hs with ⟨e, q | q⟩ | ⟨v, c, h1, h2, h3, h4, h5, h6, e⟩
  · rw [e]
    show min known 60 = min base 60
    omega
  · rw [e]
    show min known 60 = min base 60
    by_cases hc : base < known
    · by_cases h60 : base < 60
      · exact absurd (Int.dvd_trans (pw_dvd1 p (by omega)) q) (hw hc)
      · omega
    · omega
  · rw [e]
    show base + (v : Int) = min base 60
    by_cases hv : v = 0
    · omega
    · exfalso
      have t1 := Int.dvd_sub (Int.dvd_mul_of_dvd_left (c := c) (pw_dvd1 p (show 1 ≤ v by omega))) (Int.dvd_trans (pw_dvd1 p (show 1 ≤ (min known 60 - base).toNat by omega)) h6)
      rw [Int.sub_sub_self] at t1
      exact hw (by omega) t1
theorem prod_v {p : Int} {r : Nat} {x y : Int × Int × Int} (hP : Pr p) (hr : Rch p r) (wx : Wf p r x) (wy : Wf p r y) : (prodS p r x y).1 = min (x.1 + y.1) 60 := by
  have ux := wx.u0
  have uy := wy.u0
  obtain ⟨a1, a2, a3, a4, -, -, a5, -⟩ := wx
  obtain ⟨b1, b2, b3, b4, -, -, b5, -⟩ := wy
  refine lay_unit hr (by omega) (fun hlt => ?_) (by omega)
  have hx : ¬ x.2.2 = 0 := fun q => by have := ux.mp q; omega
  have hy : ¬ y.2.2 = 0 := fun q => by have := uy.mp q; omega
  exact hP.mul (a5.resolve_left hx) (b5.resolve_left hy)
theorem quot_v {p : Int} {r : Nat} {x y : Int × Int × Int} (hP : Pr p) (hr : Rch p r) (wx : Wf p r x) (wy : Wf p r y) (hy : y.2.2 ≠ 0) : (quotS p r x y).1 = min (x.1 - y.1) 60 := by
  have ux := wx.u0
  have uy := wy.u0
  obtain ⟨a1, a2, a3, a4, -, -, a5, -⟩ := wx
  obtain ⟨b1, b2, b3, b4, -, -, b5, -⟩ := wy
  have hlt : y.1 < y.2.1 := by
    apply Int.lt_of_not_ge
    intro q
    exact hy (uy.mpr q)
  refine lay_unit hr (by omega) (fun hlt => ?_) (by omega)
  have hx : ¬ x.2.2 = 0 := fun q => by have := ux.mp q; omega
  exact hP.mul (a5.resolve_left hx) (iv_co hP (b5.resolve_left hy) (by omega))
theorem lay_rng {p : Int} {r : Nat} {base known w : Int} (hr : Rch p r) (hs : min known 60 - base ≤ r) (hb : -1000 ≤ base ∧ base ≤ 1000) (hk : -1000 ≤ known ∧ known ≤ 1000) : -1000 ≤ (lay p r base known w).1 ∧ (lay p r base known w).1 ≤ 1000 := by
  rcases lay_cases (w := w) hr hs with ⟨e, -⟩ | ⟨v, c, h1, h2, h3, h4, h5, h6, e⟩ <;> rw [e]
  · show -1000 ≤ min known 60 ∧ min known 60 ≤ 1000; omega
  · show -1000 ≤ base + (v : Int) ∧ base + (v : Int) ≤ 1000; omega
theorem nothC {S : St} {k : Nat} {x : Int × Int × Int} {p : Int} {r : Nat} (hx : NumC S k x) (wx : Wf p r x) : f_X3_isNothing k S = some (if x.2.2 = 0 then ji 1 else ji 0) := by
  have u := wx.u0
  obtain ⟨a1, a2, a3, -⟩ := wx
  unfold f_X3_isNothing
  rw [hx.1, hx.2.1]
  by_cases h : x.2.2 = 0
  · have := u.mp h
    rw [if_pos h]
    simp (disch := omega) only [i0, i1, i2, i3, i4, i5, i6, i7, i8, i12, i16, i20, i30, i39, i40, i60, i64, i97, i100, i256, i1000, i10000, im1, im20, im60, l0, l1, l2, l3, l4, l5, l8, l10000, l1e9, lm10000, jl_add, jl_sub, jl_mul, jl_neg, ji_add, ji_sub, ji_mul, ji_neg, ji_l, jl_i, rL_n, rI_n, dL_n, dI_n, mnI_j, mxI_j, ji_nat, rest_j, part_n, whole_j, times_j, kc_0, kc_gt, kc_lt, kc_le, kc_ge, ji_lt, ji_le, ji_inj, jl_inj, jl_lt, jl_le, b1s, b2s, bEs, bEe, rIs, rIn, rIJ, rJs, rJn, rJI, ifp, ifn, if_true, if_false]
  · have : ¬ x.2.1 ≤ x.1 := fun q => h (u.mpr q)
    rw [if_neg h]
    simp (disch := omega) only [i0, i1, i2, i3, i4, i5, i6, i7, i8, i12, i16, i20, i30, i39, i40, i60, i64, i97, i100, i256, i1000, i10000, im1, im20, im60, l0, l1, l2, l3, l4, l5, l8, l10000, l1e9, lm10000, jl_add, jl_sub, jl_mul, jl_neg, ji_add, ji_sub, ji_mul, ji_neg, ji_l, jl_i, rL_n, rI_n, dL_n, dI_n, mnI_j, mxI_j, ji_nat, rest_j, part_n, whole_j, times_j, kc_0, kc_gt, kc_lt, kc_le, kc_ge, ji_lt, ji_le, ji_inj, jl_inj, jl_lt, jl_le, b1s, b2s, bEs, bEe, rIs, rIn, rIJ, rJs, rJn, rJI, ifp, ifn, if_true, if_false]
theorem T_multiply {S T : St} (h : Rel S T) (a b : Int32) : An [(3, 1), (4, 2), (2, 3)] (f_X9_multiply a b S) (f_X10_multiply a b T) := by
  obtain ⟨a, rfl, ha⟩ := ji_ex a
  obtain ⟨b, rfl, hb⟩ := ji_ex b
  have hh := h
  obtain ⟨p, r, cnt, num, early, D, C, bc, cn, pc, rowc, rv, sz, en, h1, h2, h3, h4⟩ := hh
  have hP := h1.1
  have hr := h1.2.1
  have hp18 := h1.2.2.2.1
  have c5 := h1.2.2.2.2.1
  have c6 := h1.2.2.2.2.2.1
  have c7 := h1.2.2.2.2.2.2.1
  have c8 := h1.2.2.2.2.2.2.2
  have hrr := hr.2.2.2.2
  unfold f_X9_multiply f_X10_multiply n_X10_multiply_32
  by_cases hab : (0 ≤ a ∧ a < cnt) ∧ (0 ≤ b ∧ b < cnt)
  · obtain ⟨xa, ma, wa, -⟩ := num3 hab.1 c8
    obtain ⟨xb, mb, wb, -⟩ := num3 hab.2 c8
    have vp := prod_v hP hr wa wb
    have vq := wa.1
    have vr := wb.1
    have vs := wa.2.1
    have vt := wb.2.1
    have vu := wa.2.2.1
    have vv := wb.2.2.1
    have c6' : (th T 0).1 0 19 = ji cnt := (th_n (by omega)).trans c6
    have pm := productM (T := th T 0) (n := a.toNat) (m := b.toNat) ((th_n (by omega)).trans hp18) hr (by omega) (by omega) (x := num a.toNat) (y := num b.toNat) ⟨(th_n (by omega)).trans ma.1, (th_n (by omega)).trans ma.2.1, by rw [th_2]; exact ma.2.2⟩ ⟨(th_n (by omega)).trans mb.1, (th_n (by omega)).trans mb.2.1, by rw [th_2]; exact mb.2.2⟩ wa wb
    rw [show ((a.toNat : Nat) : Int) = a by omega, show ((b.toNat : Nat) : Int) = b by omega] at pm
    rw [needN_y c5 c7 hab.1, bEs, needN_y c5 c7 hab.2, bEs, numbC (n := 40) ⟨hab.1.1, by omega⟩ (by omega), b1s, if_pos (by omega), numbC (n := 40) ⟨hab.2.1, by omega⟩ (by omega), b1s, if_pos (by omega), xa.1, xb.1, noNums_y c6 c7 hab.1 hab.2, b2s, ifp (show ji 0 = (0 : Int32) from rfl), pm, b1s]
    have f23 : (setF (th T 0) (prodS p r (num a.toNat) (num b.toNat))).1 0 23 = ji (min ((num a.toNat).1 + (num b.toNat).1) 60) := by unfold setF; simp (disch := omega) only [rIs, rIn, rIJ, rJs, rJn, rJI]; rw [vp]
    have F1 : FrT T (setF (th T 0) (prodS p r (num a.toNat) (num b.toNat))) := th_fr.trans setF_fr
    generalize setF (th T 0) (prodS p r (num a.toNat) (num b.toNat)) = T1 at *
    rw [f23]
    have d6 : T1.1 0 19 = ji cnt := (F1.1 _ _ (by omega) (by omega) (by omega) (by omega)).trans c6
    by_cases hlow : (num a.toNat).1 + (num b.toNat).1 < -60
    · have := noM_n (T := T1) (k := 2)
      rw [show ((2 : Nat) : Int) = 2 from rfl] at this
      simp (disch := omega) only [i0, i1, i2, i3, i4, i5, i6, i7, i8, i12, i16, i20, i30, i39, i40, i60, i64, i97, i100, i256, i1000, i10000, im1, im20, im60, l0, l1, l2, l3, l4, l5, l8, l10000, l1e9, lm10000, jl_add, jl_sub, jl_mul, jl_neg, ji_add, ji_sub, ji_mul, ji_neg, ji_l, jl_i, rL_n, rI_n, dL_n, dI_n, mnI_j, mxI_j, ji_nat, rest_j, part_n, whole_j, times_j, kc_0, kc_gt, kc_lt, kc_le, kc_ge, ji_lt, ji_le, ji_inj, jl_inj, jl_lt, jl_le, b1s, b2s, bEs, bEe, rIs, rIn, rIJ, rJs, rJn, rJI, ifp, ifn, if_true, if_false, this]
      exact ⟨S, th T1 2, ji 0, rfl, rel_fr h (FrS.refl S) (F1.trans th_fr), Or.inr ⟨(4, 2), by simp, rfl, th_17⟩⟩
    · have := noM_y (T := T1) (k := 2)
      rw [show ((2 : Nat) : Int) = 2 from rfl] at this
      have d6' : (th T1 0).1 0 19 = ji cnt := (th_n (by omega)).trans d6
      have F2 : FrT T (th T1 0) := F1.trans th_fr
      by_cases hc : cnt < 40
      · have r2 := noRoom_y (k := 3) d6' hc
        rw [show ((3 : Nat) : Int) = 3 from rfl, th_th] at r2
        have r1 := needR_y c5 hc
        obtain ⟨S', T', e1, e2, e3, e4⟩ := made (k := 3) (a := a) (b := b) (b' := b) (rn_fr h1 (FrS.refl S) F2) (rp_fr h2 (FrS.refl S) F2) (rr_fr h3 (FrS.refl S) F2) (rx_fr h4 (FrS.refl S) F2) hc (by omega) ha hb (fun _ => rfl) (fun d q0 q1 q2 => Or.inr (Or.inr (Or.inr (Or.inl ⟨q0, by rw [q1]; exact hab.1, by rw [q2]; exact hab.2, by rw [q1, q2]; omega⟩))))
        simp (disch := omega) only [i0, i1, i2, i3, i4, i5, i6, i7, i8, i12, i16, i20, i30, i39, i40, i60, i64, i97, i100, i256, i1000, i10000, im1, im20, im60, l0, l1, l2, l3, l4, l5, l8, l10000, l1e9, lm10000, jl_add, jl_sub, jl_mul, jl_neg, ji_add, ji_sub, ji_mul, ji_neg, ji_l, jl_i, rL_n, rI_n, dL_n, dI_n, mnI_j, mxI_j, ji_nat, rest_j, part_n, whole_j, times_j, kc_0, kc_gt, kc_lt, kc_le, kc_ge, ji_lt, ji_le, ji_inj, jl_inj, jl_lt, jl_le, b1s, b2s, bEs, bEe, rIs, rIn, rIJ, rJs, rJn, rJI, ifp, ifn, if_true, if_false, this, r1, r2, e1, e2]
        exact ⟨S', T', _, rfl, e3, Or.inl ⟨rfl, e4.trans th_17⟩⟩
      · have hc : cnt = 40 := by omega
        subst hc
        have r2 := noRoom_n (k := 3) d6'
        rw [show ((3 : Nat) : Int) = 3 from rfl, th_th] at r2
        have r1 := needR_n c5
        simp (disch := omega) only [i0, i1, i2, i3, i4, i5, i6, i7, i8, i12, i16, i20, i30, i39, i40, i60, i64, i97, i100, i256, i1000, i10000, im1, im20, im60, l0, l1, l2, l3, l4, l5, l8, l10000, l1e9, lm10000, jl_add, jl_sub, jl_mul, jl_neg, ji_add, ji_sub, ji_mul, ji_neg, ji_l, jl_i, rL_n, rI_n, dL_n, dI_n, mnI_j, mxI_j, ji_nat, rest_j, part_n, whole_j, times_j, kc_0, kc_gt, kc_lt, kc_le, kc_ge, ji_lt, ji_le, ji_inj, jl_inj, jl_lt, jl_le, b1s, b2s, bEs, bEe, rIs, rIn, rIJ, rJs, rJn, rJI, ifp, ifn, if_true, if_false, this, r1, r2]
        exact ⟨S, th T1 3, ji 0, rfl, rel_fr h (FrS.refl S) (F1.trans th_fr), Or.inr ⟨(2, 3), by simp, rfl, th_17⟩⟩
  · rw [noNums_n c6 c7 ha hb hab, b2s, ifn (show ¬ ji 1 = (0 : Int32) by decide)]
    refine ⟨S, th T 1, 0, rfl, rel_fr h (FrS.refl S) th_fr, Or.inr ⟨(3, 1), by simp, ?_, th_17⟩⟩
    by_cases q : 0 ≤ a ∧ a < cnt
    · rw [needN_y c5 c7 q, bEs, needN_n c5 c7 hb (fun q' => hab ⟨q, q'⟩), bEe]
    · rw [needN_n c5 c7 ha q, bEe]
