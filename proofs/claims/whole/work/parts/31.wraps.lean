def rm_L_setPrime : Room := { frames := 9, cells := 1, slots := 6, locals := 174 }
set_option maxHeartbeats 4000000 in
set_option maxRecDepth 100000 in
theorem wk_L_setPrime (l : Launch) (hl0 : l.stackTraces = false) (D : va_G) (ct : Nat → ClassId) (ad : Nat → Nat) (ao : Nat) (hG : Gd ad 70 (FC ad)) (hao : ∀ i : Nat, i < 70 → ad i ≠ ao) (p0 : Int32) (S S' : St) (r : Int32) (g : Nat → Int64) (hf : f_X9_setPrime p0 S = some (.ok r, S')) : MetL l yL_setPrime cL_setPrime 4 [(0, 9, 12, 13), (0, 9, 15, 15)] rm_L_setPrime D ct ad ao [.ref (ad 0), .int p0, .ref ao] 0 S S' g (vp_updL g (Int32.toNatClampNeg 0) (Int32.toInt64 r)) := by
  refine MetL.of RL (by decide) rfl (Nat.le_of_ble_eq_true rfl) ?_
  intro p e s m args below meth c C htab hK hP hO hX hN ls hl
  have hl : lv_has ls 4 [(0, .ref (ad 0)), (1, .int p0), (2, .ref ao)] := hl
  obtain ⟨hx, hb, hr, hml, hown, htL, hlocks⟩ := id C
  have hS : va_S (FL ad ao) s.heap s.heap [] := va_S.rf
  have hnO : ∀ (i : Nat) (q : Nat × va_E), (outW ct ao g)[i]? = some q → ¬ FC ad q.1 := by
    intro i q hq
    cases i with
    | zero =>
      simp at hq
      subst hq
      rintro ⟨i9, hi9, e9⟩
      exact hao i9 hi9 e9.symm
    | succ i => simp at hq
  refine lv_aload_n hx hb dL_setPrime_0 rfl (lv_at hl 2 rfl) ?_
  refine lv_iconst (v := 0) hx hb dL_setPrime_1 (by decide) ?_
  refine lv_aload_n hx hb dL_setPrime_2 rfl (lv_at hl 0 rfl) ?_
  refine lv_iload_n hx hb dL_setPrime_3 rfl (lv_at hl 1 rfl) ?_
  refine hc_VF (As := [.int p0]) (rest := [.int 0, .ref ao]) C hK (c_X9_setPrime l D ct ad (FC ad) hG p0 S r S' hf) hl.1 cp_X9_setPrime mw_2_140 (rc_X9 hK hP) hP hS (fun q h => Or.inl h) ⟨rfl, rfl⟩ ⟨Nat.le_of_ble_eq_true rfl, Nat.le_of_ble_eq_true rfl⟩ rfl rfl (Nat.le_of_ble_eq_true rfl) dL_setPrime_4 ⟨Nat.le_of_ble_eq_true rfl, Nat.le_of_ble_eq_true rfl⟩ (fun H locs hP hS hz hk => ?_)
  have hO := keptP hO hk hnO
  refine lv_i2l hx hb dL_setPrime_7 rfl ?_
  refine lw_last C hK hP hO hG hao hS dL_setPrime_8 (fun H locs hP hO hS => ?_)
  refine lv_goto (tgt := 18) hx hb dL_setPrime_9 (by decide) ?_
  refine lv_iconst (v := 0) hx hb dL_setPrime_18 (by decide) ?_
  refine W.widen (k := 1) (n := 6) (by decide) (by decide) ?_
  exact W.iret hx hb hr (fun t ht _ => ⟨rfl, by rw [ht]; exact hP, by rw [ht]; exact hO, hS.F ht⟩) hS.2.2 dL_setPrime_19 hlocks
set_option maxHeartbeats 4000000 in
set_option maxRecDepth 100000 in
theorem wx_L_setPrime_1 (l : Launch) (hl0 : l.stackTraces = false) (D : va_G) (ct : Nat → ClassId) (ad : Nat → Nat) (ao : Nat) (hG : Gd ad 70 (FC ad)) (hao : ∀ i : Nat, i < 70 → ad i ≠ ao) (p0 : Int32) (S S' : St)  (g : Nat → Int64) (hf : f_X9_setPrime p0 S = some (.error 1, S')) : MetL l yL_setPrime cL_setPrime 4 [(0, 9, 12, 13), (0, 9, 15, 15)] rm_L_setPrime D ct ad ao [.ref (ad 0), .int p0, .ref ao] 1 S S' g g := by
  refine MetL.of RL (by decide) rfl (Nat.le_of_ble_eq_true rfl) ?_
  intro p e s m args below meth c C htab hK hP hO hX hN ls hl
  have hl : lv_has ls 4 [(0, .ref (ad 0)), (1, .int p0), (2, .ref ao)] := hl
  obtain ⟨hx, hb, hr, hml, hown, htL, hlocks⟩ := id C
  have hS : va_S (FL ad ao) s.heap s.heap [] := va_S.rf
  have hnO : ∀ (i : Nat) (q : Nat × va_E), (outW ct ao g)[i]? = some q → ¬ FC ad q.1 := by
    intro i q hq
    cases i with
    | zero =>
      simp at hq
      subst hq
      rintro ⟨i9, hi9, e9⟩
      exact hao i9 hi9 e9.symm
    | succ i => simp at hq
  refine lv_aload_n hx hb dL_setPrime_0 rfl (lv_at hl 2 rfl) ?_
  refine lv_iconst (v := 0) hx hb dL_setPrime_1 (by decide) ?_
  refine lv_aload_n hx hb dL_setPrime_2 rfl (lv_at hl 0 rfl) ?_
  refine lv_iload_n hx hb dL_setPrime_3 rfl (lv_at hl 1 rfl) ?_
  have hXC : Xf (FC ad) s := hX.narrow (fun q h => Or.inl h)
  refine xc_VF (As := [.int p0]) (rest := [.int 0, .ref ao]) C hXC (x_X9_setPrime l hl0 D ct ad (FC ad) hG p0 S _ _ hf) hl.1 cp_X9_setPrime mw_2_140 (rc_X9 hK hP) hK hP hS va_S.rf (fun q h => Or.inl h) ⟨rfl, rfl⟩ ⟨Nat.le_of_ble_eq_true rfl, Nat.le_of_ble_eq_true rfl⟩ rfl rfl (Nat.le_of_ble_eq_true rfl) dL_setPrime_4 ⟨Nat.le_of_ble_eq_true rfl, Nat.le_of_ble_eq_true rfl⟩ (fun q ce H locs hce hcv hcl hP hS hz hk => ?_)
  have hO := keptP hO hk hnO
  refine vx_catch (name := xn 1) (E := xn 1) hown [] (⟨0, 9, 12, 13⟩ : ExceptionTableEntry) [(⟨0, 9, 15, 15⟩ : ExceptionTableEntry)] (htab.trans rfl) (fun z hz => nomatch hz) rfl (by decide) (htL _ mw_2_138) (va_Nw.use rfl (hX.2.2.1 (xn 1) (List.mem_of_getElem? (i := 0) rfl))) hce hcv hcl ?_
  refine lv_astore_n (lv' := [(3, .ref q), (0, .ref (ad 0)), (1, .int p0), (2, .ref ao)]) hx hb dL_setPrime_12 rfl hl (by decide) rfl (fun ls hl => ?_)
  refine lv_iconst (v := 1) hx hb dL_setPrime_13 (by decide) ?_
  exact W.iret hx hb hr (fun t ht _ => ⟨rfl, by rw [ht]; exact hP, by rw [ht]; exact hO, hS.F ht⟩) hS.2.2 dL_setPrime_14 hlocks
set_option maxHeartbeats 4000000 in
set_option maxRecDepth 100000 in
theorem wx_L_setPrime_5 (l : Launch) (hl0 : l.stackTraces = false) (D : va_G) (ct : Nat → ClassId) (ad : Nat → Nat) (ao : Nat) (hG : Gd ad 70 (FC ad)) (hao : ∀ i : Nat, i < 70 → ad i ≠ ao) (p0 : Int32) (S S' : St)  (g : Nat → Int64) (hf : f_X9_setPrime p0 S = some (.error 5, S')) : MetL l yL_setPrime cL_setPrime 4 [(0, 9, 12, 13), (0, 9, 15, 15)] rm_L_setPrime D ct ad ao [.ref (ad 0), .int p0, .ref ao] 2 S S' g g := by
  refine MetL.of RL (by decide) rfl (Nat.le_of_ble_eq_true rfl) ?_
  intro p e s m args below meth c C htab hK hP hO hX hN ls hl
  have hl : lv_has ls 4 [(0, .ref (ad 0)), (1, .int p0), (2, .ref ao)] := hl
  obtain ⟨hx, hb, hr, hml, hown, htL, hlocks⟩ := id C
  have hS : va_S (FL ad ao) s.heap s.heap [] := va_S.rf
  have hnO : ∀ (i : Nat) (q : Nat × va_E), (outW ct ao g)[i]? = some q → ¬ FC ad q.1 := by
    intro i q hq
    cases i with
    | zero =>
      simp at hq
      subst hq
      rintro ⟨i9, hi9, e9⟩
      exact hao i9 hi9 e9.symm
    | succ i => simp at hq
  refine lv_aload_n hx hb dL_setPrime_0 rfl (lv_at hl 2 rfl) ?_
  refine lv_iconst (v := 0) hx hb dL_setPrime_1 (by decide) ?_
  refine lv_aload_n hx hb dL_setPrime_2 rfl (lv_at hl 0 rfl) ?_
  refine lv_iload_n hx hb dL_setPrime_3 rfl (lv_at hl 1 rfl) ?_
  have hXC : Xf (FC ad) s := hX.narrow (fun q h => Or.inl h)
  refine xc_VF (As := [.int p0]) (rest := [.int 0, .ref ao]) C hXC (x_X9_setPrime l hl0 D ct ad (FC ad) hG p0 S _ _ hf) hl.1 cp_X9_setPrime mw_2_140 (rc_X9 hK hP) hK hP hS va_S.rf (fun q h => Or.inl h) ⟨rfl, rfl⟩ ⟨Nat.le_of_ble_eq_true rfl, Nat.le_of_ble_eq_true rfl⟩ rfl rfl (Nat.le_of_ble_eq_true rfl) dL_setPrime_4 ⟨Nat.le_of_ble_eq_true rfl, Nat.le_of_ble_eq_true rfl⟩ (fun q ce H locs hce hcv hcl hP hS hz hk => ?_)
  have hO := keptP hO hk hnO
  refine vx_catch (name := xn 5) (E := xn 5) hown [(⟨0, 9, 12, 13⟩ : ExceptionTableEntry)] (⟨0, 9, 15, 15⟩ : ExceptionTableEntry) [] (htab.trans rfl) (by
    intro z hz
    simp only [List.mem_cons, List.not_mem_nil, or_false] at hz
    rcases hz with rfl
    · exact Or.inr ⟨by decide, _, htL _ mw_2_138, hN 5 1 (by decide) (by decide) (by decide) (by decide) (by decide)⟩) rfl (by decide) (htL _ mw_2_139) (va_Nw.use rfl (hX.2.2.1 (xn 5) (List.mem_of_getElem? (i := 4) rfl))) hce hcv hcl ?_
  refine lv_astore_n (lv' := [(3, .ref q), (0, .ref (ad 0)), (1, .int p0), (2, .ref ao)]) hx hb dL_setPrime_15 rfl hl (by decide) rfl (fun ls hl => ?_)
  refine lv_iconst (v := 2) hx hb dL_setPrime_16 (by decide) ?_
  exact W.iret hx hb hr (fun t ht _ => ⟨rfl, by rw [ht]; exact hP, by rw [ht]; exact hO, hS.F ht⟩) hS.2.2 dL_setPrime_17 hlocks
def rm_L_give : Room := { frames := 10, cells := 1, slots := 6, locals := 233 }
set_option maxHeartbeats 4000000 in
set_option maxRecDepth 100000 in
theorem wk_L_give (l : Launch) (hl0 : l.stackTraces = false) (D : va_G) (ct : Nat → ClassId) (ad : Nat → Nat) (ao : Nat) (hG : Gd ad 70 (FC ad)) (hao : ∀ i : Nat, i < 70 → ad i ≠ ao) (p0 : Int32) (p1 : Int32) (p2 : Int32) (S S' : St) (r : Int32) (g : Nat → Int64) (hf : f_X9_give p0 p1 p2 S = some (.ok r, S')) : MetL l yL_give cL_give 6 [(0, 12, 15, 13), (0, 12, 19, 21)] rm_L_give D ct ad ao [.ref (ad 0), .int p0, .int p1, .int p2, .ref ao] 0 S S' g (vp_updL g (Int32.toNatClampNeg 0) (Int32.toInt64 r)) := by
  refine MetL.of RL (by decide) rfl (Nat.le_of_ble_eq_true rfl) ?_
  intro p e s m args below meth c C htab hK hP hO hX hN ls hl
  have hl : lv_has ls 6 [(0, .ref (ad 0)), (1, .int p0), (2, .int p1), (3, .int p2), (4, .ref ao)] := hl
  obtain ⟨hx, hb, hr, hml, hown, htL, hlocks⟩ := id C
  have hS : va_S (FL ad ao) s.heap s.heap [] := va_S.rf
  have hnO : ∀ (i : Nat) (q : Nat × va_E), (outW ct ao g)[i]? = some q → ¬ FC ad q.1 := by
    intro i q hq
    cases i with
    | zero =>
      simp at hq
      subst hq
      rintro ⟨i9, hi9, e9⟩
      exact hao i9 hi9 e9.symm
    | succ i => simp at hq
  refine lv_aload hx hb dL_give_0 (lv_at hl 4 rfl) ?_
  refine lv_iconst (v := 0) hx hb dL_give_2 (by decide) ?_
  refine lv_aload_n hx hb dL_give_3 rfl (lv_at hl 0 rfl) ?_
  refine lv_iload_n hx hb dL_give_4 rfl (lv_at hl 1 rfl) ?_
  refine lv_iload_n hx hb dL_give_5 rfl (lv_at hl 2 rfl) ?_
  refine lv_iload_n hx hb dL_give_6 rfl (lv_at hl 3 rfl) ?_
  refine hc_VF (As := [.int p0, .int p1, .int p2]) (rest := [.int 0, .ref ao]) C hK (c_X9_give l D ct ad (FC ad) hG p0 p1 p2 S r S' hf) hl.1 cp_X9_give mw_3_0 (rc_X9 hK hP) hP hS (fun q h => Or.inl h) ⟨rfl, rfl⟩ ⟨Nat.le_of_ble_eq_true rfl, Nat.le_of_ble_eq_true rfl⟩ rfl rfl (Nat.le_of_ble_eq_true rfl) dL_give_7 ⟨Nat.le_of_ble_eq_true rfl, Nat.le_of_ble_eq_true rfl⟩ (fun H locs hP hS hz hk => ?_)
  have hO := keptP hO hk hnO
  refine lv_i2l hx hb dL_give_10 rfl ?_
  refine lw_last C hK hP hO hG hao hS dL_give_11 (fun H locs hP hO hS => ?_)
  refine lv_goto (tgt := 23) hx hb dL_give_12 (by decide) ?_
  refine lv_iconst (v := 0) hx hb dL_give_23 (by decide) ?_
  refine W.widen (k := 1) (n := 6) (by decide) (by decide) ?_
  exact W.iret hx hb hr (fun t ht _ => ⟨rfl, by rw [ht]; exact hP, by rw [ht]; exact hO, hS.F ht⟩) hS.2.2 dL_give_24 hlocks
set_option maxHeartbeats 4000000 in
set_option maxRecDepth 100000 in
theorem wx_L_give_1 (l : Launch) (hl0 : l.stackTraces = false) (D : va_G) (ct : Nat → ClassId) (ad : Nat → Nat) (ao : Nat) (hG : Gd ad 70 (FC ad)) (hao : ∀ i : Nat, i < 70 → ad i ≠ ao) (p0 : Int32) (p1 : Int32) (p2 : Int32) (S S' : St)  (g : Nat → Int64) (hf : f_X9_give p0 p1 p2 S = some (.error 1, S')) : MetL l yL_give cL_give 6 [(0, 12, 15, 13), (0, 12, 19, 21)] rm_L_give D ct ad ao [.ref (ad 0), .int p0, .int p1, .int p2, .ref ao] 1 S S' g g := by
  refine MetL.of RL (by decide) rfl (Nat.le_of_ble_eq_true rfl) ?_
  intro p e s m args below meth c C htab hK hP hO hX hN ls hl
  have hl : lv_has ls 6 [(0, .ref (ad 0)), (1, .int p0), (2, .int p1), (3, .int p2), (4, .ref ao)] := hl
  obtain ⟨hx, hb, hr, hml, hown, htL, hlocks⟩ := id C
  have hS : va_S (FL ad ao) s.heap s.heap [] := va_S.rf
  have hnO : ∀ (i : Nat) (q : Nat × va_E), (outW ct ao g)[i]? = some q → ¬ FC ad q.1 := by
    intro i q hq
    cases i with
    | zero =>
      simp at hq
      subst hq
      rintro ⟨i9, hi9, e9⟩
      exact hao i9 hi9 e9.symm
    | succ i => simp at hq
  refine lv_aload hx hb dL_give_0 (lv_at hl 4 rfl) ?_
  refine lv_iconst (v := 0) hx hb dL_give_2 (by decide) ?_
  refine lv_aload_n hx hb dL_give_3 rfl (lv_at hl 0 rfl) ?_
  refine lv_iload_n hx hb dL_give_4 rfl (lv_at hl 1 rfl) ?_
  refine lv_iload_n hx hb dL_give_5 rfl (lv_at hl 2 rfl) ?_
  refine lv_iload_n hx hb dL_give_6 rfl (lv_at hl 3 rfl) ?_
  have hXC : Xf (FC ad) s := hX.narrow (fun q h => Or.inl h)
  refine xc_VF (As := [.int p0, .int p1, .int p2]) (rest := [.int 0, .ref ao]) C hXC (x_X9_give l hl0 D ct ad (FC ad) hG p0 p1 p2 S _ _ hf) hl.1 cp_X9_give mw_3_0 (rc_X9 hK hP) hK hP hS va_S.rf (fun q h => Or.inl h) ⟨rfl, rfl⟩ ⟨Nat.le_of_ble_eq_true rfl, Nat.le_of_ble_eq_true rfl⟩ rfl rfl (Nat.le_of_ble_eq_true rfl) dL_give_7 ⟨Nat.le_of_ble_eq_true rfl, Nat.le_of_ble_eq_true rfl⟩ (fun q ce H locs hce hcv hcl hP hS hz hk => ?_)
  have hO := keptP hO hk hnO
  refine vx_catch (name := xn 1) (E := xn 1) hown [] (⟨0, 12, 15, 13⟩ : ExceptionTableEntry) [(⟨0, 12, 19, 21⟩ : ExceptionTableEntry)] (htab.trans rfl) (fun z hz => nomatch hz) rfl (by decide) (htL _ mw_2_138) (va_Nw.use rfl (hX.2.2.1 (xn 1) (List.mem_of_getElem? (i := 0) rfl))) hce hcv hcl ?_
  refine lv_astore (lv' := [(5, .ref q), (0, .ref (ad 0)), (1, .int p0), (2, .int p1), (3, .int p2), (4, .ref ao)]) hx hb dL_give_15 hl (by decide) rfl (fun ls hl => ?_)
  refine lv_iconst (v := 1) hx hb dL_give_17 (by decide) ?_
  exact W.iret hx hb hr (fun t ht _ => ⟨rfl, by rw [ht]; exact hP, by rw [ht]; exact hO, hS.F ht⟩) hS.2.2 dL_give_18 hlocks
set_option maxHeartbeats 4000000 in
set_option maxRecDepth 100000 in
theorem wx_L_give_2 (l : Launch) (hl0 : l.stackTraces = false) (D : va_G) (ct : Nat → ClassId) (ad : Nat → Nat) (ao : Nat) (hG : Gd ad 70 (FC ad)) (hao : ∀ i : Nat, i < 70 → ad i ≠ ao) (p0 : Int32) (p1 : Int32) (p2 : Int32) (S S' : St)  (g : Nat → Int64) (hf : f_X9_give p0 p1 p2 S = some (.error 2, S')) : MetL l yL_give cL_give 6 [(0, 12, 15, 13), (0, 12, 19, 21)] rm_L_give D ct ad ao [.ref (ad 0), .int p0, .int p1, .int p2, .ref ao] 2 S S' g g := by
  refine MetL.of RL (by decide) rfl (Nat.le_of_ble_eq_true rfl) ?_
  intro p e s m args below meth c C htab hK hP hO hX hN ls hl
  have hl : lv_has ls 6 [(0, .ref (ad 0)), (1, .int p0), (2, .int p1), (3, .int p2), (4, .ref ao)] := hl
  obtain ⟨hx, hb, hr, hml, hown, htL, hlocks⟩ := id C
  have hS : va_S (FL ad ao) s.heap s.heap [] := va_S.rf
  have hnO : ∀ (i : Nat) (q : Nat × va_E), (outW ct ao g)[i]? = some q → ¬ FC ad q.1 := by
    intro i q hq
    cases i with
    | zero =>
      simp at hq
      subst hq
      rintro ⟨i9, hi9, e9⟩
      exact hao i9 hi9 e9.symm
    | succ i => simp at hq
  refine lv_aload hx hb dL_give_0 (lv_at hl 4 rfl) ?_
  refine lv_iconst (v := 0) hx hb dL_give_2 (by decide) ?_
  refine lv_aload_n hx hb dL_give_3 rfl (lv_at hl 0 rfl) ?_
  refine lv_iload_n hx hb dL_give_4 rfl (lv_at hl 1 rfl) ?_
  refine lv_iload_n hx hb dL_give_5 rfl (lv_at hl 2 rfl) ?_
  refine lv_iload_n hx hb dL_give_6 rfl (lv_at hl 3 rfl) ?_
  have hXC : Xf (FC ad) s := hX.narrow (fun q h => Or.inl h)
  refine xc_VF (As := [.int p0, .int p1, .int p2]) (rest := [.int 0, .ref ao]) C hXC (x_X9_give l hl0 D ct ad (FC ad) hG p0 p1 p2 S _ _ hf) hl.1 cp_X9_give mw_3_0 (rc_X9 hK hP) hK hP hS va_S.rf (fun q h => Or.inl h) ⟨rfl, rfl⟩ ⟨Nat.le_of_ble_eq_true rfl, Nat.le_of_ble_eq_true rfl⟩ rfl rfl (Nat.le_of_ble_eq_true rfl) dL_give_7 ⟨Nat.le_of_ble_eq_true rfl, Nat.le_of_ble_eq_true rfl⟩ (fun q ce H locs hce hcv hcl hP hS hz hk => ?_)
  have hO := keptP hO hk hnO
  refine vx_catch (name := xn 2) (E := xn 2) hown [(⟨0, 12, 15, 13⟩ : ExceptionTableEntry)] (⟨0, 12, 19, 21⟩ : ExceptionTableEntry) [] (htab.trans rfl) (by
    intro z hz
    simp only [List.mem_cons, List.not_mem_nil, or_false] at hz
    rcases hz with rfl
    · exact Or.inr ⟨by decide, _, htL _ mw_2_138, hN 2 1 (by decide) (by decide) (by decide) (by decide) (by decide)⟩) rfl (by decide) (htL _ mw_2_239) (va_Nw.use rfl (hX.2.2.1 (xn 2) (List.mem_of_getElem? (i := 1) rfl))) hce hcv hcl ?_
  refine lv_astore (lv' := [(5, .ref q), (0, .ref (ad 0)), (1, .int p0), (2, .int p1), (3, .int p2), (4, .ref ao)]) hx hb dL_give_19 hl (by decide) rfl (fun ls hl => ?_)
  refine lv_iconst (v := 2) hx hb dL_give_21 (by decide) ?_
  exact W.iret hx hb hr (fun t ht _ => ⟨rfl, by rw [ht]; exact hP, by rw [ht]; exact hO, hS.F ht⟩) hS.2.2 dL_give_22 hlocks
def rm_L_add : Room := { frames := 10, cells := 1, slots := 6, locals := 232 }
set_option maxHeartbeats 4000000 in
set_option maxRecDepth 100000 in
theorem wk_L_add (l : Launch) (hl0 : l.stackTraces = false) (D : va_G) (ct : Nat → ClassId) (ad : Nat → Nat) (ao : Nat) (hG : Gd ad 70 (FC ad)) (hao : ∀ i : Nat, i < 70 → ad i ≠ ao) (p0 : Int32) (p1 : Int32) (S S' : St) (r : Int32) (g : Nat → Int64) (hf : f_X9_add p0 p1 S = some (.ok r, S')) : MetL l yL_add cL_add 5 [(0, 10, 13, 27), (0, 10, 17, 21)] rm_L_add D ct ad ao [.ref (ad 0), .int p0, .int p1, .ref ao] 0 S S' g (vp_updL g (Int32.toNatClampNeg 0) (Int32.toInt64 r)) := by
  refine MetL.of RL (by decide) rfl (Nat.le_of_ble_eq_true rfl) ?_
  intro p e s m args below meth c C htab hK hP hO hX hN ls hl
  have hl : lv_has ls 5 [(0, .ref (ad 0)), (1, .int p0), (2, .int p1), (3, .ref ao)] := hl
  obtain ⟨hx, hb, hr, hml, hown, htL, hlocks⟩ := id C
  have hS : va_S (FL ad ao) s.heap s.heap [] := va_S.rf
  have hnO : ∀ (i : Nat) (q : Nat × va_E), (outW ct ao g)[i]? = some q → ¬ FC ad q.1 := by
    intro i q hq
    cases i with
    | zero =>
      simp at hq
      subst hq
      rintro ⟨i9, hi9, e9⟩
      exact hao i9 hi9 e9.symm
    | succ i => simp at hq
  refine lv_aload_n hx hb dL_add_0 rfl (lv_at hl 3 rfl) ?_
  refine lv_iconst (v := 0) hx hb dL_add_1 (by decide) ?_
  refine lv_aload_n hx hb dL_add_2 rfl (lv_at hl 0 rfl) ?_
  refine lv_iload_n hx hb dL_add_3 rfl (lv_at hl 1 rfl) ?_
  refine lv_iload_n hx hb dL_add_4 rfl (lv_at hl 2 rfl) ?_
  refine hc_VF (As := [.int p0, .int p1]) (rest := [.int 0, .ref ao]) C hK (c_X9_add l D ct ad (FC ad) hG p0 p1 S r S' hf) hl.1 cp_X9_add mw_3_144 (rc_X9 hK hP) hP hS (fun q h => Or.inl h) ⟨rfl, rfl⟩ ⟨Nat.le_of_ble_eq_true rfl, Nat.le_of_ble_eq_true rfl⟩ rfl rfl (Nat.le_of_ble_eq_true rfl) dL_add_5 ⟨Nat.le_of_ble_eq_true rfl, Nat.le_of_ble_eq_true rfl⟩ (fun H locs hP hS hz hk => ?_)
  have hO := keptP hO hk hnO
  refine lv_i2l hx hb dL_add_8 rfl ?_
  refine lw_last C hK hP hO hG hao hS dL_add_9 (fun H locs hP hO hS => ?_)
  refine lv_goto (tgt := 21) hx hb dL_add_10 (by decide) ?_
  refine lv_iconst (v := 0) hx hb dL_add_21 (by decide) ?_
  refine W.widen (k := 1) (n := 6) (by decide) (by decide) ?_
  exact W.iret hx hb hr (fun t ht _ => ⟨rfl, by rw [ht]; exact hP, by rw [ht]; exact hO, hS.F ht⟩) hS.2.2 dL_add_22 hlocks
set_option maxHeartbeats 4000000 in
set_option maxRecDepth 100000 in
theorem wx_L_add_2 (l : Launch) (hl0 : l.stackTraces = false) (D : va_G) (ct : Nat → ClassId) (ad : Nat → Nat) (ao : Nat) (hG : Gd ad 70 (FC ad)) (hao : ∀ i : Nat, i < 70 → ad i ≠ ao) (p0 : Int32) (p1 : Int32) (S S' : St)  (g : Nat → Int64) (hf : f_X9_add p0 p1 S = some (.error 2, S')) : MetL l yL_add cL_add 5 [(0, 10, 13, 27), (0, 10, 17, 21)] rm_L_add D ct ad ao [.ref (ad 0), .int p0, .int p1, .ref ao] 2 S S' g g := by
  refine MetL.of RL (by decide) rfl (Nat.le_of_ble_eq_true rfl) ?_
  intro p e s m args below meth c C htab hK hP hO hX hN ls hl
  have hl : lv_has ls 5 [(0, .ref (ad 0)), (1, .int p0), (2, .int p1), (3, .ref ao)] := hl
  obtain ⟨hx, hb, hr, hml, hown, htL, hlocks⟩ := id C
  have hS : va_S (FL ad ao) s.heap s.heap [] := va_S.rf
  have hnO : ∀ (i : Nat) (q : Nat × va_E), (outW ct ao g)[i]? = some q → ¬ FC ad q.1 := by
    intro i q hq
    cases i with
    | zero =>
      simp at hq
      subst hq
      rintro ⟨i9, hi9, e9⟩
      exact hao i9 hi9 e9.symm
    | succ i => simp at hq
  refine lv_aload_n hx hb dL_add_0 rfl (lv_at hl 3 rfl) ?_
  refine lv_iconst (v := 0) hx hb dL_add_1 (by decide) ?_
  refine lv_aload_n hx hb dL_add_2 rfl (lv_at hl 0 rfl) ?_
  refine lv_iload_n hx hb dL_add_3 rfl (lv_at hl 1 rfl) ?_
  refine lv_iload_n hx hb dL_add_4 rfl (lv_at hl 2 rfl) ?_
  have hXC : Xf (FC ad) s := hX.narrow (fun q h => Or.inl h)
  refine xc_VF (As := [.int p0, .int p1]) (rest := [.int 0, .ref ao]) C hXC (x_X9_add l hl0 D ct ad (FC ad) hG p0 p1 S _ _ hf) hl.1 cp_X9_add mw_3_144 (rc_X9 hK hP) hK hP hS va_S.rf (fun q h => Or.inl h) ⟨rfl, rfl⟩ ⟨Nat.le_of_ble_eq_true rfl, Nat.le_of_ble_eq_true rfl⟩ rfl rfl (Nat.le_of_ble_eq_true rfl) dL_add_5 ⟨Nat.le_of_ble_eq_true rfl, Nat.le_of_ble_eq_true rfl⟩ (fun q ce H locs hce hcv hcl hP hS hz hk => ?_)
  have hO := keptP hO hk hnO
  refine vx_catch (name := xn 2) (E := xn 2) hown [(⟨0, 10, 13, 27⟩ : ExceptionTableEntry)] (⟨0, 10, 17, 21⟩ : ExceptionTableEntry) [] (htab.trans rfl) (by
    intro z hz
    simp only [List.mem_cons, List.not_mem_nil, or_false] at hz
    rcases hz with rfl
    · exact Or.inr ⟨by decide, _, htL _ mw_3_120, hN 2 3 (by decide) (by decide) (by decide) (by decide) (by decide)⟩) rfl (by decide) (htL _ mw_2_239) (va_Nw.use rfl (hX.2.2.1 (xn 2) (List.mem_of_getElem? (i := 1) rfl))) hce hcv hcl ?_
  refine lv_astore (lv' := [(4, .ref q), (0, .ref (ad 0)), (1, .int p0), (2, .int p1), (3, .ref ao)]) hx hb dL_add_17 hl (by decide) rfl (fun ls hl => ?_)
  refine lv_iconst (v := 2) hx hb dL_add_19 (by decide) ?_
  exact W.iret hx hb hr (fun t ht _ => ⟨rfl, by rw [ht]; exact hP, by rw [ht]; exact hO, hS.F ht⟩) hS.2.2 dL_add_20 hlocks
set_option maxHeartbeats 4000000 in
set_option maxRecDepth 100000 in
theorem wx_L_add_3 (l : Launch) (hl0 : l.stackTraces = false) (D : va_G) (ct : Nat → ClassId) (ad : Nat → Nat) (ao : Nat) (hG : Gd ad 70 (FC ad)) (hao : ∀ i : Nat, i < 70 → ad i ≠ ao) (p0 : Int32) (p1 : Int32) (S S' : St)  (g : Nat → Int64) (hf : f_X9_add p0 p1 S = some (.error 3, S')) : MetL l yL_add cL_add 5 [(0, 10, 13, 27), (0, 10, 17, 21)] rm_L_add D ct ad ao [.ref (ad 0), .int p0, .int p1, .ref ao] 1 S S' g g := by
  refine MetL.of RL (by decide) rfl (Nat.le_of_ble_eq_true rfl) ?_
  intro p e s m args below meth c C htab hK hP hO hX hN ls hl
  have hl : lv_has ls 5 [(0, .ref (ad 0)), (1, .int p0), (2, .int p1), (3, .ref ao)] := hl
  obtain ⟨hx, hb, hr, hml, hown, htL, hlocks⟩ := id C
  have hS : va_S (FL ad ao) s.heap s.heap [] := va_S.rf
  have hnO : ∀ (i : Nat) (q : Nat × va_E), (outW ct ao g)[i]? = some q → ¬ FC ad q.1 := by
    intro i q hq
    cases i with
    | zero =>
      simp at hq
      subst hq
      rintro ⟨i9, hi9, e9⟩
      exact hao i9 hi9 e9.symm
    | succ i => simp at hq
  refine lv_aload_n hx hb dL_add_0 rfl (lv_at hl 3 rfl) ?_
  refine lv_iconst (v := 0) hx hb dL_add_1 (by decide) ?_
  refine lv_aload_n hx hb dL_add_2 rfl (lv_at hl 0 rfl) ?_
  refine lv_iload_n hx hb dL_add_3 rfl (lv_at hl 1 rfl) ?_
  refine lv_iload_n hx hb dL_add_4 rfl (lv_at hl 2 rfl) ?_
  have hXC : Xf (FC ad) s := hX.narrow (fun q h => Or.inl h)
  refine xc_VF (As := [.int p0, .int p1]) (rest := [.int 0, .ref ao]) C hXC (x_X9_add l hl0 D ct ad (FC ad) hG p0 p1 S _ _ hf) hl.1 cp_X9_add mw_3_144 (rc_X9 hK hP) hK hP hS va_S.rf (fun q h => Or.inl h) ⟨rfl, rfl⟩ ⟨Nat.le_of_ble_eq_true rfl, Nat.le_of_ble_eq_true rfl⟩ rfl rfl (Nat.le_of_ble_eq_true rfl) dL_add_5 ⟨Nat.le_of_ble_eq_true rfl, Nat.le_of_ble_eq_true rfl⟩ (fun q ce H locs hce hcv hcl hP hS hz hk => ?_)
  have hO := keptP hO hk hnO
  refine vx_catch (name := xn 3) (E := xn 3) hown [] (⟨0, 10, 13, 27⟩ : ExceptionTableEntry) [(⟨0, 10, 17, 21⟩ : ExceptionTableEntry)] (htab.trans rfl) (fun z hz => nomatch hz) rfl (by decide) (htL _ mw_3_120) (va_Nw.use rfl (hX.2.2.1 (xn 3) (List.mem_of_getElem? (i := 2) rfl))) hce hcv hcl ?_
  refine lv_astore (lv' := [(4, .ref q), (0, .ref (ad 0)), (1, .int p0), (2, .int p1), (3, .ref ao)]) hx hb dL_add_13 hl (by decide) rfl (fun ls hl => ?_)
  refine lv_iconst (v := 1) hx hb dL_add_15 (by decide) ?_
  exact W.iret hx hb hr (fun t ht _ => ⟨rfl, by rw [ht]; exact hP, by rw [ht]; exact hO, hS.F ht⟩) hS.2.2 dL_add_16 hlocks
def rm_L_subtract : Room := { frames := 10, cells := 1, slots := 6, locals := 232 }
set_option maxHeartbeats 4000000 in
set_option maxRecDepth 100000 in
theorem wk_L_subtract (l : Launch) (hl0 : l.stackTraces = false) (D : va_G) (ct : Nat → ClassId) (ad : Nat → Nat) (ao : Nat) (hG : Gd ad 70 (FC ad)) (hao : ∀ i : Nat, i < 70 → ad i ≠ ao) (p0 : Int32) (p1 : Int32) (S S' : St) (r : Int32) (g : Nat → Int64) (hf : f_X9_subtract p0 p1 S = some (.ok r, S')) : MetL l yL_subtract cL_subtract 5 [(0, 10, 13, 27), (0, 10, 17, 21)] rm_L_subtract D ct ad ao [.ref (ad 0), .int p0, .int p1, .ref ao] 0 S S' g (vp_updL g (Int32.toNatClampNeg 0) (Int32.toInt64 r)) := by
  refine MetL.of RL (by decide) rfl (Nat.le_of_ble_eq_true rfl) ?_
  intro p e s m args below meth c C htab hK hP hO hX hN ls hl
  have hl : lv_has ls 5 [(0, .ref (ad 0)), (1, .int p0), (2, .int p1), (3, .ref ao)] := hl
  obtain ⟨hx, hb, hr, hml, hown, htL, hlocks⟩ := id C
  have hS : va_S (FL ad ao) s.heap s.heap [] := va_S.rf
  have hnO : ∀ (i : Nat) (q : Nat × va_E), (outW ct ao g)[i]? = some q → ¬ FC ad q.1 := by
    intro i q hq
    cases i with
    | zero =>
      simp at hq
      subst hq
      rintro ⟨i9, hi9, e9⟩
      exact hao i9 hi9 e9.symm
    | succ i => simp at hq
  refine lv_aload_n hx hb dL_subtract_0 rfl (lv_at hl 3 rfl) ?_
  refine lv_iconst (v := 0) hx hb dL_subtract_1 (by decide) ?_
  refine lv_aload_n hx hb dL_subtract_2 rfl (lv_at hl 0 rfl) ?_
  refine lv_iload_n hx hb dL_subtract_3 rfl (lv_at hl 1 rfl) ?_
  refine lv_iload_n hx hb dL_subtract_4 rfl (lv_at hl 2 rfl) ?_
  refine hc_VF (As := [.int p0, .int p1]) (rest := [.int 0, .ref ao]) C hK (c_X9_subtract l D ct ad (FC ad) hG p0 p1 S r S' hf) hl.1 cp_X9_subtract mw_3_172 (rc_X9 hK hP) hP hS (fun q h => Or.inl h) ⟨rfl, rfl⟩ ⟨Nat.le_of_ble_eq_true rfl, Nat.le_of_ble_eq_true rfl⟩ rfl rfl (Nat.le_of_ble_eq_true rfl) dL_subtract_5 ⟨Nat.le_of_ble_eq_true rfl, Nat.le_of_ble_eq_true rfl⟩ (fun H locs hP hS hz hk => ?_)
  have hO := keptP hO hk hnO
  refine lv_i2l hx hb dL_subtract_8 rfl ?_
  refine lw_last C hK hP hO hG hao hS dL_subtract_9 (fun H locs hP hO hS => ?_)
  refine lv_goto (tgt := 21) hx hb dL_subtract_10 (by decide) ?_
  refine lv_iconst (v := 0) hx hb dL_subtract_21 (by decide) ?_
  refine W.widen (k := 1) (n := 6) (by decide) (by decide) ?_
  exact W.iret hx hb hr (fun t ht _ => ⟨rfl, by rw [ht]; exact hP, by rw [ht]; exact hO, hS.F ht⟩) hS.2.2 dL_subtract_22 hlocks
set_option maxHeartbeats 4000000 in
set_option maxRecDepth 100000 in
theorem wx_L_subtract_2 (l : Launch) (hl0 : l.stackTraces = false) (D : va_G) (ct : Nat → ClassId) (ad : Nat → Nat) (ao : Nat) (hG : Gd ad 70 (FC ad)) (hao : ∀ i : Nat, i < 70 → ad i ≠ ao) (p0 : Int32) (p1 : Int32) (S S' : St)  (g : Nat → Int64) (hf : f_X9_subtract p0 p1 S = some (.error 2, S')) : MetL l yL_subtract cL_subtract 5 [(0, 10, 13, 27), (0, 10, 17, 21)] rm_L_subtract D ct ad ao [.ref (ad 0), .int p0, .int p1, .ref ao] 2 S S' g g := by
  refine MetL.of RL (by decide) rfl (Nat.le_of_ble_eq_true rfl) ?_
  intro p e s m args below meth c C htab hK hP hO hX hN ls hl
  have hl : lv_has ls 5 [(0, .ref (ad 0)), (1, .int p0), (2, .int p1), (3, .ref ao)] := hl
  obtain ⟨hx, hb, hr, hml, hown, htL, hlocks⟩ := id C
  have hS : va_S (FL ad ao) s.heap s.heap [] := va_S.rf
  have hnO : ∀ (i : Nat) (q : Nat × va_E), (outW ct ao g)[i]? = some q → ¬ FC ad q.1 := by
    intro i q hq
    cases i with
    | zero =>
      simp at hq
      subst hq
      rintro ⟨i9, hi9, e9⟩
      exact hao i9 hi9 e9.symm
    | succ i => simp at hq
  refine lv_aload_n hx hb dL_subtract_0 rfl (lv_at hl 3 rfl) ?_
  refine lv_iconst (v := 0) hx hb dL_subtract_1 (by decide) ?_
  refine lv_aload_n hx hb dL_subtract_2 rfl (lv_at hl 0 rfl) ?_
  refine lv_iload_n hx hb dL_subtract_3 rfl (lv_at hl 1 rfl) ?_
  refine lv_iload_n hx hb dL_subtract_4 rfl (lv_at hl 2 rfl) ?_
  have hXC : Xf (FC ad) s := hX.narrow (fun q h => Or.inl h)
  refine xc_VF (As := [.int p0, .int p1]) (rest := [.int 0, .ref ao]) C hXC (x_X9_subtract l hl0 D ct ad (FC ad) hG p0 p1 S _ _ hf) hl.1 cp_X9_subtract mw_3_172 (rc_X9 hK hP) hK hP hS va_S.rf (fun q h => Or.inl h) ⟨rfl, rfl⟩ ⟨Nat.le_of_ble_eq_true rfl, Nat.le_of_ble_eq_true rfl⟩ rfl rfl (Nat.le_of_ble_eq_true rfl) dL_subtract_5 ⟨Nat.le_of_ble_eq_true rfl, Nat.le_of_ble_eq_true rfl⟩ (fun q ce H locs hce hcv hcl hP hS hz hk => ?_)
  have hO := keptP hO hk hnO
  refine vx_catch (name := xn 2) (E := xn 2) hown [(⟨0, 10, 13, 27⟩ : ExceptionTableEntry)] (⟨0, 10, 17, 21⟩ : ExceptionTableEntry) [] (htab.trans rfl) (by
    intro z hz
    simp only [List.mem_cons, List.not_mem_nil, or_false] at hz
    rcases hz with rfl
    · exact Or.inr ⟨by decide, _, htL _ mw_3_120, hN 2 3 (by decide) (by decide) (by decide) (by decide) (by decide)⟩) rfl (by decide) (htL _ mw_2_239) (va_Nw.use rfl (hX.2.2.1 (xn 2) (List.mem_of_getElem? (i := 1) rfl))) hce hcv hcl ?_
  refine lv_astore (lv' := [(4, .ref q), (0, .ref (ad 0)), (1, .int p0), (2, .int p1), (3, .ref ao)]) hx hb dL_subtract_17 hl (by decide) rfl (fun ls hl => ?_)
  refine lv_iconst (v := 2) hx hb dL_subtract_19 (by decide) ?_
  exact W.iret hx hb hr (fun t ht _ => ⟨rfl, by rw [ht]; exact hP, by rw [ht]; exact hO, hS.F ht⟩) hS.2.2 dL_subtract_20 hlocks
set_option maxHeartbeats 4000000 in
set_option maxRecDepth 100000 in
theorem wx_L_subtract_3 (l : Launch) (hl0 : l.stackTraces = false) (D : va_G) (ct : Nat → ClassId) (ad : Nat → Nat) (ao : Nat) (hG : Gd ad 70 (FC ad)) (hao : ∀ i : Nat, i < 70 → ad i ≠ ao) (p0 : Int32) (p1 : Int32) (S S' : St)  (g : Nat → Int64) (hf : f_X9_subtract p0 p1 S = some (.error 3, S')) : MetL l yL_subtract cL_subtract 5 [(0, 10, 13, 27), (0, 10, 17, 21)] rm_L_subtract D ct ad ao [.ref (ad 0), .int p0, .int p1, .ref ao] 1 S S' g g := by
  refine MetL.of RL (by decide) rfl (Nat.le_of_ble_eq_true rfl) ?_
  intro p e s m args below meth c C htab hK hP hO hX hN ls hl
  have hl : lv_has ls 5 [(0, .ref (ad 0)), (1, .int p0), (2, .int p1), (3, .ref ao)] := hl
  obtain ⟨hx, hb, hr, hml, hown, htL, hlocks⟩ := id C
  have hS : va_S (FL ad ao) s.heap s.heap [] := va_S.rf
  have hnO : ∀ (i : Nat) (q : Nat × va_E), (outW ct ao g)[i]? = some q → ¬ FC ad q.1 := by
    intro i q hq
    cases i with
    | zero =>
      simp at hq
      subst hq
      rintro ⟨i9, hi9, e9⟩
      exact hao i9 hi9 e9.symm
    | succ i => simp at hq
  refine lv_aload_n hx hb dL_subtract_0 rfl (lv_at hl 3 rfl) ?_
  refine lv_iconst (v := 0) hx hb dL_subtract_1 (by decide) ?_
  refine lv_aload_n hx hb dL_subtract_2 rfl (lv_at hl 0 rfl) ?_
  refine lv_iload_n hx hb dL_subtract_3 rfl (lv_at hl 1 rfl) ?_
  refine lv_iload_n hx hb dL_subtract_4 rfl (lv_at hl 2 rfl) ?_
  have hXC : Xf (FC ad) s := hX.narrow (fun q h => Or.inl h)
  refine xc_VF (As := [.int p0, .int p1]) (rest := [.int 0, .ref ao]) C hXC (x_X9_subtract l hl0 D ct ad (FC ad) hG p0 p1 S _ _ hf) hl.1 cp_X9_subtract mw_3_172 (rc_X9 hK hP) hK hP hS va_S.rf (fun q h => Or.inl h) ⟨rfl, rfl⟩ ⟨Nat.le_of_ble_eq_true rfl, Nat.le_of_ble_eq_true rfl⟩ rfl rfl (Nat.le_of_ble_eq_true rfl) dL_subtract_5 ⟨Nat.le_of_ble_eq_true rfl, Nat.le_of_ble_eq_true rfl⟩ (fun q ce H locs hce hcv hcl hP hS hz hk => ?_)
  have hO := keptP hO hk hnO
  refine vx_catch (name := xn 3) (E := xn 3) hown [] (⟨0, 10, 13, 27⟩ : ExceptionTableEntry) [(⟨0, 10, 17, 21⟩ : ExceptionTableEntry)] (htab.trans rfl) (fun z hz => nomatch hz) rfl (by decide) (htL _ mw_3_120) (va_Nw.use rfl (hX.2.2.1 (xn 3) (List.mem_of_getElem? (i := 2) rfl))) hce hcv hcl ?_
  refine lv_astore (lv' := [(4, .ref q), (0, .ref (ad 0)), (1, .int p0), (2, .int p1), (3, .ref ao)]) hx hb dL_subtract_13 hl (by decide) rfl (fun ls hl => ?_)
  refine lv_iconst (v := 1) hx hb dL_subtract_15 (by decide) ?_
  exact W.iret hx hb hr (fun t ht _ => ⟨rfl, by rw [ht]; exact hP, by rw [ht]; exact hO, hS.F ht⟩) hS.2.2 dL_subtract_16 hlocks
def rm_L_multiply : Room := { frames := 10, cells := 1, slots := 6, locals := 232 }
set_option maxHeartbeats 4000000 in
set_option maxRecDepth 100000 in
theorem wk_L_multiply (l : Launch) (hl0 : l.stackTraces = false) (D : va_G) (ct : Nat → ClassId) (ad : Nat → Nat) (ao : Nat) (hG : Gd ad 70 (FC ad)) (hao : ∀ i : Nat, i < 70 → ad i ≠ ao) (p0 : Int32) (p1 : Int32) (S S' : St) (r : Int32) (g : Nat → Int64) (hf : f_X9_multiply p0 p1 S = some (.ok r, S')) : MetL l yL_multiply cL_multiply 5 [(0, 10, 13, 27), (0, 10, 17, 35), (0, 10, 21, 21)] rm_L_multiply D ct ad ao [.ref (ad 0), .int p0, .int p1, .ref ao] 0 S S' g (vp_updL g (Int32.toNatClampNeg 0) (Int32.toInt64 r)) := by
  refine MetL.of RL (by decide) rfl (Nat.le_of_ble_eq_true rfl) ?_
  intro p e s m args below meth c C htab hK hP hO hX hN ls hl
  have hl : lv_has ls 5 [(0, .ref (ad 0)), (1, .int p0), (2, .int p1), (3, .ref ao)] := hl
  obtain ⟨hx, hb, hr, hml, hown, htL, hlocks⟩ := id C
  have hS : va_S (FL ad ao) s.heap s.heap [] := va_S.rf
  have hnO : ∀ (i : Nat) (q : Nat × va_E), (outW ct ao g)[i]? = some q → ¬ FC ad q.1 := by
    intro i q hq
    cases i with
    | zero =>
      simp at hq
      subst hq
      rintro ⟨i9, hi9, e9⟩
      exact hao i9 hi9 e9.symm
    | succ i => simp at hq
  refine lv_aload_n hx hb dL_multiply_0 rfl (lv_at hl 3 rfl) ?_
  refine lv_iconst (v := 0) hx hb dL_multiply_1 (by decide) ?_
  refine lv_aload_n hx hb dL_multiply_2 rfl (lv_at hl 0 rfl) ?_
  refine lv_iload_n hx hb dL_multiply_3 rfl (lv_at hl 1 rfl) ?_
  refine lv_iload_n hx hb dL_multiply_4 rfl (lv_at hl 2 rfl) ?_
  refine hc_VF (As := [.int p0, .int p1]) (rest := [.int 0, .ref ao]) C hK (c_X9_multiply l D ct ad (FC ad) hG p0 p1 S r S' hf) hl.1 cp_X9_multiply mw_3_193 (rc_X9 hK hP) hP hS (fun q h => Or.inl h) ⟨rfl, rfl⟩ ⟨Nat.le_of_ble_eq_true rfl, Nat.le_of_ble_eq_true rfl⟩ rfl rfl (Nat.le_of_ble_eq_true rfl) dL_multiply_5 ⟨Nat.le_of_ble_eq_true rfl, Nat.le_of_ble_eq_true rfl⟩ (fun H locs hP hS hz hk => ?_)
  have hO := keptP hO hk hnO
  refine lv_i2l hx hb dL_multiply_8 rfl ?_
  refine lw_last C hK hP hO hG hao hS dL_multiply_9 (fun H locs hP hO hS => ?_)
  refine lv_goto (tgt := 25) hx hb dL_multiply_10 (by decide) ?_
  refine lv_iconst (v := 0) hx hb dL_multiply_25 (by decide) ?_
  refine W.widen (k := 1) (n := 6) (by decide) (by decide) ?_
  exact W.iret hx hb hr (fun t ht _ => ⟨rfl, by rw [ht]; exact hP, by rw [ht]; exact hO, hS.F ht⟩) hS.2.2 dL_multiply_26 hlocks
set_option maxHeartbeats 4000000 in
set_option maxRecDepth 100000 in
theorem wx_L_multiply_2 (l : Launch) (hl0 : l.stackTraces = false) (D : va_G) (ct : Nat → ClassId) (ad : Nat → Nat) (ao : Nat) (hG : Gd ad 70 (FC ad)) (hao : ∀ i : Nat, i < 70 → ad i ≠ ao) (p0 : Int32) (p1 : Int32) (S S' : St)  (g : Nat → Int64) (hf : f_X9_multiply p0 p1 S = some (.error 2, S')) : MetL l yL_multiply cL_multiply 5 [(0, 10, 13, 27), (0, 10, 17, 35), (0, 10, 21, 21)] rm_L_multiply D ct ad ao [.ref (ad 0), .int p0, .int p1, .ref ao] 3 S S' g g := by
  refine MetL.of RL (by decide) rfl (Nat.le_of_ble_eq_true rfl) ?_
  intro p e s m args below meth c C htab hK hP hO hX hN ls hl
  have hl : lv_has ls 5 [(0, .ref (ad 0)), (1, .int p0), (2, .int p1), (3, .ref ao)] := hl
  obtain ⟨hx, hb, hr, hml, hown, htL, hlocks⟩ := id C
  have hS : va_S (FL ad ao) s.heap s.heap [] := va_S.rf
  have hnO : ∀ (i : Nat) (q : Nat × va_E), (outW ct ao g)[i]? = some q → ¬ FC ad q.1 := by
    intro i q hq
    cases i with
    | zero =>
      simp at hq
      subst hq
      rintro ⟨i9, hi9, e9⟩
      exact hao i9 hi9 e9.symm
    | succ i => simp at hq
  refine lv_aload_n hx hb dL_multiply_0 rfl (lv_at hl 3 rfl) ?_
  refine lv_iconst (v := 0) hx hb dL_multiply_1 (by decide) ?_
  refine lv_aload_n hx hb dL_multiply_2 rfl (lv_at hl 0 rfl) ?_
  refine lv_iload_n hx hb dL_multiply_3 rfl (lv_at hl 1 rfl) ?_
  refine lv_iload_n hx hb dL_multiply_4 rfl (lv_at hl 2 rfl) ?_
  have hXC : Xf (FC ad) s := hX.narrow (fun q h => Or.inl h)
  refine xc_VF (As := [.int p0, .int p1]) (rest := [.int 0, .ref ao]) C hXC (x_X9_multiply l hl0 D ct ad (FC ad) hG p0 p1 S _ _ hf) hl.1 cp_X9_multiply mw_3_193 (rc_X9 hK hP) hK hP hS va_S.rf (fun q h => Or.inl h) ⟨rfl, rfl⟩ ⟨Nat.le_of_ble_eq_true rfl, Nat.le_of_ble_eq_true rfl⟩ rfl rfl (Nat.le_of_ble_eq_true rfl) dL_multiply_5 ⟨Nat.le_of_ble_eq_true rfl, Nat.le_of_ble_eq_true rfl⟩ (fun q ce H locs hce hcv hcl hP hS hz hk => ?_)
  have hO := keptP hO hk hnO
  refine vx_catch (name := xn 2) (E := xn 2) hown [(⟨0, 10, 13, 27⟩ : ExceptionTableEntry), (⟨0, 10, 17, 35⟩ : ExceptionTableEntry)] (⟨0, 10, 21, 21⟩ : ExceptionTableEntry) [] (htab.trans rfl) (by
    intro z hz
    simp only [List.mem_cons, List.not_mem_nil, or_false] at hz
    rcases hz with rfl | rfl
    · exact Or.inr ⟨by decide, _, htL _ mw_3_120, hN 2 3 (by decide) (by decide) (by decide) (by decide) (by decide)⟩
    · exact Or.inr ⟨by decide, _, htL _ mw_3_179, hN 2 4 (by decide) (by decide) (by decide) (by decide) (by decide)⟩) rfl (by decide) (htL _ mw_2_239) (va_Nw.use rfl (hX.2.2.1 (xn 2) (List.mem_of_getElem? (i := 1) rfl))) hce hcv hcl ?_
  refine lv_astore (lv' := [(4, .ref q), (0, .ref (ad 0)), (1, .int p0), (2, .int p1), (3, .ref ao)]) hx hb dL_multiply_21 hl (by decide) rfl (fun ls hl => ?_)
  refine lv_iconst (v := 3) hx hb dL_multiply_23 (by decide) ?_
  exact W.iret hx hb hr (fun t ht _ => ⟨rfl, by rw [ht]; exact hP, by rw [ht]; exact hO, hS.F ht⟩) hS.2.2 dL_multiply_24 hlocks
set_option maxHeartbeats 4000000 in
set_option maxRecDepth 100000 in
theorem wx_L_multiply_3 (l : Launch) (hl0 : l.stackTraces = false) (D : va_G) (ct : Nat → ClassId) (ad : Nat → Nat) (ao : Nat) (hG : Gd ad 70 (FC ad)) (hao : ∀ i : Nat, i < 70 → ad i ≠ ao) (p0 : Int32) (p1 : Int32) (S S' : St)  (g : Nat → Int64) (hf : f_X9_multiply p0 p1 S = some (.error 3, S')) : MetL l yL_multiply cL_multiply 5 [(0, 10, 13, 27), (0, 10, 17, 35), (0, 10, 21, 21)] rm_L_multiply D ct ad ao [.ref (ad 0), .int p0, .int p1, .ref ao] 1 S S' g g := by
  refine MetL.of RL (by decide) rfl (Nat.le_of_ble_eq_true rfl) ?_
  intro p e s m args below meth c C htab hK hP hO hX hN ls hl
  have hl : lv_has ls 5 [(0, .ref (ad 0)), (1, .int p0), (2, .int p1), (3, .ref ao)] := hl
  obtain ⟨hx, hb, hr, hml, hown, htL, hlocks⟩ := id C
  have hS : va_S (FL ad ao) s.heap s.heap [] := va_S.rf
  have hnO : ∀ (i : Nat) (q : Nat × va_E), (outW ct ao g)[i]? = some q → ¬ FC ad q.1 := by
    intro i q hq
    cases i with
    | zero =>
      simp at hq
      subst hq
      rintro ⟨i9, hi9, e9⟩
      exact hao i9 hi9 e9.symm
    | succ i => simp at hq
  refine lv_aload_n hx hb dL_multiply_0 rfl (lv_at hl 3 rfl) ?_
  refine lv_iconst (v := 0) hx hb dL_multiply_1 (by decide) ?_
  refine lv_aload_n hx hb dL_multiply_2 rfl (lv_at hl 0 rfl) ?_
  refine lv_iload_n hx hb dL_multiply_3 rfl (lv_at hl 1 rfl) ?_
  refine lv_iload_n hx hb dL_multiply_4 rfl (lv_at hl 2 rfl) ?_
  have hXC : Xf (FC ad) s := hX.narrow (fun q h => Or.inl h)
  refine xc_VF (As := [.int p0, .int p1]) (rest := [.int 0, .ref ao]) C hXC (x_X9_multiply l hl0 D ct ad (FC ad) hG p0 p1 S _ _ hf) hl.1 cp_X9_multiply mw_3_193 (rc_X9 hK hP) hK hP hS va_S.rf (fun q h => Or.inl h) ⟨rfl, rfl⟩ ⟨Nat.le_of_ble_eq_true rfl, Nat.le_of_ble_eq_true rfl⟩ rfl rfl (Nat.le_of_ble_eq_true rfl) dL_multiply_5 ⟨Nat.le_of_ble_eq_true rfl, Nat.le_of_ble_eq_true rfl⟩ (fun q ce H locs hce hcv hcl hP hS hz hk => ?_)
  have hO := keptP hO hk hnO
  refine vx_catch (name := xn 3) (E := xn 3) hown [] (⟨0, 10, 13, 27⟩ : ExceptionTableEntry) [(⟨0, 10, 17, 35⟩ : ExceptionTableEntry), (⟨0, 10, 21, 21⟩ : ExceptionTableEntry)] (htab.trans rfl) (fun z hz => nomatch hz) rfl (by decide) (htL _ mw_3_120) (va_Nw.use rfl (hX.2.2.1 (xn 3) (List.mem_of_getElem? (i := 2) rfl))) hce hcv hcl ?_
  refine lv_astore (lv' := [(4, .ref q), (0, .ref (ad 0)), (1, .int p0), (2, .int p1), (3, .ref ao)]) hx hb dL_multiply_13 hl (by decide) rfl (fun ls hl => ?_)
  refine lv_iconst (v := 1) hx hb dL_multiply_15 (by decide) ?_
  exact W.iret hx hb hr (fun t ht _ => ⟨rfl, by rw [ht]; exact hP, by rw [ht]; exact hO, hS.F ht⟩) hS.2.2 dL_multiply_16 hlocks
set_option maxHeartbeats 4000000 in
set_option maxRecDepth 100000 in
theorem wx_L_multiply_4 (l : Launch) (hl0 : l.stackTraces = false) (D : va_G) (ct : Nat → ClassId) (ad : Nat → Nat) (ao : Nat) (hG : Gd ad 70 (FC ad)) (hao : ∀ i : Nat, i < 70 → ad i ≠ ao) (p0 : Int32) (p1 : Int32) (S S' : St)  (g : Nat → Int64) (hf : f_X9_multiply p0 p1 S = some (.error 4, S')) : MetL l yL_multiply cL_multiply 5 [(0, 10, 13, 27), (0, 10, 17, 35), (0, 10, 21, 21)] rm_L_multiply D ct ad ao [.ref (ad 0), .int p0, .int p1, .ref ao] 2 S S' g g := by
  refine MetL.of RL (by decide) rfl (Nat.le_of_ble_eq_true rfl) ?_
  intro p e s m args below meth c C htab hK hP hO hX hN ls hl
  have hl : lv_has ls 5 [(0, .ref (ad 0)), (1, .int p0), (2, .int p1), (3, .ref ao)] := hl
  obtain ⟨hx, hb, hr, hml, hown, htL, hlocks⟩ := id C
  have hS : va_S (FL ad ao) s.heap s.heap [] := va_S.rf
  have hnO : ∀ (i : Nat) (q : Nat × va_E), (outW ct ao g)[i]? = some q → ¬ FC ad q.1 := by
    intro i q hq
    cases i with
    | zero =>
      simp at hq
      subst hq
      rintro ⟨i9, hi9, e9⟩
      exact hao i9 hi9 e9.symm
    | succ i => simp at hq
  refine lv_aload_n hx hb dL_multiply_0 rfl (lv_at hl 3 rfl) ?_
  refine lv_iconst (v := 0) hx hb dL_multiply_1 (by decide) ?_
  refine lv_aload_n hx hb dL_multiply_2 rfl (lv_at hl 0 rfl) ?_
  refine lv_iload_n hx hb dL_multiply_3 rfl (lv_at hl 1 rfl) ?_
  refine lv_iload_n hx hb dL_multiply_4 rfl (lv_at hl 2 rfl) ?_
  have hXC : Xf (FC ad) s := hX.narrow (fun q h => Or.inl h)
  refine xc_VF (As := [.int p0, .int p1]) (rest := [.int 0, .ref ao]) C hXC (x_X9_multiply l hl0 D ct ad (FC ad) hG p0 p1 S _ _ hf) hl.1 cp_X9_multiply mw_3_193 (rc_X9 hK hP) hK hP hS va_S.rf (fun q h => Or.inl h) ⟨rfl, rfl⟩ ⟨Nat.le_of_ble_eq_true rfl, Nat.le_of_ble_eq_true rfl⟩ rfl rfl (Nat.le_of_ble_eq_true rfl) dL_multiply_5 ⟨Nat.le_of_ble_eq_true rfl, Nat.le_of_ble_eq_true rfl⟩ (fun q ce H locs hce hcv hcl hP hS hz hk => ?_)
  have hO := keptP hO hk hnO
  refine vx_catch (name := xn 4) (E := xn 4) hown [(⟨0, 10, 13, 27⟩ : ExceptionTableEntry)] (⟨0, 10, 17, 35⟩ : ExceptionTableEntry) [(⟨0, 10, 21, 21⟩ : ExceptionTableEntry)] (htab.trans rfl) (by
    intro z hz
    simp only [List.mem_cons, List.not_mem_nil, or_false] at hz
    rcases hz with rfl
    · exact Or.inr ⟨by decide, _, htL _ mw_3_120, hN 4 3 (by decide) (by decide) (by decide) (by decide) (by decide)⟩) rfl (by decide) (htL _ mw_3_179) (va_Nw.use rfl (hX.2.2.1 (xn 4) (List.mem_of_getElem? (i := 3) rfl))) hce hcv hcl ?_
  refine lv_astore (lv' := [(4, .ref q), (0, .ref (ad 0)), (1, .int p0), (2, .int p1), (3, .ref ao)]) hx hb dL_multiply_17 hl (by decide) rfl (fun ls hl => ?_)
  refine lv_iconst (v := 2) hx hb dL_multiply_19 (by decide) ?_
  exact W.iret hx hb hr (fun t ht _ => ⟨rfl, by rw [ht]; exact hP, by rw [ht]; exact hO, hS.F ht⟩) hS.2.2 dL_multiply_20 hlocks
def rm_L_divide : Room := { frames := 10, cells := 1, slots := 6, locals := 233 }
set_option maxHeartbeats 4000000 in
set_option maxRecDepth 100000 in
theorem wk_L_divide (l : Launch) (hl0 : l.stackTraces = false) (D : va_G) (ct : Nat → ClassId) (ad : Nat → Nat) (ao : Nat) (hG : Gd ad 70 (FC ad)) (hao : ∀ i : Nat, i < 70 → ad i ≠ ao) (p0 : Int32) (p1 : Int32) (S S' : St) (r : Int32) (g : Nat → Int64) (hf : f_X9_divide p0 p1 S = some (.ok r, S')) : MetL l yL_divide cL_divide 5 [(0, 10, 13, 27), (0, 10, 17, 35), (0, 10, 21, 21)] rm_L_divide D ct ad ao [.ref (ad 0), .int p0, .int p1, .ref ao] 0 S S' g (vp_updL g (Int32.toNatClampNeg 0) (Int32.toInt64 r)) := by
  refine MetL.of RL (by decide) rfl (Nat.le_of_ble_eq_true rfl) ?_
  intro p e s m args below meth c C htab hK hP hO hX hN ls hl
  have hl : lv_has ls 5 [(0, .ref (ad 0)), (1, .int p0), (2, .int p1), (3, .ref ao)] := hl
  obtain ⟨hx, hb, hr, hml, hown, htL, hlocks⟩ := id C
  have hS : va_S (FL ad ao) s.heap s.heap [] := va_S.rf
  have hnO : ∀ (i : Nat) (q : Nat × va_E), (outW ct ao g)[i]? = some q → ¬ FC ad q.1 := by
    intro i q hq
    cases i with
    | zero =>
      simp at hq
      subst hq
      rintro ⟨i9, hi9, e9⟩
      exact hao i9 hi9 e9.symm
    | succ i => simp at hq
  refine lv_aload_n hx hb dL_divide_0 rfl (lv_at hl 3 rfl) ?_
  refine lv_iconst (v := 0) hx hb dL_divide_1 (by decide) ?_
  refine lv_aload_n hx hb dL_divide_2 rfl (lv_at hl 0 rfl) ?_
  refine lv_iload_n hx hb dL_divide_3 rfl (lv_at hl 1 rfl) ?_
  refine lv_iload_n hx hb dL_divide_4 rfl (lv_at hl 2 rfl) ?_
  refine hc_VF (As := [.int p0, .int p1]) (rest := [.int 0, .ref ao]) C hK (c_X9_divide l D ct ad (FC ad) hG p0 p1 S r S' hf) hl.1 cp_X9_divide mw_3_204 (rc_X9 hK hP) hP hS (fun q h => Or.inl h) ⟨rfl, rfl⟩ ⟨Nat.le_of_ble_eq_true rfl, Nat.le_of_ble_eq_true rfl⟩ rfl rfl (Nat.le_of_ble_eq_true rfl) dL_divide_5 ⟨Nat.le_of_ble_eq_true rfl, Nat.le_of_ble_eq_true rfl⟩ (fun H locs hP hS hz hk => ?_)
  have hO := keptP hO hk hnO
  refine lv_i2l hx hb dL_divide_8 rfl ?_
  refine lw_last C hK hP hO hG hao hS dL_divide_9 (fun H locs hP hO hS => ?_)
  refine lv_goto (tgt := 25) hx hb dL_divide_10 (by decide) ?_
  refine lv_iconst (v := 0) hx hb dL_divide_25 (by decide) ?_
  refine W.widen (k := 1) (n := 6) (by decide) (by decide) ?_
  exact W.iret hx hb hr (fun t ht _ => ⟨rfl, by rw [ht]; exact hP, by rw [ht]; exact hO, hS.F ht⟩) hS.2.2 dL_divide_26 hlocks
set_option maxHeartbeats 4000000 in
set_option maxRecDepth 100000 in
theorem wx_L_divide_2 (l : Launch) (hl0 : l.stackTraces = false) (D : va_G) (ct : Nat → ClassId) (ad : Nat → Nat) (ao : Nat) (hG : Gd ad 70 (FC ad)) (hao : ∀ i : Nat, i < 70 → ad i ≠ ao) (p0 : Int32) (p1 : Int32) (S S' : St)  (g : Nat → Int64) (hf : f_X9_divide p0 p1 S = some (.error 2, S')) : MetL l yL_divide cL_divide 5 [(0, 10, 13, 27), (0, 10, 17, 35), (0, 10, 21, 21)] rm_L_divide D ct ad ao [.ref (ad 0), .int p0, .int p1, .ref ao] 3 S S' g g := by
  refine MetL.of RL (by decide) rfl (Nat.le_of_ble_eq_true rfl) ?_
  intro p e s m args below meth c C htab hK hP hO hX hN ls hl
  have hl : lv_has ls 5 [(0, .ref (ad 0)), (1, .int p0), (2, .int p1), (3, .ref ao)] := hl
  obtain ⟨hx, hb, hr, hml, hown, htL, hlocks⟩ := id C
  have hS : va_S (FL ad ao) s.heap s.heap [] := va_S.rf
  have hnO : ∀ (i : Nat) (q : Nat × va_E), (outW ct ao g)[i]? = some q → ¬ FC ad q.1 := by
    intro i q hq
    cases i with
    | zero =>
      simp at hq
      subst hq
      rintro ⟨i9, hi9, e9⟩
      exact hao i9 hi9 e9.symm
    | succ i => simp at hq
  refine lv_aload_n hx hb dL_divide_0 rfl (lv_at hl 3 rfl) ?_
  refine lv_iconst (v := 0) hx hb dL_divide_1 (by decide) ?_
  refine lv_aload_n hx hb dL_divide_2 rfl (lv_at hl 0 rfl) ?_
  refine lv_iload_n hx hb dL_divide_3 rfl (lv_at hl 1 rfl) ?_
  refine lv_iload_n hx hb dL_divide_4 rfl (lv_at hl 2 rfl) ?_
  have hXC : Xf (FC ad) s := hX.narrow (fun q h => Or.inl h)
  refine xc_VF (As := [.int p0, .int p1]) (rest := [.int 0, .ref ao]) C hXC (x_X9_divide l hl0 D ct ad (FC ad) hG p0 p1 S _ _ hf) hl.1 cp_X9_divide mw_3_204 (rc_X9 hK hP) hK hP hS va_S.rf (fun q h => Or.inl h) ⟨rfl, rfl⟩ ⟨Nat.le_of_ble_eq_true rfl, Nat.le_of_ble_eq_true rfl⟩ rfl rfl (Nat.le_of_ble_eq_true rfl) dL_divide_5 ⟨Nat.le_of_ble_eq_true rfl, Nat.le_of_ble_eq_true rfl⟩ (fun q ce H locs hce hcv hcl hP hS hz hk => ?_)
  have hO := keptP hO hk hnO
  refine vx_catch (name := xn 2) (E := xn 2) hown [(⟨0, 10, 13, 27⟩ : ExceptionTableEntry), (⟨0, 10, 17, 35⟩ : ExceptionTableEntry)] (⟨0, 10, 21, 21⟩ : ExceptionTableEntry) [] (htab.trans rfl) (by
    intro z hz
    simp only [List.mem_cons, List.not_mem_nil, or_false] at hz
    rcases hz with rfl | rfl
    · exact Or.inr ⟨by decide, _, htL _ mw_3_120, hN 2 3 (by decide) (by decide) (by decide) (by decide) (by decide)⟩
    · exact Or.inr ⟨by decide, _, htL _ mw_3_179, hN 2 4 (by decide) (by decide) (by decide) (by decide) (by decide)⟩) rfl (by decide) (htL _ mw_2_239) (va_Nw.use rfl (hX.2.2.1 (xn 2) (List.mem_of_getElem? (i := 1) rfl))) hce hcv hcl ?_
  refine lv_astore (lv' := [(4, .ref q), (0, .ref (ad 0)), (1, .int p0), (2, .int p1), (3, .ref ao)]) hx hb dL_divide_21 hl (by decide) rfl (fun ls hl => ?_)
  refine lv_iconst (v := 3) hx hb dL_divide_23 (by decide) ?_
  exact W.iret hx hb hr (fun t ht _ => ⟨rfl, by rw [ht]; exact hP, by rw [ht]; exact hO, hS.F ht⟩) hS.2.2 dL_divide_24 hlocks
set_option maxHeartbeats 4000000 in
set_option maxRecDepth 100000 in
theorem wx_L_divide_3 (l : Launch) (hl0 : l.stackTraces = false) (D : va_G) (ct : Nat → ClassId) (ad : Nat → Nat) (ao : Nat) (hG : Gd ad 70 (FC ad)) (hao : ∀ i : Nat, i < 70 → ad i ≠ ao) (p0 : Int32) (p1 : Int32) (S S' : St)  (g : Nat → Int64) (hf : f_X9_divide p0 p1 S = some (.error 3, S')) : MetL l yL_divide cL_divide 5 [(0, 10, 13, 27), (0, 10, 17, 35), (0, 10, 21, 21)] rm_L_divide D ct ad ao [.ref (ad 0), .int p0, .int p1, .ref ao] 1 S S' g g := by
  refine MetL.of RL (by decide) rfl (Nat.le_of_ble_eq_true rfl) ?_
  intro p e s m args below meth c C htab hK hP hO hX hN ls hl
  have hl : lv_has ls 5 [(0, .ref (ad 0)), (1, .int p0), (2, .int p1), (3, .ref ao)] := hl
  obtain ⟨hx, hb, hr, hml, hown, htL, hlocks⟩ := id C
  have hS : va_S (FL ad ao) s.heap s.heap [] := va_S.rf
  have hnO : ∀ (i : Nat) (q : Nat × va_E), (outW ct ao g)[i]? = some q → ¬ FC ad q.1 := by
    intro i q hq
    cases i with
    | zero =>
      simp at hq
      subst hq
      rintro ⟨i9, hi9, e9⟩
      exact hao i9 hi9 e9.symm
    | succ i => simp at hq
  refine lv_aload_n hx hb dL_divide_0 rfl (lv_at hl 3 rfl) ?_
  refine lv_iconst (v := 0) hx hb dL_divide_1 (by decide) ?_
  refine lv_aload_n hx hb dL_divide_2 rfl (lv_at hl 0 rfl) ?_
  refine lv_iload_n hx hb dL_divide_3 rfl (lv_at hl 1 rfl) ?_
  refine lv_iload_n hx hb dL_divide_4 rfl (lv_at hl 2 rfl) ?_
  have hXC : Xf (FC ad) s := hX.narrow (fun q h => Or.inl h)
  refine xc_VF (As := [.int p0, .int p1]) (rest := [.int 0, .ref ao]) C hXC (x_X9_divide l hl0 D ct ad (FC ad) hG p0 p1 S _ _ hf) hl.1 cp_X9_divide mw_3_204 (rc_X9 hK hP) hK hP hS va_S.rf (fun q h => Or.inl h) ⟨rfl, rfl⟩ ⟨Nat.le_of_ble_eq_true rfl, Nat.le_of_ble_eq_true rfl⟩ rfl rfl (Nat.le_of_ble_eq_true rfl) dL_divide_5 ⟨Nat.le_of_ble_eq_true rfl, Nat.le_of_ble_eq_true rfl⟩ (fun q ce H locs hce hcv hcl hP hS hz hk => ?_)
  have hO := keptP hO hk hnO
  refine vx_catch (name := xn 3) (E := xn 3) hown [] (⟨0, 10, 13, 27⟩ : ExceptionTableEntry) [(⟨0, 10, 17, 35⟩ : ExceptionTableEntry), (⟨0, 10, 21, 21⟩ : ExceptionTableEntry)] (htab.trans rfl) (fun z hz => nomatch hz) rfl (by decide) (htL _ mw_3_120) (va_Nw.use rfl (hX.2.2.1 (xn 3) (List.mem_of_getElem? (i := 2) rfl))) hce hcv hcl ?_
  refine lv_astore (lv' := [(4, .ref q), (0, .ref (ad 0)), (1, .int p0), (2, .int p1), (3, .ref ao)]) hx hb dL_divide_13 hl (by decide) rfl (fun ls hl => ?_)
  refine lv_iconst (v := 1) hx hb dL_divide_15 (by decide) ?_
  exact W.iret hx hb hr (fun t ht _ => ⟨rfl, by rw [ht]; exact hP, by rw [ht]; exact hO, hS.F ht⟩) hS.2.2 dL_divide_16 hlocks
set_option maxHeartbeats 4000000 in
set_option maxRecDepth 100000 in
theorem wx_L_divide_4 (l : Launch) (hl0 : l.stackTraces = false) (D : va_G) (ct : Nat → ClassId) (ad : Nat → Nat) (ao : Nat) (hG : Gd ad 70 (FC ad)) (hao : ∀ i : Nat, i < 70 → ad i ≠ ao) (p0 : Int32) (p1 : Int32) (S S' : St)  (g : Nat → Int64) (hf : f_X9_divide p0 p1 S = some (.error 4, S')) : MetL l yL_divide cL_divide 5 [(0, 10, 13, 27), (0, 10, 17, 35), (0, 10, 21, 21)] rm_L_divide D ct ad ao [.ref (ad 0), .int p0, .int p1, .ref ao] 2 S S' g g := by
  refine MetL.of RL (by decide) rfl (Nat.le_of_ble_eq_true rfl) ?_
  intro p e s m args below meth c C htab hK hP hO hX hN ls hl
  have hl : lv_has ls 5 [(0, .ref (ad 0)), (1, .int p0), (2, .int p1), (3, .ref ao)] := hl
  obtain ⟨hx, hb, hr, hml, hown, htL, hlocks⟩ := id C
  have hS : va_S (FL ad ao) s.heap s.heap [] := va_S.rf
  have hnO : ∀ (i : Nat) (q : Nat × va_E), (outW ct ao g)[i]? = some q → ¬ FC ad q.1 := by
    intro i q hq
    cases i with
    | zero =>
      simp at hq
      subst hq
      rintro ⟨i9, hi9, e9⟩
      exact hao i9 hi9 e9.symm
    | succ i => simp at hq
  refine lv_aload_n hx hb dL_divide_0 rfl (lv_at hl 3 rfl) ?_
  refine lv_iconst (v := 0) hx hb dL_divide_1 (by decide) ?_
  refine lv_aload_n hx hb dL_divide_2 rfl (lv_at hl 0 rfl) ?_
  refine lv_iload_n hx hb dL_divide_3 rfl (lv_at hl 1 rfl) ?_
  refine lv_iload_n hx hb dL_divide_4 rfl (lv_at hl 2 rfl) ?_
  have hXC : Xf (FC ad) s := hX.narrow (fun q h => Or.inl h)
  refine xc_VF (As := [.int p0, .int p1]) (rest := [.int 0, .ref ao]) C hXC (x_X9_divide l hl0 D ct ad (FC ad) hG p0 p1 S _ _ hf) hl.1 cp_X9_divide mw_3_204 (rc_X9 hK hP) hK hP hS va_S.rf (fun q h => Or.inl h) ⟨rfl, rfl⟩ ⟨Nat.le_of_ble_eq_true rfl, Nat.le_of_ble_eq_true rfl⟩ rfl rfl (Nat.le_of_ble_eq_true rfl) dL_divide_5 ⟨Nat.le_of_ble_eq_true rfl, Nat.le_of_ble_eq_true rfl⟩ (fun q ce H locs hce hcv hcl hP hS hz hk => ?_)
  have hO := keptP hO hk hnO
  refine vx_catch (name := xn 4) (E := xn 4) hown [(⟨0, 10, 13, 27⟩ : ExceptionTableEntry)] (⟨0, 10, 17, 35⟩ : ExceptionTableEntry) [(⟨0, 10, 21, 21⟩ : ExceptionTableEntry)] (htab.trans rfl) (by
    intro z hz
    simp only [List.mem_cons, List.not_mem_nil, or_false] at hz
    rcases hz with rfl
    · exact Or.inr ⟨by decide, _, htL _ mw_3_120, hN 4 3 (by decide) (by decide) (by decide) (by decide) (by decide)⟩) rfl (by decide) (htL _ mw_3_179) (va_Nw.use rfl (hX.2.2.1 (xn 4) (List.mem_of_getElem? (i := 3) rfl))) hce hcv hcl ?_
  refine lv_astore (lv' := [(4, .ref q), (0, .ref (ad 0)), (1, .int p0), (2, .int p1), (3, .ref ao)]) hx hb dL_divide_17 hl (by decide) rfl (fun ls hl => ?_)
  refine lv_iconst (v := 2) hx hb dL_divide_19 (by decide) ?_
  exact W.iret hx hb hr (fun t ht _ => ⟨rfl, by rw [ht]; exact hP, by rw [ht]; exact hO, hS.F ht⟩) hS.2.2 dL_divide_20 hlocks
def rm_L_root : Room := { frames := 10, cells := 1, slots := 6, locals := 231 }
set_option maxHeartbeats 4000000 in
set_option maxRecDepth 100000 in
theorem wk_L_root (l : Launch) (hl0 : l.stackTraces = false) (D : va_G) (ct : Nat → ClassId) (ad : Nat → Nat) (ao : Nat) (hG : Gd ad 70 (FC ad)) (hao : ∀ i : Nat, i < 70 → ad i ≠ ao) (p0 : Int32) (S S' : St) (r : Int32) (g : Nat → Int64) (hf : f_X9_root p0 S = some (.ok r, S')) : MetL l yL_root cL_root 4 [(0, 9, 12, 27), (0, 9, 15, 15), (0, 9, 18, 21)] rm_L_root D ct ad ao [.ref (ad 0), .int p0, .ref ao] 0 S S' g (vp_updL g (Int32.toNatClampNeg 0) (Int32.toInt64 r)) := by
  refine MetL.of RL (by decide) rfl (Nat.le_of_ble_eq_true rfl) ?_
  intro p e s m args below meth c C htab hK hP hO hX hN ls hl
  have hl : lv_has ls 4 [(0, .ref (ad 0)), (1, .int p0), (2, .ref ao)] := hl
  obtain ⟨hx, hb, hr, hml, hown, htL, hlocks⟩ := id C
  have hS : va_S (FL ad ao) s.heap s.heap [] := va_S.rf
  have hnO : ∀ (i : Nat) (q : Nat × va_E), (outW ct ao g)[i]? = some q → ¬ FC ad q.1 := by
    intro i q hq
    cases i with
    | zero =>
      simp at hq
      subst hq
      rintro ⟨i9, hi9, e9⟩
      exact hao i9 hi9 e9.symm
    | succ i => simp at hq
  refine lv_aload_n hx hb dL_root_0 rfl (lv_at hl 2 rfl) ?_
  refine lv_iconst (v := 0) hx hb dL_root_1 (by decide) ?_
  refine lv_aload_n hx hb dL_root_2 rfl (lv_at hl 0 rfl) ?_
  refine lv_iload_n hx hb dL_root_3 rfl (lv_at hl 1 rfl) ?_
  refine hc_VF (As := [.int p0]) (rest := [.int 0, .ref ao]) C hK (c_X9_root l D ct ad (FC ad) hG p0 S r S' hf) hl.1 cp_X9_root mw_3_213 (rc_X9 hK hP) hP hS (fun q h => Or.inl h) ⟨rfl, rfl⟩ ⟨Nat.le_of_ble_eq_true rfl, Nat.le_of_ble_eq_true rfl⟩ rfl rfl (Nat.le_of_ble_eq_true rfl) dL_root_4 ⟨Nat.le_of_ble_eq_true rfl, Nat.le_of_ble_eq_true rfl⟩ (fun H locs hP hS hz hk => ?_)
  have hO := keptP hO hk hnO
  refine lv_i2l hx hb dL_root_7 rfl ?_
  refine lw_last C hK hP hO hG hao hS dL_root_8 (fun H locs hP hO hS => ?_)
  refine lv_goto (tgt := 21) hx hb dL_root_9 (by decide) ?_
  refine lv_iconst (v := 0) hx hb dL_root_21 (by decide) ?_
  refine W.widen (k := 1) (n := 6) (by decide) (by decide) ?_
  exact W.iret hx hb hr (fun t ht _ => ⟨rfl, by rw [ht]; exact hP, by rw [ht]; exact hO, hS.F ht⟩) hS.2.2 dL_root_22 hlocks
set_option maxHeartbeats 4000000 in
set_option maxRecDepth 100000 in
theorem wx_L_root_2 (l : Launch) (hl0 : l.stackTraces = false) (D : va_G) (ct : Nat → ClassId) (ad : Nat → Nat) (ao : Nat) (hG : Gd ad 70 (FC ad)) (hao : ∀ i : Nat, i < 70 → ad i ≠ ao) (p0 : Int32) (S S' : St)  (g : Nat → Int64) (hf : f_X9_root p0 S = some (.error 2, S')) : MetL l yL_root cL_root 4 [(0, 9, 12, 27), (0, 9, 15, 15), (0, 9, 18, 21)] rm_L_root D ct ad ao [.ref (ad 0), .int p0, .ref ao] 3 S S' g g := by
  refine MetL.of RL (by decide) rfl (Nat.le_of_ble_eq_true rfl) ?_
  intro p e s m args below meth c C htab hK hP hO hX hN ls hl
  have hl : lv_has ls 4 [(0, .ref (ad 0)), (1, .int p0), (2, .ref ao)] := hl
  obtain ⟨hx, hb, hr, hml, hown, htL, hlocks⟩ := id C
  have hS : va_S (FL ad ao) s.heap s.heap [] := va_S.rf
  have hnO : ∀ (i : Nat) (q : Nat × va_E), (outW ct ao g)[i]? = some q → ¬ FC ad q.1 := by
    intro i q hq
    cases i with
    | zero =>
      simp at hq
      subst hq
      rintro ⟨i9, hi9, e9⟩
      exact hao i9 hi9 e9.symm
    | succ i => simp at hq
  refine lv_aload_n hx hb dL_root_0 rfl (lv_at hl 2 rfl) ?_
  refine lv_iconst (v := 0) hx hb dL_root_1 (by decide) ?_
  refine lv_aload_n hx hb dL_root_2 rfl (lv_at hl 0 rfl) ?_
  refine lv_iload_n hx hb dL_root_3 rfl (lv_at hl 1 rfl) ?_
  have hXC : Xf (FC ad) s := hX.narrow (fun q h => Or.inl h)
  refine xc_VF (As := [.int p0]) (rest := [.int 0, .ref ao]) C hXC (x_X9_root l hl0 D ct ad (FC ad) hG p0 S _ _ hf) hl.1 cp_X9_root mw_3_213 (rc_X9 hK hP) hK hP hS va_S.rf (fun q h => Or.inl h) ⟨rfl, rfl⟩ ⟨Nat.le_of_ble_eq_true rfl, Nat.le_of_ble_eq_true rfl⟩ rfl rfl (Nat.le_of_ble_eq_true rfl) dL_root_4 ⟨Nat.le_of_ble_eq_true rfl, Nat.le_of_ble_eq_true rfl⟩ (fun q ce H locs hce hcv hcl hP hS hz hk => ?_)
  have hO := keptP hO hk hnO
  refine vx_catch (name := xn 2) (E := xn 2) hown [(⟨0, 9, 12, 27⟩ : ExceptionTableEntry), (⟨0, 9, 15, 15⟩ : ExceptionTableEntry)] (⟨0, 9, 18, 21⟩ : ExceptionTableEntry) [] (htab.trans rfl) (by
    intro z hz
    simp only [List.mem_cons, List.not_mem_nil, or_false] at hz
    rcases hz with rfl | rfl
    · exact Or.inr ⟨by decide, _, htL _ mw_3_120, hN 2 3 (by decide) (by decide) (by decide) (by decide) (by decide)⟩
    · exact Or.inr ⟨by decide, _, htL _ mw_2_139, hN 2 5 (by decide) (by decide) (by decide) (by decide) (by decide)⟩) rfl (by decide) (htL _ mw_2_239) (va_Nw.use rfl (hX.2.2.1 (xn 2) (List.mem_of_getElem? (i := 1) rfl))) hce hcv hcl ?_
  refine lv_astore_n (lv' := [(3, .ref q), (0, .ref (ad 0)), (1, .int p0), (2, .ref ao)]) hx hb dL_root_18 rfl hl (by decide) rfl (fun ls hl => ?_)
  refine lv_iconst (v := 3) hx hb dL_root_19 (by decide) ?_
  exact W.iret hx hb hr (fun t ht _ => ⟨rfl, by rw [ht]; exact hP, by rw [ht]; exact hO, hS.F ht⟩) hS.2.2 dL_root_20 hlocks
set_option maxHeartbeats 4000000 in
set_option maxRecDepth 100000 in
theorem wx_L_root_3 (l : Launch) (hl0 : l.stackTraces = false) (D : va_G) (ct : Nat → ClassId) (ad : Nat → Nat) (ao : Nat) (hG : Gd ad 70 (FC ad)) (hao : ∀ i : Nat, i < 70 → ad i ≠ ao) (p0 : Int32) (S S' : St)  (g : Nat → Int64) (hf : f_X9_root p0 S = some (.error 3, S')) : MetL l yL_root cL_root 4 [(0, 9, 12, 27), (0, 9, 15, 15), (0, 9, 18, 21)] rm_L_root D ct ad ao [.ref (ad 0), .int p0, .ref ao] 1 S S' g g := by
  refine MetL.of RL (by decide) rfl (Nat.le_of_ble_eq_true rfl) ?_
  intro p e s m args below meth c C htab hK hP hO hX hN ls hl
  have hl : lv_has ls 4 [(0, .ref (ad 0)), (1, .int p0), (2, .ref ao)] := hl
  obtain ⟨hx, hb, hr, hml, hown, htL, hlocks⟩ := id C
  have hS : va_S (FL ad ao) s.heap s.heap [] := va_S.rf
  have hnO : ∀ (i : Nat) (q : Nat × va_E), (outW ct ao g)[i]? = some q → ¬ FC ad q.1 := by
    intro i q hq
    cases i with
    | zero =>
      simp at hq
      subst hq
      rintro ⟨i9, hi9, e9⟩
      exact hao i9 hi9 e9.symm
    | succ i => simp at hq
  refine lv_aload_n hx hb dL_root_0 rfl (lv_at hl 2 rfl) ?_
  refine lv_iconst (v := 0) hx hb dL_root_1 (by decide) ?_
  refine lv_aload_n hx hb dL_root_2 rfl (lv_at hl 0 rfl) ?_
  refine lv_iload_n hx hb dL_root_3 rfl (lv_at hl 1 rfl) ?_
  have hXC : Xf (FC ad) s := hX.narrow (fun q h => Or.inl h)
  refine xc_VF (As := [.int p0]) (rest := [.int 0, .ref ao]) C hXC (x_X9_root l hl0 D ct ad (FC ad) hG p0 S _ _ hf) hl.1 cp_X9_root mw_3_213 (rc_X9 hK hP) hK hP hS va_S.rf (fun q h => Or.inl h) ⟨rfl, rfl⟩ ⟨Nat.le_of_ble_eq_true rfl, Nat.le_of_ble_eq_true rfl⟩ rfl rfl (Nat.le_of_ble_eq_true rfl) dL_root_4 ⟨Nat.le_of_ble_eq_true rfl, Nat.le_of_ble_eq_true rfl⟩ (fun q ce H locs hce hcv hcl hP hS hz hk => ?_)
  have hO := keptP hO hk hnO
  refine vx_catch (name := xn 3) (E := xn 3) hown [] (⟨0, 9, 12, 27⟩ : ExceptionTableEntry) [(⟨0, 9, 15, 15⟩ : ExceptionTableEntry), (⟨0, 9, 18, 21⟩ : ExceptionTableEntry)] (htab.trans rfl) (fun z hz => nomatch hz) rfl (by decide) (htL _ mw_3_120) (va_Nw.use rfl (hX.2.2.1 (xn 3) (List.mem_of_getElem? (i := 2) rfl))) hce hcv hcl ?_
  refine lv_astore_n (lv' := [(3, .ref q), (0, .ref (ad 0)), (1, .int p0), (2, .ref ao)]) hx hb dL_root_12 rfl hl (by decide) rfl (fun ls hl => ?_)
  refine lv_iconst (v := 1) hx hb dL_root_13 (by decide) ?_
  exact W.iret hx hb hr (fun t ht _ => ⟨rfl, by rw [ht]; exact hP, by rw [ht]; exact hO, hS.F ht⟩) hS.2.2 dL_root_14 hlocks
set_option maxHeartbeats 4000000 in
set_option maxRecDepth 100000 in
theorem wx_L_root_5 (l : Launch) (hl0 : l.stackTraces = false) (D : va_G) (ct : Nat → ClassId) (ad : Nat → Nat) (ao : Nat) (hG : Gd ad 70 (FC ad)) (hao : ∀ i : Nat, i < 70 → ad i ≠ ao) (p0 : Int32) (S S' : St)  (g : Nat → Int64) (hf : f_X9_root p0 S = some (.error 5, S')) : MetL l yL_root cL_root 4 [(0, 9, 12, 27), (0, 9, 15, 15), (0, 9, 18, 21)] rm_L_root D ct ad ao [.ref (ad 0), .int p0, .ref ao] 2 S S' g g := by
  refine MetL.of RL (by decide) rfl (Nat.le_of_ble_eq_true rfl) ?_
  intro p e s m args below meth c C htab hK hP hO hX hN ls hl
  have hl : lv_has ls 4 [(0, .ref (ad 0)), (1, .int p0), (2, .ref ao)] := hl
  obtain ⟨hx, hb, hr, hml, hown, htL, hlocks⟩ := id C
  have hS : va_S (FL ad ao) s.heap s.heap [] := va_S.rf
  have hnO : ∀ (i : Nat) (q : Nat × va_E), (outW ct ao g)[i]? = some q → ¬ FC ad q.1 := by
    intro i q hq
    cases i with
    | zero =>
      simp at hq
      subst hq
      rintro ⟨i9, hi9, e9⟩
      exact hao i9 hi9 e9.symm
    | succ i => simp at hq
  refine lv_aload_n hx hb dL_root_0 rfl (lv_at hl 2 rfl) ?_
  refine lv_iconst (v := 0) hx hb dL_root_1 (by decide) ?_
  refine lv_aload_n hx hb dL_root_2 rfl (lv_at hl 0 rfl) ?_
  refine lv_iload_n hx hb dL_root_3 rfl (lv_at hl 1 rfl) ?_
  have hXC : Xf (FC ad) s := hX.narrow (fun q h => Or.inl h)
  refine xc_VF (As := [.int p0]) (rest := [.int 0, .ref ao]) C hXC (x_X9_root l hl0 D ct ad (FC ad) hG p0 S _ _ hf) hl.1 cp_X9_root mw_3_213 (rc_X9 hK hP) hK hP hS va_S.rf (fun q h => Or.inl h) ⟨rfl, rfl⟩ ⟨Nat.le_of_ble_eq_true rfl, Nat.le_of_ble_eq_true rfl⟩ rfl rfl (Nat.le_of_ble_eq_true rfl) dL_root_4 ⟨Nat.le_of_ble_eq_true rfl, Nat.le_of_ble_eq_true rfl⟩ (fun q ce H locs hce hcv hcl hP hS hz hk => ?_)
  have hO := keptP hO hk hnO
  refine vx_catch (name := xn 5) (E := xn 5) hown [(⟨0, 9, 12, 27⟩ : ExceptionTableEntry)] (⟨0, 9, 15, 15⟩ : ExceptionTableEntry) [(⟨0, 9, 18, 21⟩ : ExceptionTableEntry)] (htab.trans rfl) (by
    intro z hz
    simp only [List.mem_cons, List.not_mem_nil, or_false] at hz
    rcases hz with rfl
    · exact Or.inr ⟨by decide, _, htL _ mw_3_120, hN 5 3 (by decide) (by decide) (by decide) (by decide) (by decide)⟩) rfl (by decide) (htL _ mw_2_139) (va_Nw.use rfl (hX.2.2.1 (xn 5) (List.mem_of_getElem? (i := 4) rfl))) hce hcv hcl ?_
  refine lv_astore_n (lv' := [(3, .ref q), (0, .ref (ad 0)), (1, .int p0), (2, .ref ao)]) hx hb dL_root_15 rfl hl (by decide) rfl (fun ls hl => ?_)
  refine lv_iconst (v := 2) hx hb dL_root_16 (by decide) ?_
  exact W.iret hx hb hr (fun t ht _ => ⟨rfl, by rw [ht]; exact hP, by rw [ht]; exact hO, hS.F ht⟩) hS.2.2 dL_root_17 hlocks
def rm_L_unity : Room := { frames := 10, cells := 1, slots := 6, locals := 232 }
set_option maxHeartbeats 4000000 in
set_option maxRecDepth 100000 in
theorem wk_L_unity (l : Launch) (hl0 : l.stackTraces = false) (D : va_G) (ct : Nat → ClassId) (ad : Nat → Nat) (ao : Nat) (hG : Gd ad 70 (FC ad)) (hao : ∀ i : Nat, i < 70 → ad i ≠ ao) (p0 : Int32) (S S' : St) (r : Int32) (g : Nat → Int64) (hf : f_X9_unity p0 S = some (.ok r, S')) : MetL l yL_unity cL_unity 4 [(0, 9, 12, 27), (0, 9, 15, 15), (0, 9, 18, 21)] rm_L_unity D ct ad ao [.ref (ad 0), .int p0, .ref ao] 0 S S' g (vp_updL g (Int32.toNatClampNeg 0) (Int32.toInt64 r)) := by
  refine MetL.of RL (by decide) rfl (Nat.le_of_ble_eq_true rfl) ?_
  intro p e s m args below meth c C htab hK hP hO hX hN ls hl
  have hl : lv_has ls 4 [(0, .ref (ad 0)), (1, .int p0), (2, .ref ao)] := hl
  obtain ⟨hx, hb, hr, hml, hown, htL, hlocks⟩ := id C
  have hS : va_S (FL ad ao) s.heap s.heap [] := va_S.rf
  have hnO : ∀ (i : Nat) (q : Nat × va_E), (outW ct ao g)[i]? = some q → ¬ FC ad q.1 := by
    intro i q hq
    cases i with
    | zero =>
      simp at hq
      subst hq
      rintro ⟨i9, hi9, e9⟩
      exact hao i9 hi9 e9.symm
    | succ i => simp at hq
  refine lv_aload_n hx hb dL_unity_0 rfl (lv_at hl 2 rfl) ?_
  refine lv_iconst (v := 0) hx hb dL_unity_1 (by decide) ?_
  refine lv_aload_n hx hb dL_unity_2 rfl (lv_at hl 0 rfl) ?_
  refine lv_iload_n hx hb dL_unity_3 rfl (lv_at hl 1 rfl) ?_
  refine hc_VF (As := [.int p0]) (rest := [.int 0, .ref ao]) C hK (c_X9_unity l D ct ad (FC ad) hG p0 S r S' hf) hl.1 cp_X9_unity mw_3_226 (rc_X9 hK hP) hP hS (fun q h => Or.inl h) ⟨rfl, rfl⟩ ⟨Nat.le_of_ble_eq_true rfl, Nat.le_of_ble_eq_true rfl⟩ rfl rfl (Nat.le_of_ble_eq_true rfl) dL_unity_4 ⟨Nat.le_of_ble_eq_true rfl, Nat.le_of_ble_eq_true rfl⟩ (fun H locs hP hS hz hk => ?_)
  have hO := keptP hO hk hnO
  refine lv_i2l hx hb dL_unity_7 rfl ?_
  refine lw_last C hK hP hO hG hao hS dL_unity_8 (fun H locs hP hO hS => ?_)
  refine lv_goto (tgt := 21) hx hb dL_unity_9 (by decide) ?_
  refine lv_iconst (v := 0) hx hb dL_unity_21 (by decide) ?_
  refine W.widen (k := 1) (n := 6) (by decide) (by decide) ?_
  exact W.iret hx hb hr (fun t ht _ => ⟨rfl, by rw [ht]; exact hP, by rw [ht]; exact hO, hS.F ht⟩) hS.2.2 dL_unity_22 hlocks
set_option maxHeartbeats 4000000 in
set_option maxRecDepth 100000 in
theorem wx_L_unity_2 (l : Launch) (hl0 : l.stackTraces = false) (D : va_G) (ct : Nat → ClassId) (ad : Nat → Nat) (ao : Nat) (hG : Gd ad 70 (FC ad)) (hao : ∀ i : Nat, i < 70 → ad i ≠ ao) (p0 : Int32) (S S' : St)  (g : Nat → Int64) (hf : f_X9_unity p0 S = some (.error 2, S')) : MetL l yL_unity cL_unity 4 [(0, 9, 12, 27), (0, 9, 15, 15), (0, 9, 18, 21)] rm_L_unity D ct ad ao [.ref (ad 0), .int p0, .ref ao] 3 S S' g g := by
  refine MetL.of RL (by decide) rfl (Nat.le_of_ble_eq_true rfl) ?_
  intro p e s m args below meth c C htab hK hP hO hX hN ls hl
  have hl : lv_has ls 4 [(0, .ref (ad 0)), (1, .int p0), (2, .ref ao)] := hl
  obtain ⟨hx, hb, hr, hml, hown, htL, hlocks⟩ := id C
  have hS : va_S (FL ad ao) s.heap s.heap [] := va_S.rf
  have hnO : ∀ (i : Nat) (q : Nat × va_E), (outW ct ao g)[i]? = some q → ¬ FC ad q.1 := by
    intro i q hq
    cases i with
    | zero =>
      simp at hq
      subst hq
      rintro ⟨i9, hi9, e9⟩
      exact hao i9 hi9 e9.symm
    | succ i => simp at hq
  refine lv_aload_n hx hb dL_unity_0 rfl (lv_at hl 2 rfl) ?_
  refine lv_iconst (v := 0) hx hb dL_unity_1 (by decide) ?_
  refine lv_aload_n hx hb dL_unity_2 rfl (lv_at hl 0 rfl) ?_
  refine lv_iload_n hx hb dL_unity_3 rfl (lv_at hl 1 rfl) ?_
  have hXC : Xf (FC ad) s := hX.narrow (fun q h => Or.inl h)
  refine xc_VF (As := [.int p0]) (rest := [.int 0, .ref ao]) C hXC (x_X9_unity l hl0 D ct ad (FC ad) hG p0 S _ _ hf) hl.1 cp_X9_unity mw_3_226 (rc_X9 hK hP) hK hP hS va_S.rf (fun q h => Or.inl h) ⟨rfl, rfl⟩ ⟨Nat.le_of_ble_eq_true rfl, Nat.le_of_ble_eq_true rfl⟩ rfl rfl (Nat.le_of_ble_eq_true rfl) dL_unity_4 ⟨Nat.le_of_ble_eq_true rfl, Nat.le_of_ble_eq_true rfl⟩ (fun q ce H locs hce hcv hcl hP hS hz hk => ?_)
  have hO := keptP hO hk hnO
  refine vx_catch (name := xn 2) (E := xn 2) hown [(⟨0, 9, 12, 27⟩ : ExceptionTableEntry), (⟨0, 9, 15, 15⟩ : ExceptionTableEntry)] (⟨0, 9, 18, 21⟩ : ExceptionTableEntry) [] (htab.trans rfl) (by
    intro z hz
    simp only [List.mem_cons, List.not_mem_nil, or_false] at hz
    rcases hz with rfl | rfl
    · exact Or.inr ⟨by decide, _, htL _ mw_3_120, hN 2 3 (by decide) (by decide) (by decide) (by decide) (by decide)⟩
    · exact Or.inr ⟨by decide, _, htL _ mw_2_139, hN 2 5 (by decide) (by decide) (by decide) (by decide) (by decide)⟩) rfl (by decide) (htL _ mw_2_239) (va_Nw.use rfl (hX.2.2.1 (xn 2) (List.mem_of_getElem? (i := 1) rfl))) hce hcv hcl ?_
  refine lv_astore_n (lv' := [(3, .ref q), (0, .ref (ad 0)), (1, .int p0), (2, .ref ao)]) hx hb dL_unity_18 rfl hl (by decide) rfl (fun ls hl => ?_)
  refine lv_iconst (v := 3) hx hb dL_unity_19 (by decide) ?_
  exact W.iret hx hb hr (fun t ht _ => ⟨rfl, by rw [ht]; exact hP, by rw [ht]; exact hO, hS.F ht⟩) hS.2.2 dL_unity_20 hlocks
set_option maxHeartbeats 4000000 in
set_option maxRecDepth 100000 in
theorem wx_L_unity_3 (l : Launch) (hl0 : l.stackTraces = false) (D : va_G) (ct : Nat → ClassId) (ad : Nat → Nat) (ao : Nat) (hG : Gd ad 70 (FC ad)) (hao : ∀ i : Nat, i < 70 → ad i ≠ ao) (p0 : Int32) (S S' : St)  (g : Nat → Int64) (hf : f_X9_unity p0 S = some (.error 3, S')) : MetL l yL_unity cL_unity 4 [(0, 9, 12, 27), (0, 9, 15, 15), (0, 9, 18, 21)] rm_L_unity D ct ad ao [.ref (ad 0), .int p0, .ref ao] 1 S S' g g := by
  refine MetL.of RL (by decide) rfl (Nat.le_of_ble_eq_true rfl) ?_
  intro p e s m args below meth c C htab hK hP hO hX hN ls hl
  have hl : lv_has ls 4 [(0, .ref (ad 0)), (1, .int p0), (2, .ref ao)] := hl
  obtain ⟨hx, hb, hr, hml, hown, htL, hlocks⟩ := id C
  have hS : va_S (FL ad ao) s.heap s.heap [] := va_S.rf
  have hnO : ∀ (i : Nat) (q : Nat × va_E), (outW ct ao g)[i]? = some q → ¬ FC ad q.1 := by
    intro i q hq
    cases i with
    | zero =>
      simp at hq
      subst hq
      rintro ⟨i9, hi9, e9⟩
      exact hao i9 hi9 e9.symm
    | succ i => simp at hq
  refine lv_aload_n hx hb dL_unity_0 rfl (lv_at hl 2 rfl) ?_
  refine lv_iconst (v := 0) hx hb dL_unity_1 (by decide) ?_
  refine lv_aload_n hx hb dL_unity_2 rfl (lv_at hl 0 rfl) ?_
  refine lv_iload_n hx hb dL_unity_3 rfl (lv_at hl 1 rfl) ?_
  have hXC : Xf (FC ad) s := hX.narrow (fun q h => Or.inl h)
  refine xc_VF (As := [.int p0]) (rest := [.int 0, .ref ao]) C hXC (x_X9_unity l hl0 D ct ad (FC ad) hG p0 S _ _ hf) hl.1 cp_X9_unity mw_3_226 (rc_X9 hK hP) hK hP hS va_S.rf (fun q h => Or.inl h) ⟨rfl, rfl⟩ ⟨Nat.le_of_ble_eq_true rfl, Nat.le_of_ble_eq_true rfl⟩ rfl rfl (Nat.le_of_ble_eq_true rfl) dL_unity_4 ⟨Nat.le_of_ble_eq_true rfl, Nat.le_of_ble_eq_true rfl⟩ (fun q ce H locs hce hcv hcl hP hS hz hk => ?_)
  have hO := keptP hO hk hnO
  refine vx_catch (name := xn 3) (E := xn 3) hown [] (⟨0, 9, 12, 27⟩ : ExceptionTableEntry) [(⟨0, 9, 15, 15⟩ : ExceptionTableEntry), (⟨0, 9, 18, 21⟩ : ExceptionTableEntry)] (htab.trans rfl) (fun z hz => nomatch hz) rfl (by decide) (htL _ mw_3_120) (va_Nw.use rfl (hX.2.2.1 (xn 3) (List.mem_of_getElem? (i := 2) rfl))) hce hcv hcl ?_
  refine lv_astore_n (lv' := [(3, .ref q), (0, .ref (ad 0)), (1, .int p0), (2, .ref ao)]) hx hb dL_unity_12 rfl hl (by decide) rfl (fun ls hl => ?_)
  refine lv_iconst (v := 1) hx hb dL_unity_13 (by decide) ?_
  exact W.iret hx hb hr (fun t ht _ => ⟨rfl, by rw [ht]; exact hP, by rw [ht]; exact hO, hS.F ht⟩) hS.2.2 dL_unity_14 hlocks
set_option maxHeartbeats 4000000 in
set_option maxRecDepth 100000 in
theorem wx_L_unity_5 (l : Launch) (hl0 : l.stackTraces = false) (D : va_G) (ct : Nat → ClassId) (ad : Nat → Nat) (ao : Nat) (hG : Gd ad 70 (FC ad)) (hao : ∀ i : Nat, i < 70 → ad i ≠ ao) (p0 : Int32) (S S' : St)  (g : Nat → Int64) (hf : f_X9_unity p0 S = some (.error 5, S')) : MetL l yL_unity cL_unity 4 [(0, 9, 12, 27), (0, 9, 15, 15), (0, 9, 18, 21)] rm_L_unity D ct ad ao [.ref (ad 0), .int p0, .ref ao] 2 S S' g g := by
  refine MetL.of RL (by decide) rfl (Nat.le_of_ble_eq_true rfl) ?_
  intro p e s m args below meth c C htab hK hP hO hX hN ls hl
  have hl : lv_has ls 4 [(0, .ref (ad 0)), (1, .int p0), (2, .ref ao)] := hl
  obtain ⟨hx, hb, hr, hml, hown, htL, hlocks⟩ := id C
  have hS : va_S (FL ad ao) s.heap s.heap [] := va_S.rf
  have hnO : ∀ (i : Nat) (q : Nat × va_E), (outW ct ao g)[i]? = some q → ¬ FC ad q.1 := by
    intro i q hq
    cases i with
    | zero =>
      simp at hq
      subst hq
      rintro ⟨i9, hi9, e9⟩
      exact hao i9 hi9 e9.symm
    | succ i => simp at hq
  refine lv_aload_n hx hb dL_unity_0 rfl (lv_at hl 2 rfl) ?_
  refine lv_iconst (v := 0) hx hb dL_unity_1 (by decide) ?_
  refine lv_aload_n hx hb dL_unity_2 rfl (lv_at hl 0 rfl) ?_
  refine lv_iload_n hx hb dL_unity_3 rfl (lv_at hl 1 rfl) ?_
  have hXC : Xf (FC ad) s := hX.narrow (fun q h => Or.inl h)
  refine xc_VF (As := [.int p0]) (rest := [.int 0, .ref ao]) C hXC (x_X9_unity l hl0 D ct ad (FC ad) hG p0 S _ _ hf) hl.1 cp_X9_unity mw_3_226 (rc_X9 hK hP) hK hP hS va_S.rf (fun q h => Or.inl h) ⟨rfl, rfl⟩ ⟨Nat.le_of_ble_eq_true rfl, Nat.le_of_ble_eq_true rfl⟩ rfl rfl (Nat.le_of_ble_eq_true rfl) dL_unity_4 ⟨Nat.le_of_ble_eq_true rfl, Nat.le_of_ble_eq_true rfl⟩ (fun q ce H locs hce hcv hcl hP hS hz hk => ?_)
  have hO := keptP hO hk hnO
  refine vx_catch (name := xn 5) (E := xn 5) hown [(⟨0, 9, 12, 27⟩ : ExceptionTableEntry)] (⟨0, 9, 15, 15⟩ : ExceptionTableEntry) [(⟨0, 9, 18, 21⟩ : ExceptionTableEntry)] (htab.trans rfl) (by
    intro z hz
    simp only [List.mem_cons, List.not_mem_nil, or_false] at hz
    rcases hz with rfl
    · exact Or.inr ⟨by decide, _, htL _ mw_3_120, hN 5 3 (by decide) (by decide) (by decide) (by decide) (by decide)⟩) rfl (by decide) (htL _ mw_2_139) (va_Nw.use rfl (hX.2.2.1 (xn 5) (List.mem_of_getElem? (i := 4) rfl))) hce hcv hcl ?_
  refine lv_astore_n (lv' := [(3, .ref q), (0, .ref (ad 0)), (1, .int p0), (2, .ref ao)]) hx hb dL_unity_15 rfl hl (by decide) rfl (fun ls hl => ?_)
  refine lv_iconst (v := 2) hx hb dL_unity_16 (by decide) ?_
  exact W.iret hx hb hr (fun t ht _ => ⟨rfl, by rw [ht]; exact hP, by rw [ht]; exact hO, hS.F ht⟩) hS.2.2 dL_unity_17 hlocks
def rm_L_precision : Room := { frames := 10, cells := 1, slots := 6, locals := 198 }
set_option maxHeartbeats 4000000 in
set_option maxRecDepth 100000 in
theorem wk_L_precision (l : Launch) (hl0 : l.stackTraces = false) (D : va_G) (ct : Nat → ClassId) (ad : Nat → Nat) (ao : Nat) (hG : Gd ad 70 (FC ad)) (hao : ∀ i : Nat, i < 70 → ad i ≠ ao) (p0 : Int32) (S : St) (r : Int32) (g : Nat → Int64) (hf : f_X9_precision p0 S = some (.ok r)) : MetL l yL_precision cL_precision 4 [(0, 9, 12, 27)] rm_L_precision D ct ad ao [.ref (ad 0), .int p0, .ref ao] 0 S S g (vp_updL g (Int32.toNatClampNeg 0) (Int32.toInt64 r)) := by
  refine MetL.of RL (by decide) rfl (Nat.le_of_ble_eq_true rfl) ?_
  intro p e s m args below meth c C htab hK hP hO hX hN ls hl
  have hl : lv_has ls 4 [(0, .ref (ad 0)), (1, .int p0), (2, .ref ao)] := hl
  obtain ⟨hx, hb, hr, hml, hown, htL, hlocks⟩ := id C
  have hS : va_S (FL ad ao) s.heap s.heap [] := va_S.rf
  have hnO : ∀ (i : Nat) (q : Nat × va_E), (outW ct ao g)[i]? = some q → ¬ FC ad q.1 := by
    intro i q hq
    cases i with
    | zero =>
      simp at hq
      subst hq
      rintro ⟨i9, hi9, e9⟩
      exact hao i9 hi9 e9.symm
    | succ i => simp at hq
  refine lv_aload_n hx hb dL_precision_0 rfl (lv_at hl 2 rfl) ?_
  refine lv_iconst (v := 0) hx hb dL_precision_1 (by decide) ?_
  refine lv_aload_n hx hb dL_precision_2 rfl (lv_at hl 0 rfl) ?_
  refine lv_iload_n hx hb dL_precision_3 rfl (lv_at hl 1 rfl) ?_
  refine hc_VF (As := [.int p0]) (rest := [.int 0, .ref ao]) C hK (c_X9_precision l D ct ad (FC ad) hG p0 S r  hf) hl.1 cp_X9_precision mw_3_234 (rc_X9 hK hP) hP hS (fun q h => Or.inl h) ⟨rfl, rfl⟩ ⟨Nat.le_of_ble_eq_true rfl, Nat.le_of_ble_eq_true rfl⟩ rfl rfl (Nat.le_of_ble_eq_true rfl) dL_precision_4 ⟨Nat.le_of_ble_eq_true rfl, Nat.le_of_ble_eq_true rfl⟩ (fun H locs hP hS hz hk => ?_)
  have hO := keptP hO hk hnO
  refine lv_i2l hx hb dL_precision_7 rfl ?_
  refine lw_last C hK hP hO hG hao hS dL_precision_8 (fun H locs hP hO hS => ?_)
  refine lv_goto (tgt := 15) hx hb dL_precision_9 (by decide) ?_
  refine lv_iconst (v := 0) hx hb dL_precision_15 (by decide) ?_
  refine W.widen (k := 1) (n := 6) (by decide) (by decide) ?_
  exact W.iret hx hb hr (fun t ht _ => ⟨rfl, by rw [ht]; exact hP, by rw [ht]; exact hO, hS.F ht⟩) hS.2.2 dL_precision_16 hlocks
set_option maxHeartbeats 4000000 in
set_option maxRecDepth 100000 in
theorem wx_L_precision_3 (l : Launch) (hl0 : l.stackTraces = false) (D : va_G) (ct : Nat → ClassId) (ad : Nat → Nat) (ao : Nat) (hG : Gd ad 70 (FC ad)) (hao : ∀ i : Nat, i < 70 → ad i ≠ ao) (p0 : Int32) (S : St)  (g : Nat → Int64) (hf : f_X9_precision p0 S = some (.error 3)) : MetL l yL_precision cL_precision 4 [(0, 9, 12, 27)] rm_L_precision D ct ad ao [.ref (ad 0), .int p0, .ref ao] 1 S S g g := by
  refine MetL.of RL (by decide) rfl (Nat.le_of_ble_eq_true rfl) ?_
  intro p e s m args below meth c C htab hK hP hO hX hN ls hl
  have hl : lv_has ls 4 [(0, .ref (ad 0)), (1, .int p0), (2, .ref ao)] := hl
  obtain ⟨hx, hb, hr, hml, hown, htL, hlocks⟩ := id C
  have hS : va_S (FL ad ao) s.heap s.heap [] := va_S.rf
  have hnO : ∀ (i : Nat) (q : Nat × va_E), (outW ct ao g)[i]? = some q → ¬ FC ad q.1 := by
    intro i q hq
    cases i with
    | zero =>
      simp at hq
      subst hq
      rintro ⟨i9, hi9, e9⟩
      exact hao i9 hi9 e9.symm
    | succ i => simp at hq
  refine lv_aload_n hx hb dL_precision_0 rfl (lv_at hl 2 rfl) ?_
  refine lv_iconst (v := 0) hx hb dL_precision_1 (by decide) ?_
  refine lv_aload_n hx hb dL_precision_2 rfl (lv_at hl 0 rfl) ?_
  refine lv_iload_n hx hb dL_precision_3 rfl (lv_at hl 1 rfl) ?_
  have hXC : Xf (FC ad) s := hX.narrow (fun q h => Or.inl h)
  refine xc_VF (As := [.int p0]) (rest := [.int 0, .ref ao]) C hXC (x_X9_precision l hl0 D ct ad (FC ad) hG p0 S _  hf) hl.1 cp_X9_precision mw_3_234 (rc_X9 hK hP) hK hP hS va_S.rf (fun q h => Or.inl h) ⟨rfl, rfl⟩ ⟨Nat.le_of_ble_eq_true rfl, Nat.le_of_ble_eq_true rfl⟩ rfl rfl (Nat.le_of_ble_eq_true rfl) dL_precision_4 ⟨Nat.le_of_ble_eq_true rfl, Nat.le_of_ble_eq_true rfl⟩ (fun q ce H locs hce hcv hcl hP hS hz hk => ?_)
  have hO := keptP hO hk hnO
  refine vx_catch (name := xn 3) (E := xn 3) hown [] (⟨0, 9, 12, 27⟩ : ExceptionTableEntry) [] (htab.trans rfl) (fun z hz => nomatch hz) rfl (by decide) (htL _ mw_3_120) (va_Nw.use rfl (hX.2.2.1 (xn 3) (List.mem_of_getElem? (i := 2) rfl))) hce hcv hcl ?_
  refine lv_astore_n (lv' := [(3, .ref q), (0, .ref (ad 0)), (1, .int p0), (2, .ref ao)]) hx hb dL_precision_12 rfl hl (by decide) rfl (fun ls hl => ?_)
  refine lv_iconst (v := 1) hx hb dL_precision_13 (by decide) ?_
  exact W.iret hx hb hr (fun t ht _ => ⟨rfl, by rw [ht]; exact hP, by rw [ht]; exact hO, hS.F ht⟩) hS.2.2 dL_precision_14 hlocks
def rm_L_valuation : Room := { frames := 10, cells := 1, slots := 6, locals := 198 }
set_option maxHeartbeats 4000000 in
set_option maxRecDepth 100000 in
theorem wk_L_valuation (l : Launch) (hl0 : l.stackTraces = false) (D : va_G) (ct : Nat → ClassId) (ad : Nat → Nat) (ao : Nat) (hG : Gd ad 70 (FC ad)) (hao : ∀ i : Nat, i < 70 → ad i ≠ ao) (p0 : Int32) (S : St) (r : Int32) (g : Nat → Int64) (hf : f_X9_valuation p0 S = some (.ok r)) : MetL l yL_valuation cL_valuation 4 [(0, 9, 12, 27)] rm_L_valuation D ct ad ao [.ref (ad 0), .int p0, .ref ao] 0 S S g (vp_updL g (Int32.toNatClampNeg 0) (Int32.toInt64 r)) := by
  refine MetL.of RL (by decide) rfl (Nat.le_of_ble_eq_true rfl) ?_
  intro p e s m args below meth c C htab hK hP hO hX hN ls hl
  have hl : lv_has ls 4 [(0, .ref (ad 0)), (1, .int p0), (2, .ref ao)] := hl
  obtain ⟨hx, hb, hr, hml, hown, htL, hlocks⟩ := id C
  have hS : va_S (FL ad ao) s.heap s.heap [] := va_S.rf
  have hnO : ∀ (i : Nat) (q : Nat × va_E), (outW ct ao g)[i]? = some q → ¬ FC ad q.1 := by
    intro i q hq
    cases i with
    | zero =>
      simp at hq
      subst hq
      rintro ⟨i9, hi9, e9⟩
      exact hao i9 hi9 e9.symm
    | succ i => simp at hq
  refine lv_aload_n hx hb dL_valuation_0 rfl (lv_at hl 2 rfl) ?_
  refine lv_iconst (v := 0) hx hb dL_valuation_1 (by decide) ?_
  refine lv_aload_n hx hb dL_valuation_2 rfl (lv_at hl 0 rfl) ?_
  refine lv_iload_n hx hb dL_valuation_3 rfl (lv_at hl 1 rfl) ?_
  refine hc_VF (As := [.int p0]) (rest := [.int 0, .ref ao]) C hK (c_X9_valuation l D ct ad (FC ad) hG p0 S r  hf) hl.1 cp_X9_valuation mw_4_1 (rc_X9 hK hP) hP hS (fun q h => Or.inl h) ⟨rfl, rfl⟩ ⟨Nat.le_of_ble_eq_true rfl, Nat.le_of_ble_eq_true rfl⟩ rfl rfl (Nat.le_of_ble_eq_true rfl) dL_valuation_4 ⟨Nat.le_of_ble_eq_true rfl, Nat.le_of_ble_eq_true rfl⟩ (fun H locs hP hS hz hk => ?_)
  have hO := keptP hO hk hnO
  refine lv_i2l hx hb dL_valuation_7 rfl ?_
  refine lw_last C hK hP hO hG hao hS dL_valuation_8 (fun H locs hP hO hS => ?_)
  refine lv_goto (tgt := 15) hx hb dL_valuation_9 (by decide) ?_
  refine lv_iconst (v := 0) hx hb dL_valuation_15 (by decide) ?_
  refine W.widen (k := 1) (n := 6) (by decide) (by decide) ?_
  exact W.iret hx hb hr (fun t ht _ => ⟨rfl, by rw [ht]; exact hP, by rw [ht]; exact hO, hS.F ht⟩) hS.2.2 dL_valuation_16 hlocks
set_option maxHeartbeats 4000000 in
set_option maxRecDepth 100000 in
theorem wx_L_valuation_3 (l : Launch) (hl0 : l.stackTraces = false) (D : va_G) (ct : Nat → ClassId) (ad : Nat → Nat) (ao : Nat) (hG : Gd ad 70 (FC ad)) (hao : ∀ i : Nat, i < 70 → ad i ≠ ao) (p0 : Int32) (S : St)  (g : Nat → Int64) (hf : f_X9_valuation p0 S = some (.error 3)) : MetL l yL_valuation cL_valuation 4 [(0, 9, 12, 27)] rm_L_valuation D ct ad ao [.ref (ad 0), .int p0, .ref ao] 1 S S g g := by
  refine MetL.of RL (by decide) rfl (Nat.le_of_ble_eq_true rfl) ?_
  intro p e s m args below meth c C htab hK hP hO hX hN ls hl
  have hl : lv_has ls 4 [(0, .ref (ad 0)), (1, .int p0), (2, .ref ao)] := hl
  obtain ⟨hx, hb, hr, hml, hown, htL, hlocks⟩ := id C
  have hS : va_S (FL ad ao) s.heap s.heap [] := va_S.rf
  have hnO : ∀ (i : Nat) (q : Nat × va_E), (outW ct ao g)[i]? = some q → ¬ FC ad q.1 := by
    intro i q hq
    cases i with
    | zero =>
      simp at hq
      subst hq
      rintro ⟨i9, hi9, e9⟩
      exact hao i9 hi9 e9.symm
    | succ i => simp at hq
  refine lv_aload_n hx hb dL_valuation_0 rfl (lv_at hl 2 rfl) ?_
  refine lv_iconst (v := 0) hx hb dL_valuation_1 (by decide) ?_
  refine lv_aload_n hx hb dL_valuation_2 rfl (lv_at hl 0 rfl) ?_
  refine lv_iload_n hx hb dL_valuation_3 rfl (lv_at hl 1 rfl) ?_
  have hXC : Xf (FC ad) s := hX.narrow (fun q h => Or.inl h)
  refine xc_VF (As := [.int p0]) (rest := [.int 0, .ref ao]) C hXC (x_X9_valuation l hl0 D ct ad (FC ad) hG p0 S _  hf) hl.1 cp_X9_valuation mw_4_1 (rc_X9 hK hP) hK hP hS va_S.rf (fun q h => Or.inl h) ⟨rfl, rfl⟩ ⟨Nat.le_of_ble_eq_true rfl, Nat.le_of_ble_eq_true rfl⟩ rfl rfl (Nat.le_of_ble_eq_true rfl) dL_valuation_4 ⟨Nat.le_of_ble_eq_true rfl, Nat.le_of_ble_eq_true rfl⟩ (fun q ce H locs hce hcv hcl hP hS hz hk => ?_)
  have hO := keptP hO hk hnO
  refine vx_catch (name := xn 3) (E := xn 3) hown [] (⟨0, 9, 12, 27⟩ : ExceptionTableEntry) [] (htab.trans rfl) (fun z hz => nomatch hz) rfl (by decide) (htL _ mw_3_120) (va_Nw.use rfl (hX.2.2.1 (xn 3) (List.mem_of_getElem? (i := 2) rfl))) hce hcv hcl ?_
  refine lv_astore_n (lv' := [(3, .ref q), (0, .ref (ad 0)), (1, .int p0), (2, .ref ao)]) hx hb dL_valuation_12 rfl hl (by decide) rfl (fun ls hl => ?_)
  refine lv_iconst (v := 1) hx hb dL_valuation_13 (by decide) ?_
  exact W.iret hx hb hr (fun t ht _ => ⟨rfl, by rw [ht]; exact hP, by rw [ht]; exact hO, hS.F ht⟩) hS.2.2 dL_valuation_14 hlocks
def rm_L_digit : Room := { frames := 10, cells := 1, slots := 6, locals := 200 }
set_option maxHeartbeats 4000000 in
set_option maxRecDepth 100000 in
theorem wk_L_digit (l : Launch) (hl0 : l.stackTraces = false) (D : va_G) (ct : Nat → ClassId) (ad : Nat → Nat) (ao : Nat) (hG : Gd ad 70 (FC ad)) (hao : ∀ i : Nat, i < 70 → ad i ≠ ao) (p0 : Int32) (p1 : Int32) (S : St) (r : Int32) (g : Nat → Int64) (hf : f_X9_digit p0 p1 S = some (.ok r)) : MetL l yL_digit cL_digit 5 [(0, 10, 13, 27), (0, 10, 17, 55)] rm_L_digit D ct ad ao [.ref (ad 0), .int p0, .int p1, .ref ao] 0 S S g (vp_updL g (Int32.toNatClampNeg 0) (Int32.toInt64 r)) := by
  refine MetL.of RL (by decide) rfl (Nat.le_of_ble_eq_true rfl) ?_
  intro p e s m args below meth c C htab hK hP hO hX hN ls hl
  have hl : lv_has ls 5 [(0, .ref (ad 0)), (1, .int p0), (2, .int p1), (3, .ref ao)] := hl
  obtain ⟨hx, hb, hr, hml, hown, htL, hlocks⟩ := id C
  have hS : va_S (FL ad ao) s.heap s.heap [] := va_S.rf
  have hnO : ∀ (i : Nat) (q : Nat × va_E), (outW ct ao g)[i]? = some q → ¬ FC ad q.1 := by
    intro i q hq
    cases i with
    | zero =>
      simp at hq
      subst hq
      rintro ⟨i9, hi9, e9⟩
      exact hao i9 hi9 e9.symm
    | succ i => simp at hq
  refine lv_aload_n hx hb dL_digit_0 rfl (lv_at hl 3 rfl) ?_
  refine lv_iconst (v := 0) hx hb dL_digit_1 (by decide) ?_
  refine lv_aload_n hx hb dL_digit_2 rfl (lv_at hl 0 rfl) ?_
  refine lv_iload_n hx hb dL_digit_3 rfl (lv_at hl 1 rfl) ?_
  refine lv_iload_n hx hb dL_digit_4 rfl (lv_at hl 2 rfl) ?_
  refine hc_VF (As := [.int p0, .int p1]) (rest := [.int 0, .ref ao]) C hK (c_X9_digit l D ct ad (FC ad) hG p0 p1 S r  hf) hl.1 cp_X9_digit mw_4_9 (rc_X9 hK hP) hP hS (fun q h => Or.inl h) ⟨rfl, rfl⟩ ⟨Nat.le_of_ble_eq_true rfl, Nat.le_of_ble_eq_true rfl⟩ rfl rfl (Nat.le_of_ble_eq_true rfl) dL_digit_5 ⟨Nat.le_of_ble_eq_true rfl, Nat.le_of_ble_eq_true rfl⟩ (fun H locs hP hS hz hk => ?_)
  have hO := keptP hO hk hnO
  refine lv_i2l hx hb dL_digit_8 rfl ?_
  refine lw_last C hK hP hO hG hao hS dL_digit_9 (fun H locs hP hO hS => ?_)
  refine lv_goto (tgt := 21) hx hb dL_digit_10 (by decide) ?_
  refine lv_iconst (v := 0) hx hb dL_digit_21 (by decide) ?_
  refine W.widen (k := 1) (n := 6) (by decide) (by decide) ?_
  exact W.iret hx hb hr (fun t ht _ => ⟨rfl, by rw [ht]; exact hP, by rw [ht]; exact hO, hS.F ht⟩) hS.2.2 dL_digit_22 hlocks
set_option maxHeartbeats 4000000 in
set_option maxRecDepth 100000 in
theorem wx_L_digit_3 (l : Launch) (hl0 : l.stackTraces = false) (D : va_G) (ct : Nat → ClassId) (ad : Nat → Nat) (ao : Nat) (hG : Gd ad 70 (FC ad)) (hao : ∀ i : Nat, i < 70 → ad i ≠ ao) (p0 : Int32) (p1 : Int32) (S : St)  (g : Nat → Int64) (hf : f_X9_digit p0 p1 S = some (.error 3)) : MetL l yL_digit cL_digit 5 [(0, 10, 13, 27), (0, 10, 17, 55)] rm_L_digit D ct ad ao [.ref (ad 0), .int p0, .int p1, .ref ao] 1 S S g g := by
  refine MetL.of RL (by decide) rfl (Nat.le_of_ble_eq_true rfl) ?_
  intro p e s m args below meth c C htab hK hP hO hX hN ls hl
  have hl : lv_has ls 5 [(0, .ref (ad 0)), (1, .int p0), (2, .int p1), (3, .ref ao)] := hl
  obtain ⟨hx, hb, hr, hml, hown, htL, hlocks⟩ := id C
  have hS : va_S (FL ad ao) s.heap s.heap [] := va_S.rf
  have hnO : ∀ (i : Nat) (q : Nat × va_E), (outW ct ao g)[i]? = some q → ¬ FC ad q.1 := by
    intro i q hq
    cases i with
    | zero =>
      simp at hq
      subst hq
      rintro ⟨i9, hi9, e9⟩
      exact hao i9 hi9 e9.symm
    | succ i => simp at hq
  refine lv_aload_n hx hb dL_digit_0 rfl (lv_at hl 3 rfl) ?_
  refine lv_iconst (v := 0) hx hb dL_digit_1 (by decide) ?_
  refine lv_aload_n hx hb dL_digit_2 rfl (lv_at hl 0 rfl) ?_
  refine lv_iload_n hx hb dL_digit_3 rfl (lv_at hl 1 rfl) ?_
  refine lv_iload_n hx hb dL_digit_4 rfl (lv_at hl 2 rfl) ?_
  have hXC : Xf (FC ad) s := hX.narrow (fun q h => Or.inl h)
  refine xc_VF (As := [.int p0, .int p1]) (rest := [.int 0, .ref ao]) C hXC (x_X9_digit l hl0 D ct ad (FC ad) hG p0 p1 S _  hf) hl.1 cp_X9_digit mw_4_9 (rc_X9 hK hP) hK hP hS va_S.rf (fun q h => Or.inl h) ⟨rfl, rfl⟩ ⟨Nat.le_of_ble_eq_true rfl, Nat.le_of_ble_eq_true rfl⟩ rfl rfl (Nat.le_of_ble_eq_true rfl) dL_digit_5 ⟨Nat.le_of_ble_eq_true rfl, Nat.le_of_ble_eq_true rfl⟩ (fun q ce H locs hce hcv hcl hP hS hz hk => ?_)
  have hO := keptP hO hk hnO
  refine vx_catch (name := xn 3) (E := xn 3) hown [] (⟨0, 10, 13, 27⟩ : ExceptionTableEntry) [(⟨0, 10, 17, 55⟩ : ExceptionTableEntry)] (htab.trans rfl) (fun z hz => nomatch hz) rfl (by decide) (htL _ mw_3_120) (va_Nw.use rfl (hX.2.2.1 (xn 3) (List.mem_of_getElem? (i := 2) rfl))) hce hcv hcl ?_
  refine lv_astore (lv' := [(4, .ref q), (0, .ref (ad 0)), (1, .int p0), (2, .int p1), (3, .ref ao)]) hx hb dL_digit_13 hl (by decide) rfl (fun ls hl => ?_)
  refine lv_iconst (v := 1) hx hb dL_digit_15 (by decide) ?_
  exact W.iret hx hb hr (fun t ht _ => ⟨rfl, by rw [ht]; exact hP, by rw [ht]; exact hO, hS.F ht⟩) hS.2.2 dL_digit_16 hlocks
set_option maxHeartbeats 4000000 in
set_option maxRecDepth 100000 in
theorem wx_L_digit_6 (l : Launch) (hl0 : l.stackTraces = false) (D : va_G) (ct : Nat → ClassId) (ad : Nat → Nat) (ao : Nat) (hG : Gd ad 70 (FC ad)) (hao : ∀ i : Nat, i < 70 → ad i ≠ ao) (p0 : Int32) (p1 : Int32) (S : St)  (g : Nat → Int64) (hf : f_X9_digit p0 p1 S = some (.error 6)) : MetL l yL_digit cL_digit 5 [(0, 10, 13, 27), (0, 10, 17, 55)] rm_L_digit D ct ad ao [.ref (ad 0), .int p0, .int p1, .ref ao] 2 S S g g := by
  refine MetL.of RL (by decide) rfl (Nat.le_of_ble_eq_true rfl) ?_
  intro p e s m args below meth c C htab hK hP hO hX hN ls hl
  have hl : lv_has ls 5 [(0, .ref (ad 0)), (1, .int p0), (2, .int p1), (3, .ref ao)] := hl
  obtain ⟨hx, hb, hr, hml, hown, htL, hlocks⟩ := id C
  have hS : va_S (FL ad ao) s.heap s.heap [] := va_S.rf
  have hnO : ∀ (i : Nat) (q : Nat × va_E), (outW ct ao g)[i]? = some q → ¬ FC ad q.1 := by
    intro i q hq
    cases i with
    | zero =>
      simp at hq
      subst hq
      rintro ⟨i9, hi9, e9⟩
      exact hao i9 hi9 e9.symm
    | succ i => simp at hq
  refine lv_aload_n hx hb dL_digit_0 rfl (lv_at hl 3 rfl) ?_
  refine lv_iconst (v := 0) hx hb dL_digit_1 (by decide) ?_
  refine lv_aload_n hx hb dL_digit_2 rfl (lv_at hl 0 rfl) ?_
  refine lv_iload_n hx hb dL_digit_3 rfl (lv_at hl 1 rfl) ?_
  refine lv_iload_n hx hb dL_digit_4 rfl (lv_at hl 2 rfl) ?_
  have hXC : Xf (FC ad) s := hX.narrow (fun q h => Or.inl h)
  refine xc_VF (As := [.int p0, .int p1]) (rest := [.int 0, .ref ao]) C hXC (x_X9_digit l hl0 D ct ad (FC ad) hG p0 p1 S _  hf) hl.1 cp_X9_digit mw_4_9 (rc_X9 hK hP) hK hP hS va_S.rf (fun q h => Or.inl h) ⟨rfl, rfl⟩ ⟨Nat.le_of_ble_eq_true rfl, Nat.le_of_ble_eq_true rfl⟩ rfl rfl (Nat.le_of_ble_eq_true rfl) dL_digit_5 ⟨Nat.le_of_ble_eq_true rfl, Nat.le_of_ble_eq_true rfl⟩ (fun q ce H locs hce hcv hcl hP hS hz hk => ?_)
  have hO := keptP hO hk hnO
  refine vx_catch (name := xn 6) (E := xn 6) hown [(⟨0, 10, 13, 27⟩ : ExceptionTableEntry)] (⟨0, 10, 17, 55⟩ : ExceptionTableEntry) [] (htab.trans rfl) (by
    intro z hz
    simp only [List.mem_cons, List.not_mem_nil, or_false] at hz
    rcases hz with rfl
    · exact Or.inr ⟨by decide, _, htL _ mw_3_120, hN 6 3 (by decide) (by decide) (by decide) (by decide) (by decide)⟩) rfl (by decide) (htL _ mw_4_8) (va_Nw.use rfl (hX.2.2.1 (xn 6) (List.mem_of_getElem? (i := 5) rfl))) hce hcv hcl ?_
  refine lv_astore (lv' := [(4, .ref q), (0, .ref (ad 0)), (1, .int p0), (2, .int p1), (3, .ref ao)]) hx hb dL_digit_17 hl (by decide) rfl (fun ls hl => ?_)
  refine lv_iconst (v := 2) hx hb dL_digit_19 (by decide) ?_
  exact W.iret hx hb hr (fun t ht _ => ⟨rfl, by rw [ht]; exact hP, by rw [ht]; exact hO, hS.F ht⟩) hS.2.2 dL_digit_20 hlocks
def rm_L_refine : Room := { frames := 10, cells := 1, slots := 6, locals := 231 }
set_option maxHeartbeats 4000000 in
set_option maxRecDepth 100000 in
theorem wk_L_refine (l : Launch) (hl0 : l.stackTraces = false) (D : va_G) (ct : Nat → ClassId) (ad : Nat → Nat) (ao : Nat) (hG : Gd ad 70 (FC ad)) (hao : ∀ i : Nat, i < 70 → ad i ≠ ao) (p0 : Int32) (p1 : Int32) (S S' : St) (r : Int32) (g : Nat → Int64) (hf : f_X9_refine p0 p1 S = some (.ok r, S')) : MetL l yL_refine cL_refine 5 [(0, 10, 13, 27), (0, 10, 17, 13), (0, 10, 21, 15)] rm_L_refine D ct ad ao [.ref (ad 0), .int p0, .int p1, .ref ao] 0 S S' g (vp_updL g (Int32.toNatClampNeg 0) (Int32.toInt64 r)) := by
  refine MetL.of RL (by decide) rfl (Nat.le_of_ble_eq_true rfl) ?_
  intro p e s m args below meth c C htab hK hP hO hX hN ls hl
  have hl : lv_has ls 5 [(0, .ref (ad 0)), (1, .int p0), (2, .int p1), (3, .ref ao)] := hl
  obtain ⟨hx, hb, hr, hml, hown, htL, hlocks⟩ := id C
  have hS : va_S (FL ad ao) s.heap s.heap [] := va_S.rf
  have hnO : ∀ (i : Nat) (q : Nat × va_E), (outW ct ao g)[i]? = some q → ¬ FC ad q.1 := by
    intro i q hq
    cases i with
    | zero =>
      simp at hq
      subst hq
      rintro ⟨i9, hi9, e9⟩
      exact hao i9 hi9 e9.symm
    | succ i => simp at hq
  refine lv_aload_n hx hb dL_refine_0 rfl (lv_at hl 3 rfl) ?_
  refine lv_iconst (v := 0) hx hb dL_refine_1 (by decide) ?_
  refine lv_aload_n hx hb dL_refine_2 rfl (lv_at hl 0 rfl) ?_
  refine lv_iload_n hx hb dL_refine_3 rfl (lv_at hl 1 rfl) ?_
  refine lv_iload_n hx hb dL_refine_4 rfl (lv_at hl 2 rfl) ?_
  refine hc_VF (As := [.int p0, .int p1]) (rest := [.int 0, .ref ao]) C hK (c_X9_refine l D ct ad (FC ad) hG p0 p1 S r S' hf) hl.1 cp_X9_refine mw_4_36 (rc_X9 hK hP) hP hS (fun q h => Or.inl h) ⟨rfl, rfl⟩ ⟨Nat.le_of_ble_eq_true rfl, Nat.le_of_ble_eq_true rfl⟩ rfl rfl (Nat.le_of_ble_eq_true rfl) dL_refine_5 ⟨Nat.le_of_ble_eq_true rfl, Nat.le_of_ble_eq_true rfl⟩ (fun H locs hP hS hz hk => ?_)
  have hO := keptP hO hk hnO
  refine lv_i2l hx hb dL_refine_8 rfl ?_
  refine lw_last C hK hP hO hG hao hS dL_refine_9 (fun H locs hP hO hS => ?_)
  refine lv_goto (tgt := 25) hx hb dL_refine_10 (by decide) ?_
  refine lv_iconst (v := 0) hx hb dL_refine_25 (by decide) ?_
  refine W.widen (k := 1) (n := 6) (by decide) (by decide) ?_
  exact W.iret hx hb hr (fun t ht _ => ⟨rfl, by rw [ht]; exact hP, by rw [ht]; exact hO, hS.F ht⟩) hS.2.2 dL_refine_26 hlocks
set_option maxHeartbeats 4000000 in
set_option maxRecDepth 100000 in
theorem wx_L_refine_1 (l : Launch) (hl0 : l.stackTraces = false) (D : va_G) (ct : Nat → ClassId) (ad : Nat → Nat) (ao : Nat) (hG : Gd ad 70 (FC ad)) (hao : ∀ i : Nat, i < 70 → ad i ≠ ao) (p0 : Int32) (p1 : Int32) (S S' : St)  (g : Nat → Int64) (hf : f_X9_refine p0 p1 S = some (.error 1, S')) : MetL l yL_refine cL_refine 5 [(0, 10, 13, 27), (0, 10, 17, 13), (0, 10, 21, 15)] rm_L_refine D ct ad ao [.ref (ad 0), .int p0, .int p1, .ref ao] 2 S S' g g := by
  refine MetL.of RL (by decide) rfl (Nat.le_of_ble_eq_true rfl) ?_
  intro p e s m args below meth c C htab hK hP hO hX hN ls hl
  have hl : lv_has ls 5 [(0, .ref (ad 0)), (1, .int p0), (2, .int p1), (3, .ref ao)] := hl
  obtain ⟨hx, hb, hr, hml, hown, htL, hlocks⟩ := id C
  have hS : va_S (FL ad ao) s.heap s.heap [] := va_S.rf
  have hnO : ∀ (i : Nat) (q : Nat × va_E), (outW ct ao g)[i]? = some q → ¬ FC ad q.1 := by
    intro i q hq
    cases i with
    | zero =>
      simp at hq
      subst hq
      rintro ⟨i9, hi9, e9⟩
      exact hao i9 hi9 e9.symm
    | succ i => simp at hq
  refine lv_aload_n hx hb dL_refine_0 rfl (lv_at hl 3 rfl) ?_
  refine lv_iconst (v := 0) hx hb dL_refine_1 (by decide) ?_
  refine lv_aload_n hx hb dL_refine_2 rfl (lv_at hl 0 rfl) ?_
  refine lv_iload_n hx hb dL_refine_3 rfl (lv_at hl 1 rfl) ?_
  refine lv_iload_n hx hb dL_refine_4 rfl (lv_at hl 2 rfl) ?_
  have hXC : Xf (FC ad) s := hX.narrow (fun q h => Or.inl h)
  refine xc_VF (As := [.int p0, .int p1]) (rest := [.int 0, .ref ao]) C hXC (x_X9_refine l hl0 D ct ad (FC ad) hG p0 p1 S _ _ hf) hl.1 cp_X9_refine mw_4_36 (rc_X9 hK hP) hK hP hS va_S.rf (fun q h => Or.inl h) ⟨rfl, rfl⟩ ⟨Nat.le_of_ble_eq_true rfl, Nat.le_of_ble_eq_true rfl⟩ rfl rfl (Nat.le_of_ble_eq_true rfl) dL_refine_5 ⟨Nat.le_of_ble_eq_true rfl, Nat.le_of_ble_eq_true rfl⟩ (fun q ce H locs hce hcv hcl hP hS hz hk => ?_)
  have hO := keptP hO hk hnO
  refine vx_catch (name := xn 1) (E := xn 1) hown [(⟨0, 10, 13, 27⟩ : ExceptionTableEntry)] (⟨0, 10, 17, 13⟩ : ExceptionTableEntry) [(⟨0, 10, 21, 15⟩ : ExceptionTableEntry)] (htab.trans rfl) (by
    intro z hz
    simp only [List.mem_cons, List.not_mem_nil, or_false] at hz
    rcases hz with rfl
    · exact Or.inr ⟨by decide, _, htL _ mw_3_120, hN 1 3 (by decide) (by decide) (by decide) (by decide) (by decide)⟩) rfl (by decide) (htL _ mw_2_138) (va_Nw.use rfl (hX.2.2.1 (xn 1) (List.mem_of_getElem? (i := 0) rfl))) hce hcv hcl ?_
  refine lv_astore (lv' := [(4, .ref q), (0, .ref (ad 0)), (1, .int p0), (2, .int p1), (3, .ref ao)]) hx hb dL_refine_17 hl (by decide) rfl (fun ls hl => ?_)
  refine lv_iconst (v := 2) hx hb dL_refine_19 (by decide) ?_
  exact W.iret hx hb hr (fun t ht _ => ⟨rfl, by rw [ht]; exact hP, by rw [ht]; exact hO, hS.F ht⟩) hS.2.2 dL_refine_20 hlocks
set_option maxHeartbeats 4000000 in
set_option maxRecDepth 100000 in
theorem wx_L_refine_3 (l : Launch) (hl0 : l.stackTraces = false) (D : va_G) (ct : Nat → ClassId) (ad : Nat → Nat) (ao : Nat) (hG : Gd ad 70 (FC ad)) (hao : ∀ i : Nat, i < 70 → ad i ≠ ao) (p0 : Int32) (p1 : Int32) (S S' : St)  (g : Nat → Int64) (hf : f_X9_refine p0 p1 S = some (.error 3, S')) : MetL l yL_refine cL_refine 5 [(0, 10, 13, 27), (0, 10, 17, 13), (0, 10, 21, 15)] rm_L_refine D ct ad ao [.ref (ad 0), .int p0, .int p1, .ref ao] 1 S S' g g := by
  refine MetL.of RL (by decide) rfl (Nat.le_of_ble_eq_true rfl) ?_
  intro p e s m args below meth c C htab hK hP hO hX hN ls hl
  have hl : lv_has ls 5 [(0, .ref (ad 0)), (1, .int p0), (2, .int p1), (3, .ref ao)] := hl
  obtain ⟨hx, hb, hr, hml, hown, htL, hlocks⟩ := id C
  have hS : va_S (FL ad ao) s.heap s.heap [] := va_S.rf
  have hnO : ∀ (i : Nat) (q : Nat × va_E), (outW ct ao g)[i]? = some q → ¬ FC ad q.1 := by
    intro i q hq
    cases i with
    | zero =>
      simp at hq
      subst hq
      rintro ⟨i9, hi9, e9⟩
      exact hao i9 hi9 e9.symm
    | succ i => simp at hq
  refine lv_aload_n hx hb dL_refine_0 rfl (lv_at hl 3 rfl) ?_
  refine lv_iconst (v := 0) hx hb dL_refine_1 (by decide) ?_
  refine lv_aload_n hx hb dL_refine_2 rfl (lv_at hl 0 rfl) ?_
  refine lv_iload_n hx hb dL_refine_3 rfl (lv_at hl 1 rfl) ?_
  refine lv_iload_n hx hb dL_refine_4 rfl (lv_at hl 2 rfl) ?_
  have hXC : Xf (FC ad) s := hX.narrow (fun q h => Or.inl h)
  refine xc_VF (As := [.int p0, .int p1]) (rest := [.int 0, .ref ao]) C hXC (x_X9_refine l hl0 D ct ad (FC ad) hG p0 p1 S _ _ hf) hl.1 cp_X9_refine mw_4_36 (rc_X9 hK hP) hK hP hS va_S.rf (fun q h => Or.inl h) ⟨rfl, rfl⟩ ⟨Nat.le_of_ble_eq_true rfl, Nat.le_of_ble_eq_true rfl⟩ rfl rfl (Nat.le_of_ble_eq_true rfl) dL_refine_5 ⟨Nat.le_of_ble_eq_true rfl, Nat.le_of_ble_eq_true rfl⟩ (fun q ce H locs hce hcv hcl hP hS hz hk => ?_)
  have hO := keptP hO hk hnO
  refine vx_catch (name := xn 3) (E := xn 3) hown [] (⟨0, 10, 13, 27⟩ : ExceptionTableEntry) [(⟨0, 10, 17, 13⟩ : ExceptionTableEntry), (⟨0, 10, 21, 15⟩ : ExceptionTableEntry)] (htab.trans rfl) (fun z hz => nomatch hz) rfl (by decide) (htL _ mw_3_120) (va_Nw.use rfl (hX.2.2.1 (xn 3) (List.mem_of_getElem? (i := 2) rfl))) hce hcv hcl ?_
  refine lv_astore (lv' := [(4, .ref q), (0, .ref (ad 0)), (1, .int p0), (2, .int p1), (3, .ref ao)]) hx hb dL_refine_13 hl (by decide) rfl (fun ls hl => ?_)
  refine lv_iconst (v := 1) hx hb dL_refine_15 (by decide) ?_
  exact W.iret hx hb hr (fun t ht _ => ⟨rfl, by rw [ht]; exact hP, by rw [ht]; exact hO, hS.F ht⟩) hS.2.2 dL_refine_16 hlocks
set_option maxHeartbeats 4000000 in
set_option maxRecDepth 100000 in
theorem wx_L_refine_5 (l : Launch) (hl0 : l.stackTraces = false) (D : va_G) (ct : Nat → ClassId) (ad : Nat → Nat) (ao : Nat) (hG : Gd ad 70 (FC ad)) (hao : ∀ i : Nat, i < 70 → ad i ≠ ao) (p0 : Int32) (p1 : Int32) (S S' : St)  (g : Nat → Int64) (hf : f_X9_refine p0 p1 S = some (.error 5, S')) : MetL l yL_refine cL_refine 5 [(0, 10, 13, 27), (0, 10, 17, 13), (0, 10, 21, 15)] rm_L_refine D ct ad ao [.ref (ad 0), .int p0, .int p1, .ref ao] 3 S S' g g := by
  refine MetL.of RL (by decide) rfl (Nat.le_of_ble_eq_true rfl) ?_
  intro p e s m args below meth c C htab hK hP hO hX hN ls hl
  have hl : lv_has ls 5 [(0, .ref (ad 0)), (1, .int p0), (2, .int p1), (3, .ref ao)] := hl
  obtain ⟨hx, hb, hr, hml, hown, htL, hlocks⟩ := id C
  have hS : va_S (FL ad ao) s.heap s.heap [] := va_S.rf
  have hnO : ∀ (i : Nat) (q : Nat × va_E), (outW ct ao g)[i]? = some q → ¬ FC ad q.1 := by
    intro i q hq
    cases i with
    | zero =>
      simp at hq
      subst hq
      rintro ⟨i9, hi9, e9⟩
      exact hao i9 hi9 e9.symm
    | succ i => simp at hq
  refine lv_aload_n hx hb dL_refine_0 rfl (lv_at hl 3 rfl) ?_
  refine lv_iconst (v := 0) hx hb dL_refine_1 (by decide) ?_
  refine lv_aload_n hx hb dL_refine_2 rfl (lv_at hl 0 rfl) ?_
  refine lv_iload_n hx hb dL_refine_3 rfl (lv_at hl 1 rfl) ?_
  refine lv_iload_n hx hb dL_refine_4 rfl (lv_at hl 2 rfl) ?_
  have hXC : Xf (FC ad) s := hX.narrow (fun q h => Or.inl h)
  refine xc_VF (As := [.int p0, .int p1]) (rest := [.int 0, .ref ao]) C hXC (x_X9_refine l hl0 D ct ad (FC ad) hG p0 p1 S _ _ hf) hl.1 cp_X9_refine mw_4_36 (rc_X9 hK hP) hK hP hS va_S.rf (fun q h => Or.inl h) ⟨rfl, rfl⟩ ⟨Nat.le_of_ble_eq_true rfl, Nat.le_of_ble_eq_true rfl⟩ rfl rfl (Nat.le_of_ble_eq_true rfl) dL_refine_5 ⟨Nat.le_of_ble_eq_true rfl, Nat.le_of_ble_eq_true rfl⟩ (fun q ce H locs hce hcv hcl hP hS hz hk => ?_)
  have hO := keptP hO hk hnO
  refine vx_catch (name := xn 5) (E := xn 5) hown [(⟨0, 10, 13, 27⟩ : ExceptionTableEntry), (⟨0, 10, 17, 13⟩ : ExceptionTableEntry)] (⟨0, 10, 21, 15⟩ : ExceptionTableEntry) [] (htab.trans rfl) (by
    intro z hz
    simp only [List.mem_cons, List.not_mem_nil, or_false] at hz
    rcases hz with rfl | rfl
    · exact Or.inr ⟨by decide, _, htL _ mw_3_120, hN 5 3 (by decide) (by decide) (by decide) (by decide) (by decide)⟩
    · exact Or.inr ⟨by decide, _, htL _ mw_2_138, hN 5 1 (by decide) (by decide) (by decide) (by decide) (by decide)⟩) rfl (by decide) (htL _ mw_2_139) (va_Nw.use rfl (hX.2.2.1 (xn 5) (List.mem_of_getElem? (i := 4) rfl))) hce hcv hcl ?_
  refine lv_astore (lv' := [(4, .ref q), (0, .ref (ad 0)), (1, .int p0), (2, .int p1), (3, .ref ao)]) hx hb dL_refine_21 hl (by decide) rfl (fun ls hl => ?_)
  refine lv_iconst (v := 3) hx hb dL_refine_23 (by decide) ?_
  exact W.iret hx hb hr (fun t ht _ => ⟨rfl, by rw [ht]; exact hP, by rw [ht]; exact hO, hS.F ht⟩) hS.2.2 dL_refine_24 hlocks
def rm_L_like : Room := { frames := 10, cells := 1, slots := 6, locals := 198 }
set_option maxHeartbeats 4000000 in
set_option maxRecDepth 100000 in
theorem wk_L_like (l : Launch) (hl0 : l.stackTraces = false) (D : va_G) (ct : Nat → ClassId) (ad : Nat → Nat) (ao : Nat) (hG : Gd ad 70 (FC ad)) (hao : ∀ i : Nat, i < 70 → ad i ≠ ao) (p0 : Int32) (S : St) (r : Int32) (g : Nat → Int64) (hf : f_X9_like p0 S = some (.ok r)) : MetL l yL_like cL_like 4 [(0, 9, 12, 27)] rm_L_like D ct ad ao [.ref (ad 0), .int p0, .ref ao] 0 S S g (vp_updL g (Int32.toNatClampNeg 0) (Int32.toInt64 r)) := by
  refine MetL.of RL (by decide) rfl (Nat.le_of_ble_eq_true rfl) ?_
  intro p e s m args below meth c C htab hK hP hO hX hN ls hl
  have hl : lv_has ls 4 [(0, .ref (ad 0)), (1, .int p0), (2, .ref ao)] := hl
  obtain ⟨hx, hb, hr, hml, hown, htL, hlocks⟩ := id C
  have hS : va_S (FL ad ao) s.heap s.heap [] := va_S.rf
  have hnO : ∀ (i : Nat) (q : Nat × va_E), (outW ct ao g)[i]? = some q → ¬ FC ad q.1 := by
    intro i q hq
    cases i with
    | zero =>
      simp at hq
      subst hq
      rintro ⟨i9, hi9, e9⟩
      exact hao i9 hi9 e9.symm
    | succ i => simp at hq
  refine lv_aload_n hx hb dL_like_0 rfl (lv_at hl 2 rfl) ?_
  refine lv_iconst (v := 0) hx hb dL_like_1 (by decide) ?_
  refine lv_aload_n hx hb dL_like_2 rfl (lv_at hl 0 rfl) ?_
  refine lv_iload_n hx hb dL_like_3 rfl (lv_at hl 1 rfl) ?_
  refine hc_VF (As := [.int p0]) (rest := [.int 0, .ref ao]) C hK (c_X9_like l D ct ad (FC ad) hG p0 S r  hf) hl.1 cp_X9_like mw_4_56 (rc_X9 hK hP) hP hS (fun q h => Or.inl h) ⟨rfl, rfl⟩ ⟨Nat.le_of_ble_eq_true rfl, Nat.le_of_ble_eq_true rfl⟩ rfl rfl (Nat.le_of_ble_eq_true rfl) dL_like_4 ⟨Nat.le_of_ble_eq_true rfl, Nat.le_of_ble_eq_true rfl⟩ (fun H locs hP hS hz hk => ?_)
  have hO := keptP hO hk hnO
  refine lv_i2l hx hb dL_like_7 rfl ?_
  refine lw_last C hK hP hO hG hao hS dL_like_8 (fun H locs hP hO hS => ?_)
  refine lv_goto (tgt := 15) hx hb dL_like_9 (by decide) ?_
  refine lv_iconst (v := 0) hx hb dL_like_15 (by decide) ?_
  refine W.widen (k := 1) (n := 6) (by decide) (by decide) ?_
  exact W.iret hx hb hr (fun t ht _ => ⟨rfl, by rw [ht]; exact hP, by rw [ht]; exact hO, hS.F ht⟩) hS.2.2 dL_like_16 hlocks
set_option maxHeartbeats 4000000 in
set_option maxRecDepth 100000 in
theorem wx_L_like_3 (l : Launch) (hl0 : l.stackTraces = false) (D : va_G) (ct : Nat → ClassId) (ad : Nat → Nat) (ao : Nat) (hG : Gd ad 70 (FC ad)) (hao : ∀ i : Nat, i < 70 → ad i ≠ ao) (p0 : Int32) (S : St)  (g : Nat → Int64) (hf : f_X9_like p0 S = some (.error 3)) : MetL l yL_like cL_like 4 [(0, 9, 12, 27)] rm_L_like D ct ad ao [.ref (ad 0), .int p0, .ref ao] 1 S S g g := by
  refine MetL.of RL (by decide) rfl (Nat.le_of_ble_eq_true rfl) ?_
  intro p e s m args below meth c C htab hK hP hO hX hN ls hl
  have hl : lv_has ls 4 [(0, .ref (ad 0)), (1, .int p0), (2, .ref ao)] := hl
  obtain ⟨hx, hb, hr, hml, hown, htL, hlocks⟩ := id C
  have hS : va_S (FL ad ao) s.heap s.heap [] := va_S.rf
  have hnO : ∀ (i : Nat) (q : Nat × va_E), (outW ct ao g)[i]? = some q → ¬ FC ad q.1 := by
    intro i q hq
    cases i with
    | zero =>
      simp at hq
      subst hq
      rintro ⟨i9, hi9, e9⟩
      exact hao i9 hi9 e9.symm
    | succ i => simp at hq
  refine lv_aload_n hx hb dL_like_0 rfl (lv_at hl 2 rfl) ?_
  refine lv_iconst (v := 0) hx hb dL_like_1 (by decide) ?_
  refine lv_aload_n hx hb dL_like_2 rfl (lv_at hl 0 rfl) ?_
  refine lv_iload_n hx hb dL_like_3 rfl (lv_at hl 1 rfl) ?_
  have hXC : Xf (FC ad) s := hX.narrow (fun q h => Or.inl h)
  refine xc_VF (As := [.int p0]) (rest := [.int 0, .ref ao]) C hXC (x_X9_like l hl0 D ct ad (FC ad) hG p0 S _  hf) hl.1 cp_X9_like mw_4_56 (rc_X9 hK hP) hK hP hS va_S.rf (fun q h => Or.inl h) ⟨rfl, rfl⟩ ⟨Nat.le_of_ble_eq_true rfl, Nat.le_of_ble_eq_true rfl⟩ rfl rfl (Nat.le_of_ble_eq_true rfl) dL_like_4 ⟨Nat.le_of_ble_eq_true rfl, Nat.le_of_ble_eq_true rfl⟩ (fun q ce H locs hce hcv hcl hP hS hz hk => ?_)
  have hO := keptP hO hk hnO
  refine vx_catch (name := xn 3) (E := xn 3) hown [] (⟨0, 9, 12, 27⟩ : ExceptionTableEntry) [] (htab.trans rfl) (fun z hz => nomatch hz) rfl (by decide) (htL _ mw_3_120) (va_Nw.use rfl (hX.2.2.1 (xn 3) (List.mem_of_getElem? (i := 2) rfl))) hce hcv hcl ?_
  refine lv_astore_n (lv' := [(3, .ref q), (0, .ref (ad 0)), (1, .int p0), (2, .ref ao)]) hx hb dL_like_12 rfl hl (by decide) rfl (fun ls hl => ?_)
  refine lv_iconst (v := 1) hx hb dL_like_13 (by decide) ?_
  exact W.iret hx hb hr (fun t ht _ => ⟨rfl, by rw [ht]; exact hP, by rw [ht]; exact hO, hS.F ht⟩) hS.2.2 dL_like_14 hlocks
def rm_L_agree : Room := { frames := 10, cells := 1, slots := 6, locals := 199 }
set_option maxHeartbeats 4000000 in
set_option maxRecDepth 100000 in
theorem wk_L_agree (l : Launch) (hl0 : l.stackTraces = false) (D : va_G) (ct : Nat → ClassId) (ad : Nat → Nat) (ao : Nat) (hG : Gd ad 70 (FC ad)) (hao : ∀ i : Nat, i < 70 → ad i ≠ ao) (p0 : Int32) (p1 : Int32) (S S' : St) (r : Int32) (g : Nat → Int64) (hf : f_X9_agree p0 p1 S = some (.ok r, S')) : MetL l yL_agree cL_agree 5 [(0, 17, 20, 27)] rm_L_agree D ct ad ao [.ref (ad 0), .int p0, .int p1, .ref ao] 0 S S' g (vp_updL g (Int32.toNatClampNeg 0) (if r = 0 then 0 else 1)) := by
  refine MetL.of RL (by decide) rfl (Nat.le_of_ble_eq_true rfl) ?_
  intro p e s m args below meth c C htab hK hP hO hX hN ls hl
  have hl : lv_has ls 5 [(0, .ref (ad 0)), (1, .int p0), (2, .int p1), (3, .ref ao)] := hl
  obtain ⟨hx, hb, hr, hml, hown, htL, hlocks⟩ := id C
  have hS : va_S (FL ad ao) s.heap s.heap [] := va_S.rf
  have hnO : ∀ (i : Nat) (q : Nat × va_E), (outW ct ao g)[i]? = some q → ¬ FC ad q.1 := by
    intro i q hq
    cases i with
    | zero =>
      simp at hq
      subst hq
      rintro ⟨i9, hi9, e9⟩
      exact hao i9 hi9 e9.symm
    | succ i => simp at hq
  refine lv_aload_n hx hb dL_agree_0 rfl (lv_at hl 3 rfl) ?_
  refine lv_iconst (v := 0) hx hb dL_agree_1 (by decide) ?_
  refine lv_aload_n hx hb dL_agree_2 rfl (lv_at hl 0 rfl) ?_
  refine lv_iload_n hx hb dL_agree_3 rfl (lv_at hl 1 rfl) ?_
  refine lv_iload_n hx hb dL_agree_4 rfl (lv_at hl 2 rfl) ?_
  refine hc_VF (As := [.int p0, .int p1]) (rest := [.int 0, .ref ao]) C hK (c_X9_agree l D ct ad (FC ad) hG p0 p1 S r S' hf) hl.1 cp_X9_agree mw_4_71 (rc_X9 hK hP) hP hS (fun q h => Or.inl h) ⟨rfl, rfl⟩ ⟨Nat.le_of_ble_eq_true rfl, Nat.le_of_ble_eq_true rfl⟩ rfl rfl (Nat.le_of_ble_eq_true rfl) dL_agree_5 ⟨Nat.le_of_ble_eq_true rfl, Nat.le_of_ble_eq_true rfl⟩ (fun H locs hP hS hz hk => ?_)
  have hO := keptP hO hk hnO
  refine lv_if_eq (tgt := 15) hx hb dL_agree_8 (by decide) (fun c1 => ?_) (fun c1 => ?_)
  · rw [if_pos c1]
    refine lv_lconst (v := 0) hx hb dL_agree_15 (by decide) ?_
    refine lw_last C hK hP hO hG hao hS dL_agree_16 (fun H locs hP hO hS => ?_)
    refine lv_goto (tgt := 24) hx hb dL_agree_17 (by decide) ?_
    refine lv_iconst (v := 0) hx hb dL_agree_24 (by decide) ?_
    refine W.widen (k := 1) (n := 6) (by decide) (by decide) ?_
    exact W.iret hx hb hr (fun t ht _ => ⟨rfl, by rw [ht]; exact hP, by rw [ht]; exact hO, hS.F ht⟩) hS.2.2 dL_agree_25 hlocks
  · rw [if_neg c1]
    refine lv_lconst (v := 1) hx hb dL_agree_11 (by decide) ?_
    refine lv_goto (tgt := 16) hx hb dL_agree_12 (by decide) ?_
    refine lw_last C hK hP hO hG hao hS dL_agree_16 (fun H locs hP hO hS => ?_)
    refine lv_goto (tgt := 24) hx hb dL_agree_17 (by decide) ?_
    refine lv_iconst (v := 0) hx hb dL_agree_24 (by decide) ?_
    refine W.widen (k := 1) (n := 6) (by decide) (by decide) ?_
    exact W.iret hx hb hr (fun t ht _ => ⟨rfl, by rw [ht]; exact hP, by rw [ht]; exact hO, hS.F ht⟩) hS.2.2 dL_agree_25 hlocks
set_option maxHeartbeats 4000000 in
set_option maxRecDepth 100000 in
theorem wx_L_agree_3 (l : Launch) (hl0 : l.stackTraces = false) (D : va_G) (ct : Nat → ClassId) (ad : Nat → Nat) (ao : Nat) (hG : Gd ad 70 (FC ad)) (hao : ∀ i : Nat, i < 70 → ad i ≠ ao) (p0 : Int32) (p1 : Int32) (S S' : St)  (g : Nat → Int64) (hf : f_X9_agree p0 p1 S = some (.error 3, S')) : MetL l yL_agree cL_agree 5 [(0, 17, 20, 27)] rm_L_agree D ct ad ao [.ref (ad 0), .int p0, .int p1, .ref ao] 1 S S' g g := by
  refine MetL.of RL (by decide) rfl (Nat.le_of_ble_eq_true rfl) ?_
  intro p e s m args below meth c C htab hK hP hO hX hN ls hl
  have hl : lv_has ls 5 [(0, .ref (ad 0)), (1, .int p0), (2, .int p1), (3, .ref ao)] := hl
  obtain ⟨hx, hb, hr, hml, hown, htL, hlocks⟩ := id C
  have hS : va_S (FL ad ao) s.heap s.heap [] := va_S.rf
  have hnO : ∀ (i : Nat) (q : Nat × va_E), (outW ct ao g)[i]? = some q → ¬ FC ad q.1 := by
    intro i q hq
    cases i with
    | zero =>
      simp at hq
      subst hq
      rintro ⟨i9, hi9, e9⟩
      exact hao i9 hi9 e9.symm
    | succ i => simp at hq
  refine lv_aload_n hx hb dL_agree_0 rfl (lv_at hl 3 rfl) ?_
  refine lv_iconst (v := 0) hx hb dL_agree_1 (by decide) ?_
  refine lv_aload_n hx hb dL_agree_2 rfl (lv_at hl 0 rfl) ?_
  refine lv_iload_n hx hb dL_agree_3 rfl (lv_at hl 1 rfl) ?_
  refine lv_iload_n hx hb dL_agree_4 rfl (lv_at hl 2 rfl) ?_
  have hXC : Xf (FC ad) s := hX.narrow (fun q h => Or.inl h)
  refine xc_VF (As := [.int p0, .int p1]) (rest := [.int 0, .ref ao]) C hXC (x_X9_agree l hl0 D ct ad (FC ad) hG p0 p1 S _ _ hf) hl.1 cp_X9_agree mw_4_71 (rc_X9 hK hP) hK hP hS va_S.rf (fun q h => Or.inl h) ⟨rfl, rfl⟩ ⟨Nat.le_of_ble_eq_true rfl, Nat.le_of_ble_eq_true rfl⟩ rfl rfl (Nat.le_of_ble_eq_true rfl) dL_agree_5 ⟨Nat.le_of_ble_eq_true rfl, Nat.le_of_ble_eq_true rfl⟩ (fun q ce H locs hce hcv hcl hP hS hz hk => ?_)
  have hO := keptP hO hk hnO
  refine vx_catch (name := xn 3) (E := xn 3) hown [] (⟨0, 17, 20, 27⟩ : ExceptionTableEntry) [] (htab.trans rfl) (fun z hz => nomatch hz) rfl (by decide) (htL _ mw_3_120) (va_Nw.use rfl (hX.2.2.1 (xn 3) (List.mem_of_getElem? (i := 2) rfl))) hce hcv hcl ?_
  refine lv_astore (lv' := [(4, .ref q), (0, .ref (ad 0)), (1, .int p0), (2, .int p1), (3, .ref ao)]) hx hb dL_agree_20 hl (by decide) rfl (fun ls hl => ?_)
  refine lv_iconst (v := 1) hx hb dL_agree_22 (by decide) ?_
  exact W.iret hx hb hr (fun t ht _ => ⟨rfl, by rw [ht]; exact hP, by rw [ht]; exact hO, hS.F ht⟩) hS.2.2 dL_agree_23 hlocks
def rm_L_numerator : Room := { frames := 10, cells := 1, slots := 6, locals := 201 }
set_option maxHeartbeats 4000000 in
set_option maxRecDepth 100000 in
theorem wk_L_numerator (l : Launch) (hl0 : l.stackTraces = false) (D : va_G) (ct : Nat → ClassId) (ad : Nat → Nat) (ao : Nat) (hG : Gd ad 70 (FC ad)) (hao : ∀ i : Nat, i < 70 → ad i ≠ ao) (p0 : Int32) (S : St) (r : Int32) (g : Nat → Int64) (hf : f_X9_numerator p0 S = some (.ok r)) : MetL l yL_numerator cL_numerator 4 [(0, 9, 12, 27), (0, 9, 15, 15), (0, 9, 18, 55)] rm_L_numerator D ct ad ao [.ref (ad 0), .int p0, .ref ao] 0 S S g (vp_updL g (Int32.toNatClampNeg 0) (Int32.toInt64 r)) := by
  refine MetL.of RL (by decide) rfl (Nat.le_of_ble_eq_true rfl) ?_
  intro p e s m args below meth c C htab hK hP hO hX hN ls hl
  have hl : lv_has ls 4 [(0, .ref (ad 0)), (1, .int p0), (2, .ref ao)] := hl
  obtain ⟨hx, hb, hr, hml, hown, htL, hlocks⟩ := id C
  have hS : va_S (FL ad ao) s.heap s.heap [] := va_S.rf
  have hnO : ∀ (i : Nat) (q : Nat × va_E), (outW ct ao g)[i]? = some q → ¬ FC ad q.1 := by
    intro i q hq
    cases i with
    | zero =>
      simp at hq
      subst hq
      rintro ⟨i9, hi9, e9⟩
      exact hao i9 hi9 e9.symm
    | succ i => simp at hq
  refine lv_aload_n hx hb dL_numerator_0 rfl (lv_at hl 2 rfl) ?_
  refine lv_iconst (v := 0) hx hb dL_numerator_1 (by decide) ?_
  refine lv_aload_n hx hb dL_numerator_2 rfl (lv_at hl 0 rfl) ?_
  refine lv_iload_n hx hb dL_numerator_3 rfl (lv_at hl 1 rfl) ?_
  refine hc_VF (As := [.int p0]) (rest := [.int 0, .ref ao]) C hK (c_X9_numerator l D ct ad (FC ad) hG p0 S r  hf) hl.1 cp_X9_numerator mw_4_79 (rc_X9 hK hP) hP hS (fun q h => Or.inl h) ⟨rfl, rfl⟩ ⟨Nat.le_of_ble_eq_true rfl, Nat.le_of_ble_eq_true rfl⟩ rfl rfl (Nat.le_of_ble_eq_true rfl) dL_numerator_4 ⟨Nat.le_of_ble_eq_true rfl, Nat.le_of_ble_eq_true rfl⟩ (fun H locs hP hS hz hk => ?_)
  have hO := keptP hO hk hnO
  refine lv_i2l hx hb dL_numerator_7 rfl ?_
  refine lw_last C hK hP hO hG hao hS dL_numerator_8 (fun H locs hP hO hS => ?_)
  refine lv_goto (tgt := 21) hx hb dL_numerator_9 (by decide) ?_
  refine lv_iconst (v := 0) hx hb dL_numerator_21 (by decide) ?_
  refine W.widen (k := 1) (n := 6) (by decide) (by decide) ?_
  exact W.iret hx hb hr (fun t ht _ => ⟨rfl, by rw [ht]; exact hP, by rw [ht]; exact hO, hS.F ht⟩) hS.2.2 dL_numerator_22 hlocks
set_option maxHeartbeats 4000000 in
set_option maxRecDepth 100000 in
theorem wx_L_numerator_3 (l : Launch) (hl0 : l.stackTraces = false) (D : va_G) (ct : Nat → ClassId) (ad : Nat → Nat) (ao : Nat) (hG : Gd ad 70 (FC ad)) (hao : ∀ i : Nat, i < 70 → ad i ≠ ao) (p0 : Int32) (S : St)  (g : Nat → Int64) (hf : f_X9_numerator p0 S = some (.error 3)) : MetL l yL_numerator cL_numerator 4 [(0, 9, 12, 27), (0, 9, 15, 15), (0, 9, 18, 55)] rm_L_numerator D ct ad ao [.ref (ad 0), .int p0, .ref ao] 1 S S g g := by
  refine MetL.of RL (by decide) rfl (Nat.le_of_ble_eq_true rfl) ?_
  intro p e s m args below meth c C htab hK hP hO hX hN ls hl
  have hl : lv_has ls 4 [(0, .ref (ad 0)), (1, .int p0), (2, .ref ao)] := hl
  obtain ⟨hx, hb, hr, hml, hown, htL, hlocks⟩ := id C
  have hS : va_S (FL ad ao) s.heap s.heap [] := va_S.rf
  have hnO : ∀ (i : Nat) (q : Nat × va_E), (outW ct ao g)[i]? = some q → ¬ FC ad q.1 := by
    intro i q hq
    cases i with
    | zero =>
      simp at hq
      subst hq
      rintro ⟨i9, hi9, e9⟩
      exact hao i9 hi9 e9.symm
    | succ i => simp at hq
  refine lv_aload_n hx hb dL_numerator_0 rfl (lv_at hl 2 rfl) ?_
  refine lv_iconst (v := 0) hx hb dL_numerator_1 (by decide) ?_
  refine lv_aload_n hx hb dL_numerator_2 rfl (lv_at hl 0 rfl) ?_
  refine lv_iload_n hx hb dL_numerator_3 rfl (lv_at hl 1 rfl) ?_
  have hXC : Xf (FC ad) s := hX.narrow (fun q h => Or.inl h)
  refine xc_VF (As := [.int p0]) (rest := [.int 0, .ref ao]) C hXC (x_X9_numerator l hl0 D ct ad (FC ad) hG p0 S _  hf) hl.1 cp_X9_numerator mw_4_79 (rc_X9 hK hP) hK hP hS va_S.rf (fun q h => Or.inl h) ⟨rfl, rfl⟩ ⟨Nat.le_of_ble_eq_true rfl, Nat.le_of_ble_eq_true rfl⟩ rfl rfl (Nat.le_of_ble_eq_true rfl) dL_numerator_4 ⟨Nat.le_of_ble_eq_true rfl, Nat.le_of_ble_eq_true rfl⟩ (fun q ce H locs hce hcv hcl hP hS hz hk => ?_)
  have hO := keptP hO hk hnO
  refine vx_catch (name := xn 3) (E := xn 3) hown [] (⟨0, 9, 12, 27⟩ : ExceptionTableEntry) [(⟨0, 9, 15, 15⟩ : ExceptionTableEntry), (⟨0, 9, 18, 55⟩ : ExceptionTableEntry)] (htab.trans rfl) (fun z hz => nomatch hz) rfl (by decide) (htL _ mw_3_120) (va_Nw.use rfl (hX.2.2.1 (xn 3) (List.mem_of_getElem? (i := 2) rfl))) hce hcv hcl ?_
  refine lv_astore_n (lv' := [(3, .ref q), (0, .ref (ad 0)), (1, .int p0), (2, .ref ao)]) hx hb dL_numerator_12 rfl hl (by decide) rfl (fun ls hl => ?_)
  refine lv_iconst (v := 1) hx hb dL_numerator_13 (by decide) ?_
  exact W.iret hx hb hr (fun t ht _ => ⟨rfl, by rw [ht]; exact hP, by rw [ht]; exact hO, hS.F ht⟩) hS.2.2 dL_numerator_14 hlocks
set_option maxHeartbeats 4000000 in
set_option maxRecDepth 100000 in
theorem wx_L_numerator_5 (l : Launch) (hl0 : l.stackTraces = false) (D : va_G) (ct : Nat → ClassId) (ad : Nat → Nat) (ao : Nat) (hG : Gd ad 70 (FC ad)) (hao : ∀ i : Nat, i < 70 → ad i ≠ ao) (p0 : Int32) (S : St)  (g : Nat → Int64) (hf : f_X9_numerator p0 S = some (.error 5)) : MetL l yL_numerator cL_numerator 4 [(0, 9, 12, 27), (0, 9, 15, 15), (0, 9, 18, 55)] rm_L_numerator D ct ad ao [.ref (ad 0), .int p0, .ref ao] 2 S S g g := by
  refine MetL.of RL (by decide) rfl (Nat.le_of_ble_eq_true rfl) ?_
  intro p e s m args below meth c C htab hK hP hO hX hN ls hl
  have hl : lv_has ls 4 [(0, .ref (ad 0)), (1, .int p0), (2, .ref ao)] := hl
  obtain ⟨hx, hb, hr, hml, hown, htL, hlocks⟩ := id C
  have hS : va_S (FL ad ao) s.heap s.heap [] := va_S.rf
  have hnO : ∀ (i : Nat) (q : Nat × va_E), (outW ct ao g)[i]? = some q → ¬ FC ad q.1 := by
    intro i q hq
    cases i with
    | zero =>
      simp at hq
      subst hq
      rintro ⟨i9, hi9, e9⟩
      exact hao i9 hi9 e9.symm
    | succ i => simp at hq
  refine lv_aload_n hx hb dL_numerator_0 rfl (lv_at hl 2 rfl) ?_
  refine lv_iconst (v := 0) hx hb dL_numerator_1 (by decide) ?_
  refine lv_aload_n hx hb dL_numerator_2 rfl (lv_at hl 0 rfl) ?_
  refine lv_iload_n hx hb dL_numerator_3 rfl (lv_at hl 1 rfl) ?_
  have hXC : Xf (FC ad) s := hX.narrow (fun q h => Or.inl h)
  refine xc_VF (As := [.int p0]) (rest := [.int 0, .ref ao]) C hXC (x_X9_numerator l hl0 D ct ad (FC ad) hG p0 S _  hf) hl.1 cp_X9_numerator mw_4_79 (rc_X9 hK hP) hK hP hS va_S.rf (fun q h => Or.inl h) ⟨rfl, rfl⟩ ⟨Nat.le_of_ble_eq_true rfl, Nat.le_of_ble_eq_true rfl⟩ rfl rfl (Nat.le_of_ble_eq_true rfl) dL_numerator_4 ⟨Nat.le_of_ble_eq_true rfl, Nat.le_of_ble_eq_true rfl⟩ (fun q ce H locs hce hcv hcl hP hS hz hk => ?_)
  have hO := keptP hO hk hnO
  refine vx_catch (name := xn 5) (E := xn 5) hown [(⟨0, 9, 12, 27⟩ : ExceptionTableEntry)] (⟨0, 9, 15, 15⟩ : ExceptionTableEntry) [(⟨0, 9, 18, 55⟩ : ExceptionTableEntry)] (htab.trans rfl) (by
    intro z hz
    simp only [List.mem_cons, List.not_mem_nil, or_false] at hz
    rcases hz with rfl
    · exact Or.inr ⟨by decide, _, htL _ mw_3_120, hN 5 3 (by decide) (by decide) (by decide) (by decide) (by decide)⟩) rfl (by decide) (htL _ mw_2_139) (va_Nw.use rfl (hX.2.2.1 (xn 5) (List.mem_of_getElem? (i := 4) rfl))) hce hcv hcl ?_
  refine lv_astore_n (lv' := [(3, .ref q), (0, .ref (ad 0)), (1, .int p0), (2, .ref ao)]) hx hb dL_numerator_15 rfl hl (by decide) rfl (fun ls hl => ?_)
  refine lv_iconst (v := 2) hx hb dL_numerator_16 (by decide) ?_
  exact W.iret hx hb hr (fun t ht _ => ⟨rfl, by rw [ht]; exact hP, by rw [ht]; exact hO, hS.F ht⟩) hS.2.2 dL_numerator_17 hlocks
set_option maxHeartbeats 4000000 in
set_option maxRecDepth 100000 in
theorem wx_L_numerator_6 (l : Launch) (hl0 : l.stackTraces = false) (D : va_G) (ct : Nat → ClassId) (ad : Nat → Nat) (ao : Nat) (hG : Gd ad 70 (FC ad)) (hao : ∀ i : Nat, i < 70 → ad i ≠ ao) (p0 : Int32) (S : St)  (g : Nat → Int64) (hf : f_X9_numerator p0 S = some (.error 6)) : MetL l yL_numerator cL_numerator 4 [(0, 9, 12, 27), (0, 9, 15, 15), (0, 9, 18, 55)] rm_L_numerator D ct ad ao [.ref (ad 0), .int p0, .ref ao] 3 S S g g := by
  refine MetL.of RL (by decide) rfl (Nat.le_of_ble_eq_true rfl) ?_
  intro p e s m args below meth c C htab hK hP hO hX hN ls hl
  have hl : lv_has ls 4 [(0, .ref (ad 0)), (1, .int p0), (2, .ref ao)] := hl
  obtain ⟨hx, hb, hr, hml, hown, htL, hlocks⟩ := id C
  have hS : va_S (FL ad ao) s.heap s.heap [] := va_S.rf
  have hnO : ∀ (i : Nat) (q : Nat × va_E), (outW ct ao g)[i]? = some q → ¬ FC ad q.1 := by
    intro i q hq
    cases i with
    | zero =>
      simp at hq
      subst hq
      rintro ⟨i9, hi9, e9⟩
      exact hao i9 hi9 e9.symm
    | succ i => simp at hq
  refine lv_aload_n hx hb dL_numerator_0 rfl (lv_at hl 2 rfl) ?_
  refine lv_iconst (v := 0) hx hb dL_numerator_1 (by decide) ?_
  refine lv_aload_n hx hb dL_numerator_2 rfl (lv_at hl 0 rfl) ?_
  refine lv_iload_n hx hb dL_numerator_3 rfl (lv_at hl 1 rfl) ?_
  have hXC : Xf (FC ad) s := hX.narrow (fun q h => Or.inl h)
  refine xc_VF (As := [.int p0]) (rest := [.int 0, .ref ao]) C hXC (x_X9_numerator l hl0 D ct ad (FC ad) hG p0 S _  hf) hl.1 cp_X9_numerator mw_4_79 (rc_X9 hK hP) hK hP hS va_S.rf (fun q h => Or.inl h) ⟨rfl, rfl⟩ ⟨Nat.le_of_ble_eq_true rfl, Nat.le_of_ble_eq_true rfl⟩ rfl rfl (Nat.le_of_ble_eq_true rfl) dL_numerator_4 ⟨Nat.le_of_ble_eq_true rfl, Nat.le_of_ble_eq_true rfl⟩ (fun q ce H locs hce hcv hcl hP hS hz hk => ?_)
  have hO := keptP hO hk hnO
  refine vx_catch (name := xn 6) (E := xn 6) hown [(⟨0, 9, 12, 27⟩ : ExceptionTableEntry), (⟨0, 9, 15, 15⟩ : ExceptionTableEntry)] (⟨0, 9, 18, 55⟩ : ExceptionTableEntry) [] (htab.trans rfl) (by
    intro z hz
    simp only [List.mem_cons, List.not_mem_nil, or_false] at hz
    rcases hz with rfl | rfl
    · exact Or.inr ⟨by decide, _, htL _ mw_3_120, hN 6 3 (by decide) (by decide) (by decide) (by decide) (by decide)⟩
    · exact Or.inr ⟨by decide, _, htL _ mw_2_139, hN 6 5 (by decide) (by decide) (by decide) (by decide) (by decide)⟩) rfl (by decide) (htL _ mw_4_8) (va_Nw.use rfl (hX.2.2.1 (xn 6) (List.mem_of_getElem? (i := 5) rfl))) hce hcv hcl ?_
  refine lv_astore_n (lv' := [(3, .ref q), (0, .ref (ad 0)), (1, .int p0), (2, .ref ao)]) hx hb dL_numerator_18 rfl hl (by decide) rfl (fun ls hl => ?_)
  refine lv_iconst (v := 3) hx hb dL_numerator_19 (by decide) ?_
  exact W.iret hx hb hr (fun t ht _ => ⟨rfl, by rw [ht]; exact hP, by rw [ht]; exact hO, hS.F ht⟩) hS.2.2 dL_numerator_20 hlocks
def rm_L_denominator : Room := { frames := 10, cells := 1, slots := 6, locals := 200 }
set_option maxHeartbeats 4000000 in
set_option maxRecDepth 100000 in
theorem wk_L_denominator (l : Launch) (hl0 : l.stackTraces = false) (D : va_G) (ct : Nat → ClassId) (ad : Nat → Nat) (ao : Nat) (hG : Gd ad 70 (FC ad)) (hao : ∀ i : Nat, i < 70 → ad i ≠ ao) (p0 : Int32) (S : St) (r : Int32) (g : Nat → Int64) (hf : f_X9_denominator p0 S = some (.ok r)) : MetL l yL_denominator cL_denominator 4 [(0, 9, 12, 27), (0, 9, 15, 15), (0, 9, 18, 55)] rm_L_denominator D ct ad ao [.ref (ad 0), .int p0, .ref ao] 0 S S g (vp_updL g (Int32.toNatClampNeg 0) (Int32.toInt64 r)) := by
  refine MetL.of RL (by decide) rfl (Nat.le_of_ble_eq_true rfl) ?_
  intro p e s m args below meth c C htab hK hP hO hX hN ls hl
  have hl : lv_has ls 4 [(0, .ref (ad 0)), (1, .int p0), (2, .ref ao)] := hl
  obtain ⟨hx, hb, hr, hml, hown, htL, hlocks⟩ := id C
  have hS : va_S (FL ad ao) s.heap s.heap [] := va_S.rf
  have hnO : ∀ (i : Nat) (q : Nat × va_E), (outW ct ao g)[i]? = some q → ¬ FC ad q.1 := by
    intro i q hq
    cases i with
    | zero =>
      simp at hq
      subst hq
      rintro ⟨i9, hi9, e9⟩
      exact hao i9 hi9 e9.symm
    | succ i => simp at hq
  refine lv_aload_n hx hb dL_denominator_0 rfl (lv_at hl 2 rfl) ?_
  refine lv_iconst (v := 0) hx hb dL_denominator_1 (by decide) ?_
  refine lv_aload_n hx hb dL_denominator_2 rfl (lv_at hl 0 rfl) ?_
  refine lv_iload_n hx hb dL_denominator_3 rfl (lv_at hl 1 rfl) ?_
  refine hc_VF (As := [.int p0]) (rest := [.int 0, .ref ao]) C hK (c_X9_denominator l D ct ad (FC ad) hG p0 S r  hf) hl.1 cp_X9_denominator mw_4_115 (rc_X9 hK hP) hP hS (fun q h => Or.inl h) ⟨rfl, rfl⟩ ⟨Nat.le_of_ble_eq_true rfl, Nat.le_of_ble_eq_true rfl⟩ rfl rfl (Nat.le_of_ble_eq_true rfl) dL_denominator_4 ⟨Nat.le_of_ble_eq_true rfl, Nat.le_of_ble_eq_true rfl⟩ (fun H locs hP hS hz hk => ?_)
  have hO := keptP hO hk hnO
  refine lv_i2l hx hb dL_denominator_7 rfl ?_
  refine lw_last C hK hP hO hG hao hS dL_denominator_8 (fun H locs hP hO hS => ?_)
  refine lv_goto (tgt := 21) hx hb dL_denominator_9 (by decide) ?_
  refine lv_iconst (v := 0) hx hb dL_denominator_21 (by decide) ?_
  refine W.widen (k := 1) (n := 6) (by decide) (by decide) ?_
  exact W.iret hx hb hr (fun t ht _ => ⟨rfl, by rw [ht]; exact hP, by rw [ht]; exact hO, hS.F ht⟩) hS.2.2 dL_denominator_22 hlocks
set_option maxHeartbeats 4000000 in
set_option maxRecDepth 100000 in
theorem wx_L_denominator_3 (l : Launch) (hl0 : l.stackTraces = false) (D : va_G) (ct : Nat → ClassId) (ad : Nat → Nat) (ao : Nat) (hG : Gd ad 70 (FC ad)) (hao : ∀ i : Nat, i < 70 → ad i ≠ ao) (p0 : Int32) (S : St)  (g : Nat → Int64) (hf : f_X9_denominator p0 S = some (.error 3)) : MetL l yL_denominator cL_denominator 4 [(0, 9, 12, 27), (0, 9, 15, 15), (0, 9, 18, 55)] rm_L_denominator D ct ad ao [.ref (ad 0), .int p0, .ref ao] 1 S S g g := by
  refine MetL.of RL (by decide) rfl (Nat.le_of_ble_eq_true rfl) ?_
  intro p e s m args below meth c C htab hK hP hO hX hN ls hl
  have hl : lv_has ls 4 [(0, .ref (ad 0)), (1, .int p0), (2, .ref ao)] := hl
  obtain ⟨hx, hb, hr, hml, hown, htL, hlocks⟩ := id C
  have hS : va_S (FL ad ao) s.heap s.heap [] := va_S.rf
  have hnO : ∀ (i : Nat) (q : Nat × va_E), (outW ct ao g)[i]? = some q → ¬ FC ad q.1 := by
    intro i q hq
    cases i with
    | zero =>
      simp at hq
      subst hq
      rintro ⟨i9, hi9, e9⟩
      exact hao i9 hi9 e9.symm
    | succ i => simp at hq
  refine lv_aload_n hx hb dL_denominator_0 rfl (lv_at hl 2 rfl) ?_
  refine lv_iconst (v := 0) hx hb dL_denominator_1 (by decide) ?_
  refine lv_aload_n hx hb dL_denominator_2 rfl (lv_at hl 0 rfl) ?_
  refine lv_iload_n hx hb dL_denominator_3 rfl (lv_at hl 1 rfl) ?_
  have hXC : Xf (FC ad) s := hX.narrow (fun q h => Or.inl h)
  refine xc_VF (As := [.int p0]) (rest := [.int 0, .ref ao]) C hXC (x_X9_denominator l hl0 D ct ad (FC ad) hG p0 S _  hf) hl.1 cp_X9_denominator mw_4_115 (rc_X9 hK hP) hK hP hS va_S.rf (fun q h => Or.inl h) ⟨rfl, rfl⟩ ⟨Nat.le_of_ble_eq_true rfl, Nat.le_of_ble_eq_true rfl⟩ rfl rfl (Nat.le_of_ble_eq_true rfl) dL_denominator_4 ⟨Nat.le_of_ble_eq_true rfl, Nat.le_of_ble_eq_true rfl⟩ (fun q ce H locs hce hcv hcl hP hS hz hk => ?_)
  have hO := keptP hO hk hnO
  refine vx_catch (name := xn 3) (E := xn 3) hown [] (⟨0, 9, 12, 27⟩ : ExceptionTableEntry) [(⟨0, 9, 15, 15⟩ : ExceptionTableEntry), (⟨0, 9, 18, 55⟩ : ExceptionTableEntry)] (htab.trans rfl) (fun z hz => nomatch hz) rfl (by decide) (htL _ mw_3_120) (va_Nw.use rfl (hX.2.2.1 (xn 3) (List.mem_of_getElem? (i := 2) rfl))) hce hcv hcl ?_
  refine lv_astore_n (lv' := [(3, .ref q), (0, .ref (ad 0)), (1, .int p0), (2, .ref ao)]) hx hb dL_denominator_12 rfl hl (by decide) rfl (fun ls hl => ?_)
  refine lv_iconst (v := 1) hx hb dL_denominator_13 (by decide) ?_
  exact W.iret hx hb hr (fun t ht _ => ⟨rfl, by rw [ht]; exact hP, by rw [ht]; exact hO, hS.F ht⟩) hS.2.2 dL_denominator_14 hlocks
set_option maxHeartbeats 4000000 in
set_option maxRecDepth 100000 in
theorem wx_L_denominator_5 (l : Launch) (hl0 : l.stackTraces = false) (D : va_G) (ct : Nat → ClassId) (ad : Nat → Nat) (ao : Nat) (hG : Gd ad 70 (FC ad)) (hao : ∀ i : Nat, i < 70 → ad i ≠ ao) (p0 : Int32) (S : St)  (g : Nat → Int64) (hf : f_X9_denominator p0 S = some (.error 5)) : MetL l yL_denominator cL_denominator 4 [(0, 9, 12, 27), (0, 9, 15, 15), (0, 9, 18, 55)] rm_L_denominator D ct ad ao [.ref (ad 0), .int p0, .ref ao] 2 S S g g := by
  refine MetL.of RL (by decide) rfl (Nat.le_of_ble_eq_true rfl) ?_
  intro p e s m args below meth c C htab hK hP hO hX hN ls hl
  have hl : lv_has ls 4 [(0, .ref (ad 0)), (1, .int p0), (2, .ref ao)] := hl
  obtain ⟨hx, hb, hr, hml, hown, htL, hlocks⟩ := id C
  have hS : va_S (FL ad ao) s.heap s.heap [] := va_S.rf
  have hnO : ∀ (i : Nat) (q : Nat × va_E), (outW ct ao g)[i]? = some q → ¬ FC ad q.1 := by
    intro i q hq
    cases i with
    | zero =>
      simp at hq
      subst hq
      rintro ⟨i9, hi9, e9⟩
      exact hao i9 hi9 e9.symm
    | succ i => simp at hq
  refine lv_aload_n hx hb dL_denominator_0 rfl (lv_at hl 2 rfl) ?_
  refine lv_iconst (v := 0) hx hb dL_denominator_1 (by decide) ?_
  refine lv_aload_n hx hb dL_denominator_2 rfl (lv_at hl 0 rfl) ?_
  refine lv_iload_n hx hb dL_denominator_3 rfl (lv_at hl 1 rfl) ?_
  have hXC : Xf (FC ad) s := hX.narrow (fun q h => Or.inl h)
  refine xc_VF (As := [.int p0]) (rest := [.int 0, .ref ao]) C hXC (x_X9_denominator l hl0 D ct ad (FC ad) hG p0 S _  hf) hl.1 cp_X9_denominator mw_4_115 (rc_X9 hK hP) hK hP hS va_S.rf (fun q h => Or.inl h) ⟨rfl, rfl⟩ ⟨Nat.le_of_ble_eq_true rfl, Nat.le_of_ble_eq_true rfl⟩ rfl rfl (Nat.le_of_ble_eq_true rfl) dL_denominator_4 ⟨Nat.le_of_ble_eq_true rfl, Nat.le_of_ble_eq_true rfl⟩ (fun q ce H locs hce hcv hcl hP hS hz hk => ?_)
  have hO := keptP hO hk hnO
  refine vx_catch (name := xn 5) (E := xn 5) hown [(⟨0, 9, 12, 27⟩ : ExceptionTableEntry)] (⟨0, 9, 15, 15⟩ : ExceptionTableEntry) [(⟨0, 9, 18, 55⟩ : ExceptionTableEntry)] (htab.trans rfl) (by
    intro z hz
    simp only [List.mem_cons, List.not_mem_nil, or_false] at hz
    rcases hz with rfl
    · exact Or.inr ⟨by decide, _, htL _ mw_3_120, hN 5 3 (by decide) (by decide) (by decide) (by decide) (by decide)⟩) rfl (by decide) (htL _ mw_2_139) (va_Nw.use rfl (hX.2.2.1 (xn 5) (List.mem_of_getElem? (i := 4) rfl))) hce hcv hcl ?_
  refine lv_astore_n (lv' := [(3, .ref q), (0, .ref (ad 0)), (1, .int p0), (2, .ref ao)]) hx hb dL_denominator_15 rfl hl (by decide) rfl (fun ls hl => ?_)
  refine lv_iconst (v := 2) hx hb dL_denominator_16 (by decide) ?_
  exact W.iret hx hb hr (fun t ht _ => ⟨rfl, by rw [ht]; exact hP, by rw [ht]; exact hO, hS.F ht⟩) hS.2.2 dL_denominator_17 hlocks
set_option maxHeartbeats 4000000 in
set_option maxRecDepth 100000 in
theorem wx_L_denominator_6 (l : Launch) (hl0 : l.stackTraces = false) (D : va_G) (ct : Nat → ClassId) (ad : Nat → Nat) (ao : Nat) (hG : Gd ad 70 (FC ad)) (hao : ∀ i : Nat, i < 70 → ad i ≠ ao) (p0 : Int32) (S : St)  (g : Nat → Int64) (hf : f_X9_denominator p0 S = some (.error 6)) : MetL l yL_denominator cL_denominator 4 [(0, 9, 12, 27), (0, 9, 15, 15), (0, 9, 18, 55)] rm_L_denominator D ct ad ao [.ref (ad 0), .int p0, .ref ao] 3 S S g g := by
  refine MetL.of RL (by decide) rfl (Nat.le_of_ble_eq_true rfl) ?_
  intro p e s m args below meth c C htab hK hP hO hX hN ls hl
  have hl : lv_has ls 4 [(0, .ref (ad 0)), (1, .int p0), (2, .ref ao)] := hl
  obtain ⟨hx, hb, hr, hml, hown, htL, hlocks⟩ := id C
  have hS : va_S (FL ad ao) s.heap s.heap [] := va_S.rf
  have hnO : ∀ (i : Nat) (q : Nat × va_E), (outW ct ao g)[i]? = some q → ¬ FC ad q.1 := by
    intro i q hq
    cases i with
    | zero =>
      simp at hq
      subst hq
      rintro ⟨i9, hi9, e9⟩
      exact hao i9 hi9 e9.symm
    | succ i => simp at hq
  refine lv_aload_n hx hb dL_denominator_0 rfl (lv_at hl 2 rfl) ?_
  refine lv_iconst (v := 0) hx hb dL_denominator_1 (by decide) ?_
  refine lv_aload_n hx hb dL_denominator_2 rfl (lv_at hl 0 rfl) ?_
  refine lv_iload_n hx hb dL_denominator_3 rfl (lv_at hl 1 rfl) ?_
  have hXC : Xf (FC ad) s := hX.narrow (fun q h => Or.inl h)
  refine xc_VF (As := [.int p0]) (rest := [.int 0, .ref ao]) C hXC (x_X9_denominator l hl0 D ct ad (FC ad) hG p0 S _  hf) hl.1 cp_X9_denominator mw_4_115 (rc_X9 hK hP) hK hP hS va_S.rf (fun q h => Or.inl h) ⟨rfl, rfl⟩ ⟨Nat.le_of_ble_eq_true rfl, Nat.le_of_ble_eq_true rfl⟩ rfl rfl (Nat.le_of_ble_eq_true rfl) dL_denominator_4 ⟨Nat.le_of_ble_eq_true rfl, Nat.le_of_ble_eq_true rfl⟩ (fun q ce H locs hce hcv hcl hP hS hz hk => ?_)
  have hO := keptP hO hk hnO
  refine vx_catch (name := xn 6) (E := xn 6) hown [(⟨0, 9, 12, 27⟩ : ExceptionTableEntry), (⟨0, 9, 15, 15⟩ : ExceptionTableEntry)] (⟨0, 9, 18, 55⟩ : ExceptionTableEntry) [] (htab.trans rfl) (by
    intro z hz
    simp only [List.mem_cons, List.not_mem_nil, or_false] at hz
    rcases hz with rfl | rfl
    · exact Or.inr ⟨by decide, _, htL _ mw_3_120, hN 6 3 (by decide) (by decide) (by decide) (by decide) (by decide)⟩
    · exact Or.inr ⟨by decide, _, htL _ mw_2_139, hN 6 5 (by decide) (by decide) (by decide) (by decide) (by decide)⟩) rfl (by decide) (htL _ mw_4_8) (va_Nw.use rfl (hX.2.2.1 (xn 6) (List.mem_of_getElem? (i := 5) rfl))) hce hcv hcl ?_
  refine lv_astore_n (lv' := [(3, .ref q), (0, .ref (ad 0)), (1, .int p0), (2, .ref ao)]) hx hb dL_denominator_18 rfl hl (by decide) rfl (fun ls hl => ?_)
  refine lv_iconst (v := 3) hx hb dL_denominator_19 (by decide) ?_
  exact W.iret hx hb hr (fun t ht _ => ⟨rfl, by rw [ht]; exact hP, by rw [ht]; exact hO, hS.F ht⟩) hS.2.2 dL_denominator_20 hlocks
def rm_L_distance : Room := { frames := 10, cells := 1, slots := 6, locals := 205 }
set_option maxHeartbeats 4000000 in
set_option maxRecDepth 100000 in
theorem wk_L_distance (l : Launch) (hl0 : l.stackTraces = false) (D : va_G) (ct : Nat → ClassId) (ad : Nat → Nat) (ao : Nat) (hG : Gd ad 70 (FC ad)) (hao : ∀ i : Nat, i < 70 → ad i ≠ ao) (p0 : Int32) (p1 : Int32) (p2 : Int32) (p3 : Int32) (S S' : St) (r : Int32) (g : Nat → Int64) (hf : f_X9_distance p0 p1 p2 p3 S = some (.ok r, S')) : MetL l yL_distance cL_distance 7 [(0, 14, 17, 27), (0, 14, 21, 13)] rm_L_distance D ct ad ao [.ref (ad 0), .int p0, .int p1, .int p2, .int p3, .ref ao] 0 S S' g (vp_updL g (Int32.toNatClampNeg 0) (Int32.toInt64 r)) := by
  refine MetL.of RL (by decide) rfl (Nat.le_of_ble_eq_true rfl) ?_
  intro p e s m args below meth c C htab hK hP hO hX hN ls hl
  have hl : lv_has ls 7 [(0, .ref (ad 0)), (1, .int p0), (2, .int p1), (3, .int p2), (4, .int p3), (5, .ref ao)] := hl
  obtain ⟨hx, hb, hr, hml, hown, htL, hlocks⟩ := id C
  have hS : va_S (FL ad ao) s.heap s.heap [] := va_S.rf
  have hnO : ∀ (i : Nat) (q : Nat × va_E), (outW ct ao g)[i]? = some q → ¬ FC ad q.1 := by
    intro i q hq
    cases i with
    | zero =>
      simp at hq
      subst hq
      rintro ⟨i9, hi9, e9⟩
      exact hao i9 hi9 e9.symm
    | succ i => simp at hq
  refine lv_aload hx hb dL_distance_0 (lv_at hl 5 rfl) ?_
  refine lv_iconst (v := 0) hx hb dL_distance_2 (by decide) ?_
  refine lv_aload_n hx hb dL_distance_3 rfl (lv_at hl 0 rfl) ?_
  refine lv_iload_n hx hb dL_distance_4 rfl (lv_at hl 1 rfl) ?_
  refine lv_iload_n hx hb dL_distance_5 rfl (lv_at hl 2 rfl) ?_
  refine lv_iload_n hx hb dL_distance_6 rfl (lv_at hl 3 rfl) ?_
  refine lv_iload hx hb dL_distance_7 (lv_at hl 4 rfl) ?_
  refine hc_VF (As := [.int p0, .int p1, .int p2, .int p3]) (rest := [.int 0, .ref ao]) C hK (c_X9_distance l D ct ad (FC ad) hG p0 p1 p2 p3 S r S' hf) hl.1 cp_X9_distance mw_4_122 (rc_X9 hK hP) hP hS (fun q h => Or.inl h) ⟨rfl, rfl⟩ ⟨Nat.le_of_ble_eq_true rfl, Nat.le_of_ble_eq_true rfl⟩ rfl rfl (Nat.le_of_ble_eq_true rfl) dL_distance_9 ⟨Nat.le_of_ble_eq_true rfl, Nat.le_of_ble_eq_true rfl⟩ (fun H locs hP hS hz hk => ?_)
  have hO := keptP hO hk hnO
  refine lv_i2l hx hb dL_distance_12 rfl ?_
  refine lw_last C hK hP hO hG hao hS dL_distance_13 (fun H locs hP hO hS => ?_)
  refine lv_goto (tgt := 25) hx hb dL_distance_14 (by decide) ?_
  refine lv_iconst (v := 0) hx hb dL_distance_25 (by decide) ?_
  refine W.widen (k := 1) (n := 6) (by decide) (by decide) ?_
  exact W.iret hx hb hr (fun t ht _ => ⟨rfl, by rw [ht]; exact hP, by rw [ht]; exact hO, hS.F ht⟩) hS.2.2 dL_distance_26 hlocks
set_option maxHeartbeats 4000000 in
set_option maxRecDepth 100000 in
theorem wx_L_distance_1 (l : Launch) (hl0 : l.stackTraces = false) (D : va_G) (ct : Nat → ClassId) (ad : Nat → Nat) (ao : Nat) (hG : Gd ad 70 (FC ad)) (hao : ∀ i : Nat, i < 70 → ad i ≠ ao) (p0 : Int32) (p1 : Int32) (p2 : Int32) (p3 : Int32) (S S' : St)  (g : Nat → Int64) (hf : f_X9_distance p0 p1 p2 p3 S = some (.error 1, S')) : MetL l yL_distance cL_distance 7 [(0, 14, 17, 27), (0, 14, 21, 13)] rm_L_distance D ct ad ao [.ref (ad 0), .int p0, .int p1, .int p2, .int p3, .ref ao] 2 S S' g g := by
  refine MetL.of RL (by decide) rfl (Nat.le_of_ble_eq_true rfl) ?_
  intro p e s m args below meth c C htab hK hP hO hX hN ls hl
  have hl : lv_has ls 7 [(0, .ref (ad 0)), (1, .int p0), (2, .int p1), (3, .int p2), (4, .int p3), (5, .ref ao)] := hl
  obtain ⟨hx, hb, hr, hml, hown, htL, hlocks⟩ := id C
  have hS : va_S (FL ad ao) s.heap s.heap [] := va_S.rf
  have hnO : ∀ (i : Nat) (q : Nat × va_E), (outW ct ao g)[i]? = some q → ¬ FC ad q.1 := by
    intro i q hq
    cases i with
    | zero =>
      simp at hq
      subst hq
      rintro ⟨i9, hi9, e9⟩
      exact hao i9 hi9 e9.symm
    | succ i => simp at hq
  refine lv_aload hx hb dL_distance_0 (lv_at hl 5 rfl) ?_
  refine lv_iconst (v := 0) hx hb dL_distance_2 (by decide) ?_
  refine lv_aload_n hx hb dL_distance_3 rfl (lv_at hl 0 rfl) ?_
  refine lv_iload_n hx hb dL_distance_4 rfl (lv_at hl 1 rfl) ?_
  refine lv_iload_n hx hb dL_distance_5 rfl (lv_at hl 2 rfl) ?_
  refine lv_iload_n hx hb dL_distance_6 rfl (lv_at hl 3 rfl) ?_
  refine lv_iload hx hb dL_distance_7 (lv_at hl 4 rfl) ?_
  have hXC : Xf (FC ad) s := hX.narrow (fun q h => Or.inl h)
  refine xc_VF (As := [.int p0, .int p1, .int p2, .int p3]) (rest := [.int 0, .ref ao]) C hXC (x_X9_distance l hl0 D ct ad (FC ad) hG p0 p1 p2 p3 S _ _ hf) hl.1 cp_X9_distance mw_4_122 (rc_X9 hK hP) hK hP hS va_S.rf (fun q h => Or.inl h) ⟨rfl, rfl⟩ ⟨Nat.le_of_ble_eq_true rfl, Nat.le_of_ble_eq_true rfl⟩ rfl rfl (Nat.le_of_ble_eq_true rfl) dL_distance_9 ⟨Nat.le_of_ble_eq_true rfl, Nat.le_of_ble_eq_true rfl⟩ (fun q ce H locs hce hcv hcl hP hS hz hk => ?_)
  have hO := keptP hO hk hnO
  refine vx_catch (name := xn 1) (E := xn 1) hown [(⟨0, 14, 17, 27⟩ : ExceptionTableEntry)] (⟨0, 14, 21, 13⟩ : ExceptionTableEntry) [] (htab.trans rfl) (by
    intro z hz
    simp only [List.mem_cons, List.not_mem_nil, or_false] at hz
    rcases hz with rfl
    · exact Or.inr ⟨by decide, _, htL _ mw_3_120, hN 1 3 (by decide) (by decide) (by decide) (by decide) (by decide)⟩) rfl (by decide) (htL _ mw_2_138) (va_Nw.use rfl (hX.2.2.1 (xn 1) (List.mem_of_getElem? (i := 0) rfl))) hce hcv hcl ?_
  refine lv_astore (lv' := [(6, .ref q), (0, .ref (ad 0)), (1, .int p0), (2, .int p1), (3, .int p2), (4, .int p3), (5, .ref ao)]) hx hb dL_distance_21 hl (by decide) rfl (fun ls hl => ?_)
  refine lv_iconst (v := 2) hx hb dL_distance_23 (by decide) ?_
  exact W.iret hx hb hr (fun t ht _ => ⟨rfl, by rw [ht]; exact hP, by rw [ht]; exact hO, hS.F ht⟩) hS.2.2 dL_distance_24 hlocks
set_option maxHeartbeats 4000000 in
set_option maxRecDepth 100000 in
theorem wx_L_distance_3 (l : Launch) (hl0 : l.stackTraces = false) (D : va_G) (ct : Nat → ClassId) (ad : Nat → Nat) (ao : Nat) (hG : Gd ad 70 (FC ad)) (hao : ∀ i : Nat, i < 70 → ad i ≠ ao) (p0 : Int32) (p1 : Int32) (p2 : Int32) (p3 : Int32) (S S' : St)  (g : Nat → Int64) (hf : f_X9_distance p0 p1 p2 p3 S = some (.error 3, S')) : MetL l yL_distance cL_distance 7 [(0, 14, 17, 27), (0, 14, 21, 13)] rm_L_distance D ct ad ao [.ref (ad 0), .int p0, .int p1, .int p2, .int p3, .ref ao] 1 S S' g g := by
  refine MetL.of RL (by decide) rfl (Nat.le_of_ble_eq_true rfl) ?_
  intro p e s m args below meth c C htab hK hP hO hX hN ls hl
  have hl : lv_has ls 7 [(0, .ref (ad 0)), (1, .int p0), (2, .int p1), (3, .int p2), (4, .int p3), (5, .ref ao)] := hl
  obtain ⟨hx, hb, hr, hml, hown, htL, hlocks⟩ := id C
  have hS : va_S (FL ad ao) s.heap s.heap [] := va_S.rf
  have hnO : ∀ (i : Nat) (q : Nat × va_E), (outW ct ao g)[i]? = some q → ¬ FC ad q.1 := by
    intro i q hq
    cases i with
    | zero =>
      simp at hq
      subst hq
      rintro ⟨i9, hi9, e9⟩
      exact hao i9 hi9 e9.symm
    | succ i => simp at hq
  refine lv_aload hx hb dL_distance_0 (lv_at hl 5 rfl) ?_
  refine lv_iconst (v := 0) hx hb dL_distance_2 (by decide) ?_
  refine lv_aload_n hx hb dL_distance_3 rfl (lv_at hl 0 rfl) ?_
  refine lv_iload_n hx hb dL_distance_4 rfl (lv_at hl 1 rfl) ?_
  refine lv_iload_n hx hb dL_distance_5 rfl (lv_at hl 2 rfl) ?_
  refine lv_iload_n hx hb dL_distance_6 rfl (lv_at hl 3 rfl) ?_
  refine lv_iload hx hb dL_distance_7 (lv_at hl 4 rfl) ?_
  have hXC : Xf (FC ad) s := hX.narrow (fun q h => Or.inl h)
  refine xc_VF (As := [.int p0, .int p1, .int p2, .int p3]) (rest := [.int 0, .ref ao]) C hXC (x_X9_distance l hl0 D ct ad (FC ad) hG p0 p1 p2 p3 S _ _ hf) hl.1 cp_X9_distance mw_4_122 (rc_X9 hK hP) hK hP hS va_S.rf (fun q h => Or.inl h) ⟨rfl, rfl⟩ ⟨Nat.le_of_ble_eq_true rfl, Nat.le_of_ble_eq_true rfl⟩ rfl rfl (Nat.le_of_ble_eq_true rfl) dL_distance_9 ⟨Nat.le_of_ble_eq_true rfl, Nat.le_of_ble_eq_true rfl⟩ (fun q ce H locs hce hcv hcl hP hS hz hk => ?_)
  have hO := keptP hO hk hnO
  refine vx_catch (name := xn 3) (E := xn 3) hown [] (⟨0, 14, 17, 27⟩ : ExceptionTableEntry) [(⟨0, 14, 21, 13⟩ : ExceptionTableEntry)] (htab.trans rfl) (fun z hz => nomatch hz) rfl (by decide) (htL _ mw_3_120) (va_Nw.use rfl (hX.2.2.1 (xn 3) (List.mem_of_getElem? (i := 2) rfl))) hce hcv hcl ?_
  refine lv_astore (lv' := [(6, .ref q), (0, .ref (ad 0)), (1, .int p0), (2, .int p1), (3, .int p2), (4, .int p3), (5, .ref ao)]) hx hb dL_distance_17 hl (by decide) rfl (fun ls hl => ?_)
  refine lv_iconst (v := 1) hx hb dL_distance_19 (by decide) ?_
  exact W.iret hx hb hr (fun t ht _ => ⟨rfl, by rw [ht]; exact hP, by rw [ht]; exact hO, hS.F ht⟩) hS.2.2 dL_distance_20 hlocks
def rm_L_begin : Room := { frames := 10, cells := 1, slots := 6, locals := 197 }
set_option maxHeartbeats 4000000 in
set_option maxRecDepth 100000 in
theorem wk_L_begin (l : Launch) (hl0 : l.stackTraces = false) (D : va_G) (ct : Nat → ClassId) (ad : Nat → Nat) (ao : Nat) (hG : Gd ad 70 (FC ad)) (hao : ∀ i : Nat, i < 70 → ad i ≠ ao) (p0 : Int32) (S S' : St) (r : Int32) (g : Nat → Int64) (hf : f_X9_begin p0 S = some (.ok r, S')) : MetL l yL_begin cL_begin 4 [(0, 9, 12, 13), (0, 9, 15, 21)] rm_L_begin D ct ad ao [.ref (ad 0), .int p0, .ref ao] 0 S S' g (vp_updL g (Int32.toNatClampNeg 0) (Int32.toInt64 r)) := by
  refine MetL.of RL (by decide) rfl (Nat.le_of_ble_eq_true rfl) ?_
  intro p e s m args below meth c C htab hK hP hO hX hN ls hl
  have hl : lv_has ls 4 [(0, .ref (ad 0)), (1, .int p0), (2, .ref ao)] := hl
  obtain ⟨hx, hb, hr, hml, hown, htL, hlocks⟩ := id C
  have hS : va_S (FL ad ao) s.heap s.heap [] := va_S.rf
  have hnO : ∀ (i : Nat) (q : Nat × va_E), (outW ct ao g)[i]? = some q → ¬ FC ad q.1 := by
    intro i q hq
    cases i with
    | zero =>
      simp at hq
      subst hq
      rintro ⟨i9, hi9, e9⟩
      exact hao i9 hi9 e9.symm
    | succ i => simp at hq
  refine lv_aload_n hx hb dL_begin_0 rfl (lv_at hl 2 rfl) ?_
  refine lv_iconst (v := 0) hx hb dL_begin_1 (by decide) ?_
  refine lv_aload_n hx hb dL_begin_2 rfl (lv_at hl 0 rfl) ?_
  refine lv_iload_n hx hb dL_begin_3 rfl (lv_at hl 1 rfl) ?_
  refine hc_VF (As := [.int p0]) (rest := [.int 0, .ref ao]) C hK (c_X9_begin l D ct ad (FC ad) hG p0 S r S' hf) hl.1 cp_X9_begin mw_4_130 (rc_X9 hK hP) hP hS (fun q h => Or.inl h) ⟨rfl, rfl⟩ ⟨Nat.le_of_ble_eq_true rfl, Nat.le_of_ble_eq_true rfl⟩ rfl rfl (Nat.le_of_ble_eq_true rfl) dL_begin_4 ⟨Nat.le_of_ble_eq_true rfl, Nat.le_of_ble_eq_true rfl⟩ (fun H locs hP hS hz hk => ?_)
  have hO := keptP hO hk hnO
  refine lv_i2l hx hb dL_begin_7 rfl ?_
  refine lw_last C hK hP hO hG hao hS dL_begin_8 (fun H locs hP hO hS => ?_)
  refine lv_goto (tgt := 18) hx hb dL_begin_9 (by decide) ?_
  refine lv_iconst (v := 0) hx hb dL_begin_18 (by decide) ?_
  refine W.widen (k := 1) (n := 6) (by decide) (by decide) ?_
  exact W.iret hx hb hr (fun t ht _ => ⟨rfl, by rw [ht]; exact hP, by rw [ht]; exact hO, hS.F ht⟩) hS.2.2 dL_begin_19 hlocks
set_option maxHeartbeats 4000000 in
set_option maxRecDepth 100000 in
theorem wx_L_begin_1 (l : Launch) (hl0 : l.stackTraces = false) (D : va_G) (ct : Nat → ClassId) (ad : Nat → Nat) (ao : Nat) (hG : Gd ad 70 (FC ad)) (hao : ∀ i : Nat, i < 70 → ad i ≠ ao) (p0 : Int32) (S S' : St)  (g : Nat → Int64) (hf : f_X9_begin p0 S = some (.error 1, S')) : MetL l yL_begin cL_begin 4 [(0, 9, 12, 13), (0, 9, 15, 21)] rm_L_begin D ct ad ao [.ref (ad 0), .int p0, .ref ao] 1 S S' g g := by
  refine MetL.of RL (by decide) rfl (Nat.le_of_ble_eq_true rfl) ?_
  intro p e s m args below meth c C htab hK hP hO hX hN ls hl
  have hl : lv_has ls 4 [(0, .ref (ad 0)), (1, .int p0), (2, .ref ao)] := hl
  obtain ⟨hx, hb, hr, hml, hown, htL, hlocks⟩ := id C
  have hS : va_S (FL ad ao) s.heap s.heap [] := va_S.rf
  have hnO : ∀ (i : Nat) (q : Nat × va_E), (outW ct ao g)[i]? = some q → ¬ FC ad q.1 := by
    intro i q hq
    cases i with
    | zero =>
      simp at hq
      subst hq
      rintro ⟨i9, hi9, e9⟩
      exact hao i9 hi9 e9.symm
    | succ i => simp at hq
  refine lv_aload_n hx hb dL_begin_0 rfl (lv_at hl 2 rfl) ?_
  refine lv_iconst (v := 0) hx hb dL_begin_1 (by decide) ?_
  refine lv_aload_n hx hb dL_begin_2 rfl (lv_at hl 0 rfl) ?_
  refine lv_iload_n hx hb dL_begin_3 rfl (lv_at hl 1 rfl) ?_
  have hXC : Xf (FC ad) s := hX.narrow (fun q h => Or.inl h)
  refine xc_VF (As := [.int p0]) (rest := [.int 0, .ref ao]) C hXC (x_X9_begin l hl0 D ct ad (FC ad) hG p0 S _ _ hf) hl.1 cp_X9_begin mw_4_130 (rc_X9 hK hP) hK hP hS va_S.rf (fun q h => Or.inl h) ⟨rfl, rfl⟩ ⟨Nat.le_of_ble_eq_true rfl, Nat.le_of_ble_eq_true rfl⟩ rfl rfl (Nat.le_of_ble_eq_true rfl) dL_begin_4 ⟨Nat.le_of_ble_eq_true rfl, Nat.le_of_ble_eq_true rfl⟩ (fun q ce H locs hce hcv hcl hP hS hz hk => ?_)
  have hO := keptP hO hk hnO
  refine vx_catch (name := xn 1) (E := xn 1) hown [] (⟨0, 9, 12, 13⟩ : ExceptionTableEntry) [(⟨0, 9, 15, 21⟩ : ExceptionTableEntry)] (htab.trans rfl) (fun z hz => nomatch hz) rfl (by decide) (htL _ mw_2_138) (va_Nw.use rfl (hX.2.2.1 (xn 1) (List.mem_of_getElem? (i := 0) rfl))) hce hcv hcl ?_
  refine lv_astore_n (lv' := [(3, .ref q), (0, .ref (ad 0)), (1, .int p0), (2, .ref ao)]) hx hb dL_begin_12 rfl hl (by decide) rfl (fun ls hl => ?_)
  refine lv_iconst (v := 1) hx hb dL_begin_13 (by decide) ?_
  exact W.iret hx hb hr (fun t ht _ => ⟨rfl, by rw [ht]; exact hP, by rw [ht]; exact hO, hS.F ht⟩) hS.2.2 dL_begin_14 hlocks
set_option maxHeartbeats 4000000 in
set_option maxRecDepth 100000 in
theorem wx_L_begin_2 (l : Launch) (hl0 : l.stackTraces = false) (D : va_G) (ct : Nat → ClassId) (ad : Nat → Nat) (ao : Nat) (hG : Gd ad 70 (FC ad)) (hao : ∀ i : Nat, i < 70 → ad i ≠ ao) (p0 : Int32) (S S' : St)  (g : Nat → Int64) (hf : f_X9_begin p0 S = some (.error 2, S')) : MetL l yL_begin cL_begin 4 [(0, 9, 12, 13), (0, 9, 15, 21)] rm_L_begin D ct ad ao [.ref (ad 0), .int p0, .ref ao] 2 S S' g g := by
  refine MetL.of RL (by decide) rfl (Nat.le_of_ble_eq_true rfl) ?_
  intro p e s m args below meth c C htab hK hP hO hX hN ls hl
  have hl : lv_has ls 4 [(0, .ref (ad 0)), (1, .int p0), (2, .ref ao)] := hl
  obtain ⟨hx, hb, hr, hml, hown, htL, hlocks⟩ := id C
  have hS : va_S (FL ad ao) s.heap s.heap [] := va_S.rf
  have hnO : ∀ (i : Nat) (q : Nat × va_E), (outW ct ao g)[i]? = some q → ¬ FC ad q.1 := by
    intro i q hq
    cases i with
    | zero =>
      simp at hq
      subst hq
      rintro ⟨i9, hi9, e9⟩
      exact hao i9 hi9 e9.symm
    | succ i => simp at hq
  refine lv_aload_n hx hb dL_begin_0 rfl (lv_at hl 2 rfl) ?_
  refine lv_iconst (v := 0) hx hb dL_begin_1 (by decide) ?_
  refine lv_aload_n hx hb dL_begin_2 rfl (lv_at hl 0 rfl) ?_
  refine lv_iload_n hx hb dL_begin_3 rfl (lv_at hl 1 rfl) ?_
  have hXC : Xf (FC ad) s := hX.narrow (fun q h => Or.inl h)
  refine xc_VF (As := [.int p0]) (rest := [.int 0, .ref ao]) C hXC (x_X9_begin l hl0 D ct ad (FC ad) hG p0 S _ _ hf) hl.1 cp_X9_begin mw_4_130 (rc_X9 hK hP) hK hP hS va_S.rf (fun q h => Or.inl h) ⟨rfl, rfl⟩ ⟨Nat.le_of_ble_eq_true rfl, Nat.le_of_ble_eq_true rfl⟩ rfl rfl (Nat.le_of_ble_eq_true rfl) dL_begin_4 ⟨Nat.le_of_ble_eq_true rfl, Nat.le_of_ble_eq_true rfl⟩ (fun q ce H locs hce hcv hcl hP hS hz hk => ?_)
  have hO := keptP hO hk hnO
  refine vx_catch (name := xn 2) (E := xn 2) hown [(⟨0, 9, 12, 13⟩ : ExceptionTableEntry)] (⟨0, 9, 15, 21⟩ : ExceptionTableEntry) [] (htab.trans rfl) (by
    intro z hz
    simp only [List.mem_cons, List.not_mem_nil, or_false] at hz
    rcases hz with rfl
    · exact Or.inr ⟨by decide, _, htL _ mw_2_138, hN 2 1 (by decide) (by decide) (by decide) (by decide) (by decide)⟩) rfl (by decide) (htL _ mw_2_239) (va_Nw.use rfl (hX.2.2.1 (xn 2) (List.mem_of_getElem? (i := 1) rfl))) hce hcv hcl ?_
  refine lv_astore_n (lv' := [(3, .ref q), (0, .ref (ad 0)), (1, .int p0), (2, .ref ao)]) hx hb dL_begin_15 rfl hl (by decide) rfl (fun ls hl => ?_)
  refine lv_iconst (v := 2) hx hb dL_begin_16 (by decide) ?_
  exact W.iret hx hb hr (fun t ht _ => ⟨rfl, by rw [ht]; exact hP, by rw [ht]; exact hO, hS.F ht⟩) hS.2.2 dL_begin_17 hlocks
def rm_L_term : Room := { frames := 10, cells := 1, slots := 6, locals := 202 }
set_option maxHeartbeats 4000000 in
set_option maxRecDepth 100000 in
theorem wk_L_term (l : Launch) (hl0 : l.stackTraces = false) (D : va_G) (ct : Nat → ClassId) (ad : Nat → Nat) (ao : Nat) (hG : Gd ad 70 (FC ad)) (hao : ∀ i : Nat, i < 70 → ad i ≠ ao) (p0 : Int32) (p1 : Int32) (p2 : Int32) (S S' : St) (r : Int32) (g : Nat → Int64) (hf : f_X9_term p0 p1 p2 S = some (.ok r, S')) : MetL l yL_term cL_term 6 [(0, 12, 15, 27), (0, 12, 19, 13)] rm_L_term D ct ad ao [.ref (ad 0), .int p0, .int p1, .int p2, .ref ao] 0 S S' g (vp_updL g (Int32.toNatClampNeg 0) (Int32.toInt64 r)) := by
  refine MetL.of RL (by decide) rfl (Nat.le_of_ble_eq_true rfl) ?_
  intro p e s m args below meth c C htab hK hP hO hX hN ls hl
  have hl : lv_has ls 6 [(0, .ref (ad 0)), (1, .int p0), (2, .int p1), (3, .int p2), (4, .ref ao)] := hl
  obtain ⟨hx, hb, hr, hml, hown, htL, hlocks⟩ := id C
  have hS : va_S (FL ad ao) s.heap s.heap [] := va_S.rf
  have hnO : ∀ (i : Nat) (q : Nat × va_E), (outW ct ao g)[i]? = some q → ¬ FC ad q.1 := by
    intro i q hq
    cases i with
    | zero =>
      simp at hq
      subst hq
      rintro ⟨i9, hi9, e9⟩
      exact hao i9 hi9 e9.symm
    | succ i => simp at hq
  refine lv_aload hx hb dL_term_0 (lv_at hl 4 rfl) ?_
  refine lv_iconst (v := 0) hx hb dL_term_2 (by decide) ?_
  refine lv_aload_n hx hb dL_term_3 rfl (lv_at hl 0 rfl) ?_
  refine lv_iload_n hx hb dL_term_4 rfl (lv_at hl 1 rfl) ?_
  refine lv_iload_n hx hb dL_term_5 rfl (lv_at hl 2 rfl) ?_
  refine lv_iload_n hx hb dL_term_6 rfl (lv_at hl 3 rfl) ?_
  refine hc_VF (As := [.int p0, .int p1, .int p2]) (rest := [.int 0, .ref ao]) C hK (c_X9_term l D ct ad (FC ad) hG p0 p1 p2 S r S' hf) hl.1 cp_X9_term mw_4_155 (rc_X9 hK hP) hP hS (fun q h => Or.inl h) ⟨rfl, rfl⟩ ⟨Nat.le_of_ble_eq_true rfl, Nat.le_of_ble_eq_true rfl⟩ rfl rfl (Nat.le_of_ble_eq_true rfl) dL_term_7 ⟨Nat.le_of_ble_eq_true rfl, Nat.le_of_ble_eq_true rfl⟩ (fun H locs hP hS hz hk => ?_)
  have hO := keptP hO hk hnO
  refine lv_i2l hx hb dL_term_10 rfl ?_
  refine lw_last C hK hP hO hG hao hS dL_term_11 (fun H locs hP hO hS => ?_)
  refine lv_goto (tgt := 23) hx hb dL_term_12 (by decide) ?_
  refine lv_iconst (v := 0) hx hb dL_term_23 (by decide) ?_
  refine W.widen (k := 1) (n := 6) (by decide) (by decide) ?_
  exact W.iret hx hb hr (fun t ht _ => ⟨rfl, by rw [ht]; exact hP, by rw [ht]; exact hO, hS.F ht⟩) hS.2.2 dL_term_24 hlocks
set_option maxHeartbeats 4000000 in
set_option maxRecDepth 100000 in
theorem wx_L_term_1 (l : Launch) (hl0 : l.stackTraces = false) (D : va_G) (ct : Nat → ClassId) (ad : Nat → Nat) (ao : Nat) (hG : Gd ad 70 (FC ad)) (hao : ∀ i : Nat, i < 70 → ad i ≠ ao) (p0 : Int32) (p1 : Int32) (p2 : Int32) (S S' : St)  (g : Nat → Int64) (hf : f_X9_term p0 p1 p2 S = some (.error 1, S')) : MetL l yL_term cL_term 6 [(0, 12, 15, 27), (0, 12, 19, 13)] rm_L_term D ct ad ao [.ref (ad 0), .int p0, .int p1, .int p2, .ref ao] 2 S S' g g := by
  refine MetL.of RL (by decide) rfl (Nat.le_of_ble_eq_true rfl) ?_
  intro p e s m args below meth c C htab hK hP hO hX hN ls hl
  have hl : lv_has ls 6 [(0, .ref (ad 0)), (1, .int p0), (2, .int p1), (3, .int p2), (4, .ref ao)] := hl
  obtain ⟨hx, hb, hr, hml, hown, htL, hlocks⟩ := id C
  have hS : va_S (FL ad ao) s.heap s.heap [] := va_S.rf
  have hnO : ∀ (i : Nat) (q : Nat × va_E), (outW ct ao g)[i]? = some q → ¬ FC ad q.1 := by
    intro i q hq
    cases i with
    | zero =>
      simp at hq
      subst hq
      rintro ⟨i9, hi9, e9⟩
      exact hao i9 hi9 e9.symm
    | succ i => simp at hq
  refine lv_aload hx hb dL_term_0 (lv_at hl 4 rfl) ?_
  refine lv_iconst (v := 0) hx hb dL_term_2 (by decide) ?_
  refine lv_aload_n hx hb dL_term_3 rfl (lv_at hl 0 rfl) ?_
  refine lv_iload_n hx hb dL_term_4 rfl (lv_at hl 1 rfl) ?_
  refine lv_iload_n hx hb dL_term_5 rfl (lv_at hl 2 rfl) ?_
  refine lv_iload_n hx hb dL_term_6 rfl (lv_at hl 3 rfl) ?_
  have hXC : Xf (FC ad) s := hX.narrow (fun q h => Or.inl h)
  refine xc_VF (As := [.int p0, .int p1, .int p2]) (rest := [.int 0, .ref ao]) C hXC (x_X9_term l hl0 D ct ad (FC ad) hG p0 p1 p2 S _ _ hf) hl.1 cp_X9_term mw_4_155 (rc_X9 hK hP) hK hP hS va_S.rf (fun q h => Or.inl h) ⟨rfl, rfl⟩ ⟨Nat.le_of_ble_eq_true rfl, Nat.le_of_ble_eq_true rfl⟩ rfl rfl (Nat.le_of_ble_eq_true rfl) dL_term_7 ⟨Nat.le_of_ble_eq_true rfl, Nat.le_of_ble_eq_true rfl⟩ (fun q ce H locs hce hcv hcl hP hS hz hk => ?_)
  have hO := keptP hO hk hnO
  refine vx_catch (name := xn 1) (E := xn 1) hown [(⟨0, 12, 15, 27⟩ : ExceptionTableEntry)] (⟨0, 12, 19, 13⟩ : ExceptionTableEntry) [] (htab.trans rfl) (by
    intro z hz
    simp only [List.mem_cons, List.not_mem_nil, or_false] at hz
    rcases hz with rfl
    · exact Or.inr ⟨by decide, _, htL _ mw_3_120, hN 1 3 (by decide) (by decide) (by decide) (by decide) (by decide)⟩) rfl (by decide) (htL _ mw_2_138) (va_Nw.use rfl (hX.2.2.1 (xn 1) (List.mem_of_getElem? (i := 0) rfl))) hce hcv hcl ?_
  refine lv_astore (lv' := [(5, .ref q), (0, .ref (ad 0)), (1, .int p0), (2, .int p1), (3, .int p2), (4, .ref ao)]) hx hb dL_term_19 hl (by decide) rfl (fun ls hl => ?_)
  refine lv_iconst (v := 2) hx hb dL_term_21 (by decide) ?_
  exact W.iret hx hb hr (fun t ht _ => ⟨rfl, by rw [ht]; exact hP, by rw [ht]; exact hO, hS.F ht⟩) hS.2.2 dL_term_22 hlocks
set_option maxHeartbeats 4000000 in
set_option maxRecDepth 100000 in
theorem wx_L_term_3 (l : Launch) (hl0 : l.stackTraces = false) (D : va_G) (ct : Nat → ClassId) (ad : Nat → Nat) (ao : Nat) (hG : Gd ad 70 (FC ad)) (hao : ∀ i : Nat, i < 70 → ad i ≠ ao) (p0 : Int32) (p1 : Int32) (p2 : Int32) (S S' : St)  (g : Nat → Int64) (hf : f_X9_term p0 p1 p2 S = some (.error 3, S')) : MetL l yL_term cL_term 6 [(0, 12, 15, 27), (0, 12, 19, 13)] rm_L_term D ct ad ao [.ref (ad 0), .int p0, .int p1, .int p2, .ref ao] 1 S S' g g := by
  refine MetL.of RL (by decide) rfl (Nat.le_of_ble_eq_true rfl) ?_
  intro p e s m args below meth c C htab hK hP hO hX hN ls hl
  have hl : lv_has ls 6 [(0, .ref (ad 0)), (1, .int p0), (2, .int p1), (3, .int p2), (4, .ref ao)] := hl
  obtain ⟨hx, hb, hr, hml, hown, htL, hlocks⟩ := id C
  have hS : va_S (FL ad ao) s.heap s.heap [] := va_S.rf
  have hnO : ∀ (i : Nat) (q : Nat × va_E), (outW ct ao g)[i]? = some q → ¬ FC ad q.1 := by
    intro i q hq
    cases i with
    | zero =>
      simp at hq
      subst hq
      rintro ⟨i9, hi9, e9⟩
      exact hao i9 hi9 e9.symm
    | succ i => simp at hq
  refine lv_aload hx hb dL_term_0 (lv_at hl 4 rfl) ?_
  refine lv_iconst (v := 0) hx hb dL_term_2 (by decide) ?_
  refine lv_aload_n hx hb dL_term_3 rfl (lv_at hl 0 rfl) ?_
  refine lv_iload_n hx hb dL_term_4 rfl (lv_at hl 1 rfl) ?_
  refine lv_iload_n hx hb dL_term_5 rfl (lv_at hl 2 rfl) ?_
  refine lv_iload_n hx hb dL_term_6 rfl (lv_at hl 3 rfl) ?_
  have hXC : Xf (FC ad) s := hX.narrow (fun q h => Or.inl h)
  refine xc_VF (As := [.int p0, .int p1, .int p2]) (rest := [.int 0, .ref ao]) C hXC (x_X9_term l hl0 D ct ad (FC ad) hG p0 p1 p2 S _ _ hf) hl.1 cp_X9_term mw_4_155 (rc_X9 hK hP) hK hP hS va_S.rf (fun q h => Or.inl h) ⟨rfl, rfl⟩ ⟨Nat.le_of_ble_eq_true rfl, Nat.le_of_ble_eq_true rfl⟩ rfl rfl (Nat.le_of_ble_eq_true rfl) dL_term_7 ⟨Nat.le_of_ble_eq_true rfl, Nat.le_of_ble_eq_true rfl⟩ (fun q ce H locs hce hcv hcl hP hS hz hk => ?_)
  have hO := keptP hO hk hnO
  refine vx_catch (name := xn 3) (E := xn 3) hown [] (⟨0, 12, 15, 27⟩ : ExceptionTableEntry) [(⟨0, 12, 19, 13⟩ : ExceptionTableEntry)] (htab.trans rfl) (fun z hz => nomatch hz) rfl (by decide) (htL _ mw_3_120) (va_Nw.use rfl (hX.2.2.1 (xn 3) (List.mem_of_getElem? (i := 2) rfl))) hce hcv hcl ?_
  refine lv_astore (lv' := [(5, .ref q), (0, .ref (ad 0)), (1, .int p0), (2, .int p1), (3, .int p2), (4, .ref ao)]) hx hb dL_term_15 hl (by decide) rfl (fun ls hl => ?_)
  refine lv_iconst (v := 1) hx hb dL_term_17 (by decide) ?_
  exact W.iret hx hb hr (fun t ht _ => ⟨rfl, by rw [ht]; exact hP, by rw [ht]; exact hO, hS.F ht⟩) hS.2.2 dL_term_18 hlocks
def rm_L_sides : Room := { frames := 10, cells := 1, slots := 6, locals := 198 }
set_option maxHeartbeats 4000000 in
set_option maxRecDepth 100000 in
theorem wk_L_sides (l : Launch) (hl0 : l.stackTraces = false) (D : va_G) (ct : Nat → ClassId) (ad : Nat → Nat) (ao : Nat) (hG : Gd ad 70 (FC ad)) (hao : ∀ i : Nat, i < 70 → ad i ≠ ao) (p0 : Int32) (S : St) (r : Int32) (g : Nat → Int64) (hf : f_X9_sides p0 S = some (.ok r)) : MetL l yL_sides cL_sides 4 [(0, 9, 12, 27)] rm_L_sides D ct ad ao [.ref (ad 0), .int p0, .ref ao] 0 S S g (vp_updL g (Int32.toNatClampNeg 0) (Int32.toInt64 r)) := by
  refine MetL.of RL (by decide) rfl (Nat.le_of_ble_eq_true rfl) ?_
  intro p e s m args below meth c C htab hK hP hO hX hN ls hl
  have hl : lv_has ls 4 [(0, .ref (ad 0)), (1, .int p0), (2, .ref ao)] := hl
  obtain ⟨hx, hb, hr, hml, hown, htL, hlocks⟩ := id C
  have hS : va_S (FL ad ao) s.heap s.heap [] := va_S.rf
  have hnO : ∀ (i : Nat) (q : Nat × va_E), (outW ct ao g)[i]? = some q → ¬ FC ad q.1 := by
    intro i q hq
    cases i with
    | zero =>
      simp at hq
      subst hq
      rintro ⟨i9, hi9, e9⟩
      exact hao i9 hi9 e9.symm
    | succ i => simp at hq
  refine lv_aload_n hx hb dL_sides_0 rfl (lv_at hl 2 rfl) ?_
  refine lv_iconst (v := 0) hx hb dL_sides_1 (by decide) ?_
  refine lv_aload_n hx hb dL_sides_2 rfl (lv_at hl 0 rfl) ?_
  refine lv_iload_n hx hb dL_sides_3 rfl (lv_at hl 1 rfl) ?_
  refine hc_VF (As := [.int p0]) (rest := [.int 0, .ref ao]) C hK (c_X9_sides l D ct ad (FC ad) hG p0 S r  hf) hl.1 cp_X9_sides mw_4_173 (rc_X9 hK hP) hP hS (fun q h => Or.inl h) ⟨rfl, rfl⟩ ⟨Nat.le_of_ble_eq_true rfl, Nat.le_of_ble_eq_true rfl⟩ rfl rfl (Nat.le_of_ble_eq_true rfl) dL_sides_4 ⟨Nat.le_of_ble_eq_true rfl, Nat.le_of_ble_eq_true rfl⟩ (fun H locs hP hS hz hk => ?_)
  have hO := keptP hO hk hnO
  refine lv_i2l hx hb dL_sides_7 rfl ?_
  refine lw_last C hK hP hO hG hao hS dL_sides_8 (fun H locs hP hO hS => ?_)
  refine lv_goto (tgt := 15) hx hb dL_sides_9 (by decide) ?_
  refine lv_iconst (v := 0) hx hb dL_sides_15 (by decide) ?_
  refine W.widen (k := 1) (n := 6) (by decide) (by decide) ?_
  exact W.iret hx hb hr (fun t ht _ => ⟨rfl, by rw [ht]; exact hP, by rw [ht]; exact hO, hS.F ht⟩) hS.2.2 dL_sides_16 hlocks
set_option maxHeartbeats 4000000 in
set_option maxRecDepth 100000 in
theorem wx_L_sides_3 (l : Launch) (hl0 : l.stackTraces = false) (D : va_G) (ct : Nat → ClassId) (ad : Nat → Nat) (ao : Nat) (hG : Gd ad 70 (FC ad)) (hao : ∀ i : Nat, i < 70 → ad i ≠ ao) (p0 : Int32) (S : St)  (g : Nat → Int64) (hf : f_X9_sides p0 S = some (.error 3)) : MetL l yL_sides cL_sides 4 [(0, 9, 12, 27)] rm_L_sides D ct ad ao [.ref (ad 0), .int p0, .ref ao] 1 S S g g := by
  refine MetL.of RL (by decide) rfl (Nat.le_of_ble_eq_true rfl) ?_
  intro p e s m args below meth c C htab hK hP hO hX hN ls hl
  have hl : lv_has ls 4 [(0, .ref (ad 0)), (1, .int p0), (2, .ref ao)] := hl
  obtain ⟨hx, hb, hr, hml, hown, htL, hlocks⟩ := id C
  have hS : va_S (FL ad ao) s.heap s.heap [] := va_S.rf
  have hnO : ∀ (i : Nat) (q : Nat × va_E), (outW ct ao g)[i]? = some q → ¬ FC ad q.1 := by
    intro i q hq
    cases i with
    | zero =>
      simp at hq
      subst hq
      rintro ⟨i9, hi9, e9⟩
      exact hao i9 hi9 e9.symm
    | succ i => simp at hq
  refine lv_aload_n hx hb dL_sides_0 rfl (lv_at hl 2 rfl) ?_
  refine lv_iconst (v := 0) hx hb dL_sides_1 (by decide) ?_
  refine lv_aload_n hx hb dL_sides_2 rfl (lv_at hl 0 rfl) ?_
  refine lv_iload_n hx hb dL_sides_3 rfl (lv_at hl 1 rfl) ?_
  have hXC : Xf (FC ad) s := hX.narrow (fun q h => Or.inl h)
  refine xc_VF (As := [.int p0]) (rest := [.int 0, .ref ao]) C hXC (x_X9_sides l hl0 D ct ad (FC ad) hG p0 S _  hf) hl.1 cp_X9_sides mw_4_173 (rc_X9 hK hP) hK hP hS va_S.rf (fun q h => Or.inl h) ⟨rfl, rfl⟩ ⟨Nat.le_of_ble_eq_true rfl, Nat.le_of_ble_eq_true rfl⟩ rfl rfl (Nat.le_of_ble_eq_true rfl) dL_sides_4 ⟨Nat.le_of_ble_eq_true rfl, Nat.le_of_ble_eq_true rfl⟩ (fun q ce H locs hce hcv hcl hP hS hz hk => ?_)
  have hO := keptP hO hk hnO
  refine vx_catch (name := xn 3) (E := xn 3) hown [] (⟨0, 9, 12, 27⟩ : ExceptionTableEntry) [] (htab.trans rfl) (fun z hz => nomatch hz) rfl (by decide) (htL _ mw_3_120) (va_Nw.use rfl (hX.2.2.1 (xn 3) (List.mem_of_getElem? (i := 2) rfl))) hce hcv hcl ?_
  refine lv_astore_n (lv' := [(3, .ref q), (0, .ref (ad 0)), (1, .int p0), (2, .ref ao)]) hx hb dL_sides_12 rfl hl (by decide) rfl (fun ls hl => ?_)
  refine lv_iconst (v := 1) hx hb dL_sides_13 (by decide) ?_
  exact W.iret hx hb hr (fun t ht _ => ⟨rfl, by rw [ht]; exact hP, by rw [ht]; exact hO, hS.F ht⟩) hS.2.2 dL_sides_14 hlocks
def rm_L_length : Room := { frames := 11, cells := 1, slots := 6, locals := 227 }
set_option maxHeartbeats 4000000 in
set_option maxRecDepth 100000 in
theorem wk_L_length (l : Launch) (hl0 : l.stackTraces = false) (D : va_G) (ct : Nat → ClassId) (ad : Nat → Nat) (ao : Nat) (hG : Gd ad 70 (FC ad)) (hao : ∀ i : Nat, i < 70 → ad i ≠ ao) (p0 : Int32) (p1 : Int32) (S : St) (r : Int32) (g : Nat → Int64) (hf : f_X9_length p0 p1 S = some (.ok r)) : MetL l yL_length cL_length 5 [(0, 10, 13, 27)] rm_L_length D ct ad ao [.ref (ad 0), .int p0, .int p1, .ref ao] 0 S S g (vp_updL g (Int32.toNatClampNeg 0) (Int32.toInt64 r)) := by
  refine MetL.of RL (by decide) rfl (Nat.le_of_ble_eq_true rfl) ?_
  intro p e s m args below meth c C htab hK hP hO hX hN ls hl
  have hl : lv_has ls 5 [(0, .ref (ad 0)), (1, .int p0), (2, .int p1), (3, .ref ao)] := hl
  obtain ⟨hx, hb, hr, hml, hown, htL, hlocks⟩ := id C
  have hS : va_S (FL ad ao) s.heap s.heap [] := va_S.rf
  have hnO : ∀ (i : Nat) (q : Nat × va_E), (outW ct ao g)[i]? = some q → ¬ FC ad q.1 := by
    intro i q hq
    cases i with
    | zero =>
      simp at hq
      subst hq
      rintro ⟨i9, hi9, e9⟩
      exact hao i9 hi9 e9.symm
    | succ i => simp at hq
  refine lv_aload_n hx hb dL_length_0 rfl (lv_at hl 3 rfl) ?_
  refine lv_iconst (v := 0) hx hb dL_length_1 (by decide) ?_
  refine lv_aload_n hx hb dL_length_2 rfl (lv_at hl 0 rfl) ?_
  refine lv_iload_n hx hb dL_length_3 rfl (lv_at hl 1 rfl) ?_
  refine lv_iload_n hx hb dL_length_4 rfl (lv_at hl 2 rfl) ?_
  refine hc_VF (As := [.int p0, .int p1]) (rest := [.int 0, .ref ao]) C hK (c_X9_length l D ct ad (FC ad) hG p0 p1 S r  hf) hl.1 cp_X9_length mw_4_193 (rc_X9 hK hP) hP hS (fun q h => Or.inl h) ⟨rfl, rfl⟩ ⟨Nat.le_of_ble_eq_true rfl, Nat.le_of_ble_eq_true rfl⟩ rfl rfl (Nat.le_of_ble_eq_true rfl) dL_length_5 ⟨Nat.le_of_ble_eq_true rfl, Nat.le_of_ble_eq_true rfl⟩ (fun H locs hP hS hz hk => ?_)
  have hO := keptP hO hk hnO
  refine lv_i2l hx hb dL_length_8 rfl ?_
  refine lw_last C hK hP hO hG hao hS dL_length_9 (fun H locs hP hO hS => ?_)
  refine lv_goto (tgt := 17) hx hb dL_length_10 (by decide) ?_
  refine lv_iconst (v := 0) hx hb dL_length_17 (by decide) ?_
  refine W.widen (k := 1) (n := 6) (by decide) (by decide) ?_
  exact W.iret hx hb hr (fun t ht _ => ⟨rfl, by rw [ht]; exact hP, by rw [ht]; exact hO, hS.F ht⟩) hS.2.2 dL_length_18 hlocks
set_option maxHeartbeats 4000000 in
set_option maxRecDepth 100000 in
theorem wx_L_length_3 (l : Launch) (hl0 : l.stackTraces = false) (D : va_G) (ct : Nat → ClassId) (ad : Nat → Nat) (ao : Nat) (hG : Gd ad 70 (FC ad)) (hao : ∀ i : Nat, i < 70 → ad i ≠ ao) (p0 : Int32) (p1 : Int32) (S : St)  (g : Nat → Int64) (hf : f_X9_length p0 p1 S = some (.error 3)) : MetL l yL_length cL_length 5 [(0, 10, 13, 27)] rm_L_length D ct ad ao [.ref (ad 0), .int p0, .int p1, .ref ao] 1 S S g g := by
  refine MetL.of RL (by decide) rfl (Nat.le_of_ble_eq_true rfl) ?_
  intro p e s m args below meth c C htab hK hP hO hX hN ls hl
  have hl : lv_has ls 5 [(0, .ref (ad 0)), (1, .int p0), (2, .int p1), (3, .ref ao)] := hl
  obtain ⟨hx, hb, hr, hml, hown, htL, hlocks⟩ := id C
  have hS : va_S (FL ad ao) s.heap s.heap [] := va_S.rf
  have hnO : ∀ (i : Nat) (q : Nat × va_E), (outW ct ao g)[i]? = some q → ¬ FC ad q.1 := by
    intro i q hq
    cases i with
    | zero =>
      simp at hq
      subst hq
      rintro ⟨i9, hi9, e9⟩
      exact hao i9 hi9 e9.symm
    | succ i => simp at hq
  refine lv_aload_n hx hb dL_length_0 rfl (lv_at hl 3 rfl) ?_
  refine lv_iconst (v := 0) hx hb dL_length_1 (by decide) ?_
  refine lv_aload_n hx hb dL_length_2 rfl (lv_at hl 0 rfl) ?_
  refine lv_iload_n hx hb dL_length_3 rfl (lv_at hl 1 rfl) ?_
  refine lv_iload_n hx hb dL_length_4 rfl (lv_at hl 2 rfl) ?_
  have hXC : Xf (FC ad) s := hX.narrow (fun q h => Or.inl h)
  refine xc_VF (As := [.int p0, .int p1]) (rest := [.int 0, .ref ao]) C hXC (x_X9_length l hl0 D ct ad (FC ad) hG p0 p1 S _  hf) hl.1 cp_X9_length mw_4_193 (rc_X9 hK hP) hK hP hS va_S.rf (fun q h => Or.inl h) ⟨rfl, rfl⟩ ⟨Nat.le_of_ble_eq_true rfl, Nat.le_of_ble_eq_true rfl⟩ rfl rfl (Nat.le_of_ble_eq_true rfl) dL_length_5 ⟨Nat.le_of_ble_eq_true rfl, Nat.le_of_ble_eq_true rfl⟩ (fun q ce H locs hce hcv hcl hP hS hz hk => ?_)
  have hO := keptP hO hk hnO
  refine vx_catch (name := xn 3) (E := xn 3) hown [] (⟨0, 10, 13, 27⟩ : ExceptionTableEntry) [] (htab.trans rfl) (fun z hz => nomatch hz) rfl (by decide) (htL _ mw_3_120) (va_Nw.use rfl (hX.2.2.1 (xn 3) (List.mem_of_getElem? (i := 2) rfl))) hce hcv hcl ?_
  refine lv_astore (lv' := [(4, .ref q), (0, .ref (ad 0)), (1, .int p0), (2, .int p1), (3, .ref ao)]) hx hb dL_length_13 hl (by decide) rfl (fun ls hl => ?_)
  refine lv_iconst (v := 1) hx hb dL_length_15 (by decide) ?_
  exact W.iret hx hb hr (fun t ht _ => ⟨rfl, by rw [ht]; exact hP, by rw [ht]; exact hO, hS.F ht⟩) hS.2.2 dL_length_16 hlocks
def rm_L_slope : Room := { frames := 11, cells := 1, slots := 6, locals := 226 }
set_option maxHeartbeats 4000000 in
set_option maxRecDepth 100000 in
theorem wk_L_slope (l : Launch) (hl0 : l.stackTraces = false) (D : va_G) (ct : Nat → ClassId) (ad : Nat → Nat) (ao : Nat) (hG : Gd ad 70 (FC ad)) (hao : ∀ i : Nat, i < 70 → ad i ≠ ao) (p0 : Int32) (p1 : Int32) (S : St) (r : Int32) (g : Nat → Int64) (hf : f_X9_slope p0 p1 S = some (.ok r)) : MetL l yL_slope cL_slope 5 [(0, 10, 13, 27)] rm_L_slope D ct ad ao [.ref (ad 0), .int p0, .int p1, .ref ao] 0 S S g (vp_updL g (Int32.toNatClampNeg 0) (Int32.toInt64 r)) := by
  refine MetL.of RL (by decide) rfl (Nat.le_of_ble_eq_true rfl) ?_
  intro p e s m args below meth c C htab hK hP hO hX hN ls hl
  have hl : lv_has ls 5 [(0, .ref (ad 0)), (1, .int p0), (2, .int p1), (3, .ref ao)] := hl
  obtain ⟨hx, hb, hr, hml, hown, htL, hlocks⟩ := id C
  have hS : va_S (FL ad ao) s.heap s.heap [] := va_S.rf
  have hnO : ∀ (i : Nat) (q : Nat × va_E), (outW ct ao g)[i]? = some q → ¬ FC ad q.1 := by
    intro i q hq
    cases i with
    | zero =>
      simp at hq
      subst hq
      rintro ⟨i9, hi9, e9⟩
      exact hao i9 hi9 e9.symm
    | succ i => simp at hq
  refine lv_aload_n hx hb dL_slope_0 rfl (lv_at hl 3 rfl) ?_
  refine lv_iconst (v := 0) hx hb dL_slope_1 (by decide) ?_
  refine lv_aload_n hx hb dL_slope_2 rfl (lv_at hl 0 rfl) ?_
  refine lv_iload_n hx hb dL_slope_3 rfl (lv_at hl 1 rfl) ?_
  refine lv_iload_n hx hb dL_slope_4 rfl (lv_at hl 2 rfl) ?_
  refine hc_VF (As := [.int p0, .int p1]) (rest := [.int 0, .ref ao]) C hK (c_X9_slope l D ct ad (FC ad) hG p0 p1 S r  hf) hl.1 cp_X9_slope mw_4_210 (rc_X9 hK hP) hP hS (fun q h => Or.inl h) ⟨rfl, rfl⟩ ⟨Nat.le_of_ble_eq_true rfl, Nat.le_of_ble_eq_true rfl⟩ rfl rfl (Nat.le_of_ble_eq_true rfl) dL_slope_5 ⟨Nat.le_of_ble_eq_true rfl, Nat.le_of_ble_eq_true rfl⟩ (fun H locs hP hS hz hk => ?_)
  have hO := keptP hO hk hnO
  refine lv_i2l hx hb dL_slope_8 rfl ?_
  refine lw_last C hK hP hO hG hao hS dL_slope_9 (fun H locs hP hO hS => ?_)
  refine lv_goto (tgt := 17) hx hb dL_slope_10 (by decide) ?_
  refine lv_iconst (v := 0) hx hb dL_slope_17 (by decide) ?_
  refine W.widen (k := 1) (n := 6) (by decide) (by decide) ?_
  exact W.iret hx hb hr (fun t ht _ => ⟨rfl, by rw [ht]; exact hP, by rw [ht]; exact hO, hS.F ht⟩) hS.2.2 dL_slope_18 hlocks
set_option maxHeartbeats 4000000 in
set_option maxRecDepth 100000 in
theorem wx_L_slope_3 (l : Launch) (hl0 : l.stackTraces = false) (D : va_G) (ct : Nat → ClassId) (ad : Nat → Nat) (ao : Nat) (hG : Gd ad 70 (FC ad)) (hao : ∀ i : Nat, i < 70 → ad i ≠ ao) (p0 : Int32) (p1 : Int32) (S : St)  (g : Nat → Int64) (hf : f_X9_slope p0 p1 S = some (.error 3)) : MetL l yL_slope cL_slope 5 [(0, 10, 13, 27)] rm_L_slope D ct ad ao [.ref (ad 0), .int p0, .int p1, .ref ao] 1 S S g g := by
  refine MetL.of RL (by decide) rfl (Nat.le_of_ble_eq_true rfl) ?_
  intro p e s m args below meth c C htab hK hP hO hX hN ls hl
  have hl : lv_has ls 5 [(0, .ref (ad 0)), (1, .int p0), (2, .int p1), (3, .ref ao)] := hl
  obtain ⟨hx, hb, hr, hml, hown, htL, hlocks⟩ := id C
  have hS : va_S (FL ad ao) s.heap s.heap [] := va_S.rf
  have hnO : ∀ (i : Nat) (q : Nat × va_E), (outW ct ao g)[i]? = some q → ¬ FC ad q.1 := by
    intro i q hq
    cases i with
    | zero =>
      simp at hq
      subst hq
      rintro ⟨i9, hi9, e9⟩
      exact hao i9 hi9 e9.symm
    | succ i => simp at hq
  refine lv_aload_n hx hb dL_slope_0 rfl (lv_at hl 3 rfl) ?_
  refine lv_iconst (v := 0) hx hb dL_slope_1 (by decide) ?_
  refine lv_aload_n hx hb dL_slope_2 rfl (lv_at hl 0 rfl) ?_
  refine lv_iload_n hx hb dL_slope_3 rfl (lv_at hl 1 rfl) ?_
  refine lv_iload_n hx hb dL_slope_4 rfl (lv_at hl 2 rfl) ?_
  have hXC : Xf (FC ad) s := hX.narrow (fun q h => Or.inl h)
  refine xc_VF (As := [.int p0, .int p1]) (rest := [.int 0, .ref ao]) C hXC (x_X9_slope l hl0 D ct ad (FC ad) hG p0 p1 S _  hf) hl.1 cp_X9_slope mw_4_210 (rc_X9 hK hP) hK hP hS va_S.rf (fun q h => Or.inl h) ⟨rfl, rfl⟩ ⟨Nat.le_of_ble_eq_true rfl, Nat.le_of_ble_eq_true rfl⟩ rfl rfl (Nat.le_of_ble_eq_true rfl) dL_slope_5 ⟨Nat.le_of_ble_eq_true rfl, Nat.le_of_ble_eq_true rfl⟩ (fun q ce H locs hce hcv hcl hP hS hz hk => ?_)
  have hO := keptP hO hk hnO
  refine vx_catch (name := xn 3) (E := xn 3) hown [] (⟨0, 10, 13, 27⟩ : ExceptionTableEntry) [] (htab.trans rfl) (fun z hz => nomatch hz) rfl (by decide) (htL _ mw_3_120) (va_Nw.use rfl (hX.2.2.1 (xn 3) (List.mem_of_getElem? (i := 2) rfl))) hce hcv hcl ?_
  refine lv_astore (lv' := [(4, .ref q), (0, .ref (ad 0)), (1, .int p0), (2, .int p1), (3, .ref ao)]) hx hb dL_slope_13 hl (by decide) rfl (fun ls hl => ?_)
  refine lv_iconst (v := 1) hx hb dL_slope_15 (by decide) ?_
  exact W.iret hx hb hr (fun t ht _ => ⟨rfl, by rw [ht]; exact hP, by rw [ht]; exact hO, hS.F ht⟩) hS.2.2 dL_slope_16 hlocks
def rm_L_residue : Room := { frames := 10, cells := 1, slots := 6, locals := 200 }
set_option maxHeartbeats 4000000 in
set_option maxRecDepth 100000 in
theorem wk_L_residue (l : Launch) (hl0 : l.stackTraces = false) (D : va_G) (ct : Nat → ClassId) (ad : Nat → Nat) (ao : Nat) (hG : Gd ad 70 (FC ad)) (hao : ∀ i : Nat, i < 70 → ad i ≠ ao) (p0 : Int32) (p1 : Int32) (S : St) (r : Int32) (g : Nat → Int64) (hf : f_X9_residue p0 p1 S = some (.ok r)) : MetL l yL_residue cL_residue 5 [(0, 10, 13, 27), (0, 10, 17, 13)] rm_L_residue D ct ad ao [.ref (ad 0), .int p0, .int p1, .ref ao] 0 S S g (vp_updL g (Int32.toNatClampNeg 0) (Int32.toInt64 r)) := by
  refine MetL.of RL (by decide) rfl (Nat.le_of_ble_eq_true rfl) ?_
  intro p e s m args below meth c C htab hK hP hO hX hN ls hl
  have hl : lv_has ls 5 [(0, .ref (ad 0)), (1, .int p0), (2, .int p1), (3, .ref ao)] := hl
  obtain ⟨hx, hb, hr, hml, hown, htL, hlocks⟩ := id C
  have hS : va_S (FL ad ao) s.heap s.heap [] := va_S.rf
  have hnO : ∀ (i : Nat) (q : Nat × va_E), (outW ct ao g)[i]? = some q → ¬ FC ad q.1 := by
    intro i q hq
    cases i with
    | zero =>
      simp at hq
      subst hq
      rintro ⟨i9, hi9, e9⟩
      exact hao i9 hi9 e9.symm
    | succ i => simp at hq
  refine lv_aload_n hx hb dL_residue_0 rfl (lv_at hl 3 rfl) ?_
  refine lv_iconst (v := 0) hx hb dL_residue_1 (by decide) ?_
  refine lv_aload_n hx hb dL_residue_2 rfl (lv_at hl 0 rfl) ?_
  refine lv_iload_n hx hb dL_residue_3 rfl (lv_at hl 1 rfl) ?_
  refine lv_iload_n hx hb dL_residue_4 rfl (lv_at hl 2 rfl) ?_
  refine hc_VF (As := [.int p0, .int p1]) (rest := [.int 0, .ref ao]) C hK (c_X9_residue l D ct ad (FC ad) hG p0 p1 S r  hf) hl.1 cp_X9_residue mw_4_224 (rc_X9 hK hP) hP hS (fun q h => Or.inl h) ⟨rfl, rfl⟩ ⟨Nat.le_of_ble_eq_true rfl, Nat.le_of_ble_eq_true rfl⟩ rfl rfl (Nat.le_of_ble_eq_true rfl) dL_residue_5 ⟨Nat.le_of_ble_eq_true rfl, Nat.le_of_ble_eq_true rfl⟩ (fun H locs hP hS hz hk => ?_)
  have hO := keptP hO hk hnO
  refine lv_i2l hx hb dL_residue_8 rfl ?_
  refine lw_last C hK hP hO hG hao hS dL_residue_9 (fun H locs hP hO hS => ?_)
  refine lv_goto (tgt := 21) hx hb dL_residue_10 (by decide) ?_
  refine lv_iconst (v := 0) hx hb dL_residue_21 (by decide) ?_
  refine W.widen (k := 1) (n := 6) (by decide) (by decide) ?_
  exact W.iret hx hb hr (fun t ht _ => ⟨rfl, by rw [ht]; exact hP, by rw [ht]; exact hO, hS.F ht⟩) hS.2.2 dL_residue_22 hlocks
set_option maxHeartbeats 4000000 in
set_option maxRecDepth 100000 in
theorem wx_L_residue_1 (l : Launch) (hl0 : l.stackTraces = false) (D : va_G) (ct : Nat → ClassId) (ad : Nat → Nat) (ao : Nat) (hG : Gd ad 70 (FC ad)) (hao : ∀ i : Nat, i < 70 → ad i ≠ ao) (p0 : Int32) (p1 : Int32) (S : St)  (g : Nat → Int64) (hf : f_X9_residue p0 p1 S = some (.error 1)) : MetL l yL_residue cL_residue 5 [(0, 10, 13, 27), (0, 10, 17, 13)] rm_L_residue D ct ad ao [.ref (ad 0), .int p0, .int p1, .ref ao] 2 S S g g := by
  refine MetL.of RL (by decide) rfl (Nat.le_of_ble_eq_true rfl) ?_
  intro p e s m args below meth c C htab hK hP hO hX hN ls hl
  have hl : lv_has ls 5 [(0, .ref (ad 0)), (1, .int p0), (2, .int p1), (3, .ref ao)] := hl
  obtain ⟨hx, hb, hr, hml, hown, htL, hlocks⟩ := id C
  have hS : va_S (FL ad ao) s.heap s.heap [] := va_S.rf
  have hnO : ∀ (i : Nat) (q : Nat × va_E), (outW ct ao g)[i]? = some q → ¬ FC ad q.1 := by
    intro i q hq
    cases i with
    | zero =>
      simp at hq
      subst hq
      rintro ⟨i9, hi9, e9⟩
      exact hao i9 hi9 e9.symm
    | succ i => simp at hq
  refine lv_aload_n hx hb dL_residue_0 rfl (lv_at hl 3 rfl) ?_
  refine lv_iconst (v := 0) hx hb dL_residue_1 (by decide) ?_
  refine lv_aload_n hx hb dL_residue_2 rfl (lv_at hl 0 rfl) ?_
  refine lv_iload_n hx hb dL_residue_3 rfl (lv_at hl 1 rfl) ?_
  refine lv_iload_n hx hb dL_residue_4 rfl (lv_at hl 2 rfl) ?_
  have hXC : Xf (FC ad) s := hX.narrow (fun q h => Or.inl h)
  refine xc_VF (As := [.int p0, .int p1]) (rest := [.int 0, .ref ao]) C hXC (x_X9_residue l hl0 D ct ad (FC ad) hG p0 p1 S _  hf) hl.1 cp_X9_residue mw_4_224 (rc_X9 hK hP) hK hP hS va_S.rf (fun q h => Or.inl h) ⟨rfl, rfl⟩ ⟨Nat.le_of_ble_eq_true rfl, Nat.le_of_ble_eq_true rfl⟩ rfl rfl (Nat.le_of_ble_eq_true rfl) dL_residue_5 ⟨Nat.le_of_ble_eq_true rfl, Nat.le_of_ble_eq_true rfl⟩ (fun q ce H locs hce hcv hcl hP hS hz hk => ?_)
  have hO := keptP hO hk hnO
  refine vx_catch (name := xn 1) (E := xn 1) hown [(⟨0, 10, 13, 27⟩ : ExceptionTableEntry)] (⟨0, 10, 17, 13⟩ : ExceptionTableEntry) [] (htab.trans rfl) (by
    intro z hz
    simp only [List.mem_cons, List.not_mem_nil, or_false] at hz
    rcases hz with rfl
    · exact Or.inr ⟨by decide, _, htL _ mw_3_120, hN 1 3 (by decide) (by decide) (by decide) (by decide) (by decide)⟩) rfl (by decide) (htL _ mw_2_138) (va_Nw.use rfl (hX.2.2.1 (xn 1) (List.mem_of_getElem? (i := 0) rfl))) hce hcv hcl ?_
  refine lv_astore (lv' := [(4, .ref q), (0, .ref (ad 0)), (1, .int p0), (2, .int p1), (3, .ref ao)]) hx hb dL_residue_17 hl (by decide) rfl (fun ls hl => ?_)
  refine lv_iconst (v := 2) hx hb dL_residue_19 (by decide) ?_
  exact W.iret hx hb hr (fun t ht _ => ⟨rfl, by rw [ht]; exact hP, by rw [ht]; exact hO, hS.F ht⟩) hS.2.2 dL_residue_20 hlocks
set_option maxHeartbeats 4000000 in
set_option maxRecDepth 100000 in
theorem wx_L_residue_3 (l : Launch) (hl0 : l.stackTraces = false) (D : va_G) (ct : Nat → ClassId) (ad : Nat → Nat) (ao : Nat) (hG : Gd ad 70 (FC ad)) (hao : ∀ i : Nat, i < 70 → ad i ≠ ao) (p0 : Int32) (p1 : Int32) (S : St)  (g : Nat → Int64) (hf : f_X9_residue p0 p1 S = some (.error 3)) : MetL l yL_residue cL_residue 5 [(0, 10, 13, 27), (0, 10, 17, 13)] rm_L_residue D ct ad ao [.ref (ad 0), .int p0, .int p1, .ref ao] 1 S S g g := by
  refine MetL.of RL (by decide) rfl (Nat.le_of_ble_eq_true rfl) ?_
  intro p e s m args below meth c C htab hK hP hO hX hN ls hl
  have hl : lv_has ls 5 [(0, .ref (ad 0)), (1, .int p0), (2, .int p1), (3, .ref ao)] := hl
  obtain ⟨hx, hb, hr, hml, hown, htL, hlocks⟩ := id C
  have hS : va_S (FL ad ao) s.heap s.heap [] := va_S.rf
  have hnO : ∀ (i : Nat) (q : Nat × va_E), (outW ct ao g)[i]? = some q → ¬ FC ad q.1 := by
    intro i q hq
    cases i with
    | zero =>
      simp at hq
      subst hq
      rintro ⟨i9, hi9, e9⟩
      exact hao i9 hi9 e9.symm
    | succ i => simp at hq
  refine lv_aload_n hx hb dL_residue_0 rfl (lv_at hl 3 rfl) ?_
  refine lv_iconst (v := 0) hx hb dL_residue_1 (by decide) ?_
  refine lv_aload_n hx hb dL_residue_2 rfl (lv_at hl 0 rfl) ?_
  refine lv_iload_n hx hb dL_residue_3 rfl (lv_at hl 1 rfl) ?_
  refine lv_iload_n hx hb dL_residue_4 rfl (lv_at hl 2 rfl) ?_
  have hXC : Xf (FC ad) s := hX.narrow (fun q h => Or.inl h)
  refine xc_VF (As := [.int p0, .int p1]) (rest := [.int 0, .ref ao]) C hXC (x_X9_residue l hl0 D ct ad (FC ad) hG p0 p1 S _  hf) hl.1 cp_X9_residue mw_4_224 (rc_X9 hK hP) hK hP hS va_S.rf (fun q h => Or.inl h) ⟨rfl, rfl⟩ ⟨Nat.le_of_ble_eq_true rfl, Nat.le_of_ble_eq_true rfl⟩ rfl rfl (Nat.le_of_ble_eq_true rfl) dL_residue_5 ⟨Nat.le_of_ble_eq_true rfl, Nat.le_of_ble_eq_true rfl⟩ (fun q ce H locs hce hcv hcl hP hS hz hk => ?_)
  have hO := keptP hO hk hnO
  refine vx_catch (name := xn 3) (E := xn 3) hown [] (⟨0, 10, 13, 27⟩ : ExceptionTableEntry) [(⟨0, 10, 17, 13⟩ : ExceptionTableEntry)] (htab.trans rfl) (fun z hz => nomatch hz) rfl (by decide) (htL _ mw_3_120) (va_Nw.use rfl (hX.2.2.1 (xn 3) (List.mem_of_getElem? (i := 2) rfl))) hce hcv hcl ?_
  refine lv_astore (lv' := [(4, .ref q), (0, .ref (ad 0)), (1, .int p0), (2, .int p1), (3, .ref ao)]) hx hb dL_residue_13 hl (by decide) rfl (fun ls hl => ?_)
  refine lv_iconst (v := 1) hx hb dL_residue_15 (by decide) ?_
  exact W.iret hx hb hr (fun t ht _ => ⟨rfl, by rw [ht]; exact hP, by rw [ht]; exact hO, hS.F ht⟩) hS.2.2 dL_residue_16 hlocks
def rm_L_lift : Room := { frames := 10, cells := 1, slots := 6, locals := 233 }
set_option maxHeartbeats 4000000 in
set_option maxRecDepth 100000 in
theorem wk_L_lift (l : Launch) (hl0 : l.stackTraces = false) (D : va_G) (ct : Nat → ClassId) (ad : Nat → Nat) (ao : Nat) (hG : Gd ad 70 (FC ad)) (hao : ∀ i : Nat, i < 70 → ad i ≠ ao) (p0 : Int32) (p1 : Int32) (p2 : Int32) (S S' : St) (r : Int32) (g : Nat → Int64) (hf : f_X9_lift p0 p1 p2 S = some (.ok r, S')) : MetL l yL_lift cL_lift 6 [(0, 12, 15, 27), (0, 12, 19, 13), (0, 12, 23, 15), (0, 12, 27, 21)] rm_L_lift D ct ad ao [.ref (ad 0), .int p0, .int p1, .int p2, .ref ao] 0 S S' g (vp_updL g (Int32.toNatClampNeg 0) (Int32.toInt64 r)) := by
  refine MetL.of RL (by decide) rfl (Nat.le_of_ble_eq_true rfl) ?_
  intro p e s m args below meth c C htab hK hP hO hX hN ls hl
  have hl : lv_has ls 6 [(0, .ref (ad 0)), (1, .int p0), (2, .int p1), (3, .int p2), (4, .ref ao)] := hl
  obtain ⟨hx, hb, hr, hml, hown, htL, hlocks⟩ := id C
  have hS : va_S (FL ad ao) s.heap s.heap [] := va_S.rf
  have hnO : ∀ (i : Nat) (q : Nat × va_E), (outW ct ao g)[i]? = some q → ¬ FC ad q.1 := by
    intro i q hq
    cases i with
    | zero =>
      simp at hq
      subst hq
      rintro ⟨i9, hi9, e9⟩
      exact hao i9 hi9 e9.symm
    | succ i => simp at hq
  refine lv_aload hx hb dL_lift_0 (lv_at hl 4 rfl) ?_
  refine lv_iconst (v := 0) hx hb dL_lift_2 (by decide) ?_
  refine lv_aload_n hx hb dL_lift_3 rfl (lv_at hl 0 rfl) ?_
  refine lv_iload_n hx hb dL_lift_4 rfl (lv_at hl 1 rfl) ?_
  refine lv_iload_n hx hb dL_lift_5 rfl (lv_at hl 2 rfl) ?_
  refine lv_iload_n hx hb dL_lift_6 rfl (lv_at hl 3 rfl) ?_
  refine hc_VF (As := [.int p0, .int p1, .int p2]) (rest := [.int 0, .ref ao]) C hK (c_X9_lift l D ct ad (FC ad) hG p0 p1 p2 S r S' hf) hl.1 cp_X9_lift mw_4_237 (rc_X9 hK hP) hP hS (fun q h => Or.inl h) ⟨rfl, rfl⟩ ⟨Nat.le_of_ble_eq_true rfl, Nat.le_of_ble_eq_true rfl⟩ rfl rfl (Nat.le_of_ble_eq_true rfl) dL_lift_7 ⟨Nat.le_of_ble_eq_true rfl, Nat.le_of_ble_eq_true rfl⟩ (fun H locs hP hS hz hk => ?_)
  have hO := keptP hO hk hnO
  refine lv_i2l hx hb dL_lift_10 rfl ?_
  refine lw_last C hK hP hO hG hao hS dL_lift_11 (fun H locs hP hO hS => ?_)
  refine lv_goto (tgt := 31) hx hb dL_lift_12 (by decide) ?_
  refine lv_iconst (v := 0) hx hb dL_lift_31 (by decide) ?_
  refine W.widen (k := 1) (n := 6) (by decide) (by decide) ?_
  exact W.iret hx hb hr (fun t ht _ => ⟨rfl, by rw [ht]; exact hP, by rw [ht]; exact hO, hS.F ht⟩) hS.2.2 dL_lift_32 hlocks
set_option maxHeartbeats 4000000 in
set_option maxRecDepth 100000 in
theorem wx_L_lift_1 (l : Launch) (hl0 : l.stackTraces = false) (D : va_G) (ct : Nat → ClassId) (ad : Nat → Nat) (ao : Nat) (hG : Gd ad 70 (FC ad)) (hao : ∀ i : Nat, i < 70 → ad i ≠ ao) (p0 : Int32) (p1 : Int32) (p2 : Int32) (S S' : St)  (g : Nat → Int64) (hf : f_X9_lift p0 p1 p2 S = some (.error 1, S')) : MetL l yL_lift cL_lift 6 [(0, 12, 15, 27), (0, 12, 19, 13), (0, 12, 23, 15), (0, 12, 27, 21)] rm_L_lift D ct ad ao [.ref (ad 0), .int p0, .int p1, .int p2, .ref ao] 2 S S' g g := by
  refine MetL.of RL (by decide) rfl (Nat.le_of_ble_eq_true rfl) ?_
  intro p e s m args below meth c C htab hK hP hO hX hN ls hl
  have hl : lv_has ls 6 [(0, .ref (ad 0)), (1, .int p0), (2, .int p1), (3, .int p2), (4, .ref ao)] := hl
  obtain ⟨hx, hb, hr, hml, hown, htL, hlocks⟩ := id C
  have hS : va_S (FL ad ao) s.heap s.heap [] := va_S.rf
  have hnO : ∀ (i : Nat) (q : Nat × va_E), (outW ct ao g)[i]? = some q → ¬ FC ad q.1 := by
    intro i q hq
    cases i with
    | zero =>
      simp at hq
      subst hq
      rintro ⟨i9, hi9, e9⟩
      exact hao i9 hi9 e9.symm
    | succ i => simp at hq
  refine lv_aload hx hb dL_lift_0 (lv_at hl 4 rfl) ?_
  refine lv_iconst (v := 0) hx hb dL_lift_2 (by decide) ?_
  refine lv_aload_n hx hb dL_lift_3 rfl (lv_at hl 0 rfl) ?_
  refine lv_iload_n hx hb dL_lift_4 rfl (lv_at hl 1 rfl) ?_
  refine lv_iload_n hx hb dL_lift_5 rfl (lv_at hl 2 rfl) ?_
  refine lv_iload_n hx hb dL_lift_6 rfl (lv_at hl 3 rfl) ?_
  have hXC : Xf (FC ad) s := hX.narrow (fun q h => Or.inl h)
  refine xc_VF (As := [.int p0, .int p1, .int p2]) (rest := [.int 0, .ref ao]) C hXC (x_X9_lift l hl0 D ct ad (FC ad) hG p0 p1 p2 S _ _ hf) hl.1 cp_X9_lift mw_4_237 (rc_X9 hK hP) hK hP hS va_S.rf (fun q h => Or.inl h) ⟨rfl, rfl⟩ ⟨Nat.le_of_ble_eq_true rfl, Nat.le_of_ble_eq_true rfl⟩ rfl rfl (Nat.le_of_ble_eq_true rfl) dL_lift_7 ⟨Nat.le_of_ble_eq_true rfl, Nat.le_of_ble_eq_true rfl⟩ (fun q ce H locs hce hcv hcl hP hS hz hk => ?_)
  have hO := keptP hO hk hnO
  refine vx_catch (name := xn 1) (E := xn 1) hown [(⟨0, 12, 15, 27⟩ : ExceptionTableEntry)] (⟨0, 12, 19, 13⟩ : ExceptionTableEntry) [(⟨0, 12, 23, 15⟩ : ExceptionTableEntry), (⟨0, 12, 27, 21⟩ : ExceptionTableEntry)] (htab.trans rfl) (by
    intro z hz
    simp only [List.mem_cons, List.not_mem_nil, or_false] at hz
    rcases hz with rfl
    · exact Or.inr ⟨by decide, _, htL _ mw_3_120, hN 1 3 (by decide) (by decide) (by decide) (by decide) (by decide)⟩) rfl (by decide) (htL _ mw_2_138) (va_Nw.use rfl (hX.2.2.1 (xn 1) (List.mem_of_getElem? (i := 0) rfl))) hce hcv hcl ?_
  refine lv_astore (lv' := [(5, .ref q), (0, .ref (ad 0)), (1, .int p0), (2, .int p1), (3, .int p2), (4, .ref ao)]) hx hb dL_lift_19 hl (by decide) rfl (fun ls hl => ?_)
  refine lv_iconst (v := 2) hx hb dL_lift_21 (by decide) ?_
  exact W.iret hx hb hr (fun t ht _ => ⟨rfl, by rw [ht]; exact hP, by rw [ht]; exact hO, hS.F ht⟩) hS.2.2 dL_lift_22 hlocks
set_option maxHeartbeats 4000000 in
set_option maxRecDepth 100000 in
theorem wx_L_lift_2 (l : Launch) (hl0 : l.stackTraces = false) (D : va_G) (ct : Nat → ClassId) (ad : Nat → Nat) (ao : Nat) (hG : Gd ad 70 (FC ad)) (hao : ∀ i : Nat, i < 70 → ad i ≠ ao) (p0 : Int32) (p1 : Int32) (p2 : Int32) (S S' : St)  (g : Nat → Int64) (hf : f_X9_lift p0 p1 p2 S = some (.error 2, S')) : MetL l yL_lift cL_lift 6 [(0, 12, 15, 27), (0, 12, 19, 13), (0, 12, 23, 15), (0, 12, 27, 21)] rm_L_lift D ct ad ao [.ref (ad 0), .int p0, .int p1, .int p2, .ref ao] 4 S S' g g := by
  refine MetL.of RL (by decide) rfl (Nat.le_of_ble_eq_true rfl) ?_
  intro p e s m args below meth c C htab hK hP hO hX hN ls hl
  have hl : lv_has ls 6 [(0, .ref (ad 0)), (1, .int p0), (2, .int p1), (3, .int p2), (4, .ref ao)] := hl
  obtain ⟨hx, hb, hr, hml, hown, htL, hlocks⟩ := id C
  have hS : va_S (FL ad ao) s.heap s.heap [] := va_S.rf
  have hnO : ∀ (i : Nat) (q : Nat × va_E), (outW ct ao g)[i]? = some q → ¬ FC ad q.1 := by
    intro i q hq
    cases i with
    | zero =>
      simp at hq
      subst hq
      rintro ⟨i9, hi9, e9⟩
      exact hao i9 hi9 e9.symm
    | succ i => simp at hq
  refine lv_aload hx hb dL_lift_0 (lv_at hl 4 rfl) ?_
  refine lv_iconst (v := 0) hx hb dL_lift_2 (by decide) ?_
  refine lv_aload_n hx hb dL_lift_3 rfl (lv_at hl 0 rfl) ?_
  refine lv_iload_n hx hb dL_lift_4 rfl (lv_at hl 1 rfl) ?_
  refine lv_iload_n hx hb dL_lift_5 rfl (lv_at hl 2 rfl) ?_
  refine lv_iload_n hx hb dL_lift_6 rfl (lv_at hl 3 rfl) ?_
  have hXC : Xf (FC ad) s := hX.narrow (fun q h => Or.inl h)
  refine xc_VF (As := [.int p0, .int p1, .int p2]) (rest := [.int 0, .ref ao]) C hXC (x_X9_lift l hl0 D ct ad (FC ad) hG p0 p1 p2 S _ _ hf) hl.1 cp_X9_lift mw_4_237 (rc_X9 hK hP) hK hP hS va_S.rf (fun q h => Or.inl h) ⟨rfl, rfl⟩ ⟨Nat.le_of_ble_eq_true rfl, Nat.le_of_ble_eq_true rfl⟩ rfl rfl (Nat.le_of_ble_eq_true rfl) dL_lift_7 ⟨Nat.le_of_ble_eq_true rfl, Nat.le_of_ble_eq_true rfl⟩ (fun q ce H locs hce hcv hcl hP hS hz hk => ?_)
  have hO := keptP hO hk hnO
  refine vx_catch (name := xn 2) (E := xn 2) hown [(⟨0, 12, 15, 27⟩ : ExceptionTableEntry), (⟨0, 12, 19, 13⟩ : ExceptionTableEntry), (⟨0, 12, 23, 15⟩ : ExceptionTableEntry)] (⟨0, 12, 27, 21⟩ : ExceptionTableEntry) [] (htab.trans rfl) (by
    intro z hz
    simp only [List.mem_cons, List.not_mem_nil, or_false] at hz
    rcases hz with rfl | rfl | rfl
    · exact Or.inr ⟨by decide, _, htL _ mw_3_120, hN 2 3 (by decide) (by decide) (by decide) (by decide) (by decide)⟩
    · exact Or.inr ⟨by decide, _, htL _ mw_2_138, hN 2 1 (by decide) (by decide) (by decide) (by decide) (by decide)⟩
    · exact Or.inr ⟨by decide, _, htL _ mw_2_139, hN 2 5 (by decide) (by decide) (by decide) (by decide) (by decide)⟩) rfl (by decide) (htL _ mw_2_239) (va_Nw.use rfl (hX.2.2.1 (xn 2) (List.mem_of_getElem? (i := 1) rfl))) hce hcv hcl ?_
  refine lv_astore (lv' := [(5, .ref q), (0, .ref (ad 0)), (1, .int p0), (2, .int p1), (3, .int p2), (4, .ref ao)]) hx hb dL_lift_27 hl (by decide) rfl (fun ls hl => ?_)
  refine lv_iconst (v := 4) hx hb dL_lift_29 (by decide) ?_
  exact W.iret hx hb hr (fun t ht _ => ⟨rfl, by rw [ht]; exact hP, by rw [ht]; exact hO, hS.F ht⟩) hS.2.2 dL_lift_30 hlocks
set_option maxHeartbeats 4000000 in
set_option maxRecDepth 100000 in
theorem wx_L_lift_3 (l : Launch) (hl0 : l.stackTraces = false) (D : va_G) (ct : Nat → ClassId) (ad : Nat → Nat) (ao : Nat) (hG : Gd ad 70 (FC ad)) (hao : ∀ i : Nat, i < 70 → ad i ≠ ao) (p0 : Int32) (p1 : Int32) (p2 : Int32) (S S' : St)  (g : Nat → Int64) (hf : f_X9_lift p0 p1 p2 S = some (.error 3, S')) : MetL l yL_lift cL_lift 6 [(0, 12, 15, 27), (0, 12, 19, 13), (0, 12, 23, 15), (0, 12, 27, 21)] rm_L_lift D ct ad ao [.ref (ad 0), .int p0, .int p1, .int p2, .ref ao] 1 S S' g g := by
  refine MetL.of RL (by decide) rfl (Nat.le_of_ble_eq_true rfl) ?_
  intro p e s m args below meth c C htab hK hP hO hX hN ls hl
  have hl : lv_has ls 6 [(0, .ref (ad 0)), (1, .int p0), (2, .int p1), (3, .int p2), (4, .ref ao)] := hl
  obtain ⟨hx, hb, hr, hml, hown, htL, hlocks⟩ := id C
  have hS : va_S (FL ad ao) s.heap s.heap [] := va_S.rf
  have hnO : ∀ (i : Nat) (q : Nat × va_E), (outW ct ao g)[i]? = some q → ¬ FC ad q.1 := by
    intro i q hq
    cases i with
    | zero =>
      simp at hq
      subst hq
      rintro ⟨i9, hi9, e9⟩
      exact hao i9 hi9 e9.symm
    | succ i => simp at hq
  refine lv_aload hx hb dL_lift_0 (lv_at hl 4 rfl) ?_
  refine lv_iconst (v := 0) hx hb dL_lift_2 (by decide) ?_
  refine lv_aload_n hx hb dL_lift_3 rfl (lv_at hl 0 rfl) ?_
  refine lv_iload_n hx hb dL_lift_4 rfl (lv_at hl 1 rfl) ?_
  refine lv_iload_n hx hb dL_lift_5 rfl (lv_at hl 2 rfl) ?_
  refine lv_iload_n hx hb dL_lift_6 rfl (lv_at hl 3 rfl) ?_
  have hXC : Xf (FC ad) s := hX.narrow (fun q h => Or.inl h)
  refine xc_VF (As := [.int p0, .int p1, .int p2]) (rest := [.int 0, .ref ao]) C hXC (x_X9_lift l hl0 D ct ad (FC ad) hG p0 p1 p2 S _ _ hf) hl.1 cp_X9_lift mw_4_237 (rc_X9 hK hP) hK hP hS va_S.rf (fun q h => Or.inl h) ⟨rfl, rfl⟩ ⟨Nat.le_of_ble_eq_true rfl, Nat.le_of_ble_eq_true rfl⟩ rfl rfl (Nat.le_of_ble_eq_true rfl) dL_lift_7 ⟨Nat.le_of_ble_eq_true rfl, Nat.le_of_ble_eq_true rfl⟩ (fun q ce H locs hce hcv hcl hP hS hz hk => ?_)
  have hO := keptP hO hk hnO
  refine vx_catch (name := xn 3) (E := xn 3) hown [] (⟨0, 12, 15, 27⟩ : ExceptionTableEntry) [(⟨0, 12, 19, 13⟩ : ExceptionTableEntry), (⟨0, 12, 23, 15⟩ : ExceptionTableEntry), (⟨0, 12, 27, 21⟩ : ExceptionTableEntry)] (htab.trans rfl) (fun z hz => nomatch hz) rfl (by decide) (htL _ mw_3_120) (va_Nw.use rfl (hX.2.2.1 (xn 3) (List.mem_of_getElem? (i := 2) rfl))) hce hcv hcl ?_
  refine lv_astore (lv' := [(5, .ref q), (0, .ref (ad 0)), (1, .int p0), (2, .int p1), (3, .int p2), (4, .ref ao)]) hx hb dL_lift_15 hl (by decide) rfl (fun ls hl => ?_)
  refine lv_iconst (v := 1) hx hb dL_lift_17 (by decide) ?_
  exact W.iret hx hb hr (fun t ht _ => ⟨rfl, by rw [ht]; exact hP, by rw [ht]; exact hO, hS.F ht⟩) hS.2.2 dL_lift_18 hlocks
set_option maxHeartbeats 4000000 in
set_option maxRecDepth 100000 in
theorem wx_L_lift_5 (l : Launch) (hl0 : l.stackTraces = false) (D : va_G) (ct : Nat → ClassId) (ad : Nat → Nat) (ao : Nat) (hG : Gd ad 70 (FC ad)) (hao : ∀ i : Nat, i < 70 → ad i ≠ ao) (p0 : Int32) (p1 : Int32) (p2 : Int32) (S S' : St)  (g : Nat → Int64) (hf : f_X9_lift p0 p1 p2 S = some (.error 5, S')) : MetL l yL_lift cL_lift 6 [(0, 12, 15, 27), (0, 12, 19, 13), (0, 12, 23, 15), (0, 12, 27, 21)] rm_L_lift D ct ad ao [.ref (ad 0), .int p0, .int p1, .int p2, .ref ao] 3 S S' g g := by
  refine MetL.of RL (by decide) rfl (Nat.le_of_ble_eq_true rfl) ?_
  intro p e s m args below meth c C htab hK hP hO hX hN ls hl
  have hl : lv_has ls 6 [(0, .ref (ad 0)), (1, .int p0), (2, .int p1), (3, .int p2), (4, .ref ao)] := hl
  obtain ⟨hx, hb, hr, hml, hown, htL, hlocks⟩ := id C
  have hS : va_S (FL ad ao) s.heap s.heap [] := va_S.rf
  have hnO : ∀ (i : Nat) (q : Nat × va_E), (outW ct ao g)[i]? = some q → ¬ FC ad q.1 := by
    intro i q hq
    cases i with
    | zero =>
      simp at hq
      subst hq
      rintro ⟨i9, hi9, e9⟩
      exact hao i9 hi9 e9.symm
    | succ i => simp at hq
  refine lv_aload hx hb dL_lift_0 (lv_at hl 4 rfl) ?_
  refine lv_iconst (v := 0) hx hb dL_lift_2 (by decide) ?_
  refine lv_aload_n hx hb dL_lift_3 rfl (lv_at hl 0 rfl) ?_
  refine lv_iload_n hx hb dL_lift_4 rfl (lv_at hl 1 rfl) ?_
  refine lv_iload_n hx hb dL_lift_5 rfl (lv_at hl 2 rfl) ?_
  refine lv_iload_n hx hb dL_lift_6 rfl (lv_at hl 3 rfl) ?_
  have hXC : Xf (FC ad) s := hX.narrow (fun q h => Or.inl h)
  refine xc_VF (As := [.int p0, .int p1, .int p2]) (rest := [.int 0, .ref ao]) C hXC (x_X9_lift l hl0 D ct ad (FC ad) hG p0 p1 p2 S _ _ hf) hl.1 cp_X9_lift mw_4_237 (rc_X9 hK hP) hK hP hS va_S.rf (fun q h => Or.inl h) ⟨rfl, rfl⟩ ⟨Nat.le_of_ble_eq_true rfl, Nat.le_of_ble_eq_true rfl⟩ rfl rfl (Nat.le_of_ble_eq_true rfl) dL_lift_7 ⟨Nat.le_of_ble_eq_true rfl, Nat.le_of_ble_eq_true rfl⟩ (fun q ce H locs hce hcv hcl hP hS hz hk => ?_)
  have hO := keptP hO hk hnO
  refine vx_catch (name := xn 5) (E := xn 5) hown [(⟨0, 12, 15, 27⟩ : ExceptionTableEntry), (⟨0, 12, 19, 13⟩ : ExceptionTableEntry)] (⟨0, 12, 23, 15⟩ : ExceptionTableEntry) [(⟨0, 12, 27, 21⟩ : ExceptionTableEntry)] (htab.trans rfl) (by
    intro z hz
    simp only [List.mem_cons, List.not_mem_nil, or_false] at hz
    rcases hz with rfl | rfl
    · exact Or.inr ⟨by decide, _, htL _ mw_3_120, hN 5 3 (by decide) (by decide) (by decide) (by decide) (by decide)⟩
    · exact Or.inr ⟨by decide, _, htL _ mw_2_138, hN 5 1 (by decide) (by decide) (by decide) (by decide) (by decide)⟩) rfl (by decide) (htL _ mw_2_139) (va_Nw.use rfl (hX.2.2.1 (xn 5) (List.mem_of_getElem? (i := 4) rfl))) hce hcv hcl ?_
  refine lv_astore (lv' := [(5, .ref q), (0, .ref (ad 0)), (1, .int p0), (2, .int p1), (3, .int p2), (4, .ref ao)]) hx hb dL_lift_23 hl (by decide) rfl (fun ls hl => ?_)
  refine lv_iconst (v := 3) hx hb dL_lift_25 (by decide) ?_
  exact W.iret hx hb hr (fun t ht _ => ⟨rfl, by rw [ht]; exact hP, by rw [ht]; exact hO, hS.F ht⟩) hS.2.2 dL_lift_26 hlocks
def rm_L_rootsModulo : Room := { frames := 10, cells := 1, slots := 6, locals := 202 }
set_option maxHeartbeats 4000000 in
set_option maxRecDepth 100000 in
theorem wk_L_rootsModulo (l : Launch) (hl0 : l.stackTraces = false) (D : va_G) (ct : Nat → ClassId) (ad : Nat → Nat) (ao : Nat) (hG : Gd ad 70 (FC ad)) (hao : ∀ i : Nat, i < 70 → ad i ≠ ao) (p0 : Int32) (p1 : Int32) (S : St) (r : Int32) (g : Nat → Int64) (hf : f_X9_rootsModulo p0 p1 S = some (.ok r)) : MetL l yL_rootsModulo cL_rootsModulo 5 [(0, 10, 13, 27), (0, 10, 17, 13)] rm_L_rootsModulo D ct ad ao [.ref (ad 0), .int p0, .int p1, .ref ao] 0 S S g (vp_updL g (Int32.toNatClampNeg 0) (Int32.toInt64 r)) := by
  refine MetL.of RL (by decide) rfl (Nat.le_of_ble_eq_true rfl) ?_
  intro p e s m args below meth c C htab hK hP hO hX hN ls hl
  have hl : lv_has ls 5 [(0, .ref (ad 0)), (1, .int p0), (2, .int p1), (3, .ref ao)] := hl
  obtain ⟨hx, hb, hr, hml, hown, htL, hlocks⟩ := id C
  have hS : va_S (FL ad ao) s.heap s.heap [] := va_S.rf
  have hnO : ∀ (i : Nat) (q : Nat × va_E), (outW ct ao g)[i]? = some q → ¬ FC ad q.1 := by
    intro i q hq
    cases i with
    | zero =>
      simp at hq
      subst hq
      rintro ⟨i9, hi9, e9⟩
      exact hao i9 hi9 e9.symm
    | succ i => simp at hq
  refine lv_aload_n hx hb dL_rootsModulo_0 rfl (lv_at hl 3 rfl) ?_
  refine lv_iconst (v := 0) hx hb dL_rootsModulo_1 (by decide) ?_
  refine lv_aload_n hx hb dL_rootsModulo_2 rfl (lv_at hl 0 rfl) ?_
  refine lv_iload_n hx hb dL_rootsModulo_3 rfl (lv_at hl 1 rfl) ?_
  refine lv_iload_n hx hb dL_rootsModulo_4 rfl (lv_at hl 2 rfl) ?_
  refine hc_VF (As := [.int p0, .int p1]) (rest := [.int 0, .ref ao]) C hK (c_X9_rootsModulo l D ct ad (FC ad) hG p0 p1 S r  hf) hl.1 cp_X9_rootsModulo mw_5_9 (rc_X9 hK hP) hP hS (fun q h => Or.inl h) ⟨rfl, rfl⟩ ⟨Nat.le_of_ble_eq_true rfl, Nat.le_of_ble_eq_true rfl⟩ rfl rfl (Nat.le_of_ble_eq_true rfl) dL_rootsModulo_5 ⟨Nat.le_of_ble_eq_true rfl, Nat.le_of_ble_eq_true rfl⟩ (fun H locs hP hS hz hk => ?_)
  have hO := keptP hO hk hnO
  refine lv_i2l hx hb dL_rootsModulo_8 rfl ?_
  refine lw_last C hK hP hO hG hao hS dL_rootsModulo_9 (fun H locs hP hO hS => ?_)
  refine lv_goto (tgt := 21) hx hb dL_rootsModulo_10 (by decide) ?_
  refine lv_iconst (v := 0) hx hb dL_rootsModulo_21 (by decide) ?_
  refine W.widen (k := 1) (n := 6) (by decide) (by decide) ?_
  exact W.iret hx hb hr (fun t ht _ => ⟨rfl, by rw [ht]; exact hP, by rw [ht]; exact hO, hS.F ht⟩) hS.2.2 dL_rootsModulo_22 hlocks
set_option maxHeartbeats 4000000 in
set_option maxRecDepth 100000 in
theorem wx_L_rootsModulo_1 (l : Launch) (hl0 : l.stackTraces = false) (D : va_G) (ct : Nat → ClassId) (ad : Nat → Nat) (ao : Nat) (hG : Gd ad 70 (FC ad)) (hao : ∀ i : Nat, i < 70 → ad i ≠ ao) (p0 : Int32) (p1 : Int32) (S : St)  (g : Nat → Int64) (hf : f_X9_rootsModulo p0 p1 S = some (.error 1)) : MetL l yL_rootsModulo cL_rootsModulo 5 [(0, 10, 13, 27), (0, 10, 17, 13)] rm_L_rootsModulo D ct ad ao [.ref (ad 0), .int p0, .int p1, .ref ao] 2 S S g g := by
  refine MetL.of RL (by decide) rfl (Nat.le_of_ble_eq_true rfl) ?_
  intro p e s m args below meth c C htab hK hP hO hX hN ls hl
  have hl : lv_has ls 5 [(0, .ref (ad 0)), (1, .int p0), (2, .int p1), (3, .ref ao)] := hl
  obtain ⟨hx, hb, hr, hml, hown, htL, hlocks⟩ := id C
  have hS : va_S (FL ad ao) s.heap s.heap [] := va_S.rf
  have hnO : ∀ (i : Nat) (q : Nat × va_E), (outW ct ao g)[i]? = some q → ¬ FC ad q.1 := by
    intro i q hq
    cases i with
    | zero =>
      simp at hq
      subst hq
      rintro ⟨i9, hi9, e9⟩
      exact hao i9 hi9 e9.symm
    | succ i => simp at hq
  refine lv_aload_n hx hb dL_rootsModulo_0 rfl (lv_at hl 3 rfl) ?_
  refine lv_iconst (v := 0) hx hb dL_rootsModulo_1 (by decide) ?_
  refine lv_aload_n hx hb dL_rootsModulo_2 rfl (lv_at hl 0 rfl) ?_
  refine lv_iload_n hx hb dL_rootsModulo_3 rfl (lv_at hl 1 rfl) ?_
  refine lv_iload_n hx hb dL_rootsModulo_4 rfl (lv_at hl 2 rfl) ?_
  have hXC : Xf (FC ad) s := hX.narrow (fun q h => Or.inl h)
  refine xc_VF (As := [.int p0, .int p1]) (rest := [.int 0, .ref ao]) C hXC (x_X9_rootsModulo l hl0 D ct ad (FC ad) hG p0 p1 S _  hf) hl.1 cp_X9_rootsModulo mw_5_9 (rc_X9 hK hP) hK hP hS va_S.rf (fun q h => Or.inl h) ⟨rfl, rfl⟩ ⟨Nat.le_of_ble_eq_true rfl, Nat.le_of_ble_eq_true rfl⟩ rfl rfl (Nat.le_of_ble_eq_true rfl) dL_rootsModulo_5 ⟨Nat.le_of_ble_eq_true rfl, Nat.le_of_ble_eq_true rfl⟩ (fun q ce H locs hce hcv hcl hP hS hz hk => ?_)
  have hO := keptP hO hk hnO
  refine vx_catch (name := xn 1) (E := xn 1) hown [(⟨0, 10, 13, 27⟩ : ExceptionTableEntry)] (⟨0, 10, 17, 13⟩ : ExceptionTableEntry) [] (htab.trans rfl) (by
    intro z hz
    simp only [List.mem_cons, List.not_mem_nil, or_false] at hz
    rcases hz with rfl
    · exact Or.inr ⟨by decide, _, htL _ mw_3_120, hN 1 3 (by decide) (by decide) (by decide) (by decide) (by decide)⟩) rfl (by decide) (htL _ mw_2_138) (va_Nw.use rfl (hX.2.2.1 (xn 1) (List.mem_of_getElem? (i := 0) rfl))) hce hcv hcl ?_
  refine lv_astore (lv' := [(4, .ref q), (0, .ref (ad 0)), (1, .int p0), (2, .int p1), (3, .ref ao)]) hx hb dL_rootsModulo_17 hl (by decide) rfl (fun ls hl => ?_)
  refine lv_iconst (v := 2) hx hb dL_rootsModulo_19 (by decide) ?_
  exact W.iret hx hb hr (fun t ht _ => ⟨rfl, by rw [ht]; exact hP, by rw [ht]; exact hO, hS.F ht⟩) hS.2.2 dL_rootsModulo_20 hlocks
set_option maxHeartbeats 4000000 in
set_option maxRecDepth 100000 in
theorem wx_L_rootsModulo_3 (l : Launch) (hl0 : l.stackTraces = false) (D : va_G) (ct : Nat → ClassId) (ad : Nat → Nat) (ao : Nat) (hG : Gd ad 70 (FC ad)) (hao : ∀ i : Nat, i < 70 → ad i ≠ ao) (p0 : Int32) (p1 : Int32) (S : St)  (g : Nat → Int64) (hf : f_X9_rootsModulo p0 p1 S = some (.error 3)) : MetL l yL_rootsModulo cL_rootsModulo 5 [(0, 10, 13, 27), (0, 10, 17, 13)] rm_L_rootsModulo D ct ad ao [.ref (ad 0), .int p0, .int p1, .ref ao] 1 S S g g := by
  refine MetL.of RL (by decide) rfl (Nat.le_of_ble_eq_true rfl) ?_
  intro p e s m args below meth c C htab hK hP hO hX hN ls hl
  have hl : lv_has ls 5 [(0, .ref (ad 0)), (1, .int p0), (2, .int p1), (3, .ref ao)] := hl
  obtain ⟨hx, hb, hr, hml, hown, htL, hlocks⟩ := id C
  have hS : va_S (FL ad ao) s.heap s.heap [] := va_S.rf
  have hnO : ∀ (i : Nat) (q : Nat × va_E), (outW ct ao g)[i]? = some q → ¬ FC ad q.1 := by
    intro i q hq
    cases i with
    | zero =>
      simp at hq
      subst hq
      rintro ⟨i9, hi9, e9⟩
      exact hao i9 hi9 e9.symm
    | succ i => simp at hq
  refine lv_aload_n hx hb dL_rootsModulo_0 rfl (lv_at hl 3 rfl) ?_
  refine lv_iconst (v := 0) hx hb dL_rootsModulo_1 (by decide) ?_
  refine lv_aload_n hx hb dL_rootsModulo_2 rfl (lv_at hl 0 rfl) ?_
  refine lv_iload_n hx hb dL_rootsModulo_3 rfl (lv_at hl 1 rfl) ?_
  refine lv_iload_n hx hb dL_rootsModulo_4 rfl (lv_at hl 2 rfl) ?_
  have hXC : Xf (FC ad) s := hX.narrow (fun q h => Or.inl h)
  refine xc_VF (As := [.int p0, .int p1]) (rest := [.int 0, .ref ao]) C hXC (x_X9_rootsModulo l hl0 D ct ad (FC ad) hG p0 p1 S _  hf) hl.1 cp_X9_rootsModulo mw_5_9 (rc_X9 hK hP) hK hP hS va_S.rf (fun q h => Or.inl h) ⟨rfl, rfl⟩ ⟨Nat.le_of_ble_eq_true rfl, Nat.le_of_ble_eq_true rfl⟩ rfl rfl (Nat.le_of_ble_eq_true rfl) dL_rootsModulo_5 ⟨Nat.le_of_ble_eq_true rfl, Nat.le_of_ble_eq_true rfl⟩ (fun q ce H locs hce hcv hcl hP hS hz hk => ?_)
  have hO := keptP hO hk hnO
  refine vx_catch (name := xn 3) (E := xn 3) hown [] (⟨0, 10, 13, 27⟩ : ExceptionTableEntry) [(⟨0, 10, 17, 13⟩ : ExceptionTableEntry)] (htab.trans rfl) (fun z hz => nomatch hz) rfl (by decide) (htL _ mw_3_120) (va_Nw.use rfl (hX.2.2.1 (xn 3) (List.mem_of_getElem? (i := 2) rfl))) hce hcv hcl ?_
  refine lv_astore (lv' := [(4, .ref q), (0, .ref (ad 0)), (1, .int p0), (2, .int p1), (3, .ref ao)]) hx hb dL_rootsModulo_13 hl (by decide) rfl (fun ls hl => ?_)
  refine lv_iconst (v := 1) hx hb dL_rootsModulo_15 (by decide) ?_
  exact W.iret hx hb hr (fun t ht _ => ⟨rfl, by rw [ht]; exact hP, by rw [ht]; exact hO, hS.F ht⟩) hS.2.2 dL_rootsModulo_16 hlocks
def rm_L_symbol : Room := { frames := 10, cells := 1, slots := 6, locals := 210 }
set_option maxHeartbeats 4000000 in
set_option maxRecDepth 100000 in
theorem wk_L_symbol (l : Launch) (hl0 : l.stackTraces = false) (D : va_G) (ct : Nat → ClassId) (ad : Nat → Nat) (ao : Nat) (hG : Gd ad 70 (FC ad)) (hao : ∀ i : Nat, i < 70 → ad i ≠ ao) (p0 : Int32) (p1 : Int32) (p2 : Int32) (S : St) (r : Int32) (g : Nat → Int64) (hf : f_X9_symbol p0 p1 p2 S = some (.ok r)) : MetL l yL_symbol cL_symbol 6 [(0, 12, 15, 13)] rm_L_symbol D ct ad ao [.ref (ad 0), .int p0, .int p1, .int p2, .ref ao] 0 S S g (vp_updL g (Int32.toNatClampNeg 0) (Int32.toInt64 r)) := by
  refine MetL.of RL (by decide) rfl (Nat.le_of_ble_eq_true rfl) ?_
  intro p e s m args below meth c C htab hK hP hO hX hN ls hl
  have hl : lv_has ls 6 [(0, .ref (ad 0)), (1, .int p0), (2, .int p1), (3, .int p2), (4, .ref ao)] := hl
  obtain ⟨hx, hb, hr, hml, hown, htL, hlocks⟩ := id C
  have hS : va_S (FL ad ao) s.heap s.heap [] := va_S.rf
  have hnO : ∀ (i : Nat) (q : Nat × va_E), (outW ct ao g)[i]? = some q → ¬ FC ad q.1 := by
    intro i q hq
    cases i with
    | zero =>
      simp at hq
      subst hq
      rintro ⟨i9, hi9, e9⟩
      exact hao i9 hi9 e9.symm
    | succ i => simp at hq
  refine lv_aload hx hb dL_symbol_0 (lv_at hl 4 rfl) ?_
  refine lv_iconst (v := 0) hx hb dL_symbol_2 (by decide) ?_
  refine lv_aload_n hx hb dL_symbol_3 rfl (lv_at hl 0 rfl) ?_
  refine lv_iload_n hx hb dL_symbol_4 rfl (lv_at hl 1 rfl) ?_
  refine lv_iload_n hx hb dL_symbol_5 rfl (lv_at hl 2 rfl) ?_
  refine lv_iload_n hx hb dL_symbol_6 rfl (lv_at hl 3 rfl) ?_
  refine hc_VF (As := [.int p0, .int p1, .int p2]) (rest := [.int 0, .ref ao]) C hK (c_X9_symbol l D ct ad (FC ad) hG p0 p1 p2 S r  hf) hl.1 cp_X9_symbol mw_5_23 (rc_X9 hK hP) hP hS (fun q h => Or.inl h) ⟨rfl, rfl⟩ ⟨Nat.le_of_ble_eq_true rfl, Nat.le_of_ble_eq_true rfl⟩ rfl rfl (Nat.le_of_ble_eq_true rfl) dL_symbol_7 ⟨Nat.le_of_ble_eq_true rfl, Nat.le_of_ble_eq_true rfl⟩ (fun H locs hP hS hz hk => ?_)
  have hO := keptP hO hk hnO
  refine lv_i2l hx hb dL_symbol_10 rfl ?_
  refine lw_last C hK hP hO hG hao hS dL_symbol_11 (fun H locs hP hO hS => ?_)
  refine lv_goto (tgt := 19) hx hb dL_symbol_12 (by decide) ?_
  refine lv_iconst (v := 0) hx hb dL_symbol_19 (by decide) ?_
  refine W.widen (k := 1) (n := 6) (by decide) (by decide) ?_
  exact W.iret hx hb hr (fun t ht _ => ⟨rfl, by rw [ht]; exact hP, by rw [ht]; exact hO, hS.F ht⟩) hS.2.2 dL_symbol_20 hlocks
set_option maxHeartbeats 4000000 in
set_option maxRecDepth 100000 in
theorem wx_L_symbol_1 (l : Launch) (hl0 : l.stackTraces = false) (D : va_G) (ct : Nat → ClassId) (ad : Nat → Nat) (ao : Nat) (hG : Gd ad 70 (FC ad)) (hao : ∀ i : Nat, i < 70 → ad i ≠ ao) (p0 : Int32) (p1 : Int32) (p2 : Int32) (S : St)  (g : Nat → Int64) (hf : f_X9_symbol p0 p1 p2 S = some (.error 1)) : MetL l yL_symbol cL_symbol 6 [(0, 12, 15, 13)] rm_L_symbol D ct ad ao [.ref (ad 0), .int p0, .int p1, .int p2, .ref ao] 1 S S g g := by
  refine MetL.of RL (by decide) rfl (Nat.le_of_ble_eq_true rfl) ?_
  intro p e s m args below meth c C htab hK hP hO hX hN ls hl
  have hl : lv_has ls 6 [(0, .ref (ad 0)), (1, .int p0), (2, .int p1), (3, .int p2), (4, .ref ao)] := hl
  obtain ⟨hx, hb, hr, hml, hown, htL, hlocks⟩ := id C
  have hS : va_S (FL ad ao) s.heap s.heap [] := va_S.rf
  have hnO : ∀ (i : Nat) (q : Nat × va_E), (outW ct ao g)[i]? = some q → ¬ FC ad q.1 := by
    intro i q hq
    cases i with
    | zero =>
      simp at hq
      subst hq
      rintro ⟨i9, hi9, e9⟩
      exact hao i9 hi9 e9.symm
    | succ i => simp at hq
  refine lv_aload hx hb dL_symbol_0 (lv_at hl 4 rfl) ?_
  refine lv_iconst (v := 0) hx hb dL_symbol_2 (by decide) ?_
  refine lv_aload_n hx hb dL_symbol_3 rfl (lv_at hl 0 rfl) ?_
  refine lv_iload_n hx hb dL_symbol_4 rfl (lv_at hl 1 rfl) ?_
  refine lv_iload_n hx hb dL_symbol_5 rfl (lv_at hl 2 rfl) ?_
  refine lv_iload_n hx hb dL_symbol_6 rfl (lv_at hl 3 rfl) ?_
  have hXC : Xf (FC ad) s := hX.narrow (fun q h => Or.inl h)
  refine xc_VF (As := [.int p0, .int p1, .int p2]) (rest := [.int 0, .ref ao]) C hXC (x_X9_symbol l hl0 D ct ad (FC ad) hG p0 p1 p2 S _  hf) hl.1 cp_X9_symbol mw_5_23 (rc_X9 hK hP) hK hP hS va_S.rf (fun q h => Or.inl h) ⟨rfl, rfl⟩ ⟨Nat.le_of_ble_eq_true rfl, Nat.le_of_ble_eq_true rfl⟩ rfl rfl (Nat.le_of_ble_eq_true rfl) dL_symbol_7 ⟨Nat.le_of_ble_eq_true rfl, Nat.le_of_ble_eq_true rfl⟩ (fun q ce H locs hce hcv hcl hP hS hz hk => ?_)
  have hO := keptP hO hk hnO
  refine vx_catch (name := xn 1) (E := xn 1) hown [] (⟨0, 12, 15, 13⟩ : ExceptionTableEntry) [] (htab.trans rfl) (fun z hz => nomatch hz) rfl (by decide) (htL _ mw_2_138) (va_Nw.use rfl (hX.2.2.1 (xn 1) (List.mem_of_getElem? (i := 0) rfl))) hce hcv hcl ?_
  refine lv_astore (lv' := [(5, .ref q), (0, .ref (ad 0)), (1, .int p0), (2, .int p1), (3, .int p2), (4, .ref ao)]) hx hb dL_symbol_15 hl (by decide) rfl (fun ls hl => ?_)
  refine lv_iconst (v := 1) hx hb dL_symbol_17 (by decide) ?_
  exact W.iret hx hb hr (fun t ht _ => ⟨rfl, by rw [ht]; exact hP, by rw [ht]; exact hO, hS.F ht⟩) hS.2.2 dL_symbol_18 hlocks
def rm_L_obstacle : Room := { frames := 10, cells := 1, slots := 6, locals := 238 }
set_option maxHeartbeats 4000000 in
set_option maxRecDepth 100000 in
theorem wk_L_obstacle (l : Launch) (hl0 : l.stackTraces = false) (D : va_G) (ct : Nat → ClassId) (ad : Nat → Nat) (ao : Nat) (hG : Gd ad 70 (FC ad)) (hao : ∀ i : Nat, i < 70 → ad i ≠ ao) (p0 : Int32) (p1 : Int32) (S : St) (r : Int32) (g : Nat → Int64) (hf : f_X9_obstacle p0 p1 S = some (.ok r)) : MetL l yL_obstacle cL_obstacle 5 [(0, 10, 13, 13), (0, 10, 17, 55)] rm_L_obstacle D ct ad ao [.ref (ad 0), .int p0, .int p1, .ref ao] 0 S S g (vp_updL g (Int32.toNatClampNeg 0) (Int32.toInt64 r)) := by
  refine MetL.of RL (by decide) rfl (Nat.le_of_ble_eq_true rfl) ?_
  intro p e s m args below meth c C htab hK hP hO hX hN ls hl
  have hl : lv_has ls 5 [(0, .ref (ad 0)), (1, .int p0), (2, .int p1), (3, .ref ao)] := hl
  obtain ⟨hx, hb, hr, hml, hown, htL, hlocks⟩ := id C
  have hS : va_S (FL ad ao) s.heap s.heap [] := va_S.rf
  have hnO : ∀ (i : Nat) (q : Nat × va_E), (outW ct ao g)[i]? = some q → ¬ FC ad q.1 := by
    intro i q hq
    cases i with
    | zero =>
      simp at hq
      subst hq
      rintro ⟨i9, hi9, e9⟩
      exact hao i9 hi9 e9.symm
    | succ i => simp at hq
  refine lv_aload_n hx hb dL_obstacle_0 rfl (lv_at hl 3 rfl) ?_
  refine lv_iconst (v := 0) hx hb dL_obstacle_1 (by decide) ?_
  refine lv_aload_n hx hb dL_obstacle_2 rfl (lv_at hl 0 rfl) ?_
  refine lv_iload_n hx hb dL_obstacle_3 rfl (lv_at hl 1 rfl) ?_
  refine lv_iload_n hx hb dL_obstacle_4 rfl (lv_at hl 2 rfl) ?_
  refine hc_VF (As := [.int p0, .int p1]) (rest := [.int 0, .ref ao]) C hK (c_X9_obstacle l D ct ad (FC ad) hG p0 p1 S r  hf) hl.1 cp_X9_obstacle mw_5_48 (rc_X9 hK hP) hP hS (fun q h => Or.inl h) ⟨rfl, rfl⟩ ⟨Nat.le_of_ble_eq_true rfl, Nat.le_of_ble_eq_true rfl⟩ rfl rfl (Nat.le_of_ble_eq_true rfl) dL_obstacle_5 ⟨Nat.le_of_ble_eq_true rfl, Nat.le_of_ble_eq_true rfl⟩ (fun H locs hP hS hz hk => ?_)
  have hO := keptP hO hk hnO
  refine lv_i2l hx hb dL_obstacle_8 rfl ?_
  refine lw_last C hK hP hO hG hao hS dL_obstacle_9 (fun H locs hP hO hS => ?_)
  refine lv_goto (tgt := 21) hx hb dL_obstacle_10 (by decide) ?_
  refine lv_iconst (v := 0) hx hb dL_obstacle_21 (by decide) ?_
  refine W.widen (k := 1) (n := 6) (by decide) (by decide) ?_
  exact W.iret hx hb hr (fun t ht _ => ⟨rfl, by rw [ht]; exact hP, by rw [ht]; exact hO, hS.F ht⟩) hS.2.2 dL_obstacle_22 hlocks
set_option maxHeartbeats 4000000 in
set_option maxRecDepth 100000 in
theorem wx_L_obstacle_1 (l : Launch) (hl0 : l.stackTraces = false) (D : va_G) (ct : Nat → ClassId) (ad : Nat → Nat) (ao : Nat) (hG : Gd ad 70 (FC ad)) (hao : ∀ i : Nat, i < 70 → ad i ≠ ao) (p0 : Int32) (p1 : Int32) (S : St)  (g : Nat → Int64) (hf : f_X9_obstacle p0 p1 S = some (.error 1)) : MetL l yL_obstacle cL_obstacle 5 [(0, 10, 13, 13), (0, 10, 17, 55)] rm_L_obstacle D ct ad ao [.ref (ad 0), .int p0, .int p1, .ref ao] 1 S S g g := by
  refine MetL.of RL (by decide) rfl (Nat.le_of_ble_eq_true rfl) ?_
  intro p e s m args below meth c C htab hK hP hO hX hN ls hl
  have hl : lv_has ls 5 [(0, .ref (ad 0)), (1, .int p0), (2, .int p1), (3, .ref ao)] := hl
  obtain ⟨hx, hb, hr, hml, hown, htL, hlocks⟩ := id C
  have hS : va_S (FL ad ao) s.heap s.heap [] := va_S.rf
  have hnO : ∀ (i : Nat) (q : Nat × va_E), (outW ct ao g)[i]? = some q → ¬ FC ad q.1 := by
    intro i q hq
    cases i with
    | zero =>
      simp at hq
      subst hq
      rintro ⟨i9, hi9, e9⟩
      exact hao i9 hi9 e9.symm
    | succ i => simp at hq
  refine lv_aload_n hx hb dL_obstacle_0 rfl (lv_at hl 3 rfl) ?_
  refine lv_iconst (v := 0) hx hb dL_obstacle_1 (by decide) ?_
  refine lv_aload_n hx hb dL_obstacle_2 rfl (lv_at hl 0 rfl) ?_
  refine lv_iload_n hx hb dL_obstacle_3 rfl (lv_at hl 1 rfl) ?_
  refine lv_iload_n hx hb dL_obstacle_4 rfl (lv_at hl 2 rfl) ?_
  have hXC : Xf (FC ad) s := hX.narrow (fun q h => Or.inl h)
  refine xc_VF (As := [.int p0, .int p1]) (rest := [.int 0, .ref ao]) C hXC (x_X9_obstacle l hl0 D ct ad (FC ad) hG p0 p1 S _  hf) hl.1 cp_X9_obstacle mw_5_48 (rc_X9 hK hP) hK hP hS va_S.rf (fun q h => Or.inl h) ⟨rfl, rfl⟩ ⟨Nat.le_of_ble_eq_true rfl, Nat.le_of_ble_eq_true rfl⟩ rfl rfl (Nat.le_of_ble_eq_true rfl) dL_obstacle_5 ⟨Nat.le_of_ble_eq_true rfl, Nat.le_of_ble_eq_true rfl⟩ (fun q ce H locs hce hcv hcl hP hS hz hk => ?_)
  have hO := keptP hO hk hnO
  refine vx_catch (name := xn 1) (E := xn 1) hown [] (⟨0, 10, 13, 13⟩ : ExceptionTableEntry) [(⟨0, 10, 17, 55⟩ : ExceptionTableEntry)] (htab.trans rfl) (fun z hz => nomatch hz) rfl (by decide) (htL _ mw_2_138) (va_Nw.use rfl (hX.2.2.1 (xn 1) (List.mem_of_getElem? (i := 0) rfl))) hce hcv hcl ?_
  refine lv_astore (lv' := [(4, .ref q), (0, .ref (ad 0)), (1, .int p0), (2, .int p1), (3, .ref ao)]) hx hb dL_obstacle_13 hl (by decide) rfl (fun ls hl => ?_)
  refine lv_iconst (v := 1) hx hb dL_obstacle_15 (by decide) ?_
  exact W.iret hx hb hr (fun t ht _ => ⟨rfl, by rw [ht]; exact hP, by rw [ht]; exact hO, hS.F ht⟩) hS.2.2 dL_obstacle_16 hlocks
set_option maxHeartbeats 4000000 in
set_option maxRecDepth 100000 in
theorem wx_L_obstacle_6 (l : Launch) (hl0 : l.stackTraces = false) (D : va_G) (ct : Nat → ClassId) (ad : Nat → Nat) (ao : Nat) (hG : Gd ad 70 (FC ad)) (hao : ∀ i : Nat, i < 70 → ad i ≠ ao) (p0 : Int32) (p1 : Int32) (S : St)  (g : Nat → Int64) (hf : f_X9_obstacle p0 p1 S = some (.error 6)) : MetL l yL_obstacle cL_obstacle 5 [(0, 10, 13, 13), (0, 10, 17, 55)] rm_L_obstacle D ct ad ao [.ref (ad 0), .int p0, .int p1, .ref ao] 2 S S g g := by
  refine MetL.of RL (by decide) rfl (Nat.le_of_ble_eq_true rfl) ?_
  intro p e s m args below meth c C htab hK hP hO hX hN ls hl
  have hl : lv_has ls 5 [(0, .ref (ad 0)), (1, .int p0), (2, .int p1), (3, .ref ao)] := hl
  obtain ⟨hx, hb, hr, hml, hown, htL, hlocks⟩ := id C
  have hS : va_S (FL ad ao) s.heap s.heap [] := va_S.rf
  have hnO : ∀ (i : Nat) (q : Nat × va_E), (outW ct ao g)[i]? = some q → ¬ FC ad q.1 := by
    intro i q hq
    cases i with
    | zero =>
      simp at hq
      subst hq
      rintro ⟨i9, hi9, e9⟩
      exact hao i9 hi9 e9.symm
    | succ i => simp at hq
  refine lv_aload_n hx hb dL_obstacle_0 rfl (lv_at hl 3 rfl) ?_
  refine lv_iconst (v := 0) hx hb dL_obstacle_1 (by decide) ?_
  refine lv_aload_n hx hb dL_obstacle_2 rfl (lv_at hl 0 rfl) ?_
  refine lv_iload_n hx hb dL_obstacle_3 rfl (lv_at hl 1 rfl) ?_
  refine lv_iload_n hx hb dL_obstacle_4 rfl (lv_at hl 2 rfl) ?_
  have hXC : Xf (FC ad) s := hX.narrow (fun q h => Or.inl h)
  refine xc_VF (As := [.int p0, .int p1]) (rest := [.int 0, .ref ao]) C hXC (x_X9_obstacle l hl0 D ct ad (FC ad) hG p0 p1 S _  hf) hl.1 cp_X9_obstacle mw_5_48 (rc_X9 hK hP) hK hP hS va_S.rf (fun q h => Or.inl h) ⟨rfl, rfl⟩ ⟨Nat.le_of_ble_eq_true rfl, Nat.le_of_ble_eq_true rfl⟩ rfl rfl (Nat.le_of_ble_eq_true rfl) dL_obstacle_5 ⟨Nat.le_of_ble_eq_true rfl, Nat.le_of_ble_eq_true rfl⟩ (fun q ce H locs hce hcv hcl hP hS hz hk => ?_)
  have hO := keptP hO hk hnO
  refine vx_catch (name := xn 6) (E := xn 6) hown [(⟨0, 10, 13, 13⟩ : ExceptionTableEntry)] (⟨0, 10, 17, 55⟩ : ExceptionTableEntry) [] (htab.trans rfl) (by
    intro z hz
    simp only [List.mem_cons, List.not_mem_nil, or_false] at hz
    rcases hz with rfl
    · exact Or.inr ⟨by decide, _, htL _ mw_2_138, hN 6 1 (by decide) (by decide) (by decide) (by decide) (by decide)⟩) rfl (by decide) (htL _ mw_4_8) (va_Nw.use rfl (hX.2.2.1 (xn 6) (List.mem_of_getElem? (i := 5) rfl))) hce hcv hcl ?_
  refine lv_astore (lv' := [(4, .ref q), (0, .ref (ad 0)), (1, .int p0), (2, .int p1), (3, .ref ao)]) hx hb dL_obstacle_17 hl (by decide) rfl (fun ls hl => ?_)
  refine lv_iconst (v := 2) hx hb dL_obstacle_19 (by decide) ?_
  exact W.iret hx hb hr (fun t ht _ => ⟨rfl, by rw [ht]; exact hP, by rw [ht]; exact hO, hS.F ht⟩) hS.2.2 dL_obstacle_20 hlocks
def rm_L_setSize : Room := { frames := 10, cells := 1, slots := 6, locals := 200 }
set_option maxHeartbeats 4000000 in
set_option maxRecDepth 100000 in
theorem wk_L_setSize (l : Launch) (hl0 : l.stackTraces = false) (D : va_G) (ct : Nat → ClassId) (ad : Nat → Nat) (ao : Nat) (hG : Gd ad 70 (FC ad)) (hao : ∀ i : Nat, i < 70 → ad i ≠ ao) (p0 : Int32) (S S' : St) (r : Int32) (g : Nat → Int64) (hf : f_X9_setSize p0 S = some (.ok r, S')) : MetL l yL_setSize cL_setSize 4 [(0, 9, 12, 13)] rm_L_setSize D ct ad ao [.ref (ad 0), .int p0, .ref ao] 0 S S' g (vp_updL g (Int32.toNatClampNeg 0) (Int32.toInt64 r)) := by
  refine MetL.of RL (by decide) rfl (Nat.le_of_ble_eq_true rfl) ?_
  intro p e s m args below meth c C htab hK hP hO hX hN ls hl
  have hl : lv_has ls 4 [(0, .ref (ad 0)), (1, .int p0), (2, .ref ao)] := hl
  obtain ⟨hx, hb, hr, hml, hown, htL, hlocks⟩ := id C
  have hS : va_S (FL ad ao) s.heap s.heap [] := va_S.rf
  have hnO : ∀ (i : Nat) (q : Nat × va_E), (outW ct ao g)[i]? = some q → ¬ FC ad q.1 := by
    intro i q hq
    cases i with
    | zero =>
      simp at hq
      subst hq
      rintro ⟨i9, hi9, e9⟩
      exact hao i9 hi9 e9.symm
    | succ i => simp at hq
  refine lv_aload_n hx hb dL_setSize_0 rfl (lv_at hl 2 rfl) ?_
  refine lv_iconst (v := 0) hx hb dL_setSize_1 (by decide) ?_
  refine lv_aload_n hx hb dL_setSize_2 rfl (lv_at hl 0 rfl) ?_
  refine lv_iload_n hx hb dL_setSize_3 rfl (lv_at hl 1 rfl) ?_
  refine hc_VF (As := [.int p0]) (rest := [.int 0, .ref ao]) C hK (c_X9_setSize l D ct ad (FC ad) hG p0 S r S' hf) hl.1 cp_X9_setSize mw_5_62 (rc_X9 hK hP) hP hS (fun q h => Or.inl h) ⟨rfl, rfl⟩ ⟨Nat.le_of_ble_eq_true rfl, Nat.le_of_ble_eq_true rfl⟩ rfl rfl (Nat.le_of_ble_eq_true rfl) dL_setSize_4 ⟨Nat.le_of_ble_eq_true rfl, Nat.le_of_ble_eq_true rfl⟩ (fun H locs hP hS hz hk => ?_)
  have hO := keptP hO hk hnO
  refine lv_i2l hx hb dL_setSize_7 rfl ?_
  refine lw_last C hK hP hO hG hao hS dL_setSize_8 (fun H locs hP hO hS => ?_)
  refine lv_goto (tgt := 15) hx hb dL_setSize_9 (by decide) ?_
  refine lv_iconst (v := 0) hx hb dL_setSize_15 (by decide) ?_
  refine W.widen (k := 1) (n := 6) (by decide) (by decide) ?_
  exact W.iret hx hb hr (fun t ht _ => ⟨rfl, by rw [ht]; exact hP, by rw [ht]; exact hO, hS.F ht⟩) hS.2.2 dL_setSize_16 hlocks
set_option maxHeartbeats 4000000 in
set_option maxRecDepth 100000 in
theorem wx_L_setSize_1 (l : Launch) (hl0 : l.stackTraces = false) (D : va_G) (ct : Nat → ClassId) (ad : Nat → Nat) (ao : Nat) (hG : Gd ad 70 (FC ad)) (hao : ∀ i : Nat, i < 70 → ad i ≠ ao) (p0 : Int32) (S S' : St)  (g : Nat → Int64) (hf : f_X9_setSize p0 S = some (.error 1, S')) : MetL l yL_setSize cL_setSize 4 [(0, 9, 12, 13)] rm_L_setSize D ct ad ao [.ref (ad 0), .int p0, .ref ao] 1 S S' g g := by
  refine MetL.of RL (by decide) rfl (Nat.le_of_ble_eq_true rfl) ?_
  intro p e s m args below meth c C htab hK hP hO hX hN ls hl
  have hl : lv_has ls 4 [(0, .ref (ad 0)), (1, .int p0), (2, .ref ao)] := hl
  obtain ⟨hx, hb, hr, hml, hown, htL, hlocks⟩ := id C
  have hS : va_S (FL ad ao) s.heap s.heap [] := va_S.rf
  have hnO : ∀ (i : Nat) (q : Nat × va_E), (outW ct ao g)[i]? = some q → ¬ FC ad q.1 := by
    intro i q hq
    cases i with
    | zero =>
      simp at hq
      subst hq
      rintro ⟨i9, hi9, e9⟩
      exact hao i9 hi9 e9.symm
    | succ i => simp at hq
  refine lv_aload_n hx hb dL_setSize_0 rfl (lv_at hl 2 rfl) ?_
  refine lv_iconst (v := 0) hx hb dL_setSize_1 (by decide) ?_
  refine lv_aload_n hx hb dL_setSize_2 rfl (lv_at hl 0 rfl) ?_
  refine lv_iload_n hx hb dL_setSize_3 rfl (lv_at hl 1 rfl) ?_
  have hXC : Xf (FC ad) s := hX.narrow (fun q h => Or.inl h)
  refine xc_VF (As := [.int p0]) (rest := [.int 0, .ref ao]) C hXC (x_X9_setSize l hl0 D ct ad (FC ad) hG p0 S _ _ hf) hl.1 cp_X9_setSize mw_5_62 (rc_X9 hK hP) hK hP hS va_S.rf (fun q h => Or.inl h) ⟨rfl, rfl⟩ ⟨Nat.le_of_ble_eq_true rfl, Nat.le_of_ble_eq_true rfl⟩ rfl rfl (Nat.le_of_ble_eq_true rfl) dL_setSize_4 ⟨Nat.le_of_ble_eq_true rfl, Nat.le_of_ble_eq_true rfl⟩ (fun q ce H locs hce hcv hcl hP hS hz hk => ?_)
  have hO := keptP hO hk hnO
  refine vx_catch (name := xn 1) (E := xn 1) hown [] (⟨0, 9, 12, 13⟩ : ExceptionTableEntry) [] (htab.trans rfl) (fun z hz => nomatch hz) rfl (by decide) (htL _ mw_2_138) (va_Nw.use rfl (hX.2.2.1 (xn 1) (List.mem_of_getElem? (i := 0) rfl))) hce hcv hcl ?_
  refine lv_astore_n (lv' := [(3, .ref q), (0, .ref (ad 0)), (1, .int p0), (2, .ref ao)]) hx hb dL_setSize_12 rfl hl (by decide) rfl (fun ls hl => ?_)
  refine lv_iconst (v := 1) hx hb dL_setSize_13 (by decide) ?_
  exact W.iret hx hb hr (fun t ht _ => ⟨rfl, by rw [ht]; exact hP, by rw [ht]; exact hO, hS.F ht⟩) hS.2.2 dL_setSize_14 hlocks
def rm_L_setEntry : Room := { frames := 10, cells := 1, slots := 6, locals := 201 }
set_option maxHeartbeats 4000000 in
set_option maxRecDepth 100000 in
theorem wk_L_setEntry (l : Launch) (hl0 : l.stackTraces = false) (D : va_G) (ct : Nat → ClassId) (ad : Nat → Nat) (ao : Nat) (hG : Gd ad 70 (FC ad)) (hao : ∀ i : Nat, i < 70 → ad i ≠ ao) (p0 : Int32) (p1 : Int32) (p2 : Int32) (S S' : St) (r : Int32) (g : Nat → Int64) (hf : f_X9_setEntry p0 p1 p2 S = some (.ok r, S')) : MetL l yL_setEntry cL_setEntry 6 [(0, 12, 15, 27), (0, 12, 19, 13)] rm_L_setEntry D ct ad ao [.ref (ad 0), .int p0, .int p1, .int p2, .ref ao] 0 S S' g (vp_updL g (Int32.toNatClampNeg 0) (Int32.toInt64 r)) := by
  refine MetL.of RL (by decide) rfl (Nat.le_of_ble_eq_true rfl) ?_
  intro p e s m args below meth c C htab hK hP hO hX hN ls hl
  have hl : lv_has ls 6 [(0, .ref (ad 0)), (1, .int p0), (2, .int p1), (3, .int p2), (4, .ref ao)] := hl
  obtain ⟨hx, hb, hr, hml, hown, htL, hlocks⟩ := id C
  have hS : va_S (FL ad ao) s.heap s.heap [] := va_S.rf
  have hnO : ∀ (i : Nat) (q : Nat × va_E), (outW ct ao g)[i]? = some q → ¬ FC ad q.1 := by
    intro i q hq
    cases i with
    | zero =>
      simp at hq
      subst hq
      rintro ⟨i9, hi9, e9⟩
      exact hao i9 hi9 e9.symm
    | succ i => simp at hq
  refine lv_aload hx hb dL_setEntry_0 (lv_at hl 4 rfl) ?_
  refine lv_iconst (v := 0) hx hb dL_setEntry_2 (by decide) ?_
  refine lv_aload_n hx hb dL_setEntry_3 rfl (lv_at hl 0 rfl) ?_
  refine lv_iload_n hx hb dL_setEntry_4 rfl (lv_at hl 1 rfl) ?_
  refine lv_iload_n hx hb dL_setEntry_5 rfl (lv_at hl 2 rfl) ?_
  refine lv_iload_n hx hb dL_setEntry_6 rfl (lv_at hl 3 rfl) ?_
  refine hc_VF (As := [.int p0, .int p1, .int p2]) (rest := [.int 0, .ref ao]) C hK (c_X9_setEntry l D ct ad (FC ad) hG p0 p1 p2 S r S' hf) hl.1 cp_X9_setEntry mw_5_73 (rc_X9 hK hP) hP hS (fun q h => Or.inl h) ⟨rfl, rfl⟩ ⟨Nat.le_of_ble_eq_true rfl, Nat.le_of_ble_eq_true rfl⟩ rfl rfl (Nat.le_of_ble_eq_true rfl) dL_setEntry_7 ⟨Nat.le_of_ble_eq_true rfl, Nat.le_of_ble_eq_true rfl⟩ (fun H locs hP hS hz hk => ?_)
  have hO := keptP hO hk hnO
  refine lv_i2l hx hb dL_setEntry_10 rfl ?_
  refine lw_last C hK hP hO hG hao hS dL_setEntry_11 (fun H locs hP hO hS => ?_)
  refine lv_goto (tgt := 23) hx hb dL_setEntry_12 (by decide) ?_
  refine lv_iconst (v := 0) hx hb dL_setEntry_23 (by decide) ?_
  refine W.widen (k := 1) (n := 6) (by decide) (by decide) ?_
  exact W.iret hx hb hr (fun t ht _ => ⟨rfl, by rw [ht]; exact hP, by rw [ht]; exact hO, hS.F ht⟩) hS.2.2 dL_setEntry_24 hlocks
set_option maxHeartbeats 4000000 in
set_option maxRecDepth 100000 in
theorem wx_L_setEntry_1 (l : Launch) (hl0 : l.stackTraces = false) (D : va_G) (ct : Nat → ClassId) (ad : Nat → Nat) (ao : Nat) (hG : Gd ad 70 (FC ad)) (hao : ∀ i : Nat, i < 70 → ad i ≠ ao) (p0 : Int32) (p1 : Int32) (p2 : Int32) (S S' : St)  (g : Nat → Int64) (hf : f_X9_setEntry p0 p1 p2 S = some (.error 1, S')) : MetL l yL_setEntry cL_setEntry 6 [(0, 12, 15, 27), (0, 12, 19, 13)] rm_L_setEntry D ct ad ao [.ref (ad 0), .int p0, .int p1, .int p2, .ref ao] 2 S S' g g := by
  refine MetL.of RL (by decide) rfl (Nat.le_of_ble_eq_true rfl) ?_
  intro p e s m args below meth c C htab hK hP hO hX hN ls hl
  have hl : lv_has ls 6 [(0, .ref (ad 0)), (1, .int p0), (2, .int p1), (3, .int p2), (4, .ref ao)] := hl
  obtain ⟨hx, hb, hr, hml, hown, htL, hlocks⟩ := id C
  have hS : va_S (FL ad ao) s.heap s.heap [] := va_S.rf
  have hnO : ∀ (i : Nat) (q : Nat × va_E), (outW ct ao g)[i]? = some q → ¬ FC ad q.1 := by
    intro i q hq
    cases i with
    | zero =>
      simp at hq
      subst hq
      rintro ⟨i9, hi9, e9⟩
      exact hao i9 hi9 e9.symm
    | succ i => simp at hq
  refine lv_aload hx hb dL_setEntry_0 (lv_at hl 4 rfl) ?_
  refine lv_iconst (v := 0) hx hb dL_setEntry_2 (by decide) ?_
  refine lv_aload_n hx hb dL_setEntry_3 rfl (lv_at hl 0 rfl) ?_
  refine lv_iload_n hx hb dL_setEntry_4 rfl (lv_at hl 1 rfl) ?_
  refine lv_iload_n hx hb dL_setEntry_5 rfl (lv_at hl 2 rfl) ?_
  refine lv_iload_n hx hb dL_setEntry_6 rfl (lv_at hl 3 rfl) ?_
  have hXC : Xf (FC ad) s := hX.narrow (fun q h => Or.inl h)
  refine xc_VF (As := [.int p0, .int p1, .int p2]) (rest := [.int 0, .ref ao]) C hXC (x_X9_setEntry l hl0 D ct ad (FC ad) hG p0 p1 p2 S _ _ hf) hl.1 cp_X9_setEntry mw_5_73 (rc_X9 hK hP) hK hP hS va_S.rf (fun q h => Or.inl h) ⟨rfl, rfl⟩ ⟨Nat.le_of_ble_eq_true rfl, Nat.le_of_ble_eq_true rfl⟩ rfl rfl (Nat.le_of_ble_eq_true rfl) dL_setEntry_7 ⟨Nat.le_of_ble_eq_true rfl, Nat.le_of_ble_eq_true rfl⟩ (fun q ce H locs hce hcv hcl hP hS hz hk => ?_)
  have hO := keptP hO hk hnO
  refine vx_catch (name := xn 1) (E := xn 1) hown [(⟨0, 12, 15, 27⟩ : ExceptionTableEntry)] (⟨0, 12, 19, 13⟩ : ExceptionTableEntry) [] (htab.trans rfl) (by
    intro z hz
    simp only [List.mem_cons, List.not_mem_nil, or_false] at hz
    rcases hz with rfl
    · exact Or.inr ⟨by decide, _, htL _ mw_3_120, hN 1 3 (by decide) (by decide) (by decide) (by decide) (by decide)⟩) rfl (by decide) (htL _ mw_2_138) (va_Nw.use rfl (hX.2.2.1 (xn 1) (List.mem_of_getElem? (i := 0) rfl))) hce hcv hcl ?_
  refine lv_astore (lv' := [(5, .ref q), (0, .ref (ad 0)), (1, .int p0), (2, .int p1), (3, .int p2), (4, .ref ao)]) hx hb dL_setEntry_19 hl (by decide) rfl (fun ls hl => ?_)
  refine lv_iconst (v := 2) hx hb dL_setEntry_21 (by decide) ?_
  exact W.iret hx hb hr (fun t ht _ => ⟨rfl, by rw [ht]; exact hP, by rw [ht]; exact hO, hS.F ht⟩) hS.2.2 dL_setEntry_22 hlocks
set_option maxHeartbeats 4000000 in
set_option maxRecDepth 100000 in
theorem wx_L_setEntry_3 (l : Launch) (hl0 : l.stackTraces = false) (D : va_G) (ct : Nat → ClassId) (ad : Nat → Nat) (ao : Nat) (hG : Gd ad 70 (FC ad)) (hao : ∀ i : Nat, i < 70 → ad i ≠ ao) (p0 : Int32) (p1 : Int32) (p2 : Int32) (S S' : St)  (g : Nat → Int64) (hf : f_X9_setEntry p0 p1 p2 S = some (.error 3, S')) : MetL l yL_setEntry cL_setEntry 6 [(0, 12, 15, 27), (0, 12, 19, 13)] rm_L_setEntry D ct ad ao [.ref (ad 0), .int p0, .int p1, .int p2, .ref ao] 1 S S' g g := by
  refine MetL.of RL (by decide) rfl (Nat.le_of_ble_eq_true rfl) ?_
  intro p e s m args below meth c C htab hK hP hO hX hN ls hl
  have hl : lv_has ls 6 [(0, .ref (ad 0)), (1, .int p0), (2, .int p1), (3, .int p2), (4, .ref ao)] := hl
  obtain ⟨hx, hb, hr, hml, hown, htL, hlocks⟩ := id C
  have hS : va_S (FL ad ao) s.heap s.heap [] := va_S.rf
  have hnO : ∀ (i : Nat) (q : Nat × va_E), (outW ct ao g)[i]? = some q → ¬ FC ad q.1 := by
    intro i q hq
    cases i with
    | zero =>
      simp at hq
      subst hq
      rintro ⟨i9, hi9, e9⟩
      exact hao i9 hi9 e9.symm
    | succ i => simp at hq
  refine lv_aload hx hb dL_setEntry_0 (lv_at hl 4 rfl) ?_
  refine lv_iconst (v := 0) hx hb dL_setEntry_2 (by decide) ?_
  refine lv_aload_n hx hb dL_setEntry_3 rfl (lv_at hl 0 rfl) ?_
  refine lv_iload_n hx hb dL_setEntry_4 rfl (lv_at hl 1 rfl) ?_
  refine lv_iload_n hx hb dL_setEntry_5 rfl (lv_at hl 2 rfl) ?_
  refine lv_iload_n hx hb dL_setEntry_6 rfl (lv_at hl 3 rfl) ?_
  have hXC : Xf (FC ad) s := hX.narrow (fun q h => Or.inl h)
  refine xc_VF (As := [.int p0, .int p1, .int p2]) (rest := [.int 0, .ref ao]) C hXC (x_X9_setEntry l hl0 D ct ad (FC ad) hG p0 p1 p2 S _ _ hf) hl.1 cp_X9_setEntry mw_5_73 (rc_X9 hK hP) hK hP hS va_S.rf (fun q h => Or.inl h) ⟨rfl, rfl⟩ ⟨Nat.le_of_ble_eq_true rfl, Nat.le_of_ble_eq_true rfl⟩ rfl rfl (Nat.le_of_ble_eq_true rfl) dL_setEntry_7 ⟨Nat.le_of_ble_eq_true rfl, Nat.le_of_ble_eq_true rfl⟩ (fun q ce H locs hce hcv hcl hP hS hz hk => ?_)
  have hO := keptP hO hk hnO
  refine vx_catch (name := xn 3) (E := xn 3) hown [] (⟨0, 12, 15, 27⟩ : ExceptionTableEntry) [(⟨0, 12, 19, 13⟩ : ExceptionTableEntry)] (htab.trans rfl) (fun z hz => nomatch hz) rfl (by decide) (htL _ mw_3_120) (va_Nw.use rfl (hX.2.2.1 (xn 3) (List.mem_of_getElem? (i := 2) rfl))) hce hcv hcl ?_
  refine lv_astore (lv' := [(5, .ref q), (0, .ref (ad 0)), (1, .int p0), (2, .int p1), (3, .int p2), (4, .ref ao)]) hx hb dL_setEntry_15 hl (by decide) rfl (fun ls hl => ?_)
  refine lv_iconst (v := 1) hx hb dL_setEntry_17 (by decide) ?_
  exact W.iret hx hb hr (fun t ht _ => ⟨rfl, by rw [ht]; exact hP, by rw [ht]; exact hO, hS.F ht⟩) hS.2.2 dL_setEntry_18 hlocks
def rm_L_shape : Room := { frames := 9, cells := 1, slots := 6, locals := 173 }
set_option maxHeartbeats 4000000 in
set_option maxRecDepth 100000 in
theorem wk_L_shape (l : Launch) (hl0 : l.stackTraces = false) (D : va_G) (ct : Nat → ClassId) (ad : Nat → Nat) (ao : Nat) (hG : Gd ad 70 (FC ad)) (hao : ∀ i : Nat, i < 70 → ad i ≠ ao) (p0 : Int32) (S S' : St) (r : Int32) (g : Nat → Int64) (hf : f_X9_shape p0 S = some (.ok r, S')) : MetL l yL_shape cL_shape 4 [(0, 9, 12, 55)] rm_L_shape D ct ad ao [.ref (ad 0), .int p0, .ref ao] 0 S S' g (vp_updL g (Int32.toNatClampNeg 0) (Int32.toInt64 r)) := by
  refine MetL.of RL (by decide) rfl (Nat.le_of_ble_eq_true rfl) ?_
  intro p e s m args below meth c C htab hK hP hO hX hN ls hl
  have hl : lv_has ls 4 [(0, .ref (ad 0)), (1, .int p0), (2, .ref ao)] := hl
  obtain ⟨hx, hb, hr, hml, hown, htL, hlocks⟩ := id C
  have hS : va_S (FL ad ao) s.heap s.heap [] := va_S.rf
  have hnO : ∀ (i : Nat) (q : Nat × va_E), (outW ct ao g)[i]? = some q → ¬ FC ad q.1 := by
    intro i q hq
    cases i with
    | zero =>
      simp at hq
      subst hq
      rintro ⟨i9, hi9, e9⟩
      exact hao i9 hi9 e9.symm
    | succ i => simp at hq
  refine lv_aload_n hx hb dL_shape_0 rfl (lv_at hl 2 rfl) ?_
  refine lv_iconst (v := 0) hx hb dL_shape_1 (by decide) ?_
  refine lv_aload_n hx hb dL_shape_2 rfl (lv_at hl 0 rfl) ?_
  refine lv_iload_n hx hb dL_shape_3 rfl (lv_at hl 1 rfl) ?_
  refine hc_VF (As := [.int p0]) (rest := [.int 0, .ref ao]) C hK (c_X9_shape l D ct ad (FC ad) hG p0 S r S' hf) hl.1 cp_X9_shape mw_5_89 (rc_X9 hK hP) hP hS (fun q h => Or.inl h) ⟨rfl, rfl⟩ ⟨Nat.le_of_ble_eq_true rfl, Nat.le_of_ble_eq_true rfl⟩ rfl rfl (Nat.le_of_ble_eq_true rfl) dL_shape_4 ⟨Nat.le_of_ble_eq_true rfl, Nat.le_of_ble_eq_true rfl⟩ (fun H locs hP hS hz hk => ?_)
  have hO := keptP hO hk hnO
  refine lv_i2l hx hb dL_shape_7 rfl ?_
  refine lw_last C hK hP hO hG hao hS dL_shape_8 (fun H locs hP hO hS => ?_)
  refine lv_goto (tgt := 15) hx hb dL_shape_9 (by decide) ?_
  refine lv_iconst (v := 0) hx hb dL_shape_15 (by decide) ?_
  refine W.widen (k := 1) (n := 6) (by decide) (by decide) ?_
  exact W.iret hx hb hr (fun t ht _ => ⟨rfl, by rw [ht]; exact hP, by rw [ht]; exact hO, hS.F ht⟩) hS.2.2 dL_shape_16 hlocks
set_option maxHeartbeats 4000000 in
set_option maxRecDepth 100000 in
theorem wx_L_shape_6 (l : Launch) (hl0 : l.stackTraces = false) (D : va_G) (ct : Nat → ClassId) (ad : Nat → Nat) (ao : Nat) (hG : Gd ad 70 (FC ad)) (hao : ∀ i : Nat, i < 70 → ad i ≠ ao) (p0 : Int32) (S S' : St)  (g : Nat → Int64) (hf : f_X9_shape p0 S = some (.error 6, S')) : MetL l yL_shape cL_shape 4 [(0, 9, 12, 55)] rm_L_shape D ct ad ao [.ref (ad 0), .int p0, .ref ao] 1 S S' g g := by
  refine MetL.of RL (by decide) rfl (Nat.le_of_ble_eq_true rfl) ?_
  intro p e s m args below meth c C htab hK hP hO hX hN ls hl
  have hl : lv_has ls 4 [(0, .ref (ad 0)), (1, .int p0), (2, .ref ao)] := hl
  obtain ⟨hx, hb, hr, hml, hown, htL, hlocks⟩ := id C
  have hS : va_S (FL ad ao) s.heap s.heap [] := va_S.rf
  have hnO : ∀ (i : Nat) (q : Nat × va_E), (outW ct ao g)[i]? = some q → ¬ FC ad q.1 := by
    intro i q hq
    cases i with
    | zero =>
      simp at hq
      subst hq
      rintro ⟨i9, hi9, e9⟩
      exact hao i9 hi9 e9.symm
    | succ i => simp at hq
  refine lv_aload_n hx hb dL_shape_0 rfl (lv_at hl 2 rfl) ?_
  refine lv_iconst (v := 0) hx hb dL_shape_1 (by decide) ?_
  refine lv_aload_n hx hb dL_shape_2 rfl (lv_at hl 0 rfl) ?_
  refine lv_iload_n hx hb dL_shape_3 rfl (lv_at hl 1 rfl) ?_
  have hXC : Xf (FC ad) s := hX.narrow (fun q h => Or.inl h)
  refine xc_VF (As := [.int p0]) (rest := [.int 0, .ref ao]) C hXC (x_X9_shape l hl0 D ct ad (FC ad) hG p0 S _ _ hf) hl.1 cp_X9_shape mw_5_89 (rc_X9 hK hP) hK hP hS va_S.rf (fun q h => Or.inl h) ⟨rfl, rfl⟩ ⟨Nat.le_of_ble_eq_true rfl, Nat.le_of_ble_eq_true rfl⟩ rfl rfl (Nat.le_of_ble_eq_true rfl) dL_shape_4 ⟨Nat.le_of_ble_eq_true rfl, Nat.le_of_ble_eq_true rfl⟩ (fun q ce H locs hce hcv hcl hP hS hz hk => ?_)
  have hO := keptP hO hk hnO
  refine vx_catch (name := xn 6) (E := xn 6) hown [] (⟨0, 9, 12, 55⟩ : ExceptionTableEntry) [] (htab.trans rfl) (fun z hz => nomatch hz) rfl (by decide) (htL _ mw_4_8) (va_Nw.use rfl (hX.2.2.1 (xn 6) (List.mem_of_getElem? (i := 5) rfl))) hce hcv hcl ?_
  refine lv_astore_n (lv' := [(3, .ref q), (0, .ref (ad 0)), (1, .int p0), (2, .ref ao)]) hx hb dL_shape_12 rfl hl (by decide) rfl (fun ls hl => ?_)
  refine lv_iconst (v := 1) hx hb dL_shape_13 (by decide) ?_
  exact W.iret hx hb hr (fun t ht _ => ⟨rfl, by rw [ht]; exact hP, by rw [ht]; exact hO, hS.F ht⟩) hS.2.2 dL_shape_14 hlocks
def rm_L_value : Room := { frames := 10, cells := 1, slots := 6, locals := 199 }
set_option maxHeartbeats 4000000 in
set_option maxRecDepth 100000 in
theorem wk_L_value (l : Launch) (hl0 : l.stackTraces = false) (D : va_G) (ct : Nat → ClassId) (ad : Nat → Nat) (ao : Nat) (hG : Gd ad 70 (FC ad)) (hao : ∀ i : Nat, i < 70 → ad i ≠ ao) (p0 : Int32) (S S' : St) (r : Int32) (g : Nat → Int64) (hf : f_X9_value p0 S = some (.ok r, S')) : MetL l yL_value cL_value 4 [(0, 9, 12, 13), (0, 9, 15, 21)] rm_L_value D ct ad ao [.ref (ad 0), .int p0, .ref ao] 0 S S' g (vp_updL g (Int32.toNatClampNeg 0) (Int32.toInt64 r)) := by
  refine MetL.of RL (by decide) rfl (Nat.le_of_ble_eq_true rfl) ?_
  intro p e s m args below meth c C htab hK hP hO hX hN ls hl
  have hl : lv_has ls 4 [(0, .ref (ad 0)), (1, .int p0), (2, .ref ao)] := hl
  obtain ⟨hx, hb, hr, hml, hown, htL, hlocks⟩ := id C
  have hS : va_S (FL ad ao) s.heap s.heap [] := va_S.rf
  have hnO : ∀ (i : Nat) (q : Nat × va_E), (outW ct ao g)[i]? = some q → ¬ FC ad q.1 := by
    intro i q hq
    cases i with
    | zero =>
      simp at hq
      subst hq
      rintro ⟨i9, hi9, e9⟩
      exact hao i9 hi9 e9.symm
    | succ i => simp at hq
  refine lv_aload_n hx hb dL_value_0 rfl (lv_at hl 2 rfl) ?_
  refine lv_iconst (v := 0) hx hb dL_value_1 (by decide) ?_
  refine lv_aload_n hx hb dL_value_2 rfl (lv_at hl 0 rfl) ?_
  refine lv_iload_n hx hb dL_value_3 rfl (lv_at hl 1 rfl) ?_
  refine hc_VF (As := [.int p0]) (rest := [.int 0, .ref ao]) C hK (c_X9_value l D ct ad (FC ad) hG p0 S r S' hf) hl.1 cp_X9_value mw_5_98 (rc_X9 hK hP) hP hS (fun q h => Or.inl h) ⟨rfl, rfl⟩ ⟨Nat.le_of_ble_eq_true rfl, Nat.le_of_ble_eq_true rfl⟩ rfl rfl (Nat.le_of_ble_eq_true rfl) dL_value_4 ⟨Nat.le_of_ble_eq_true rfl, Nat.le_of_ble_eq_true rfl⟩ (fun H locs hP hS hz hk => ?_)
  have hO := keptP hO hk hnO
  refine lv_i2l hx hb dL_value_7 rfl ?_
  refine lw_last C hK hP hO hG hao hS dL_value_8 (fun H locs hP hO hS => ?_)
  refine lv_goto (tgt := 18) hx hb dL_value_9 (by decide) ?_
  refine lv_iconst (v := 0) hx hb dL_value_18 (by decide) ?_
  refine W.widen (k := 1) (n := 6) (by decide) (by decide) ?_
  exact W.iret hx hb hr (fun t ht _ => ⟨rfl, by rw [ht]; exact hP, by rw [ht]; exact hO, hS.F ht⟩) hS.2.2 dL_value_19 hlocks
set_option maxHeartbeats 4000000 in
set_option maxRecDepth 100000 in
theorem wx_L_value_1 (l : Launch) (hl0 : l.stackTraces = false) (D : va_G) (ct : Nat → ClassId) (ad : Nat → Nat) (ao : Nat) (hG : Gd ad 70 (FC ad)) (hao : ∀ i : Nat, i < 70 → ad i ≠ ao) (p0 : Int32) (S S' : St)  (g : Nat → Int64) (hf : f_X9_value p0 S = some (.error 1, S')) : MetL l yL_value cL_value 4 [(0, 9, 12, 13), (0, 9, 15, 21)] rm_L_value D ct ad ao [.ref (ad 0), .int p0, .ref ao] 1 S S' g g := by
  refine MetL.of RL (by decide) rfl (Nat.le_of_ble_eq_true rfl) ?_
  intro p e s m args below meth c C htab hK hP hO hX hN ls hl
  have hl : lv_has ls 4 [(0, .ref (ad 0)), (1, .int p0), (2, .ref ao)] := hl
  obtain ⟨hx, hb, hr, hml, hown, htL, hlocks⟩ := id C
  have hS : va_S (FL ad ao) s.heap s.heap [] := va_S.rf
  have hnO : ∀ (i : Nat) (q : Nat × va_E), (outW ct ao g)[i]? = some q → ¬ FC ad q.1 := by
    intro i q hq
    cases i with
    | zero =>
      simp at hq
      subst hq
      rintro ⟨i9, hi9, e9⟩
      exact hao i9 hi9 e9.symm
    | succ i => simp at hq
  refine lv_aload_n hx hb dL_value_0 rfl (lv_at hl 2 rfl) ?_
  refine lv_iconst (v := 0) hx hb dL_value_1 (by decide) ?_
  refine lv_aload_n hx hb dL_value_2 rfl (lv_at hl 0 rfl) ?_
  refine lv_iload_n hx hb dL_value_3 rfl (lv_at hl 1 rfl) ?_
  have hXC : Xf (FC ad) s := hX.narrow (fun q h => Or.inl h)
  refine xc_VF (As := [.int p0]) (rest := [.int 0, .ref ao]) C hXC (x_X9_value l hl0 D ct ad (FC ad) hG p0 S _ _ hf) hl.1 cp_X9_value mw_5_98 (rc_X9 hK hP) hK hP hS va_S.rf (fun q h => Or.inl h) ⟨rfl, rfl⟩ ⟨Nat.le_of_ble_eq_true rfl, Nat.le_of_ble_eq_true rfl⟩ rfl rfl (Nat.le_of_ble_eq_true rfl) dL_value_4 ⟨Nat.le_of_ble_eq_true rfl, Nat.le_of_ble_eq_true rfl⟩ (fun q ce H locs hce hcv hcl hP hS hz hk => ?_)
  have hO := keptP hO hk hnO
  refine vx_catch (name := xn 1) (E := xn 1) hown [] (⟨0, 9, 12, 13⟩ : ExceptionTableEntry) [(⟨0, 9, 15, 21⟩ : ExceptionTableEntry)] (htab.trans rfl) (fun z hz => nomatch hz) rfl (by decide) (htL _ mw_2_138) (va_Nw.use rfl (hX.2.2.1 (xn 1) (List.mem_of_getElem? (i := 0) rfl))) hce hcv hcl ?_
  refine lv_astore_n (lv' := [(3, .ref q), (0, .ref (ad 0)), (1, .int p0), (2, .ref ao)]) hx hb dL_value_12 rfl hl (by decide) rfl (fun ls hl => ?_)
  refine lv_iconst (v := 1) hx hb dL_value_13 (by decide) ?_
  exact W.iret hx hb hr (fun t ht _ => ⟨rfl, by rw [ht]; exact hP, by rw [ht]; exact hO, hS.F ht⟩) hS.2.2 dL_value_14 hlocks
set_option maxHeartbeats 4000000 in
set_option maxRecDepth 100000 in
theorem wx_L_value_2 (l : Launch) (hl0 : l.stackTraces = false) (D : va_G) (ct : Nat → ClassId) (ad : Nat → Nat) (ao : Nat) (hG : Gd ad 70 (FC ad)) (hao : ∀ i : Nat, i < 70 → ad i ≠ ao) (p0 : Int32) (S S' : St)  (g : Nat → Int64) (hf : f_X9_value p0 S = some (.error 2, S')) : MetL l yL_value cL_value 4 [(0, 9, 12, 13), (0, 9, 15, 21)] rm_L_value D ct ad ao [.ref (ad 0), .int p0, .ref ao] 2 S S' g g := by
  refine MetL.of RL (by decide) rfl (Nat.le_of_ble_eq_true rfl) ?_
  intro p e s m args below meth c C htab hK hP hO hX hN ls hl
  have hl : lv_has ls 4 [(0, .ref (ad 0)), (1, .int p0), (2, .ref ao)] := hl
  obtain ⟨hx, hb, hr, hml, hown, htL, hlocks⟩ := id C
  have hS : va_S (FL ad ao) s.heap s.heap [] := va_S.rf
  have hnO : ∀ (i : Nat) (q : Nat × va_E), (outW ct ao g)[i]? = some q → ¬ FC ad q.1 := by
    intro i q hq
    cases i with
    | zero =>
      simp at hq
      subst hq
      rintro ⟨i9, hi9, e9⟩
      exact hao i9 hi9 e9.symm
    | succ i => simp at hq
  refine lv_aload_n hx hb dL_value_0 rfl (lv_at hl 2 rfl) ?_
  refine lv_iconst (v := 0) hx hb dL_value_1 (by decide) ?_
  refine lv_aload_n hx hb dL_value_2 rfl (lv_at hl 0 rfl) ?_
  refine lv_iload_n hx hb dL_value_3 rfl (lv_at hl 1 rfl) ?_
  have hXC : Xf (FC ad) s := hX.narrow (fun q h => Or.inl h)
  refine xc_VF (As := [.int p0]) (rest := [.int 0, .ref ao]) C hXC (x_X9_value l hl0 D ct ad (FC ad) hG p0 S _ _ hf) hl.1 cp_X9_value mw_5_98 (rc_X9 hK hP) hK hP hS va_S.rf (fun q h => Or.inl h) ⟨rfl, rfl⟩ ⟨Nat.le_of_ble_eq_true rfl, Nat.le_of_ble_eq_true rfl⟩ rfl rfl (Nat.le_of_ble_eq_true rfl) dL_value_4 ⟨Nat.le_of_ble_eq_true rfl, Nat.le_of_ble_eq_true rfl⟩ (fun q ce H locs hce hcv hcl hP hS hz hk => ?_)
  have hO := keptP hO hk hnO
  refine vx_catch (name := xn 2) (E := xn 2) hown [(⟨0, 9, 12, 13⟩ : ExceptionTableEntry)] (⟨0, 9, 15, 21⟩ : ExceptionTableEntry) [] (htab.trans rfl) (by
    intro z hz
    simp only [List.mem_cons, List.not_mem_nil, or_false] at hz
    rcases hz with rfl
    · exact Or.inr ⟨by decide, _, htL _ mw_2_138, hN 2 1 (by decide) (by decide) (by decide) (by decide) (by decide)⟩) rfl (by decide) (htL _ mw_2_239) (va_Nw.use rfl (hX.2.2.1 (xn 2) (List.mem_of_getElem? (i := 1) rfl))) hce hcv hcl ?_
  refine lv_astore_n (lv' := [(3, .ref q), (0, .ref (ad 0)), (1, .int p0), (2, .ref ao)]) hx hb dL_value_15 rfl hl (by decide) rfl (fun ls hl => ?_)
  refine lv_iconst (v := 2) hx hb dL_value_16 (by decide) ?_
  exact W.iret hx hb hr (fun t ht _ => ⟨rfl, by rw [ht]; exact hP, by rw [ht]; exact hO, hS.F ht⟩) hS.2.2 dL_value_17 hlocks
def rm_L_difference : Room := { frames := 9, cells := 1, slots := 6, locals := 173 }
set_option maxHeartbeats 4000000 in
set_option maxRecDepth 100000 in
theorem wk_L_difference (l : Launch) (hl0 : l.stackTraces = false) (D : va_G) (ct : Nat → ClassId) (ad : Nat → Nat) (ao : Nat) (hG : Gd ad 70 (FC ad)) (hao : ∀ i : Nat, i < 70 → ad i ≠ ao) (p0 : Int32) (S : St) (r : Int32) (g : Nat → Int64) (hf : f_X9_difference p0 S = some (.ok r)) : MetL l yL_difference cL_difference 4 [(0, 9, 12, 55)] rm_L_difference D ct ad ao [.ref (ad 0), .int p0, .ref ao] 0 S S g (vp_updL g (Int32.toNatClampNeg 0) (Int32.toInt64 r)) := by
  refine MetL.of RL (by decide) rfl (Nat.le_of_ble_eq_true rfl) ?_
  intro p e s m args below meth c C htab hK hP hO hX hN ls hl
  have hl : lv_has ls 4 [(0, .ref (ad 0)), (1, .int p0), (2, .ref ao)] := hl
  obtain ⟨hx, hb, hr, hml, hown, htL, hlocks⟩ := id C
  have hS : va_S (FL ad ao) s.heap s.heap [] := va_S.rf
  have hnO : ∀ (i : Nat) (q : Nat × va_E), (outW ct ao g)[i]? = some q → ¬ FC ad q.1 := by
    intro i q hq
    cases i with
    | zero =>
      simp at hq
      subst hq
      rintro ⟨i9, hi9, e9⟩
      exact hao i9 hi9 e9.symm
    | succ i => simp at hq
  refine lv_aload_n hx hb dL_difference_0 rfl (lv_at hl 2 rfl) ?_
  refine lv_iconst (v := 0) hx hb dL_difference_1 (by decide) ?_
  refine lv_aload_n hx hb dL_difference_2 rfl (lv_at hl 0 rfl) ?_
  refine lv_iload_n hx hb dL_difference_3 rfl (lv_at hl 1 rfl) ?_
  refine hc_VF (As := [.int p0]) (rest := [.int 0, .ref ao]) C hK (c_X9_difference l D ct ad (FC ad) hG p0 S r  hf) hl.1 cp_X9_difference mw_5_114 (rc_X9 hK hP) hP hS (fun q h => Or.inl h) ⟨rfl, rfl⟩ ⟨Nat.le_of_ble_eq_true rfl, Nat.le_of_ble_eq_true rfl⟩ rfl rfl (Nat.le_of_ble_eq_true rfl) dL_difference_4 ⟨Nat.le_of_ble_eq_true rfl, Nat.le_of_ble_eq_true rfl⟩ (fun H locs hP hS hz hk => ?_)
  have hO := keptP hO hk hnO
  refine lv_i2l hx hb dL_difference_7 rfl ?_
  refine lw_last C hK hP hO hG hao hS dL_difference_8 (fun H locs hP hO hS => ?_)
  refine lv_goto (tgt := 15) hx hb dL_difference_9 (by decide) ?_
  refine lv_iconst (v := 0) hx hb dL_difference_15 (by decide) ?_
  refine W.widen (k := 1) (n := 6) (by decide) (by decide) ?_
  exact W.iret hx hb hr (fun t ht _ => ⟨rfl, by rw [ht]; exact hP, by rw [ht]; exact hO, hS.F ht⟩) hS.2.2 dL_difference_16 hlocks
set_option maxHeartbeats 4000000 in
set_option maxRecDepth 100000 in
theorem wx_L_difference_6 (l : Launch) (hl0 : l.stackTraces = false) (D : va_G) (ct : Nat → ClassId) (ad : Nat → Nat) (ao : Nat) (hG : Gd ad 70 (FC ad)) (hao : ∀ i : Nat, i < 70 → ad i ≠ ao) (p0 : Int32) (S : St)  (g : Nat → Int64) (hf : f_X9_difference p0 S = some (.error 6)) : MetL l yL_difference cL_difference 4 [(0, 9, 12, 55)] rm_L_difference D ct ad ao [.ref (ad 0), .int p0, .ref ao] 1 S S g g := by
  refine MetL.of RL (by decide) rfl (Nat.le_of_ble_eq_true rfl) ?_
  intro p e s m args below meth c C htab hK hP hO hX hN ls hl
  have hl : lv_has ls 4 [(0, .ref (ad 0)), (1, .int p0), (2, .ref ao)] := hl
  obtain ⟨hx, hb, hr, hml, hown, htL, hlocks⟩ := id C
  have hS : va_S (FL ad ao) s.heap s.heap [] := va_S.rf
  have hnO : ∀ (i : Nat) (q : Nat × va_E), (outW ct ao g)[i]? = some q → ¬ FC ad q.1 := by
    intro i q hq
    cases i with
    | zero =>
      simp at hq
      subst hq
      rintro ⟨i9, hi9, e9⟩
      exact hao i9 hi9 e9.symm
    | succ i => simp at hq
  refine lv_aload_n hx hb dL_difference_0 rfl (lv_at hl 2 rfl) ?_
  refine lv_iconst (v := 0) hx hb dL_difference_1 (by decide) ?_
  refine lv_aload_n hx hb dL_difference_2 rfl (lv_at hl 0 rfl) ?_
  refine lv_iload_n hx hb dL_difference_3 rfl (lv_at hl 1 rfl) ?_
  have hXC : Xf (FC ad) s := hX.narrow (fun q h => Or.inl h)
  refine xc_VF (As := [.int p0]) (rest := [.int 0, .ref ao]) C hXC (x_X9_difference l hl0 D ct ad (FC ad) hG p0 S _  hf) hl.1 cp_X9_difference mw_5_114 (rc_X9 hK hP) hK hP hS va_S.rf (fun q h => Or.inl h) ⟨rfl, rfl⟩ ⟨Nat.le_of_ble_eq_true rfl, Nat.le_of_ble_eq_true rfl⟩ rfl rfl (Nat.le_of_ble_eq_true rfl) dL_difference_4 ⟨Nat.le_of_ble_eq_true rfl, Nat.le_of_ble_eq_true rfl⟩ (fun q ce H locs hce hcv hcl hP hS hz hk => ?_)
  have hO := keptP hO hk hnO
  refine vx_catch (name := xn 6) (E := xn 6) hown [] (⟨0, 9, 12, 55⟩ : ExceptionTableEntry) [] (htab.trans rfl) (fun z hz => nomatch hz) rfl (by decide) (htL _ mw_4_8) (va_Nw.use rfl (hX.2.2.1 (xn 6) (List.mem_of_getElem? (i := 5) rfl))) hce hcv hcl ?_
  refine lv_astore_n (lv' := [(3, .ref q), (0, .ref (ad 0)), (1, .int p0), (2, .ref ao)]) hx hb dL_difference_12 rfl hl (by decide) rfl (fun ls hl => ?_)
  refine lv_iconst (v := 1) hx hb dL_difference_13 (by decide) ?_
  exact W.iret hx hb hr (fun t ht _ => ⟨rfl, by rw [ht]; exact hP, by rw [ht]; exact hO, hS.F ht⟩) hS.2.2 dL_difference_14 hlocks
def rm_L_at : Room := { frames := 10, cells := 1, slots := 6, locals := 230 }
set_option maxHeartbeats 4000000 in
set_option maxRecDepth 100000 in
theorem wk_L_at (l : Launch) (hl0 : l.stackTraces = false) (D : va_G) (ct : Nat → ClassId) (ad : Nat → Nat) (ao : Nat) (hG : Gd ad 70 (FC ad)) (hao : ∀ i : Nat, i < 70 → ad i ≠ ao) (p0 : Int32) (S S' : St) (r : Int32) (g : Nat → Int64) (hf : f_X9_at p0 S = some (.ok r, S')) : MetL l yL_at cL_at 4 [(0, 9, 12, 27), (0, 9, 15, 15), (0, 9, 18, 21)] rm_L_at D ct ad ao [.ref (ad 0), .int p0, .ref ao] 0 S S' g (vp_updL g (Int32.toNatClampNeg 0) (Int32.toInt64 r)) := by
  refine MetL.of RL (by decide) rfl (Nat.le_of_ble_eq_true rfl) ?_
  intro p e s m args below meth c C htab hK hP hO hX hN ls hl
  have hl : lv_has ls 4 [(0, .ref (ad 0)), (1, .int p0), (2, .ref ao)] := hl
  obtain ⟨hx, hb, hr, hml, hown, htL, hlocks⟩ := id C
  have hS : va_S (FL ad ao) s.heap s.heap [] := va_S.rf
  have hnO : ∀ (i : Nat) (q : Nat × va_E), (outW ct ao g)[i]? = some q → ¬ FC ad q.1 := by
    intro i q hq
    cases i with
    | zero =>
      simp at hq
      subst hq
      rintro ⟨i9, hi9, e9⟩
      exact hao i9 hi9 e9.symm
    | succ i => simp at hq
  refine lv_aload_n hx hb dL_at_0 rfl (lv_at hl 2 rfl) ?_
  refine lv_iconst (v := 0) hx hb dL_at_1 (by decide) ?_
  refine lv_aload_n hx hb dL_at_2 rfl (lv_at hl 0 rfl) ?_
  refine lv_iload_n hx hb dL_at_3 rfl (lv_at hl 1 rfl) ?_
  refine hc_VF (As := [.int p0]) (rest := [.int 0, .ref ao]) C hK (c_X9_at l D ct ad (FC ad) hG p0 S r S' hf) hl.1 cp_X9_at mw_5_123 (rc_X9 hK hP) hP hS (fun q h => Or.inl h) ⟨rfl, rfl⟩ ⟨Nat.le_of_ble_eq_true rfl, Nat.le_of_ble_eq_true rfl⟩ rfl rfl (Nat.le_of_ble_eq_true rfl) dL_at_4 ⟨Nat.le_of_ble_eq_true rfl, Nat.le_of_ble_eq_true rfl⟩ (fun H locs hP hS hz hk => ?_)
  have hO := keptP hO hk hnO
  refine lv_i2l hx hb dL_at_7 rfl ?_
  refine lw_last C hK hP hO hG hao hS dL_at_8 (fun H locs hP hO hS => ?_)
  refine lv_goto (tgt := 21) hx hb dL_at_9 (by decide) ?_
  refine lv_iconst (v := 0) hx hb dL_at_21 (by decide) ?_
  refine W.widen (k := 1) (n := 6) (by decide) (by decide) ?_
  exact W.iret hx hb hr (fun t ht _ => ⟨rfl, by rw [ht]; exact hP, by rw [ht]; exact hO, hS.F ht⟩) hS.2.2 dL_at_22 hlocks
set_option maxHeartbeats 4000000 in
set_option maxRecDepth 100000 in
theorem wx_L_at_2 (l : Launch) (hl0 : l.stackTraces = false) (D : va_G) (ct : Nat → ClassId) (ad : Nat → Nat) (ao : Nat) (hG : Gd ad 70 (FC ad)) (hao : ∀ i : Nat, i < 70 → ad i ≠ ao) (p0 : Int32) (S S' : St)  (g : Nat → Int64) (hf : f_X9_at p0 S = some (.error 2, S')) : MetL l yL_at cL_at 4 [(0, 9, 12, 27), (0, 9, 15, 15), (0, 9, 18, 21)] rm_L_at D ct ad ao [.ref (ad 0), .int p0, .ref ao] 3 S S' g g := by
  refine MetL.of RL (by decide) rfl (Nat.le_of_ble_eq_true rfl) ?_
  intro p e s m args below meth c C htab hK hP hO hX hN ls hl
  have hl : lv_has ls 4 [(0, .ref (ad 0)), (1, .int p0), (2, .ref ao)] := hl
  obtain ⟨hx, hb, hr, hml, hown, htL, hlocks⟩ := id C
  have hS : va_S (FL ad ao) s.heap s.heap [] := va_S.rf
  have hnO : ∀ (i : Nat) (q : Nat × va_E), (outW ct ao g)[i]? = some q → ¬ FC ad q.1 := by
    intro i q hq
    cases i with
    | zero =>
      simp at hq
      subst hq
      rintro ⟨i9, hi9, e9⟩
      exact hao i9 hi9 e9.symm
    | succ i => simp at hq
  refine lv_aload_n hx hb dL_at_0 rfl (lv_at hl 2 rfl) ?_
  refine lv_iconst (v := 0) hx hb dL_at_1 (by decide) ?_
  refine lv_aload_n hx hb dL_at_2 rfl (lv_at hl 0 rfl) ?_
  refine lv_iload_n hx hb dL_at_3 rfl (lv_at hl 1 rfl) ?_
  have hXC : Xf (FC ad) s := hX.narrow (fun q h => Or.inl h)
  refine xc_VF (As := [.int p0]) (rest := [.int 0, .ref ao]) C hXC (x_X9_at l hl0 D ct ad (FC ad) hG p0 S _ _ hf) hl.1 cp_X9_at mw_5_123 (rc_X9 hK hP) hK hP hS va_S.rf (fun q h => Or.inl h) ⟨rfl, rfl⟩ ⟨Nat.le_of_ble_eq_true rfl, Nat.le_of_ble_eq_true rfl⟩ rfl rfl (Nat.le_of_ble_eq_true rfl) dL_at_4 ⟨Nat.le_of_ble_eq_true rfl, Nat.le_of_ble_eq_true rfl⟩ (fun q ce H locs hce hcv hcl hP hS hz hk => ?_)
  have hO := keptP hO hk hnO
  refine vx_catch (name := xn 2) (E := xn 2) hown [(⟨0, 9, 12, 27⟩ : ExceptionTableEntry), (⟨0, 9, 15, 15⟩ : ExceptionTableEntry)] (⟨0, 9, 18, 21⟩ : ExceptionTableEntry) [] (htab.trans rfl) (by
    intro z hz
    simp only [List.mem_cons, List.not_mem_nil, or_false] at hz
    rcases hz with rfl | rfl
    · exact Or.inr ⟨by decide, _, htL _ mw_3_120, hN 2 3 (by decide) (by decide) (by decide) (by decide) (by decide)⟩
    · exact Or.inr ⟨by decide, _, htL _ mw_2_139, hN 2 5 (by decide) (by decide) (by decide) (by decide) (by decide)⟩) rfl (by decide) (htL _ mw_2_239) (va_Nw.use rfl (hX.2.2.1 (xn 2) (List.mem_of_getElem? (i := 1) rfl))) hce hcv hcl ?_
  refine lv_astore_n (lv' := [(3, .ref q), (0, .ref (ad 0)), (1, .int p0), (2, .ref ao)]) hx hb dL_at_18 rfl hl (by decide) rfl (fun ls hl => ?_)
  refine lv_iconst (v := 3) hx hb dL_at_19 (by decide) ?_
  exact W.iret hx hb hr (fun t ht _ => ⟨rfl, by rw [ht]; exact hP, by rw [ht]; exact hO, hS.F ht⟩) hS.2.2 dL_at_20 hlocks
set_option maxHeartbeats 4000000 in
set_option maxRecDepth 100000 in
theorem wx_L_at_3 (l : Launch) (hl0 : l.stackTraces = false) (D : va_G) (ct : Nat → ClassId) (ad : Nat → Nat) (ao : Nat) (hG : Gd ad 70 (FC ad)) (hao : ∀ i : Nat, i < 70 → ad i ≠ ao) (p0 : Int32) (S S' : St)  (g : Nat → Int64) (hf : f_X9_at p0 S = some (.error 3, S')) : MetL l yL_at cL_at 4 [(0, 9, 12, 27), (0, 9, 15, 15), (0, 9, 18, 21)] rm_L_at D ct ad ao [.ref (ad 0), .int p0, .ref ao] 1 S S' g g := by
  refine MetL.of RL (by decide) rfl (Nat.le_of_ble_eq_true rfl) ?_
  intro p e s m args below meth c C htab hK hP hO hX hN ls hl
  have hl : lv_has ls 4 [(0, .ref (ad 0)), (1, .int p0), (2, .ref ao)] := hl
  obtain ⟨hx, hb, hr, hml, hown, htL, hlocks⟩ := id C
  have hS : va_S (FL ad ao) s.heap s.heap [] := va_S.rf
  have hnO : ∀ (i : Nat) (q : Nat × va_E), (outW ct ao g)[i]? = some q → ¬ FC ad q.1 := by
    intro i q hq
    cases i with
    | zero =>
      simp at hq
      subst hq
      rintro ⟨i9, hi9, e9⟩
      exact hao i9 hi9 e9.symm
    | succ i => simp at hq
  refine lv_aload_n hx hb dL_at_0 rfl (lv_at hl 2 rfl) ?_
  refine lv_iconst (v := 0) hx hb dL_at_1 (by decide) ?_
  refine lv_aload_n hx hb dL_at_2 rfl (lv_at hl 0 rfl) ?_
  refine lv_iload_n hx hb dL_at_3 rfl (lv_at hl 1 rfl) ?_
  have hXC : Xf (FC ad) s := hX.narrow (fun q h => Or.inl h)
  refine xc_VF (As := [.int p0]) (rest := [.int 0, .ref ao]) C hXC (x_X9_at l hl0 D ct ad (FC ad) hG p0 S _ _ hf) hl.1 cp_X9_at mw_5_123 (rc_X9 hK hP) hK hP hS va_S.rf (fun q h => Or.inl h) ⟨rfl, rfl⟩ ⟨Nat.le_of_ble_eq_true rfl, Nat.le_of_ble_eq_true rfl⟩ rfl rfl (Nat.le_of_ble_eq_true rfl) dL_at_4 ⟨Nat.le_of_ble_eq_true rfl, Nat.le_of_ble_eq_true rfl⟩ (fun q ce H locs hce hcv hcl hP hS hz hk => ?_)
  have hO := keptP hO hk hnO
  refine vx_catch (name := xn 3) (E := xn 3) hown [] (⟨0, 9, 12, 27⟩ : ExceptionTableEntry) [(⟨0, 9, 15, 15⟩ : ExceptionTableEntry), (⟨0, 9, 18, 21⟩ : ExceptionTableEntry)] (htab.trans rfl) (fun z hz => nomatch hz) rfl (by decide) (htL _ mw_3_120) (va_Nw.use rfl (hX.2.2.1 (xn 3) (List.mem_of_getElem? (i := 2) rfl))) hce hcv hcl ?_
  refine lv_astore_n (lv' := [(3, .ref q), (0, .ref (ad 0)), (1, .int p0), (2, .ref ao)]) hx hb dL_at_12 rfl hl (by decide) rfl (fun ls hl => ?_)
  refine lv_iconst (v := 1) hx hb dL_at_13 (by decide) ?_
  exact W.iret hx hb hr (fun t ht _ => ⟨rfl, by rw [ht]; exact hP, by rw [ht]; exact hO, hS.F ht⟩) hS.2.2 dL_at_14 hlocks
set_option maxHeartbeats 4000000 in
set_option maxRecDepth 100000 in
theorem wx_L_at_5 (l : Launch) (hl0 : l.stackTraces = false) (D : va_G) (ct : Nat → ClassId) (ad : Nat → Nat) (ao : Nat) (hG : Gd ad 70 (FC ad)) (hao : ∀ i : Nat, i < 70 → ad i ≠ ao) (p0 : Int32) (S S' : St)  (g : Nat → Int64) (hf : f_X9_at p0 S = some (.error 5, S')) : MetL l yL_at cL_at 4 [(0, 9, 12, 27), (0, 9, 15, 15), (0, 9, 18, 21)] rm_L_at D ct ad ao [.ref (ad 0), .int p0, .ref ao] 2 S S' g g := by
  refine MetL.of RL (by decide) rfl (Nat.le_of_ble_eq_true rfl) ?_
  intro p e s m args below meth c C htab hK hP hO hX hN ls hl
  have hl : lv_has ls 4 [(0, .ref (ad 0)), (1, .int p0), (2, .ref ao)] := hl
  obtain ⟨hx, hb, hr, hml, hown, htL, hlocks⟩ := id C
  have hS : va_S (FL ad ao) s.heap s.heap [] := va_S.rf
  have hnO : ∀ (i : Nat) (q : Nat × va_E), (outW ct ao g)[i]? = some q → ¬ FC ad q.1 := by
    intro i q hq
    cases i with
    | zero =>
      simp at hq
      subst hq
      rintro ⟨i9, hi9, e9⟩
      exact hao i9 hi9 e9.symm
    | succ i => simp at hq
  refine lv_aload_n hx hb dL_at_0 rfl (lv_at hl 2 rfl) ?_
  refine lv_iconst (v := 0) hx hb dL_at_1 (by decide) ?_
  refine lv_aload_n hx hb dL_at_2 rfl (lv_at hl 0 rfl) ?_
  refine lv_iload_n hx hb dL_at_3 rfl (lv_at hl 1 rfl) ?_
  have hXC : Xf (FC ad) s := hX.narrow (fun q h => Or.inl h)
  refine xc_VF (As := [.int p0]) (rest := [.int 0, .ref ao]) C hXC (x_X9_at l hl0 D ct ad (FC ad) hG p0 S _ _ hf) hl.1 cp_X9_at mw_5_123 (rc_X9 hK hP) hK hP hS va_S.rf (fun q h => Or.inl h) ⟨rfl, rfl⟩ ⟨Nat.le_of_ble_eq_true rfl, Nat.le_of_ble_eq_true rfl⟩ rfl rfl (Nat.le_of_ble_eq_true rfl) dL_at_4 ⟨Nat.le_of_ble_eq_true rfl, Nat.le_of_ble_eq_true rfl⟩ (fun q ce H locs hce hcv hcl hP hS hz hk => ?_)
  have hO := keptP hO hk hnO
  refine vx_catch (name := xn 5) (E := xn 5) hown [(⟨0, 9, 12, 27⟩ : ExceptionTableEntry)] (⟨0, 9, 15, 15⟩ : ExceptionTableEntry) [(⟨0, 9, 18, 21⟩ : ExceptionTableEntry)] (htab.trans rfl) (by
    intro z hz
    simp only [List.mem_cons, List.not_mem_nil, or_false] at hz
    rcases hz with rfl
    · exact Or.inr ⟨by decide, _, htL _ mw_3_120, hN 5 3 (by decide) (by decide) (by decide) (by decide) (by decide)⟩) rfl (by decide) (htL _ mw_2_139) (va_Nw.use rfl (hX.2.2.1 (xn 5) (List.mem_of_getElem? (i := 4) rfl))) hce hcv hcl ?_
  refine lv_astore_n (lv' := [(3, .ref q), (0, .ref (ad 0)), (1, .int p0), (2, .ref ao)]) hx hb dL_at_15 rfl hl (by decide) rfl (fun ls hl => ?_)
  refine lv_iconst (v := 2) hx hb dL_at_16 (by decide) ?_
  exact W.iret hx hb hr (fun t ht _ => ⟨rfl, by rw [ht]; exact hP, by rw [ht]; exact hO, hS.F ht⟩) hS.2.2 dL_at_17 hlocks
