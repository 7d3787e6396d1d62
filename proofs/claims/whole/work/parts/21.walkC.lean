def rm_X0_isFull : Room := { frames := 0, cells := 0, slots := 0, locals := 0 }
set_option maxHeartbeats 4000000 in
set_option maxRecDepth 100000 in
theorem c_X0_isFull (l : Launch) (D : va_G) (ct : Nat → ClassId) (ad : Nat → Nat) (F : Nat → Prop) (hG : Gd ad 70 F)  (S0 : St)  (r : Int32) (hf : f_X0_isFull  S0 = some r) : MetH l yX0_isFull cX0_isFull 1 (some .boolean) rm_X0_isFull D (tysW ct) F [.ref (ad 4)] (some (.int r)) (cellsC ct ad S0) (cellsC ct ad S0) := by
  refine MetH.of RX0 (by decide) rfl (Nat.le_of_ble_eq_true rfl) ?_
  intro p e s m args below meth c C hK hP ls hl
  have hl : lv_has ls 1 [(0, .ref (ad 4))] := hl
  obtain ⟨hx, hb, hr, hml, hown, htL, hlocks⟩ := id C
  have hS : va_S F s.heap s.heap [] := va_S.rf
  generalize hQ : MQ below (Hq D (cellsC ct ad S0) F (some (.int r))) args s 0 0 F = Q
  refine lv_aload_n hx hb dX0_isFull_0 rfl (lv_at hl 0 rfl) ?_
  refine gf_X0_0 C hK hP mw_1_88 dX0_isFull_1 ?_
  refine lv_aload_n hx hb dX0_isFull_4 rfl (lv_at hl 0 rfl) ?_
  refine gf_X0_1 C hK hP mw_1_90 dX0_isFull_5 ?_
  refine an_C8 C hK hP dX0_isFull_8 ?_
  refine lv_icmp_lt (tgt := 16) hx hb dX0_isFull_9 (by decide) (fun c1 => ?_) (fun c1 => ?_)
  · have hf := sp1 c1 hf
    refine lv_iconst (v := 0) hx hb dX0_isFull_16 (by decide) ?_
    cases hf
    subst hQ
    exact he_z C (by decide) hP hS dX0_isFull_17
  · have hf := sp0 c1 hf
    refine lv_iconst (v := 1) hx hb dX0_isFull_12 (by decide) ?_
    refine lv_goto (tgt := 17) hx hb dX0_isFull_13 (by decide) ?_
    cases hf
    subst hQ
    exact he_z C (by decide) hP hS dX0_isFull_17
theorem cp_X0_isFull : CPv yX0_isFull cX0_isFull 1 (some .boolean) 0 := ⟨mw_4_141, mw_1_4, mw_4_139, mw_4_140, by decide +kernel⟩
def rm_X0_page : Room := { frames := 0, cells := 0, slots := 0, locals := 0 }
set_option maxHeartbeats 4000000 in
set_option maxRecDepth 100000 in
theorem c_X0_page (l : Launch) (D : va_G) (ct : Nat → ClassId) (ad : Nat → Nat) (F : Nat → Prop) (hG : Gd ad 70 F) (p0 : Int32) (S0 : St)  (r : Nat) (hf : f_X0_page p0 S0 = some r) : MetH l yX0_page cX0_page 2 (some (.object "Henselhall$Polynomial")) rm_X0_page D (tysW ct) F [.ref (ad 4), .int p0] (some (.ref (ad (54 + r)))) (cellsC ct ad S0) (cellsC ct ad S0) := by
  refine MetH.of RX0 (by decide) rfl (Nat.le_of_ble_eq_true rfl) ?_
  intro p e s m args below meth c C hK hP ls hl
  have hl : lv_has ls 2 [(0, .ref (ad 4)), (1, .int p0)] := hl
  obtain ⟨hx, hb, hr, hml, hown, htL, hlocks⟩ := id C
  have hS : va_S F s.heap s.heap [] := va_S.rf
  generalize hQ : MQ below (Hq D (cellsC ct ad S0) F (some (.ref (ad (54 + r))))) args s 0 0 F = Q
  refine lv_aload_n hx hb dX0_page_0 rfl (lv_at hl 0 rfl) ?_
  refine gf_X0_1 C hK hP mw_1_90 dX0_page_1 ?_
  refine lv_iload_n hx hb dX0_page_4 rfl (lv_at hl 1 rfl) ?_
  refine lv_if_lt (tgt := 21) hx hb dX0_page_5 (by decide) (fun c1 => ?_) (fun c1 => ?_)
  · have hf := sp1 c1 hf
    refine lv_iconst (v := 0) hx hb dX0_page_21 (by decide) ?_
    obtain ⟨c2, hf⟩ := spn hf
    refine al_C8 C hK hP c2 dX0_page_22 ?_
    cases hf
    subst hQ
    exact he_a C hP hS dX0_page_23
  · have hf := sp0 c1 hf
    refine lv_iload_n hx hb dX0_page_8 rfl (lv_at hl 1 rfl) ?_
    refine lv_aload_n hx hb dX0_page_9 rfl (lv_at hl 0 rfl) ?_
    refine gf_X0_1 C hK hP mw_1_90 dX0_page_10 ?_
    refine an_C8 C hK hP dX0_page_13 ?_
    refine lv_icmp_ge (tgt := 21) hx hb dX0_page_14 (by decide) (fun c3 => ?_) (fun c3 => ?_)
    · have hf := sp1 c3 hf
      refine lv_iconst (v := 0) hx hb dX0_page_21 (by decide) ?_
      obtain ⟨c4, hf⟩ := spn hf
      refine al_C8 C hK hP c4 dX0_page_22 ?_
      cases hf
      subst hQ
      exact he_a C hP hS dX0_page_23
    · have hf := sp0 c3 hf
      refine lv_iload_n hx hb dX0_page_17 rfl (lv_at hl 1 rfl) ?_
      refine lv_goto (tgt := 22) hx hb dX0_page_18 (by decide) ?_
      obtain ⟨c5, hf⟩ := spn hf
      refine al_C8 C hK hP c5 dX0_page_22 ?_
      cases hf
      subst hQ
      exact he_a C hP hS dX0_page_23
theorem cp_X0_page : CPv yX0_page cX0_page 2 (some (.object "Henselhall$Polynomial")) 1 := ⟨mw_2_111, mw_1_4, mw_2_109, mw_2_110, by decide +kernel⟩
def rm_X4_append : Room := { frames := 0, cells := 0, slots := 0, locals := 0 }
set_option maxHeartbeats 4000000 in
set_option maxRecDepth 100000 in
theorem c_X4_append (l : Launch) (D : va_G) (ct : Nat → ClassId) (ad : Nat → Nat) (F : Nat → Prop) (hG : Gd ad 70 F) (k0 : Nat) (p0 : Int32) (p1 : Int32) (S0 : St) (hk_k0 : k0 < 8) (S' : St) (hf : f_X4_append k0 p0 p1 S0 = some S') : MetH l yX4_append cX4_append 3 none rm_X4_append D (tysW ct) F [.ref (ad (54 + k0)), .int p0, .int p1] none (cellsC ct ad S0) (cellsC ct ad S') := by
  refine MetH.of RX4 (by decide) rfl (Nat.le_of_ble_eq_true rfl) ?_
  intro p e s m args below meth c C hK hP ls hl
  have hl : lv_has ls 3 [(0, .ref (ad (54 + k0))), (1, .int p0), (2, .int p1)] := hl
  obtain ⟨hx, hb, hr, hml, hown, htL, hlocks⟩ := id C
  have hS : va_S F s.heap s.heap [] := va_S.rf
  generalize hQ : MQ below (Hq D (cellsC ct ad S') F none) args s 0 0 F = Q
  refine lv_iload_n hx hb dX4_append_0 rfl (lv_at hl 1 rfl) ?_
  refine lv_if_lt (tgt := 27) hx hb dX4_append_1 (by decide) (fun c1 => ?_) (fun c1 => ?_)
  · have hf := sp1 c1 hf
    cases hf
    subst hQ
    exact he_v C hP hS dX4_append_27
  · have hf := sp0 c1 hf
    refine lv_iload_n hx hb dX4_append_4 rfl (lv_at hl 1 rfl) ?_
    refine lv_aload_n hx hb dX4_append_5 rfl (lv_at hl 0 rfl) ?_
    refine gf_X4_1 C hK hP hk_k0 mw_1_81 dX4_append_6 ?_
    refine an_coef C hK hP hk_k0 dX4_append_9 ?_
    refine lv_icmp_ge (tgt := 27) hx hb dX4_append_10 (by decide) (fun c2 => ?_) (fun c2 => ?_)
    · have hf := sp1 c2 hf
      cases hf
      subst hQ
      exact he_v C hP hS dX4_append_27
    · have hf := sp0 c2 hf
      refine lv_aload_n hx hb dX4_append_13 rfl (lv_at hl 0 rfl) ?_
      refine gf_X4_1 C hK hP hk_k0 mw_1_81 dX4_append_14 ?_
      refine lv_iload_n hx hb dX4_append_17 rfl (lv_at hl 1 rfl) ?_
      refine lv_iload_n hx hb dX4_append_18 rfl (lv_at hl 2 rfl) ?_
      obtain ⟨c3, hf⟩ := spn hf
      refine as_coef C hK hP hk_k0 hG hS c3 dX4_append_19 (fun H locs hP hS => ?_)
      refine lv_aload_n hx hb dX4_append_20 rfl (lv_at hl 0 rfl) ?_
      refine lv_iload_n hx hb dX4_append_21 rfl (lv_at hl 1 rfl) ?_
      refine lv_iconst (v := 1) hx hb dX4_append_22 (by decide) ?_
      refine lv_iadd hx hb dX4_append_23 ?_
      refine pf_X4_0 C hK hP hG hS hk_k0 mw_1_78 dX4_append_24 (fun H locs hP hS => ?_)
      cases hf
      subst hQ
      exact he_v C hP hS dX4_append_27
theorem cp_X4_append : CPv yX4_append cX4_append 3 none 2 := ⟨mw_4_151, mw_1_5, mw_4_149, mw_4_150, by decide +kernel⟩
def rm_X0_open : Room := { frames := 1, cells := 0, slots := 0, locals := 26 }
set_option maxHeartbeats 4000000 in
set_option maxRecDepth 100000 in
theorem c_X0_open (l : Launch) (D : va_G) (ct : Nat → ClassId) (ad : Nat → Nat) (F : Nat → Prop) (hG : Gd ad 70 F) (p0 : Int32) (S0 : St)  (r : Int32) (S' : St) (hf : f_X0_open p0 S0 = some (r, S')) : MetH l yX0_open cX0_open 2 (some .int) rm_X0_open D (tysW ct) F [.ref (ad 4), .int p0] (some (.int r)) (cellsC ct ad S0) (cellsC ct ad S') := by
  refine MetH.of RX0 (by decide) rfl (Nat.le_of_ble_eq_true rfl) ?_
  intro p e s m args below meth c C hK hP ls hl
  have hl : lv_has ls 2 [(0, .ref (ad 4)), (1, .int p0)] := hl
  obtain ⟨hx, hb, hr, hml, hown, htL, hlocks⟩ := id C
  have hS : va_S F s.heap s.heap [] := va_S.rf
  generalize hQ : MQ below (Hq D (cellsC ct ad S') F (some (.int r))) args s 0 0 F = Q
  refine lv_aload_n hx hb dX0_open_0 rfl (lv_at hl 0 rfl) ?_
  refine lv_aload_n hx hb dX0_open_1 rfl (lv_at hl 0 rfl) ?_
  refine gf_X0_0 C hK hP mw_1_88 dX0_open_2 ?_
  obtain ⟨v2, h1, hf⟩ := b1_some hf
  refine hc_V (As := [.int (S0.1 4 0)]) (rest := []) C hK (c_X0_page l D ct ad F hG (S0.1 4 0) S0  v2 h1) hl.1 cp_X0_page mw_4_147 (rc_X0 hK hP) hP hS ⟨rfl, rfl⟩ ⟨Nat.le_of_ble_eq_true rfl, Nat.le_of_ble_eq_true rfl⟩ rfl rfl (Nat.le_of_ble_eq_true rfl) dX0_open_5 ⟨Nat.le_of_ble_eq_true rfl, Nat.le_of_ble_eq_true rfl⟩ (fun H locs hP hS => ?_)
  obtain ⟨c3, hf⟩ := spy hf
  refine lv_iconst (v := 0) hx hb dX0_open_8 (by decide) ?_
  refine lv_iload_n hx hb dX0_open_9 rfl (lv_at hl 1 rfl) ?_
  obtain ⟨S5, h4, hf⟩ := b1_some hf
  refine hc_V (As := [.int 0, .int p0]) (rest := []) C hK (c_X4_append l D ct ad F hG v2 0 p0 S0 c3 S5 h4) hl.1 cp_X4_append mw_4_148 (rc_X4 hK hP c3) hP hS ⟨rfl, rfl⟩ ⟨Nat.le_of_ble_eq_true rfl, Nat.le_of_ble_eq_true rfl⟩ rfl rfl (Nat.le_of_ble_eq_true rfl) dX0_open_10 ⟨Nat.le_of_ble_eq_true rfl, Nat.le_of_ble_eq_true rfl⟩ (fun H locs hP hS => ?_)
  refine lv_aload_n hx hb dX0_open_13 rfl (lv_at hl 0 rfl) ?_
  refine lv_dup hx hb dX0_open_14 rfl ?_
  refine gf_X0_0 C hK hP mw_1_88 dX0_open_15 ?_
  refine lv_iconst (v := 1) hx hb dX0_open_18 (by decide) ?_
  refine lv_iadd hx hb dX0_open_19 ?_
  refine pf_X0_0 C hK hP hG hS mw_1_88 dX0_open_20 (fun H locs hP hS => ?_)
  refine lv_aload_n hx hb dX0_open_23 rfl (lv_at hl 0 rfl) ?_
  refine gf_X0_0 C hK hP mw_1_88 dX0_open_24 ?_
  refine lv_iconst (v := 1) hx hb dX0_open_27 (by decide) ?_
  refine lv_isub hx hb dX0_open_28 ?_
  cases hf
  subst hQ
  exact he_i C hP hS dX0_open_29
theorem cp_X0_open : CPv yX0_open cX0_open 2 (some .int) 1 := ⟨mw_4_146, mw_1_4, mw_4_144, mw_4_145, by decide +kernel⟩
def rm_X1_has : Room := { frames := 0, cells := 0, slots := 0, locals := 0 }
set_option maxHeartbeats 4000000 in
set_option maxRecDepth 100000 in
theorem c_X1_has (l : Launch) (D : va_G) (ct : Nat → ClassId) (ad : Nat → Nat) (F : Nat → Prop) (hG : Gd ad 70 F) (p0 : Int32) (p1 : Int32) (S0 : St)  (r : Int32) (hf : f_X1_has p0 p1 S0 = some r) : MetH l yX1_has cX1_has 3 (some .boolean) rm_X1_has D (tysW ct) F [.ref (ad 2), .int p0, .int p1] (some (.int r)) (cellsC ct ad S0) (cellsC ct ad S0) := by
  refine MetH.of RX1 (by decide) rfl (Nat.le_of_ble_eq_true rfl) ?_
  intro p e s m args below meth c C hK hP ls hl
  have hl : lv_has ls 3 [(0, .ref (ad 2)), (1, .int p0), (2, .int p1)] := hl
  obtain ⟨hx, hb, hr, hml, hown, htL, hlocks⟩ := id C
  have hS : va_S F s.heap s.heap [] := va_S.rf
  generalize hQ : MQ below (Hq D (cellsC ct ad S0) F (some (.int r))) args s 0 0 F = Q
  refine lv_iload_n hx hb dX1_has_0 rfl (lv_at hl 1 rfl) ?_
  refine lv_if_lt (tgt := 28) hx hb dX1_has_1 (by decide) (fun c1 => ?_) (fun c1 => ?_)
  · have hf := sp1 c1 hf
    refine lv_iconst (v := 0) hx hb dX1_has_28 (by decide) ?_
    cases hf
    subst hQ
    exact he_z C (by decide) hP hS dX1_has_29
  · have hf := sp0 c1 hf
    refine lv_iload_n hx hb dX1_has_4 rfl (lv_at hl 1 rfl) ?_
    refine lv_aload_n hx hb dX1_has_5 rfl (lv_at hl 0 rfl) ?_
    refine gf_X1_0 C hK hP mw_1_201 dX1_has_6 ?_
    refine lv_icmp_ge (tgt := 28) hx hb dX1_has_9 (by decide) (fun c2 => ?_) (fun c2 => ?_)
    · have hf := sp1 c2 hf
      refine lv_iconst (v := 0) hx hb dX1_has_28 (by decide) ?_
      cases hf
      subst hQ
      exact he_z C (by decide) hP hS dX1_has_29
    · have hf := sp0 c2 hf
      refine lv_iload_n hx hb dX1_has_12 rfl (lv_at hl 2 rfl) ?_
      refine lv_if_lt (tgt := 28) hx hb dX1_has_13 (by decide) (fun c3 => ?_) (fun c3 => ?_)
      · have hf := sp1 c3 hf
        refine lv_iconst (v := 0) hx hb dX1_has_28 (by decide) ?_
        cases hf
        subst hQ
        exact he_z C (by decide) hP hS dX1_has_29
      · have hf := sp0 c3 hf
        refine lv_iload_n hx hb dX1_has_16 rfl (lv_at hl 2 rfl) ?_
        refine lv_aload_n hx hb dX1_has_17 rfl (lv_at hl 0 rfl) ?_
        refine gf_X1_0 C hK hP mw_1_201 dX1_has_18 ?_
        refine lv_icmp_ge (tgt := 28) hx hb dX1_has_21 (by decide) (fun c4 => ?_) (fun c4 => ?_)
        · have hf := sp1 c4 hf
          refine lv_iconst (v := 0) hx hb dX1_has_28 (by decide) ?_
          cases hf
          subst hQ
          exact he_z C (by decide) hP hS dX1_has_29
        · have hf := sp0 c4 hf
          refine lv_iconst (v := 1) hx hb dX1_has_24 (by decide) ?_
          refine lv_goto (tgt := 29) hx hb dX1_has_25 (by decide) ?_
          cases hf
          subst hQ
          exact he_z C (by decide) hP hS dX1_has_29
theorem cp_X1_has : CPv yX1_has cX1_has 3 (some .boolean) 2 := ⟨mw_5_80, mw_1_8, mw_5_78, mw_5_79, by decide +kernel⟩
def rm_X1_clearTo : Room := { frames := 0, cells := 0, slots := 0, locals := 0 }
set_option maxHeartbeats 4000000 in
set_option maxRecDepth 100000 in
theorem c_X1_clearTo (l : Launch) (D : va_G) (ct : Nat → ClassId) (ad : Nat → Nat) (F : Nat → Prop) (hG : Gd ad 70 F) (p0 : Int32) (S0 : St)  (S' : St) (hf : f_X1_clearTo p0 S0 = some S') : MetH l yX1_clearTo cX1_clearTo 3 none rm_X1_clearTo D (tysW ct) F [.ref (ad 2), .int p0] none (cellsC ct ad S0) (cellsC ct ad S') := by
  refine MetH.of RX1 (by decide) rfl (Nat.le_of_ble_eq_true rfl) ?_
  intro p e s m args below meth c C hK hP ls hl
  have hl : lv_has ls 3 [(0, .ref (ad 2)), (1, .int p0)] := hl
  obtain ⟨hx, hb, hr, hml, hown, htL, hlocks⟩ := id C
  have hS : va_S F s.heap s.heap [] := va_S.rf
  generalize hQ : MQ below (Hq D (cellsC ct ad S') F none) args s 0 0 F = Q
  have w_7 : ∀ (x2 : Int32) (S : St), ∀ (H : Heap) (locs : List Loc) (ls : Array Slot), lv_has ls 3 [(0, .ref (ad 2)), (2, .int x2)] → va_P D vwCl (cellsC ct ad S) H → va_S F s.heap H locs → n_X1_clearTo_7 x2 S = some S' → W p l e rm_X1_clearTo s m args below meth c H locs 0 0 Q (F0 m 7 ls []) := by
    have aux : ∀ (n : Nat), ∀ (x2 : Int32) (S : St), ∀ (H : Heap) (locs : List Loc) (ls : Array Slot), lv_has ls 3 [(0, .ref (ad 2)), (2, .int x2)] → va_P D vwCl (cellsC ct ad S) H → va_S F s.heap H locs → itr (fun (q : Int32 × St) k => s_X1_clearTo_7  (fun (x2 : Int32) (S : St) => k (x2, S)) q.1 q.2) n (x2, S) = some S' → W p l e rm_X1_clearTo s m args below meth c H locs 0 0 Q (F0 m 7 ls []) := by
      intro n
      induction n with
      | zero => intro x2 S H locs ls hl hP hS hf; exact (itr_z hf).elim
      | succ n ih =>
      intro x2 S H locs ls hl hP hS hf
      have hk_7 := ih
      have hf : s_X1_clearTo_7  (fun (x2 : Int32) (S : St) => itr (fun (q : Int32 × St) k => s_X1_clearTo_7  (fun (x2 : Int32) (S : St) => k (x2, S)) q.1 q.2) n (x2, S)) x2 S = some S' := hf
      refine lv_iload_n hx hb dX1_clearTo_7 rfl (lv_at hl 1 rfl) ?_
      refine lv_aload_n hx hb dX1_clearTo_8 rfl (lv_at hl 0 rfl) ?_
      refine gf_X1_1 C hK hP mw_1_203 dX1_clearTo_9 ?_
      refine an_C10 C hK hP dX1_clearTo_12 ?_
      refine lv_icmp_ge (tgt := 29) hx hb dX1_clearTo_13 (by decide) (fun c1 => ?_) (fun c1 => ?_)
      · have hf := sp1 c1 hf
        cases hf
        subst hQ
        exact he_v C hP hS dX1_clearTo_29
      · have hf := sp0 c1 hf
        refine lv_aload_n hx hb dX1_clearTo_16 rfl (lv_at hl 0 rfl) ?_
        refine gf_X1_1 C hK hP mw_1_203 dX1_clearTo_17 ?_
        refine lv_iload_n hx hb dX1_clearTo_20 rfl (lv_at hl 1 rfl) ?_
        refine lv_iconst (v := 0) hx hb dX1_clearTo_21 (by decide) ?_
        obtain ⟨c2, hf⟩ := spn hf
        refine as_C10 C hK hP hG hS c2 dX1_clearTo_22 (fun H locs hP hS => ?_)
        refine lv_iinc (v := (x2 + 1)) (lv' := [(2, .int (x2 + 1)), (0, .ref (ad 2))]) hx hb dX1_clearTo_23 hl (k := 1) rfl rfl (by decide) rfl (fun ls hl => ?_)
        refine lv_goto (tgt := 7) hx hb dX1_clearTo_26 (by decide) ?_
        exact hk_7 (x2 + 1) (wI S 10 (Int32.toNatClampNeg x2) 0) _ _ _ (lv_sub hl [1, 0] rfl) hP hS hf
    exact aux FU
  refine lv_aload_n hx hb dX1_clearTo_0 rfl (lv_at hl 0 rfl) ?_
  refine lv_iload_n hx hb dX1_clearTo_1 rfl (lv_at hl 1 rfl) ?_
  refine pf_X1_0 C hK hP hG hS mw_1_201 dX1_clearTo_2 (fun H locs hP hS => ?_)
  refine lv_iconst (v := 0) hx hb dX1_clearTo_5 (by decide) ?_
  refine lv_istore_n (lv' := [(2, .int 0), (0, .ref (ad 2)), (1, .int p0)]) hx hb dX1_clearTo_6 rfl hl (by decide) rfl (fun ls hl => ?_)
  exact w_7 0 (wI S0 2 0 p0) _ _ _ (lv_sub hl [1, 0] rfl) hP hS hf
theorem cp_X1_clearTo : CPv yX1_clearTo cX1_clearTo 3 none 1 := ⟨mw_5_69, mw_1_8, mw_5_67, mw_5_68, by decide +kernel⟩
def rm_X1_entryAt : Room := { frames := 0, cells := 0, slots := 0, locals := 0 }
set_option maxHeartbeats 4000000 in
set_option maxRecDepth 100000 in
theorem c_X1_entryAt (l : Launch) (D : va_G) (ct : Nat → ClassId) (ad : Nat → Nat) (F : Nat → Prop) (hG : Gd ad 70 F) (p0 : Int32) (p1 : Int32) (S0 : St)  (r : Int32) (hf : f_X1_entryAt p0 p1 S0 = some r) : MetH l yX1_entryAt cX1_entryAt 4 (some .int) rm_X1_entryAt D (tysW ct) F [.ref (ad 2), .int p0, .int p1] (some (.int r)) (cellsC ct ad S0) (cellsC ct ad S0) := by
  refine MetH.of RX1 (by decide) rfl (Nat.le_of_ble_eq_true rfl) ?_
  intro p e s m args below meth c C hK hP ls hl
  have hl : lv_has ls 4 [(0, .ref (ad 2)), (1, .int p0), (2, .int p1)] := hl
  obtain ⟨hx, hb, hr, hml, hown, htL, hlocks⟩ := id C
  have hS : va_S F s.heap s.heap [] := va_S.rf
  generalize hQ : MQ below (Hq D (cellsC ct ad S0) F (some (.int r))) args s 0 0 F = Q
  refine lv_iload_n hx hb dX1_entryAt_0 rfl (lv_at hl 1 rfl) ?_
  refine lv_iconst (v := 4) hx hb dX1_entryAt_1 (by decide) ?_
  refine lv_imul hx hb dX1_entryAt_2 ?_
  refine lv_iload_n hx hb dX1_entryAt_3 rfl (lv_at hl 2 rfl) ?_
  refine lv_iadd hx hb dX1_entryAt_4 ?_
  refine lv_istore_n (lv' := [(3, .int ((p0 * 4) + p1)), (0, .ref (ad 2)), (1, .int p0), (2, .int p1)]) hx hb dX1_entryAt_5 rfl hl (by decide) rfl (fun ls hl => ?_)
  refine lv_iload_n hx hb dX1_entryAt_6 rfl (lv_at hl 0 rfl) ?_
  refine lv_if_lt (tgt := 28) hx hb dX1_entryAt_7 (by decide) (fun c1 => ?_) (fun c1 => ?_)
  · have hf := sp1 c1 hf
    refine lv_iconst (v := 0) hx hb dX1_entryAt_28 (by decide) ?_
    cases hf
    subst hQ
    exact he_i C hP hS dX1_entryAt_29
  · have hf := sp0 c1 hf
    refine lv_iload_n hx hb dX1_entryAt_10 rfl (lv_at hl 0 rfl) ?_
    refine lv_aload_n hx hb dX1_entryAt_11 rfl (lv_at hl 1 rfl) ?_
    refine gf_X1_1 C hK hP mw_1_203 dX1_entryAt_12 ?_
    refine an_C10 C hK hP dX1_entryAt_15 ?_
    refine lv_icmp_ge (tgt := 28) hx hb dX1_entryAt_16 (by decide) (fun c2 => ?_) (fun c2 => ?_)
    · have hf := sp1 c2 hf
      refine lv_iconst (v := 0) hx hb dX1_entryAt_28 (by decide) ?_
      cases hf
      subst hQ
      exact he_i C hP hS dX1_entryAt_29
    · have hf := sp0 c2 hf
      refine lv_aload_n hx hb dX1_entryAt_19 rfl (lv_at hl 1 rfl) ?_
      refine gf_X1_1 C hK hP mw_1_203 dX1_entryAt_20 ?_
      refine lv_iload_n hx hb dX1_entryAt_23 rfl (lv_at hl 0 rfl) ?_
      obtain ⟨c3, hf⟩ := spn hf
      refine al_C10 C hK hP c3 dX1_entryAt_24 ?_
      refine lv_goto (tgt := 29) hx hb dX1_entryAt_25 (by decide) ?_
      cases hf
      subst hQ
      exact he_i C hP hS dX1_entryAt_29
theorem cp_X1_entryAt : CPv yX1_entryAt cX1_entryAt 4 (some .int) 2 := ⟨mw_2_11, mw_1_8, mw_2_10, ms_2, by decide +kernel⟩
def rm_X1_replace : Room := { frames := 1, cells := 0, slots := 0, locals := 27 }
set_option maxHeartbeats 4000000 in
set_option maxRecDepth 100000 in
theorem c_X1_replace (l : Launch) (D : va_G) (ct : Nat → ClassId) (ad : Nat → Nat) (F : Nat → Prop) (hG : Gd ad 70 F) (p0 : Int32) (p1 : Int32) (p2 : Int32) (S0 : St)  (r : Int32) (S' : St) (hf : f_X1_replace p0 p1 p2 S0 = some (r, S')) : MetH l yX1_replace cX1_replace 6 (some .int) rm_X1_replace D (tysW ct) F [.ref (ad 2), .int p0, .int p1, .int p2] (some (.int r)) (cellsC ct ad S0) (cellsC ct ad S') := by
  refine MetH.of RX1 (by decide) rfl (Nat.le_of_ble_eq_true rfl) ?_
  intro p e s m args below meth c C hK hP ls hl
  have hl : lv_has ls 6 [(0, .ref (ad 2)), (1, .int p0), (2, .int p1), (3, .int p2)] := hl
  obtain ⟨hx, hb, hr, hml, hown, htL, hlocks⟩ := id C
  have hS : va_S F s.heap s.heap [] := va_S.rf
  generalize hQ : MQ below (Hq D (cellsC ct ad S') F (some (.int r))) args s 0 0 F = Q
  refine lv_aload_n hx hb dX1_replace_0 rfl (lv_at hl 0 rfl) ?_
  refine lv_iload_n hx hb dX1_replace_1 rfl (lv_at hl 1 rfl) ?_
  refine lv_iload_n hx hb dX1_replace_2 rfl (lv_at hl 2 rfl) ?_
  obtain ⟨v2, h1, hf⟩ := b1_some hf
  refine hc_V (As := [.int p0, .int p1]) (rest := []) C hK (c_X1_entryAt l D ct ad F hG p0 p1 S0  v2 h1) hl.1 cp_X1_entryAt mw_2_8 (rc_X1 hK hP) hP hS ⟨rfl, rfl⟩ ⟨Nat.le_of_ble_eq_true rfl, Nat.le_of_ble_eq_true rfl⟩ rfl rfl (Nat.le_of_ble_eq_true rfl) dX1_replace_3 ⟨Nat.le_of_ble_eq_true rfl, Nat.le_of_ble_eq_true rfl⟩ (fun H locs hP hS => ?_)
  refine lv_istore (lv' := [(4, .int v2), (0, .ref (ad 2)), (1, .int p0), (2, .int p1), (3, .int p2)]) hx hb dX1_replace_6 hl (by decide) rfl (fun ls hl => ?_)
  refine lv_iload_n hx hb dX1_replace_8 rfl (lv_at hl 2 rfl) ?_
  refine lv_iconst (v := 4) hx hb dX1_replace_9 (by decide) ?_
  refine lv_imul hx hb dX1_replace_10 ?_
  refine lv_iload_n hx hb dX1_replace_11 rfl (lv_at hl 3 rfl) ?_
  refine lv_iadd hx hb dX1_replace_12 ?_
  refine lv_istore (lv' := [(5, .int ((p0 * 4) + p1)), (4, .int v2), (0, .ref (ad 2)), (1, .int p0), (2, .int p1), (3, .int p2)]) hx hb dX1_replace_13 hl (by decide) rfl (fun ls hl => ?_)
  refine lv_iload hx hb dX1_replace_15 (lv_at hl 0 rfl) ?_
  refine lv_if_lt (tgt := 38) hx hb dX1_replace_17 (by decide) (fun c3 => ?_) (fun c3 => ?_)
  · have hf := sp1 c3 hf
    refine lv_iload hx hb dX1_replace_38 (lv_at hl 1 rfl) ?_
    cases hf
    subst hQ
    exact he_i C hP hS dX1_replace_40
  · have hf := sp0 c3 hf
    refine lv_iload hx hb dX1_replace_20 (lv_at hl 0 rfl) ?_
    refine lv_aload_n hx hb dX1_replace_22 rfl (lv_at hl 2 rfl) ?_
    refine gf_X1_1 C hK hP mw_1_203 dX1_replace_23 ?_
    refine an_C10 C hK hP dX1_replace_26 ?_
    refine lv_icmp_ge (tgt := 38) hx hb dX1_replace_27 (by decide) (fun c4 => ?_) (fun c4 => ?_)
    · have hf := sp1 c4 hf
      refine lv_iload hx hb dX1_replace_38 (lv_at hl 1 rfl) ?_
      cases hf
      subst hQ
      exact he_i C hP hS dX1_replace_40
    · have hf := sp0 c4 hf
      refine lv_aload_n hx hb dX1_replace_30 rfl (lv_at hl 2 rfl) ?_
      refine gf_X1_1 C hK hP mw_1_203 dX1_replace_31 ?_
      refine lv_iload hx hb dX1_replace_34 (lv_at hl 0 rfl) ?_
      refine lv_iload_n hx hb dX1_replace_36 rfl (lv_at hl 5 rfl) ?_
      obtain ⟨c5, hf⟩ := spn hf
      refine as_C10 C hK hP hG hS c5 dX1_replace_37 (fun H locs hP hS => ?_)
      refine lv_iload hx hb dX1_replace_38 (lv_at hl 1 rfl) ?_
      cases hf
      subst hQ
      exact he_i C hP hS dX1_replace_40
theorem cp_X1_replace : CPv yX1_replace cX1_replace 6 (some .int) 3 := ⟨mw_5_85, mw_1_8, mw_5_83, mw_5_84, by decide +kernel⟩
def rm_X1_minorOf : Room := { frames := 0, cells := 0, slots := 0, locals := 0 }
set_option maxHeartbeats 4000000 in
set_option maxRecDepth 100000 in
theorem c_X1_minorOf (l : Launch) (D : va_G) (ct : Nat → ClassId) (ad : Nat → Nat) (F : Nat → Prop) (hG : Gd ad 70 F) (p0 : Int32) (p1 : Int32) (S0 : St)  (r : Int64) (hf : f_X1_minorOf p0 p1 S0 = some r) : MetH l yX1_minorOf cX1_minorOf 4 (some .long) rm_X1_minorOf D (tysW ct) F [.ref (ad 2), .int p0, .int p1] (some (.long r)) (cellsC ct ad S0) (cellsC ct ad S0) := by
  refine MetH.of RX1 (by decide) rfl (Nat.le_of_ble_eq_true rfl) ?_
  intro p e s m args below meth c C hK hP ls hl
  have hl : lv_has ls 4 [(0, .ref (ad 2)), (1, .int p0), (2, .int p1)] := hl
  obtain ⟨hx, hb, hr, hml, hown, htL, hlocks⟩ := id C
  have hS : va_S F s.heap s.heap [] := va_S.rf
  generalize hQ : MQ below (Hq D (cellsC ct ad S0) F (some (.long r))) args s 0 0 F = Q
  refine lv_iload_n hx hb dX1_minorOf_0 rfl (lv_at hl 1 rfl) ?_
  refine lv_bipush (v := 16) hx hb dX1_minorOf_1 (by decide) ?_
  refine lv_imul hx hb dX1_minorOf_3 ?_
  refine lv_iload_n hx hb dX1_minorOf_4 rfl (lv_at hl 2 rfl) ?_
  refine lv_iadd hx hb dX1_minorOf_5 ?_
  refine lv_istore_n (lv' := [(3, .int ((p0 * 16) + p1)), (0, .ref (ad 2)), (1, .int p0), (2, .int p1)]) hx hb dX1_minorOf_6 rfl hl (by decide) rfl (fun ls hl => ?_)
  refine lv_iload_n hx hb dX1_minorOf_7 rfl (lv_at hl 0 rfl) ?_
  refine lv_if_lt (tgt := 29) hx hb dX1_minorOf_8 (by decide) (fun c1 => ?_) (fun c1 => ?_)
  · have hf := sp1 c1 hf
    refine lv_lconst (v := 0) hx hb dX1_minorOf_29 (by decide) ?_
    cases hf
    subst hQ
    exact he_l C hP hS dX1_minorOf_30
  · have hf := sp0 c1 hf
    refine lv_iload_n hx hb dX1_minorOf_11 rfl (lv_at hl 0 rfl) ?_
    refine lv_aload_n hx hb dX1_minorOf_12 rfl (lv_at hl 1 rfl) ?_
    refine gf_X1_2 C hK hP mw_1_204 dX1_minorOf_13 ?_
    refine an_C11 C hK hP dX1_minorOf_16 ?_
    refine lv_icmp_ge (tgt := 29) hx hb dX1_minorOf_17 (by decide) (fun c2 => ?_) (fun c2 => ?_)
    · have hf := sp1 c2 hf
      refine lv_lconst (v := 0) hx hb dX1_minorOf_29 (by decide) ?_
      cases hf
      subst hQ
      exact he_l C hP hS dX1_minorOf_30
    · have hf := sp0 c2 hf
      refine lv_aload_n hx hb dX1_minorOf_20 rfl (lv_at hl 1 rfl) ?_
      refine gf_X1_2 C hK hP mw_1_204 dX1_minorOf_21 ?_
      refine lv_iload_n hx hb dX1_minorOf_24 rfl (lv_at hl 0 rfl) ?_
      obtain ⟨c3, hf⟩ := spn hf
      refine al_C11 C hK hP c3 dX1_minorOf_25 ?_
      refine lv_goto (tgt := 30) hx hb dX1_minorOf_26 (by decide) ?_
      cases hf
      subst hQ
      exact he_l C hP hS dX1_minorOf_30
theorem cp_X1_minorOf : CPv yX1_minorOf cX1_minorOf 4 (some .long) 2 := ⟨mw_2_15, mw_1_8, mw_2_14, ms_3, by decide +kernel⟩
def rm_X1_expanded : Room := { frames := 1, cells := 0, slots := 0, locals := 27 }
set_option maxHeartbeats 4000000 in
set_option maxRecDepth 100000 in
theorem c_X1_expanded (l : Launch) (D : va_G) (ct : Nat → ClassId) (ad : Nat → Nat) (F : Nat → Prop) (hG : Gd ad 70 F) (p0 : Int32) (p1 : Int32) (S0 : St)  (r : Int64) (hf : f_X1_expanded p0 p1 S0 = some r) : MetH l yX1_expanded cX1_expanded 11 (some .long) rm_X1_expanded D (tysW ct) F [.ref (ad 2), .int p0, .int p1] (some (.long r)) (cellsC ct ad S0) (cellsC ct ad S0) := by
  refine MetH.of RX1 (by decide) rfl (Nat.le_of_ble_eq_true rfl) ?_
  intro p e s m args below meth c C hK hP ls hl
  have hl : lv_has ls 11 [(0, .ref (ad 2)), (1, .int p0), (2, .int p1)] := hl
  obtain ⟨hx, hb, hr, hml, hown, htL, hlocks⟩ := id C
  have hS : va_S F s.heap s.heap [] := va_S.rf
  generalize hQ : MQ below (Hq D (cellsC ct ad S0) F (some (.long r))) args s 0 0 F = Q
  have w_103 : ∀ (k_39 : Int32 → Int32 → Int32 → Int64 → Int32 → Option Int64) (hk_39 : ∀ (x2 : Int32) (x3 : Int32) (x4 : Int32) (x5 : Int64) (x7 : Int32), ∀ (H : Heap) (locs : List Loc) (ls : Array Slot), lv_has ls 11 [(0, .ref (ad 2)), (2, .int x2), (3, .int x3), (4, .int x4), (5, .long x5), (7, .int x7)] → va_P D vwCl (cellsC ct ad S0) H → va_S F s.heap H locs → k_39 x2 x3 x4 x5 x7 = some r → W p l e rm_X1_expanded s m args below meth c H locs 0 0 Q (F0 m 39 ls [])), ∀ (x2 : Int32) (x3 : Int32) (x4 : Int32) (x5 : Int64) (x7 : Int32) (x8 : Int64) (y0 : Int32), ∀ (H : Heap) (locs : List Loc) (ls : Array Slot), lv_has ls 11 [(0, .ref (ad 2)), (2, .int x2), (3, .int x3), (4, .int x4), (5, .long x5), (7, .int x7), (8, .long x8)] → va_P D vwCl (cellsC ct ad S0) H → va_S F s.heap H locs → n_X1_expanded_103 k_39 S0 x2 x3 x4 x5 x7 x8 y0 = some r → W p l e rm_X1_expanded s m args below meth c H locs 0 0 Q (F0 m 103 ls [.int y0]) := by
    intro k_39 hk_39 x2 x3 x4 x5 x7 x8 y0 H locs ls hl hP hS hf
    refine lv_istore (lv' := [(10, .int y0), (0, .ref (ad 2)), (2, .int x2), (3, .int x3), (4, .int x4), (5, .long x5), (7, .int x7), (8, .long x8)]) hx hb dX1_expanded_103 hl (by decide) rfl (fun ls hl => ?_)
    refine lv_iload hx hb dX1_expanded_105 (lv_at hl 0 rfl) ?_
    refine lv_if_eq (tgt := 118) hx hb dX1_expanded_107 (by decide) (fun c1 => ?_) (fun c1 => ?_)
    · have hf := sp1 c1 hf
      refine lv_lload hx hb dX1_expanded_118 (lv_at hl 5 rfl) ?_
      refine lv_lload hx hb dX1_expanded_120 (lv_at hl 7 rfl) ?_
      refine lv_ladd hx hb dX1_expanded_122 ?_
      refine lv_lstore (lv' := [(5, .long (x5 + x8)), (10, .int y0), (0, .ref (ad 2)), (2, .int x2), (3, .int x3), (4, .int x4), (7, .int x7), (8, .long x8)]) hx hb dX1_expanded_123 hl (by decide) rfl (fun ls hl => ?_)
      refine lv_iinc (v := (x7 + 1)) (lv' := [(7, .int (x7 + 1)), (5, .long (x5 + x8)), (10, .int y0), (0, .ref (ad 2)), (2, .int x2), (3, .int x3), (4, .int x4), (8, .long x8)]) hx hb dX1_expanded_125 hl (k := 6) rfl rfl (by decide) rfl (fun ls hl => ?_)
      refine lv_goto (tgt := 39) hx hb dX1_expanded_128 (by decide) ?_
      exact hk_39 x2 x3 x4 (x5 + x8) (x7 + 1) _ _ _ (lv_sub hl [3, 4, 5, 6, 1, 0] rfl) hP hS hf
    · have hf := sp0 c1 hf
      refine lv_lload hx hb dX1_expanded_110 (lv_at hl 5 rfl) ?_
      refine lv_lload hx hb dX1_expanded_112 (lv_at hl 7 rfl) ?_
      refine lv_lsub hx hb dX1_expanded_114 ?_
      refine lv_goto (tgt := 123) hx hb dX1_expanded_115 (by decide) ?_
      refine lv_lstore (lv' := [(5, .long (x5 - x8)), (10, .int y0), (0, .ref (ad 2)), (2, .int x2), (3, .int x3), (4, .int x4), (7, .int x7), (8, .long x8)]) hx hb dX1_expanded_123 hl (by decide) rfl (fun ls hl => ?_)
      refine lv_iinc (v := (x7 + 1)) (lv' := [(7, .int (x7 + 1)), (5, .long (x5 - x8)), (10, .int y0), (0, .ref (ad 2)), (2, .int x2), (3, .int x3), (4, .int x4), (8, .long x8)]) hx hb dX1_expanded_125 hl (k := 6) rfl rfl (by decide) rfl (fun ls hl => ?_)
      refine lv_goto (tgt := 39) hx hb dX1_expanded_128 (by decide) ?_
      exact hk_39 x2 x3 x4 (x5 - x8) (x7 + 1) _ _ _ (lv_sub hl [3, 4, 5, 6, 1, 0] rfl) hP hS hf
  have w_39 : ∀ (x2 : Int32) (x3 : Int32) (x4 : Int32) (x5 : Int64) (x7 : Int32), ∀ (H : Heap) (locs : List Loc) (ls : Array Slot), lv_has ls 11 [(0, .ref (ad 2)), (2, .int x2), (3, .int x3), (4, .int x4), (5, .long x5), (7, .int x7)] → va_P D vwCl (cellsC ct ad S0) H → va_S F s.heap H locs → n_X1_expanded_39 S0 x2 x3 x4 x5 x7 = some r → W p l e rm_X1_expanded s m args below meth c H locs 0 0 Q (F0 m 39 ls []) := by
    have aux : ∀ (n : Nat), ∀ (x2 : Int32) (x3 : Int32) (x4 : Int32) (x5 : Int64) (x7 : Int32), ∀ (H : Heap) (locs : List Loc) (ls : Array Slot), lv_has ls 11 [(0, .ref (ad 2)), (2, .int x2), (3, .int x3), (4, .int x4), (5, .long x5), (7, .int x7)] → va_P D vwCl (cellsC ct ad S0) H → va_S F s.heap H locs → itr (fun (q : Int32 × Int32 × Int32 × Int64 × Int32) k => s_X1_expanded_39  (fun (x2 : Int32) (x3 : Int32) (x4 : Int32) (x5 : Int64) (x7 : Int32) => k (x2, x3, x4, x5, x7)) S0 q.1 q.2.1 q.2.2.1 q.2.2.2.1 q.2.2.2.2) n (x2, x3, x4, x5, x7) = some r → W p l e rm_X1_expanded s m args below meth c H locs 0 0 Q (F0 m 39 ls []) := by
      intro n
      induction n with
      | zero => intro x2 x3 x4 x5 x7 H locs ls hl hP hS hf; exact (itr_z hf).elim
      | succ n ih =>
      intro x2 x3 x4 x5 x7 H locs ls hl hP hS hf
      have hk_39 := ih
      have hf : s_X1_expanded_39  (fun (x2 : Int32) (x3 : Int32) (x4 : Int32) (x5 : Int64) (x7 : Int32) => itr (fun (q : Int32 × Int32 × Int32 × Int64 × Int32) k => s_X1_expanded_39  (fun (x2 : Int32) (x3 : Int32) (x4 : Int32) (x5 : Int64) (x7 : Int32) => k (x2, x3, x4, x5, x7)) S0 q.1 q.2.1 q.2.2.1 q.2.2.2.1 q.2.2.2.2) n (x2, x3, x4, x5, x7)) S0 x2 x3 x4 x5 x7 = some r := hf
      refine lv_iload hx hb dX1_expanded_39 (lv_at hl 5 rfl) ?_
      refine lv_aload_n hx hb dX1_expanded_41 rfl (lv_at hl 0 rfl) ?_
      refine gf_X1_0 C hK hP mw_1_201 dX1_expanded_42 ?_
      refine lv_icmp_ge (tgt := 131) hx hb dX1_expanded_45 (by decide) (fun c2 => ?_) (fun c2 => ?_)
      · have hf := sp1 c2 hf
        refine lv_lload hx hb dX1_expanded_131 (lv_at hl 4 rfl) ?_
        cases hf
        subst hQ
        exact he_l C hP hS dX1_expanded_133
      · have hf := sp0 c2 hf
        refine lv_iload_n hx hb dX1_expanded_48 rfl (lv_at hl 1 rfl) ?_
        refine lv_iload hx hb dX1_expanded_49 (lv_at hl 5 rfl) ?_
        refine lv_ishr hx hb dX1_expanded_51 ?_
        refine lv_iconst (v := 1) hx hb dX1_expanded_52 (by decide) ?_
        refine lv_iand hx hb dX1_expanded_53 ?_
        refine lv_iconst (v := 1) hx hb dX1_expanded_54 (by decide) ?_
        refine lv_icmp_ne (tgt := 125) hx hb dX1_expanded_55 (by decide) (fun c3 => ?_) (fun c3 => ?_)
        · have hf := sp0 c3 hf
          refine lv_iinc (v := (x7 + 1)) (lv' := [(7, .int (x7 + 1)), (0, .ref (ad 2)), (2, .int x2), (3, .int x3), (4, .int x4), (5, .long x5)]) hx hb dX1_expanded_125 hl (k := 5) rfl rfl (by decide) rfl (fun ls hl => ?_)
          refine lv_goto (tgt := 39) hx hb dX1_expanded_128 (by decide) ?_
          exact hk_39 x2 x3 x4 x5 (x7 + 1) _ _ _ (lv_sub hl [1, 2, 3, 4, 5, 0] rfl) hP hS hf
        · have hf := sp1 c3 hf
          refine lv_aload_n hx hb dX1_expanded_58 rfl (lv_at hl 0 rfl) ?_
          refine lv_iload_n hx hb dX1_expanded_59 rfl (lv_at hl 2 rfl) ?_
          refine lv_iload hx hb dX1_expanded_60 (lv_at hl 5 rfl) ?_
          obtain ⟨v5, h4, hf⟩ := b1_some hf
          refine hc_V (As := [.int x3, .int x7]) (rest := []) C hK (c_X1_entryAt l D ct ad F hG x3 x7 S0  v5 h4) hl.1 cp_X1_entryAt mw_2_8 (rc_X1 hK hP) hP hS ⟨rfl, rfl⟩ ⟨Nat.le_of_ble_eq_true rfl, Nat.le_of_ble_eq_true rfl⟩ rfl rfl (Nat.le_of_ble_eq_true rfl) dX1_expanded_62 ⟨Nat.le_of_ble_eq_true rfl, Nat.le_of_ble_eq_true rfl⟩ (fun H locs hP hS => ?_)
          refine lv_i2l hx hb dX1_expanded_65 rfl ?_
          refine lv_aload_n hx hb dX1_expanded_66 rfl (lv_at hl 0 rfl) ?_
          refine lv_iload hx hb dX1_expanded_67 (lv_at hl 3 rfl) ?_
          refine lv_iload_n hx hb dX1_expanded_69 rfl (lv_at hl 1 rfl) ?_
          refine lv_iconst (v := 1) hx hb dX1_expanded_70 (by decide) ?_
          refine lv_iload hx hb dX1_expanded_71 (lv_at hl 5 rfl) ?_
          refine lv_ishl hx hb dX1_expanded_73 ?_
          refine lv_iconst (v := (-1)) hx hb dX1_expanded_74 (by decide) ?_
          refine lv_ixor hx hb dX1_expanded_75 ?_
          refine lv_iand hx hb dX1_expanded_76 ?_
          obtain ⟨v7, h6, hf⟩ := b1_some hf
          refine hc_V (As := [.int x4, .int (x2 &&& ((1 <<< (x7 &&& 31)) ^^^ (-1)))]) (rest := [.long (Int32.toInt64 v5)]) C hK (c_X1_minorOf l D ct ad F hG x4 (x2 &&& ((1 <<< (x7 &&& 31)) ^^^ (-1))) S0  v7 h6) hl.1 cp_X1_minorOf mw_2_12 (rc_X1 hK hP) hP hS ⟨rfl, rfl⟩ ⟨Nat.le_of_ble_eq_true rfl, Nat.le_of_ble_eq_true rfl⟩ rfl rfl (Nat.le_of_ble_eq_true rfl) dX1_expanded_77 ⟨Nat.le_of_ble_eq_true rfl, Nat.le_of_ble_eq_true rfl⟩ (fun H locs hP hS => ?_)
          refine lv_lmul hx hb dX1_expanded_80 ?_
          refine lv_lstore (lv' := [(8, .long ((Int32.toInt64 v5) * v7)), (0, .ref (ad 2)), (2, .int x2), (3, .int x3), (4, .int x4), (5, .long x5), (7, .int x7)]) hx hb dX1_expanded_81 hl (by decide) rfl (fun ls hl => ?_)
          refine lv_iload_n hx hb dX1_expanded_83 rfl (lv_at hl 2 rfl) ?_
          refine lv_iload hx hb dX1_expanded_84 (lv_at hl 6 rfl) ?_
          refine lv_iconst (v := 1) hx hb dX1_expanded_86 (by decide) ?_
          refine lv_iadd hx hb dX1_expanded_87 ?_
          refine lv_ishr hx hb dX1_expanded_88 ?_
          obtain ⟨v8, h9, hf⟩ := b1_some hf
          refine pc_S (As := [.int (x2 >>> ((x7 + 1) &&& 31))]) (rest := []) C (c_J6_bitCount_0f7a4 l (x2 >>> ((x7 + 1) &&& 31)) v8 h9) hl.1 cp_J6_bitCount_0f7a4 mw_1_239 ⟨rfl, rfl⟩ ⟨Nat.le_of_ble_eq_true rfl, Nat.le_of_ble_eq_true rfl⟩ rfl rfl (Nat.le_of_ble_eq_true rfl) dX1_expanded_89 ⟨Nat.le_of_ble_eq_true rfl, Nat.le_of_ble_eq_true rfl⟩ ?_
          refine lv_iconst (v := 1) hx hb dX1_expanded_92 (by decide) ?_
          refine lv_iand hx hb dX1_expanded_93 ?_
          refine lv_iconst (v := 1) hx hb dX1_expanded_94 (by decide) ?_
          refine lv_icmp_ne (tgt := 102) hx hb dX1_expanded_95 (by decide) (fun c10 => ?_) (fun c10 => ?_)
          · have hf := sp0 c10 hf
            refine lv_iconst (v := 0) hx hb dX1_expanded_102 (by decide) ?_
            exact w_103 _ hk_39 x2 x3 x4 x5 x7 ((Int32.toInt64 v5) * v7) 0 _ _ _ (lv_sub hl [1, 2, 3, 4, 5, 6, 0] rfl) hP hS hf
          · have hf := sp1 c10 hf
            refine lv_iconst (v := 1) hx hb dX1_expanded_98 (by decide) ?_
            refine lv_goto (tgt := 103) hx hb dX1_expanded_99 (by decide) ?_
            exact w_103 _ hk_39 x2 x3 x4 x5 x7 ((Int32.toInt64 v5) * v7) 1 _ _ _ (lv_sub hl [1, 2, 3, 4, 5, 6, 0] rfl) hP hS hf
    exact aux FU
  refine lv_iload_n hx hb dX1_expanded_0 rfl (lv_at hl 1 rfl) ?_
  obtain ⟨v11, h12, hf⟩ := b1_some hf
  refine pc_S (As := [.int p0]) (rest := []) C (c_J6_bitCount_0f7a4 l p0 v11 h12) hl.1 cp_J6_bitCount_0f7a4 mw_1_239 ⟨rfl, rfl⟩ ⟨Nat.le_of_ble_eq_true rfl, Nat.le_of_ble_eq_true rfl⟩ rfl rfl (Nat.le_of_ble_eq_true rfl) dX1_expanded_1 ⟨Nat.le_of_ble_eq_true rfl, Nat.le_of_ble_eq_true rfl⟩ ?_
  refine lv_iload_n hx hb dX1_expanded_4 rfl (lv_at hl 2 rfl) ?_
  obtain ⟨v13, h14, hf⟩ := b1_some hf
  refine pc_S (As := [.int p1]) (rest := [.int v11]) C (c_J6_bitCount_0f7a4 l p1 v13 h14) hl.1 cp_J6_bitCount_0f7a4 mw_1_239 ⟨rfl, rfl⟩ ⟨Nat.le_of_ble_eq_true rfl, Nat.le_of_ble_eq_true rfl⟩ rfl rfl (Nat.le_of_ble_eq_true rfl) dX1_expanded_5 ⟨Nat.le_of_ble_eq_true rfl, Nat.le_of_ble_eq_true rfl⟩ ?_
  refine lv_icmp_eq (tgt := 13) hx hb dX1_expanded_8 (by decide) (fun c15 => ?_) (fun c15 => ?_)
  · have hf := sp1 c15 hf
    refine lv_iload_n hx hb dX1_expanded_13 rfl (lv_at hl 1 rfl) ?_
    refine lv_if_ne (tgt := 19) hx hb dX1_expanded_14 (by decide) (fun c16 => ?_) (fun c16 => ?_)
    · have hf := sp0 c16 hf
      refine lv_iload_n hx hb dX1_expanded_19 rfl (lv_at hl 1 rfl) ?_
      obtain ⟨v17, h18, hf⟩ := b1_some hf
      refine pc_S (As := [.int p0]) (rest := []) C (c_X1_lastOf l p0 v17 h18) hl.1 cp_X1_lastOf mw_2_5 ⟨rfl, rfl⟩ ⟨Nat.le_of_ble_eq_true rfl, Nat.le_of_ble_eq_true rfl⟩ rfl rfl (Nat.le_of_ble_eq_true rfl) dX1_expanded_20 ⟨Nat.le_of_ble_eq_true rfl, Nat.le_of_ble_eq_true rfl⟩ ?_
      refine lv_istore_n (lv' := [(3, .int v17), (0, .ref (ad 2)), (1, .int p0), (2, .int p1)]) hx hb dX1_expanded_23 rfl hl (by decide) rfl (fun ls hl => ?_)
      refine lv_iload_n hx hb dX1_expanded_24 rfl (lv_at hl 2 rfl) ?_
      refine lv_iconst (v := 1) hx hb dX1_expanded_25 (by decide) ?_
      refine lv_iload_n hx hb dX1_expanded_26 rfl (lv_at hl 0 rfl) ?_
      refine lv_ishl hx hb dX1_expanded_27 ?_
      refine lv_iconst (v := (-1)) hx hb dX1_expanded_28 (by decide) ?_
      refine lv_ixor hx hb dX1_expanded_29 ?_
      refine lv_iand hx hb dX1_expanded_30 ?_
      refine lv_istore (lv' := [(4, .int (p0 &&& ((1 <<< (v17 &&& 31)) ^^^ (-1)))), (3, .int v17), (0, .ref (ad 2)), (1, .int p0), (2, .int p1)]) hx hb dX1_expanded_31 hl (by decide) rfl (fun ls hl => ?_)
      refine lv_lconst (v := 0) hx hb dX1_expanded_33 (by decide) ?_
      refine lv_lstore (lv' := [(5, .long 0), (4, .int (p0 &&& ((1 <<< (v17 &&& 31)) ^^^ (-1)))), (3, .int v17), (0, .ref (ad 2)), (1, .int p0), (2, .int p1)]) hx hb dX1_expanded_34 hl (by decide) rfl (fun ls hl => ?_)
      refine lv_iconst (v := 0) hx hb dX1_expanded_36 (by decide) ?_
      refine lv_istore (lv' := [(7, .int 0), (5, .long 0), (4, .int (p0 &&& ((1 <<< (v17 &&& 31)) ^^^ (-1)))), (3, .int v17), (0, .ref (ad 2)), (1, .int p0), (2, .int p1)]) hx hb dX1_expanded_37 hl (by decide) rfl (fun ls hl => ?_)
      exact w_39 p1 v17 (p0 &&& ((1 <<< (v17 &&& 31)) ^^^ (-1))) 0 0 _ _ _ (lv_sub hl [4, 6, 3, 2, 1, 0] rfl) hP hS hf
    · have hf := sp1 c16 hf
      refine lv_lconst (v := 1) hx hb dX1_expanded_17 (by decide) ?_
      cases hf
      subst hQ
      exact he_l C hP hS dX1_expanded_18
  · have hf := sp0 c15 hf
    refine lv_lconst (v := 0) hx hb dX1_expanded_11 (by decide) ?_
    cases hf
    subst hQ
    exact he_l C hP hS dX1_expanded_12
theorem cp_X1_expanded : CPv yX1_expanded cX1_expanded 11 (some .long) 2 := ⟨mw_1_238, mw_1_8, mw_1_237, ms_1, by decide +kernel⟩
def rm_X1_fillMinors : Room := { frames := 2, cells := 0, slots := 0, locals := 61 }
set_option maxHeartbeats 4000000 in
set_option maxRecDepth 100000 in
theorem c_X1_fillMinors (l : Launch) (D : va_G) (ct : Nat → ClassId) (ad : Nat → Nat) (F : Nat → Prop) (hG : Gd ad 70 F)  (S0 : St)  (S' : St) (hf : f_X1_fillMinors  S0 = some S') : MetH l yX1_fillMinors cX1_fillMinors 5 none rm_X1_fillMinors D (tysW ct) F [.ref (ad 2)] none (cellsC ct ad S0) (cellsC ct ad S') := by
  refine MetH.of RX1 (by decide) rfl (Nat.le_of_ble_eq_true rfl) ?_
  intro p e s m args below meth c C hK hP ls hl
  have hl : lv_has ls 5 [(0, .ref (ad 2))] := hl
  obtain ⟨hx, hb, hr, hml, hown, htL, hlocks⟩ := id C
  have hS : va_S F s.heap s.heap [] := va_S.rf
  generalize hQ : MQ below (Hq D (cellsC ct ad S') F none) args s 0 0 F = Q
  have w_16 : ∀ (k_9 : Int32 → Int32 → St → Option St) (hk_9 : ∀ (x1 : Int32) (x2 : Int32) (S : St), ∀ (H : Heap) (locs : List Loc) (ls : Array Slot), lv_has ls 5 [(0, .ref (ad 2)), (1, .int x1), (2, .int x2)] → va_P D vwCl (cellsC ct ad S) H → va_S F s.heap H locs → k_9 x1 x2 S = some S' → W p l e rm_X1_fillMinors s m args below meth c H locs 0 0 Q (F0 m 9 ls [])), ∀ (x1 : Int32) (x2 : Int32) (x3 : Int32) (S : St), ∀ (H : Heap) (locs : List Loc) (ls : Array Slot), lv_has ls 5 [(0, .ref (ad 2)), (1, .int x1), (2, .int x2), (3, .int x3)] → va_P D vwCl (cellsC ct ad S) H → va_S F s.heap H locs → n_X1_fillMinors_16 k_9 x1 x2 x3 S = some S' → W p l e rm_X1_fillMinors s m args below meth c H locs 0 0 Q (F0 m 16 ls []) := by
    intro k_9 hk_9
    have aux : ∀ (n : Nat), ∀ (x1 : Int32) (x2 : Int32) (x3 : Int32) (S : St), ∀ (H : Heap) (locs : List Loc) (ls : Array Slot), lv_has ls 5 [(0, .ref (ad 2)), (1, .int x1), (2, .int x2), (3, .int x3)] → va_P D vwCl (cellsC ct ad S) H → va_S F s.heap H locs → itr (fun (q : Int32 × Int32 × Int32 × St) k => s_X1_fillMinors_16 k_9 (fun (x1 : Int32) (x2 : Int32) (x3 : Int32) (S : St) => k (x1, x2, x3, S)) q.1 q.2.1 q.2.2.1 q.2.2.2) n (x1, x2, x3, S) = some S' → W p l e rm_X1_fillMinors s m args below meth c H locs 0 0 Q (F0 m 16 ls []) := by
      intro n
      induction n with
      | zero => intro x1 x2 x3 S H locs ls hl hP hS hf; exact (itr_z hf).elim
      | succ n ih =>
      intro x1 x2 x3 S H locs ls hl hP hS hf
      have hk_16 := ih
      have hf : s_X1_fillMinors_16 k_9 (fun (x1 : Int32) (x2 : Int32) (x3 : Int32) (S : St) => itr (fun (q : Int32 × Int32 × Int32 × St) k => s_X1_fillMinors_16 k_9 (fun (x1 : Int32) (x2 : Int32) (x3 : Int32) (S : St) => k (x1, x2, x3, S)) q.1 q.2.1 q.2.2.1 q.2.2.2) n (x1, x2, x3, S)) x1 x2 x3 S = some S' := hf
      refine lv_iload_n hx hb dX1_fillMinors_16 rfl (lv_at hl 3 rfl) ?_
      refine lv_iload_n hx hb dX1_fillMinors_17 rfl (lv_at hl 1 rfl) ?_
      refine lv_icmp_ge (tgt := 58) hx hb dX1_fillMinors_18 (by decide) (fun c1 => ?_) (fun c1 => ?_)
      · have hf := sp1 c1 hf
        refine lv_iinc (v := (x2 + 1)) (lv' := [(2, .int (x2 + 1)), (0, .ref (ad 2)), (1, .int x1), (3, .int x3)]) hx hb dX1_fillMinors_58 hl (k := 2) rfl rfl (by decide) rfl (fun ls hl => ?_)
        refine lv_goto (tgt := 9) hx hb dX1_fillMinors_61 (by decide) ?_
        exact hk_9 x1 (x2 + 1) S _ _ _ (lv_sub hl [1, 2, 0] rfl) hP hS hf
      · have hf := sp0 c1 hf
        refine lv_iload_n hx hb dX1_fillMinors_21 rfl (lv_at hl 2 rfl) ?_
        refine lv_bipush (v := 16) hx hb dX1_fillMinors_22 (by decide) ?_
        refine lv_imul hx hb dX1_fillMinors_24 ?_
        refine lv_iload_n hx hb dX1_fillMinors_25 rfl (lv_at hl 3 rfl) ?_
        refine lv_iadd hx hb dX1_fillMinors_26 ?_
        refine lv_istore (lv' := [(4, .int ((x2 * 16) + x3)), (0, .ref (ad 2)), (1, .int x1), (2, .int x2), (3, .int x3)]) hx hb dX1_fillMinors_27 hl (by decide) rfl (fun ls hl => ?_)
        refine lv_iload hx hb dX1_fillMinors_29 (lv_at hl 0 rfl) ?_
        refine lv_aload_n hx hb dX1_fillMinors_31 rfl (lv_at hl 1 rfl) ?_
        refine gf_X1_2 C hK hP mw_1_204 dX1_fillMinors_32 ?_
        refine an_C11 C hK hP dX1_fillMinors_35 ?_
        refine lv_icmp_ge (tgt := 52) hx hb dX1_fillMinors_36 (by decide) (fun c2 => ?_) (fun c2 => ?_)
        · have hf := sp1 c2 hf
          refine lv_iinc (v := (x3 + 1)) (lv' := [(3, .int (x3 + 1)), (4, .int ((x2 * 16) + x3)), (0, .ref (ad 2)), (1, .int x1), (2, .int x2)]) hx hb dX1_fillMinors_52 hl (k := 4) rfl rfl (by decide) rfl (fun ls hl => ?_)
          refine lv_goto (tgt := 16) hx hb dX1_fillMinors_55 (by decide) ?_
          exact hk_16 x1 x2 (x3 + 1) S _ _ _ (lv_sub hl [2, 3, 4, 0] rfl) hP hS hf
        · have hf := sp0 c2 hf
          refine lv_aload_n hx hb dX1_fillMinors_39 rfl (lv_at hl 1 rfl) ?_
          refine gf_X1_2 C hK hP mw_1_204 dX1_fillMinors_40 ?_
          refine lv_iload hx hb dX1_fillMinors_43 (lv_at hl 0 rfl) ?_
          refine lv_aload_n hx hb dX1_fillMinors_45 rfl (lv_at hl 1 rfl) ?_
          refine lv_iload_n hx hb dX1_fillMinors_46 rfl (lv_at hl 3 rfl) ?_
          refine lv_iload_n hx hb dX1_fillMinors_47 rfl (lv_at hl 4 rfl) ?_
          obtain ⟨v4, h3, hf⟩ := b1_some hf
          refine hc_V (As := [.int x2, .int x3]) (rest := [.int ((x2 * 16) + x3), .ref (ad 11)]) C hK (c_X1_expanded l D ct ad F hG x2 x3 S  v4 h3) hl.1 cp_X1_expanded mw_1_235 (rc_X1 hK hP) hP hS ⟨rfl, rfl⟩ ⟨Nat.le_of_ble_eq_true rfl, Nat.le_of_ble_eq_true rfl⟩ rfl rfl (Nat.le_of_ble_eq_true rfl) dX1_fillMinors_48 ⟨Nat.le_of_ble_eq_true rfl, Nat.le_of_ble_eq_true rfl⟩ (fun H locs hP hS => ?_)
          obtain ⟨c5, hf⟩ := spn hf
          refine as_C11 C hK hP hG hS c5 dX1_fillMinors_51 (fun H locs hP hS => ?_)
          refine lv_iinc (v := (x3 + 1)) (lv' := [(3, .int (x3 + 1)), (4, .int ((x2 * 16) + x3)), (0, .ref (ad 2)), (1, .int x1), (2, .int x2)]) hx hb dX1_fillMinors_52 hl (k := 4) rfl rfl (by decide) rfl (fun ls hl => ?_)
          refine lv_goto (tgt := 16) hx hb dX1_fillMinors_55 (by decide) ?_
          exact hk_16 x1 x2 (x3 + 1) (wJ S 11 (Int32.toNatClampNeg ((x2 * 16) + x3)) v4) _ _ _ (lv_sub hl [2, 3, 4, 0] rfl) hP hS hf
    exact aux FU
  have w_9 : ∀ (x1 : Int32) (x2 : Int32) (S : St), ∀ (H : Heap) (locs : List Loc) (ls : Array Slot), lv_has ls 5 [(0, .ref (ad 2)), (1, .int x1), (2, .int x2)] → va_P D vwCl (cellsC ct ad S) H → va_S F s.heap H locs → n_X1_fillMinors_9 x1 x2 S = some S' → W p l e rm_X1_fillMinors s m args below meth c H locs 0 0 Q (F0 m 9 ls []) := by
    have aux : ∀ (n : Nat), ∀ (x1 : Int32) (x2 : Int32) (S : St), ∀ (H : Heap) (locs : List Loc) (ls : Array Slot), lv_has ls 5 [(0, .ref (ad 2)), (1, .int x1), (2, .int x2)] → va_P D vwCl (cellsC ct ad S) H → va_S F s.heap H locs → itr (fun (q : Int32 × Int32 × St) k => s_X1_fillMinors_9  (fun (x1 : Int32) (x2 : Int32) (S : St) => k (x1, x2, S)) q.1 q.2.1 q.2.2) n (x1, x2, S) = some S' → W p l e rm_X1_fillMinors s m args below meth c H locs 0 0 Q (F0 m 9 ls []) := by
      intro n
      induction n with
      | zero => intro x1 x2 S H locs ls hl hP hS hf; exact (itr_z hf).elim
      | succ n ih =>
      intro x1 x2 S H locs ls hl hP hS hf
      have hk_9 := ih
      have hf : s_X1_fillMinors_9  (fun (x1 : Int32) (x2 : Int32) (S : St) => itr (fun (q : Int32 × Int32 × St) k => s_X1_fillMinors_9  (fun (x1 : Int32) (x2 : Int32) (S : St) => k (x1, x2, S)) q.1 q.2.1 q.2.2) n (x1, x2, S)) x1 x2 S = some S' := hf
      refine lv_iload_n hx hb dX1_fillMinors_9 rfl (lv_at hl 2 rfl) ?_
      refine lv_iload_n hx hb dX1_fillMinors_10 rfl (lv_at hl 1 rfl) ?_
      refine lv_icmp_ge (tgt := 64) hx hb dX1_fillMinors_11 (by decide) (fun c6 => ?_) (fun c6 => ?_)
      · have hf := sp1 c6 hf
        cases hf
        subst hQ
        exact he_v C hP hS dX1_fillMinors_64
      · have hf := sp0 c6 hf
        refine lv_iconst (v := 0) hx hb dX1_fillMinors_14 (by decide) ?_
        refine lv_istore_n (lv' := [(3, .int 0), (0, .ref (ad 2)), (1, .int x1), (2, .int x2)]) hx hb dX1_fillMinors_15 rfl hl (by decide) rfl (fun ls hl => ?_)
        exact w_16 _ hk_9 x1 x2 0 S _ _ _ (lv_sub hl [1, 2, 3, 0] rfl) hP hS hf
    exact aux FU
  refine lv_iconst (v := 1) hx hb dX1_fillMinors_0 (by decide) ?_
  refine lv_aload_n hx hb dX1_fillMinors_1 rfl (lv_at hl 0 rfl) ?_
  refine gf_X1_0 C hK hP mw_1_201 dX1_fillMinors_2 ?_
  refine lv_ishl hx hb dX1_fillMinors_5 ?_
  refine lv_istore_n (lv' := [(1, .int (1 <<< ((S0.1 2 0) &&& 31))), (0, .ref (ad 2))]) hx hb dX1_fillMinors_6 rfl hl (by decide) rfl (fun ls hl => ?_)
  refine lv_iconst (v := 0) hx hb dX1_fillMinors_7 (by decide) ?_
  refine lv_istore_n (lv' := [(2, .int 0), (1, .int (1 <<< ((S0.1 2 0) &&& 31))), (0, .ref (ad 2))]) hx hb dX1_fillMinors_8 rfl hl (by decide) rfl (fun ls hl => ?_)
  exact w_9 (1 <<< ((S0.1 2 0) &&& 31)) 0 S0 _ _ _ (lv_sub hl [2, 1, 0] rfl) hP hS hf
theorem cp_X1_fillMinors : CPv yX1_fillMinors cX1_fillMinors 5 none 0 := ⟨mw_1_234, mw_1_8, mw_1_233, ms_0, by decide +kernel⟩
def rm_X1_wholeMinor : Room := { frames := 3, cells := 0, slots := 0, locals := 89 }
set_option maxHeartbeats 4000000 in
set_option maxRecDepth 100000 in
theorem c_X1_wholeMinor (l : Launch) (D : va_G) (ct : Nat → ClassId) (ad : Nat → Nat) (F : Nat → Prop) (hG : Gd ad 70 F)  (S0 : St)  (r : Int64) (S' : St) (hf : f_X1_wholeMinor  S0 = some (r, S')) : MetH l yX1_wholeMinor cX1_wholeMinor 2 (some .long) rm_X1_wholeMinor D (tysW ct) F [.ref (ad 2)] (some (.long r)) (cellsC ct ad S0) (cellsC ct ad S') := by
  refine MetH.of RX1 (by decide) rfl (Nat.le_of_ble_eq_true rfl) ?_
  intro p e s m args below meth c C hK hP ls hl
  have hl : lv_has ls 2 [(0, .ref (ad 2))] := hl
  obtain ⟨hx, hb, hr, hml, hown, htL, hlocks⟩ := id C
  have hS : va_S F s.heap s.heap [] := va_S.rf
  generalize hQ : MQ below (Hq D (cellsC ct ad S') F (some (.long r))) args s 0 0 F = Q
  refine lv_aload_n hx hb dX1_wholeMinor_0 rfl (lv_at hl 0 rfl) ?_
  obtain ⟨S2, h1, hf⟩ := b1_some hf
  refine hc_V (As := []) (rest := []) C hK (c_X1_fillMinors l D ct ad F hG S0  S2 h1) hl.1 cp_X1_fillMinors mw_1_231 (rc_X1 hK hP) hP hS ⟨rfl, rfl⟩ ⟨Nat.le_of_ble_eq_true rfl, Nat.le_of_ble_eq_true rfl⟩ rfl rfl (Nat.le_of_ble_eq_true rfl) dX1_wholeMinor_1 ⟨Nat.le_of_ble_eq_true rfl, Nat.le_of_ble_eq_true rfl⟩ (fun H locs hP hS => ?_)
  refine lv_iconst (v := 1) hx hb dX1_wholeMinor_4 (by decide) ?_
  refine lv_aload_n hx hb dX1_wholeMinor_5 rfl (lv_at hl 0 rfl) ?_
  refine gf_X1_0 C hK hP mw_1_201 dX1_wholeMinor_6 ?_
  refine lv_ishl hx hb dX1_wholeMinor_9 ?_
  refine lv_iconst (v := 1) hx hb dX1_wholeMinor_10 (by decide) ?_
  refine lv_isub hx hb dX1_wholeMinor_11 ?_
  refine lv_istore_n (lv' := [(1, .int ((1 <<< ((S2.1 2 0) &&& 31)) - 1)), (0, .ref (ad 2))]) hx hb dX1_wholeMinor_12 rfl hl (by decide) rfl (fun ls hl => ?_)
  refine lv_aload_n hx hb dX1_wholeMinor_13 rfl (lv_at hl 1 rfl) ?_
  refine lv_iload_n hx hb dX1_wholeMinor_14 rfl (lv_at hl 0 rfl) ?_
  refine lv_iload_n hx hb dX1_wholeMinor_15 rfl (lv_at hl 0 rfl) ?_
  obtain ⟨v4, h3, hf⟩ := b1_some hf
  refine hc_V (As := [.int ((1 <<< ((S2.1 2 0) &&& 31)) - 1), .int ((1 <<< ((S2.1 2 0) &&& 31)) - 1)]) (rest := []) C hK (c_X1_minorOf l D ct ad F hG ((1 <<< ((S2.1 2 0) &&& 31)) - 1) ((1 <<< ((S2.1 2 0) &&& 31)) - 1) S2  v4 h3) hl.1 cp_X1_minorOf mw_2_12 (rc_X1 hK hP) hP hS ⟨rfl, rfl⟩ ⟨Nat.le_of_ble_eq_true rfl, Nat.le_of_ble_eq_true rfl⟩ rfl rfl (Nat.le_of_ble_eq_true rfl) dX1_wholeMinor_16 ⟨Nat.le_of_ble_eq_true rfl, Nat.le_of_ble_eq_true rfl⟩ (fun H locs hP hS => ?_)
  cases hf
  subst hQ
  exact he_l C hP hS dX1_wholeMinor_19
theorem cp_X1_wholeMinor : CPv yX1_wholeMinor cX1_wholeMinor 2 (some .long) 0 := ⟨mw_1_230, mw_1_8, mw_1_228, mw_1_229, by decide +kernel⟩
def rm_X1_isMinor : Room := { frames := 1, cells := 0, slots := 0, locals := 24 }
set_option maxHeartbeats 4000000 in
set_option maxRecDepth 100000 in
theorem c_X1_isMinor (l : Launch) (D : va_G) (ct : Nat → ClassId) (ad : Nat → Nat) (F : Nat → Prop) (hG : Gd ad 70 F) (p0 : Int32) (p1 : Int32) (S0 : St)  (r : Int32) (hf : f_X1_isMinor p0 p1 S0 = some r) : MetH l yX1_isMinor cX1_isMinor 4 (some .boolean) rm_X1_isMinor D (tysW ct) F [.ref (ad 2), .int p0, .int p1] (some (.int r)) (cellsC ct ad S0) (cellsC ct ad S0) := by
  refine MetH.of RX1 (by decide) rfl (Nat.le_of_ble_eq_true rfl) ?_
  intro p e s m args below meth c C hK hP ls hl
  have hl : lv_has ls 4 [(0, .ref (ad 2)), (1, .int p0), (2, .int p1)] := hl
  obtain ⟨hx, hb, hr, hml, hown, htL, hlocks⟩ := id C
  have hS : va_S F s.heap s.heap [] := va_S.rf
  generalize hQ : MQ below (Hq D (cellsC ct ad S0) F (some (.int r))) args s 0 0 F = Q
  refine lv_iconst (v := 1) hx hb dX1_isMinor_0 (by decide) ?_
  refine lv_aload_n hx hb dX1_isMinor_1 rfl (lv_at hl 0 rfl) ?_
  refine gf_X1_0 C hK hP mw_1_201 dX1_isMinor_2 ?_
  refine lv_ishl hx hb dX1_isMinor_5 ?_
  refine lv_istore_n (lv' := [(3, .int (1 <<< ((S0.1 2 0) &&& 31))), (0, .ref (ad 2)), (1, .int p0), (2, .int p1)]) hx hb dX1_isMinor_6 rfl hl (by decide) rfl (fun ls hl => ?_)
  refine lv_iload_n hx hb dX1_isMinor_7 rfl (lv_at hl 2 rfl) ?_
  refine lv_iload_n hx hb dX1_isMinor_8 rfl (lv_at hl 0 rfl) ?_
  refine lv_icmp_ge (tgt := 32) hx hb dX1_isMinor_9 (by decide) (fun c1 => ?_) (fun c1 => ?_)
  · have hf := sp1 c1 hf
    refine lv_iconst (v := 0) hx hb dX1_isMinor_32 (by decide) ?_
    cases hf
    subst hQ
    exact he_z C (by decide) hP hS dX1_isMinor_33
  · have hf := sp0 c1 hf
    refine lv_iload_n hx hb dX1_isMinor_12 rfl (lv_at hl 3 rfl) ?_
    refine lv_iload_n hx hb dX1_isMinor_13 rfl (lv_at hl 0 rfl) ?_
    refine lv_icmp_ge (tgt := 32) hx hb dX1_isMinor_14 (by decide) (fun c2 => ?_) (fun c2 => ?_)
    · have hf := sp1 c2 hf
      refine lv_iconst (v := 0) hx hb dX1_isMinor_32 (by decide) ?_
      cases hf
      subst hQ
      exact he_z C (by decide) hP hS dX1_isMinor_33
    · have hf := sp0 c2 hf
      refine lv_iload_n hx hb dX1_isMinor_17 rfl (lv_at hl 2 rfl) ?_
      obtain ⟨v3, h4, hf⟩ := b1_some hf
      refine pc_S (As := [.int p0]) (rest := []) C (c_J6_bitCount_0f7a4 l p0 v3 h4) hl.1 cp_J6_bitCount_0f7a4 mw_1_239 ⟨rfl, rfl⟩ ⟨Nat.le_of_ble_eq_true rfl, Nat.le_of_ble_eq_true rfl⟩ rfl rfl (Nat.le_of_ble_eq_true rfl) dX1_isMinor_18 ⟨Nat.le_of_ble_eq_true rfl, Nat.le_of_ble_eq_true rfl⟩ ?_
      refine lv_iload_n hx hb dX1_isMinor_21 rfl (lv_at hl 3 rfl) ?_
      obtain ⟨v5, h6, hf⟩ := b1_some hf
      refine pc_S (As := [.int p1]) (rest := [.int v3]) C (c_J6_bitCount_0f7a4 l p1 v5 h6) hl.1 cp_J6_bitCount_0f7a4 mw_1_239 ⟨rfl, rfl⟩ ⟨Nat.le_of_ble_eq_true rfl, Nat.le_of_ble_eq_true rfl⟩ rfl rfl (Nat.le_of_ble_eq_true rfl) dX1_isMinor_22 ⟨Nat.le_of_ble_eq_true rfl, Nat.le_of_ble_eq_true rfl⟩ ?_
      refine lv_icmp_ne (tgt := 32) hx hb dX1_isMinor_25 (by decide) (fun c7 => ?_) (fun c7 => ?_)
      · have hf := sp0 c7 hf
        refine lv_iconst (v := 0) hx hb dX1_isMinor_32 (by decide) ?_
        cases hf
        subst hQ
        exact he_z C (by decide) hP hS dX1_isMinor_33
      · have hf := sp1 c7 hf
        refine lv_iconst (v := 1) hx hb dX1_isMinor_28 (by decide) ?_
        refine lv_goto (tgt := 33) hx hb dX1_isMinor_29 (by decide) ?_
        cases hf
        subst hQ
        exact he_z C (by decide) hP hS dX1_isMinor_33
theorem cp_X1_isMinor : CPv yX1_isMinor cX1_isMinor 4 (some .boolean) 2 := ⟨mw_2_27, mw_1_8, mw_2_26, ms_4, by decide +kernel⟩
def rm_X1_fullRows : Room := { frames := 3, cells := 0, slots := 0, locals := 89 }
set_option maxHeartbeats 4000000 in
set_option maxRecDepth 100000 in
theorem c_X1_fullRows (l : Launch) (D : va_G) (ct : Nat → ClassId) (ad : Nat → Nat) (F : Nat → Prop) (hG : Gd ad 70 F)  (S0 : St)  (r : Int32) (S' : St) (hf : f_X1_fullRows  S0 = some (r, S')) : MetH l yX1_fullRows cX1_fullRows 4 (some .int) rm_X1_fullRows D (tysW ct) F [.ref (ad 2)] (some (.int r)) (cellsC ct ad S0) (cellsC ct ad S') := by
  refine MetH.of RX1 (by decide) rfl (Nat.le_of_ble_eq_true rfl) ?_
  intro p e s m args below meth c C hK hP ls hl
  have hl : lv_has ls 4 [(0, .ref (ad 2))] := hl
  obtain ⟨hx, hb, hr, hml, hown, htL, hlocks⟩ := id C
  have hS : va_S F s.heap s.heap [] := va_S.rf
  generalize hQ : MQ below (Hq D (cellsC ct ad S') F (some (.int r))) args s 0 0 F = Q
  have w_16 : ∀ (k_8 : Int32 → Int32 → St → Option (Int32 × St)) (hk_8 : ∀ (x1 : Int32) (x2 : Int32) (S : St), ∀ (H : Heap) (locs : List Loc) (ls : Array Slot), lv_has ls 4 [(0, .ref (ad 2)), (1, .int x1), (2, .int x2)] → va_P D vwCl (cellsC ct ad S) H → va_S F s.heap H locs → k_8 x1 x2 S = some (r, S') → W p l e rm_X1_fullRows s m args below meth c H locs 0 0 Q (F0 m 8 ls [])), ∀ (x1 : Int32) (x2 : Int32) (x3 : Int32) (S : St), ∀ (H : Heap) (locs : List Loc) (ls : Array Slot), lv_has ls 4 [(0, .ref (ad 2)), (1, .int x1), (2, .int x2), (3, .int x3)] → va_P D vwCl (cellsC ct ad S) H → va_S F s.heap H locs → n_X1_fullRows_16 k_8 x1 x2 x3 S = some (r, S') → W p l e rm_X1_fullRows s m args below meth c H locs 0 0 Q (F0 m 16 ls []) := by
    intro k_8 hk_8
    have aux : ∀ (n : Nat), ∀ (x1 : Int32) (x2 : Int32) (x3 : Int32) (S : St), ∀ (H : Heap) (locs : List Loc) (ls : Array Slot), lv_has ls 4 [(0, .ref (ad 2)), (1, .int x1), (2, .int x2), (3, .int x3)] → va_P D vwCl (cellsC ct ad S) H → va_S F s.heap H locs → itr (fun (q : Int32 × Int32 × Int32 × St) k => s_X1_fullRows_16 k_8 (fun (x1 : Int32) (x2 : Int32) (x3 : Int32) (S : St) => k (x1, x2, x3, S)) q.1 q.2.1 q.2.2.1 q.2.2.2) n (x1, x2, x3, S) = some (r, S') → W p l e rm_X1_fullRows s m args below meth c H locs 0 0 Q (F0 m 16 ls []) := by
      intro n
      induction n with
      | zero => intro x1 x2 x3 S H locs ls hl hP hS hf; exact (itr_z hf).elim
      | succ n ih =>
      intro x1 x2 x3 S H locs ls hl hP hS hf
      have hk_16 := ih
      have hf : s_X1_fullRows_16 k_8 (fun (x1 : Int32) (x2 : Int32) (x3 : Int32) (S : St) => itr (fun (q : Int32 × Int32 × Int32 × St) k => s_X1_fullRows_16 k_8 (fun (x1 : Int32) (x2 : Int32) (x3 : Int32) (S : St) => k (x1, x2, x3, S)) q.1 q.2.1 q.2.2.1 q.2.2.2) n (x1, x2, x3, S)) x1 x2 x3 S = some (r, S') := hf
      refine lv_iload_n hx hb dX1_fullRows_16 rfl (lv_at hl 3 rfl) ?_
      refine lv_bipush (v := 16) hx hb dX1_fullRows_17 (by decide) ?_
      refine lv_icmp_ge (tgt := 57) hx hb dX1_fullRows_19 (by decide) (fun c1 => ?_) (fun c1 => ?_)
      · have hf := sp1 c1 hf
        refine lv_iinc (v := (x2 + 1)) (lv' := [(2, .int (x2 + 1)), (0, .ref (ad 2)), (1, .int x1), (3, .int x3)]) hx hb dX1_fullRows_57 hl (k := 2) rfl rfl (by decide) rfl (fun ls hl => ?_)
        refine lv_goto (tgt := 8) hx hb dX1_fullRows_60 (by decide) ?_
        exact hk_8 x1 (x2 + 1) S _ _ _ (lv_sub hl [1, 2, 0] rfl) hP hS hf
      · have hf := sp0 c1 hf
        refine lv_aload_n hx hb dX1_fullRows_22 rfl (lv_at hl 0 rfl) ?_
        refine lv_iload_n hx hb dX1_fullRows_23 rfl (lv_at hl 2 rfl) ?_
        refine lv_iload_n hx hb dX1_fullRows_24 rfl (lv_at hl 3 rfl) ?_
        obtain ⟨v3, h2, hf⟩ := b1_some hf
        refine hc_V (As := [.int x2, .int x3]) (rest := []) C hK (c_X1_isMinor l D ct ad F hG x2 x3 S  v3 h2) hl.1 cp_X1_isMinor mw_2_24 (rc_X1 hK hP) hP hS ⟨rfl, rfl⟩ ⟨Nat.le_of_ble_eq_true rfl, Nat.le_of_ble_eq_true rfl⟩ rfl rfl (Nat.le_of_ble_eq_true rfl) dX1_fullRows_25 ⟨Nat.le_of_ble_eq_true rfl, Nat.le_of_ble_eq_true rfl⟩ (fun H locs hP hS => ?_)
        refine lv_if_eq (tgt := 51) hx hb dX1_fullRows_28 (by decide) (fun c4 => ?_) (fun c4 => ?_)
        · have hf := sp1 c4 hf
          refine lv_iinc (v := (x3 + 1)) (lv' := [(3, .int (x3 + 1)), (0, .ref (ad 2)), (1, .int x1), (2, .int x2)]) hx hb dX1_fullRows_51 hl (k := 3) rfl rfl (by decide) rfl (fun ls hl => ?_)
          refine lv_goto (tgt := 16) hx hb dX1_fullRows_54 (by decide) ?_
          exact hk_16 x1 x2 (x3 + 1) S _ _ _ (lv_sub hl [1, 2, 3, 0] rfl) hP hS hf
        · have hf := sp0 c4 hf
          refine lv_aload_n hx hb dX1_fullRows_31 rfl (lv_at hl 0 rfl) ?_
          refine lv_iload_n hx hb dX1_fullRows_32 rfl (lv_at hl 2 rfl) ?_
          refine lv_iload_n hx hb dX1_fullRows_33 rfl (lv_at hl 3 rfl) ?_
          obtain ⟨v6, h5, hf⟩ := b1_some hf
          refine hc_V (As := [.int x2, .int x3]) (rest := []) C hK (c_X1_minorOf l D ct ad F hG x2 x3 S  v6 h5) hl.1 cp_X1_minorOf mw_2_12 (rc_X1 hK hP) hP hS ⟨rfl, rfl⟩ ⟨Nat.le_of_ble_eq_true rfl, Nat.le_of_ble_eq_true rfl⟩ rfl rfl (Nat.le_of_ble_eq_true rfl) dX1_fullRows_34 ⟨Nat.le_of_ble_eq_true rfl, Nat.le_of_ble_eq_true rfl⟩ (fun H locs hP hS => ?_)
          refine lv_lconst (v := 0) hx hb dX1_fullRows_37 (by decide) ?_
          refine W.lcmp hx hb dX1_fullRows_38 ?_
          refine lv_if_eq (tgt := 51) hx hb dX1_fullRows_39 (by decide) (fun c7 => ?_) (fun c7 => ?_)
          · have hf := sp1 c7 hf
            refine lv_iinc (v := (x3 + 1)) (lv' := [(3, .int (x3 + 1)), (0, .ref (ad 2)), (1, .int x1), (2, .int x2)]) hx hb dX1_fullRows_51 hl (k := 3) rfl rfl (by decide) rfl (fun ls hl => ?_)
            refine lv_goto (tgt := 16) hx hb dX1_fullRows_54 (by decide) ?_
            exact hk_16 x1 x2 (x3 + 1) S _ _ _ (lv_sub hl [1, 2, 3, 0] rfl) hP hS hf
          · have hf := sp0 c7 hf
            refine lv_iload_n hx hb dX1_fullRows_42 rfl (lv_at hl 1 rfl) ?_
            refine lv_iload_n hx hb dX1_fullRows_43 rfl (lv_at hl 2 rfl) ?_
            obtain ⟨v8, h9, hf⟩ := b1_some hf
            refine pc_S (As := [.int x2]) (rest := [.int x1]) C (c_J6_bitCount_0f7a4 l x2 v8 h9) hl.1 cp_J6_bitCount_0f7a4 mw_1_239 ⟨rfl, rfl⟩ ⟨Nat.le_of_ble_eq_true rfl, Nat.le_of_ble_eq_true rfl⟩ rfl rfl (Nat.le_of_ble_eq_true rfl) dX1_fullRows_44 ⟨Nat.le_of_ble_eq_true rfl, Nat.le_of_ble_eq_true rfl⟩ ?_
            refine va_mmax (ls := _) hx hb (hml.trans hl.1.symm) hown (htL _ mw_2_28) (htL _ mw_2_29) (htL _ mw_1_17) (htL _ mw_2_30) (Nat.le_of_ble_eq_true rfl) (Nat.le_of_ble_eq_true rfl) (Nat.le_of_ble_eq_true rfl) (Nat.le_of_ble_eq_true rfl) dX1_fullRows_47 ?_
            refine lv_istore_n (lv' := [(1, .int (mxI x1 v8)), (0, .ref (ad 2)), (2, .int x2), (3, .int x3)]) hx hb dX1_fullRows_50 rfl hl (by decide) rfl (fun ls hl => ?_)
            refine lv_iinc (v := (x3 + 1)) (lv' := [(3, .int (x3 + 1)), (1, .int (mxI x1 v8)), (0, .ref (ad 2)), (2, .int x2)]) hx hb dX1_fullRows_51 hl (k := 3) rfl rfl (by decide) rfl (fun ls hl => ?_)
            refine lv_goto (tgt := 16) hx hb dX1_fullRows_54 (by decide) ?_
            exact hk_16 (mxI x1 v8) x2 (x3 + 1) S _ _ _ (lv_sub hl [2, 1, 3, 0] rfl) hP hS hf
    exact aux FU
  have w_8 : ∀ (x1 : Int32) (x2 : Int32) (S : St), ∀ (H : Heap) (locs : List Loc) (ls : Array Slot), lv_has ls 4 [(0, .ref (ad 2)), (1, .int x1), (2, .int x2)] → va_P D vwCl (cellsC ct ad S) H → va_S F s.heap H locs → n_X1_fullRows_8 x1 x2 S = some (r, S') → W p l e rm_X1_fullRows s m args below meth c H locs 0 0 Q (F0 m 8 ls []) := by
    have aux : ∀ (n : Nat), ∀ (x1 : Int32) (x2 : Int32) (S : St), ∀ (H : Heap) (locs : List Loc) (ls : Array Slot), lv_has ls 4 [(0, .ref (ad 2)), (1, .int x1), (2, .int x2)] → va_P D vwCl (cellsC ct ad S) H → va_S F s.heap H locs → itr (fun (q : Int32 × Int32 × St) k => s_X1_fullRows_8  (fun (x1 : Int32) (x2 : Int32) (S : St) => k (x1, x2, S)) q.1 q.2.1 q.2.2) n (x1, x2, S) = some (r, S') → W p l e rm_X1_fullRows s m args below meth c H locs 0 0 Q (F0 m 8 ls []) := by
      intro n
      induction n with
      | zero => intro x1 x2 S H locs ls hl hP hS hf; exact (itr_z hf).elim
      | succ n ih =>
      intro x1 x2 S H locs ls hl hP hS hf
      have hk_8 := ih
      have hf : s_X1_fullRows_8  (fun (x1 : Int32) (x2 : Int32) (S : St) => itr (fun (q : Int32 × Int32 × St) k => s_X1_fullRows_8  (fun (x1 : Int32) (x2 : Int32) (S : St) => k (x1, x2, S)) q.1 q.2.1 q.2.2) n (x1, x2, S)) x1 x2 S = some (r, S') := hf
      refine lv_iload_n hx hb dX1_fullRows_8 rfl (lv_at hl 2 rfl) ?_
      refine lv_bipush (v := 16) hx hb dX1_fullRows_9 (by decide) ?_
      refine lv_icmp_ge (tgt := 63) hx hb dX1_fullRows_11 (by decide) (fun c10 => ?_) (fun c10 => ?_)
      · have hf := sp1 c10 hf
        refine lv_iload_n hx hb dX1_fullRows_63 rfl (lv_at hl 1 rfl) ?_
        cases hf
        subst hQ
        exact he_i C hP hS dX1_fullRows_64
      · have hf := sp0 c10 hf
        refine lv_iconst (v := 0) hx hb dX1_fullRows_14 (by decide) ?_
        refine lv_istore_n (lv' := [(3, .int 0), (0, .ref (ad 2)), (1, .int x1), (2, .int x2)]) hx hb dX1_fullRows_15 rfl hl (by decide) rfl (fun ls hl => ?_)
        exact w_16 _ hk_8 x1 x2 0 S _ _ _ (lv_sub hl [1, 2, 3, 0] rfl) hP hS hf
    exact aux FU
  refine lv_aload_n hx hb dX1_fullRows_0 rfl (lv_at hl 0 rfl) ?_
  obtain ⟨S12, h11, hf⟩ := b1_some hf
  refine hc_V (As := []) (rest := []) C hK (c_X1_fillMinors l D ct ad F hG S0  S12 h11) hl.1 cp_X1_fillMinors mw_1_231 (rc_X1 hK hP) hP hS ⟨rfl, rfl⟩ ⟨Nat.le_of_ble_eq_true rfl, Nat.le_of_ble_eq_true rfl⟩ rfl rfl (Nat.le_of_ble_eq_true rfl) dX1_fullRows_1 ⟨Nat.le_of_ble_eq_true rfl, Nat.le_of_ble_eq_true rfl⟩ (fun H locs hP hS => ?_)
  refine lv_iconst (v := 0) hx hb dX1_fullRows_4 (by decide) ?_
  refine lv_istore_n (lv' := [(1, .int 0), (0, .ref (ad 2))]) hx hb dX1_fullRows_5 rfl hl (by decide) rfl (fun ls hl => ?_)
  refine lv_iconst (v := 0) hx hb dX1_fullRows_6 (by decide) ?_
  refine lv_istore_n (lv' := [(2, .int 0), (1, .int 0), (0, .ref (ad 2))]) hx hb dX1_fullRows_7 rfl hl (by decide) rfl (fun ls hl => ?_)
  exact w_8 0 0 S12 _ _ _ (lv_sub hl [2, 1, 0] rfl) hP hS hf
theorem cp_X1_fullRows : CPv yX1_fullRows cX1_fullRows 4 (some .int) 0 := ⟨mw_2_23, mw_1_8, mw_2_21, mw_2_22, by decide +kernel⟩
def rm_X1_leastExponent : Room := { frames := 2, cells := 0, slots := 0, locals := 58 }
set_option maxHeartbeats 4000000 in
set_option maxRecDepth 100000 in
theorem c_X1_leastExponent (l : Launch) (D : va_G) (ct : Nat → ClassId) (ad : Nat → Nat) (F : Nat → Prop) (hG : Gd ad 70 F) (p0 : Int32) (p1 : Int32) (S0 : St)  (r : Int32) (hf : f_X1_leastExponent p0 p1 S0 = some r) : MetH l yX1_leastExponent cX1_leastExponent 9 (some .int) rm_X1_leastExponent D (tysW ct) F [.ref (ad 2), .int p0, .int p1] (some (.int r)) (cellsC ct ad S0) (cellsC ct ad S0) := by
  refine MetH.of RX1 (by decide) rfl (Nat.le_of_ble_eq_true rfl) ?_
  intro p e s m args below meth c C hK hP ls hl
  have hl : lv_has ls 9 [(0, .ref (ad 2)), (1, .int p0), (2, .int p1)] := hl
  obtain ⟨hx, hb, hr, hml, hown, htL, hlocks⟩ := id C
  have hS : va_S F s.heap s.heap [] := va_S.rf
  generalize hQ : MQ below (Hq D (cellsC ct ad S0) F (some (.int r))) args s 0 0 F = Q
  have w_15 : ∀ (k_5 : Int32 → Int32 → Int32 → Int32 → Option Int32) (hk_5 : ∀ (x1 : Int32) (x2 : Int32) (x3 : Int32) (x4 : Int32), ∀ (H : Heap) (locs : List Loc) (ls : Array Slot), lv_has ls 9 [(0, .ref (ad 2)), (1, .int x1), (2, .int x2), (3, .int x3), (4, .int x4)] → va_P D vwCl (cellsC ct ad S0) H → va_S F s.heap H locs → k_5 x1 x2 x3 x4 = some r → W p l e rm_X1_leastExponent s m args below meth c H locs 0 0 Q (F0 m 5 ls [])), ∀ (x1 : Int32) (x2 : Int32) (x3 : Int32) (x4 : Int32) (x5 : Int32), ∀ (H : Heap) (locs : List Loc) (ls : Array Slot), lv_has ls 9 [(0, .ref (ad 2)), (1, .int x1), (2, .int x2), (3, .int x3), (4, .int x4), (5, .int x5)] → va_P D vwCl (cellsC ct ad S0) H → va_S F s.heap H locs → n_X1_leastExponent_15 k_5 S0 x1 x2 x3 x4 x5 = some r → W p l e rm_X1_leastExponent s m args below meth c H locs 0 0 Q (F0 m 15 ls []) := by
    intro k_5 hk_5
    have aux : ∀ (n : Nat), ∀ (x1 : Int32) (x2 : Int32) (x3 : Int32) (x4 : Int32) (x5 : Int32), ∀ (H : Heap) (locs : List Loc) (ls : Array Slot), lv_has ls 9 [(0, .ref (ad 2)), (1, .int x1), (2, .int x2), (3, .int x3), (4, .int x4), (5, .int x5)] → va_P D vwCl (cellsC ct ad S0) H → va_S F s.heap H locs → itr (fun (q : Int32 × Int32 × Int32 × Int32 × Int32) k => s_X1_leastExponent_15 k_5 (fun (x1 : Int32) (x2 : Int32) (x3 : Int32) (x4 : Int32) (x5 : Int32) => k (x1, x2, x3, x4, x5)) S0 q.1 q.2.1 q.2.2.1 q.2.2.2.1 q.2.2.2.2) n (x1, x2, x3, x4, x5) = some r → W p l e rm_X1_leastExponent s m args below meth c H locs 0 0 Q (F0 m 15 ls []) := by
      intro n
      induction n with
      | zero => intro x1 x2 x3 x4 x5 H locs ls hl hP hS hf; exact (itr_z hf).elim
      | succ n ih =>
      intro x1 x2 x3 x4 x5 H locs ls hl hP hS hf
      have hk_15 := ih
      have hf : s_X1_leastExponent_15 k_5 (fun (x1 : Int32) (x2 : Int32) (x3 : Int32) (x4 : Int32) (x5 : Int32) => itr (fun (q : Int32 × Int32 × Int32 × Int32 × Int32) k => s_X1_leastExponent_15 k_5 (fun (x1 : Int32) (x2 : Int32) (x3 : Int32) (x4 : Int32) (x5 : Int32) => k (x1, x2, x3, x4, x5)) S0 q.1 q.2.1 q.2.2.1 q.2.2.2.1 q.2.2.2.2) n (x1, x2, x3, x4, x5)) S0 x1 x2 x3 x4 x5 = some r := hf
      refine lv_iload hx hb dX1_leastExponent_15 (lv_at hl 5 rfl) ?_
      refine lv_bipush (v := 16) hx hb dX1_leastExponent_17 (by decide) ?_
      refine lv_icmp_ge (tgt := 89) hx hb dX1_leastExponent_19 (by decide) (fun c1 => ?_) (fun c1 => ?_)
      · have hf := sp1 c1 hf
        refine lv_iinc (v := (x4 + 1)) (lv' := [(4, .int (x4 + 1)), (0, .ref (ad 2)), (1, .int x1), (2, .int x2), (3, .int x3), (5, .int x5)]) hx hb dX1_leastExponent_89 hl (k := 4) rfl rfl (by decide) rfl (fun ls hl => ?_)
        refine lv_goto (tgt := 5) hx hb dX1_leastExponent_92 (by decide) ?_
        exact hk_5 x1 x2 x3 (x4 + 1) _ _ _ (lv_sub hl [1, 2, 3, 4, 0] rfl) hP hS hf
      · have hf := sp0 c1 hf
        refine lv_aload_n hx hb dX1_leastExponent_22 rfl (lv_at hl 0 rfl) ?_
        refine lv_iload hx hb dX1_leastExponent_23 (lv_at hl 4 rfl) ?_
        refine lv_iload hx hb dX1_leastExponent_25 (lv_at hl 5 rfl) ?_
        obtain ⟨v3, h2, hf⟩ := b1_some hf
        refine hc_V (As := [.int x4, .int x5]) (rest := []) C hK (c_X1_minorOf l D ct ad F hG x4 x5 S0  v3 h2) hl.1 cp_X1_minorOf mw_2_12 (rc_X1 hK hP) hP hS ⟨rfl, rfl⟩ ⟨Nat.le_of_ble_eq_true rfl, Nat.le_of_ble_eq_true rfl⟩ rfl rfl (Nat.le_of_ble_eq_true rfl) dX1_leastExponent_27 ⟨Nat.le_of_ble_eq_true rfl, Nat.le_of_ble_eq_true rfl⟩ (fun H locs hP hS => ?_)
        refine lv_lstore (lv' := [(6, .long v3), (0, .ref (ad 2)), (1, .int x1), (2, .int x2), (3, .int x3), (4, .int x4), (5, .int x5)]) hx hb dX1_leastExponent_30 hl (by decide) rfl (fun ls hl => ?_)
        refine lv_aload_n hx hb dX1_leastExponent_32 rfl (lv_at hl 1 rfl) ?_
        refine lv_iload hx hb dX1_leastExponent_33 (lv_at hl 5 rfl) ?_
        refine lv_iload hx hb dX1_leastExponent_35 (lv_at hl 6 rfl) ?_
        obtain ⟨v5, h4, hf⟩ := b1_some hf
        refine hc_V (As := [.int x4, .int x5]) (rest := []) C hK (c_X1_isMinor l D ct ad F hG x4 x5 S0  v5 h4) hl.1 cp_X1_isMinor mw_2_24 (rc_X1 hK hP) hP hS ⟨rfl, rfl⟩ ⟨Nat.le_of_ble_eq_true rfl, Nat.le_of_ble_eq_true rfl⟩ rfl rfl (Nat.le_of_ble_eq_true rfl) dX1_leastExponent_37 ⟨Nat.le_of_ble_eq_true rfl, Nat.le_of_ble_eq_true rfl⟩ (fun H locs hP hS => ?_)
        refine lv_if_eq (tgt := 83) hx hb dX1_leastExponent_40 (by decide) (fun c6 => ?_) (fun c6 => ?_)
        · have hf := sp1 c6 hf
          refine lv_iinc (v := (x5 + 1)) (lv' := [(5, .int (x5 + 1)), (6, .long v3), (0, .ref (ad 2)), (1, .int x1), (2, .int x2), (3, .int x3), (4, .int x4)]) hx hb dX1_leastExponent_83 hl (k := 6) rfl rfl (by decide) rfl (fun ls hl => ?_)
          refine lv_goto (tgt := 15) hx hb dX1_leastExponent_86 (by decide) ?_
          exact hk_15 x1 x2 x3 x4 (x5 + 1) _ _ _ (lv_sub hl [2, 3, 4, 5, 6, 0] rfl) hP hS hf
        · have hf := sp0 c6 hf
          refine lv_iload hx hb dX1_leastExponent_43 (lv_at hl 5 rfl) ?_
          obtain ⟨v7, h8, hf⟩ := b1_some hf
          refine pc_S (As := [.int x4]) (rest := []) C (c_J6_bitCount_0f7a4 l x4 v7 h8) hl.1 cp_J6_bitCount_0f7a4 mw_1_239 ⟨rfl, rfl⟩ ⟨Nat.le_of_ble_eq_true rfl, Nat.le_of_ble_eq_true rfl⟩ rfl rfl (Nat.le_of_ble_eq_true rfl) dX1_leastExponent_45 ⟨Nat.le_of_ble_eq_true rfl, Nat.le_of_ble_eq_true rfl⟩ ?_
          refine lv_iload_n hx hb dX1_leastExponent_48 rfl (lv_at hl 2 rfl) ?_
          refine lv_icmp_ne (tgt := 83) hx hb dX1_leastExponent_49 (by decide) (fun c9 => ?_) (fun c9 => ?_)
          · have hf := sp0 c9 hf
            refine lv_iinc (v := (x5 + 1)) (lv' := [(5, .int (x5 + 1)), (6, .long v3), (0, .ref (ad 2)), (1, .int x1), (2, .int x2), (3, .int x3), (4, .int x4)]) hx hb dX1_leastExponent_83 hl (k := 6) rfl rfl (by decide) rfl (fun ls hl => ?_)
            refine lv_goto (tgt := 15) hx hb dX1_leastExponent_86 (by decide) ?_
            exact hk_15 x1 x2 x3 x4 (x5 + 1) _ _ _ (lv_sub hl [2, 3, 4, 5, 6, 0] rfl) hP hS hf
          · have hf := sp1 c9 hf
            refine lv_lload hx hb dX1_leastExponent_52 (lv_at hl 0 rfl) ?_
            refine lv_lconst (v := 0) hx hb dX1_leastExponent_54 (by decide) ?_
            refine W.lcmp hx hb dX1_leastExponent_55 ?_
            refine lv_if_eq (tgt := 83) hx hb dX1_leastExponent_56 (by decide) (fun c10 => ?_) (fun c10 => ?_)
            · have hf := sp1 c10 hf
              refine lv_iinc (v := (x5 + 1)) (lv' := [(5, .int (x5 + 1)), (6, .long v3), (0, .ref (ad 2)), (1, .int x1), (2, .int x2), (3, .int x3), (4, .int x4)]) hx hb dX1_leastExponent_83 hl (k := 6) rfl rfl (by decide) rfl (fun ls hl => ?_)
              refine lv_goto (tgt := 15) hx hb dX1_leastExponent_86 (by decide) ?_
              exact hk_15 x1 x2 x3 x4 (x5 + 1) _ _ _ (lv_sub hl [2, 3, 4, 5, 6, 0] rfl) hP hS hf
            · have hf := sp0 c10 hf
              refine lv_lload hx hb dX1_leastExponent_59 (lv_at hl 0 rfl) ?_
              refine lv_iload_n hx hb dX1_leastExponent_61 rfl (lv_at hl 3 rfl) ?_
              obtain ⟨v11, h12, hf⟩ := b1_some hf
              refine pc_S (As := [.long v3, .int x2]) (rest := []) C (c_X8_factorCount l v3 x2 v11 h12) hl.1 cp_X8_factorCount mw_2_131 ⟨rfl, rfl⟩ ⟨Nat.le_of_ble_eq_true rfl, Nat.le_of_ble_eq_true rfl⟩ rfl rfl (Nat.le_of_ble_eq_true rfl) dX1_leastExponent_62 ⟨Nat.le_of_ble_eq_true rfl, Nat.le_of_ble_eq_true rfl⟩ ?_
              refine lv_istore (lv' := [(8, .int v11), (6, .long v3), (0, .ref (ad 2)), (1, .int x1), (2, .int x2), (3, .int x3), (4, .int x4), (5, .int x5)]) hx hb dX1_leastExponent_65 hl (by decide) rfl (fun ls hl => ?_)
              refine lv_iload_n hx hb dX1_leastExponent_67 rfl (lv_at hl 5 rfl) ?_
              refine lv_if_ge (tgt := 76) hx hb dX1_leastExponent_68 (by decide) (fun c13 => ?_) (fun c13 => ?_)
              · have hf := sp1 c13 hf
                refine lv_iload_n hx hb dX1_leastExponent_76 rfl (lv_at hl 5 rfl) ?_
                refine lv_iload hx hb dX1_leastExponent_77 (lv_at hl 0 rfl) ?_
                refine va_mmin (ls := _) hx hb (hml.trans hl.1.symm) hown (htL _ mw_2_132) (htL _ mw_2_60) (htL _ mw_1_17) (htL _ mw_2_61) (Nat.le_of_ble_eq_true rfl) (Nat.le_of_ble_eq_true rfl) (Nat.le_of_ble_eq_true rfl) (Nat.le_of_ble_eq_true rfl) dX1_leastExponent_79 ?_
                refine lv_istore_n (lv' := [(3, .int (mnI x3 v11)), (8, .int v11), (6, .long v3), (0, .ref (ad 2)), (1, .int x1), (2, .int x2), (4, .int x4), (5, .int x5)]) hx hb dX1_leastExponent_82 rfl hl (by decide) rfl (fun ls hl => ?_)
                refine lv_iinc (v := (x5 + 1)) (lv' := [(5, .int (x5 + 1)), (3, .int (mnI x3 v11)), (8, .int v11), (6, .long v3), (0, .ref (ad 2)), (1, .int x1), (2, .int x2), (4, .int x4)]) hx hb dX1_leastExponent_83 hl (k := 7) rfl rfl (by decide) rfl (fun ls hl => ?_)
                refine lv_goto (tgt := 15) hx hb dX1_leastExponent_86 (by decide) ?_
                exact hk_15 x1 x2 (mnI x3 v11) x4 (x5 + 1) _ _ _ (lv_sub hl [4, 5, 6, 1, 7, 0] rfl) hP hS hf
              · have hf := sp0 c13 hf
                refine lv_iload hx hb dX1_leastExponent_71 (lv_at hl 0 rfl) ?_
                refine lv_goto (tgt := 82) hx hb dX1_leastExponent_73 (by decide) ?_
                refine lv_istore_n (lv' := [(3, .int v11), (8, .int v11), (6, .long v3), (0, .ref (ad 2)), (1, .int x1), (2, .int x2), (4, .int x4), (5, .int x5)]) hx hb dX1_leastExponent_82 rfl hl (by decide) rfl (fun ls hl => ?_)
                refine lv_iinc (v := (x5 + 1)) (lv' := [(5, .int (x5 + 1)), (3, .int v11), (8, .int v11), (6, .long v3), (0, .ref (ad 2)), (1, .int x1), (2, .int x2), (4, .int x4)]) hx hb dX1_leastExponent_83 hl (k := 7) rfl rfl (by decide) rfl (fun ls hl => ?_)
                refine lv_goto (tgt := 15) hx hb dX1_leastExponent_86 (by decide) ?_
                exact hk_15 x1 x2 v11 x4 (x5 + 1) _ _ _ (lv_sub hl [4, 5, 6, 1, 7, 0] rfl) hP hS hf
    exact aux FU
  have w_5 : ∀ (x1 : Int32) (x2 : Int32) (x3 : Int32) (x4 : Int32), ∀ (H : Heap) (locs : List Loc) (ls : Array Slot), lv_has ls 9 [(0, .ref (ad 2)), (1, .int x1), (2, .int x2), (3, .int x3), (4, .int x4)] → va_P D vwCl (cellsC ct ad S0) H → va_S F s.heap H locs → n_X1_leastExponent_5 S0 x1 x2 x3 x4 = some r → W p l e rm_X1_leastExponent s m args below meth c H locs 0 0 Q (F0 m 5 ls []) := by
    have aux : ∀ (n : Nat), ∀ (x1 : Int32) (x2 : Int32) (x3 : Int32) (x4 : Int32), ∀ (H : Heap) (locs : List Loc) (ls : Array Slot), lv_has ls 9 [(0, .ref (ad 2)), (1, .int x1), (2, .int x2), (3, .int x3), (4, .int x4)] → va_P D vwCl (cellsC ct ad S0) H → va_S F s.heap H locs → itr (fun (q : Int32 × Int32 × Int32 × Int32) k => s_X1_leastExponent_5  (fun (x1 : Int32) (x2 : Int32) (x3 : Int32) (x4 : Int32) => k (x1, x2, x3, x4)) S0 q.1 q.2.1 q.2.2.1 q.2.2.2) n (x1, x2, x3, x4) = some r → W p l e rm_X1_leastExponent s m args below meth c H locs 0 0 Q (F0 m 5 ls []) := by
      intro n
      induction n with
      | zero => intro x1 x2 x3 x4 H locs ls hl hP hS hf; exact (itr_z hf).elim
      | succ n ih =>
      intro x1 x2 x3 x4 H locs ls hl hP hS hf
      have hk_5 := ih
      have hf : s_X1_leastExponent_5  (fun (x1 : Int32) (x2 : Int32) (x3 : Int32) (x4 : Int32) => itr (fun (q : Int32 × Int32 × Int32 × Int32) k => s_X1_leastExponent_5  (fun (x1 : Int32) (x2 : Int32) (x3 : Int32) (x4 : Int32) => k (x1, x2, x3, x4)) S0 q.1 q.2.1 q.2.2.1 q.2.2.2) n (x1, x2, x3, x4)) S0 x1 x2 x3 x4 = some r := hf
      refine lv_iload hx hb dX1_leastExponent_5 (lv_at hl 4 rfl) ?_
      refine lv_bipush (v := 16) hx hb dX1_leastExponent_7 (by decide) ?_
      refine lv_icmp_ge (tgt := 95) hx hb dX1_leastExponent_9 (by decide) (fun c14 => ?_) (fun c14 => ?_)
      · have hf := sp1 c14 hf
        refine lv_iload_n hx hb dX1_leastExponent_95 rfl (lv_at hl 3 rfl) ?_
        cases hf
        subst hQ
        exact he_i C hP hS dX1_leastExponent_96
      · have hf := sp0 c14 hf
        refine lv_iconst (v := 0) hx hb dX1_leastExponent_12 (by decide) ?_
        refine lv_istore (lv' := [(5, .int 0), (0, .ref (ad 2)), (1, .int x1), (2, .int x2), (3, .int x3), (4, .int x4)]) hx hb dX1_leastExponent_13 hl (by decide) rfl (fun ls hl => ?_)
        exact w_15 _ hk_5 x1 x2 x3 x4 0 _ _ _ (lv_sub hl [1, 2, 3, 4, 5, 0] rfl) hP hS hf
    exact aux FU
  refine lv_iconst (v := (-1)) hx hb dX1_leastExponent_0 (by decide) ?_
  refine lv_istore_n (lv' := [(3, .int (-1)), (0, .ref (ad 2)), (1, .int p0), (2, .int p1)]) hx hb dX1_leastExponent_1 rfl hl (by decide) rfl (fun ls hl => ?_)
  refine lv_iconst (v := 0) hx hb dX1_leastExponent_2 (by decide) ?_
  refine lv_istore (lv' := [(4, .int 0), (3, .int (-1)), (0, .ref (ad 2)), (1, .int p0), (2, .int p1)]) hx hb dX1_leastExponent_3 hl (by decide) rfl (fun ls hl => ?_)
  exact w_5 p0 p1 (-1) 0 _ _ _ (lv_sub hl [2, 3, 4, 1, 0] rfl) hP hS hf
theorem cp_X1_leastExponent : CPv yX1_leastExponent cX1_leastExponent 9 (some .int) 2 := ⟨mw_2_130, mw_1_8, mw_2_129, ms_11, by decide +kernel⟩
def rm_X1_exponentAt : Room := { frames := 3, cells := 0, slots := 0, locals := 90 }
set_option maxHeartbeats 4000000 in
set_option maxRecDepth 100000 in
theorem c_X1_exponentAt (l : Launch) (D : va_G) (ct : Nat → ClassId) (ad : Nat → Nat) (F : Nat → Prop) (hG : Gd ad 70 F) (p0 : Int32) (p1 : Int32) (S0 : St)  (r : Int32) (S' : St) (hf : f_X1_exponentAt p0 p1 S0 = some (r, S')) : MetH l yX1_exponentAt cX1_exponentAt 3 (some .int) rm_X1_exponentAt D (tysW ct) F [.ref (ad 2), .int p0, .int p1] (some (.int r)) (cellsC ct ad S0) (cellsC ct ad S') := by
  refine MetH.of RX1 (by decide) rfl (Nat.le_of_ble_eq_true rfl) ?_
  intro p e s m args below meth c C hK hP ls hl
  have hl : lv_has ls 3 [(0, .ref (ad 2)), (1, .int p0), (2, .int p1)] := hl
  obtain ⟨hx, hb, hr, hml, hown, htL, hlocks⟩ := id C
  have hS : va_S F s.heap s.heap [] := va_S.rf
  generalize hQ : MQ below (Hq D (cellsC ct ad S') F (some (.int r))) args s 0 0 F = Q
  refine lv_aload_n hx hb dX1_exponentAt_0 rfl (lv_at hl 0 rfl) ?_
  obtain ⟨S2, h1, hf⟩ := b1_some hf
  refine hc_V (As := []) (rest := []) C hK (c_X1_fillMinors l D ct ad F hG S0  S2 h1) hl.1 cp_X1_fillMinors mw_1_231 (rc_X1 hK hP) hP hS ⟨rfl, rfl⟩ ⟨Nat.le_of_ble_eq_true rfl, Nat.le_of_ble_eq_true rfl⟩ rfl rfl (Nat.le_of_ble_eq_true rfl) dX1_exponentAt_1 ⟨Nat.le_of_ble_eq_true rfl, Nat.le_of_ble_eq_true rfl⟩ (fun H locs hP hS => ?_)
  refine lv_aload_n hx hb dX1_exponentAt_4 rfl (lv_at hl 0 rfl) ?_
  refine lv_iload_n hx hb dX1_exponentAt_5 rfl (lv_at hl 1 rfl) ?_
  refine lv_iconst (v := 1) hx hb dX1_exponentAt_6 (by decide) ?_
  refine lv_iadd hx hb dX1_exponentAt_7 ?_
  refine lv_iload_n hx hb dX1_exponentAt_8 rfl (lv_at hl 2 rfl) ?_
  obtain ⟨v4, h3, hf⟩ := b1_some hf
  refine hc_V (As := [.int (p0 + 1), .int p1]) (rest := []) C hK (c_X1_leastExponent l D ct ad F hG (p0 + 1) p1 S2  v4 h3) hl.1 cp_X1_leastExponent mw_2_127 (rc_X1 hK hP) hP hS ⟨rfl, rfl⟩ ⟨Nat.le_of_ble_eq_true rfl, Nat.le_of_ble_eq_true rfl⟩ rfl rfl (Nat.le_of_ble_eq_true rfl) dX1_exponentAt_9 ⟨Nat.le_of_ble_eq_true rfl, Nat.le_of_ble_eq_true rfl⟩ (fun H locs hP hS => ?_)
  refine lv_aload_n hx hb dX1_exponentAt_12 rfl (lv_at hl 0 rfl) ?_
  refine lv_iload_n hx hb dX1_exponentAt_13 rfl (lv_at hl 1 rfl) ?_
  refine lv_iload_n hx hb dX1_exponentAt_14 rfl (lv_at hl 2 rfl) ?_
  obtain ⟨v6, h5, hf⟩ := b1_some hf
  refine hc_V (As := [.int p0, .int p1]) (rest := [.int v4]) C hK (c_X1_leastExponent l D ct ad F hG p0 p1 S2  v6 h5) hl.1 cp_X1_leastExponent mw_2_127 (rc_X1 hK hP) hP hS ⟨rfl, rfl⟩ ⟨Nat.le_of_ble_eq_true rfl, Nat.le_of_ble_eq_true rfl⟩ rfl rfl (Nat.le_of_ble_eq_true rfl) dX1_exponentAt_15 ⟨Nat.le_of_ble_eq_true rfl, Nat.le_of_ble_eq_true rfl⟩ (fun H locs hP hS => ?_)
  refine lv_isub hx hb dX1_exponentAt_18 ?_
  cases hf
  subst hQ
  exact he_i C hP hS dX1_exponentAt_19
theorem cp_X1_exponentAt : CPv yX1_exponentAt cX1_exponentAt 3 (some .int) 2 := ⟨mw_2_126, mw_1_8, mw_2_124, mw_2_125, by decide +kernel⟩
def rm_X1_holdsTogether : Room := { frames := 4, cells := 0, slots := 0, locals := 116 }
set_option maxHeartbeats 4000000 in
set_option maxRecDepth 100000 in
theorem c_X1_holdsTogether (l : Launch) (D : va_G) (ct : Nat → ClassId) (ad : Nat → Nat) (F : Nat → Prop) (hG : Gd ad 70 F) (p0 : Int32) (S0 : St)  (r : Int32) (S' : St) (hf : f_X1_holdsTogether p0 S0 = some (r, S')) : MetH l yX1_holdsTogether cX1_holdsTogether 7 (some .boolean) rm_X1_holdsTogether D (tysW ct) F [.ref (ad 2), .int p0] (some (.int r)) (cellsC ct ad S0) (cellsC ct ad S') := by
  refine MetH.of RX1 (by decide) rfl (Nat.le_of_ble_eq_true rfl) ?_
  intro p e s m args below meth c C hK hP ls hl
  have hl : lv_has ls 7 [(0, .ref (ad 2)), (1, .int p0)] := hl
  obtain ⟨hx, hb, hr, hml, hown, htL, hlocks⟩ := id C
  have hS : va_S F s.heap s.heap [] := va_S.rf
  generalize hQ : MQ below (Hq D (cellsC ct ad S') F (some (.int r))) args s 0 0 F = Q
  have w_37 : ∀ (k_16 : Int32 → Int64 → Int32 → St → Option (Int32 × St)) (hk_16 : ∀ (x1 : Int32) (x2 : Int64) (x4 : Int32) (S : St), ∀ (H : Heap) (locs : List Loc) (ls : Array Slot), lv_has ls 7 [(0, .ref (ad 2)), (1, .int x1), (2, .long x2), (4, .int x4)] → va_P D vwCl (cellsC ct ad S) H → va_S F s.heap H locs → k_16 x1 x2 x4 S = some (r, S') → W p l e rm_X1_holdsTogether s m args below meth c H locs 0 0 Q (F0 m 16 ls [])), ∀ (x1 : Int32) (x2 : Int64) (x4 : Int32) (x5 : Int32) (x6 : Int32) (S : St), ∀ (H : Heap) (locs : List Loc) (ls : Array Slot), lv_has ls 7 [(0, .ref (ad 2)), (1, .int x1), (2, .long x2), (4, .int x4), (5, .int x5), (6, .int x6)] → va_P D vwCl (cellsC ct ad S) H → va_S F s.heap H locs → n_X1_holdsTogether_37 k_16 x1 x2 x4 x5 x6 S = some (r, S') → W p l e rm_X1_holdsTogether s m args below meth c H locs 0 0 Q (F0 m 37 ls []) := by
    intro k_16 hk_16
    have aux : ∀ (n : Nat), ∀ (x1 : Int32) (x2 : Int64) (x4 : Int32) (x5 : Int32) (x6 : Int32) (S : St), ∀ (H : Heap) (locs : List Loc) (ls : Array Slot), lv_has ls 7 [(0, .ref (ad 2)), (1, .int x1), (2, .long x2), (4, .int x4), (5, .int x5), (6, .int x6)] → va_P D vwCl (cellsC ct ad S) H → va_S F s.heap H locs → itr (fun (q : Int32 × Int64 × Int32 × Int32 × Int32 × St) k => s_X1_holdsTogether_37 k_16 (fun (x1 : Int32) (x2 : Int64) (x4 : Int32) (x5 : Int32) (x6 : Int32) (S : St) => k (x1, x2, x4, x5, x6, S)) q.1 q.2.1 q.2.2.1 q.2.2.2.1 q.2.2.2.2.1 q.2.2.2.2.2) n (x1, x2, x4, x5, x6, S) = some (r, S') → W p l e rm_X1_holdsTogether s m args below meth c H locs 0 0 Q (F0 m 37 ls []) := by
      intro n
      induction n with
      | zero => intro x1 x2 x4 x5 x6 S H locs ls hl hP hS hf; exact (itr_z hf).elim
      | succ n ih =>
      intro x1 x2 x4 x5 x6 S H locs ls hl hP hS hf
      have hk_37 := ih
      have hf : s_X1_holdsTogether_37 k_16 (fun (x1 : Int32) (x2 : Int64) (x4 : Int32) (x5 : Int32) (x6 : Int32) (S : St) => itr (fun (q : Int32 × Int64 × Int32 × Int32 × Int32 × St) k => s_X1_holdsTogether_37 k_16 (fun (x1 : Int32) (x2 : Int64) (x4 : Int32) (x5 : Int32) (x6 : Int32) (S : St) => k (x1, x2, x4, x5, x6, S)) q.1 q.2.1 q.2.2.1 q.2.2.2.1 q.2.2.2.2.1 q.2.2.2.2.2) n (x1, x2, x4, x5, x6, S)) x1 x2 x4 x5 x6 S = some (r, S') := hf
      refine lv_iload hx hb dX1_holdsTogether_37 (lv_at hl 5 rfl) ?_
      refine lv_iload hx hb dX1_holdsTogether_39 (lv_at hl 4 rfl) ?_
      refine lv_icmp_ge (tgt := 70) hx hb dX1_holdsTogether_41 (by decide) (fun c1 => ?_) (fun c1 => ?_)
      · have hf := sp1 c1 hf
        refine lv_iinc (v := (x4 + 1)) (lv' := [(4, .int (x4 + 1)), (0, .ref (ad 2)), (1, .int x1), (2, .long x2), (5, .int x5), (6, .int x6)]) hx hb dX1_holdsTogether_70 hl (k := 3) rfl rfl (by decide) rfl (fun ls hl => ?_)
        refine lv_goto (tgt := 16) hx hb dX1_holdsTogether_73 (by decide) ?_
        exact hk_16 x1 x2 (x4 + 1) S _ _ _ (lv_sub hl [1, 2, 3, 0] rfl) hP hS hf
      · have hf := sp0 c1 hf
        refine lv_lload_n hx hb dX1_holdsTogether_44 rfl (lv_at hl 2 rfl) ?_
        refine lv_iload_n hx hb dX1_holdsTogether_45 rfl (lv_at hl 1 rfl) ?_
        refine lv_i2l hx hb dX1_holdsTogether_46 rfl ?_
        obtain ⟨v2, h3, hf⟩ := b1_some hf
        refine pc_S (As := [.long x2, .long (Int32.toInt64 x1)]) (rest := []) C (c_X8_rest l x2 (Int32.toInt64 x1) v2 h3) hl.1 cp_X8_rest mw_2_133 ⟨rfl, rfl⟩ ⟨Nat.le_of_ble_eq_true rfl, Nat.le_of_ble_eq_true rfl⟩ rfl rfl (Nat.le_of_ble_eq_true rfl) dX1_holdsTogether_47 ⟨Nat.le_of_ble_eq_true rfl, Nat.le_of_ble_eq_true rfl⟩ ?_
        refine lv_lconst (v := 0) hx hb dX1_holdsTogether_50 (by decide) ?_
        refine W.lcmp hx hb dX1_holdsTogether_51 ?_
        refine lv_if_eq (tgt := 57) hx hb dX1_holdsTogether_52 (by decide) (fun c4 => ?_) (fun c4 => ?_)
        · have hf := sp1 c4 hf
          refine lv_lload_n hx hb dX1_holdsTogether_57 rfl (lv_at hl 2 rfl) ?_
          refine lv_iload_n hx hb dX1_holdsTogether_58 rfl (lv_at hl 1 rfl) ?_
          refine lv_i2l hx hb dX1_holdsTogether_59 rfl ?_
          obtain ⟨v5, h6, hf⟩ := b1_some hf
          refine pc_S (As := [.long x2, .long (Int32.toInt64 x1)]) (rest := []) C (c_X8_part l x2 (Int32.toInt64 x1) v5 h6) hl.1 cp_X8_part mw_2_134 ⟨rfl, rfl⟩ ⟨Nat.le_of_ble_eq_true rfl, Nat.le_of_ble_eq_true rfl⟩ rfl rfl (Nat.le_of_ble_eq_true rfl) dX1_holdsTogether_60 ⟨Nat.le_of_ble_eq_true rfl, Nat.le_of_ble_eq_true rfl⟩ ?_
          refine lv_lstore_n (lv' := [(2, .long v5), (0, .ref (ad 2)), (1, .int x1), (4, .int x4), (5, .int x5), (6, .int x6)]) hx hb dX1_holdsTogether_63 rfl hl (by decide) rfl (fun ls hl => ?_)
          refine lv_iinc (v := (x6 + 1)) (lv' := [(6, .int (x6 + 1)), (2, .long v5), (0, .ref (ad 2)), (1, .int x1), (4, .int x4), (5, .int x5)]) hx hb dX1_holdsTogether_64 hl (k := 5) rfl rfl (by decide) rfl (fun ls hl => ?_)
          refine lv_goto (tgt := 37) hx hb dX1_holdsTogether_67 (by decide) ?_
          exact hk_37 x1 v5 x4 x5 (x6 + 1) S _ _ _ (lv_sub hl [2, 3, 1, 4, 5, 0] rfl) hP hS hf
        · have hf := sp0 c4 hf
          refine lv_iconst (v := 0) hx hb dX1_holdsTogether_55 (by decide) ?_
          cases hf
          subst hQ
          exact he_z C (by decide) hP hS dX1_holdsTogether_56
    exact aux FU
  have w_16 : ∀ (x1 : Int32) (x2 : Int64) (x4 : Int32) (S : St), ∀ (H : Heap) (locs : List Loc) (ls : Array Slot), lv_has ls 7 [(0, .ref (ad 2)), (1, .int x1), (2, .long x2), (4, .int x4)] → va_P D vwCl (cellsC ct ad S) H → va_S F s.heap H locs → n_X1_holdsTogether_16 x1 x2 x4 S = some (r, S') → W p l e rm_X1_holdsTogether s m args below meth c H locs 0 0 Q (F0 m 16 ls []) := by
    have aux : ∀ (n : Nat), ∀ (x1 : Int32) (x2 : Int64) (x4 : Int32) (S : St), ∀ (H : Heap) (locs : List Loc) (ls : Array Slot), lv_has ls 7 [(0, .ref (ad 2)), (1, .int x1), (2, .long x2), (4, .int x4)] → va_P D vwCl (cellsC ct ad S) H → va_S F s.heap H locs → itr (fun (q : Int32 × Int64 × Int32 × St) k => s_X1_holdsTogether_16  (fun (x1 : Int32) (x2 : Int64) (x4 : Int32) (S : St) => k (x1, x2, x4, S)) q.1 q.2.1 q.2.2.1 q.2.2.2) n (x1, x2, x4, S) = some (r, S') → W p l e rm_X1_holdsTogether s m args below meth c H locs 0 0 Q (F0 m 16 ls []) := by
      intro n
      induction n with
      | zero => intro x1 x2 x4 S H locs ls hl hP hS hf; exact (itr_z hf).elim
      | succ n ih =>
      intro x1 x2 x4 S H locs ls hl hP hS hf
      have hk_16 := ih
      have hf : s_X1_holdsTogether_16  (fun (x1 : Int32) (x2 : Int64) (x4 : Int32) (S : St) => itr (fun (q : Int32 × Int64 × Int32 × St) k => s_X1_holdsTogether_16  (fun (x1 : Int32) (x2 : Int64) (x4 : Int32) (S : St) => k (x1, x2, x4, S)) q.1 q.2.1 q.2.2.1 q.2.2.2) n (x1, x2, x4, S)) x1 x2 x4 S = some (r, S') := hf
      refine lv_iload hx hb dX1_holdsTogether_16 (lv_at hl 3 rfl) ?_
      refine lv_aload_n hx hb dX1_holdsTogether_18 rfl (lv_at hl 0 rfl) ?_
      refine gf_X1_0 C hK hP mw_1_201 dX1_holdsTogether_19 ?_
      refine lv_icmp_ge (tgt := 76) hx hb dX1_holdsTogether_22 (by decide) (fun c7 => ?_) (fun c7 => ?_)
      · have hf := sp1 c7 hf
        refine lv_lload_n hx hb dX1_holdsTogether_76 rfl (lv_at hl 2 rfl) ?_
        refine lv_iload_n hx hb dX1_holdsTogether_77 rfl (lv_at hl 1 rfl) ?_
        refine lv_i2l hx hb dX1_holdsTogether_78 rfl ?_
        obtain ⟨v8, h9, hf⟩ := b1_some hf
        refine pc_S (As := [.long x2, .long (Int32.toInt64 x1)]) (rest := []) C (c_X8_rest l x2 (Int32.toInt64 x1) v8 h9) hl.1 cp_X8_rest mw_2_133 ⟨rfl, rfl⟩ ⟨Nat.le_of_ble_eq_true rfl, Nat.le_of_ble_eq_true rfl⟩ rfl rfl (Nat.le_of_ble_eq_true rfl) dX1_holdsTogether_79 ⟨Nat.le_of_ble_eq_true rfl, Nat.le_of_ble_eq_true rfl⟩ ?_
        refine lv_lconst (v := 0) hx hb dX1_holdsTogether_82 (by decide) ?_
        refine W.lcmp hx hb dX1_holdsTogether_83 ?_
        refine lv_if_eq (tgt := 91) hx hb dX1_holdsTogether_84 (by decide) (fun c10 => ?_) (fun c10 => ?_)
        · have hf := sp1 c10 hf
          refine lv_iconst (v := 0) hx hb dX1_holdsTogether_91 (by decide) ?_
          cases hf
          subst hQ
          exact he_z C (by decide) hP hS dX1_holdsTogether_92
        · have hf := sp0 c10 hf
          refine lv_iconst (v := 1) hx hb dX1_holdsTogether_87 (by decide) ?_
          refine lv_goto (tgt := 92) hx hb dX1_holdsTogether_88 (by decide) ?_
          cases hf
          subst hQ
          exact he_z C (by decide) hP hS dX1_holdsTogether_92
      · have hf := sp0 c7 hf
        refine lv_aload_n hx hb dX1_holdsTogether_25 rfl (lv_at hl 0 rfl) ?_
        refine lv_iload hx hb dX1_holdsTogether_26 (lv_at hl 3 rfl) ?_
        refine lv_iload_n hx hb dX1_holdsTogether_28 rfl (lv_at hl 1 rfl) ?_
        obtain ⟨v12, S13, h11, hf⟩ := b2_some hf
        refine hc_V (As := [.int x4, .int x1]) (rest := []) C hK (c_X1_exponentAt l D ct ad F hG x4 x1 S  v12 S13 h11) hl.1 cp_X1_exponentAt mw_2_123 (rc_X1 hK hP) hP hS ⟨rfl, rfl⟩ ⟨Nat.le_of_ble_eq_true rfl, Nat.le_of_ble_eq_true rfl⟩ rfl rfl (Nat.le_of_ble_eq_true rfl) dX1_holdsTogether_29 ⟨Nat.le_of_ble_eq_true rfl, Nat.le_of_ble_eq_true rfl⟩ (fun H locs hP hS => ?_)
        refine lv_istore (lv' := [(5, .int v12), (0, .ref (ad 2)), (1, .int x1), (2, .long x2), (4, .int x4)]) hx hb dX1_holdsTogether_32 hl (by decide) rfl (fun ls hl => ?_)
        refine lv_iconst (v := 0) hx hb dX1_holdsTogether_34 (by decide) ?_
        refine lv_istore (lv' := [(6, .int 0), (5, .int v12), (0, .ref (ad 2)), (1, .int x1), (2, .long x2), (4, .int x4)]) hx hb dX1_holdsTogether_35 hl (by decide) rfl (fun ls hl => ?_)
        exact w_37 _ hk_16 x1 x2 x4 v12 0 S13 _ _ _ (lv_sub hl [2, 3, 4, 5, 1, 0] rfl) hP hS hf
    exact aux FU
  refine lv_aload_n hx hb dX1_holdsTogether_0 rfl (lv_at hl 0 rfl) ?_
  obtain ⟨v15, S16, h14, hf⟩ := b2_some hf
  refine hc_V (As := []) (rest := []) C hK (c_X1_wholeMinor l D ct ad F hG S0  v15 S16 h14) hl.1 cp_X1_wholeMinor mw_2_122 (rc_X1 hK hP) hP hS ⟨rfl, rfl⟩ ⟨Nat.le_of_ble_eq_true rfl, Nat.le_of_ble_eq_true rfl⟩ rfl rfl (Nat.le_of_ble_eq_true rfl) dX1_holdsTogether_1 ⟨Nat.le_of_ble_eq_true rfl, Nat.le_of_ble_eq_true rfl⟩ (fun H locs hP hS => ?_)
  refine lv_lstore_n (lv' := [(2, .long v15), (0, .ref (ad 2)), (1, .int p0)]) hx hb dX1_holdsTogether_4 rfl hl (by decide) rfl (fun ls hl => ?_)
  refine lv_lload_n hx hb dX1_holdsTogether_5 rfl (lv_at hl 0 rfl) ?_
  refine lv_lconst (v := 0) hx hb dX1_holdsTogether_6 (by decide) ?_
  refine W.lcmp hx hb dX1_holdsTogether_7 ?_
  refine lv_if_ne (tgt := 13) hx hb dX1_holdsTogether_8 (by decide) (fun c17 => ?_) (fun c17 => ?_)
  · have hf := sp0 c17 hf
    refine lv_iconst (v := 0) hx hb dX1_holdsTogether_13 (by decide) ?_
    refine lv_istore (lv' := [(4, .int 0), (2, .long v15), (0, .ref (ad 2)), (1, .int p0)]) hx hb dX1_holdsTogether_14 hl (by decide) rfl (fun ls hl => ?_)
    exact w_16 p0 v15 0 S16 _ _ _ (lv_sub hl [2, 3, 1, 0] rfl) hP hS hf
  · have hf := sp1 c17 hf
    refine lv_iconst (v := 1) hx hb dX1_holdsTogether_11 (by decide) ?_
    cases hf
    subst hQ
    exact he_z C (by decide) hP hS dX1_holdsTogether_12
theorem cp_X1_holdsTogether : CPv yX1_holdsTogether cX1_holdsTogether 7 (some .boolean) 1 := ⟨mw_2_121, mw_1_8, mw_2_119, mw_2_120, by decide +kernel⟩
def rm_X2_turnTo : Room := { frames := 0, cells := 0, slots := 0, locals := 0 }
set_option maxHeartbeats 4000000 in
set_option maxRecDepth 100000 in
theorem c_X2_turnTo (l : Launch) (D : va_G) (ct : Nat → ClassId) (ad : Nat → Nat) (F : Nat → Prop) (hG : Gd ad 70 F) (p0 : Int32) (S0 : St)  (S' : St) (hf : f_X2_turnTo p0 S0 = some S') : MetH l yX2_turnTo cX2_turnTo 5 none rm_X2_turnTo D (tysW ct) F [.ref (ad 3), .int p0] none (cellsC ct ad S0) (cellsC ct ad S') := by
  refine MetH.of RX2 (by decide) rfl (Nat.le_of_ble_eq_true rfl) ?_
  intro p e s m args below meth c C hK hP ls hl
  have hl : lv_has ls 5 [(0, .ref (ad 3)), (1, .int p0)] := hl
  obtain ⟨hx, hb, hr, hml, hown, htL, hlocks⟩ := id C
  have hS : va_S F s.heap s.heap [] := va_S.rf
  generalize hQ : MQ below (Hq D (cellsC ct ad S') F none) args s 0 0 F = Q
  have w_15 : ∀ (x1 : Int32) (x2 : Int64) (x4 : Int32) (S : St), ∀ (H : Heap) (locs : List Loc) (ls : Array Slot), lv_has ls 5 [(0, .ref (ad 3)), (1, .int x1), (2, .long x2), (4, .int x4)] → va_P D vwCl (cellsC ct ad S) H → va_S F s.heap H locs → n_X2_turnTo_15 x1 x2 x4 S = some S' → W p l e rm_X2_turnTo s m args below meth c H locs 0 0 Q (F0 m 15 ls []) := by
    have aux : ∀ (n : Nat), ∀ (x1 : Int32) (x2 : Int64) (x4 : Int32) (S : St), ∀ (H : Heap) (locs : List Loc) (ls : Array Slot), lv_has ls 5 [(0, .ref (ad 3)), (1, .int x1), (2, .long x2), (4, .int x4)] → va_P D vwCl (cellsC ct ad S) H → va_S F s.heap H locs → itr (fun (q : Int32 × Int64 × Int32 × St) k => s_X2_turnTo_15  (fun (x1 : Int32) (x2 : Int64) (x4 : Int32) (S : St) => k (x1, x2, x4, S)) q.1 q.2.1 q.2.2.1 q.2.2.2) n (x1, x2, x4, S) = some S' → W p l e rm_X2_turnTo s m args below meth c H locs 0 0 Q (F0 m 15 ls []) := by
      intro n
      induction n with
      | zero => intro x1 x2 x4 S H locs ls hl hP hS hf; exact (itr_z hf).elim
      | succ n ih =>
      intro x1 x2 x4 S H locs ls hl hP hS hf
      have hk_15 := ih
      have hf : s_X2_turnTo_15  (fun (x1 : Int32) (x2 : Int64) (x4 : Int32) (S : St) => itr (fun (q : Int32 × Int64 × Int32 × St) k => s_X2_turnTo_15  (fun (x1 : Int32) (x2 : Int64) (x4 : Int32) (S : St) => k (x1, x2, x4, S)) q.1 q.2.1 q.2.2.1 q.2.2.2) n (x1, x2, x4, S)) x1 x2 x4 S = some S' := hf
      refine lv_iload hx hb dX2_turnTo_15 (lv_at hl 3 rfl) ?_
      refine lv_aload_n hx hb dX2_turnTo_17 rfl (lv_at hl 0 rfl) ?_
      refine gf_X2_2 C hK hP mw_1_56 dX2_turnTo_18 ?_
      refine an_C6 C hK hP dX2_turnTo_21 ?_
      refine lv_icmp_ge (tgt := 58) hx hb dX2_turnTo_22 (by decide) (fun c1 => ?_) (fun c1 => ?_)
      · have hf := sp1 c1 hf
        cases hf
        subst hQ
        exact he_v C hP hS dX2_turnTo_58
      · have hf := sp0 c1 hf
        refine lv_lload_n hx hb dX2_turnTo_25 rfl (lv_at hl 2 rfl) ?_
        refine lv_ldc2 (v := 1000000000) hx hb hown (htL _ mw_1_49) dX2_turnTo_26 ?_
        refine W.lcmp hx hb dX2_turnTo_29 ?_
        refine lv_if_gt (tgt := 58) hx hb dX2_turnTo_30 (by decide) (fun c2 => ?_) (fun c2 => ?_)
        · have hf := sp1 c2 hf
          cases hf
          subst hQ
          exact he_v C hP hS dX2_turnTo_58
        · have hf := sp0 c2 hf
          refine lv_aload_n hx hb dX2_turnTo_33 rfl (lv_at hl 0 rfl) ?_
          refine gf_X2_2 C hK hP mw_1_56 dX2_turnTo_34 ?_
          refine lv_iload hx hb dX2_turnTo_37 (lv_at hl 3 rfl) ?_
          refine lv_lload_n hx hb dX2_turnTo_39 rfl (lv_at hl 2 rfl) ?_
          obtain ⟨c3, hf⟩ := spn hf
          refine as_C6 C hK hP hG hS c3 dX2_turnTo_40 (fun H locs hP hS => ?_)
          refine lv_aload_n hx hb dX2_turnTo_41 rfl (lv_at hl 0 rfl) ?_
          refine lv_iload hx hb dX2_turnTo_42 (lv_at hl 3 rfl) ?_
          refine pf_X2_1 C hK hP hG hS mw_1_53 dX2_turnTo_44 (fun H locs hP hS => ?_)
          refine lv_lload_n hx hb dX2_turnTo_47 rfl (lv_at hl 2 rfl) ?_
          refine lv_iload_n hx hb dX2_turnTo_48 rfl (lv_at hl 1 rfl) ?_
          refine lv_i2l hx hb dX2_turnTo_49 rfl ?_
          refine lv_lmul hx hb dX2_turnTo_50 ?_
          refine lv_lstore_n (lv' := [(2, .long (x2 * (Int32.toInt64 x1))), (0, .ref (ad 3)), (1, .int x1), (4, .int x4)]) hx hb dX2_turnTo_51 rfl hl (by decide) rfl (fun ls hl => ?_)
          refine lv_iinc (v := (x4 + 1)) (lv' := [(4, .int (x4 + 1)), (2, .long (x2 * (Int32.toInt64 x1))), (0, .ref (ad 3)), (1, .int x1)]) hx hb dX2_turnTo_52 hl (k := 3) rfl rfl (by decide) rfl (fun ls hl => ?_)
          refine lv_goto (tgt := 15) hx hb dX2_turnTo_55 (by decide) ?_
          exact hk_15 x1 (x2 * (Int32.toInt64 x1)) (x4 + 1) (wI (wJ S 6 (Int32.toNatClampNeg x4) x2) 3 1 x4) _ _ _ (lv_sub hl [2, 3, 1, 0] rfl) hP hS hf
    exact aux FU
  refine lv_aload_n hx hb dX2_turnTo_0 rfl (lv_at hl 0 rfl) ?_
  refine lv_iload_n hx hb dX2_turnTo_1 rfl (lv_at hl 1 rfl) ?_
  refine pf_X2_0 C hK hP hG hS mw_1_50 dX2_turnTo_2 (fun H locs hP hS => ?_)
  refine lv_aload_n hx hb dX2_turnTo_5 rfl (lv_at hl 0 rfl) ?_
  refine lv_iconst (v := 0) hx hb dX2_turnTo_6 (by decide) ?_
  refine pf_X2_1 C hK hP hG hS mw_1_53 dX2_turnTo_7 (fun H locs hP hS => ?_)
  refine lv_lconst (v := 1) hx hb dX2_turnTo_10 (by decide) ?_
  refine lv_lstore_n (lv' := [(2, .long 1), (0, .ref (ad 3)), (1, .int p0)]) hx hb dX2_turnTo_11 rfl hl (by decide) rfl (fun ls hl => ?_)
  refine lv_iconst (v := 0) hx hb dX2_turnTo_12 (by decide) ?_
  refine lv_istore (lv' := [(4, .int 0), (2, .long 1), (0, .ref (ad 3)), (1, .int p0)]) hx hb dX2_turnTo_13 hl (by decide) rfl (fun ls hl => ?_)
  exact w_15 p0 1 0 (wI (wI S0 3 0 p0) 3 1 0) _ _ _ (lv_sub hl [2, 3, 1, 0] rfl) hP hS hf
theorem cp_X2_turnTo : CPv yX2_turnTo cX2_turnTo 5 none 1 := ⟨mw_1_48, mw_1_3, mw_1_46, mw_1_47, by decide +kernel⟩
def rm_X2_power : Room := { frames := 1, cells := 0, slots := 0, locals := 40 }
set_option maxHeartbeats 4000000 in
set_option maxRecDepth 100000 in
theorem c_X2_power (l : Launch) (D : va_G) (ct : Nat → ClassId) (ad : Nat → Nat) (F : Nat → Prop) (hG : Gd ad 70 F) (p0 : Int32) (S0 : St)  (r : Int64) (hf : f_X2_power p0 S0 = some r) : MetH l yX2_power cX2_power 3 (some .long) rm_X2_power D (tysW ct) F [.ref (ad 3), .int p0] (some (.long r)) (cellsC ct ad S0) (cellsC ct ad S0) := by
  refine MetH.of RX2 (by decide) rfl (Nat.le_of_ble_eq_true rfl) ?_
  intro p e s m args below meth c C hK hP ls hl
  have hl : lv_has ls 3 [(0, .ref (ad 3)), (1, .int p0)] := hl
  obtain ⟨hx, hb, hr, hml, hown, htL, hlocks⟩ := id C
  have hS : va_S F s.heap s.heap [] := va_S.rf
  generalize hQ : MQ below (Hq D (cellsC ct ad S0) F (some (.long r))) args s 0 0 F = Q
  refine lv_iconst (v := 0) hx hb dX2_power_0 (by decide) ?_
  refine lv_iload_n hx hb dX2_power_1 rfl (lv_at hl 1 rfl) ?_
  refine lv_aload_n hx hb dX2_power_2 rfl (lv_at hl 0 rfl) ?_
  refine gf_X2_1 C hK hP mw_1_53 dX2_power_3 ?_
  refine va_mmin (ls := _) hx hb (hml.trans hl.1.symm) hown (htL _ mw_2_70) (htL _ mw_2_60) (htL _ mw_1_17) (htL _ mw_2_61) (Nat.le_of_ble_eq_true rfl) (Nat.le_of_ble_eq_true rfl) (Nat.le_of_ble_eq_true rfl) (Nat.le_of_ble_eq_true rfl) dX2_power_6 ?_
  refine va_mmax (ls := _) hx hb (hml.trans hl.1.symm) hown (htL _ mw_2_71) (htL _ mw_2_29) (htL _ mw_1_17) (htL _ mw_2_30) (Nat.le_of_ble_eq_true rfl) (Nat.le_of_ble_eq_true rfl) (Nat.le_of_ble_eq_true rfl) (Nat.le_of_ble_eq_true rfl) dX2_power_9 ?_
  refine lv_istore_n (lv' := [(2, .int (mxI 0 (mnI p0 (S0.1 3 1)))), (0, .ref (ad 3)), (1, .int p0)]) hx hb dX2_power_12 rfl hl (by decide) rfl (fun ls hl => ?_)
  refine lv_iload_n hx hb dX2_power_13 rfl (lv_at hl 0 rfl) ?_
  refine lv_aload_n hx hb dX2_power_14 rfl (lv_at hl 1 rfl) ?_
  refine gf_X2_2 C hK hP mw_1_56 dX2_power_15 ?_
  refine an_C6 C hK hP dX2_power_18 ?_
  refine lv_icmp_ge (tgt := 31) hx hb dX2_power_19 (by decide) (fun c1 => ?_) (fun c1 => ?_)
  · have hf := sp1 c1 hf
    refine lv_lconst (v := 1) hx hb dX2_power_31 (by decide) ?_
    cases hf
    subst hQ
    exact he_l C hP hS dX2_power_32
  · have hf := sp0 c1 hf
    refine lv_aload_n hx hb dX2_power_22 rfl (lv_at hl 1 rfl) ?_
    refine gf_X2_2 C hK hP mw_1_56 dX2_power_23 ?_
    refine lv_iload_n hx hb dX2_power_26 rfl (lv_at hl 0 rfl) ?_
    obtain ⟨c2, hf⟩ := spn hf
    refine al_C6 C hK hP c2 dX2_power_27 ?_
    refine lv_goto (tgt := 32) hx hb dX2_power_28 (by decide) ?_
    cases hf
    subst hQ
    exact he_l C hP hS dX2_power_32
theorem cp_X2_power : CPv yX2_power cX2_power 3 (some .long) 1 := ⟨mw_2_69, mw_1_3, mw_2_67, mw_2_68, by decide +kernel⟩
def rm_X3_isNothing : Room := { frames := 0, cells := 0, slots := 0, locals := 0 }
set_option maxHeartbeats 4000000 in
set_option maxRecDepth 100000 in
theorem c_X3_isNothing (l : Launch) (D : va_G) (ct : Nat → ClassId) (ad : Nat → Nat) (F : Nat → Prop) (hG : Gd ad 70 F) (k0 : Nat) (S0 : St) (hk_k0 : k0 < 42) (r : Int32) (hf : f_X3_isNothing k0 S0 = some r) : MetH l yX3_isNothing cX3_isNothing 1 (some .boolean) rm_X3_isNothing D (tysW ct) F [.ref (ad (12 + k0))] (some (.int r)) (cellsC ct ad S0) (cellsC ct ad S0) := by
  refine MetH.of RX3 (by decide) rfl (Nat.le_of_ble_eq_true rfl) ?_
  intro p e s m args below meth c C hK hP ls hl
  have hl : lv_has ls 1 [(0, .ref (ad (12 + k0)))] := hl
  obtain ⟨hx, hb, hr, hml, hown, htL, hlocks⟩ := id C
  have hS : va_S F s.heap s.heap [] := va_S.rf
  generalize hQ : MQ below (Hq D (cellsC ct ad S0) F (some (.int r))) args s 0 0 F = Q
  refine lv_aload_n hx hb dX3_isNothing_0 rfl (lv_at hl 0 rfl) ?_
  refine gf_X3_8 C hK hP hk_k0 mw_1_129 dX3_isNothing_1 ?_
  refine lv_aload_n hx hb dX3_isNothing_4 rfl (lv_at hl 0 rfl) ?_
  refine gf_X3_9 C hK hP hk_k0 mw_1_132 dX3_isNothing_5 ?_
  refine lv_icmp_lt (tgt := 15) hx hb dX3_isNothing_8 (by decide) (fun c1 => ?_) (fun c1 => ?_)
  · have hf := sp1 c1 hf
    refine lv_iconst (v := 0) hx hb dX3_isNothing_15 (by decide) ?_
    cases hf
    subst hQ
    exact he_z C (by decide) hP hS dX3_isNothing_16
  · have hf := sp0 c1 hf
    refine lv_iconst (v := 1) hx hb dX3_isNothing_11 (by decide) ?_
    refine lv_goto (tgt := 16) hx hb dX3_isNothing_12 (by decide) ?_
    cases hf
    subst hQ
    exact he_z C (by decide) hP hS dX3_isNothing_16
theorem cp_X3_isNothing : CPv yX3_isNothing cX3_isNothing 1 (some .boolean) 0 := ⟨mw_2_99, mw_1_7, mw_2_97, mw_2_98, by decide +kernel⟩
def rm_X3_hasWholeDigits : Room := { frames := 0, cells := 0, slots := 0, locals := 0 }
set_option maxHeartbeats 4000000 in
set_option maxRecDepth 100000 in
theorem c_X3_hasWholeDigits (l : Launch) (D : va_G) (ct : Nat → ClassId) (ad : Nat → Nat) (F : Nat → Prop) (hG : Gd ad 70 F) (k0 : Nat) (S0 : St) (hk_k0 : k0 < 42) (r : Int32) (hf : f_X3_hasWholeDigits k0 S0 = some r) : MetH l yX3_hasWholeDigits cX3_hasWholeDigits 1 (some .boolean) rm_X3_hasWholeDigits D (tysW ct) F [.ref (ad (12 + k0))] (some (.int r)) (cellsC ct ad S0) (cellsC ct ad S0) := by
  refine MetH.of RX3 (by decide) rfl (Nat.le_of_ble_eq_true rfl) ?_
  intro p e s m args below meth c C hK hP ls hl
  have hl : lv_has ls 1 [(0, .ref (ad (12 + k0)))] := hl
  obtain ⟨hx, hb, hr, hml, hown, htL, hlocks⟩ := id C
  have hS : va_S F s.heap s.heap [] := va_S.rf
  generalize hQ : MQ below (Hq D (cellsC ct ad S0) F (some (.int r))) args s 0 0 F = Q
  refine lv_aload_n hx hb dX3_hasWholeDigits_0 rfl (lv_at hl 0 rfl) ?_
  refine gf_X3_8 C hK hP hk_k0 mw_1_129 dX3_hasWholeDigits_1 ?_
  refine lv_if_lt (tgt := 18) hx hb dX3_hasWholeDigits_4 (by decide) (fun c1 => ?_) (fun c1 => ?_)
  · have hf := sp1 c1 hf
    refine lv_iconst (v := 0) hx hb dX3_hasWholeDigits_18 (by decide) ?_
    cases hf
    subst hQ
    exact he_z C (by decide) hP hS dX3_hasWholeDigits_19
  · have hf := sp0 c1 hf
    refine lv_aload_n hx hb dX3_hasWholeDigits_7 rfl (lv_at hl 0 rfl) ?_
    refine gf_X3_9 C hK hP hk_k0 mw_1_132 dX3_hasWholeDigits_8 ?_
    refine lv_if_le (tgt := 18) hx hb dX3_hasWholeDigits_11 (by decide) (fun c2 => ?_) (fun c2 => ?_)
    · have hf := sp1 c2 hf
      refine lv_iconst (v := 0) hx hb dX3_hasWholeDigits_18 (by decide) ?_
      cases hf
      subst hQ
      exact he_z C (by decide) hP hS dX3_hasWholeDigits_19
    · have hf := sp0 c2 hf
      refine lv_iconst (v := 1) hx hb dX3_hasWholeDigits_14 (by decide) ?_
      refine lv_goto (tgt := 19) hx hb dX3_hasWholeDigits_15 (by decide) ?_
      cases hf
      subst hQ
      exact he_z C (by decide) hP hS dX3_hasWholeDigits_19
theorem cp_X3_hasWholeDigits : CPv yX3_hasWholeDigits cX3_hasWholeDigits 1 (some .boolean) 0 := ⟨mw_4_90, mw_1_7, mw_4_88, mw_4_89, by decide +kernel⟩
def rm_X3_isMadeOfOthers : Room := { frames := 0, cells := 0, slots := 0, locals := 0 }
set_option maxHeartbeats 4000000 in
set_option maxRecDepth 100000 in
theorem c_X3_isMadeOfOthers (l : Launch) (D : va_G) (ct : Nat → ClassId) (ad : Nat → Nat) (F : Nat → Prop) (hG : Gd ad 70 F) (k0 : Nat) (S0 : St) (hk_k0 : k0 < 42) (r : Int32) (hf : f_X3_isMadeOfOthers k0 S0 = some r) : MetH l yX3_isMadeOfOthers cX3_isMadeOfOthers 1 (some .boolean) rm_X3_isMadeOfOthers D (tysW ct) F [.ref (ad (12 + k0))] (some (.int r)) (cellsC ct ad S0) (cellsC ct ad S0) := by
  refine MetH.of RX3 (by decide) rfl (Nat.le_of_ble_eq_true rfl) ?_
  intro p e s m args below meth c C hK hP ls hl
  have hl : lv_has ls 1 [(0, .ref (ad (12 + k0)))] := hl
  obtain ⟨hx, hb, hr, hml, hown, htL, hlocks⟩ := id C
  have hS : va_S F s.heap s.heap [] := va_S.rf
  generalize hQ : MQ below (Hq D (cellsC ct ad S0) F (some (.int r))) args s 0 0 F = Q
  refine lv_aload_n hx hb dX3_isMadeOfOthers_0 rfl (lv_at hl 0 rfl) ?_
  refine gf_X3_0 C hK hP hk_k0 mw_1_118 dX3_isMadeOfOthers_1 ?_
  refine lv_if_eq (tgt := 20) hx hb dX3_isMadeOfOthers_4 (by decide) (fun c1 => ?_) (fun c1 => ?_)
  · have hf := sp1 c1 hf
    refine lv_iconst (v := 0) hx hb dX3_isMadeOfOthers_20 (by decide) ?_
    cases hf
    subst hQ
    exact he_z C (by decide) hP hS dX3_isMadeOfOthers_21
  · have hf := sp0 c1 hf
    refine lv_aload_n hx hb dX3_isMadeOfOthers_7 rfl (lv_at hl 0 rfl) ?_
    refine gf_X3_0 C hK hP hk_k0 mw_1_118 dX3_isMadeOfOthers_8 ?_
    refine lv_bipush (v := 7) hx hb dX3_isMadeOfOthers_11 (by decide) ?_
    refine lv_icmp_eq (tgt := 20) hx hb dX3_isMadeOfOthers_13 (by decide) (fun c2 => ?_) (fun c2 => ?_)
    · have hf := sp1 c2 hf
      refine lv_iconst (v := 0) hx hb dX3_isMadeOfOthers_20 (by decide) ?_
      cases hf
      subst hQ
      exact he_z C (by decide) hP hS dX3_isMadeOfOthers_21
    · have hf := sp0 c2 hf
      refine lv_iconst (v := 1) hx hb dX3_isMadeOfOthers_16 (by decide) ?_
      refine lv_goto (tgt := 21) hx hb dX3_isMadeOfOthers_17 (by decide) ?_
      cases hf
      subst hQ
      exact he_z C (by decide) hP hS dX3_isMadeOfOthers_21
theorem cp_X3_isMadeOfOthers : CPv yX3_isMadeOfOthers cX3_isMadeOfOthers 1 (some .boolean) 0 := ⟨mw_2_46, mw_1_7, mw_2_44, mw_2_45, by decide +kernel⟩
def rm_X3_become : Room := { frames := 0, cells := 0, slots := 0, locals := 0 }
set_option maxHeartbeats 4000000 in
set_option maxRecDepth 100000 in
theorem c_X3_become (l : Launch) (D : va_G) (ct : Nat → ClassId) (ad : Nat → Nat) (F : Nat → Prop) (hG : Gd ad 70 F) (k0 : Nat) (p0 : Int32) (p1 : Int32) (p2 : Int32) (S0 : St) (hk_k0 : k0 < 42) (S' : St) (hf : f_X3_become k0 p0 p1 p2 S0 = some S') : MetH l yX3_become cX3_become 4 none rm_X3_become D (tysW ct) F [.ref (ad (12 + k0)), .int p0, .int p1, .int p2] none (cellsC ct ad S0) (cellsC ct ad S') := by
  refine MetH.of RX3 (by decide) rfl (Nat.le_of_ble_eq_true rfl) ?_
  intro p e s m args below meth c C hK hP ls hl
  have hl : lv_has ls 4 [(0, .ref (ad (12 + k0))), (1, .int p0), (2, .int p1), (3, .int p2)] := hl
  obtain ⟨hx, hb, hr, hml, hown, htL, hlocks⟩ := id C
  have hS : va_S F s.heap s.heap [] := va_S.rf
  generalize hQ : MQ below (Hq D (cellsC ct ad S') F none) args s 0 0 F = Q
  refine lv_aload_n hx hb dX3_become_0 rfl (lv_at hl 0 rfl) ?_
  refine lv_iload_n hx hb dX3_become_1 rfl (lv_at hl 1 rfl) ?_
  refine pf_X3_0 C hK hP hG hS hk_k0 mw_1_118 dX3_become_2 (fun H locs hP hS => ?_)
  refine lv_aload_n hx hb dX3_become_5 rfl (lv_at hl 0 rfl) ?_
  refine lv_iload_n hx hb dX3_become_6 rfl (lv_at hl 2 rfl) ?_
  refine pf_X3_1 C hK hP hG hS hk_k0 mw_1_120 dX3_become_7 (fun H locs hP hS => ?_)
  refine lv_aload_n hx hb dX3_become_10 rfl (lv_at hl 0 rfl) ?_
  refine lv_iload_n hx hb dX3_become_11 rfl (lv_at hl 3 rfl) ?_
  refine pf_X3_2 C hK hP hG hS hk_k0 mw_1_122 dX3_become_12 (fun H locs hP hS => ?_)
  cases hf
  subst hQ
  exact he_v C hP hS dX3_become_15
theorem cp_X3_become : CPv yX3_become cX3_become 4 none 3 := ⟨mw_3_41, mw_1_7, mw_3_39, mw_3_40, by decide +kernel⟩
def rm_X3_keepEarly : Room := { frames := 0, cells := 0, slots := 0, locals := 0 }
set_option maxHeartbeats 4000000 in
set_option maxRecDepth 100000 in
theorem c_X3_keepEarly (l : Launch) (D : va_G) (ct : Nat → ClassId) (ad : Nat → Nat) (F : Nat → Prop) (hG : Gd ad 70 F) (k0 : Nat) (S0 : St) (hk_k0 : k0 < 42) (S' : St) (hf : f_X3_keepEarly k0 S0 = some S') : MetH l yX3_keepEarly cX3_keepEarly 1 none rm_X3_keepEarly D (tysW ct) F [.ref (ad (12 + k0))] none (cellsC ct ad S0) (cellsC ct ad S') := by
  refine MetH.of RX3 (by decide) rfl (Nat.le_of_ble_eq_true rfl) ?_
  intro p e s m args below meth c C hK hP ls hl
  have hl : lv_has ls 1 [(0, .ref (ad (12 + k0)))] := hl
  obtain ⟨hx, hb, hr, hml, hown, htL, hlocks⟩ := id C
  have hS : va_S F s.heap s.heap [] := va_S.rf
  generalize hQ : MQ below (Hq D (cellsC ct ad S') F none) args s 0 0 F = Q
  refine lv_aload_n hx hb dX3_keepEarly_0 rfl (lv_at hl 0 rfl) ?_
  refine lv_aload_n hx hb dX3_keepEarly_1 rfl (lv_at hl 0 rfl) ?_
  refine gf_X3_8 C hK hP hk_k0 mw_1_129 dX3_keepEarly_2 ?_
  refine pf_X3_11 C hK hP hG hS hk_k0 mw_1_137 dX3_keepEarly_5 (fun H locs hP hS => ?_)
  refine lv_aload_n hx hb dX3_keepEarly_8 rfl (lv_at hl 0 rfl) ?_
  refine lv_aload_n hx hb dX3_keepEarly_9 rfl (lv_at hl 0 rfl) ?_
  refine gf_X3_9 C hK hP hk_k0 mw_1_132 dX3_keepEarly_10 ?_
  refine pf_X3_12 C hK hP hG hS hk_k0 mw_1_138 dX3_keepEarly_13 (fun H locs hP hS => ?_)
  refine lv_aload_n hx hb dX3_keepEarly_16 rfl (lv_at hl 0 rfl) ?_
  refine lv_aload_n hx hb dX3_keepEarly_17 rfl (lv_at hl 0 rfl) ?_
  refine gf_X3_10 C hK hP hk_k0 mw_1_135 dX3_keepEarly_18 ?_
  refine pf_X3_13 C hK hP hG hS hk_k0 mw_1_139 dX3_keepEarly_21 (fun H locs hP hS => ?_)
  cases hf
  subst hQ
  exact he_v C hP hS dX3_keepEarly_24
theorem cp_X3_keepEarly : CPv yX3_keepEarly cX3_keepEarly 1 none 0 := ⟨mw_3_116, mw_1_7, mw_3_114, mw_3_115, by decide +kernel⟩
def rm_X3_copyEarlyOf : Room := { frames := 0, cells := 0, slots := 0, locals := 0 }
set_option maxHeartbeats 4000000 in
set_option maxRecDepth 100000 in
theorem c_X3_copyEarlyOf (l : Launch) (D : va_G) (ct : Nat → ClassId) (ad : Nat → Nat) (F : Nat → Prop) (hG : Gd ad 70 F) (k0 : Nat) (p0 : Nat) (S0 : St) (hk_k0 : k0 < 42) (hk_p0 : p0 < 42) (S' : St) (hf : f_X3_copyEarlyOf k0 p0 S0 = some S') : MetH l yX3_copyEarlyOf cX3_copyEarlyOf 2 none rm_X3_copyEarlyOf D (tysW ct) F [.ref (ad (12 + k0)), .ref (ad (12 + p0))] none (cellsC ct ad S0) (cellsC ct ad S') := by
  refine MetH.of RX3 (by decide) rfl (Nat.le_of_ble_eq_true rfl) ?_
  intro p e s m args below meth c C hK hP ls hl
  have hl : lv_has ls 2 [(0, .ref (ad (12 + k0))), (1, .ref (ad (12 + p0)))] := hl
  obtain ⟨hx, hb, hr, hml, hown, htL, hlocks⟩ := id C
  have hS : va_S F s.heap s.heap [] := va_S.rf
  generalize hQ : MQ below (Hq D (cellsC ct ad S') F none) args s 0 0 F = Q
  refine lv_aload_n hx hb dX3_copyEarlyOf_0 rfl (lv_at hl 0 rfl) ?_
  refine lv_aload_n hx hb dX3_copyEarlyOf_1 rfl (lv_at hl 1 rfl) ?_
  refine gf_X3_11 C hK hP hk_p0 mw_1_137 dX3_copyEarlyOf_2 ?_
  refine pf_X3_8 C hK hP hG hS hk_k0 mw_1_129 dX3_copyEarlyOf_5 (fun H locs hP hS => ?_)
  refine lv_aload_n hx hb dX3_copyEarlyOf_8 rfl (lv_at hl 0 rfl) ?_
  refine lv_aload_n hx hb dX3_copyEarlyOf_9 rfl (lv_at hl 1 rfl) ?_
  refine gf_X3_12 C hK hP hk_p0 mw_1_138 dX3_copyEarlyOf_10 ?_
  refine pf_X3_9 C hK hP hG hS hk_k0 mw_1_132 dX3_copyEarlyOf_13 (fun H locs hP hS => ?_)
  refine lv_aload_n hx hb dX3_copyEarlyOf_16 rfl (lv_at hl 0 rfl) ?_
  refine lv_aload_n hx hb dX3_copyEarlyOf_17 rfl (lv_at hl 1 rfl) ?_
  refine gf_X3_13 C hK hP hk_p0 mw_1_139 dX3_copyEarlyOf_18 ?_
  refine pf_X3_10 C hK hP hG hS hk_k0 mw_1_135 dX3_copyEarlyOf_21 (fun H locs hP hS => ?_)
  cases hf
  subst hQ
  exact he_v C hP hS dX3_copyEarlyOf_24
theorem cp_X3_copyEarlyOf : CPv yX3_copyEarlyOf cX3_copyEarlyOf 2 none 1 := ⟨mw_2_50, mw_1_7, mw_2_48, mw_2_49, by decide +kernel⟩
def rm_X3_isLike : Room := { frames := 0, cells := 0, slots := 0, locals := 0 }
set_option maxHeartbeats 4000000 in
set_option maxRecDepth 100000 in
theorem c_X3_isLike (l : Launch) (D : va_G) (ct : Nat → ClassId) (ad : Nat → Nat) (F : Nat → Prop) (hG : Gd ad 70 F) (k0 : Nat) (p0 : Nat) (S0 : St) (hk_k0 : k0 < 42) (hk_p0 : p0 < 42) (r : Int32) (hf : f_X3_isLike k0 p0 S0 = some r) : MetH l yX3_isLike cX3_isLike 2 (some .boolean) rm_X3_isLike D (tysW ct) F [.ref (ad (12 + k0)), .ref (ad (12 + p0))] (some (.int r)) (cellsC ct ad S0) (cellsC ct ad S0) := by
  refine MetH.of RX3 (by decide) rfl (Nat.le_of_ble_eq_true rfl) ?_
  intro p e s m args below meth c C hK hP ls hl
  have hl : lv_has ls 2 [(0, .ref (ad (12 + k0))), (1, .ref (ad (12 + p0)))] := hl
  obtain ⟨hx, hb, hr, hml, hown, htL, hlocks⟩ := id C
  have hS : va_S F s.heap s.heap [] := va_S.rf
  generalize hQ : MQ below (Hq D (cellsC ct ad S0) F (some (.int r))) args s 0 0 F = Q
  refine lv_aload_n hx hb dX3_isLike_0 rfl (lv_at hl 0 rfl) ?_
  refine gf_X3_8 C hK hP hk_k0 mw_1_129 dX3_isLike_1 ?_
  refine lv_aload_n hx hb dX3_isLike_4 rfl (lv_at hl 1 rfl) ?_
  refine gf_X3_8 C hK hP hk_p0 mw_1_129 dX3_isLike_5 ?_
  refine lv_icmp_ne (tgt := 38) hx hb dX3_isLike_8 (by decide) (fun c1 => ?_) (fun c1 => ?_)
  · have hf := sp0 c1 hf
    refine lv_iconst (v := 0) hx hb dX3_isLike_38 (by decide) ?_
    cases hf
    subst hQ
    exact he_z C (by decide) hP hS dX3_isLike_39
  · have hf := sp1 c1 hf
    refine lv_aload_n hx hb dX3_isLike_11 rfl (lv_at hl 0 rfl) ?_
    refine gf_X3_9 C hK hP hk_k0 mw_1_132 dX3_isLike_12 ?_
    refine lv_aload_n hx hb dX3_isLike_15 rfl (lv_at hl 1 rfl) ?_
    refine gf_X3_9 C hK hP hk_p0 mw_1_132 dX3_isLike_16 ?_
    refine lv_icmp_ne (tgt := 38) hx hb dX3_isLike_19 (by decide) (fun c2 => ?_) (fun c2 => ?_)
    · have hf := sp0 c2 hf
      refine lv_iconst (v := 0) hx hb dX3_isLike_38 (by decide) ?_
      cases hf
      subst hQ
      exact he_z C (by decide) hP hS dX3_isLike_39
    · have hf := sp1 c2 hf
      refine lv_aload_n hx hb dX3_isLike_22 rfl (lv_at hl 0 rfl) ?_
      refine gf_X3_10 C hK hP hk_k0 mw_1_135 dX3_isLike_23 ?_
      refine lv_aload_n hx hb dX3_isLike_26 rfl (lv_at hl 1 rfl) ?_
      refine gf_X3_10 C hK hP hk_p0 mw_1_135 dX3_isLike_27 ?_
      refine W.lcmp hx hb dX3_isLike_30 ?_
      refine lv_if_ne (tgt := 38) hx hb dX3_isLike_31 (by decide) (fun c3 => ?_) (fun c3 => ?_)
      · have hf := sp0 c3 hf
        refine lv_iconst (v := 0) hx hb dX3_isLike_38 (by decide) ?_
        cases hf
        subst hQ
        exact he_z C (by decide) hP hS dX3_isLike_39
      · have hf := sp1 c3 hf
        refine lv_iconst (v := 1) hx hb dX3_isLike_34 (by decide) ?_
        refine lv_goto (tgt := 39) hx hb dX3_isLike_35 (by decide) ?_
        cases hf
        subst hQ
        exact he_z C (by decide) hP hS dX3_isLike_39
theorem cp_X3_isLike : CPv yX3_isLike cX3_isLike 2 (some .boolean) 1 := ⟨mw_4_67, mw_1_7, mw_4_65, mw_4_66, by decide +kernel⟩
def rm_X4_termCount : Room := { frames := 0, cells := 0, slots := 0, locals := 0 }
set_option maxHeartbeats 4000000 in
set_option maxRecDepth 100000 in
theorem c_X4_termCount (l : Launch) (D : va_G) (ct : Nat → ClassId) (ad : Nat → Nat) (F : Nat → Prop) (hG : Gd ad 70 F) (k0 : Nat) (S0 : St) (hk_k0 : k0 < 8) (r : Int32) (hf : f_X4_termCount k0 S0 = some r) : MetH l yX4_termCount cX4_termCount 3 (some .int) rm_X4_termCount D (tysW ct) F [.ref (ad (54 + k0))] (some (.int r)) (cellsC ct ad S0) (cellsC ct ad S0) := by
  refine MetH.of RX4 (by decide) rfl (Nat.le_of_ble_eq_true rfl) ?_
  intro p e s m args below meth c C hK hP ls hl
  have hl : lv_has ls 3 [(0, .ref (ad (54 + k0)))] := hl
  obtain ⟨hx, hb, hr, hml, hown, htL, hlocks⟩ := id C
  have hS : va_S F s.heap s.heap [] := va_S.rf
  generalize hQ : MQ below (Hq D (cellsC ct ad S0) F (some (.int r))) args s 0 0 F = Q
  have w_4 : ∀ (x0 : Nat) (x1 : Int32) (x2 : Int32), x0 < 8 → ∀ (H : Heap) (locs : List Loc) (ls : Array Slot), lv_has ls 3 [(0, .ref (ad (54 + x0))), (1, .int x1), (2, .int x2)] → va_P D vwCl (cellsC ct ad S0) H → va_S F s.heap H locs → n_X4_termCount_4 S0 x0 x1 x2 = some r → W p l e rm_X4_termCount s m args below meth c H locs 0 0 Q (F0 m 4 ls []) := by
    have aux : ∀ (n : Nat), ∀ (x0 : Nat) (x1 : Int32) (x2 : Int32), x0 < 8 → ∀ (H : Heap) (locs : List Loc) (ls : Array Slot), lv_has ls 3 [(0, .ref (ad (54 + x0))), (1, .int x1), (2, .int x2)] → va_P D vwCl (cellsC ct ad S0) H → va_S F s.heap H locs → itr (fun (q : Nat × Int32 × Int32) k => s_X4_termCount_4  (fun (x0 : Nat) (x1 : Int32) (x2 : Int32) => k (x0, x1, x2)) S0 q.1 q.2.1 q.2.2) n (x0, x1, x2) = some r → W p l e rm_X4_termCount s m args below meth c H locs 0 0 Q (F0 m 4 ls []) := by
      intro n
      induction n with
      | zero => intro x0 x1 x2 hk_x0 H locs ls hl hP hS hf; exact (itr_z hf).elim
      | succ n ih =>
      intro x0 x1 x2 hk_x0 H locs ls hl hP hS hf
      have hk_4 := ih
      have hf : s_X4_termCount_4  (fun (x0 : Nat) (x1 : Int32) (x2 : Int32) => itr (fun (q : Nat × Int32 × Int32) k => s_X4_termCount_4  (fun (x0 : Nat) (x1 : Int32) (x2 : Int32) => k (x0, x1, x2)) S0 q.1 q.2.1 q.2.2) n (x0, x1, x2)) S0 x0 x1 x2 = some r := hf
      refine lv_iload_n hx hb dX4_termCount_4 rfl (lv_at hl 2 rfl) ?_
      refine lv_aload_n hx hb dX4_termCount_5 rfl (lv_at hl 0 rfl) ?_
      refine gf_X4_1 C hK hP hk_x0 mw_1_81 dX4_termCount_6 ?_
      refine an_coef C hK hP hk_x0 dX4_termCount_9 ?_
      refine lv_icmp_ge (tgt := 31) hx hb dX4_termCount_10 (by decide) (fun c1 => ?_) (fun c1 => ?_)
      · have hf := sp1 c1 hf
        refine lv_iload_n hx hb dX4_termCount_31 rfl (lv_at hl 1 rfl) ?_
        cases hf
        subst hQ
        exact he_i C hP hS dX4_termCount_32
      · have hf := sp0 c1 hf
        refine lv_aload_n hx hb dX4_termCount_13 rfl (lv_at hl 0 rfl) ?_
        refine gf_X4_1 C hK hP hk_x0 mw_1_81 dX4_termCount_14 ?_
        refine lv_iload_n hx hb dX4_termCount_17 rfl (lv_at hl 2 rfl) ?_
        obtain ⟨c2, hf⟩ := spn hf
        refine al_coef C hK hP hk_x0 c2 dX4_termCount_18 ?_
        refine lv_if_eq (tgt := 25) hx hb dX4_termCount_19 (by decide) (fun c3 => ?_) (fun c3 => ?_)
        · have hf := sp1 c3 hf
          refine lv_iinc (v := (x2 + 1)) (lv' := [(2, .int (x2 + 1)), (0, .ref (ad (54 + x0))), (1, .int x1)]) hx hb dX4_termCount_25 hl (k := 2) rfl rfl (by decide) rfl (fun ls hl => ?_)
          refine lv_goto (tgt := 4) hx hb dX4_termCount_28 (by decide) ?_
          exact hk_4 x0 x1 (x2 + 1) hk_x0 _ _ _ (lv_sub hl [1, 2, 0] rfl) hP hS hf
        · have hf := sp0 c3 hf
          refine lv_iinc (v := (x1 + 1)) (lv' := [(1, .int (x1 + 1)), (0, .ref (ad (54 + x0))), (2, .int x2)]) hx hb dX4_termCount_22 hl (k := 1) rfl rfl (by decide) rfl (fun ls hl => ?_)
          refine lv_iinc (v := (x2 + 1)) (lv' := [(2, .int (x2 + 1)), (1, .int (x1 + 1)), (0, .ref (ad (54 + x0)))]) hx hb dX4_termCount_25 hl (k := 2) rfl rfl (by decide) rfl (fun ls hl => ?_)
          refine lv_goto (tgt := 4) hx hb dX4_termCount_28 (by decide) ?_
          exact hk_4 x0 (x1 + 1) (x2 + 1) hk_x0 _ _ _ (lv_sub hl [2, 1, 0] rfl) hP hS hf
    exact aux FU
  refine lv_iconst (v := 0) hx hb dX4_termCount_0 (by decide) ?_
  refine lv_istore_n (lv' := [(1, .int 0), (0, .ref (ad (54 + k0)))]) hx hb dX4_termCount_1 rfl hl (by decide) rfl (fun ls hl => ?_)
  refine lv_iconst (v := 0) hx hb dX4_termCount_2 (by decide) ?_
  refine lv_istore_n (lv' := [(2, .int 0), (1, .int 0), (0, .ref (ad (54 + k0)))]) hx hb dX4_termCount_3 rfl hl (by decide) rfl (fun ls hl => ?_)
  exact w_4 k0 0 0 hk_k0 _ _ _ (lv_sub hl [2, 1, 0] rfl) hP hS hf
theorem cp_X4_termCount : CPv yX4_termCount cX4_termCount 3 (some .int) 0 := ⟨mw_4_169, mw_1_5, mw_4_167, mw_4_168, by decide +kernel⟩
def rm_X4_heightAt : Room := { frames := 2, cells := 0, slots := 0, locals := 58 }
set_option maxHeartbeats 4000000 in
set_option maxRecDepth 100000 in
theorem c_X4_heightAt (l : Launch) (D : va_G) (ct : Nat → ClassId) (ad : Nat → Nat) (F : Nat → Prop) (hG : Gd ad 70 F) (k0 : Nat) (p0 : Int32) (p1 : Int32) (S0 : St) (hk_k0 : k0 < 8) (r : Int32) (hf : f_X4_heightAt k0 p0 p1 S0 = some r) : MetH l yX4_heightAt cX4_heightAt 3 (some .int) rm_X4_heightAt D (tysW ct) F [.ref (ad (54 + k0)), .int p0, .int p1] (some (.int r)) (cellsC ct ad S0) (cellsC ct ad S0) := by
  refine MetH.of RX4 (by decide) rfl (Nat.le_of_ble_eq_true rfl) ?_
  intro p e s m args below meth c C hK hP ls hl
  have hl : lv_has ls 3 [(0, .ref (ad (54 + k0))), (1, .int p0), (2, .int p1)] := hl
  obtain ⟨hx, hb, hr, hml, hown, htL, hlocks⟩ := id C
  have hS : va_S F s.heap s.heap [] := va_S.rf
  generalize hQ : MQ below (Hq D (cellsC ct ad S0) F (some (.int r))) args s 0 0 F = Q
  refine lv_iload_n hx hb dX4_heightAt_0 rfl (lv_at hl 1 rfl) ?_
  refine lv_if_lt (tgt := 13) hx hb dX4_heightAt_1 (by decide) (fun c1 => ?_) (fun c1 => ?_)
  · have hf := sp1 c1 hf
    refine lv_iconst (v := 0) hx hb dX4_heightAt_13 (by decide) ?_
    cases hf
    subst hQ
    exact he_i C hP hS dX4_heightAt_14
  · have hf := sp0 c1 hf
    refine lv_iload_n hx hb dX4_heightAt_4 rfl (lv_at hl 1 rfl) ?_
    refine lv_aload_n hx hb dX4_heightAt_5 rfl (lv_at hl 0 rfl) ?_
    refine gf_X4_1 C hK hP hk_k0 mw_1_81 dX4_heightAt_6 ?_
    refine an_coef C hK hP hk_k0 dX4_heightAt_9 ?_
    refine lv_icmp_lt (tgt := 15) hx hb dX4_heightAt_10 (by decide) (fun c2 => ?_) (fun c2 => ?_)
    · have hf := sp1 c2 hf
      refine lv_aload_n hx hb dX4_heightAt_15 rfl (lv_at hl 0 rfl) ?_
      refine gf_X4_1 C hK hP hk_k0 mw_1_81 dX4_heightAt_16 ?_
      refine lv_iload_n hx hb dX4_heightAt_19 rfl (lv_at hl 1 rfl) ?_
      obtain ⟨c3, hf⟩ := spn hf
      refine al_coef C hK hP hk_k0 c3 dX4_heightAt_20 ?_
      refine lv_i2l hx hb dX4_heightAt_21 rfl ?_
      refine lv_iload_n hx hb dX4_heightAt_22 rfl (lv_at hl 2 rfl) ?_
      obtain ⟨v4, h5, hf⟩ := b1_some hf
      refine pc_S (As := [.long (Int32.toInt64 (S0.1 (62 + k0) (Int32.toNatClampNeg p0))), .int p1]) (rest := []) C (c_X8_factorCount l (Int32.toInt64 (S0.1 (62 + k0) (Int32.toNatClampNeg p0))) p1 v4 h5) hl.1 cp_X8_factorCount mw_4_189 ⟨rfl, rfl⟩ ⟨Nat.le_of_ble_eq_true rfl, Nat.le_of_ble_eq_true rfl⟩ rfl rfl (Nat.le_of_ble_eq_true rfl) dX4_heightAt_23 ⟨Nat.le_of_ble_eq_true rfl, Nat.le_of_ble_eq_true rfl⟩ ?_
      cases hf
      subst hQ
      exact he_i C hP hS dX4_heightAt_26
    · have hf := sp0 c2 hf
      refine lv_iconst (v := 0) hx hb dX4_heightAt_13 (by decide) ?_
      cases hf
      subst hQ
      exact he_i C hP hS dX4_heightAt_14
theorem cp_X4_heightAt : CPv yX4_heightAt cX4_heightAt 3 (some .int) 2 := ⟨mw_4_188, mw_1_5, mw_4_187, ms_30, by decide +kernel⟩
def rm_X4_sideEnd : Room := { frames := 3, cells := 0, slots := 0, locals := 84 }
set_option maxHeartbeats 4000000 in
set_option maxRecDepth 100000 in
theorem c_X4_sideEnd (l : Launch) (D : va_G) (ct : Nat → ClassId) (ad : Nat → Nat) (F : Nat → Prop) (hG : Gd ad 70 F) (k0 : Nat) (p0 : Int32) (p1 : Int32) (S0 : St) (hk_k0 : k0 < 8) (r : Int32) (hf : f_X4_sideEnd k0 p0 p1 S0 = some r) : MetH l yX4_sideEnd cX4_sideEnd 8 (some .int) rm_X4_sideEnd D (tysW ct) F [.ref (ad (54 + k0)), .int p0, .int p1] (some (.int r)) (cellsC ct ad S0) (cellsC ct ad S0) := by
  refine MetH.of RX4 (by decide) rfl (Nat.le_of_ble_eq_true rfl) ?_
  intro p e s m args below meth c C hK hP ls hl
  have hl : lv_has ls 8 [(0, .ref (ad (54 + k0))), (1, .int p0), (2, .int p1)] := hl
  obtain ⟨hx, hb, hr, hml, hown, htL, hlocks⟩ := id C
  have hS : va_S F s.heap s.heap [] := va_S.rf
  generalize hQ : MQ below (Hq D (cellsC ct ad S0) F (some (.int r))) args s 0 0 F = Q
  have w_15 : ∀ (x0 : Nat) (x1 : Int32) (x2 : Int32) (x3 : Int32) (x4 : Int32) (x5 : Int32), x0 < 8 → ∀ (H : Heap) (locs : List Loc) (ls : Array Slot), lv_has ls 8 [(0, .ref (ad (54 + x0))), (1, .int x1), (2, .int x2), (3, .int x3), (4, .int x4), (5, .int x5)] → va_P D vwCl (cellsC ct ad S0) H → va_S F s.heap H locs → n_X4_sideEnd_15 S0 x0 x1 x2 x3 x4 x5 = some r → W p l e rm_X4_sideEnd s m args below meth c H locs 0 0 Q (F0 m 15 ls []) := by
    have aux : ∀ (n : Nat), ∀ (x0 : Nat) (x1 : Int32) (x2 : Int32) (x3 : Int32) (x4 : Int32) (x5 : Int32), x0 < 8 → ∀ (H : Heap) (locs : List Loc) (ls : Array Slot), lv_has ls 8 [(0, .ref (ad (54 + x0))), (1, .int x1), (2, .int x2), (3, .int x3), (4, .int x4), (5, .int x5)] → va_P D vwCl (cellsC ct ad S0) H → va_S F s.heap H locs → itr (fun (q : Nat × Int32 × Int32 × Int32 × Int32 × Int32) k => s_X4_sideEnd_15  (fun (x0 : Nat) (x1 : Int32) (x2 : Int32) (x3 : Int32) (x4 : Int32) (x5 : Int32) => k (x0, x1, x2, x3, x4, x5)) S0 q.1 q.2.1 q.2.2.1 q.2.2.2.1 q.2.2.2.2.1 q.2.2.2.2.2) n (x0, x1, x2, x3, x4, x5) = some r → W p l e rm_X4_sideEnd s m args below meth c H locs 0 0 Q (F0 m 15 ls []) := by
      intro n
      induction n with
      | zero => intro x0 x1 x2 x3 x4 x5 hk_x0 H locs ls hl hP hS hf; exact (itr_z hf).elim
      | succ n ih =>
      intro x0 x1 x2 x3 x4 x5 hk_x0 H locs ls hl hP hS hf
      have hk_15 := ih
      have hf : s_X4_sideEnd_15  (fun (x0 : Nat) (x1 : Int32) (x2 : Int32) (x3 : Int32) (x4 : Int32) (x5 : Int32) => itr (fun (q : Nat × Int32 × Int32 × Int32 × Int32 × Int32) k => s_X4_sideEnd_15  (fun (x0 : Nat) (x1 : Int32) (x2 : Int32) (x3 : Int32) (x4 : Int32) (x5 : Int32) => k (x0, x1, x2, x3, x4, x5)) S0 q.1 q.2.1 q.2.2.1 q.2.2.2.1 q.2.2.2.2.1 q.2.2.2.2.2) n (x0, x1, x2, x3, x4, x5)) S0 x0 x1 x2 x3 x4 x5 = some r := hf
      refine lv_iload hx hb dX4_sideEnd_15 (lv_at hl 5 rfl) ?_
      refine lv_aload_n hx hb dX4_sideEnd_17 rfl (lv_at hl 0 rfl) ?_
      refine gf_X4_0 C hK hP hk_x0 mw_1_78 dX4_sideEnd_18 ?_
      refine lv_icmp_ge (tgt := 97) hx hb dX4_sideEnd_21 (by decide) (fun c1 => ?_) (fun c1 => ?_)
      · have hf := sp1 c1 hf
        refine lv_iload_n hx hb dX4_sideEnd_97 rfl (lv_at hl 3 rfl) ?_
        cases hf
        subst hQ
        exact he_i C hP hS dX4_sideEnd_98
      · have hf := sp0 c1 hf
        refine lv_iload hx hb dX4_sideEnd_24 (lv_at hl 5 rfl) ?_
        refine lv_aload_n hx hb dX4_sideEnd_26 rfl (lv_at hl 0 rfl) ?_
        refine gf_X4_1 C hK hP hk_x0 mw_1_81 dX4_sideEnd_27 ?_
        refine an_coef C hK hP hk_x0 dX4_sideEnd_30 ?_
        refine lv_icmp_ge (tgt := 97) hx hb dX4_sideEnd_31 (by decide) (fun c2 => ?_) (fun c2 => ?_)
        · have hf := sp1 c2 hf
          refine lv_iload_n hx hb dX4_sideEnd_97 rfl (lv_at hl 3 rfl) ?_
          cases hf
          subst hQ
          exact he_i C hP hS dX4_sideEnd_98
        · have hf := sp0 c2 hf
          refine lv_aload_n hx hb dX4_sideEnd_34 rfl (lv_at hl 0 rfl) ?_
          refine gf_X4_1 C hK hP hk_x0 mw_1_81 dX4_sideEnd_35 ?_
          refine lv_iload hx hb dX4_sideEnd_38 (lv_at hl 5 rfl) ?_
          obtain ⟨c3, hf⟩ := spn hf
          refine al_coef C hK hP hk_x0 c3 dX4_sideEnd_40 ?_
          refine lv_if_eq (tgt := 91) hx hb dX4_sideEnd_41 (by decide) (fun c4 => ?_) (fun c4 => ?_)
          · have hf := sp1 c4 hf
            refine lv_iinc (v := (x5 + 1)) (lv' := [(5, .int (x5 + 1)), (0, .ref (ad (54 + x0))), (1, .int x1), (2, .int x2), (3, .int x3), (4, .int x4)]) hx hb dX4_sideEnd_91 hl (k := 5) rfl rfl (by decide) rfl (fun ls hl => ?_)
            refine lv_goto (tgt := 15) hx hb dX4_sideEnd_94 (by decide) ?_
            exact hk_15 x0 x1 x2 x3 x4 (x5 + 1) hk_x0 _ _ _ (lv_sub hl [1, 2, 3, 4, 5, 0] rfl) hP hS hf
          · have hf := sp0 c4 hf
            refine lv_aload_n hx hb dX4_sideEnd_44 rfl (lv_at hl 0 rfl) ?_
            refine lv_iload hx hb dX4_sideEnd_45 (lv_at hl 5 rfl) ?_
            refine lv_iload_n hx hb dX4_sideEnd_47 rfl (lv_at hl 2 rfl) ?_
            obtain ⟨v6, h5, hf⟩ := b1_some hf
            refine hc_V (As := [.int x5, .int x2]) (rest := []) C hK (c_X4_heightAt l D ct ad F hG x0 x5 x2 S0 hk_x0 v6 h5) hl.1 cp_X4_heightAt mw_4_185 (rc_X4 hK hP hk_x0) hP hS ⟨rfl, rfl⟩ ⟨Nat.le_of_ble_eq_true rfl, Nat.le_of_ble_eq_true rfl⟩ rfl rfl (Nat.le_of_ble_eq_true rfl) dX4_sideEnd_48 ⟨Nat.le_of_ble_eq_true rfl, Nat.le_of_ble_eq_true rfl⟩ (fun H locs hP hS => ?_)
            refine lv_iload hx hb dX4_sideEnd_51 (lv_at hl 4 rfl) ?_
            refine lv_isub hx hb dX4_sideEnd_53 ?_
            refine lv_istore (lv' := [(6, .int (v6 - x4)), (0, .ref (ad (54 + x0))), (1, .int x1), (2, .int x2), (3, .int x3), (4, .int x4), (5, .int x5)]) hx hb dX4_sideEnd_54 hl (by decide) rfl (fun ls hl => ?_)
            refine lv_aload_n hx hb dX4_sideEnd_56 rfl (lv_at hl 1 rfl) ?_
            refine lv_iload_n hx hb dX4_sideEnd_57 rfl (lv_at hl 4 rfl) ?_
            refine lv_iload_n hx hb dX4_sideEnd_58 rfl (lv_at hl 3 rfl) ?_
            obtain ⟨v8, h7, hf⟩ := b1_some hf
            refine hc_V (As := [.int x3, .int x2]) (rest := []) C hK (c_X4_heightAt l D ct ad F hG x0 x3 x2 S0 hk_x0 v8 h7) hl.1 cp_X4_heightAt mw_4_185 (rc_X4 hK hP hk_x0) hP hS ⟨rfl, rfl⟩ ⟨Nat.le_of_ble_eq_true rfl, Nat.le_of_ble_eq_true rfl⟩ rfl rfl (Nat.le_of_ble_eq_true rfl) dX4_sideEnd_59 ⟨Nat.le_of_ble_eq_true rfl, Nat.le_of_ble_eq_true rfl⟩ (fun H locs hP hS => ?_)
            refine lv_iload hx hb dX4_sideEnd_62 (lv_at hl 5 rfl) ?_
            refine lv_isub hx hb dX4_sideEnd_64 ?_
            refine lv_istore (lv' := [(7, .int (v8 - x4)), (6, .int (v6 - x4)), (0, .ref (ad (54 + x0))), (1, .int x1), (2, .int x2), (3, .int x3), (4, .int x4), (5, .int x5)]) hx hb dX4_sideEnd_65 hl (by decide) rfl (fun ls hl => ?_)
            refine lv_iload_n hx hb dX4_sideEnd_67 rfl (lv_at hl 5 rfl) ?_
            refine lv_iload_n hx hb dX4_sideEnd_68 rfl (lv_at hl 3 rfl) ?_
            refine lv_icmp_eq (tgt := 88) hx hb dX4_sideEnd_69 (by decide) (fun c9 => ?_) (fun c9 => ?_)
            · have hf := sp1 c9 hf
              refine lv_iload hx hb dX4_sideEnd_88 (lv_at hl 7 rfl) ?_
              refine lv_istore_n (lv' := [(3, .int x5), (7, .int (v8 - x4)), (6, .int (v6 - x4)), (0, .ref (ad (54 + x0))), (1, .int x1), (2, .int x2), (4, .int x4), (5, .int x5)]) hx hb dX4_sideEnd_90 rfl hl (by decide) rfl (fun ls hl => ?_)
              refine lv_iinc (v := (x5 + 1)) (lv' := [(5, .int (x5 + 1)), (3, .int x5), (7, .int (v8 - x4)), (6, .int (v6 - x4)), (0, .ref (ad (54 + x0))), (1, .int x1), (2, .int x2), (4, .int x4)]) hx hb dX4_sideEnd_91 hl (k := 7) rfl rfl (by decide) rfl (fun ls hl => ?_)
              refine lv_goto (tgt := 15) hx hb dX4_sideEnd_94 (by decide) ?_
              exact hk_15 x0 x1 x2 x5 x4 (x5 + 1) hk_x0 _ _ _ (lv_sub hl [4, 5, 6, 1, 7, 0] rfl) hP hS hf
            · have hf := sp0 c9 hf
              refine lv_iload hx hb dX4_sideEnd_72 (lv_at hl 1 rfl) ?_
              refine lv_iload_n hx hb dX4_sideEnd_74 rfl (lv_at hl 5 rfl) ?_
              refine lv_iload_n hx hb dX4_sideEnd_75 rfl (lv_at hl 3 rfl) ?_
              refine lv_isub hx hb dX4_sideEnd_76 ?_
              refine lv_imul hx hb dX4_sideEnd_77 ?_
              refine lv_iload hx hb dX4_sideEnd_78 (lv_at hl 0 rfl) ?_
              refine lv_iload hx hb dX4_sideEnd_80 (lv_at hl 7 rfl) ?_
              refine lv_iload_n hx hb dX4_sideEnd_82 rfl (lv_at hl 3 rfl) ?_
              refine lv_isub hx hb dX4_sideEnd_83 ?_
              refine lv_imul hx hb dX4_sideEnd_84 ?_
              refine lv_icmp_gt (tgt := 91) hx hb dX4_sideEnd_85 (by decide) (fun c10 => ?_) (fun c10 => ?_)
              · have hf := sp1 c10 hf
                refine lv_iinc (v := (x5 + 1)) (lv' := [(5, .int (x5 + 1)), (7, .int (v8 - x4)), (6, .int (v6 - x4)), (0, .ref (ad (54 + x0))), (1, .int x1), (2, .int x2), (3, .int x3), (4, .int x4)]) hx hb dX4_sideEnd_91 hl (k := 7) rfl rfl (by decide) rfl (fun ls hl => ?_)
                refine lv_goto (tgt := 15) hx hb dX4_sideEnd_94 (by decide) ?_
                exact hk_15 x0 x1 x2 x3 x4 (x5 + 1) hk_x0 _ _ _ (lv_sub hl [3, 4, 5, 6, 7, 0] rfl) hP hS hf
              · have hf := sp0 c10 hf
                refine lv_iload hx hb dX4_sideEnd_88 (lv_at hl 7 rfl) ?_
                refine lv_istore_n (lv' := [(3, .int x5), (7, .int (v8 - x4)), (6, .int (v6 - x4)), (0, .ref (ad (54 + x0))), (1, .int x1), (2, .int x2), (4, .int x4), (5, .int x5)]) hx hb dX4_sideEnd_90 rfl hl (by decide) rfl (fun ls hl => ?_)
                refine lv_iinc (v := (x5 + 1)) (lv' := [(5, .int (x5 + 1)), (3, .int x5), (7, .int (v8 - x4)), (6, .int (v6 - x4)), (0, .ref (ad (54 + x0))), (1, .int x1), (2, .int x2), (4, .int x4)]) hx hb dX4_sideEnd_91 hl (k := 7) rfl rfl (by decide) rfl (fun ls hl => ?_)
                refine lv_goto (tgt := 15) hx hb dX4_sideEnd_94 (by decide) ?_
                exact hk_15 x0 x1 x2 x5 x4 (x5 + 1) hk_x0 _ _ _ (lv_sub hl [4, 5, 6, 1, 7, 0] rfl) hP hS hf
    exact aux FU
  refine lv_iload_n hx hb dX4_sideEnd_0 rfl (lv_at hl 1 rfl) ?_
  refine lv_istore_n (lv' := [(3, .int p0), (0, .ref (ad (54 + k0))), (1, .int p0), (2, .int p1)]) hx hb dX4_sideEnd_1 rfl hl (by decide) rfl (fun ls hl => ?_)
  refine lv_aload_n hx hb dX4_sideEnd_2 rfl (lv_at hl 1 rfl) ?_
  refine lv_iload_n hx hb dX4_sideEnd_3 rfl (lv_at hl 2 rfl) ?_
  refine lv_iload_n hx hb dX4_sideEnd_4 rfl (lv_at hl 3 rfl) ?_
  obtain ⟨v12, h11, hf⟩ := b1_some hf
  refine hc_V (As := [.int p0, .int p1]) (rest := []) C hK (c_X4_heightAt l D ct ad F hG k0 p0 p1 S0 hk_k0 v12 h11) hl.1 cp_X4_heightAt mw_4_185 (rc_X4 hK hP hk_k0) hP hS ⟨rfl, rfl⟩ ⟨Nat.le_of_ble_eq_true rfl, Nat.le_of_ble_eq_true rfl⟩ rfl rfl (Nat.le_of_ble_eq_true rfl) dX4_sideEnd_5 ⟨Nat.le_of_ble_eq_true rfl, Nat.le_of_ble_eq_true rfl⟩ (fun H locs hP hS => ?_)
  refine lv_istore (lv' := [(4, .int v12), (3, .int p0), (0, .ref (ad (54 + k0))), (1, .int p0), (2, .int p1)]) hx hb dX4_sideEnd_8 hl (by decide) rfl (fun ls hl => ?_)
  refine lv_iload_n hx hb dX4_sideEnd_10 rfl (lv_at hl 3 rfl) ?_
  refine lv_iconst (v := 1) hx hb dX4_sideEnd_11 (by decide) ?_
  refine lv_iadd hx hb dX4_sideEnd_12 ?_
  refine lv_istore (lv' := [(5, .int (p0 + 1)), (4, .int v12), (3, .int p0), (0, .ref (ad (54 + k0))), (1, .int p0), (2, .int p1)]) hx hb dX4_sideEnd_13 hl (by decide) rfl (fun ls hl => ?_)
  exact w_15 k0 p0 p1 p0 v12 (p0 + 1) hk_k0 _ _ _ (lv_sub hl [3, 4, 5, 2, 1, 0] rfl) hP hS hf
theorem cp_X4_sideEnd : CPv yX4_sideEnd cX4_sideEnd 8 (some .int) 2 := ⟨mw_4_184, mw_1_5, mw_4_182, mw_4_183, by decide +kernel⟩
def rm_X4_sideCount : Room := { frames := 4, cells := 0, slots := 0, locals := 115 }
set_option maxHeartbeats 4000000 in
set_option maxRecDepth 100000 in
theorem c_X4_sideCount (l : Launch) (D : va_G) (ct : Nat → ClassId) (ad : Nat → Nat) (F : Nat → Prop) (hG : Gd ad 70 F) (k0 : Nat) (p0 : Int32) (S0 : St) (hk_k0 : k0 < 8) (r : Int32) (hf : f_X4_sideCount k0 p0 S0 = some r) : MetH l yX4_sideCount cX4_sideCount 4 (some .int) rm_X4_sideCount D (tysW ct) F [.ref (ad (54 + k0)), .int p0] (some (.int r)) (cellsC ct ad S0) (cellsC ct ad S0) := by
  refine MetH.of RX4 (by decide) rfl (Nat.le_of_ble_eq_true rfl) ?_
  intro p e s m args below meth c C hK hP ls hl
  have hl : lv_has ls 4 [(0, .ref (ad (54 + k0))), (1, .int p0)] := hl
  obtain ⟨hx, hb, hr, hml, hown, htL, hlocks⟩ := id C
  have hS : va_S F s.heap s.heap [] := va_S.rf
  generalize hQ : MQ below (Hq D (cellsC ct ad S0) F (some (.int r))) args s 0 0 F = Q
  have w_4 : ∀ (x0 : Nat) (x1 : Int32) (x2 : Int32) (x3 : Int32), x0 < 8 → ∀ (H : Heap) (locs : List Loc) (ls : Array Slot), lv_has ls 4 [(0, .ref (ad (54 + x0))), (1, .int x1), (2, .int x2), (3, .int x3)] → va_P D vwCl (cellsC ct ad S0) H → va_S F s.heap H locs → n_X4_sideCount_4 S0 x0 x1 x2 x3 = some r → W p l e rm_X4_sideCount s m args below meth c H locs 0 0 Q (F0 m 4 ls []) := by
    have aux : ∀ (n : Nat), ∀ (x0 : Nat) (x1 : Int32) (x2 : Int32) (x3 : Int32), x0 < 8 → ∀ (H : Heap) (locs : List Loc) (ls : Array Slot), lv_has ls 4 [(0, .ref (ad (54 + x0))), (1, .int x1), (2, .int x2), (3, .int x3)] → va_P D vwCl (cellsC ct ad S0) H → va_S F s.heap H locs → itr (fun (q : Nat × Int32 × Int32 × Int32) k => s_X4_sideCount_4  (fun (x0 : Nat) (x1 : Int32) (x2 : Int32) (x3 : Int32) => k (x0, x1, x2, x3)) S0 q.1 q.2.1 q.2.2.1 q.2.2.2) n (x0, x1, x2, x3) = some r → W p l e rm_X4_sideCount s m args below meth c H locs 0 0 Q (F0 m 4 ls []) := by
      intro n
      induction n with
      | zero => intro x0 x1 x2 x3 hk_x0 H locs ls hl hP hS hf; exact (itr_z hf).elim
      | succ n ih =>
      intro x0 x1 x2 x3 hk_x0 H locs ls hl hP hS hf
      have hk_4 := ih
      have hf : s_X4_sideCount_4  (fun (x0 : Nat) (x1 : Int32) (x2 : Int32) (x3 : Int32) => itr (fun (q : Nat × Int32 × Int32 × Int32) k => s_X4_sideCount_4  (fun (x0 : Nat) (x1 : Int32) (x2 : Int32) (x3 : Int32) => k (x0, x1, x2, x3)) S0 q.1 q.2.1 q.2.2.1 q.2.2.2) n (x0, x1, x2, x3)) S0 x0 x1 x2 x3 = some r := hf
      refine lv_iload_n hx hb dX4_sideCount_4 rfl (lv_at hl 2 rfl) ?_
      refine lv_bipush (v := 7) hx hb dX4_sideCount_5 (by decide) ?_
      refine lv_icmp_ge (tgt := 33) hx hb dX4_sideCount_7 (by decide) (fun c1 => ?_) (fun c1 => ?_)
      · have hf := sp1 c1 hf
        refine lv_iload_n hx hb dX4_sideCount_33 rfl (lv_at hl 2 rfl) ?_
        cases hf
        subst hQ
        exact he_i C hP hS dX4_sideCount_34
      · have hf := sp0 c1 hf
        refine lv_iload_n hx hb dX4_sideCount_10 rfl (lv_at hl 3 rfl) ?_
        refine lv_aload_n hx hb dX4_sideCount_11 rfl (lv_at hl 0 rfl) ?_
        refine gf_X4_0 C hK hP hk_x0 mw_1_78 dX4_sideCount_12 ?_
        refine lv_iconst (v := 1) hx hb dX4_sideCount_15 (by decide) ?_
        refine lv_isub hx hb dX4_sideCount_16 ?_
        refine lv_icmp_ge (tgt := 33) hx hb dX4_sideCount_17 (by decide) (fun c2 => ?_) (fun c2 => ?_)
        · have hf := sp1 c2 hf
          refine lv_iload_n hx hb dX4_sideCount_33 rfl (lv_at hl 2 rfl) ?_
          cases hf
          subst hQ
          exact he_i C hP hS dX4_sideCount_34
        · have hf := sp0 c2 hf
          refine lv_aload_n hx hb dX4_sideCount_20 rfl (lv_at hl 0 rfl) ?_
          refine lv_iload_n hx hb dX4_sideCount_21 rfl (lv_at hl 3 rfl) ?_
          refine lv_iload_n hx hb dX4_sideCount_22 rfl (lv_at hl 1 rfl) ?_
          obtain ⟨v4, h3, hf⟩ := b1_some hf
          refine hc_V (As := [.int x3, .int x1]) (rest := []) C hK (c_X4_sideEnd l D ct ad F hG x0 x3 x1 S0 hk_x0 v4 h3) hl.1 cp_X4_sideEnd mw_4_181 (rc_X4 hK hP hk_x0) hP hS ⟨rfl, rfl⟩ ⟨Nat.le_of_ble_eq_true rfl, Nat.le_of_ble_eq_true rfl⟩ rfl rfl (Nat.le_of_ble_eq_true rfl) dX4_sideCount_23 ⟨Nat.le_of_ble_eq_true rfl, Nat.le_of_ble_eq_true rfl⟩ (fun H locs hP hS => ?_)
          refine lv_istore_n (lv' := [(3, .int v4), (0, .ref (ad (54 + x0))), (1, .int x1), (2, .int x2)]) hx hb dX4_sideCount_26 rfl hl (by decide) rfl (fun ls hl => ?_)
          refine lv_iinc (v := (x2 + 1)) (lv' := [(2, .int (x2 + 1)), (3, .int v4), (0, .ref (ad (54 + x0))), (1, .int x1)]) hx hb dX4_sideCount_27 hl (k := 3) rfl rfl (by decide) rfl (fun ls hl => ?_)
          refine lv_goto (tgt := 4) hx hb dX4_sideCount_30 (by decide) ?_
          exact hk_4 x0 x1 (x2 + 1) v4 hk_x0 _ _ _ (lv_sub hl [2, 3, 0, 1] rfl) hP hS hf
    exact aux FU
  refine lv_iconst (v := 0) hx hb dX4_sideCount_0 (by decide) ?_
  refine lv_istore_n (lv' := [(2, .int 0), (0, .ref (ad (54 + k0))), (1, .int p0)]) hx hb dX4_sideCount_1 rfl hl (by decide) rfl (fun ls hl => ?_)
  refine lv_iconst (v := 0) hx hb dX4_sideCount_2 (by decide) ?_
  refine lv_istore_n (lv' := [(3, .int 0), (2, .int 0), (0, .ref (ad (54 + k0))), (1, .int p0)]) hx hb dX4_sideCount_3 rfl hl (by decide) rfl (fun ls hl => ?_)
  exact w_4 k0 p0 0 0 hk_k0 _ _ _ (lv_sub hl [2, 3, 1, 0] rfl) hP hS hf
theorem cp_X4_sideCount : CPv yX4_sideCount cX4_sideCount 4 (some .int) 1 := ⟨mw_4_180, mw_1_5, mw_4_178, mw_4_179, by decide +kernel⟩
def rm_X4_sideStart : Room := { frames := 4, cells := 0, slots := 0, locals := 115 }
set_option maxHeartbeats 4000000 in
set_option maxRecDepth 100000 in
theorem c_X4_sideStart (l : Launch) (D : va_G) (ct : Nat → ClassId) (ad : Nat → Nat) (F : Nat → Prop) (hG : Gd ad 70 F) (k0 : Nat) (p0 : Int32) (p1 : Int32) (S0 : St) (hk_k0 : k0 < 8) (r : Int32) (hf : f_X4_sideStart k0 p0 p1 S0 = some r) : MetH l yX4_sideStart cX4_sideStart 5 (some .int) rm_X4_sideStart D (tysW ct) F [.ref (ad (54 + k0)), .int p0, .int p1] (some (.int r)) (cellsC ct ad S0) (cellsC ct ad S0) := by
  refine MetH.of RX4 (by decide) rfl (Nat.le_of_ble_eq_true rfl) ?_
  intro p e s m args below meth c C hK hP ls hl
  have hl : lv_has ls 5 [(0, .ref (ad (54 + k0))), (1, .int p0), (2, .int p1)] := hl
  obtain ⟨hx, hb, hr, hml, hown, htL, hlocks⟩ := id C
  have hS : va_S F s.heap s.heap [] := va_S.rf
  generalize hQ : MQ below (Hq D (cellsC ct ad S0) F (some (.int r))) args s 0 0 F = Q
  have w_5 : ∀ (x0 : Nat) (x1 : Int32) (x2 : Int32) (x3 : Int32) (x4 : Int32), x0 < 8 → ∀ (H : Heap) (locs : List Loc) (ls : Array Slot), lv_has ls 5 [(0, .ref (ad (54 + x0))), (1, .int x1), (2, .int x2), (3, .int x3), (4, .int x4)] → va_P D vwCl (cellsC ct ad S0) H → va_S F s.heap H locs → n_X4_sideStart_5 S0 x0 x1 x2 x3 x4 = some r → W p l e rm_X4_sideStart s m args below meth c H locs 0 0 Q (F0 m 5 ls []) := by
    have aux : ∀ (n : Nat), ∀ (x0 : Nat) (x1 : Int32) (x2 : Int32) (x3 : Int32) (x4 : Int32), x0 < 8 → ∀ (H : Heap) (locs : List Loc) (ls : Array Slot), lv_has ls 5 [(0, .ref (ad (54 + x0))), (1, .int x1), (2, .int x2), (3, .int x3), (4, .int x4)] → va_P D vwCl (cellsC ct ad S0) H → va_S F s.heap H locs → itr (fun (q : Nat × Int32 × Int32 × Int32 × Int32) k => s_X4_sideStart_5  (fun (x0 : Nat) (x1 : Int32) (x2 : Int32) (x3 : Int32) (x4 : Int32) => k (x0, x1, x2, x3, x4)) S0 q.1 q.2.1 q.2.2.1 q.2.2.2.1 q.2.2.2.2) n (x0, x1, x2, x3, x4) = some r → W p l e rm_X4_sideStart s m args below meth c H locs 0 0 Q (F0 m 5 ls []) := by
      intro n
      induction n with
      | zero => intro x0 x1 x2 x3 x4 hk_x0 H locs ls hl hP hS hf; exact (itr_z hf).elim
      | succ n ih =>
      intro x0 x1 x2 x3 x4 hk_x0 H locs ls hl hP hS hf
      have hk_5 := ih
      have hf : s_X4_sideStart_5  (fun (x0 : Nat) (x1 : Int32) (x2 : Int32) (x3 : Int32) (x4 : Int32) => itr (fun (q : Nat × Int32 × Int32 × Int32 × Int32) k => s_X4_sideStart_5  (fun (x0 : Nat) (x1 : Int32) (x2 : Int32) (x3 : Int32) (x4 : Int32) => k (x0, x1, x2, x3, x4)) S0 q.1 q.2.1 q.2.2.1 q.2.2.2.1 q.2.2.2.2) n (x0, x1, x2, x3, x4)) S0 x0 x1 x2 x3 x4 = some r := hf
      refine lv_iload hx hb dX4_sideStart_5 (lv_at hl 4 rfl) ?_
      refine lv_iload_n hx hb dX4_sideStart_7 rfl (lv_at hl 1 rfl) ?_
      refine lv_icmp_ge (tgt := 31) hx hb dX4_sideStart_8 (by decide) (fun c1 => ?_) (fun c1 => ?_)
      · have hf := sp1 c1 hf
        refine lv_iload_n hx hb dX4_sideStart_31 rfl (lv_at hl 3 rfl) ?_
        cases hf
        subst hQ
        exact he_i C hP hS dX4_sideStart_32
      · have hf := sp0 c1 hf
        refine lv_iload hx hb dX4_sideStart_11 (lv_at hl 4 rfl) ?_
        refine lv_bipush (v := 7) hx hb dX4_sideStart_13 (by decide) ?_
        refine lv_icmp_ge (tgt := 31) hx hb dX4_sideStart_15 (by decide) (fun c2 => ?_) (fun c2 => ?_)
        · have hf := sp1 c2 hf
          refine lv_iload_n hx hb dX4_sideStart_31 rfl (lv_at hl 3 rfl) ?_
          cases hf
          subst hQ
          exact he_i C hP hS dX4_sideStart_32
        · have hf := sp0 c2 hf
          refine lv_aload_n hx hb dX4_sideStart_18 rfl (lv_at hl 0 rfl) ?_
          refine lv_iload_n hx hb dX4_sideStart_19 rfl (lv_at hl 3 rfl) ?_
          refine lv_iload_n hx hb dX4_sideStart_20 rfl (lv_at hl 2 rfl) ?_
          obtain ⟨v4, h3, hf⟩ := b1_some hf
          refine hc_V (As := [.int x3, .int x2]) (rest := []) C hK (c_X4_sideEnd l D ct ad F hG x0 x3 x2 S0 hk_x0 v4 h3) hl.1 cp_X4_sideEnd mw_4_181 (rc_X4 hK hP hk_x0) hP hS ⟨rfl, rfl⟩ ⟨Nat.le_of_ble_eq_true rfl, Nat.le_of_ble_eq_true rfl⟩ rfl rfl (Nat.le_of_ble_eq_true rfl) dX4_sideStart_21 ⟨Nat.le_of_ble_eq_true rfl, Nat.le_of_ble_eq_true rfl⟩ (fun H locs hP hS => ?_)
          refine lv_istore_n (lv' := [(3, .int v4), (0, .ref (ad (54 + x0))), (1, .int x1), (2, .int x2), (4, .int x4)]) hx hb dX4_sideStart_24 rfl hl (by decide) rfl (fun ls hl => ?_)
          refine lv_iinc (v := (x4 + 1)) (lv' := [(4, .int (x4 + 1)), (3, .int v4), (0, .ref (ad (54 + x0))), (1, .int x1), (2, .int x2)]) hx hb dX4_sideStart_25 hl (k := 4) rfl rfl (by decide) rfl (fun ls hl => ?_)
          refine lv_goto (tgt := 5) hx hb dX4_sideStart_28 (by decide) ?_
          exact hk_5 x0 x1 x2 v4 (x4 + 1) hk_x0 _ _ _ (lv_sub hl [2, 3, 4, 1, 0] rfl) hP hS hf
    exact aux FU
  refine lv_iconst (v := 0) hx hb dX4_sideStart_0 (by decide) ?_
  refine lv_istore_n (lv' := [(3, .int 0), (0, .ref (ad (54 + k0))), (1, .int p0), (2, .int p1)]) hx hb dX4_sideStart_1 rfl hl (by decide) rfl (fun ls hl => ?_)
  refine lv_iconst (v := 0) hx hb dX4_sideStart_2 (by decide) ?_
  refine lv_istore (lv' := [(4, .int 0), (3, .int 0), (0, .ref (ad (54 + k0))), (1, .int p0), (2, .int p1)]) hx hb dX4_sideStart_3 hl (by decide) rfl (fun ls hl => ?_)
  exact w_5 k0 p0 p1 0 0 hk_k0 _ _ _ (lv_sub hl [2, 3, 4, 1, 0] rfl) hP hS hf
theorem cp_X4_sideStart : CPv yX4_sideStart cX4_sideStart 5 (some .int) 2 := ⟨mw_4_205, mw_1_5, mw_4_203, mw_4_204, by decide +kernel⟩
def rm_X4_steepness : Room := { frames := 4, cells := 0, slots := 0, locals := 115 }
set_option maxHeartbeats 4000000 in
set_option maxRecDepth 100000 in
theorem c_X4_steepness (l : Launch) (D : va_G) (ct : Nat → ClassId) (ad : Nat → Nat) (F : Nat → Prop) (hG : Gd ad 70 F) (k0 : Nat) (p0 : Int32) (p1 : Int32) (S0 : St) (hk_k0 : k0 < 8) (r : Int32) (hf : f_X4_steepness k0 p0 p1 S0 = some r) : MetH l yX4_steepness cX4_steepness 7 (some .int) rm_X4_steepness D (tysW ct) F [.ref (ad (54 + k0)), .int p0, .int p1] (some (.int r)) (cellsC ct ad S0) (cellsC ct ad S0) := by
  refine MetH.of RX4 (by decide) rfl (Nat.le_of_ble_eq_true rfl) ?_
  intro p e s m args below meth c C hK hP ls hl
  have hl : lv_has ls 7 [(0, .ref (ad (54 + k0))), (1, .int p0), (2, .int p1)] := hl
  obtain ⟨hx, hb, hr, hml, hown, htL, hlocks⟩ := id C
  have hS : va_S F s.heap s.heap [] := va_S.rf
  generalize hQ : MQ below (Hq D (cellsC ct ad S0) F (some (.int r))) args s 0 0 F = Q
  refine lv_aload_n hx hb dX4_steepness_0 rfl (lv_at hl 0 rfl) ?_
  refine lv_iload_n hx hb dX4_steepness_1 rfl (lv_at hl 1 rfl) ?_
  refine lv_iload_n hx hb dX4_steepness_2 rfl (lv_at hl 2 rfl) ?_
  obtain ⟨v2, h1, hf⟩ := b1_some hf
  refine hc_V (As := [.int p0, .int p1]) (rest := []) C hK (c_X4_sideEnd l D ct ad F hG k0 p0 p1 S0 hk_k0 v2 h1) hl.1 cp_X4_sideEnd mw_4_181 (rc_X4 hK hP hk_k0) hP hS ⟨rfl, rfl⟩ ⟨Nat.le_of_ble_eq_true rfl, Nat.le_of_ble_eq_true rfl⟩ rfl rfl (Nat.le_of_ble_eq_true rfl) dX4_steepness_3 ⟨Nat.le_of_ble_eq_true rfl, Nat.le_of_ble_eq_true rfl⟩ (fun H locs hP hS => ?_)
  refine lv_istore_n (lv' := [(3, .int v2), (0, .ref (ad (54 + k0))), (1, .int p0), (2, .int p1)]) hx hb dX4_steepness_6 rfl hl (by decide) rfl (fun ls hl => ?_)
  refine lv_aload_n hx hb dX4_steepness_7 rfl (lv_at hl 1 rfl) ?_
  refine lv_iload_n hx hb dX4_steepness_8 rfl (lv_at hl 0 rfl) ?_
  refine lv_iload_n hx hb dX4_steepness_9 rfl (lv_at hl 3 rfl) ?_
  obtain ⟨v4, h3, hf⟩ := b1_some hf
  refine hc_V (As := [.int v2, .int p1]) (rest := []) C hK (c_X4_heightAt l D ct ad F hG k0 v2 p1 S0 hk_k0 v4 h3) hl.1 cp_X4_heightAt mw_4_185 (rc_X4 hK hP hk_k0) hP hS ⟨rfl, rfl⟩ ⟨Nat.le_of_ble_eq_true rfl, Nat.le_of_ble_eq_true rfl⟩ rfl rfl (Nat.le_of_ble_eq_true rfl) dX4_steepness_10 ⟨Nat.le_of_ble_eq_true rfl, Nat.le_of_ble_eq_true rfl⟩ (fun H locs hP hS => ?_)
  refine lv_aload_n hx hb dX4_steepness_13 rfl (lv_at hl 1 rfl) ?_
  refine lv_iload_n hx hb dX4_steepness_14 rfl (lv_at hl 2 rfl) ?_
  refine lv_iload_n hx hb dX4_steepness_15 rfl (lv_at hl 3 rfl) ?_
  obtain ⟨v6, h5, hf⟩ := b1_some hf
  refine hc_V (As := [.int p0, .int p1]) (rest := [.int v4]) C hK (c_X4_heightAt l D ct ad F hG k0 p0 p1 S0 hk_k0 v6 h5) hl.1 cp_X4_heightAt mw_4_185 (rc_X4 hK hP hk_k0) hP hS ⟨rfl, rfl⟩ ⟨Nat.le_of_ble_eq_true rfl, Nat.le_of_ble_eq_true rfl⟩ rfl rfl (Nat.le_of_ble_eq_true rfl) dX4_steepness_16 ⟨Nat.le_of_ble_eq_true rfl, Nat.le_of_ble_eq_true rfl⟩ (fun H locs hP hS => ?_)
  refine lv_isub hx hb dX4_steepness_19 ?_
  refine lv_istore (lv' := [(4, .int (v4 - v6)), (3, .int v2), (0, .ref (ad (54 + k0))), (1, .int p0), (2, .int p1)]) hx hb dX4_steepness_20 hl (by decide) rfl (fun ls hl => ?_)
  refine lv_iload hx hb dX4_steepness_22 (lv_at hl 0 rfl) ?_
  refine lv_i2l hx hb dX4_steepness_24 rfl ?_
  refine lv_iload_n hx hb dX4_steepness_25 rfl (lv_at hl 1 rfl) ?_
  refine lv_iload_n hx hb dX4_steepness_26 rfl (lv_at hl 3 rfl) ?_
  refine lv_isub hx hb dX4_steepness_27 ?_
  refine lv_i2l hx hb dX4_steepness_28 rfl ?_
  obtain ⟨v7, h8, hf⟩ := b1_some hf
  refine pc_S (As := [.long (Int32.toInt64 (v4 - v6)), .long (Int32.toInt64 (v2 - p0))]) (rest := []) C (c_X8_greatestCommon l (Int32.toInt64 (v4 - v6)) (Int32.toInt64 (v2 - p0)) v7 h8) hl.1 cp_X8_greatestCommon mw_4_218 ⟨rfl, rfl⟩ ⟨Nat.le_of_ble_eq_true rfl, Nat.le_of_ble_eq_true rfl⟩ rfl rfl (Nat.le_of_ble_eq_true rfl) dX4_steepness_29 ⟨Nat.le_of_ble_eq_true rfl, Nat.le_of_ble_eq_true rfl⟩ ?_
  refine lv_lstore (lv' := [(5, .long v7), (4, .int (v4 - v6)), (3, .int v2), (0, .ref (ad (54 + k0))), (1, .int p0), (2, .int p1)]) hx hb dX4_steepness_32 hl (by decide) rfl (fun ls hl => ?_)
  refine lv_ldc2 (v := 100) hx hb hown (htL _ mw_4_219) dX4_steepness_34 ?_
  refine lv_iload hx hb dX4_steepness_37 (lv_at hl 1 rfl) ?_
  refine lv_i2l hx hb dX4_steepness_39 rfl ?_
  refine lv_lload hx hb dX4_steepness_40 (lv_at hl 0 rfl) ?_
  obtain ⟨v9, h10, hf⟩ := b1_some hf
  refine pc_S (As := [.long (Int32.toInt64 (v4 - v6)), .long v7]) (rest := [.long (100)]) C (c_X8_part l (Int32.toInt64 (v4 - v6)) v7 v9 h10) hl.1 cp_X8_part mw_4_220 ⟨rfl, rfl⟩ ⟨Nat.le_of_ble_eq_true rfl, Nat.le_of_ble_eq_true rfl⟩ rfl rfl (Nat.le_of_ble_eq_true rfl) dX4_steepness_42 ⟨Nat.le_of_ble_eq_true rfl, Nat.le_of_ble_eq_true rfl⟩ ?_
  refine lv_lmul hx hb dX4_steepness_45 ?_
  refine lv_iload_n hx hb dX4_steepness_46 rfl (lv_at hl 2 rfl) ?_
  refine lv_iload_n hx hb dX4_steepness_47 rfl (lv_at hl 4 rfl) ?_
  refine lv_isub hx hb dX4_steepness_48 ?_
  refine lv_i2l hx hb dX4_steepness_49 rfl ?_
  refine lv_lload hx hb dX4_steepness_50 (lv_at hl 0 rfl) ?_
  obtain ⟨v11, h12, hf⟩ := b1_some hf
  refine pc_S (As := [.long (Int32.toInt64 (v2 - p0)), .long v7]) (rest := [.long ((100) * v9)]) C (c_X8_part l (Int32.toInt64 (v2 - p0)) v7 v11 h12) hl.1 cp_X8_part mw_4_220 ⟨rfl, rfl⟩ ⟨Nat.le_of_ble_eq_true rfl, Nat.le_of_ble_eq_true rfl⟩ rfl rfl (Nat.le_of_ble_eq_true rfl) dX4_steepness_52 ⟨Nat.le_of_ble_eq_true rfl, Nat.le_of_ble_eq_true rfl⟩ ?_
  refine lv_ladd hx hb dX4_steepness_55 ?_
  refine lv_l2i hx hb dX4_steepness_56 rfl ?_
  cases hf
  subst hQ
  exact he_i C hP hS dX4_steepness_57
theorem cp_X4_steepness : CPv yX4_steepness cX4_steepness 7 (some .int) 2 := ⟨mw_4_217, mw_1_5, mw_4_215, mw_4_216, by decide +kernel⟩
def rm_X4_worthAt : Room := { frames := 1, cells := 0, slots := 0, locals := 40 }
set_option maxHeartbeats 4000000 in
set_option maxRecDepth 100000 in
theorem c_X4_worthAt (l : Launch) (D : va_G) (ct : Nat → ClassId) (ad : Nat → Nat) (F : Nat → Prop) (hG : Gd ad 70 F) (k0 : Nat) (p0 : Int64) (p1 : Int64) (p2 : Int32) (S0 : St) (hk_k0 : k0 < 8) (r : Int64) (hf : f_X4_worthAt k0 p0 p1 p2 S0 = some r) : MetH l yX4_worthAt cX4_worthAt 9 (some .long) rm_X4_worthAt D (tysW ct) F [.ref (ad (54 + k0)), .long p0, .long p1, .int p2] (some (.long r)) (cellsC ct ad S0) (cellsC ct ad S0) := by
  refine MetH.of RX4 (by decide) rfl (Nat.le_of_ble_eq_true rfl) ?_
  intro p e s m args below meth c C hK hP ls hl
  have hl : lv_has ls 9 [(0, .ref (ad (54 + k0))), (1, .long p0), (3, .long p1), (5, .int p2)] := hl
  obtain ⟨hx, hb, hr, hml, hown, htL, hlocks⟩ := id C
  have hS : va_S F s.heap s.heap [] := va_S.rf
  generalize hQ : MQ below (Hq D (cellsC ct ad S0) F (some (.long r))) args s 0 0 F = Q
  have w_17 : ∀ (x0 : Nat) (x1 : Int64) (x3 : Int64) (x6 : Int64) (x8 : Int32), x0 < 8 → ∀ (H : Heap) (locs : List Loc) (ls : Array Slot), lv_has ls 9 [(0, .ref (ad (54 + x0))), (1, .long x1), (3, .long x3), (6, .long x6), (8, .int x8)] → va_P D vwCl (cellsC ct ad S0) H → va_S F s.heap H locs → n_X4_worthAt_17 S0 x0 x1 x3 x6 x8 = some r → W p l e rm_X4_worthAt s m args below meth c H locs 0 0 Q (F0 m 17 ls []) := by
    have aux : ∀ (n : Nat), ∀ (x0 : Nat) (x1 : Int64) (x3 : Int64) (x6 : Int64) (x8 : Int32), x0 < 8 → ∀ (H : Heap) (locs : List Loc) (ls : Array Slot), lv_has ls 9 [(0, .ref (ad (54 + x0))), (1, .long x1), (3, .long x3), (6, .long x6), (8, .int x8)] → va_P D vwCl (cellsC ct ad S0) H → va_S F s.heap H locs → itr (fun (q : Nat × Int64 × Int64 × Int64 × Int32) k => s_X4_worthAt_17  (fun (x0 : Nat) (x1 : Int64) (x3 : Int64) (x6 : Int64) (x8 : Int32) => k (x0, x1, x3, x6, x8)) S0 q.1 q.2.1 q.2.2.1 q.2.2.2.1 q.2.2.2.2) n (x0, x1, x3, x6, x8) = some r → W p l e rm_X4_worthAt s m args below meth c H locs 0 0 Q (F0 m 17 ls []) := by
      intro n
      induction n with
      | zero => intro x0 x1 x3 x6 x8 hk_x0 H locs ls hl hP hS hf; exact (itr_z hf).elim
      | succ n ih =>
      intro x0 x1 x3 x6 x8 hk_x0 H locs ls hl hP hS hf
      have hk_17 := ih
      have hf : s_X4_worthAt_17  (fun (x0 : Nat) (x1 : Int64) (x3 : Int64) (x6 : Int64) (x8 : Int32) => itr (fun (q : Nat × Int64 × Int64 × Int64 × Int32) k => s_X4_worthAt_17  (fun (x0 : Nat) (x1 : Int64) (x3 : Int64) (x6 : Int64) (x8 : Int32) => k (x0, x1, x3, x6, x8)) S0 q.1 q.2.1 q.2.2.1 q.2.2.2.1 q.2.2.2.2) n (x0, x1, x3, x6, x8)) S0 x0 x1 x3 x6 x8 = some r := hf
      refine lv_iload hx hb dX4_worthAt_17 (lv_at hl 4 rfl) ?_
      refine lv_if_lt (tgt := 47) hx hb dX4_worthAt_19 (by decide) (fun c1 => ?_) (fun c1 => ?_)
      · have hf := sp1 c1 hf
        refine lv_lload hx hb dX4_worthAt_47 (lv_at hl 3 rfl) ?_
        cases hf
        subst hQ
        exact he_l C hP hS dX4_worthAt_49
      · have hf := sp0 c1 hf
        refine lv_lload hx hb dX4_worthAt_22 (lv_at hl 3 rfl) ?_
        refine lv_lload_n hx hb dX4_worthAt_24 rfl (lv_at hl 1 rfl) ?_
        refine lv_lmul hx hb dX4_worthAt_25 ?_
        refine lv_aload_n hx hb dX4_worthAt_26 rfl (lv_at hl 0 rfl) ?_
        refine gf_X4_1 C hK hP hk_x0 mw_1_81 dX4_worthAt_27 ?_
        refine lv_iload hx hb dX4_worthAt_30 (lv_at hl 4 rfl) ?_
        obtain ⟨c2, hf⟩ := spn hf
        refine al_coef C hK hP hk_x0 c2 dX4_worthAt_32 ?_
        refine lv_i2l hx hb dX4_worthAt_33 rfl ?_
        refine lv_ladd hx hb dX4_worthAt_34 ?_
        refine lv_lload_n hx hb dX4_worthAt_35 rfl (lv_at hl 2 rfl) ?_
        obtain ⟨v3, h4, hf⟩ := b1_some hf
        refine pc_S (As := [.long ((x6 * x1) + (Int32.toInt64 (S0.1 (62 + x0) (Int32.toNatClampNeg x8)))), .long x3]) (rest := []) C (c_X8_rest l ((x6 * x1) + (Int32.toInt64 (S0.1 (62 + x0) (Int32.toNatClampNeg x8)))) x3 v3 h4) hl.1 cp_X8_rest mw_2_117 ⟨rfl, rfl⟩ ⟨Nat.le_of_ble_eq_true rfl, Nat.le_of_ble_eq_true rfl⟩ rfl rfl (Nat.le_of_ble_eq_true rfl) dX4_worthAt_36 ⟨Nat.le_of_ble_eq_true rfl, Nat.le_of_ble_eq_true rfl⟩ ?_
        refine lv_lstore (lv' := [(6, .long v3), (0, .ref (ad (54 + x0))), (1, .long x1), (3, .long x3), (8, .int x8)]) hx hb dX4_worthAt_39 hl (by decide) rfl (fun ls hl => ?_)
        refine lv_iinc (v := (x8 + (-1))) (lv' := [(8, .int (x8 + (-1))), (6, .long v3), (0, .ref (ad (54 + x0))), (1, .long x1), (3, .long x3)]) hx hb dX4_worthAt_41 hl (k := 4) rfl rfl (by decide) rfl (fun ls hl => ?_)
        refine lv_goto (tgt := 17) hx hb dX4_worthAt_44 (by decide) ?_
        exact hk_17 x0 x1 x3 v3 (x8 + (-1)) hk_x0 _ _ _ (lv_sub hl [2, 3, 4, 1, 0] rfl) hP hS hf
    exact aux FU
  refine lv_lconst (v := 0) hx hb dX4_worthAt_0 (by decide) ?_
  refine lv_lstore (lv' := [(6, .long 0), (0, .ref (ad (54 + k0))), (1, .long p0), (3, .long p1), (5, .int p2)]) hx hb dX4_worthAt_1 hl (by decide) rfl (fun ls hl => ?_)
  refine lv_iload hx hb dX4_worthAt_3 (lv_at hl 4 rfl) ?_
  refine lv_aload_n hx hb dX4_worthAt_5 rfl (lv_at hl 1 rfl) ?_
  refine gf_X4_1 C hK hP hk_k0 mw_1_81 dX4_worthAt_6 ?_
  refine an_coef C hK hP hk_k0 dX4_worthAt_9 ?_
  refine va_mmin (ls := _) hx hb (hml.trans hl.1.symm) hown (htL _ mw_2_116) (htL _ mw_2_60) (htL _ mw_1_17) (htL _ mw_2_61) (Nat.le_of_ble_eq_true rfl) (Nat.le_of_ble_eq_true rfl) (Nat.le_of_ble_eq_true rfl) (Nat.le_of_ble_eq_true rfl) dX4_worthAt_10 ?_
  refine lv_iconst (v := 1) hx hb dX4_worthAt_13 (by decide) ?_
  refine lv_isub hx hb dX4_worthAt_14 ?_
  refine lv_istore (lv' := [(8, .int ((mnI p2 (7 : Int32)) - 1)), (6, .long 0), (0, .ref (ad (54 + k0))), (1, .long p0), (3, .long p1), (5, .int p2)]) hx hb dX4_worthAt_15 hl (by decide) rfl (fun ls hl => ?_)
  exact w_17 k0 p0 p1 0 ((mnI p2 (7 : Int32)) - 1) hk_k0 _ _ _ (lv_sub hl [2, 3, 4, 1, 0] rfl) hP hS hf
theorem cp_X4_worthAt : CPv yX4_worthAt cX4_worthAt 9 (some .long) 3 := ⟨mw_2_115, mw_1_5, mw_2_113, mw_2_114, by decide +kernel⟩
def rm_X4_riseAt : Room := { frames := 1, cells := 0, slots := 0, locals := 40 }
set_option maxHeartbeats 4000000 in
set_option maxRecDepth 100000 in
theorem c_X4_riseAt (l : Launch) (D : va_G) (ct : Nat → ClassId) (ad : Nat → Nat) (F : Nat → Prop) (hG : Gd ad 70 F) (k0 : Nat) (p0 : Int64) (p1 : Int64) (p2 : Int32) (S0 : St) (hk_k0 : k0 < 8) (r : Int64) (hf : f_X4_riseAt k0 p0 p1 p2 S0 = some r) : MetH l yX4_riseAt cX4_riseAt 9 (some .long) rm_X4_riseAt D (tysW ct) F [.ref (ad (54 + k0)), .long p0, .long p1, .int p2] (some (.long r)) (cellsC ct ad S0) (cellsC ct ad S0) := by
  refine MetH.of RX4 (by decide) rfl (Nat.le_of_ble_eq_true rfl) ?_
  intro p e s m args below meth c C hK hP ls hl
  have hl : lv_has ls 9 [(0, .ref (ad (54 + k0))), (1, .long p0), (3, .long p1), (5, .int p2)] := hl
  obtain ⟨hx, hb, hr, hml, hown, htL, hlocks⟩ := id C
  have hS : va_S F s.heap s.heap [] := va_S.rf
  generalize hQ : MQ below (Hq D (cellsC ct ad S0) F (some (.long r))) args s 0 0 F = Q
  have w_17 : ∀ (x0 : Nat) (x1 : Int64) (x3 : Int64) (x6 : Int64) (x8 : Int32), x0 < 8 → ∀ (H : Heap) (locs : List Loc) (ls : Array Slot), lv_has ls 9 [(0, .ref (ad (54 + x0))), (1, .long x1), (3, .long x3), (6, .long x6), (8, .int x8)] → va_P D vwCl (cellsC ct ad S0) H → va_S F s.heap H locs → n_X4_riseAt_17 S0 x0 x1 x3 x6 x8 = some r → W p l e rm_X4_riseAt s m args below meth c H locs 0 0 Q (F0 m 17 ls []) := by
    have aux : ∀ (n : Nat), ∀ (x0 : Nat) (x1 : Int64) (x3 : Int64) (x6 : Int64) (x8 : Int32), x0 < 8 → ∀ (H : Heap) (locs : List Loc) (ls : Array Slot), lv_has ls 9 [(0, .ref (ad (54 + x0))), (1, .long x1), (3, .long x3), (6, .long x6), (8, .int x8)] → va_P D vwCl (cellsC ct ad S0) H → va_S F s.heap H locs → itr (fun (q : Nat × Int64 × Int64 × Int64 × Int32) k => s_X4_riseAt_17  (fun (x0 : Nat) (x1 : Int64) (x3 : Int64) (x6 : Int64) (x8 : Int32) => k (x0, x1, x3, x6, x8)) S0 q.1 q.2.1 q.2.2.1 q.2.2.2.1 q.2.2.2.2) n (x0, x1, x3, x6, x8) = some r → W p l e rm_X4_riseAt s m args below meth c H locs 0 0 Q (F0 m 17 ls []) := by
      intro n
      induction n with
      | zero => intro x0 x1 x3 x6 x8 hk_x0 H locs ls hl hP hS hf; exact (itr_z hf).elim
      | succ n ih =>
      intro x0 x1 x3 x6 x8 hk_x0 H locs ls hl hP hS hf
      have hk_17 := ih
      have hf : s_X4_riseAt_17  (fun (x0 : Nat) (x1 : Int64) (x3 : Int64) (x6 : Int64) (x8 : Int32) => itr (fun (q : Nat × Int64 × Int64 × Int64 × Int32) k => s_X4_riseAt_17  (fun (x0 : Nat) (x1 : Int64) (x3 : Int64) (x6 : Int64) (x8 : Int32) => k (x0, x1, x3, x6, x8)) S0 q.1 q.2.1 q.2.2.1 q.2.2.2.1 q.2.2.2.2) n (x0, x1, x3, x6, x8)) S0 x0 x1 x3 x6 x8 = some r := hf
      refine lv_iload hx hb dX4_riseAt_17 (lv_at hl 4 rfl) ?_
      refine lv_iconst (v := 1) hx hb dX4_riseAt_19 (by decide) ?_
      refine lv_icmp_lt (tgt := 52) hx hb dX4_riseAt_20 (by decide) (fun c1 => ?_) (fun c1 => ?_)
      · have hf := sp1 c1 hf
        refine lv_lload hx hb dX4_riseAt_52 (lv_at hl 3 rfl) ?_
        cases hf
        subst hQ
        exact he_l C hP hS dX4_riseAt_54
      · have hf := sp0 c1 hf
        refine lv_lload hx hb dX4_riseAt_23 (lv_at hl 3 rfl) ?_
        refine lv_lload_n hx hb dX4_riseAt_25 rfl (lv_at hl 1 rfl) ?_
        refine lv_lmul hx hb dX4_riseAt_26 ?_
        refine lv_iload hx hb dX4_riseAt_27 (lv_at hl 4 rfl) ?_
        refine lv_i2l hx hb dX4_riseAt_29 rfl ?_
        refine lv_aload_n hx hb dX4_riseAt_30 rfl (lv_at hl 0 rfl) ?_
        refine gf_X4_1 C hK hP hk_x0 mw_1_81 dX4_riseAt_31 ?_
        refine lv_iload hx hb dX4_riseAt_34 (lv_at hl 4 rfl) ?_
        obtain ⟨c2, hf⟩ := spn hf
        refine al_coef C hK hP hk_x0 c2 dX4_riseAt_36 ?_
        refine lv_i2l hx hb dX4_riseAt_37 rfl ?_
        refine lv_lmul hx hb dX4_riseAt_38 ?_
        refine lv_ladd hx hb dX4_riseAt_39 ?_
        refine lv_lload_n hx hb dX4_riseAt_40 rfl (lv_at hl 2 rfl) ?_
        obtain ⟨v3, h4, hf⟩ := b1_some hf
        refine pc_S (As := [.long ((x6 * x1) + ((Int32.toInt64 x8) * (Int32.toInt64 (S0.1 (62 + x0) (Int32.toNatClampNeg x8))))), .long x3]) (rest := []) C (c_X8_rest l ((x6 * x1) + ((Int32.toInt64 x8) * (Int32.toInt64 (S0.1 (62 + x0) (Int32.toNatClampNeg x8))))) x3 v3 h4) hl.1 cp_X8_rest mw_2_117 ⟨rfl, rfl⟩ ⟨Nat.le_of_ble_eq_true rfl, Nat.le_of_ble_eq_true rfl⟩ rfl rfl (Nat.le_of_ble_eq_true rfl) dX4_riseAt_41 ⟨Nat.le_of_ble_eq_true rfl, Nat.le_of_ble_eq_true rfl⟩ ?_
        refine lv_lstore (lv' := [(6, .long v3), (0, .ref (ad (54 + x0))), (1, .long x1), (3, .long x3), (8, .int x8)]) hx hb dX4_riseAt_44 hl (by decide) rfl (fun ls hl => ?_)
        refine lv_iinc (v := (x8 + (-1))) (lv' := [(8, .int (x8 + (-1))), (6, .long v3), (0, .ref (ad (54 + x0))), (1, .long x1), (3, .long x3)]) hx hb dX4_riseAt_46 hl (k := 4) rfl rfl (by decide) rfl (fun ls hl => ?_)
        refine lv_goto (tgt := 17) hx hb dX4_riseAt_49 (by decide) ?_
        exact hk_17 x0 x1 x3 v3 (x8 + (-1)) hk_x0 _ _ _ (lv_sub hl [2, 3, 4, 1, 0] rfl) hP hS hf
    exact aux FU
  refine lv_lconst (v := 0) hx hb dX4_riseAt_0 (by decide) ?_
  refine lv_lstore (lv' := [(6, .long 0), (0, .ref (ad (54 + k0))), (1, .long p0), (3, .long p1), (5, .int p2)]) hx hb dX4_riseAt_1 hl (by decide) rfl (fun ls hl => ?_)
  refine lv_iload hx hb dX4_riseAt_3 (lv_at hl 4 rfl) ?_
  refine lv_aload_n hx hb dX4_riseAt_5 rfl (lv_at hl 1 rfl) ?_
  refine gf_X4_1 C hK hP hk_k0 mw_1_81 dX4_riseAt_6 ?_
  refine an_coef C hK hP hk_k0 dX4_riseAt_9 ?_
  refine va_mmin (ls := _) hx hb (hml.trans hl.1.symm) hown (htL _ mw_2_116) (htL _ mw_2_60) (htL _ mw_1_17) (htL _ mw_2_61) (Nat.le_of_ble_eq_true rfl) (Nat.le_of_ble_eq_true rfl) (Nat.le_of_ble_eq_true rfl) (Nat.le_of_ble_eq_true rfl) dX4_riseAt_10 ?_
  refine lv_iconst (v := 1) hx hb dX4_riseAt_13 (by decide) ?_
  refine lv_isub hx hb dX4_riseAt_14 ?_
  refine lv_istore (lv' := [(8, .int ((mnI p2 (7 : Int32)) - 1)), (6, .long 0), (0, .ref (ad (54 + k0))), (1, .long p0), (3, .long p1), (5, .int p2)]) hx hb dX4_riseAt_15 hl (by decide) rfl (fun ls hl => ?_)
  exact w_17 k0 p0 p1 0 ((mnI p2 (7 : Int32)) - 1) hk_k0 _ _ _ (lv_sub hl [2, 3, 4, 1, 0] rfl) hP hS hf
theorem cp_X4_riseAt : CPv yX4_riseAt cX4_riseAt 9 (some .long) 3 := ⟨mw_3_85, mw_1_5, mw_3_83, mw_3_84, by decide +kernel⟩
def rm_X4_rootSign : Room := { frames := 2, cells := 0, slots := 0, locals := 72 }
set_option maxHeartbeats 4000000 in
set_option maxRecDepth 100000 in
theorem c_X4_rootSign (l : Launch) (D : va_G) (ct : Nat → ClassId) (ad : Nat → Nat) (F : Nat → Prop) (hG : Gd ad 70 F) (k0 : Nat) (p0 : Int32) (p1 : Int32) (S0 : St) (hk_k0 : k0 < 8) (r : Int32) (hf : f_X4_rootSign k0 p0 p1 S0 = some r) : MetH l yX4_rootSign cX4_rootSign 3 (some .char) rm_X4_rootSign D (tysW ct) F [.ref (ad (54 + k0)), .int p0, .int p1] (some (.int r)) (cellsC ct ad S0) (cellsC ct ad S0) := by
  refine MetH.of RX4 (by decide) rfl (Nat.le_of_ble_eq_true rfl) ?_
  intro p e s m args below meth c C hK hP ls hl
  have hl : lv_has ls 3 [(0, .ref (ad (54 + k0))), (1, .int p0), (2, .int p1)] := hl
  obtain ⟨hx, hb, hr, hml, hown, htL, hlocks⟩ := id C
  have hS : va_S F s.heap s.heap [] := va_S.rf
  generalize hQ : MQ below (Hq D (cellsC ct ad S0) F (some (.int r))) args s 0 0 F = Q
  refine lv_aload_n hx hb dX4_rootSign_0 rfl (lv_at hl 0 rfl) ?_
  refine lv_iload_n hx hb dX4_rootSign_1 rfl (lv_at hl 1 rfl) ?_
  refine lv_i2l hx hb dX4_rootSign_2 rfl ?_
  refine lv_iload_n hx hb dX4_rootSign_3 rfl (lv_at hl 2 rfl) ?_
  refine lv_i2l hx hb dX4_rootSign_4 rfl ?_
  refine lv_aload_n hx hb dX4_rootSign_5 rfl (lv_at hl 0 rfl) ?_
  refine gf_X4_0 C hK hP hk_k0 mw_1_78 dX4_rootSign_6 ?_
  obtain ⟨v2, h1, hf⟩ := b1_some hf
  refine hc_V (As := [.long (Int32.toInt64 p0), .long (Int32.toInt64 p1), .int (S0.1 (54 + k0) 0)]) (rest := []) C hK (c_X4_worthAt l D ct ad F hG k0 (Int32.toInt64 p0) (Int32.toInt64 p1) (S0.1 (54 + k0) 0) S0 hk_k0 v2 h1) hl.1 cp_X4_worthAt mw_4_232 (rc_X4 hK hP hk_k0) hP hS ⟨rfl, rfl⟩ ⟨Nat.le_of_ble_eq_true rfl, Nat.le_of_ble_eq_true rfl⟩ rfl rfl (Nat.le_of_ble_eq_true rfl) dX4_rootSign_9 ⟨Nat.le_of_ble_eq_true rfl, Nat.le_of_ble_eq_true rfl⟩ (fun H locs hP hS => ?_)
  refine lv_lconst (v := 0) hx hb dX4_rootSign_12 (by decide) ?_
  refine W.lcmp hx hb dX4_rootSign_13 ?_
  refine lv_if_eq (tgt := 20) hx hb dX4_rootSign_14 (by decide) (fun c3 => ?_) (fun c3 => ?_)
  · have hf := sp1 c3 hf
    refine lv_aload_n hx hb dX4_rootSign_20 rfl (lv_at hl 0 rfl) ?_
    refine lv_iload_n hx hb dX4_rootSign_21 rfl (lv_at hl 1 rfl) ?_
    refine lv_i2l hx hb dX4_rootSign_22 rfl ?_
    refine lv_iload_n hx hb dX4_rootSign_23 rfl (lv_at hl 2 rfl) ?_
    refine lv_i2l hx hb dX4_rootSign_24 rfl ?_
    refine lv_aload_n hx hb dX4_rootSign_25 rfl (lv_at hl 0 rfl) ?_
    refine gf_X4_0 C hK hP hk_k0 mw_1_78 dX4_rootSign_26 ?_
    obtain ⟨v5, h4, hf⟩ := b1_some hf
    refine hc_V (As := [.long (Int32.toInt64 p0), .long (Int32.toInt64 p1), .int (S0.1 (54 + k0) 0)]) (rest := []) C hK (c_X4_riseAt l D ct ad F hG k0 (Int32.toInt64 p0) (Int32.toInt64 p1) (S0.1 (54 + k0) 0) S0 hk_k0 v5 h4) hl.1 cp_X4_riseAt mw_4_233 (rc_X4 hK hP hk_k0) hP hS ⟨rfl, rfl⟩ ⟨Nat.le_of_ble_eq_true rfl, Nat.le_of_ble_eq_true rfl⟩ rfl rfl (Nat.le_of_ble_eq_true rfl) dX4_rootSign_29 ⟨Nat.le_of_ble_eq_true rfl, Nat.le_of_ble_eq_true rfl⟩ (fun H locs hP hS => ?_)
    refine lv_lconst (v := 0) hx hb dX4_rootSign_32 (by decide) ?_
    refine W.lcmp hx hb dX4_rootSign_33 ?_
    refine lv_if_eq (tgt := 42) hx hb dX4_rootSign_34 (by decide) (fun c6 => ?_) (fun c6 => ?_)
    · have hf := sp1 c6 hf
      refine lv_bipush (v := 109) hx hb dX4_rootSign_42 (by decide) ?_
      cases hf
      subst hQ
      exact he_z C (by decide) hP hS dX4_rootSign_44
    · have hf := sp0 c6 hf
      refine lv_bipush (v := 115) hx hb dX4_rootSign_37 (by decide) ?_
      refine lv_goto (tgt := 44) hx hb dX4_rootSign_39 (by decide) ?_
      cases hf
      subst hQ
      exact he_z C (by decide) hP hS dX4_rootSign_44
  · have hf := sp0 c3 hf
    refine lv_bipush (v := 45) hx hb dX4_rootSign_17 (by decide) ?_
    cases hf
    subst hQ
    exact he_z C (by decide) hP hS dX4_rootSign_19
theorem cp_X4_rootSign : CPv yX4_rootSign cX4_rootSign 3 (some .char) 2 := ⟨mw_4_231, mw_1_5, mw_4_229, mw_4_230, by decide +kernel⟩
def rm_X4_rootCount : Room := { frames := 2, cells := 0, slots := 0, locals := 72 }
set_option maxHeartbeats 4000000 in
set_option maxRecDepth 100000 in
theorem c_X4_rootCount (l : Launch) (D : va_G) (ct : Nat → ClassId) (ad : Nat → Nat) (F : Nat → Prop) (hG : Gd ad 70 F) (k0 : Nat) (p0 : Int32) (S0 : St) (hk_k0 : k0 < 8) (r : Int32) (hf : f_X4_rootCount k0 p0 S0 = some r) : MetH l yX4_rootCount cX4_rootCount 4 (some .int) rm_X4_rootCount D (tysW ct) F [.ref (ad (54 + k0)), .int p0] (some (.int r)) (cellsC ct ad S0) (cellsC ct ad S0) := by
  refine MetH.of RX4 (by decide) rfl (Nat.le_of_ble_eq_true rfl) ?_
  intro p e s m args below meth c C hK hP ls hl
  have hl : lv_has ls 4 [(0, .ref (ad (54 + k0))), (1, .int p0)] := hl
  obtain ⟨hx, hb, hr, hml, hown, htL, hlocks⟩ := id C
  have hS : va_S F s.heap s.heap [] := va_S.rf
  generalize hQ : MQ below (Hq D (cellsC ct ad S0) F (some (.int r))) args s 0 0 F = Q
  have w_4 : ∀ (x0 : Nat) (x1 : Int32) (x2 : Int32) (x3 : Int32), x0 < 8 → ∀ (H : Heap) (locs : List Loc) (ls : Array Slot), lv_has ls 4 [(0, .ref (ad (54 + x0))), (1, .int x1), (2, .int x2), (3, .int x3)] → va_P D vwCl (cellsC ct ad S0) H → va_S F s.heap H locs → n_X4_rootCount_4 S0 x0 x1 x2 x3 = some r → W p l e rm_X4_rootCount s m args below meth c H locs 0 0 Q (F0 m 4 ls []) := by
    have aux : ∀ (n : Nat), ∀ (x0 : Nat) (x1 : Int32) (x2 : Int32) (x3 : Int32), x0 < 8 → ∀ (H : Heap) (locs : List Loc) (ls : Array Slot), lv_has ls 4 [(0, .ref (ad (54 + x0))), (1, .int x1), (2, .int x2), (3, .int x3)] → va_P D vwCl (cellsC ct ad S0) H → va_S F s.heap H locs → itr (fun (q : Nat × Int32 × Int32 × Int32) k => s_X4_rootCount_4  (fun (x0 : Nat) (x1 : Int32) (x2 : Int32) (x3 : Int32) => k (x0, x1, x2, x3)) S0 q.1 q.2.1 q.2.2.1 q.2.2.2) n (x0, x1, x2, x3) = some r → W p l e rm_X4_rootCount s m args below meth c H locs 0 0 Q (F0 m 4 ls []) := by
      intro n
      induction n with
      | zero => intro x0 x1 x2 x3 hk_x0 H locs ls hl hP hS hf; exact (itr_z hf).elim
      | succ n ih =>
      intro x0 x1 x2 x3 hk_x0 H locs ls hl hP hS hf
      have hk_4 := ih
      have hf : s_X4_rootCount_4  (fun (x0 : Nat) (x1 : Int32) (x2 : Int32) (x3 : Int32) => itr (fun (q : Nat × Int32 × Int32 × Int32) k => s_X4_rootCount_4  (fun (x0 : Nat) (x1 : Int32) (x2 : Int32) (x3 : Int32) => k (x0, x1, x2, x3)) S0 q.1 q.2.1 q.2.2.1 q.2.2.2) n (x0, x1, x2, x3)) S0 x0 x1 x2 x3 = some r := hf
      refine lv_iload_n hx hb dX4_rootCount_4 rfl (lv_at hl 3 rfl) ?_
      refine lv_iload_n hx hb dX4_rootCount_5 rfl (lv_at hl 1 rfl) ?_
      refine lv_icmp_ge (tgt := 35) hx hb dX4_rootCount_6 (by decide) (fun c1 => ?_) (fun c1 => ?_)
      · have hf := sp1 c1 hf
        refine lv_iload_n hx hb dX4_rootCount_35 rfl (lv_at hl 2 rfl) ?_
        cases hf
        subst hQ
        exact he_i C hP hS dX4_rootCount_36
      · have hf := sp0 c1 hf
        refine lv_aload_n hx hb dX4_rootCount_9 rfl (lv_at hl 0 rfl) ?_
        refine lv_iload_n hx hb dX4_rootCount_10 rfl (lv_at hl 3 rfl) ?_
        refine lv_i2l hx hb dX4_rootCount_11 rfl ?_
        refine lv_iload_n hx hb dX4_rootCount_12 rfl (lv_at hl 1 rfl) ?_
        refine lv_i2l hx hb dX4_rootCount_13 rfl ?_
        refine lv_aload_n hx hb dX4_rootCount_14 rfl (lv_at hl 0 rfl) ?_
        refine gf_X4_0 C hK hP hk_x0 mw_1_78 dX4_rootCount_15 ?_
        obtain ⟨v3, h2, hf⟩ := b1_some hf
        refine hc_V (As := [.long (Int32.toInt64 x3), .long (Int32.toInt64 x1), .int (S0.1 (54 + x0) 0)]) (rest := []) C hK (c_X4_worthAt l D ct ad F hG x0 (Int32.toInt64 x3) (Int32.toInt64 x1) (S0.1 (54 + x0) 0) S0 hk_x0 v3 h2) hl.1 cp_X4_worthAt mw_4_232 (rc_X4 hK hP hk_x0) hP hS ⟨rfl, rfl⟩ ⟨Nat.le_of_ble_eq_true rfl, Nat.le_of_ble_eq_true rfl⟩ rfl rfl (Nat.le_of_ble_eq_true rfl) dX4_rootCount_18 ⟨Nat.le_of_ble_eq_true rfl, Nat.le_of_ble_eq_true rfl⟩ (fun H locs hP hS => ?_)
        refine lv_lconst (v := 0) hx hb dX4_rootCount_21 (by decide) ?_
        refine W.lcmp hx hb dX4_rootCount_22 ?_
        refine lv_if_ne (tgt := 29) hx hb dX4_rootCount_23 (by decide) (fun c4 => ?_) (fun c4 => ?_)
        · have hf := sp0 c4 hf
          refine lv_iinc (v := (x3 + 1)) (lv' := [(3, .int (x3 + 1)), (0, .ref (ad (54 + x0))), (1, .int x1), (2, .int x2)]) hx hb dX4_rootCount_29 hl (k := 3) rfl rfl (by decide) rfl (fun ls hl => ?_)
          refine lv_goto (tgt := 4) hx hb dX4_rootCount_32 (by decide) ?_
          exact hk_4 x0 x1 x2 (x3 + 1) hk_x0 _ _ _ (lv_sub hl [1, 2, 3, 0] rfl) hP hS hf
        · have hf := sp1 c4 hf
          refine lv_iinc (v := (x2 + 1)) (lv' := [(2, .int (x2 + 1)), (0, .ref (ad (54 + x0))), (1, .int x1), (3, .int x3)]) hx hb dX4_rootCount_26 hl (k := 2) rfl rfl (by decide) rfl (fun ls hl => ?_)
          refine lv_iinc (v := (x3 + 1)) (lv' := [(3, .int (x3 + 1)), (2, .int (x2 + 1)), (0, .ref (ad (54 + x0))), (1, .int x1)]) hx hb dX4_rootCount_29 hl (k := 3) rfl rfl (by decide) rfl (fun ls hl => ?_)
          refine lv_goto (tgt := 4) hx hb dX4_rootCount_32 (by decide) ?_
          exact hk_4 x0 x1 (x2 + 1) (x3 + 1) hk_x0 _ _ _ (lv_sub hl [2, 3, 1, 0] rfl) hP hS hf
    exact aux FU
  refine lv_iconst (v := 0) hx hb dX4_rootCount_0 (by decide) ?_
  refine lv_istore_n (lv' := [(2, .int 0), (0, .ref (ad (54 + k0))), (1, .int p0)]) hx hb dX4_rootCount_1 rfl hl (by decide) rfl (fun ls hl => ?_)
  refine lv_iconst (v := 0) hx hb dX4_rootCount_2 (by decide) ?_
  refine lv_istore_n (lv' := [(3, .int 0), (2, .int 0), (0, .ref (ad (54 + k0))), (1, .int p0)]) hx hb dX4_rootCount_3 rfl hl (by decide) rfl (fun ls hl => ?_)
  exact w_4 k0 p0 0 0 hk_k0 _ _ _ (lv_sub hl [2, 3, 1, 0] rfl) hP hS hf
theorem cp_X4_rootCount : CPv yX4_rootCount cX4_rootCount 4 (some .int) 1 := ⟨mw_5_19, mw_1_5, mw_5_17, mw_5_18, by decide +kernel⟩
def rm_X5_isFull : Room := { frames := 0, cells := 0, slots := 0, locals := 0 }
set_option maxHeartbeats 4000000 in
set_option maxRecDepth 100000 in
theorem c_X5_isFull (l : Launch) (D : va_G) (ct : Nat → ClassId) (ad : Nat → Nat) (F : Nat → Prop) (hG : Gd ad 70 F)  (S0 : St)  (r : Int32) (hf : f_X5_isFull  S0 = some r) : MetH l yX5_isFull cX5_isFull 1 (some .boolean) rm_X5_isFull D (tysW ct) F [.ref (ad 1)] (some (.int r)) (cellsC ct ad S0) (cellsC ct ad S0) := by
  refine MetH.of RX5 (by decide) rfl (Nat.le_of_ble_eq_true rfl) ?_
  intro p e s m args below meth c C hK hP ls hl
  have hl : lv_has ls 1 [(0, .ref (ad 1))] := hl
  obtain ⟨hx, hb, hr, hml, hown, htL, hlocks⟩ := id C
  have hS : va_S F s.heap s.heap [] := va_S.rf
  generalize hQ : MQ below (Hq D (cellsC ct ad S0) F (some (.int r))) args s 0 0 F = Q
  refine lv_aload_n hx hb dX5_isFull_0 rfl (lv_at hl 0 rfl) ?_
  refine gf_X5_3 C hK hP mw_1_175 dX5_isFull_1 ?_
  refine lv_aload_n hx hb dX5_isFull_4 rfl (lv_at hl 0 rfl) ?_
  refine gf_X5_4 C hK hP mw_1_177 dX5_isFull_5 ?_
  refine an_C7 C hK hP dX5_isFull_8 ?_
  refine lv_icmp_lt (tgt := 16) hx hb dX5_isFull_9 (by decide) (fun c1 => ?_) (fun c1 => ?_)
  · have hf := sp1 c1 hf
    refine lv_iconst (v := 0) hx hb dX5_isFull_16 (by decide) ?_
    cases hf
    subst hQ
    exact he_z C (by decide) hP hS dX5_isFull_17
  · have hf := sp0 c1 hf
    refine lv_iconst (v := 1) hx hb dX5_isFull_12 (by decide) ?_
    refine lv_goto (tgt := 17) hx hb dX5_isFull_13 (by decide) ?_
    cases hf
    subst hQ
    exact he_z C (by decide) hP hS dX5_isFull_17
theorem cp_X5_isFull : CPv yX5_isFull cX5_isFull 1 (some .boolean) 0 := ⟨mw_3_17, mw_1_2, mw_3_15, mw_3_16, by decide +kernel⟩
def rm_X5_numbered : Room := { frames := 0, cells := 0, slots := 0, locals := 0 }
set_option maxHeartbeats 4000000 in
set_option maxRecDepth 100000 in
theorem c_X5_numbered (l : Launch) (D : va_G) (ct : Nat → ClassId) (ad : Nat → Nat) (F : Nat → Prop) (hG : Gd ad 70 F) (p0 : Int32) (S0 : St)  (r : Nat) (hf : f_X5_numbered p0 S0 = some r) : MetH l yX5_numbered cX5_numbered 2 (some (.object "Henselhall$Num")) rm_X5_numbered D (tysW ct) F [.ref (ad 1), .int p0] (some (.ref (ad (12 + r)))) (cellsC ct ad S0) (cellsC ct ad S0) := by
  refine MetH.of RX5 (by decide) rfl (Nat.le_of_ble_eq_true rfl) ?_
  intro p e s m args below meth c C hK hP ls hl
  have hl : lv_has ls 2 [(0, .ref (ad 1)), (1, .int p0)] := hl
  obtain ⟨hx, hb, hr, hml, hown, htL, hlocks⟩ := id C
  have hS : va_S F s.heap s.heap [] := va_S.rf
  generalize hQ : MQ below (Hq D (cellsC ct ad S0) F (some (.ref (ad (12 + r))))) args s 0 0 F = Q
  refine lv_iload_n hx hb dX5_numbered_0 rfl (lv_at hl 1 rfl) ?_
  refine lv_if_lt (tgt := 22) hx hb dX5_numbered_1 (by decide) (fun c1 => ?_) (fun c1 => ?_)
  · have hf := sp1 c1 hf
    refine lv_aload_n hx hb dX5_numbered_22 rfl (lv_at hl 0 rfl) ?_
    refine gf_X5_5 C hK hP mw_1_178 dX5_numbered_23 ?_
    cases hf
    subst hQ
    exact he_a C hP hS dX5_numbered_26
  · have hf := sp0 c1 hf
    refine lv_iload_n hx hb dX5_numbered_4 rfl (lv_at hl 1 rfl) ?_
    refine lv_aload_n hx hb dX5_numbered_5 rfl (lv_at hl 0 rfl) ?_
    refine gf_X5_4 C hK hP mw_1_177 dX5_numbered_6 ?_
    refine an_C7 C hK hP dX5_numbered_9 ?_
    refine lv_icmp_ge (tgt := 22) hx hb dX5_numbered_10 (by decide) (fun c2 => ?_) (fun c2 => ?_)
    · have hf := sp1 c2 hf
      refine lv_aload_n hx hb dX5_numbered_22 rfl (lv_at hl 0 rfl) ?_
      refine gf_X5_5 C hK hP mw_1_178 dX5_numbered_23 ?_
      cases hf
      subst hQ
      exact he_a C hP hS dX5_numbered_26
    · have hf := sp0 c2 hf
      refine lv_aload_n hx hb dX5_numbered_13 rfl (lv_at hl 0 rfl) ?_
      refine gf_X5_4 C hK hP mw_1_177 dX5_numbered_14 ?_
      refine lv_iload_n hx hb dX5_numbered_17 rfl (lv_at hl 1 rfl) ?_
      obtain ⟨c3, hf⟩ := spn hf
      refine al_C7 C hK hP c3 dX5_numbered_18 ?_
      refine lv_goto (tgt := 26) hx hb dX5_numbered_19 (by decide) ?_
      cases hf
      subst hQ
      exact he_a C hP hS dX5_numbered_26
theorem cp_X5_numbered : CPv yX5_numbered cX5_numbered 2 (some (.object "Henselhall$Num")) 1 := ⟨mw_2_42, mw_1_2, mw_2_40, mw_2_41, by decide +kernel⟩
def rm_X5_settleNothing : Room := { frames := 0, cells := 0, slots := 0, locals := 0 }
set_option maxHeartbeats 4000000 in
set_option maxRecDepth 100000 in
theorem c_X5_settleNothing (l : Launch) (D : va_G) (ct : Nat → ClassId) (ad : Nat → Nat) (F : Nat → Prop) (hG : Gd ad 70 F) (p0 : Nat) (p1 : Int32) (S0 : St) (hk_p0 : p0 < 42) (S' : St) (hf : f_X5_settleNothing p0 p1 S0 = some S') : MetH l yX5_settleNothing cX5_settleNothing 3 none rm_X5_settleNothing D (tysW ct) F [.ref (ad 1), .ref (ad (12 + p0)), .int p1] none (cellsC ct ad S0) (cellsC ct ad S') := by
  refine MetH.of RX5 (by decide) rfl (Nat.le_of_ble_eq_true rfl) ?_
  intro p e s m args below meth c C hK hP ls hl
  have hl : lv_has ls 3 [(0, .ref (ad 1)), (1, .ref (ad (12 + p0))), (2, .int p1)] := hl
  obtain ⟨hx, hb, hr, hml, hown, htL, hlocks⟩ := id C
  have hS : va_S F s.heap s.heap [] := va_S.rf
  generalize hQ : MQ below (Hq D (cellsC ct ad S') F none) args s 0 0 F = Q
  refine lv_aload_n hx hb dX5_settleNothing_0 rfl (lv_at hl 1 rfl) ?_
  refine lv_iload_n hx hb dX5_settleNothing_1 rfl (lv_at hl 2 rfl) ?_
  refine pf_X3_8 C hK hP hG hS hk_p0 mw_1_131 dX5_settleNothing_2 (fun H locs hP hS => ?_)
  refine lv_aload_n hx hb dX5_settleNothing_5 rfl (lv_at hl 1 rfl) ?_
  refine lv_iload_n hx hb dX5_settleNothing_6 rfl (lv_at hl 2 rfl) ?_
  refine pf_X3_9 C hK hP hG hS hk_p0 mw_1_133 dX5_settleNothing_7 (fun H locs hP hS => ?_)
  refine lv_aload_n hx hb dX5_settleNothing_10 rfl (lv_at hl 1 rfl) ?_
  refine lv_lconst (v := 0) hx hb dX5_settleNothing_11 (by decide) ?_
  refine pf_X3_10 C hK hP hG hS hk_p0 mw_1_136 dX5_settleNothing_12 (fun H locs hP hS => ?_)
  cases hf
  subst hQ
  exact he_v C hP hS dX5_settleNothing_15
theorem cp_X5_settleNothing : CPv yX5_settleNothing cX5_settleNothing 3 none 2 := ⟨mw_2_86, mw_1_2, mw_2_85, ms_8, by decide +kernel⟩
def rm_X5_settle : Room := { frames := 2, cells := 0, slots := 0, locals := 66 }
set_option maxHeartbeats 4000000 in
set_option maxRecDepth 100000 in
theorem c_X5_settle (l : Launch) (D : va_G) (ct : Nat → ClassId) (ad : Nat → Nat) (F : Nat → Prop) (hG : Gd ad 70 F) (p0 : Nat) (p1 : Int32) (p2 : Int32) (p3 : Int64) (S0 : St) (hk_p0 : p0 < 42) (S' : St) (hf : f_X5_settle p0 p1 p2 p3 S0 = some S') : MetH l yX5_settle cX5_settle 10 none rm_X5_settle D (tysW ct) F [.ref (ad 1), .ref (ad (12 + p0)), .int p1, .int p2, .long p3] none (cellsC ct ad S0) (cellsC ct ad S') := by
  refine MetH.of RX5 (by decide) rfl (Nat.le_of_ble_eq_true rfl) ?_
  intro p e s m args below meth c C hK hP ls hl
  have hl : lv_has ls 10 [(0, .ref (ad 1)), (1, .ref (ad (12 + p0))), (2, .int p1), (3, .int p2), (4, .long p3)] := hl
  obtain ⟨hx, hb, hr, hml, hown, htL, hlocks⟩ := id C
  have hS : va_S F s.heap s.heap [] := va_S.rf
  generalize hQ : MQ below (Hq D (cellsC ct ad S') F none) args s 0 0 F = Q
  have w_47 : ∀ (x1 : Nat) (x2 : Int32) (x6 : Int32) (x7 : Int32) (y0 : Int64) (S : St), x1 < 42 → ∀ (H : Heap) (locs : List Loc) (ls : Array Slot), lv_has ls 10 [(0, .ref (ad 1)), (1, .ref (ad (12 + x1))), (2, .int x2), (6, .int x6), (7, .int x7)] → va_P D vwCl (cellsC ct ad S) H → va_S F s.heap H locs → n_X5_settle_47 x1 x2 x6 x7 y0 S = some S' → W p l e rm_X5_settle s m args below meth c H locs 0 0 Q (F0 m 47 ls [.long y0]) := by
    intro  x1 x2 x6 x7 y0 S hk_x1 H locs ls hl hP hS hf
    refine lv_lstore (lv' := [(8, .long y0), (0, .ref (ad 1)), (1, .ref (ad (12 + x1))), (2, .int x2), (6, .int x6), (7, .int x7)]) hx hb dX5_settle_47 hl (by decide) rfl (fun ls hl => ?_)
    refine lv_lload hx hb dX5_settle_49 (lv_at hl 0 rfl) ?_
    refine lv_lconst (v := 0) hx hb dX5_settle_51 (by decide) ?_
    refine W.lcmp hx hb dX5_settle_52 ?_
    refine lv_if_ne (tgt := 64) hx hb dX5_settle_53 (by decide) (fun c1 => ?_) (fun c1 => ?_)
    · have hf := sp0 c1 hf
      refine lv_aload_n hx hb dX5_settle_64 rfl (lv_at hl 2 rfl) ?_
      refine lv_iload_n hx hb dX5_settle_65 rfl (lv_at hl 3 rfl) ?_
      refine lv_lload hx hb dX5_settle_66 (lv_at hl 0 rfl) ?_
      refine lv_aload_n hx hb dX5_settle_68 rfl (lv_at hl 1 rfl) ?_
      refine gf_X5_0 C hK hP mw_1_169 dX5_settle_69 ?_
      refine gf_X2_0 C hK hP mw_1_52 dX5_settle_72 ?_
      obtain ⟨v2, h3, hf⟩ := b1_some hf
      refine pc_S (As := [.long y0, .int (S.1 3 0)]) (rest := [.int x2, .ref (ad (12 + x1))]) C (c_X8_factorCount l y0 (S.1 3 0) v2 h3) hl.1 cp_X8_factorCount mw_2_87 ⟨rfl, rfl⟩ ⟨Nat.le_of_ble_eq_true rfl, Nat.le_of_ble_eq_true rfl⟩ rfl rfl (Nat.le_of_ble_eq_true rfl) dX5_settle_75 ⟨Nat.le_of_ble_eq_true rfl, Nat.le_of_ble_eq_true rfl⟩ ?_
      refine lv_iadd hx hb dX5_settle_78 ?_
      refine pf_X3_8 C hK hP hG hS hk_x1 mw_1_131 dX5_settle_79 (fun H locs hP hS => ?_)
      refine lv_aload_n hx hb dX5_settle_82 rfl (lv_at hl 2 rfl) ?_
      refine lv_iload_n hx hb dX5_settle_83 rfl (lv_at hl 3 rfl) ?_
      refine lv_iload hx hb dX5_settle_84 (lv_at hl 5 rfl) ?_
      refine lv_iadd hx hb dX5_settle_86 ?_
      refine pf_X3_9 C hK hP hG hS hk_x1 mw_1_133 dX5_settle_87 (fun H locs hP hS => ?_)
      refine lv_aload_n hx hb dX5_settle_90 rfl (lv_at hl 2 rfl) ?_
      refine lv_lload hx hb dX5_settle_91 (lv_at hl 0 rfl) ?_
      refine lv_aload_n hx hb dX5_settle_93 rfl (lv_at hl 1 rfl) ?_
      refine gf_X5_0 C hK hP mw_1_169 dX5_settle_94 ?_
      refine gf_X2_0 C hK hP mw_1_52 dX5_settle_97 ?_
      obtain ⟨v4, h5, hf⟩ := b1_some hf
      refine pc_S (As := [.long y0, .int ((wI (wI S (12 + x1) 8 (x2 + v2)) (12 + x1) 9 (x2 + x7)).1 3 0)]) (rest := [.ref (ad (12 + x1))]) C (c_X8_withoutFactors l y0 ((wI (wI S (12 + x1) 8 (x2 + v2)) (12 + x1) 9 (x2 + x7)).1 3 0) v4 h5) hl.1 cp_X8_withoutFactors mw_2_93 ⟨rfl, rfl⟩ ⟨Nat.le_of_ble_eq_true rfl, Nat.le_of_ble_eq_true rfl⟩ rfl rfl (Nat.le_of_ble_eq_true rfl) dX5_settle_100 ⟨Nat.le_of_ble_eq_true rfl, Nat.le_of_ble_eq_true rfl⟩ ?_
      refine pf_X3_10 C hK hP hG hS hk_x1 mw_1_136 dX5_settle_103 (fun H locs hP hS => ?_)
      cases hf
      subst hQ
      exact he_v C hP hS dX5_settle_106
    · have hf := sp1 c1 hf
      refine lv_aload_n hx hb dX5_settle_56 rfl (lv_at hl 1 rfl) ?_
      refine lv_aload_n hx hb dX5_settle_57 rfl (lv_at hl 2 rfl) ?_
      refine lv_iload hx hb dX5_settle_58 (lv_at hl 4 rfl) ?_
      obtain ⟨S7, h6, hf⟩ := b1_some hf
      refine hc_V (As := [.ref (ad (12 + x1)), .int x6]) (rest := []) C hK (c_X5_settleNothing l D ct ad F hG x1 x6 S hk_x1 S7 h6) hl.1 cp_X5_settleNothing mw_2_83 (rc_X5 hK hP) hP hS ⟨rfl, rfl⟩ ⟨Nat.le_of_ble_eq_true rfl, Nat.le_of_ble_eq_true rfl⟩ rfl rfl (Nat.le_of_ble_eq_true rfl) dX5_settle_60 ⟨Nat.le_of_ble_eq_true rfl, Nat.le_of_ble_eq_true rfl⟩ (fun H locs hP hS => ?_)
      cases hf
      subst hQ
      exact he_v C hP hS dX5_settle_63
  refine lv_iload_n hx hb dX5_settle_0 rfl (lv_at hl 3 rfl) ?_
  refine lv_bipush (v := 60) hx hb dX5_settle_1 (by decide) ?_
  refine va_mmin (ls := _) hx hb (hml.trans hl.1.symm) hown (htL _ mw_2_59) (htL _ mw_2_60) (htL _ mw_1_17) (htL _ mw_2_61) (Nat.le_of_ble_eq_true rfl) (Nat.le_of_ble_eq_true rfl) (Nat.le_of_ble_eq_true rfl) (Nat.le_of_ble_eq_true rfl) dX5_settle_3 ?_
  refine lv_istore (lv' := [(6, .int (mnI p2 60)), (0, .ref (ad 1)), (1, .ref (ad (12 + p0))), (2, .int p1), (3, .int p2), (4, .long p3)]) hx hb dX5_settle_6 hl (by decide) rfl (fun ls hl => ?_)
  refine lv_iload hx hb dX5_settle_8 (lv_at hl 0 rfl) ?_
  refine lv_iload_n hx hb dX5_settle_10 rfl (lv_at hl 3 rfl) ?_
  refine lv_isub hx hb dX5_settle_11 ?_
  refine lv_aload_n hx hb dX5_settle_12 rfl (lv_at hl 1 rfl) ?_
  refine gf_X5_0 C hK hP mw_1_169 dX5_settle_13 ?_
  refine gf_X2_1 C hK hP mw_1_55 dX5_settle_16 ?_
  refine va_mmin (ls := _) hx hb (hml.trans hl.1.symm) hown (htL _ mw_2_59) (htL _ mw_2_60) (htL _ mw_1_17) (htL _ mw_2_61) (Nat.le_of_ble_eq_true rfl) (Nat.le_of_ble_eq_true rfl) (Nat.le_of_ble_eq_true rfl) (Nat.le_of_ble_eq_true rfl) dX5_settle_19 ?_
  refine lv_istore (lv' := [(7, .int (mnI ((mnI p2 60) - p1) (S0.1 3 1))), (6, .int (mnI p2 60)), (0, .ref (ad 1)), (1, .ref (ad (12 + p0))), (2, .int p1), (3, .int p2), (4, .long p3)]) hx hb dX5_settle_22 hl (by decide) rfl (fun ls hl => ?_)
  refine lv_iload hx hb dX5_settle_24 (lv_at hl 0 rfl) ?_
  refine lv_if_le (tgt := 46) hx hb dX5_settle_26 (by decide) (fun c8 => ?_) (fun c8 => ?_)
  · have hf := sp1 c8 hf
    refine lv_lconst (v := 0) hx hb dX5_settle_46 (by decide) ?_
    exact w_47 p0 p1 (mnI p2 60) (mnI ((mnI p2 60) - p1) (S0.1 3 1)) 0 S0 hk_p0 _ _ _ (lv_sub hl [2, 3, 4, 1, 0] rfl) hP hS hf
  · have hf := sp0 c8 hf
    refine lv_lload hx hb dX5_settle_29 (lv_at hl 6 rfl) ?_
    refine lv_aload_n hx hb dX5_settle_31 rfl (lv_at hl 2 rfl) ?_
    refine gf_X5_0 C hK hP mw_1_169 dX5_settle_32 ?_
    refine lv_iload hx hb dX5_settle_35 (lv_at hl 0 rfl) ?_
    obtain ⟨v10, h9, hf⟩ := b1_some hf
    refine hc_V (As := [.int (mnI ((mnI p2 60) - p1) (S0.1 3 1))]) (rest := [.long p3]) C hK (c_X2_power l D ct ad F hG (mnI ((mnI p2 60) - p1) (S0.1 3 1)) S0  v10 h9) hl.1 cp_X2_power mw_2_66 (rc_X2 hK hP) hP hS ⟨rfl, rfl⟩ ⟨Nat.le_of_ble_eq_true rfl, Nat.le_of_ble_eq_true rfl⟩ rfl rfl (Nat.le_of_ble_eq_true rfl) dX5_settle_37 ⟨Nat.le_of_ble_eq_true rfl, Nat.le_of_ble_eq_true rfl⟩ (fun H locs hP hS => ?_)
    obtain ⟨v11, h12, hf⟩ := b1_some hf
    refine pc_S (As := [.long p3, .long v10]) (rest := []) C (c_X8_rest l p3 v10 v11 h12) hl.1 cp_X8_rest mw_2_82 ⟨rfl, rfl⟩ ⟨Nat.le_of_ble_eq_true rfl, Nat.le_of_ble_eq_true rfl⟩ rfl rfl (Nat.le_of_ble_eq_true rfl) dX5_settle_40 ⟨Nat.le_of_ble_eq_true rfl, Nat.le_of_ble_eq_true rfl⟩ ?_
    refine lv_goto (tgt := 47) hx hb dX5_settle_43 (by decide) ?_
    exact w_47 p0 p1 (mnI p2 60) (mnI ((mnI p2 60) - p1) (S0.1 3 1)) v11 S0 hk_p0 _ _ _ (lv_sub hl [2, 3, 4, 1, 0] rfl) hP hS hf
theorem cp_X5_settle : CPv yX5_settle cX5_settle 10 none 4 := ⟨mw_2_81, mw_1_2, mw_2_80, ms_7, by decide +kernel⟩
def rm_X5_findFraction : Room := { frames := 3, cells := 0, slots := 0, locals := 99 }
set_option maxHeartbeats 4000000 in
set_option maxRecDepth 100000 in
theorem c_X5_findFraction (l : Launch) (D : va_G) (ct : Nat → ClassId) (ad : Nat → Nat) (F : Nat → Prop) (hG : Gd ad 70 F) (p0 : Nat) (S0 : St) (hk_p0 : p0 < 42) (S' : St) (hf : f_X5_findFraction p0 S0 = some S') : MetH l yX5_findFraction cX5_findFraction 10 none rm_X5_findFraction D (tysW ct) F [.ref (ad 1), .ref (ad (12 + p0))] none (cellsC ct ad S0) (cellsC ct ad S') := by
  refine MetH.of RX5 (by decide) rfl (Nat.le_of_ble_eq_true rfl) ?_
  intro p e s m args below meth c C hK hP ls hl
  have hl : lv_has ls 10 [(0, .ref (ad 1)), (1, .ref (ad (12 + p0)))] := hl
  obtain ⟨hx, hb, hr, hml, hown, htL, hlocks⟩ := id C
  have hS : va_S F s.heap s.heap [] := va_S.rf
  generalize hQ : MQ below (Hq D (cellsC ct ad S') F none) args s 0 0 F = Q
  have w_47 : ∀ (x1 : Nat) (S : St), x1 < 42 → ∀ (H : Heap) (locs : List Loc) (ls : Array Slot), lv_has ls 10 [(0, .ref (ad 1)), (1, .ref (ad (12 + x1)))] → va_P D vwCl (cellsC ct ad S) H → va_S F s.heap H locs → n_X5_findFraction_47 x1 S = some S' → W p l e rm_X5_findFraction s m args below meth c H locs 0 0 Q (F0 m 47 ls []) := by
    intro  x1 S hk_x1 H locs ls hl hP hS hf
    refine lv_aload_n hx hb dX5_findFraction_47 rfl (lv_at hl 0 rfl) ?_
    refine lv_aload_n hx hb dX5_findFraction_48 rfl (lv_at hl 1 rfl) ?_
    refine lv_aload_n hx hb dX5_findFraction_49 rfl (lv_at hl 1 rfl) ?_
    refine gf_X3_5 C hK hP hk_x1 mw_1_126 dX5_findFraction_50 ?_
    obtain ⟨S2, h1, hf⟩ := b1_some hf
    refine hc_V (As := [.ref (ad (12 + x1)), .int (S.1 (12 + x1) 5)]) (rest := []) C hK (c_X5_settleNothing l D ct ad F hG x1 (S.1 (12 + x1) 5) S hk_x1 S2 h1) hl.1 cp_X5_settleNothing mw_2_83 (rc_X5 hK hP) hP hS ⟨rfl, rfl⟩ ⟨Nat.le_of_ble_eq_true rfl, Nat.le_of_ble_eq_true rfl⟩ rfl rfl (Nat.le_of_ble_eq_true rfl) dX5_findFraction_53 ⟨Nat.le_of_ble_eq_true rfl, Nat.le_of_ble_eq_true rfl⟩ (fun H locs hP hS => ?_)
    cases hf
    subst hQ
    exact he_v C hP hS dX5_findFraction_56
  refine lv_aload_n hx hb dX5_findFraction_0 rfl (lv_at hl 1 rfl) ?_
  refine gf_X3_3 C hK hP hk_p0 mw_1_124 dX5_findFraction_1 ?_
  refine lv_i2l hx hb dX5_findFraction_4 rfl ?_
  refine lv_aload_n hx hb dX5_findFraction_5 rfl (lv_at hl 0 rfl) ?_
  refine gf_X5_0 C hK hP mw_1_169 dX5_findFraction_6 ?_
  refine gf_X2_0 C hK hP mw_1_52 dX5_findFraction_9 ?_
  obtain ⟨v3, h4, hf⟩ := b1_some hf
  refine pc_S (As := [.long (Int32.toInt64 (S0.1 (12 + p0) 3)), .int (S0.1 3 0)]) (rest := []) C (c_X8_factorCount l (Int32.toInt64 (S0.1 (12 + p0) 3)) (S0.1 3 0) v3 h4) hl.1 cp_X8_factorCount mw_2_87 ⟨rfl, rfl⟩ ⟨Nat.le_of_ble_eq_true rfl, Nat.le_of_ble_eq_true rfl⟩ rfl rfl (Nat.le_of_ble_eq_true rfl) dX5_findFraction_12 ⟨Nat.le_of_ble_eq_true rfl, Nat.le_of_ble_eq_true rfl⟩ ?_
  refine lv_aload_n hx hb dX5_findFraction_15 rfl (lv_at hl 1 rfl) ?_
  refine gf_X3_4 C hK hP hk_p0 mw_1_125 dX5_findFraction_16 ?_
  refine lv_i2l hx hb dX5_findFraction_19 rfl ?_
  refine lv_aload_n hx hb dX5_findFraction_20 rfl (lv_at hl 0 rfl) ?_
  refine gf_X5_0 C hK hP mw_1_169 dX5_findFraction_21 ?_
  refine gf_X2_0 C hK hP mw_1_52 dX5_findFraction_24 ?_
  obtain ⟨v5, h6, hf⟩ := b1_some hf
  refine pc_S (As := [.long (Int32.toInt64 (S0.1 (12 + p0) 4)), .int (S0.1 3 0)]) (rest := [.int v3]) C (c_X8_factorCount l (Int32.toInt64 (S0.1 (12 + p0) 4)) (S0.1 3 0) v5 h6) hl.1 cp_X8_factorCount mw_2_87 ⟨rfl, rfl⟩ ⟨Nat.le_of_ble_eq_true rfl, Nat.le_of_ble_eq_true rfl⟩ rfl rfl (Nat.le_of_ble_eq_true rfl) dX5_findFraction_27 ⟨Nat.le_of_ble_eq_true rfl, Nat.le_of_ble_eq_true rfl⟩ ?_
  refine lv_isub hx hb dX5_findFraction_30 ?_
  refine lv_istore_n (lv' := [(2, .int (v3 - v5)), (0, .ref (ad 1)), (1, .ref (ad (12 + p0)))]) hx hb dX5_findFraction_31 rfl hl (by decide) rfl (fun ls hl => ?_)
  refine lv_aload_n hx hb dX5_findFraction_32 rfl (lv_at hl 2 rfl) ?_
  refine gf_X3_3 C hK hP hk_p0 mw_1_124 dX5_findFraction_33 ?_
  refine lv_if_eq (tgt := 47) hx hb dX5_findFraction_36 (by decide) (fun c7 => ?_) (fun c7 => ?_)
  · have hf := sp1 c7 hf
    exact w_47 p0 S0 hk_p0 _ _ _ (lv_sub hl [1, 2] rfl) hP hS hf
  · have hf := sp0 c7 hf
    refine lv_iload_n hx hb dX5_findFraction_39 rfl (lv_at hl 0 rfl) ?_
    refine lv_aload_n hx hb dX5_findFraction_40 rfl (lv_at hl 2 rfl) ?_
    refine gf_X3_5 C hK hP hk_p0 mw_1_126 dX5_findFraction_41 ?_
    refine lv_icmp_lt (tgt := 57) hx hb dX5_findFraction_44 (by decide) (fun c8 => ?_) (fun c8 => ?_)
    · have hf := sp1 c8 hf
      refine lv_aload_n hx hb dX5_findFraction_57 rfl (lv_at hl 2 rfl) ?_
      refine gf_X3_5 C hK hP hk_p0 mw_1_126 dX5_findFraction_58 ?_
      refine lv_iload_n hx hb dX5_findFraction_61 rfl (lv_at hl 0 rfl) ?_
      refine lv_aload_n hx hb dX5_findFraction_62 rfl (lv_at hl 1 rfl) ?_
      refine gf_X5_0 C hK hP mw_1_169 dX5_findFraction_63 ?_
      refine gf_X2_1 C hK hP mw_1_55 dX5_findFraction_66 ?_
      refine lv_iadd hx hb dX5_findFraction_69 ?_
      refine va_mmin (ls := _) hx hb (hml.trans hl.1.symm) hown (htL _ mw_2_59) (htL _ mw_2_60) (htL _ mw_1_17) (htL _ mw_2_61) (Nat.le_of_ble_eq_true rfl) (Nat.le_of_ble_eq_true rfl) (Nat.le_of_ble_eq_true rfl) (Nat.le_of_ble_eq_true rfl) dX5_findFraction_70 ?_
      refine lv_istore_n (lv' := [(3, .int (mnI (S0.1 (12 + p0) 5) ((v3 - v5) + (S0.1 3 1)))), (2, .int (v3 - v5)), (0, .ref (ad 1)), (1, .ref (ad (12 + p0)))]) hx hb dX5_findFraction_73 rfl hl (by decide) rfl (fun ls hl => ?_)
      refine lv_aload_n hx hb dX5_findFraction_74 rfl (lv_at hl 2 rfl) ?_
      refine gf_X5_0 C hK hP mw_1_169 dX5_findFraction_75 ?_
      refine lv_iload_n hx hb dX5_findFraction_78 rfl (lv_at hl 0 rfl) ?_
      refine lv_iload_n hx hb dX5_findFraction_79 rfl (lv_at hl 1 rfl) ?_
      refine lv_isub hx hb dX5_findFraction_80 ?_
      obtain ⟨v10, h9, hf⟩ := b1_some hf
      refine hc_V (As := [.int ((mnI (S0.1 (12 + p0) 5) ((v3 - v5) + (S0.1 3 1))) - (v3 - v5))]) (rest := []) C hK (c_X2_power l D ct ad F hG ((mnI (S0.1 (12 + p0) 5) ((v3 - v5) + (S0.1 3 1))) - (v3 - v5)) S0  v10 h9) hl.1 cp_X2_power mw_2_66 (rc_X2 hK hP) hP hS ⟨rfl, rfl⟩ ⟨Nat.le_of_ble_eq_true rfl, Nat.le_of_ble_eq_true rfl⟩ rfl rfl (Nat.le_of_ble_eq_true rfl) dX5_findFraction_81 ⟨Nat.le_of_ble_eq_true rfl, Nat.le_of_ble_eq_true rfl⟩ (fun H locs hP hS => ?_)
      refine lv_lstore (lv' := [(4, .long v10), (3, .int (mnI (S0.1 (12 + p0) 5) ((v3 - v5) + (S0.1 3 1)))), (2, .int (v3 - v5)), (0, .ref (ad 1)), (1, .ref (ad (12 + p0)))]) hx hb dX5_findFraction_84 hl (by decide) rfl (fun ls hl => ?_)
      refine lv_aload_n hx hb dX5_findFraction_86 rfl (lv_at hl 4 rfl) ?_
      refine gf_X3_3 C hK hP hk_p0 mw_1_124 dX5_findFraction_87 ?_
      refine lv_i2l hx hb dX5_findFraction_90 rfl ?_
      refine lv_aload_n hx hb dX5_findFraction_91 rfl (lv_at hl 3 rfl) ?_
      refine gf_X5_0 C hK hP mw_1_169 dX5_findFraction_92 ?_
      refine gf_X2_0 C hK hP mw_1_52 dX5_findFraction_95 ?_
      obtain ⟨v11, h12, hf⟩ := b1_some hf
      refine pc_S (As := [.long (Int32.toInt64 (S0.1 (12 + p0) 3)), .int (S0.1 3 0)]) (rest := []) C (c_X8_withoutFactors l (Int32.toInt64 (S0.1 (12 + p0) 3)) (S0.1 3 0) v11 h12) hl.1 cp_X8_withoutFactors mw_2_93 ⟨rfl, rfl⟩ ⟨Nat.le_of_ble_eq_true rfl, Nat.le_of_ble_eq_true rfl⟩ rfl rfl (Nat.le_of_ble_eq_true rfl) dX5_findFraction_98 ⟨Nat.le_of_ble_eq_true rfl, Nat.le_of_ble_eq_true rfl⟩ ?_
      refine lv_lstore (lv' := [(6, .long v11), (4, .long v10), (3, .int (mnI (S0.1 (12 + p0) 5) ((v3 - v5) + (S0.1 3 1)))), (2, .int (v3 - v5)), (0, .ref (ad 1)), (1, .ref (ad (12 + p0)))]) hx hb dX5_findFraction_101 hl (by decide) rfl (fun ls hl => ?_)
      refine lv_aload_n hx hb dX5_findFraction_103 rfl (lv_at hl 5 rfl) ?_
      refine gf_X3_4 C hK hP hk_p0 mw_1_125 dX5_findFraction_104 ?_
      refine lv_i2l hx hb dX5_findFraction_107 rfl ?_
      refine lv_aload_n hx hb dX5_findFraction_108 rfl (lv_at hl 4 rfl) ?_
      refine gf_X5_0 C hK hP mw_1_169 dX5_findFraction_109 ?_
      refine gf_X2_0 C hK hP mw_1_52 dX5_findFraction_112 ?_
      obtain ⟨v13, h14, hf⟩ := b1_some hf
      refine pc_S (As := [.long (Int32.toInt64 (S0.1 (12 + p0) 4)), .int (S0.1 3 0)]) (rest := []) C (c_X8_withoutFactors l (Int32.toInt64 (S0.1 (12 + p0) 4)) (S0.1 3 0) v13 h14) hl.1 cp_X8_withoutFactors mw_2_93 ⟨rfl, rfl⟩ ⟨Nat.le_of_ble_eq_true rfl, Nat.le_of_ble_eq_true rfl⟩ rfl rfl (Nat.le_of_ble_eq_true rfl) dX5_findFraction_115 ⟨Nat.le_of_ble_eq_true rfl, Nat.le_of_ble_eq_true rfl⟩ ?_
      refine lv_lload hx hb dX5_findFraction_118 (lv_at hl 1 rfl) ?_
      obtain ⟨v15, h16, hf⟩ := b1_some hf
      refine pc_S (As := [.long v13, .long v10]) (rest := []) C (c_X8_inverseModulo l v13 v10 v15 h16) hl.1 cp_X8_inverseModulo mw_3_50 ⟨rfl, rfl⟩ ⟨Nat.le_of_ble_eq_true rfl, Nat.le_of_ble_eq_true rfl⟩ rfl rfl (Nat.le_of_ble_eq_true rfl) dX5_findFraction_120 ⟨Nat.le_of_ble_eq_true rfl, Nat.le_of_ble_eq_true rfl⟩ ?_
      refine lv_lstore (lv' := [(8, .long v15), (6, .long v11), (4, .long v10), (3, .int (mnI (S0.1 (12 + p0) 5) ((v3 - v5) + (S0.1 3 1)))), (2, .int (v3 - v5)), (0, .ref (ad 1)), (1, .ref (ad (12 + p0)))]) hx hb dX5_findFraction_123 hl (by decide) rfl (fun ls hl => ?_)
      refine lv_aload_n hx hb dX5_findFraction_125 rfl (lv_at hl 5 rfl) ?_
      refine lv_aload_n hx hb dX5_findFraction_126 rfl (lv_at hl 6 rfl) ?_
      refine lv_iload_n hx hb dX5_findFraction_127 rfl (lv_at hl 4 rfl) ?_
      refine lv_iload_n hx hb dX5_findFraction_128 rfl (lv_at hl 3 rfl) ?_
      refine lv_lload hx hb dX5_findFraction_129 (lv_at hl 1 rfl) ?_
      refine lv_lload hx hb dX5_findFraction_131 (lv_at hl 0 rfl) ?_
      refine lv_lload hx hb dX5_findFraction_133 (lv_at hl 2 rfl) ?_
      obtain ⟨v17, h18, hf⟩ := b1_some hf
      refine pc_S (As := [.long v11, .long v15, .long v10]) (rest := [.int (mnI (S0.1 (12 + p0) 5) ((v3 - v5) + (S0.1 3 1))), .int (v3 - v5), .ref (ad (12 + p0)), .ref (ad 1)]) C (c_X8_timesModulo l v11 v15 v10 v17 h18) hl.1 cp_X8_timesModulo mw_2_72 ⟨rfl, rfl⟩ ⟨Nat.le_of_ble_eq_true rfl, Nat.le_of_ble_eq_true rfl⟩ rfl rfl (Nat.le_of_ble_eq_true rfl) dX5_findFraction_135 ⟨Nat.le_of_ble_eq_true rfl, Nat.le_of_ble_eq_true rfl⟩ ?_
      obtain ⟨S20, h19, hf⟩ := b1_some hf
      refine hc_V (As := [.ref (ad (12 + p0)), .int (v3 - v5), .int (mnI (S0.1 (12 + p0) 5) ((v3 - v5) + (S0.1 3 1))), .long v17]) (rest := []) C hK (c_X5_settle l D ct ad F hG p0 (v3 - v5) (mnI (S0.1 (12 + p0) 5) ((v3 - v5) + (S0.1 3 1))) v17 S0 hk_p0 S20 h19) hl.1 cp_X5_settle mw_2_78 (rc_X5 hK hP) hP hS ⟨rfl, rfl⟩ ⟨Nat.le_of_ble_eq_true rfl, Nat.le_of_ble_eq_true rfl⟩ rfl rfl (Nat.le_of_ble_eq_true rfl) dX5_findFraction_138 ⟨Nat.le_of_ble_eq_true rfl, Nat.le_of_ble_eq_true rfl⟩ (fun H locs hP hS => ?_)
      cases hf
      subst hQ
      exact he_v C hP hS dX5_findFraction_141
    · have hf := sp0 c8 hf
      exact w_47 p0 S0 hk_p0 _ _ _ (lv_sub hl [1, 2] rfl) hP hS hf
theorem cp_X5_findFraction : CPv yX5_findFraction cX5_findFraction 10 none 1 := ⟨mw_3_49, mw_1_2, mw_3_48, ms_15, by decide +kernel⟩
def rm_X5_wholeFrom : Room := { frames := 2, cells := 0, slots := 0, locals := 66 }
set_option maxHeartbeats 4000000 in
set_option maxRecDepth 100000 in
theorem c_X5_wholeFrom (l : Launch) (D : va_G) (ct : Nat → ClassId) (ad : Nat → Nat) (F : Nat → Prop) (hG : Gd ad 70 F) (p0 : Nat) (p1 : Int32) (p2 : Int32) (S0 : St) (hk_p0 : p0 < 42) (r : Int64) (hf : f_X5_wholeFrom p0 p1 p2 S0 = some r) : MetH l yX5_wholeFrom cX5_wholeFrom 4 (some .long) rm_X5_wholeFrom D (tysW ct) F [.ref (ad 1), .ref (ad (12 + p0)), .int p1, .int p2] (some (.long r)) (cellsC ct ad S0) (cellsC ct ad S0) := by
  refine MetH.of RX5 (by decide) rfl (Nat.le_of_ble_eq_true rfl) ?_
  intro p e s m args below meth c C hK hP ls hl
  have hl : lv_has ls 4 [(0, .ref (ad 1)), (1, .ref (ad (12 + p0))), (2, .int p1), (3, .int p2)] := hl
  obtain ⟨hx, hb, hr, hml, hown, htL, hlocks⟩ := id C
  have hS : va_S F s.heap s.heap [] := va_S.rf
  generalize hQ : MQ below (Hq D (cellsC ct ad S0) F (some (.long r))) args s 0 0 F = Q
  refine lv_aload_n hx hb dX5_wholeFrom_0 rfl (lv_at hl 1 rfl) ?_
  refine gf_X3_8 C hK hP hk_p0 mw_1_131 dX5_wholeFrom_1 ?_
  refine lv_iload_n hx hb dX5_wholeFrom_4 rfl (lv_at hl 3 rfl) ?_
  refine lv_icmp_ge (tgt := 16) hx hb dX5_wholeFrom_5 (by decide) (fun c1 => ?_) (fun c1 => ?_)
  · have hf := sp1 c1 hf
    refine lv_lconst (v := 0) hx hb dX5_wholeFrom_16 (by decide) ?_
    cases hf
    subst hQ
    exact he_l C hP hS dX5_wholeFrom_17
  · have hf := sp0 c1 hf
    refine lv_aload_n hx hb dX5_wholeFrom_8 rfl (lv_at hl 1 rfl) ?_
    refine gf_X3_8 C hK hP hk_p0 mw_1_131 dX5_wholeFrom_9 ?_
    refine lv_iload_n hx hb dX5_wholeFrom_12 rfl (lv_at hl 2 rfl) ?_
    refine lv_icmp_ge (tgt := 18) hx hb dX5_wholeFrom_13 (by decide) (fun c2 => ?_) (fun c2 => ?_)
    · have hf := sp1 c2 hf
      refine lv_aload_n hx hb dX5_wholeFrom_18 rfl (lv_at hl 1 rfl) ?_
      refine gf_X3_10 C hK hP hk_p0 mw_1_136 dX5_wholeFrom_19 ?_
      refine lv_aload_n hx hb dX5_wholeFrom_22 rfl (lv_at hl 0 rfl) ?_
      refine gf_X5_0 C hK hP mw_1_169 dX5_wholeFrom_23 ?_
      refine lv_aload_n hx hb dX5_wholeFrom_26 rfl (lv_at hl 1 rfl) ?_
      refine gf_X3_8 C hK hP hk_p0 mw_1_131 dX5_wholeFrom_27 ?_
      refine lv_iload_n hx hb dX5_wholeFrom_30 rfl (lv_at hl 2 rfl) ?_
      refine lv_isub hx hb dX5_wholeFrom_31 ?_
      obtain ⟨v4, h3, hf⟩ := b1_some hf
      refine hc_V (As := [.int ((S0.1 (12 + p0) 8) - p1)]) (rest := [.long (S0.2 (12 + p0) 10)]) C hK (c_X2_power l D ct ad F hG ((S0.1 (12 + p0) 8) - p1) S0  v4 h3) hl.1 cp_X2_power mw_2_66 (rc_X2 hK hP) hP hS ⟨rfl, rfl⟩ ⟨Nat.le_of_ble_eq_true rfl, Nat.le_of_ble_eq_true rfl⟩ rfl rfl (Nat.le_of_ble_eq_true rfl) dX5_wholeFrom_32 ⟨Nat.le_of_ble_eq_true rfl, Nat.le_of_ble_eq_true rfl⟩ (fun H locs hP hS => ?_)
      refine lv_aload_n hx hb dX5_wholeFrom_35 rfl (lv_at hl 0 rfl) ?_
      refine gf_X5_0 C hK hP mw_1_169 dX5_wholeFrom_36 ?_
      refine lv_iload_n hx hb dX5_wholeFrom_39 rfl (lv_at hl 3 rfl) ?_
      refine lv_iload_n hx hb dX5_wholeFrom_40 rfl (lv_at hl 2 rfl) ?_
      refine lv_isub hx hb dX5_wholeFrom_41 ?_
      obtain ⟨v6, h5, hf⟩ := b1_some hf
      refine hc_V (As := [.int (p2 - p1)]) (rest := [.long v4, .long (S0.2 (12 + p0) 10)]) C hK (c_X2_power l D ct ad F hG (p2 - p1) S0  v6 h5) hl.1 cp_X2_power mw_2_66 (rc_X2 hK hP) hP hS ⟨rfl, rfl⟩ ⟨Nat.le_of_ble_eq_true rfl, Nat.le_of_ble_eq_true rfl⟩ rfl rfl (Nat.le_of_ble_eq_true rfl) dX5_wholeFrom_42 ⟨Nat.le_of_ble_eq_true rfl, Nat.le_of_ble_eq_true rfl⟩ (fun H locs hP hS => ?_)
      obtain ⟨v7, h8, hf⟩ := b1_some hf
      refine pc_S (As := [.long (S0.2 (12 + p0) 10), .long v4, .long v6]) (rest := []) C (c_X8_timesModulo l (S0.2 (12 + p0) 10) v4 v6 v7 h8) hl.1 cp_X8_timesModulo mw_2_72 ⟨rfl, rfl⟩ ⟨Nat.le_of_ble_eq_true rfl, Nat.le_of_ble_eq_true rfl⟩ rfl rfl (Nat.le_of_ble_eq_true rfl) dX5_wholeFrom_45 ⟨Nat.le_of_ble_eq_true rfl, Nat.le_of_ble_eq_true rfl⟩ ?_
      cases hf
      subst hQ
      exact he_l C hP hS dX5_wholeFrom_48
    · have hf := sp0 c2 hf
      refine lv_lconst (v := 0) hx hb dX5_wholeFrom_16 (by decide) ?_
      cases hf
      subst hQ
      exact he_l C hP hS dX5_wholeFrom_17
theorem cp_X5_wholeFrom : CPv yX5_wholeFrom cX5_wholeFrom 4 (some .long) 3 := ⟨mw_2_65, mw_1_2, mw_2_64, ms_6, by decide +kernel⟩
def rm_X5_findSum : Room := { frames := 3, cells := 0, slots := 0, locals := 99 }
set_option maxHeartbeats 4000000 in
set_option maxRecDepth 100000 in
theorem c_X5_findSum (l : Launch) (D : va_G) (ct : Nat → ClassId) (ad : Nat → Nat) (F : Nat → Prop) (hG : Gd ad 70 F) (p0 : Nat) (p1 : Nat) (p2 : Nat) (p3 : Int32) (S0 : St) (hk_p0 : p0 < 42) (hk_p1 : p1 < 42) (hk_p2 : p2 < 42) (S' : St) (hf : f_X5_findSum p0 p1 p2 p3 S0 = some S') : MetH l yX5_findSum cX5_findSum 7 none rm_X5_findSum D (tysW ct) F [.ref (ad 1), .ref (ad (12 + p0)), .ref (ad (12 + p1)), .ref (ad (12 + p2)), .int p3] none (cellsC ct ad S0) (cellsC ct ad S') := by
  refine MetH.of RX5 (by decide) rfl (Nat.le_of_ble_eq_true rfl) ?_
  intro p e s m args below meth c C hK hP ls hl
  have hl : lv_has ls 7 [(0, .ref (ad 1)), (1, .ref (ad (12 + p0))), (2, .ref (ad (12 + p1))), (3, .ref (ad (12 + p2))), (4, .int p3)] := hl
  obtain ⟨hx, hb, hr, hml, hown, htL, hlocks⟩ := id C
  have hS : va_S F s.heap s.heap [] := va_S.rf
  generalize hQ : MQ below (Hq D (cellsC ct ad S') F none) args s 0 0 F = Q
  refine lv_aload_n hx hb dX5_findSum_0 rfl (lv_at hl 2 rfl) ?_
  refine gf_X3_9 C hK hP hk_p1 mw_1_133 dX5_findSum_1 ?_
  refine lv_aload_n hx hb dX5_findSum_4 rfl (lv_at hl 3 rfl) ?_
  refine gf_X3_9 C hK hP hk_p2 mw_1_133 dX5_findSum_5 ?_
  refine va_mmin (ls := _) hx hb (hml.trans hl.1.symm) hown (htL _ mw_2_59) (htL _ mw_2_60) (htL _ mw_1_17) (htL _ mw_2_61) (Nat.le_of_ble_eq_true rfl) (Nat.le_of_ble_eq_true rfl) (Nat.le_of_ble_eq_true rfl) (Nat.le_of_ble_eq_true rfl) dX5_findSum_8 ?_
  refine lv_istore (lv' := [(5, .int (mnI (S0.1 (12 + p1) 9) (S0.1 (12 + p2) 9))), (0, .ref (ad 1)), (1, .ref (ad (12 + p0))), (2, .ref (ad (12 + p1))), (3, .ref (ad (12 + p2))), (4, .int p3)]) hx hb dX5_findSum_11 hl (by decide) rfl (fun ls hl => ?_)
  refine lv_aload_n hx hb dX5_findSum_13 rfl (lv_at hl 3 rfl) ?_
  refine gf_X3_8 C hK hP hk_p1 mw_1_131 dX5_findSum_14 ?_
  refine lv_aload_n hx hb dX5_findSum_17 rfl (lv_at hl 4 rfl) ?_
  refine gf_X3_8 C hK hP hk_p2 mw_1_131 dX5_findSum_18 ?_
  refine va_mmin (ls := _) hx hb (hml.trans hl.1.symm) hown (htL _ mw_2_59) (htL _ mw_2_60) (htL _ mw_1_17) (htL _ mw_2_61) (Nat.le_of_ble_eq_true rfl) (Nat.le_of_ble_eq_true rfl) (Nat.le_of_ble_eq_true rfl) (Nat.le_of_ble_eq_true rfl) dX5_findSum_21 ?_
  refine lv_istore (lv' := [(6, .int (mnI (S0.1 (12 + p1) 8) (S0.1 (12 + p2) 8))), (5, .int (mnI (S0.1 (12 + p1) 9) (S0.1 (12 + p2) 9))), (0, .ref (ad 1)), (1, .ref (ad (12 + p0))), (2, .ref (ad (12 + p1))), (3, .ref (ad (12 + p2))), (4, .int p3)]) hx hb dX5_findSum_24 hl (by decide) rfl (fun ls hl => ?_)
  refine lv_aload_n hx hb dX5_findSum_26 rfl (lv_at hl 2 rfl) ?_
  refine lv_aload_n hx hb dX5_findSum_27 rfl (lv_at hl 3 rfl) ?_
  refine lv_iload hx hb dX5_findSum_28 (lv_at hl 0 rfl) ?_
  refine lv_iload hx hb dX5_findSum_30 (lv_at hl 1 rfl) ?_
  refine lv_aload_n hx hb dX5_findSum_32 rfl (lv_at hl 2 rfl) ?_
  refine lv_aload_n hx hb dX5_findSum_33 rfl (lv_at hl 4 rfl) ?_
  refine lv_iload hx hb dX5_findSum_34 (lv_at hl 0 rfl) ?_
  refine lv_iload hx hb dX5_findSum_36 (lv_at hl 1 rfl) ?_
  obtain ⟨v2, h1, hf⟩ := b1_some hf
  refine hc_V (As := [.ref (ad (12 + p1)), .int (mnI (S0.1 (12 + p1) 8) (S0.1 (12 + p2) 8)), .int (mnI (S0.1 (12 + p1) 9) (S0.1 (12 + p2) 9))]) (rest := [.int (mnI (S0.1 (12 + p1) 9) (S0.1 (12 + p2) 9)), .int (mnI (S0.1 (12 + p1) 8) (S0.1 (12 + p2) 8)), .ref (ad (12 + p0)), .ref (ad 1)]) C hK (c_X5_wholeFrom l D ct ad F hG p1 (mnI (S0.1 (12 + p1) 8) (S0.1 (12 + p2) 8)) (mnI (S0.1 (12 + p1) 9) (S0.1 (12 + p2) 9)) S0 hk_p1 v2 h1) hl.1 cp_X5_wholeFrom mw_2_62 (rc_X5 hK hP) hP hS ⟨rfl, rfl⟩ ⟨Nat.le_of_ble_eq_true rfl, Nat.le_of_ble_eq_true rfl⟩ rfl rfl (Nat.le_of_ble_eq_true rfl) dX5_findSum_38 ⟨Nat.le_of_ble_eq_true rfl, Nat.le_of_ble_eq_true rfl⟩ (fun H locs hP hS => ?_)
  refine lv_iload hx hb dX5_findSum_41 (lv_at hl 6 rfl) ?_
  refine lv_i2l hx hb dX5_findSum_43 rfl ?_
  refine lv_aload_n hx hb dX5_findSum_44 rfl (lv_at hl 2 rfl) ?_
  refine lv_aload_n hx hb dX5_findSum_45 rfl (lv_at hl 5 rfl) ?_
  refine lv_iload hx hb dX5_findSum_46 (lv_at hl 0 rfl) ?_
  refine lv_iload hx hb dX5_findSum_48 (lv_at hl 1 rfl) ?_
  obtain ⟨v4, h3, hf⟩ := b1_some hf
  refine hc_V (As := [.ref (ad (12 + p2)), .int (mnI (S0.1 (12 + p1) 8) (S0.1 (12 + p2) 8)), .int (mnI (S0.1 (12 + p1) 9) (S0.1 (12 + p2) 9))]) (rest := [.long (Int32.toInt64 p3), .long v2, .int (mnI (S0.1 (12 + p1) 9) (S0.1 (12 + p2) 9)), .int (mnI (S0.1 (12 + p1) 8) (S0.1 (12 + p2) 8)), .ref (ad (12 + p0)), .ref (ad 1)]) C hK (c_X5_wholeFrom l D ct ad F hG p2 (mnI (S0.1 (12 + p1) 8) (S0.1 (12 + p2) 8)) (mnI (S0.1 (12 + p1) 9) (S0.1 (12 + p2) 9)) S0 hk_p2 v4 h3) hl.1 cp_X5_wholeFrom mw_2_62 (rc_X5 hK hP) hP hS ⟨rfl, rfl⟩ ⟨Nat.le_of_ble_eq_true rfl, Nat.le_of_ble_eq_true rfl⟩ rfl rfl (Nat.le_of_ble_eq_true rfl) dX5_findSum_50 ⟨Nat.le_of_ble_eq_true rfl, Nat.le_of_ble_eq_true rfl⟩ (fun H locs hP hS => ?_)
  refine lv_lmul hx hb dX5_findSum_53 ?_
  refine lv_ladd hx hb dX5_findSum_54 ?_
  obtain ⟨S6, h5, hf⟩ := b1_some hf
  refine hc_V (As := [.ref (ad (12 + p0)), .int (mnI (S0.1 (12 + p1) 8) (S0.1 (12 + p2) 8)), .int (mnI (S0.1 (12 + p1) 9) (S0.1 (12 + p2) 9)), .long (v2 + ((Int32.toInt64 p3) * v4))]) (rest := []) C hK (c_X5_settle l D ct ad F hG p0 (mnI (S0.1 (12 + p1) 8) (S0.1 (12 + p2) 8)) (mnI (S0.1 (12 + p1) 9) (S0.1 (12 + p2) 9)) (v2 + ((Int32.toInt64 p3) * v4)) S0 hk_p0 S6 h5) hl.1 cp_X5_settle mw_2_78 (rc_X5 hK hP) hP hS ⟨rfl, rfl⟩ ⟨Nat.le_of_ble_eq_true rfl, Nat.le_of_ble_eq_true rfl⟩ rfl rfl (Nat.le_of_ble_eq_true rfl) dX5_findSum_55 ⟨Nat.le_of_ble_eq_true rfl, Nat.le_of_ble_eq_true rfl⟩ (fun H locs hP hS => ?_)
  cases hf
  subst hQ
  exact he_v C hP hS dX5_findSum_58
theorem cp_X5_findSum : CPv yX5_findSum cX5_findSum 7 none 4 := ⟨mw_2_58, mw_1_2, mw_2_57, ms_5, by decide +kernel⟩
def rm_X5_findProduct : Room := { frames := 3, cells := 0, slots := 0, locals := 99 }
set_option maxHeartbeats 4000000 in
set_option maxRecDepth 100000 in
theorem c_X5_findProduct (l : Launch) (D : va_G) (ct : Nat → ClassId) (ad : Nat → Nat) (F : Nat → Prop) (hG : Gd ad 70 F) (p0 : Nat) (p1 : Nat) (p2 : Nat) (S0 : St) (hk_p0 : p0 < 42) (hk_p1 : p1 < 42) (hk_p2 : p2 < 42) (S' : St) (hf : f_X5_findProduct p0 p1 p2 S0 = some S') : MetH l yX5_findProduct cX5_findProduct 6 none rm_X5_findProduct D (tysW ct) F [.ref (ad 1), .ref (ad (12 + p0)), .ref (ad (12 + p1)), .ref (ad (12 + p2))] none (cellsC ct ad S0) (cellsC ct ad S') := by
  refine MetH.of RX5 (by decide) rfl (Nat.le_of_ble_eq_true rfl) ?_
  intro p e s m args below meth c C hK hP ls hl
  have hl : lv_has ls 6 [(0, .ref (ad 1)), (1, .ref (ad (12 + p0))), (2, .ref (ad (12 + p1))), (3, .ref (ad (12 + p2)))] := hl
  obtain ⟨hx, hb, hr, hml, hown, htL, hlocks⟩ := id C
  have hS : va_S F s.heap s.heap [] := va_S.rf
  generalize hQ : MQ below (Hq D (cellsC ct ad S') F none) args s 0 0 F = Q
  refine lv_aload_n hx hb dX5_findProduct_0 rfl (lv_at hl 2 rfl) ?_
  refine gf_X3_8 C hK hP hk_p1 mw_1_131 dX5_findProduct_1 ?_
  refine lv_aload_n hx hb dX5_findProduct_4 rfl (lv_at hl 3 rfl) ?_
  refine gf_X3_8 C hK hP hk_p2 mw_1_131 dX5_findProduct_5 ?_
  refine lv_iadd hx hb dX5_findProduct_8 ?_
  refine lv_istore (lv' := [(4, .int ((S0.1 (12 + p1) 8) + (S0.1 (12 + p2) 8))), (0, .ref (ad 1)), (1, .ref (ad (12 + p0))), (2, .ref (ad (12 + p1))), (3, .ref (ad (12 + p2)))]) hx hb dX5_findProduct_9 hl (by decide) rfl (fun ls hl => ?_)
  refine lv_aload_n hx hb dX5_findProduct_11 rfl (lv_at hl 3 rfl) ?_
  refine gf_X3_8 C hK hP hk_p1 mw_1_131 dX5_findProduct_12 ?_
  refine lv_aload_n hx hb dX5_findProduct_15 rfl (lv_at hl 4 rfl) ?_
  refine gf_X3_9 C hK hP hk_p2 mw_1_133 dX5_findProduct_16 ?_
  refine lv_iadd hx hb dX5_findProduct_19 ?_
  refine lv_aload_n hx hb dX5_findProduct_20 rfl (lv_at hl 4 rfl) ?_
  refine gf_X3_8 C hK hP hk_p2 mw_1_131 dX5_findProduct_21 ?_
  refine lv_aload_n hx hb dX5_findProduct_24 rfl (lv_at hl 3 rfl) ?_
  refine gf_X3_9 C hK hP hk_p1 mw_1_133 dX5_findProduct_25 ?_
  refine lv_iadd hx hb dX5_findProduct_28 ?_
  refine va_mmin (ls := _) hx hb (hml.trans hl.1.symm) hown (htL _ mw_2_59) (htL _ mw_2_60) (htL _ mw_1_17) (htL _ mw_2_61) (Nat.le_of_ble_eq_true rfl) (Nat.le_of_ble_eq_true rfl) (Nat.le_of_ble_eq_true rfl) (Nat.le_of_ble_eq_true rfl) dX5_findProduct_29 ?_
  refine lv_istore (lv' := [(5, .int (mnI ((S0.1 (12 + p1) 8) + (S0.1 (12 + p2) 9)) ((S0.1 (12 + p2) 8) + (S0.1 (12 + p1) 9)))), (4, .int ((S0.1 (12 + p1) 8) + (S0.1 (12 + p2) 8))), (0, .ref (ad 1)), (1, .ref (ad (12 + p0))), (2, .ref (ad (12 + p1))), (3, .ref (ad (12 + p2)))]) hx hb dX5_findProduct_32 hl (by decide) rfl (fun ls hl => ?_)
  refine lv_aload_n hx hb dX5_findProduct_34 rfl (lv_at hl 2 rfl) ?_
  refine lv_aload_n hx hb dX5_findProduct_35 rfl (lv_at hl 3 rfl) ?_
  refine lv_iload hx hb dX5_findProduct_36 (lv_at hl 1 rfl) ?_
  refine lv_iload hx hb dX5_findProduct_38 (lv_at hl 0 rfl) ?_
  refine lv_aload_n hx hb dX5_findProduct_40 rfl (lv_at hl 4 rfl) ?_
  refine gf_X3_10 C hK hP hk_p1 mw_1_136 dX5_findProduct_41 ?_
  refine lv_aload_n hx hb dX5_findProduct_44 rfl (lv_at hl 5 rfl) ?_
  refine gf_X3_10 C hK hP hk_p2 mw_1_136 dX5_findProduct_45 ?_
  refine lv_aload_n hx hb dX5_findProduct_48 rfl (lv_at hl 2 rfl) ?_
  refine gf_X5_0 C hK hP mw_1_169 dX5_findProduct_49 ?_
  refine lv_iload hx hb dX5_findProduct_52 (lv_at hl 0 rfl) ?_
  refine lv_iload hx hb dX5_findProduct_54 (lv_at hl 1 rfl) ?_
  refine lv_isub hx hb dX5_findProduct_56 ?_
  obtain ⟨v2, h1, hf⟩ := b1_some hf
  refine hc_V (As := [.int ((mnI ((S0.1 (12 + p1) 8) + (S0.1 (12 + p2) 9)) ((S0.1 (12 + p2) 8) + (S0.1 (12 + p1) 9))) - ((S0.1 (12 + p1) 8) + (S0.1 (12 + p2) 8)))]) (rest := [.long (S0.2 (12 + p2) 10), .long (S0.2 (12 + p1) 10), .int (mnI ((S0.1 (12 + p1) 8) + (S0.1 (12 + p2) 9)) ((S0.1 (12 + p2) 8) + (S0.1 (12 + p1) 9))), .int ((S0.1 (12 + p1) 8) + (S0.1 (12 + p2) 8)), .ref (ad (12 + p0)), .ref (ad 1)]) C hK (c_X2_power l D ct ad F hG ((mnI ((S0.1 (12 + p1) 8) + (S0.1 (12 + p2) 9)) ((S0.1 (12 + p2) 8) + (S0.1 (12 + p1) 9))) - ((S0.1 (12 + p1) 8) + (S0.1 (12 + p2) 8))) S0  v2 h1) hl.1 cp_X2_power mw_2_66 (rc_X2 hK hP) hP hS ⟨rfl, rfl⟩ ⟨Nat.le_of_ble_eq_true rfl, Nat.le_of_ble_eq_true rfl⟩ rfl rfl (Nat.le_of_ble_eq_true rfl) dX5_findProduct_57 ⟨Nat.le_of_ble_eq_true rfl, Nat.le_of_ble_eq_true rfl⟩ (fun H locs hP hS => ?_)
  obtain ⟨v3, h4, hf⟩ := b1_some hf
  refine pc_S (As := [.long (S0.2 (12 + p1) 10), .long (S0.2 (12 + p2) 10), .long v2]) (rest := [.int (mnI ((S0.1 (12 + p1) 8) + (S0.1 (12 + p2) 9)) ((S0.1 (12 + p2) 8) + (S0.1 (12 + p1) 9))), .int ((S0.1 (12 + p1) 8) + (S0.1 (12 + p2) 8)), .ref (ad (12 + p0)), .ref (ad 1)]) C (c_X8_timesModulo l (S0.2 (12 + p1) 10) (S0.2 (12 + p2) 10) v2 v3 h4) hl.1 cp_X8_timesModulo mw_2_72 ⟨rfl, rfl⟩ ⟨Nat.le_of_ble_eq_true rfl, Nat.le_of_ble_eq_true rfl⟩ rfl rfl (Nat.le_of_ble_eq_true rfl) dX5_findProduct_60 ⟨Nat.le_of_ble_eq_true rfl, Nat.le_of_ble_eq_true rfl⟩ ?_
  obtain ⟨S6, h5, hf⟩ := b1_some hf
  refine hc_V (As := [.ref (ad (12 + p0)), .int ((S0.1 (12 + p1) 8) + (S0.1 (12 + p2) 8)), .int (mnI ((S0.1 (12 + p1) 8) + (S0.1 (12 + p2) 9)) ((S0.1 (12 + p2) 8) + (S0.1 (12 + p1) 9))), .long v3]) (rest := []) C hK (c_X5_settle l D ct ad F hG p0 ((S0.1 (12 + p1) 8) + (S0.1 (12 + p2) 8)) (mnI ((S0.1 (12 + p1) 8) + (S0.1 (12 + p2) 9)) ((S0.1 (12 + p2) 8) + (S0.1 (12 + p1) 9))) v3 S0 hk_p0 S6 h5) hl.1 cp_X5_settle mw_2_78 (rc_X5 hK hP) hP hS ⟨rfl, rfl⟩ ⟨Nat.le_of_ble_eq_true rfl, Nat.le_of_ble_eq_true rfl⟩ rfl rfl (Nat.le_of_ble_eq_true rfl) dX5_findProduct_63 ⟨Nat.le_of_ble_eq_true rfl, Nat.le_of_ble_eq_true rfl⟩ (fun H locs hP hS => ?_)
  cases hf
  subst hQ
  exact he_v C hP hS dX5_findProduct_66
theorem cp_X5_findProduct : CPv yX5_findProduct cX5_findProduct 6 none 3 := ⟨mw_2_103, mw_1_2, mw_2_102, ms_9, by decide +kernel⟩
def rm_X5_findQuotient : Room := { frames := 3, cells := 0, slots := 0, locals := 99 }
set_option maxHeartbeats 4000000 in
set_option maxRecDepth 100000 in
theorem c_X5_findQuotient (l : Launch) (D : va_G) (ct : Nat → ClassId) (ad : Nat → Nat) (F : Nat → Prop) (hG : Gd ad 70 F) (p0 : Nat) (p1 : Nat) (p2 : Nat) (S0 : St) (hk_p0 : p0 < 42) (hk_p1 : p1 < 42) (hk_p2 : p2 < 42) (S' : St) (hf : f_X5_findQuotient p0 p1 p2 S0 = some S') : MetH l yX5_findQuotient cX5_findQuotient 8 none rm_X5_findQuotient D (tysW ct) F [.ref (ad 1), .ref (ad (12 + p0)), .ref (ad (12 + p1)), .ref (ad (12 + p2))] none (cellsC ct ad S0) (cellsC ct ad S') := by
  refine MetH.of RX5 (by decide) rfl (Nat.le_of_ble_eq_true rfl) ?_
  intro p e s m args below meth c C hK hP ls hl
  have hl : lv_has ls 8 [(0, .ref (ad 1)), (1, .ref (ad (12 + p0))), (2, .ref (ad (12 + p1))), (3, .ref (ad (12 + p2)))] := hl
  obtain ⟨hx, hb, hr, hml, hown, htL, hlocks⟩ := id C
  have hS : va_S F s.heap s.heap [] := va_S.rf
  generalize hQ : MQ below (Hq D (cellsC ct ad S') F none) args s 0 0 F = Q
  refine lv_aload_n hx hb dX5_findQuotient_0 rfl (lv_at hl 2 rfl) ?_
  refine gf_X3_8 C hK hP hk_p1 mw_1_131 dX5_findQuotient_1 ?_
  refine lv_aload_n hx hb dX5_findQuotient_4 rfl (lv_at hl 3 rfl) ?_
  refine gf_X3_8 C hK hP hk_p2 mw_1_131 dX5_findQuotient_5 ?_
  refine lv_isub hx hb dX5_findQuotient_8 ?_
  refine lv_istore (lv' := [(4, .int ((S0.1 (12 + p1) 8) - (S0.1 (12 + p2) 8))), (0, .ref (ad 1)), (1, .ref (ad (12 + p0))), (2, .ref (ad (12 + p1))), (3, .ref (ad (12 + p2)))]) hx hb dX5_findQuotient_9 hl (by decide) rfl (fun ls hl => ?_)
  refine lv_aload_n hx hb dX5_findQuotient_11 rfl (lv_at hl 3 rfl) ?_
  refine gf_X3_9 C hK hP hk_p1 mw_1_133 dX5_findQuotient_12 ?_
  refine lv_aload_n hx hb dX5_findQuotient_15 rfl (lv_at hl 4 rfl) ?_
  refine gf_X3_8 C hK hP hk_p2 mw_1_131 dX5_findQuotient_16 ?_
  refine lv_isub hx hb dX5_findQuotient_19 ?_
  refine lv_aload_n hx hb dX5_findQuotient_20 rfl (lv_at hl 3 rfl) ?_
  refine gf_X3_8 C hK hP hk_p1 mw_1_131 dX5_findQuotient_21 ?_
  refine lv_aload_n hx hb dX5_findQuotient_24 rfl (lv_at hl 4 rfl) ?_
  refine gf_X3_9 C hK hP hk_p2 mw_1_133 dX5_findQuotient_25 ?_
  refine lv_iadd hx hb dX5_findQuotient_28 ?_
  refine lv_iconst (v := 2) hx hb dX5_findQuotient_29 (by decide) ?_
  refine lv_aload_n hx hb dX5_findQuotient_30 rfl (lv_at hl 4 rfl) ?_
  refine gf_X3_8 C hK hP hk_p2 mw_1_131 dX5_findQuotient_31 ?_
  refine lv_imul hx hb dX5_findQuotient_34 ?_
  refine lv_isub hx hb dX5_findQuotient_35 ?_
  refine va_mmin (ls := _) hx hb (hml.trans hl.1.symm) hown (htL _ mw_2_59) (htL _ mw_2_60) (htL _ mw_1_17) (htL _ mw_2_61) (Nat.le_of_ble_eq_true rfl) (Nat.le_of_ble_eq_true rfl) (Nat.le_of_ble_eq_true rfl) (Nat.le_of_ble_eq_true rfl) dX5_findQuotient_36 ?_
  refine lv_istore (lv' := [(5, .int (mnI ((S0.1 (12 + p1) 9) - (S0.1 (12 + p2) 8)) (((S0.1 (12 + p1) 8) + (S0.1 (12 + p2) 9)) - (2 * (S0.1 (12 + p2) 8))))), (4, .int ((S0.1 (12 + p1) 8) - (S0.1 (12 + p2) 8))), (0, .ref (ad 1)), (1, .ref (ad (12 + p0))), (2, .ref (ad (12 + p1))), (3, .ref (ad (12 + p2)))]) hx hb dX5_findQuotient_39 hl (by decide) rfl (fun ls hl => ?_)
  refine lv_aload_n hx hb dX5_findQuotient_41 rfl (lv_at hl 2 rfl) ?_
  refine gf_X5_0 C hK hP mw_1_169 dX5_findQuotient_42 ?_
  refine lv_iload hx hb dX5_findQuotient_45 (lv_at hl 0 rfl) ?_
  refine lv_iload hx hb dX5_findQuotient_47 (lv_at hl 1 rfl) ?_
  refine lv_isub hx hb dX5_findQuotient_49 ?_
  obtain ⟨v2, h1, hf⟩ := b1_some hf
  refine hc_V (As := [.int ((mnI ((S0.1 (12 + p1) 9) - (S0.1 (12 + p2) 8)) (((S0.1 (12 + p1) 8) + (S0.1 (12 + p2) 9)) - (2 * (S0.1 (12 + p2) 8)))) - ((S0.1 (12 + p1) 8) - (S0.1 (12 + p2) 8)))]) (rest := []) C hK (c_X2_power l D ct ad F hG ((mnI ((S0.1 (12 + p1) 9) - (S0.1 (12 + p2) 8)) (((S0.1 (12 + p1) 8) + (S0.1 (12 + p2) 9)) - (2 * (S0.1 (12 + p2) 8)))) - ((S0.1 (12 + p1) 8) - (S0.1 (12 + p2) 8))) S0  v2 h1) hl.1 cp_X2_power mw_2_66 (rc_X2 hK hP) hP hS ⟨rfl, rfl⟩ ⟨Nat.le_of_ble_eq_true rfl, Nat.le_of_ble_eq_true rfl⟩ rfl rfl (Nat.le_of_ble_eq_true rfl) dX5_findQuotient_50 ⟨Nat.le_of_ble_eq_true rfl, Nat.le_of_ble_eq_true rfl⟩ (fun H locs hP hS => ?_)
  refine lv_lstore (lv' := [(6, .long v2), (5, .int (mnI ((S0.1 (12 + p1) 9) - (S0.1 (12 + p2) 8)) (((S0.1 (12 + p1) 8) + (S0.1 (12 + p2) 9)) - (2 * (S0.1 (12 + p2) 8))))), (4, .int ((S0.1 (12 + p1) 8) - (S0.1 (12 + p2) 8))), (0, .ref (ad 1)), (1, .ref (ad (12 + p0))), (2, .ref (ad (12 + p1))), (3, .ref (ad (12 + p2)))]) hx hb dX5_findQuotient_53 hl (by decide) rfl (fun ls hl => ?_)
  refine lv_aload_n hx hb dX5_findQuotient_55 rfl (lv_at hl 3 rfl) ?_
  refine lv_aload_n hx hb dX5_findQuotient_56 rfl (lv_at hl 4 rfl) ?_
  refine lv_iload hx hb dX5_findQuotient_57 (lv_at hl 2 rfl) ?_
  refine lv_iload hx hb dX5_findQuotient_59 (lv_at hl 1 rfl) ?_
  refine lv_aload_n hx hb dX5_findQuotient_61 rfl (lv_at hl 5 rfl) ?_
  refine gf_X3_10 C hK hP hk_p1 mw_1_136 dX5_findQuotient_62 ?_
  refine lv_aload_n hx hb dX5_findQuotient_65 rfl (lv_at hl 6 rfl) ?_
  refine gf_X3_10 C hK hP hk_p2 mw_1_136 dX5_findQuotient_66 ?_
  refine lv_lload hx hb dX5_findQuotient_69 (lv_at hl 0 rfl) ?_
  obtain ⟨v3, h4, hf⟩ := b1_some hf
  refine pc_S (As := [.long (S0.2 (12 + p2) 10), .long v2]) (rest := [.long (S0.2 (12 + p1) 10), .int (mnI ((S0.1 (12 + p1) 9) - (S0.1 (12 + p2) 8)) (((S0.1 (12 + p1) 8) + (S0.1 (12 + p2) 9)) - (2 * (S0.1 (12 + p2) 8)))), .int ((S0.1 (12 + p1) 8) - (S0.1 (12 + p2) 8)), .ref (ad (12 + p0)), .ref (ad 1)]) C (c_X8_inverseModulo l (S0.2 (12 + p2) 10) v2 v3 h4) hl.1 cp_X8_inverseModulo mw_3_50 ⟨rfl, rfl⟩ ⟨Nat.le_of_ble_eq_true rfl, Nat.le_of_ble_eq_true rfl⟩ rfl rfl (Nat.le_of_ble_eq_true rfl) dX5_findQuotient_71 ⟨Nat.le_of_ble_eq_true rfl, Nat.le_of_ble_eq_true rfl⟩ ?_
  refine lv_lload hx hb dX5_findQuotient_74 (lv_at hl 0 rfl) ?_
  obtain ⟨v5, h6, hf⟩ := b1_some hf
  refine pc_S (As := [.long (S0.2 (12 + p1) 10), .long v3, .long v2]) (rest := [.int (mnI ((S0.1 (12 + p1) 9) - (S0.1 (12 + p2) 8)) (((S0.1 (12 + p1) 8) + (S0.1 (12 + p2) 9)) - (2 * (S0.1 (12 + p2) 8)))), .int ((S0.1 (12 + p1) 8) - (S0.1 (12 + p2) 8)), .ref (ad (12 + p0)), .ref (ad 1)]) C (c_X8_timesModulo l (S0.2 (12 + p1) 10) v3 v2 v5 h6) hl.1 cp_X8_timesModulo mw_2_72 ⟨rfl, rfl⟩ ⟨Nat.le_of_ble_eq_true rfl, Nat.le_of_ble_eq_true rfl⟩ rfl rfl (Nat.le_of_ble_eq_true rfl) dX5_findQuotient_76 ⟨Nat.le_of_ble_eq_true rfl, Nat.le_of_ble_eq_true rfl⟩ ?_
  obtain ⟨S8, h7, hf⟩ := b1_some hf
  refine hc_V (As := [.ref (ad (12 + p0)), .int ((S0.1 (12 + p1) 8) - (S0.1 (12 + p2) 8)), .int (mnI ((S0.1 (12 + p1) 9) - (S0.1 (12 + p2) 8)) (((S0.1 (12 + p1) 8) + (S0.1 (12 + p2) 9)) - (2 * (S0.1 (12 + p2) 8)))), .long v5]) (rest := []) C hK (c_X5_settle l D ct ad F hG p0 ((S0.1 (12 + p1) 8) - (S0.1 (12 + p2) 8)) (mnI ((S0.1 (12 + p1) 9) - (S0.1 (12 + p2) 8)) (((S0.1 (12 + p1) 8) + (S0.1 (12 + p2) 9)) - (2 * (S0.1 (12 + p2) 8)))) v5 S0 hk_p0 S8 h7) hl.1 cp_X5_settle mw_2_78 (rc_X5 hK hP) hP hS ⟨rfl, rfl⟩ ⟨Nat.le_of_ble_eq_true rfl, Nat.le_of_ble_eq_true rfl⟩ rfl rfl (Nat.le_of_ble_eq_true rfl) dX5_findQuotient_79 ⟨Nat.le_of_ble_eq_true rfl, Nat.le_of_ble_eq_true rfl⟩ (fun H locs hP hS => ?_)
  cases hf
  subst hQ
  exact he_v C hP hS dX5_findQuotient_82
theorem cp_X5_findQuotient : CPv yX5_findQuotient cX5_findQuotient 8 none 3 := ⟨mw_3_56, mw_1_2, mw_3_55, ms_16, by decide +kernel⟩
def rm_X5_rootNearTwo : Room := { frames := 2, cells := 0, slots := 0, locals := 66 }
set_option maxHeartbeats 4000000 in
set_option maxRecDepth 100000 in
theorem c_X5_rootNearTwo (l : Launch) (D : va_G) (ct : Nat → ClassId) (ad : Nat → Nat) (F : Nat → Prop) (hG : Gd ad 70 F) (p0 : Int64) (p1 : Int32) (S0 : St)  (r : Int64) (hf : f_X5_rootNearTwo p0 p1 S0 = some r) : MetH l yX5_rootNearTwo cX5_rootNearTwo 7 (some .long) rm_X5_rootNearTwo D (tysW ct) F [.ref (ad 1), .long p0, .int p1] (some (.long r)) (cellsC ct ad S0) (cellsC ct ad S0) := by
  refine MetH.of RX5 (by decide) rfl (Nat.le_of_ble_eq_true rfl) ?_
  intro p e s m args below meth c C hK hP ls hl
  have hl : lv_has ls 7 [(0, .ref (ad 1)), (1, .long p0), (3, .int p1)] := hl
  obtain ⟨hx, hb, hr, hml, hown, htL, hlocks⟩ := id C
  have hS : va_S F s.heap s.heap [] := va_S.rf
  generalize hQ : MQ below (Hq D (cellsC ct ad S0) F (some (.long r))) args s 0 0 F = Q
  have w_6 : ∀ (x1 : Int64) (x3 : Int32) (x4 : Int64) (x6 : Int32), ∀ (H : Heap) (locs : List Loc) (ls : Array Slot), lv_has ls 7 [(0, .ref (ad 1)), (1, .long x1), (3, .int x3), (4, .long x4), (6, .int x6)] → va_P D vwCl (cellsC ct ad S0) H → va_S F s.heap H locs → n_X5_rootNearTwo_6 S0 x1 x3 x4 x6 = some r → W p l e rm_X5_rootNearTwo s m args below meth c H locs 0 0 Q (F0 m 6 ls []) := by
    have aux : ∀ (n : Nat), ∀ (x1 : Int64) (x3 : Int32) (x4 : Int64) (x6 : Int32), ∀ (H : Heap) (locs : List Loc) (ls : Array Slot), lv_has ls 7 [(0, .ref (ad 1)), (1, .long x1), (3, .int x3), (4, .long x4), (6, .int x6)] → va_P D vwCl (cellsC ct ad S0) H → va_S F s.heap H locs → itr (fun (q : Int64 × Int32 × Int64 × Int32) k => s_X5_rootNearTwo_6  (fun (x1 : Int64) (x3 : Int32) (x4 : Int64) (x6 : Int32) => k (x1, x3, x4, x6)) S0 q.1 q.2.1 q.2.2.1 q.2.2.2) n (x1, x3, x4, x6) = some r → W p l e rm_X5_rootNearTwo s m args below meth c H locs 0 0 Q (F0 m 6 ls []) := by
      intro n
      induction n with
      | zero => intro x1 x3 x4 x6 H locs ls hl hP hS hf; exact (itr_z hf).elim
      | succ n ih =>
      intro x1 x3 x4 x6 H locs ls hl hP hS hf
      have hk_6 := ih
      have hf : s_X5_rootNearTwo_6  (fun (x1 : Int64) (x3 : Int32) (x4 : Int64) (x6 : Int32) => itr (fun (q : Int64 × Int32 × Int64 × Int32) k => s_X5_rootNearTwo_6  (fun (x1 : Int64) (x3 : Int32) (x4 : Int64) (x6 : Int32) => k (x1, x3, x4, x6)) S0 q.1 q.2.1 q.2.2.1 q.2.2.2) n (x1, x3, x4, x6)) S0 x1 x3 x4 x6 = some r := hf
      refine lv_iload hx hb dX5_rootNearTwo_6 (lv_at hl 4 rfl) ?_
      refine lv_iload_n hx hb dX5_rootNearTwo_8 rfl (lv_at hl 2 rfl) ?_
      refine lv_icmp_ge (tgt := 72) hx hb dX5_rootNearTwo_9 (by decide) (fun c1 => ?_) (fun c1 => ?_)
      · have hf := sp1 c1 hf
        refine lv_lload hx hb dX5_rootNearTwo_72 (lv_at hl 3 rfl) ?_
        cases hf
        subst hQ
        exact he_l C hP hS dX5_rootNearTwo_74
      · have hf := sp0 c1 hf
        refine lv_iload hx hb dX5_rootNearTwo_12 (lv_at hl 4 rfl) ?_
        refine lv_aload_n hx hb dX5_rootNearTwo_14 rfl (lv_at hl 0 rfl) ?_
        refine gf_X5_0 C hK hP mw_1_169 dX5_rootNearTwo_15 ?_
        refine gf_X2_1 C hK hP mw_1_55 dX5_rootNearTwo_18 ?_
        refine lv_icmp_ge (tgt := 72) hx hb dX5_rootNearTwo_21 (by decide) (fun c2 => ?_) (fun c2 => ?_)
        · have hf := sp1 c2 hf
          refine lv_lload hx hb dX5_rootNearTwo_72 (lv_at hl 3 rfl) ?_
          cases hf
          subst hQ
          exact he_l C hP hS dX5_rootNearTwo_74
        · have hf := sp0 c2 hf
          refine lv_lload hx hb dX5_rootNearTwo_24 (lv_at hl 3 rfl) ?_
          refine lv_lload hx hb dX5_rootNearTwo_26 (lv_at hl 3 rfl) ?_
          refine lv_lmul hx hb dX5_rootNearTwo_28 ?_
          refine lv_lload_n hx hb dX5_rootNearTwo_29 rfl (lv_at hl 1 rfl) ?_
          refine lv_lsub hx hb dX5_rootNearTwo_30 ?_
          refine lv_aload_n hx hb dX5_rootNearTwo_31 rfl (lv_at hl 0 rfl) ?_
          refine gf_X5_0 C hK hP mw_1_169 dX5_rootNearTwo_32 ?_
          refine lv_iload hx hb dX5_rootNearTwo_35 (lv_at hl 4 rfl) ?_
          refine lv_iconst (v := 1) hx hb dX5_rootNearTwo_37 (by decide) ?_
          refine lv_iadd hx hb dX5_rootNearTwo_38 ?_
          obtain ⟨v4, h3, hf⟩ := b1_some hf
          refine hc_V (As := [.int (x6 + 1)]) (rest := [.long ((x4 * x4) - x1)]) C hK (c_X2_power l D ct ad F hG (x6 + 1) S0  v4 h3) hl.1 cp_X2_power mw_2_66 (rc_X2 hK hP) hP hS ⟨rfl, rfl⟩ ⟨Nat.le_of_ble_eq_true rfl, Nat.le_of_ble_eq_true rfl⟩ rfl rfl (Nat.le_of_ble_eq_true rfl) dX5_rootNearTwo_39 ⟨Nat.le_of_ble_eq_true rfl, Nat.le_of_ble_eq_true rfl⟩ (fun H locs hP hS => ?_)
          obtain ⟨v5, h6, hf⟩ := b1_some hf
          refine pc_S (As := [.long ((x4 * x4) - x1), .long v4]) (rest := []) C (c_X8_rest l ((x4 * x4) - x1) v4 v5 h6) hl.1 cp_X8_rest mw_2_82 ⟨rfl, rfl⟩ ⟨Nat.le_of_ble_eq_true rfl, Nat.le_of_ble_eq_true rfl⟩ rfl rfl (Nat.le_of_ble_eq_true rfl) dX5_rootNearTwo_42 ⟨Nat.le_of_ble_eq_true rfl, Nat.le_of_ble_eq_true rfl⟩ ?_
          refine lv_lconst (v := 0) hx hb dX5_rootNearTwo_45 (by decide) ?_
          refine W.lcmp hx hb dX5_rootNearTwo_46 ?_
          refine lv_if_eq (tgt := 66) hx hb dX5_rootNearTwo_47 (by decide) (fun c7 => ?_) (fun c7 => ?_)
          · have hf := sp1 c7 hf
            refine lv_iinc (v := (x6 + 1)) (lv' := [(6, .int (x6 + 1)), (0, .ref (ad 1)), (1, .long x1), (3, .int x3), (4, .long x4)]) hx hb dX5_rootNearTwo_66 hl (k := 4) rfl rfl (by decide) rfl (fun ls hl => ?_)
            refine lv_goto (tgt := 6) hx hb dX5_rootNearTwo_69 (by decide) ?_
            exact hk_6 x1 x3 x4 (x6 + 1) _ _ _ (lv_sub hl [1, 2, 3, 4, 0] rfl) hP hS hf
          · have hf := sp0 c7 hf
            refine lv_lload hx hb dX5_rootNearTwo_50 (lv_at hl 3 rfl) ?_
            refine lv_aload_n hx hb dX5_rootNearTwo_52 rfl (lv_at hl 0 rfl) ?_
            refine gf_X5_0 C hK hP mw_1_169 dX5_rootNearTwo_53 ?_
            refine lv_iload hx hb dX5_rootNearTwo_56 (lv_at hl 4 rfl) ?_
            refine lv_iconst (v := 1) hx hb dX5_rootNearTwo_58 (by decide) ?_
            refine lv_isub hx hb dX5_rootNearTwo_59 ?_
            obtain ⟨v9, h8, hf⟩ := b1_some hf
            refine hc_V (As := [.int (x6 - 1)]) (rest := [.long x4]) C hK (c_X2_power l D ct ad F hG (x6 - 1) S0  v9 h8) hl.1 cp_X2_power mw_2_66 (rc_X2 hK hP) hP hS ⟨rfl, rfl⟩ ⟨Nat.le_of_ble_eq_true rfl, Nat.le_of_ble_eq_true rfl⟩ rfl rfl (Nat.le_of_ble_eq_true rfl) dX5_rootNearTwo_60 ⟨Nat.le_of_ble_eq_true rfl, Nat.le_of_ble_eq_true rfl⟩ (fun H locs hP hS => ?_)
            refine lv_ladd hx hb dX5_rootNearTwo_63 ?_
            refine lv_lstore (lv' := [(4, .long (x4 + v9)), (0, .ref (ad 1)), (1, .long x1), (3, .int x3), (6, .int x6)]) hx hb dX5_rootNearTwo_64 hl (by decide) rfl (fun ls hl => ?_)
            refine lv_iinc (v := (x6 + 1)) (lv' := [(6, .int (x6 + 1)), (4, .long (x4 + v9)), (0, .ref (ad 1)), (1, .long x1), (3, .int x3)]) hx hb dX5_rootNearTwo_66 hl (k := 4) rfl rfl (by decide) rfl (fun ls hl => ?_)
            refine lv_goto (tgt := 6) hx hb dX5_rootNearTwo_69 (by decide) ?_
            exact hk_6 x1 x3 (x4 + v9) (x6 + 1) _ _ _ (lv_sub hl [2, 3, 4, 1, 0] rfl) hP hS hf
    exact aux FU
  refine lv_lconst (v := 1) hx hb dX5_rootNearTwo_0 (by decide) ?_
  refine lv_lstore (lv' := [(4, .long 1), (0, .ref (ad 1)), (1, .long p0), (3, .int p1)]) hx hb dX5_rootNearTwo_1 hl (by decide) rfl (fun ls hl => ?_)
  refine lv_iconst (v := 3) hx hb dX5_rootNearTwo_3 (by decide) ?_
  refine lv_istore (lv' := [(6, .int 3), (4, .long 1), (0, .ref (ad 1)), (1, .long p0), (3, .int p1)]) hx hb dX5_rootNearTwo_4 hl (by decide) rfl (fun ls hl => ?_)
  exact w_6 p0 p1 1 3 _ _ _ (lv_sub hl [2, 3, 4, 1, 0] rfl) hP hS hf
theorem cp_X5_rootNearTwo : CPv yX5_rootNearTwo cX5_rootNearTwo 7 (some .long) 2 := ⟨mw_3_64, mw_1_2, mw_3_63, ms_18, by decide +kernel⟩
def rm_X5_rootDigit : Room := { frames := 1, cells := 0, slots := 0, locals := 29 }
set_option maxHeartbeats 4000000 in
set_option maxRecDepth 100000 in
theorem c_X5_rootDigit (l : Launch) (D : va_G) (ct : Nat → ClassId) (ad : Nat → Nat) (F : Nat → Prop) (hG : Gd ad 70 F) (p0 : Int64) (S0 : St)  (r : Int32) (hf : f_X5_rootDigit p0 S0 = some r) : MetH l yX5_rootDigit cX5_rootDigit 4 (some .int) rm_X5_rootDigit D (tysW ct) F [.ref (ad 1), .long p0] (some (.int r)) (cellsC ct ad S0) (cellsC ct ad S0) := by
  refine MetH.of RX5 (by decide) rfl (Nat.le_of_ble_eq_true rfl) ?_
  intro p e s m args below meth c C hK hP ls hl
  have hl : lv_has ls 4 [(0, .ref (ad 1)), (1, .long p0)] := hl
  obtain ⟨hx, hb, hr, hml, hown, htL, hlocks⟩ := id C
  have hS : va_S F s.heap s.heap [] := va_S.rf
  generalize hQ : MQ below (Hq D (cellsC ct ad S0) F (some (.int r))) args s 0 0 F = Q
  have w_2 : ∀ (x1 : Int64) (x3 : Int32), ∀ (H : Heap) (locs : List Loc) (ls : Array Slot), lv_has ls 4 [(0, .ref (ad 1)), (1, .long x1), (3, .int x3)] → va_P D vwCl (cellsC ct ad S0) H → va_S F s.heap H locs → n_X5_rootDigit_2 S0 x1 x3 = some r → W p l e rm_X5_rootDigit s m args below meth c H locs 0 0 Q (F0 m 2 ls []) := by
    have aux : ∀ (n : Nat), ∀ (x1 : Int64) (x3 : Int32), ∀ (H : Heap) (locs : List Loc) (ls : Array Slot), lv_has ls 4 [(0, .ref (ad 1)), (1, .long x1), (3, .int x3)] → va_P D vwCl (cellsC ct ad S0) H → va_S F s.heap H locs → itr (fun (q : Int64 × Int32) k => s_X5_rootDigit_2  (fun (x1 : Int64) (x3 : Int32) => k (x1, x3)) S0 q.1 q.2) n (x1, x3) = some r → W p l e rm_X5_rootDigit s m args below meth c H locs 0 0 Q (F0 m 2 ls []) := by
      intro n
      induction n with
      | zero => intro x1 x3 H locs ls hl hP hS hf; exact (itr_z hf).elim
      | succ n ih =>
      intro x1 x3 H locs ls hl hP hS hf
      have hk_2 := ih
      have hf : s_X5_rootDigit_2  (fun (x1 : Int64) (x3 : Int32) => itr (fun (q : Int64 × Int32) k => s_X5_rootDigit_2  (fun (x1 : Int64) (x3 : Int32) => k (x1, x3)) S0 q.1 q.2) n (x1, x3)) S0 x1 x3 = some r := hf
      refine lv_iload_n hx hb dX5_rootDigit_2 rfl (lv_at hl 2 rfl) ?_
      refine lv_aload_n hx hb dX5_rootDigit_3 rfl (lv_at hl 0 rfl) ?_
      refine gf_X5_0 C hK hP mw_1_169 dX5_rootDigit_4 ?_
      refine gf_X2_0 C hK hP mw_1_52 dX5_rootDigit_7 ?_
      refine lv_icmp_ge (tgt := 42) hx hb dX5_rootDigit_10 (by decide) (fun c1 => ?_) (fun c1 => ?_)
      · have hf := sp1 c1 hf
        refine lv_iconst (v := 0) hx hb dX5_rootDigit_42 (by decide) ?_
        cases hf
        subst hQ
        exact he_i C hP hS dX5_rootDigit_43
      · have hf := sp0 c1 hf
        refine lv_iload_n hx hb dX5_rootDigit_13 rfl (lv_at hl 2 rfl) ?_
        refine lv_i2l hx hb dX5_rootDigit_14 rfl ?_
        refine lv_iload_n hx hb dX5_rootDigit_15 rfl (lv_at hl 2 rfl) ?_
        refine lv_i2l hx hb dX5_rootDigit_16 rfl ?_
        refine lv_lmul hx hb dX5_rootDigit_17 ?_
        refine lv_aload_n hx hb dX5_rootDigit_18 rfl (lv_at hl 0 rfl) ?_
        refine gf_X5_0 C hK hP mw_1_169 dX5_rootDigit_19 ?_
        refine gf_X2_0 C hK hP mw_1_52 dX5_rootDigit_22 ?_
        refine lv_i2l hx hb dX5_rootDigit_25 rfl ?_
        obtain ⟨v2, h3, hf⟩ := b1_some hf
        refine pc_S (As := [.long ((Int32.toInt64 x3) * (Int32.toInt64 x3)), .long (Int32.toInt64 (S0.1 3 0))]) (rest := []) C (c_X8_rest l ((Int32.toInt64 x3) * (Int32.toInt64 x3)) (Int32.toInt64 (S0.1 3 0)) v2 h3) hl.1 cp_X8_rest mw_2_82 ⟨rfl, rfl⟩ ⟨Nat.le_of_ble_eq_true rfl, Nat.le_of_ble_eq_true rfl⟩ rfl rfl (Nat.le_of_ble_eq_true rfl) dX5_rootDigit_26 ⟨Nat.le_of_ble_eq_true rfl, Nat.le_of_ble_eq_true rfl⟩ ?_
        refine lv_lload_n hx hb dX5_rootDigit_29 rfl (lv_at hl 1 rfl) ?_
        refine W.lcmp hx hb dX5_rootDigit_30 ?_
        refine lv_if_ne (tgt := 36) hx hb dX5_rootDigit_31 (by decide) (fun c4 => ?_) (fun c4 => ?_)
        · have hf := sp0 c4 hf
          refine lv_iinc (v := (x3 + 1)) (lv' := [(3, .int (x3 + 1)), (0, .ref (ad 1)), (1, .long x1)]) hx hb dX5_rootDigit_36 hl (k := 2) rfl rfl (by decide) rfl (fun ls hl => ?_)
          refine lv_goto (tgt := 2) hx hb dX5_rootDigit_39 (by decide) ?_
          exact hk_2 x1 (x3 + 1) _ _ _ (lv_sub hl [1, 2, 0] rfl) hP hS hf
        · have hf := sp1 c4 hf
          refine lv_iload_n hx hb dX5_rootDigit_34 rfl (lv_at hl 2 rfl) ?_
          cases hf
          subst hQ
          exact he_i C hP hS dX5_rootDigit_35
    exact aux FU
  refine lv_iconst (v := 1) hx hb dX5_rootDigit_0 (by decide) ?_
  refine lv_istore_n (lv' := [(3, .int 1), (0, .ref (ad 1)), (1, .long p0)]) hx hb dX5_rootDigit_1 rfl hl (by decide) rfl (fun ls hl => ?_)
  exact w_2 p0 1 _ _ _ (lv_sub hl [1, 2, 0] rfl) hP hS hf
theorem cp_X5_rootDigit : CPv yX5_rootDigit cX5_rootDigit 4 (some .int) 1 := ⟨mw_3_69, mw_1_2, mw_3_68, ms_19, by decide +kernel⟩
def rm_X5_findSquareRoot : Room := { frames := 3, cells := 0, slots := 0, locals := 99 }
set_option maxHeartbeats 4000000 in
set_option maxRecDepth 100000 in
theorem c_X5_findSquareRoot (l : Launch) (D : va_G) (ct : Nat → ClassId) (ad : Nat → Nat) (F : Nat → Prop) (hG : Gd ad 70 F) (p0 : Nat) (p1 : Nat) (S0 : St) (hk_p0 : p0 < 42) (hk_p1 : p1 < 42) (S' : St) (hf : f_X5_findSquareRoot p0 p1 S0 = some S') : MetH l yX5_findSquareRoot cX5_findSquareRoot 14 none rm_X5_findSquareRoot D (tysW ct) F [.ref (ad 1), .ref (ad (12 + p0)), .ref (ad (12 + p1))] none (cellsC ct ad S0) (cellsC ct ad S') := by
  refine MetH.of RX5 (by decide) rfl (Nat.le_of_ble_eq_true rfl) ?_
  intro p e s m args below meth c C hK hP ls hl
  have hl : lv_has ls 14 [(0, .ref (ad 1)), (1, .ref (ad (12 + p0))), (2, .ref (ad (12 + p1)))] := hl
  obtain ⟨hx, hb, hr, hml, hown, htL, hlocks⟩ := id C
  have hS : va_S F s.heap s.heap [] := va_S.rf
  generalize hQ : MQ below (Hq D (cellsC ct ad S') F none) args s 0 0 F = Q
  have w_98 : ∀ (x1 : Nat) (x2 : Nat) (x3 : Int32) (x4 : Int32) (x5 : Int64) (x7 : Int64) (x9 : Int64) (x11 : Int32) (S : St), x1 < 42 → x2 < 42 → ∀ (H : Heap) (locs : List Loc) (ls : Array Slot), lv_has ls 14 [(0, .ref (ad 1)), (1, .ref (ad (12 + x1))), (2, .ref (ad (12 + x2))), (3, .int x3), (4, .int x4), (5, .long x5), (7, .long x7), (9, .long x9), (11, .int x11)] → va_P D vwCl (cellsC ct ad S) H → va_S F s.heap H locs → n_X5_findSquareRoot_98 x1 x2 x3 x4 x5 x7 x9 x11 S = some S' → W p l e rm_X5_findSquareRoot s m args below meth c H locs 0 0 Q (F0 m 98 ls []) := by
    have aux : ∀ (n : Nat), ∀ (x1 : Nat) (x2 : Nat) (x3 : Int32) (x4 : Int32) (x5 : Int64) (x7 : Int64) (x9 : Int64) (x11 : Int32) (S : St), x1 < 42 → x2 < 42 → ∀ (H : Heap) (locs : List Loc) (ls : Array Slot), lv_has ls 14 [(0, .ref (ad 1)), (1, .ref (ad (12 + x1))), (2, .ref (ad (12 + x2))), (3, .int x3), (4, .int x4), (5, .long x5), (7, .long x7), (9, .long x9), (11, .int x11)] → va_P D vwCl (cellsC ct ad S) H → va_S F s.heap H locs → itr (fun (q : Nat × Nat × Int32 × Int32 × Int64 × Int64 × Int64 × Int32 × St) k => s_X5_findSquareRoot_98  (fun (x1 : Nat) (x2 : Nat) (x3 : Int32) (x4 : Int32) (x5 : Int64) (x7 : Int64) (x9 : Int64) (x11 : Int32) (S : St) => k (x1, x2, x3, x4, x5, x7, x9, x11, S)) q.1 q.2.1 q.2.2.1 q.2.2.2.1 q.2.2.2.2.1 q.2.2.2.2.2.1 q.2.2.2.2.2.2.1 q.2.2.2.2.2.2.2.1 q.2.2.2.2.2.2.2.2) n (x1, x2, x3, x4, x5, x7, x9, x11, S) = some S' → W p l e rm_X5_findSquareRoot s m args below meth c H locs 0 0 Q (F0 m 98 ls []) := by
      intro n
      induction n with
      | zero => intro x1 x2 x3 x4 x5 x7 x9 x11 S hk_x1 hk_x2 H locs ls hl hP hS hf; exact (itr_z hf).elim
      | succ n ih =>
      intro x1 x2 x3 x4 x5 x7 x9 x11 S hk_x1 hk_x2 H locs ls hl hP hS hf
      have hk_98 := ih
      have hf : s_X5_findSquareRoot_98  (fun (x1 : Nat) (x2 : Nat) (x3 : Int32) (x4 : Int32) (x5 : Int64) (x7 : Int64) (x9 : Int64) (x11 : Int32) (S : St) => itr (fun (q : Nat × Nat × Int32 × Int32 × Int64 × Int64 × Int64 × Int32 × St) k => s_X5_findSquareRoot_98  (fun (x1 : Nat) (x2 : Nat) (x3 : Int32) (x4 : Int32) (x5 : Int64) (x7 : Int64) (x9 : Int64) (x11 : Int32) (S : St) => k (x1, x2, x3, x4, x5, x7, x9, x11, S)) q.1 q.2.1 q.2.2.1 q.2.2.2.1 q.2.2.2.2.1 q.2.2.2.2.2.1 q.2.2.2.2.2.2.1 q.2.2.2.2.2.2.2.1 q.2.2.2.2.2.2.2.2) n (x1, x2, x3, x4, x5, x7, x9, x11, S)) x1 x2 x3 x4 x5 x7 x9 x11 S = some S' := hf
      refine lv_iload hx hb dX5_findSquareRoot_98 (lv_at hl 8 rfl) ?_
      refine lv_bipush (v := 6) hx hb dX5_findSquareRoot_100 (by decide) ?_
      refine lv_icmp_ge (tgt := 143) hx hb dX5_findSquareRoot_102 (by decide) (fun c1 => ?_) (fun c1 => ?_)
      · have hf := sp1 c1 hf
        refine lv_aload_n hx hb dX5_findSquareRoot_143 rfl (lv_at hl 0 rfl) ?_
        refine lv_aload_n hx hb dX5_findSquareRoot_144 rfl (lv_at hl 1 rfl) ?_
        refine lv_iload_n hx hb dX5_findSquareRoot_145 rfl (lv_at hl 3 rfl) ?_
        refine lv_iload_n hx hb dX5_findSquareRoot_146 rfl (lv_at hl 3 rfl) ?_
        refine lv_iload hx hb dX5_findSquareRoot_147 (lv_at hl 4 rfl) ?_
        refine lv_iadd hx hb dX5_findSquareRoot_149 ?_
        refine lv_lload hx hb dX5_findSquareRoot_150 (lv_at hl 7 rfl) ?_
        obtain ⟨S3, h2, hf⟩ := b1_some hf
        refine hc_V (As := [.ref (ad (12 + x1)), .int x3, .int (x3 + x4), .long x9]) (rest := []) C hK (c_X5_settle l D ct ad F hG x1 x3 (x3 + x4) x9 S hk_x1 S3 h2) hl.1 cp_X5_settle mw_2_78 (rc_X5 hK hP) hP hS ⟨rfl, rfl⟩ ⟨Nat.le_of_ble_eq_true rfl, Nat.le_of_ble_eq_true rfl⟩ rfl rfl (Nat.le_of_ble_eq_true rfl) dX5_findSquareRoot_152 ⟨Nat.le_of_ble_eq_true rfl, Nat.le_of_ble_eq_true rfl⟩ (fun H locs hP hS => ?_)
        cases hf
        subst hQ
        exact he_v C hP hS dX5_findSquareRoot_155
      · have hf := sp0 c1 hf
        refine lv_aload_n hx hb dX5_findSquareRoot_105 rfl (lv_at hl 2 rfl) ?_
        refine gf_X3_10 C hK hP hk_x2 mw_1_136 dX5_findSquareRoot_106 ?_
        refine lv_lload hx hb dX5_findSquareRoot_109 (lv_at hl 7 rfl) ?_
        refine lv_lload hx hb dX5_findSquareRoot_111 (lv_at hl 5 rfl) ?_
        obtain ⟨v4, h5, hf⟩ := b1_some hf
        refine pc_S (As := [.long x9, .long x5]) (rest := [.long (S.2 (12 + x2) 10)]) C (c_X8_inverseModulo l x9 x5 v4 h5) hl.1 cp_X8_inverseModulo mw_3_50 ⟨rfl, rfl⟩ ⟨Nat.le_of_ble_eq_true rfl, Nat.le_of_ble_eq_true rfl⟩ rfl rfl (Nat.le_of_ble_eq_true rfl) dX5_findSquareRoot_113 ⟨Nat.le_of_ble_eq_true rfl, Nat.le_of_ble_eq_true rfl⟩ ?_
        refine lv_lload hx hb dX5_findSquareRoot_116 (lv_at hl 5 rfl) ?_
        obtain ⟨v6, h7, hf⟩ := b1_some hf
        refine pc_S (As := [.long (S.2 (12 + x2) 10), .long v4, .long x5]) (rest := []) C (c_X8_timesModulo l (S.2 (12 + x2) 10) v4 x5 v6 h7) hl.1 cp_X8_timesModulo mw_2_72 ⟨rfl, rfl⟩ ⟨Nat.le_of_ble_eq_true rfl, Nat.le_of_ble_eq_true rfl⟩ rfl rfl (Nat.le_of_ble_eq_true rfl) dX5_findSquareRoot_118 ⟨Nat.le_of_ble_eq_true rfl, Nat.le_of_ble_eq_true rfl⟩ ?_
        refine lv_lstore (lv' := [(12, .long v6), (0, .ref (ad 1)), (1, .ref (ad (12 + x1))), (2, .ref (ad (12 + x2))), (3, .int x3), (4, .int x4), (5, .long x5), (7, .long x7), (9, .long x9), (11, .int x11)]) hx hb dX5_findSquareRoot_121 hl (by decide) rfl (fun ls hl => ?_)
        refine lv_lload hx hb dX5_findSquareRoot_123 (lv_at hl 8 rfl) ?_
        refine lv_lload hx hb dX5_findSquareRoot_125 (lv_at hl 0 rfl) ?_
        refine lv_ladd hx hb dX5_findSquareRoot_127 ?_
        refine lv_lload hx hb dX5_findSquareRoot_128 (lv_at hl 7 rfl) ?_
        refine lv_lload hx hb dX5_findSquareRoot_130 (lv_at hl 6 rfl) ?_
        obtain ⟨v8, h9, hf⟩ := b1_some hf
        refine pc_S (As := [.long (x9 + v6), .long x7, .long x5]) (rest := []) C (c_X8_timesModulo l (x9 + v6) x7 x5 v8 h9) hl.1 cp_X8_timesModulo mw_2_72 ⟨rfl, rfl⟩ ⟨Nat.le_of_ble_eq_true rfl, Nat.le_of_ble_eq_true rfl⟩ rfl rfl (Nat.le_of_ble_eq_true rfl) dX5_findSquareRoot_132 ⟨Nat.le_of_ble_eq_true rfl, Nat.le_of_ble_eq_true rfl⟩ ?_
        refine lv_lstore (lv' := [(9, .long v8), (12, .long v6), (0, .ref (ad 1)), (1, .ref (ad (12 + x1))), (2, .ref (ad (12 + x2))), (3, .int x3), (4, .int x4), (5, .long x5), (7, .long x7), (11, .int x11)]) hx hb dX5_findSquareRoot_135 hl (by decide) rfl (fun ls hl => ?_)
        refine lv_iinc (v := (x11 + 1)) (lv' := [(11, .int (x11 + 1)), (9, .long v8), (12, .long v6), (0, .ref (ad 1)), (1, .ref (ad (12 + x1))), (2, .ref (ad (12 + x2))), (3, .int x3), (4, .int x4), (5, .long x5), (7, .long x7)]) hx hb dX5_findSquareRoot_137 hl (k := 9) rfl rfl (by decide) rfl (fun ls hl => ?_)
        refine lv_goto (tgt := 98) hx hb dX5_findSquareRoot_140 (by decide) ?_
        exact hk_98 x1 x2 x3 x4 x5 x7 v8 (x11 + 1) S hk_x1 hk_x2 _ _ _ (lv_sub hl [3, 4, 5, 6, 7, 8, 9, 1, 0] rfl) hP hS hf
    exact aux FU
  refine lv_aload_n hx hb dX5_findSquareRoot_0 rfl (lv_at hl 2 rfl) ?_
  refine gf_X3_8 C hK hP hk_p1 mw_1_131 dX5_findSquareRoot_1 ?_
  refine lv_iconst (v := 2) hx hb dX5_findSquareRoot_4 (by decide) ?_
  refine lv_idiv hx hb dX5_findSquareRoot_5 (by decide) ?_
  refine lv_istore_n (lv' := [(3, .int ((S0.1 (12 + p1) 8) / 2)), (0, .ref (ad 1)), (1, .ref (ad (12 + p0))), (2, .ref (ad (12 + p1)))]) hx hb dX5_findSquareRoot_6 rfl hl (by decide) rfl (fun ls hl => ?_)
  refine lv_aload_n hx hb dX5_findSquareRoot_7 rfl (lv_at hl 3 rfl) ?_
  refine gf_X3_9 C hK hP hk_p1 mw_1_133 dX5_findSquareRoot_8 ?_
  refine lv_aload_n hx hb dX5_findSquareRoot_11 rfl (lv_at hl 3 rfl) ?_
  refine gf_X3_8 C hK hP hk_p1 mw_1_131 dX5_findSquareRoot_12 ?_
  refine lv_isub hx hb dX5_findSquareRoot_15 ?_
  refine lv_istore (lv' := [(4, .int ((S0.1 (12 + p1) 9) - (S0.1 (12 + p1) 8))), (3, .int ((S0.1 (12 + p1) 8) / 2)), (0, .ref (ad 1)), (1, .ref (ad (12 + p0))), (2, .ref (ad (12 + p1)))]) hx hb dX5_findSquareRoot_16 hl (by decide) rfl (fun ls hl => ?_)
  refine lv_aload_n hx hb dX5_findSquareRoot_18 rfl (lv_at hl 2 rfl) ?_
  refine gf_X5_0 C hK hP mw_1_169 dX5_findSquareRoot_19 ?_
  refine gf_X2_0 C hK hP mw_1_52 dX5_findSquareRoot_22 ?_
  refine lv_iconst (v := 2) hx hb dX5_findSquareRoot_25 (by decide) ?_
  refine lv_icmp_ne (tgt := 52) hx hb dX5_findSquareRoot_26 (by decide) (fun c10 => ?_) (fun c10 => ?_)
  · have hf := sp0 c10 hf
    refine lv_aload_n hx hb dX5_findSquareRoot_52 rfl (lv_at hl 2 rfl) ?_
    refine gf_X5_0 C hK hP mw_1_169 dX5_findSquareRoot_53 ?_
    refine lv_iload hx hb dX5_findSquareRoot_56 (lv_at hl 0 rfl) ?_
    obtain ⟨v12, h11, hf⟩ := b1_some hf
    refine hc_V (As := [.int ((S0.1 (12 + p1) 9) - (S0.1 (12 + p1) 8))]) (rest := []) C hK (c_X2_power l D ct ad F hG ((S0.1 (12 + p1) 9) - (S0.1 (12 + p1) 8)) S0  v12 h11) hl.1 cp_X2_power mw_2_66 (rc_X2 hK hP) hP hS ⟨rfl, rfl⟩ ⟨Nat.le_of_ble_eq_true rfl, Nat.le_of_ble_eq_true rfl⟩ rfl rfl (Nat.le_of_ble_eq_true rfl) dX5_findSquareRoot_58 ⟨Nat.le_of_ble_eq_true rfl, Nat.le_of_ble_eq_true rfl⟩ (fun H locs hP hS => ?_)
    refine lv_lstore (lv' := [(5, .long v12), (4, .int ((S0.1 (12 + p1) 9) - (S0.1 (12 + p1) 8))), (3, .int ((S0.1 (12 + p1) 8) / 2)), (0, .ref (ad 1)), (1, .ref (ad (12 + p0))), (2, .ref (ad (12 + p1)))]) hx hb dX5_findSquareRoot_61 hl (by decide) rfl (fun ls hl => ?_)
    refine lv_ldc2 (v := 2) hx hb hown (htL _ mw_3_65) dX5_findSquareRoot_63 ?_
    refine lv_lload hx hb dX5_findSquareRoot_66 (lv_at hl 0 rfl) ?_
    obtain ⟨v13, h14, hf⟩ := b1_some hf
    refine pc_S (As := [.long (2), .long v12]) (rest := []) C (c_X8_inverseModulo l (2) v12 v13 h14) hl.1 cp_X8_inverseModulo mw_3_50 ⟨rfl, rfl⟩ ⟨Nat.le_of_ble_eq_true rfl, Nat.le_of_ble_eq_true rfl⟩ rfl rfl (Nat.le_of_ble_eq_true rfl) dX5_findSquareRoot_68 ⟨Nat.le_of_ble_eq_true rfl, Nat.le_of_ble_eq_true rfl⟩ ?_
    refine lv_lstore (lv' := [(7, .long v13), (5, .long v12), (4, .int ((S0.1 (12 + p1) 9) - (S0.1 (12 + p1) 8))), (3, .int ((S0.1 (12 + p1) 8) / 2)), (0, .ref (ad 1)), (1, .ref (ad (12 + p0))), (2, .ref (ad (12 + p1)))]) hx hb dX5_findSquareRoot_71 hl (by decide) rfl (fun ls hl => ?_)
    refine lv_aload_n hx hb dX5_findSquareRoot_73 rfl (lv_at hl 4 rfl) ?_
    refine lv_aload_n hx hb dX5_findSquareRoot_74 rfl (lv_at hl 6 rfl) ?_
    refine gf_X3_10 C hK hP hk_p1 mw_1_136 dX5_findSquareRoot_75 ?_
    refine lv_aload_n hx hb dX5_findSquareRoot_78 rfl (lv_at hl 4 rfl) ?_
    refine gf_X5_0 C hK hP mw_1_169 dX5_findSquareRoot_79 ?_
    refine gf_X2_0 C hK hP mw_1_52 dX5_findSquareRoot_82 ?_
    refine lv_i2l hx hb dX5_findSquareRoot_85 rfl ?_
    obtain ⟨v15, h16, hf⟩ := b1_some hf
    refine pc_S (As := [.long (S0.2 (12 + p1) 10), .long (Int32.toInt64 (S0.1 3 0))]) (rest := [.ref (ad 1)]) C (c_X8_rest l (S0.2 (12 + p1) 10) (Int32.toInt64 (S0.1 3 0)) v15 h16) hl.1 cp_X8_rest mw_2_82 ⟨rfl, rfl⟩ ⟨Nat.le_of_ble_eq_true rfl, Nat.le_of_ble_eq_true rfl⟩ rfl rfl (Nat.le_of_ble_eq_true rfl) dX5_findSquareRoot_86 ⟨Nat.le_of_ble_eq_true rfl, Nat.le_of_ble_eq_true rfl⟩ ?_
    obtain ⟨v18, h17, hf⟩ := b1_some hf
    refine hc_V (As := [.long v15]) (rest := []) C hK (c_X5_rootDigit l D ct ad F hG v15 S0  v18 h17) hl.1 cp_X5_rootDigit mw_3_66 (rc_X5 hK hP) hP hS ⟨rfl, rfl⟩ ⟨Nat.le_of_ble_eq_true rfl, Nat.le_of_ble_eq_true rfl⟩ rfl rfl (Nat.le_of_ble_eq_true rfl) dX5_findSquareRoot_89 ⟨Nat.le_of_ble_eq_true rfl, Nat.le_of_ble_eq_true rfl⟩ (fun H locs hP hS => ?_)
    refine lv_i2l hx hb dX5_findSquareRoot_92 rfl ?_
    refine lv_lstore (lv' := [(9, .long (Int32.toInt64 v18)), (7, .long v13), (5, .long v12), (4, .int ((S0.1 (12 + p1) 9) - (S0.1 (12 + p1) 8))), (3, .int ((S0.1 (12 + p1) 8) / 2)), (0, .ref (ad 1)), (1, .ref (ad (12 + p0))), (2, .ref (ad (12 + p1)))]) hx hb dX5_findSquareRoot_93 hl (by decide) rfl (fun ls hl => ?_)
    refine lv_iconst (v := 0) hx hb dX5_findSquareRoot_95 (by decide) ?_
    refine lv_istore (lv' := [(11, .int 0), (9, .long (Int32.toInt64 v18)), (7, .long v13), (5, .long v12), (4, .int ((S0.1 (12 + p1) 9) - (S0.1 (12 + p1) 8))), (3, .int ((S0.1 (12 + p1) 8) / 2)), (0, .ref (ad 1)), (1, .ref (ad (12 + p0))), (2, .ref (ad (12 + p1)))]) hx hb dX5_findSquareRoot_96 hl (by decide) rfl (fun ls hl => ?_)
    exact w_98 p0 p1 ((S0.1 (12 + p1) 8) / 2) ((S0.1 (12 + p1) 9) - (S0.1 (12 + p1) 8)) v12 v13 (Int32.toInt64 v18) 0 S0 hk_p0 hk_p1 _ _ _ (lv_sub hl [6, 7, 8, 5, 4, 3, 2, 1, 0] rfl) hP hS hf
  · have hf := sp1 c10 hf
    refine lv_aload_n hx hb dX5_findSquareRoot_29 rfl (lv_at hl 2 rfl) ?_
    refine lv_aload_n hx hb dX5_findSquareRoot_30 rfl (lv_at hl 3 rfl) ?_
    refine lv_iload_n hx hb dX5_findSquareRoot_31 rfl (lv_at hl 1 rfl) ?_
    refine lv_iload_n hx hb dX5_findSquareRoot_32 rfl (lv_at hl 1 rfl) ?_
    refine lv_iload hx hb dX5_findSquareRoot_33 (lv_at hl 0 rfl) ?_
    refine lv_iadd hx hb dX5_findSquareRoot_35 ?_
    refine lv_iconst (v := 1) hx hb dX5_findSquareRoot_36 (by decide) ?_
    refine lv_isub hx hb dX5_findSquareRoot_37 ?_
    refine lv_aload_n hx hb dX5_findSquareRoot_38 rfl (lv_at hl 2 rfl) ?_
    refine lv_aload_n hx hb dX5_findSquareRoot_39 rfl (lv_at hl 4 rfl) ?_
    refine gf_X3_10 C hK hP hk_p1 mw_1_136 dX5_findSquareRoot_40 ?_
    refine lv_iload hx hb dX5_findSquareRoot_43 (lv_at hl 0 rfl) ?_
    obtain ⟨v20, h19, hf⟩ := b1_some hf
    refine hc_V (As := [.long (S0.2 (12 + p1) 10), .int ((S0.1 (12 + p1) 9) - (S0.1 (12 + p1) 8))]) (rest := [.int ((((S0.1 (12 + p1) 8) / 2) + ((S0.1 (12 + p1) 9) - (S0.1 (12 + p1) 8))) - 1), .int ((S0.1 (12 + p1) 8) / 2), .ref (ad (12 + p0)), .ref (ad 1)]) C hK (c_X5_rootNearTwo l D ct ad F hG (S0.2 (12 + p1) 10) ((S0.1 (12 + p1) 9) - (S0.1 (12 + p1) 8)) S0  v20 h19) hl.1 cp_X5_rootNearTwo mw_3_61 (rc_X5 hK hP) hP hS ⟨rfl, rfl⟩ ⟨Nat.le_of_ble_eq_true rfl, Nat.le_of_ble_eq_true rfl⟩ rfl rfl (Nat.le_of_ble_eq_true rfl) dX5_findSquareRoot_45 ⟨Nat.le_of_ble_eq_true rfl, Nat.le_of_ble_eq_true rfl⟩ (fun H locs hP hS => ?_)
    obtain ⟨S22, h21, hf⟩ := b1_some hf
    refine hc_V (As := [.ref (ad (12 + p0)), .int ((S0.1 (12 + p1) 8) / 2), .int ((((S0.1 (12 + p1) 8) / 2) + ((S0.1 (12 + p1) 9) - (S0.1 (12 + p1) 8))) - 1), .long v20]) (rest := []) C hK (c_X5_settle l D ct ad F hG p0 ((S0.1 (12 + p1) 8) / 2) ((((S0.1 (12 + p1) 8) / 2) + ((S0.1 (12 + p1) 9) - (S0.1 (12 + p1) 8))) - 1) v20 S0 hk_p0 S22 h21) hl.1 cp_X5_settle mw_2_78 (rc_X5 hK hP) hP hS ⟨rfl, rfl⟩ ⟨Nat.le_of_ble_eq_true rfl, Nat.le_of_ble_eq_true rfl⟩ rfl rfl (Nat.le_of_ble_eq_true rfl) dX5_findSquareRoot_48 ⟨Nat.le_of_ble_eq_true rfl, Nat.le_of_ble_eq_true rfl⟩ (fun H locs hP hS => ?_)
    cases hf
    subst hQ
    exact he_v C hP hS dX5_findSquareRoot_51
theorem cp_X5_findSquareRoot : CPv yX5_findSquareRoot cX5_findSquareRoot 14 none 2 := ⟨mw_3_60, mw_1_2, mw_3_59, ms_17, by decide +kernel⟩
def rm_X5_findRootOfUnity : Room := { frames := 3, cells := 0, slots := 0, locals := 99 }
set_option maxHeartbeats 4000000 in
set_option maxRecDepth 100000 in
theorem c_X5_findRootOfUnity (l : Launch) (D : va_G) (ct : Nat → ClassId) (ad : Nat → Nat) (F : Nat → Prop) (hG : Gd ad 70 F) (p0 : Nat) (p1 : Nat) (S0 : St) (hk_p0 : p0 < 42) (hk_p1 : p1 < 42) (S' : St) (hf : f_X5_findRootOfUnity p0 p1 S0 = some S') : MetH l yX5_findRootOfUnity cX5_findRootOfUnity 9 none rm_X5_findRootOfUnity D (tysW ct) F [.ref (ad 1), .ref (ad (12 + p0)), .ref (ad (12 + p1))] none (cellsC ct ad S0) (cellsC ct ad S') := by
  refine MetH.of RX5 (by decide) rfl (Nat.le_of_ble_eq_true rfl) ?_
  intro p e s m args below meth c C hK hP ls hl
  have hl : lv_has ls 9 [(0, .ref (ad 1)), (1, .ref (ad (12 + p0))), (2, .ref (ad (12 + p1)))] := hl
  obtain ⟨hx, hb, hr, hml, hown, htL, hlocks⟩ := id C
  have hS : va_S F s.heap s.heap [] := va_S.rf
  generalize hQ : MQ below (Hq D (cellsC ct ad S') F none) args s 0 0 F = Q
  have w_29 : ∀ (x1 : Nat) (x3 : Int32) (x4 : Int64) (x6 : Int64) (x8 : Int32) (S : St), x1 < 42 → ∀ (H : Heap) (locs : List Loc) (ls : Array Slot), lv_has ls 9 [(0, .ref (ad 1)), (1, .ref (ad (12 + x1))), (3, .int x3), (4, .long x4), (6, .long x6), (8, .int x8)] → va_P D vwCl (cellsC ct ad S) H → va_S F s.heap H locs → n_X5_findRootOfUnity_29 x1 x3 x4 x6 x8 S = some S' → W p l e rm_X5_findRootOfUnity s m args below meth c H locs 0 0 Q (F0 m 29 ls []) := by
    have aux : ∀ (n : Nat), ∀ (x1 : Nat) (x3 : Int32) (x4 : Int64) (x6 : Int64) (x8 : Int32) (S : St), x1 < 42 → ∀ (H : Heap) (locs : List Loc) (ls : Array Slot), lv_has ls 9 [(0, .ref (ad 1)), (1, .ref (ad (12 + x1))), (3, .int x3), (4, .long x4), (6, .long x6), (8, .int x8)] → va_P D vwCl (cellsC ct ad S) H → va_S F s.heap H locs → itr (fun (q : Nat × Int32 × Int64 × Int64 × Int32 × St) k => s_X5_findRootOfUnity_29  (fun (x1 : Nat) (x3 : Int32) (x4 : Int64) (x6 : Int64) (x8 : Int32) (S : St) => k (x1, x3, x4, x6, x8, S)) q.1 q.2.1 q.2.2.1 q.2.2.2.1 q.2.2.2.2.1 q.2.2.2.2.2) n (x1, x3, x4, x6, x8, S) = some S' → W p l e rm_X5_findRootOfUnity s m args below meth c H locs 0 0 Q (F0 m 29 ls []) := by
      intro n
      induction n with
      | zero => intro x1 x3 x4 x6 x8 S hk_x1 H locs ls hl hP hS hf; exact (itr_z hf).elim
      | succ n ih =>
      intro x1 x3 x4 x6 x8 S hk_x1 H locs ls hl hP hS hf
      have hk_29 := ih
      have hf : s_X5_findRootOfUnity_29  (fun (x1 : Nat) (x3 : Int32) (x4 : Int64) (x6 : Int64) (x8 : Int32) (S : St) => itr (fun (q : Nat × Int32 × Int64 × Int64 × Int32 × St) k => s_X5_findRootOfUnity_29  (fun (x1 : Nat) (x3 : Int32) (x4 : Int64) (x6 : Int64) (x8 : Int32) (S : St) => k (x1, x3, x4, x6, x8, S)) q.1 q.2.1 q.2.2.1 q.2.2.2.1 q.2.2.2.2.1 q.2.2.2.2.2) n (x1, x3, x4, x6, x8, S)) x1 x3 x4 x6 x8 S = some S' := hf
      refine lv_iload hx hb dX5_findRootOfUnity_29 (lv_at hl 5 rfl) ?_
      refine lv_iload_n hx hb dX5_findRootOfUnity_31 rfl (lv_at hl 2 rfl) ?_
      refine lv_icmp_ge (tgt := 58) hx hb dX5_findRootOfUnity_32 (by decide) (fun c1 => ?_) (fun c1 => ?_)
      · have hf := sp1 c1 hf
        refine lv_aload_n hx hb dX5_findRootOfUnity_58 rfl (lv_at hl 0 rfl) ?_
        refine lv_aload_n hx hb dX5_findRootOfUnity_59 rfl (lv_at hl 1 rfl) ?_
        refine lv_iconst (v := 0) hx hb dX5_findRootOfUnity_60 (by decide) ?_
        refine lv_iload_n hx hb dX5_findRootOfUnity_61 rfl (lv_at hl 2 rfl) ?_
        refine lv_lload hx hb dX5_findRootOfUnity_62 (lv_at hl 4 rfl) ?_
        obtain ⟨S3, h2, hf⟩ := b1_some hf
        refine hc_V (As := [.ref (ad (12 + x1)), .int 0, .int x3, .long x6]) (rest := []) C hK (c_X5_settle l D ct ad F hG x1 0 x3 x6 S hk_x1 S3 h2) hl.1 cp_X5_settle mw_2_78 (rc_X5 hK hP) hP hS ⟨rfl, rfl⟩ ⟨Nat.le_of_ble_eq_true rfl, Nat.le_of_ble_eq_true rfl⟩ rfl rfl (Nat.le_of_ble_eq_true rfl) dX5_findRootOfUnity_64 ⟨Nat.le_of_ble_eq_true rfl, Nat.le_of_ble_eq_true rfl⟩ (fun H locs hP hS => ?_)
        cases hf
        subst hQ
        exact he_v C hP hS dX5_findRootOfUnity_67
      · have hf := sp0 c1 hf
        refine lv_lload hx hb dX5_findRootOfUnity_35 (lv_at hl 4 rfl) ?_
        refine lv_aload_n hx hb dX5_findRootOfUnity_37 rfl (lv_at hl 0 rfl) ?_
        refine gf_X5_0 C hK hP mw_1_169 dX5_findRootOfUnity_38 ?_
        refine gf_X2_0 C hK hP mw_1_52 dX5_findRootOfUnity_41 ?_
        refine lv_i2l hx hb dX5_findRootOfUnity_44 rfl ?_
        refine lv_lload hx hb dX5_findRootOfUnity_45 (lv_at hl 3 rfl) ?_
        obtain ⟨v4, h5, hf⟩ := b1_some hf
        refine pc_S (As := [.long x6, .long (Int32.toInt64 (S.1 3 0)), .long x4]) (rest := []) C (c_X8_powerModulo l x6 (Int32.toInt64 (S.1 3 0)) x4 v4 h5) hl.1 cp_X8_powerModulo mw_3_74 ⟨rfl, rfl⟩ ⟨Nat.le_of_ble_eq_true rfl, Nat.le_of_ble_eq_true rfl⟩ rfl rfl (Nat.le_of_ble_eq_true rfl) dX5_findRootOfUnity_47 ⟨Nat.le_of_ble_eq_true rfl, Nat.le_of_ble_eq_true rfl⟩ ?_
        refine lv_lstore (lv' := [(6, .long v4), (0, .ref (ad 1)), (1, .ref (ad (12 + x1))), (3, .int x3), (4, .long x4), (8, .int x8)]) hx hb dX5_findRootOfUnity_50 hl (by decide) rfl (fun ls hl => ?_)
        refine lv_iinc (v := (x8 + 1)) (lv' := [(8, .int (x8 + 1)), (6, .long v4), (0, .ref (ad 1)), (1, .ref (ad (12 + x1))), (3, .int x3), (4, .long x4)]) hx hb dX5_findRootOfUnity_52 hl (k := 5) rfl rfl (by decide) rfl (fun ls hl => ?_)
        refine lv_goto (tgt := 29) hx hb dX5_findRootOfUnity_55 (by decide) ?_
        exact hk_29 x1 x3 x4 v4 (x8 + 1) S hk_x1 _ _ _ (lv_sub hl [2, 3, 4, 5, 1, 0] rfl) hP hS hf
    exact aux FU
  refine lv_aload_n hx hb dX5_findRootOfUnity_0 rfl (lv_at hl 2 rfl) ?_
  refine gf_X3_9 C hK hP hk_p1 mw_1_133 dX5_findRootOfUnity_1 ?_
  refine lv_aload_n hx hb dX5_findRootOfUnity_4 rfl (lv_at hl 2 rfl) ?_
  refine gf_X3_8 C hK hP hk_p1 mw_1_131 dX5_findRootOfUnity_5 ?_
  refine lv_isub hx hb dX5_findRootOfUnity_8 ?_
  refine lv_istore_n (lv' := [(3, .int ((S0.1 (12 + p1) 9) - (S0.1 (12 + p1) 8))), (0, .ref (ad 1)), (1, .ref (ad (12 + p0))), (2, .ref (ad (12 + p1)))]) hx hb dX5_findRootOfUnity_9 rfl hl (by decide) rfl (fun ls hl => ?_)
  refine lv_aload_n hx hb dX5_findRootOfUnity_10 rfl (lv_at hl 1 rfl) ?_
  refine gf_X5_0 C hK hP mw_1_169 dX5_findRootOfUnity_11 ?_
  refine lv_iload_n hx hb dX5_findRootOfUnity_14 rfl (lv_at hl 0 rfl) ?_
  obtain ⟨v7, h6, hf⟩ := b1_some hf
  refine hc_V (As := [.int ((S0.1 (12 + p1) 9) - (S0.1 (12 + p1) 8))]) (rest := []) C hK (c_X2_power l D ct ad F hG ((S0.1 (12 + p1) 9) - (S0.1 (12 + p1) 8)) S0  v7 h6) hl.1 cp_X2_power mw_2_66 (rc_X2 hK hP) hP hS ⟨rfl, rfl⟩ ⟨Nat.le_of_ble_eq_true rfl, Nat.le_of_ble_eq_true rfl⟩ rfl rfl (Nat.le_of_ble_eq_true rfl) dX5_findRootOfUnity_15 ⟨Nat.le_of_ble_eq_true rfl, Nat.le_of_ble_eq_true rfl⟩ (fun H locs hP hS => ?_)
  refine lv_lstore (lv' := [(4, .long v7), (3, .int ((S0.1 (12 + p1) 9) - (S0.1 (12 + p1) 8))), (0, .ref (ad 1)), (1, .ref (ad (12 + p0))), (2, .ref (ad (12 + p1)))]) hx hb dX5_findRootOfUnity_18 hl (by decide) rfl (fun ls hl => ?_)
  refine lv_aload_n hx hb dX5_findRootOfUnity_20 rfl (lv_at hl 4 rfl) ?_
  refine gf_X3_10 C hK hP hk_p1 mw_1_136 dX5_findRootOfUnity_21 ?_
  refine lv_lstore (lv' := [(6, .long (S0.2 (12 + p1) 10)), (4, .long v7), (3, .int ((S0.1 (12 + p1) 9) - (S0.1 (12 + p1) 8))), (0, .ref (ad 1)), (1, .ref (ad (12 + p0))), (2, .ref (ad (12 + p1)))]) hx hb dX5_findRootOfUnity_24 hl (by decide) rfl (fun ls hl => ?_)
  refine lv_iconst (v := 0) hx hb dX5_findRootOfUnity_26 (by decide) ?_
  refine lv_istore (lv' := [(8, .int 0), (6, .long (S0.2 (12 + p1) 10)), (4, .long v7), (3, .int ((S0.1 (12 + p1) 9) - (S0.1 (12 + p1) 8))), (0, .ref (ad 1)), (1, .ref (ad (12 + p0))), (2, .ref (ad (12 + p1)))]) hx hb dX5_findRootOfUnity_27 hl (by decide) rfl (fun ls hl => ?_)
  exact w_29 p0 ((S0.1 (12 + p1) 9) - (S0.1 (12 + p1) 8)) v7 (S0.2 (12 + p1) 10) 0 S0 hk_p0 _ _ _ (lv_sub hl [4, 5, 3, 2, 1, 0] rfl) hP hS hf
theorem cp_X5_findRootOfUnity : CPv yX5_findRootOfUnity cX5_findRootOfUnity 9 none 2 := ⟨mw_3_73, mw_1_2, mw_3_72, ms_20, by decide +kernel⟩
def rm_X5_findLifted : Room := { frames := 3, cells := 0, slots := 0, locals := 99 }
set_option maxHeartbeats 4000000 in
set_option maxRecDepth 100000 in
theorem c_X5_findLifted (l : Launch) (D : va_G) (ct : Nat → ClassId) (ad : Nat → Nat) (F : Nat → Prop) (hG : Gd ad 70 F) (p0 : Nat) (S0 : St) (hk_p0 : p0 < 42) (S' : St) (hf : f_X5_findLifted p0 S0 = some S') : MetH l yX5_findLifted cX5_findLifted 12 none rm_X5_findLifted D (tysW ct) F [.ref (ad 1), .ref (ad (12 + p0))] none (cellsC ct ad S0) (cellsC ct ad S') := by
  refine MetH.of RX5 (by decide) rfl (Nat.le_of_ble_eq_true rfl) ?_
  intro p e s m args below meth c C hK hP ls hl
  have hl : lv_has ls 12 [(0, .ref (ad 1)), (1, .ref (ad (12 + p0)))] := hl
  obtain ⟨hx, hb, hr, hml, hown, htL, hlocks⟩ := id C
  have hS : va_S F s.heap s.heap [] := va_S.rf
  generalize hQ : MQ below (Hq D (cellsC ct ad S') F none) args s 0 0 F = Q
  have w_34 : ∀ (x1 : Nat) (x2 : Nat) (x3 : Int64) (x5 : Int64) (x7 : Int32) (S : St), x1 < 42 → x2 < 8 → ∀ (H : Heap) (locs : List Loc) (ls : Array Slot), lv_has ls 12 [(0, .ref (ad 1)), (1, .ref (ad (12 + x1))), (2, .ref (ad (54 + x2))), (3, .long x3), (5, .long x5), (7, .int x7)] → va_P D vwCl (cellsC ct ad S) H → va_S F s.heap H locs → n_X5_findLifted_34 x1 x2 x3 x5 x7 S = some S' → W p l e rm_X5_findLifted s m args below meth c H locs 0 0 Q (F0 m 34 ls []) := by
    have aux : ∀ (n : Nat), ∀ (x1 : Nat) (x2 : Nat) (x3 : Int64) (x5 : Int64) (x7 : Int32) (S : St), x1 < 42 → x2 < 8 → ∀ (H : Heap) (locs : List Loc) (ls : Array Slot), lv_has ls 12 [(0, .ref (ad 1)), (1, .ref (ad (12 + x1))), (2, .ref (ad (54 + x2))), (3, .long x3), (5, .long x5), (7, .int x7)] → va_P D vwCl (cellsC ct ad S) H → va_S F s.heap H locs → itr (fun (q : Nat × Nat × Int64 × Int64 × Int32 × St) k => s_X5_findLifted_34  (fun (x1 : Nat) (x2 : Nat) (x3 : Int64) (x5 : Int64) (x7 : Int32) (S : St) => k (x1, x2, x3, x5, x7, S)) q.1 q.2.1 q.2.2.1 q.2.2.2.1 q.2.2.2.2.1 q.2.2.2.2.2) n (x1, x2, x3, x5, x7, S) = some S' → W p l e rm_X5_findLifted s m args below meth c H locs 0 0 Q (F0 m 34 ls []) := by
      intro n
      induction n with
      | zero => intro x1 x2 x3 x5 x7 S hk_x1 hk_x2 H locs ls hl hP hS hf; exact (itr_z hf).elim
      | succ n ih =>
      intro x1 x2 x3 x5 x7 S hk_x1 hk_x2 H locs ls hl hP hS hf
      have hk_34 := ih
      have hf : s_X5_findLifted_34  (fun (x1 : Nat) (x2 : Nat) (x3 : Int64) (x5 : Int64) (x7 : Int32) (S : St) => itr (fun (q : Nat × Nat × Int64 × Int64 × Int32 × St) k => s_X5_findLifted_34  (fun (x1 : Nat) (x2 : Nat) (x3 : Int64) (x5 : Int64) (x7 : Int32) (S : St) => k (x1, x2, x3, x5, x7, S)) q.1 q.2.1 q.2.2.1 q.2.2.2.1 q.2.2.2.2.1 q.2.2.2.2.2) n (x1, x2, x3, x5, x7, S)) x1 x2 x3 x5 x7 S = some S' := hf
      refine lv_iload hx hb dX5_findLifted_34 (lv_at hl 5 rfl) ?_
      refine lv_bipush (v := 6) hx hb dX5_findLifted_36 (by decide) ?_
      refine lv_icmp_ge (tgt := 94) hx hb dX5_findLifted_38 (by decide) (fun c1 => ?_) (fun c1 => ?_)
      · have hf := sp1 c1 hf
        refine lv_aload_n hx hb dX5_findLifted_94 rfl (lv_at hl 0 rfl) ?_
        refine lv_aload_n hx hb dX5_findLifted_95 rfl (lv_at hl 1 rfl) ?_
        refine lv_iconst (v := 0) hx hb dX5_findLifted_96 (by decide) ?_
        refine lv_aload_n hx hb dX5_findLifted_97 rfl (lv_at hl 1 rfl) ?_
        refine gf_X3_5 C hK hP hk_x1 mw_1_126 dX5_findLifted_98 ?_
        refine lv_lload hx hb dX5_findLifted_101 (lv_at hl 4 rfl) ?_
        obtain ⟨S3, h2, hf⟩ := b1_some hf
        refine hc_V (As := [.ref (ad (12 + x1)), .int 0, .int (S.1 (12 + x1) 5), .long x5]) (rest := []) C hK (c_X5_settle l D ct ad F hG x1 0 (S.1 (12 + x1) 5) x5 S hk_x1 S3 h2) hl.1 cp_X5_settle mw_2_78 (rc_X5 hK hP) hP hS ⟨rfl, rfl⟩ ⟨Nat.le_of_ble_eq_true rfl, Nat.le_of_ble_eq_true rfl⟩ rfl rfl (Nat.le_of_ble_eq_true rfl) dX5_findLifted_103 ⟨Nat.le_of_ble_eq_true rfl, Nat.le_of_ble_eq_true rfl⟩ (fun H locs hP hS => ?_)
        cases hf
        subst hQ
        exact he_v C hP hS dX5_findLifted_106
      · have hf := sp0 c1 hf
        refine lv_aload_n hx hb dX5_findLifted_41 rfl (lv_at hl 2 rfl) ?_
        refine lv_lload hx hb dX5_findLifted_42 (lv_at hl 4 rfl) ?_
        refine lv_lload_n hx hb dX5_findLifted_44 rfl (lv_at hl 3 rfl) ?_
        refine lv_aload_n hx hb dX5_findLifted_45 rfl (lv_at hl 1 rfl) ?_
        refine gf_X3_6 C hK hP hk_x1 mw_1_127 dX5_findLifted_46 ?_
        obtain ⟨v5, h4, hf⟩ := b1_some hf
        refine hc_V (As := [.long x5, .long x3, .int (S.1 (12 + x1) 6)]) (rest := []) C hK (c_X4_riseAt l D ct ad F hG x2 x5 x3 (S.1 (12 + x1) 6) S hk_x2 v5 h4) hl.1 cp_X4_riseAt mw_3_82 (rc_X4 hK hP hk_x2) hP hS ⟨rfl, rfl⟩ ⟨Nat.le_of_ble_eq_true rfl, Nat.le_of_ble_eq_true rfl⟩ rfl rfl (Nat.le_of_ble_eq_true rfl) dX5_findLifted_49 ⟨Nat.le_of_ble_eq_true rfl, Nat.le_of_ble_eq_true rfl⟩ (fun H locs hP hS => ?_)
        refine lv_lstore (lv' := [(8, .long v5), (0, .ref (ad 1)), (1, .ref (ad (12 + x1))), (2, .ref (ad (54 + x2))), (3, .long x3), (5, .long x5), (7, .int x7)]) hx hb dX5_findLifted_52 hl (by decide) rfl (fun ls hl => ?_)
        refine lv_aload_n hx hb dX5_findLifted_54 rfl (lv_at hl 3 rfl) ?_
        refine lv_lload hx hb dX5_findLifted_55 (lv_at hl 5 rfl) ?_
        refine lv_lload_n hx hb dX5_findLifted_57 rfl (lv_at hl 4 rfl) ?_
        refine lv_aload_n hx hb dX5_findLifted_58 rfl (lv_at hl 2 rfl) ?_
        refine gf_X3_6 C hK hP hk_x1 mw_1_127 dX5_findLifted_59 ?_
        obtain ⟨v7, h6, hf⟩ := b1_some hf
        refine hc_V (As := [.long x5, .long x3, .int (S.1 (12 + x1) 6)]) (rest := []) C hK (c_X4_worthAt l D ct ad F hG x2 x5 x3 (S.1 (12 + x1) 6) S hk_x2 v7 h6) hl.1 cp_X4_worthAt mw_2_112 (rc_X4 hK hP hk_x2) hP hS ⟨rfl, rfl⟩ ⟨Nat.le_of_ble_eq_true rfl, Nat.le_of_ble_eq_true rfl⟩ rfl rfl (Nat.le_of_ble_eq_true rfl) dX5_findLifted_62 ⟨Nat.le_of_ble_eq_true rfl, Nat.le_of_ble_eq_true rfl⟩ (fun H locs hP hS => ?_)
        refine lv_lstore (lv' := [(10, .long v7), (8, .long v5), (0, .ref (ad 1)), (1, .ref (ad (12 + x1))), (2, .ref (ad (54 + x2))), (3, .long x3), (5, .long x5), (7, .int x7)]) hx hb dX5_findLifted_65 hl (by decide) rfl (fun ls hl => ?_)
        refine lv_lload hx hb dX5_findLifted_67 (lv_at hl 6 rfl) ?_
        refine lv_lload hx hb dX5_findLifted_69 (lv_at hl 0 rfl) ?_
        refine lv_lload hx hb dX5_findLifted_71 (lv_at hl 1 rfl) ?_
        refine lv_lload_n hx hb dX5_findLifted_73 rfl (lv_at hl 5 rfl) ?_
        obtain ⟨v8, h9, hf⟩ := b1_some hf
        refine pc_S (As := [.long v5, .long x3]) (rest := [.long v7, .long x5]) C (c_X8_inverseModulo l v5 x3 v8 h9) hl.1 cp_X8_inverseModulo mw_3_50 ⟨rfl, rfl⟩ ⟨Nat.le_of_ble_eq_true rfl, Nat.le_of_ble_eq_true rfl⟩ rfl rfl (Nat.le_of_ble_eq_true rfl) dX5_findLifted_74 ⟨Nat.le_of_ble_eq_true rfl, Nat.le_of_ble_eq_true rfl⟩ ?_
        refine lv_lload_n hx hb dX5_findLifted_77 rfl (lv_at hl 5 rfl) ?_
        obtain ⟨v10, h11, hf⟩ := b1_some hf
        refine pc_S (As := [.long v7, .long v8, .long x3]) (rest := [.long x5]) C (c_X8_timesModulo l v7 v8 x3 v10 h11) hl.1 cp_X8_timesModulo mw_2_72 ⟨rfl, rfl⟩ ⟨Nat.le_of_ble_eq_true rfl, Nat.le_of_ble_eq_true rfl⟩ rfl rfl (Nat.le_of_ble_eq_true rfl) dX5_findLifted_78 ⟨Nat.le_of_ble_eq_true rfl, Nat.le_of_ble_eq_true rfl⟩ ?_
        refine lv_lsub hx hb dX5_findLifted_81 ?_
        refine lv_lload_n hx hb dX5_findLifted_82 rfl (lv_at hl 5 rfl) ?_
        obtain ⟨v12, h13, hf⟩ := b1_some hf
        refine pc_S (As := [.long (x5 - v10), .long x3]) (rest := []) C (c_X8_rest l (x5 - v10) x3 v12 h13) hl.1 cp_X8_rest mw_2_82 ⟨rfl, rfl⟩ ⟨Nat.le_of_ble_eq_true rfl, Nat.le_of_ble_eq_true rfl⟩ rfl rfl (Nat.le_of_ble_eq_true rfl) dX5_findLifted_83 ⟨Nat.le_of_ble_eq_true rfl, Nat.le_of_ble_eq_true rfl⟩ ?_
        refine lv_lstore (lv' := [(5, .long v12), (10, .long v7), (8, .long v5), (0, .ref (ad 1)), (1, .ref (ad (12 + x1))), (2, .ref (ad (54 + x2))), (3, .long x3), (7, .int x7)]) hx hb dX5_findLifted_86 hl (by decide) rfl (fun ls hl => ?_)
        refine lv_iinc (v := (x7 + 1)) (lv' := [(7, .int (x7 + 1)), (5, .long v12), (10, .long v7), (8, .long v5), (0, .ref (ad 1)), (1, .ref (ad (12 + x1))), (2, .ref (ad (54 + x2))), (3, .long x3)]) hx hb dX5_findLifted_88 hl (k := 7) rfl rfl (by decide) rfl (fun ls hl => ?_)
        refine lv_goto (tgt := 34) hx hb dX5_findLifted_91 (by decide) ?_
        exact hk_34 x1 x2 x3 v12 (x7 + 1) S hk_x1 hk_x2 _ _ _ (lv_sub hl [4, 5, 6, 7, 1, 0] rfl) hP hS hf
    exact aux FU
  refine lv_aload_n hx hb dX5_findLifted_0 rfl (lv_at hl 0 rfl) ?_
  refine gf_X5_1 C hK hP mw_1_171 dX5_findLifted_1 ?_
  refine lv_aload_n hx hb dX5_findLifted_4 rfl (lv_at hl 1 rfl) ?_
  refine gf_X3_3 C hK hP hk_p0 mw_1_124 dX5_findLifted_5 ?_
  obtain ⟨v15, h14, hf⟩ := b1_some hf
  refine hc_V (As := [.int (S0.1 (12 + p0) 3)]) (rest := []) C hK (c_X0_page l D ct ad F hG (S0.1 (12 + p0) 3) S0  v15 h14) hl.1 cp_X0_page mw_2_108 (rc_X0 hK hP) hP hS ⟨rfl, rfl⟩ ⟨Nat.le_of_ble_eq_true rfl, Nat.le_of_ble_eq_true rfl⟩ rfl rfl (Nat.le_of_ble_eq_true rfl) dX5_findLifted_8 ⟨Nat.le_of_ble_eq_true rfl, Nat.le_of_ble_eq_true rfl⟩ (fun H locs hP hS => ?_)
  obtain ⟨c16, hf⟩ := spy hf
  refine lv_astore_n (lv' := [(2, .ref (ad (54 + v15))), (0, .ref (ad 1)), (1, .ref (ad (12 + p0)))]) hx hb dX5_findLifted_11 rfl hl (by decide) rfl (fun ls hl => ?_)
  refine lv_aload_n hx hb dX5_findLifted_12 rfl (lv_at hl 1 rfl) ?_
  refine gf_X5_0 C hK hP mw_1_169 dX5_findLifted_13 ?_
  refine lv_aload_n hx hb dX5_findLifted_16 rfl (lv_at hl 2 rfl) ?_
  refine gf_X3_5 C hK hP hk_p0 mw_1_126 dX5_findLifted_17 ?_
  obtain ⟨v18, h17, hf⟩ := b1_some hf
  refine hc_V (As := [.int (S0.1 (12 + p0) 5)]) (rest := []) C hK (c_X2_power l D ct ad F hG (S0.1 (12 + p0) 5) S0  v18 h17) hl.1 cp_X2_power mw_2_66 (rc_X2 hK hP) hP hS ⟨rfl, rfl⟩ ⟨Nat.le_of_ble_eq_true rfl, Nat.le_of_ble_eq_true rfl⟩ rfl rfl (Nat.le_of_ble_eq_true rfl) dX5_findLifted_20 ⟨Nat.le_of_ble_eq_true rfl, Nat.le_of_ble_eq_true rfl⟩ (fun H locs hP hS => ?_)
  refine lv_lstore_n (lv' := [(3, .long v18), (2, .ref (ad (54 + v15))), (0, .ref (ad 1)), (1, .ref (ad (12 + p0)))]) hx hb dX5_findLifted_23 rfl hl (by decide) rfl (fun ls hl => ?_)
  refine lv_aload_n hx hb dX5_findLifted_24 rfl (lv_at hl 3 rfl) ?_
  refine gf_X3_4 C hK hP hk_p0 mw_1_125 dX5_findLifted_25 ?_
  refine lv_i2l hx hb dX5_findLifted_28 rfl ?_
  refine lv_lstore (lv' := [(5, .long (Int32.toInt64 (S0.1 (12 + p0) 4))), (3, .long v18), (2, .ref (ad (54 + v15))), (0, .ref (ad 1)), (1, .ref (ad (12 + p0)))]) hx hb dX5_findLifted_29 hl (by decide) rfl (fun ls hl => ?_)
  refine lv_iconst (v := 0) hx hb dX5_findLifted_31 (by decide) ?_
  refine lv_istore (lv' := [(7, .int 0), (5, .long (Int32.toInt64 (S0.1 (12 + p0) 4))), (3, .long v18), (2, .ref (ad (54 + v15))), (0, .ref (ad 1)), (1, .ref (ad (12 + p0)))]) hx hb dX5_findLifted_32 hl (by decide) rfl (fun ls hl => ?_)
  exact w_34 p0 v15 v18 (Int32.toInt64 (S0.1 (12 + p0) 4)) 0 S0 hk_p0 c16 _ _ _ (lv_sub hl [4, 5, 3, 2, 1, 0] rfl) hP hS hf
theorem cp_X5_findLifted : CPv yX5_findLifted cX5_findLifted 12 none 1 := ⟨mw_3_81, mw_1_2, mw_3_80, ms_21, by decide +kernel⟩
def rm_X6_greatestLoss : Room := { frames := 2, cells := 0, slots := 0, locals := 58 }
set_option maxHeartbeats 4000000 in
set_option maxRecDepth 100000 in
theorem c_X6_greatestLoss (l : Launch) (D : va_G) (ct : Nat → ClassId) (ad : Nat → Nat) (F : Nat → Prop) (hG : Gd ad 70 F) (p0 : Int32) (p1 : Int32) (S0 : St)  (r : Int32) (hf : f_X6_greatestLoss p0 p1 S0 = some r) : MetH l yX6_greatestLoss cX6_greatestLoss 5 (some .int) rm_X6_greatestLoss D (tysW ct) F [.ref (ad 5), .int p0, .int p1] (some (.int r)) (cellsC ct ad S0) (cellsC ct ad S0) := by
  refine MetH.of RX6 (by decide) rfl (Nat.le_of_ble_eq_true rfl) ?_
  intro p e s m args below meth c C hK hP ls hl
  have hl : lv_has ls 5 [(0, .ref (ad 5)), (1, .int p0), (2, .int p1)] := hl
  obtain ⟨hx, hb, hr, hml, hown, htL, hlocks⟩ := id C
  have hS : va_S F s.heap s.heap [] := va_S.rf
  generalize hQ : MQ below (Hq D (cellsC ct ad S0) F (some (.int r))) args s 0 0 F = Q
  have w_5 : ∀ (x1 : Int32) (x2 : Int32) (x3 : Int32) (x4 : Int32), ∀ (H : Heap) (locs : List Loc) (ls : Array Slot), lv_has ls 5 [(1, .int x1), (2, .int x2), (3, .int x3), (4, .int x4)] → va_P D vwCl (cellsC ct ad S0) H → va_S F s.heap H locs → n_X6_greatestLoss_5 S0 x1 x2 x3 x4 = some r → W p l e rm_X6_greatestLoss s m args below meth c H locs 0 0 Q (F0 m 5 ls []) := by
    have aux : ∀ (n : Nat), ∀ (x1 : Int32) (x2 : Int32) (x3 : Int32) (x4 : Int32), ∀ (H : Heap) (locs : List Loc) (ls : Array Slot), lv_has ls 5 [(1, .int x1), (2, .int x2), (3, .int x3), (4, .int x4)] → va_P D vwCl (cellsC ct ad S0) H → va_S F s.heap H locs → itr (fun (q : Int32 × Int32 × Int32 × Int32) k => s_X6_greatestLoss_5  (fun (x1 : Int32) (x2 : Int32) (x3 : Int32) (x4 : Int32) => k (x1, x2, x3, x4)) S0 q.1 q.2.1 q.2.2.1 q.2.2.2) n (x1, x2, x3, x4) = some r → W p l e rm_X6_greatestLoss s m args below meth c H locs 0 0 Q (F0 m 5 ls []) := by
      intro n
      induction n with
      | zero => intro x1 x2 x3 x4 H locs ls hl hP hS hf; exact (itr_z hf).elim
      | succ n ih =>
      intro x1 x2 x3 x4 H locs ls hl hP hS hf
      have hk_5 := ih
      have hf : s_X6_greatestLoss_5  (fun (x1 : Int32) (x2 : Int32) (x3 : Int32) (x4 : Int32) => itr (fun (q : Int32 × Int32 × Int32 × Int32) k => s_X6_greatestLoss_5  (fun (x1 : Int32) (x2 : Int32) (x3 : Int32) (x4 : Int32) => k (x1, x2, x3, x4)) S0 q.1 q.2.1 q.2.2.1 q.2.2.2) n (x1, x2, x3, x4)) S0 x1 x2 x3 x4 = some r := hf
      refine lv_iload hx hb dX6_greatestLoss_5 (lv_at hl 3 rfl) ?_
      refine lv_iload_n hx hb dX6_greatestLoss_7 rfl (lv_at hl 0 rfl) ?_
      refine lv_icmp_ge (tgt := 34) hx hb dX6_greatestLoss_8 (by decide) (fun c1 => ?_) (fun c1 => ?_)
      · have hf := sp1 c1 hf
        refine lv_iload_n hx hb dX6_greatestLoss_34 rfl (lv_at hl 2 rfl) ?_
        cases hf
        subst hQ
        exact he_i C hP hS dX6_greatestLoss_35
      · have hf := sp0 c1 hf
        refine lv_iload hx hb dX6_greatestLoss_11 (lv_at hl 3 rfl) ?_
        refine lv_bipush (v := 12) hx hb dX6_greatestLoss_13 (by decide) ?_
        refine lv_icmp_ge (tgt := 34) hx hb dX6_greatestLoss_15 (by decide) (fun c2 => ?_) (fun c2 => ?_)
        · have hf := sp1 c2 hf
          refine lv_iload_n hx hb dX6_greatestLoss_34 rfl (lv_at hl 2 rfl) ?_
          cases hf
          subst hQ
          exact he_i C hP hS dX6_greatestLoss_35
        · have hf := sp0 c2 hf
          refine lv_iload_n hx hb dX6_greatestLoss_18 rfl (lv_at hl 2 rfl) ?_
          refine lv_iload hx hb dX6_greatestLoss_19 (lv_at hl 3 rfl) ?_
          refine lv_i2l hx hb dX6_greatestLoss_21 rfl ?_
          refine lv_iload_n hx hb dX6_greatestLoss_22 rfl (lv_at hl 1 rfl) ?_
          obtain ⟨v3, h4, hf⟩ := b1_some hf
          refine pc_S (As := [.long (Int32.toInt64 x4), .int x2]) (rest := [.int x3]) C (c_X8_factorCount l (Int32.toInt64 x4) x2 v3 h4) hl.1 cp_X8_factorCount mw_3_98 ⟨rfl, rfl⟩ ⟨Nat.le_of_ble_eq_true rfl, Nat.le_of_ble_eq_true rfl⟩ rfl rfl (Nat.le_of_ble_eq_true rfl) dX6_greatestLoss_23 ⟨Nat.le_of_ble_eq_true rfl, Nat.le_of_ble_eq_true rfl⟩ ?_
          refine lv_iadd hx hb dX6_greatestLoss_26 ?_
          refine lv_istore_n (lv' := [(3, .int (x3 + v3)), (1, .int x1), (2, .int x2), (4, .int x4)]) hx hb dX6_greatestLoss_27 rfl hl (by decide) rfl (fun ls hl => ?_)
          refine lv_iinc (v := (x4 + 1)) (lv' := [(4, .int (x4 + 1)), (3, .int (x3 + v3)), (1, .int x1), (2, .int x2)]) hx hb dX6_greatestLoss_28 hl (k := 3) rfl rfl (by decide) rfl (fun ls hl => ?_)
          refine lv_goto (tgt := 5) hx hb dX6_greatestLoss_31 (by decide) ?_
          exact hk_5 x1 x2 (x3 + v3) (x4 + 1) _ _ _ (lv_sub hl [2, 3, 1, 0] rfl) hP hS hf
    exact aux FU
  refine lv_iconst (v := 0) hx hb dX6_greatestLoss_0 (by decide) ?_
  refine lv_istore_n (lv' := [(3, .int 0), (0, .ref (ad 5)), (1, .int p0), (2, .int p1)]) hx hb dX6_greatestLoss_1 rfl hl (by decide) rfl (fun ls hl => ?_)
  refine lv_iconst (v := 2) hx hb dX6_greatestLoss_2 (by decide) ?_
  refine lv_istore (lv' := [(4, .int 2), (3, .int 0), (0, .ref (ad 5)), (1, .int p0), (2, .int p1)]) hx hb dX6_greatestLoss_3 hl (by decide) rfl (fun ls hl => ?_)
  exact w_5 p0 p1 0 2 _ _ _ (lv_sub hl [3, 4, 1, 0] rfl) hP hS hf
theorem cp_X6_greatestLoss : CPv yX6_greatestLoss cX6_greatestLoss 5 (some .int) 2 := ⟨mw_3_97, mw_1_6, mw_3_95, mw_3_96, by decide +kernel⟩
def rm_X5_rowValueReach : Room := { frames := 3, cells := 0, slots := 0, locals := 86 }
set_option maxHeartbeats 4000000 in
set_option maxRecDepth 100000 in
theorem c_X5_rowValueReach (l : Launch) (D : va_G) (ct : Nat → ClassId) (ad : Nat → Nat) (F : Nat → Prop) (hG : Gd ad 70 F) (p0 : Nat) (p1 : Int32) (S0 : St) (hk_p0 : p0 < 42) (r : Int32) (hf : f_X5_rowValueReach p0 p1 S0 = some r) : MetH l yX5_rowValueReach cX5_rowValueReach 3 (some .int) rm_X5_rowValueReach D (tysW ct) F [.ref (ad 1), .ref (ad (12 + p0)), .int p1] (some (.int r)) (cellsC ct ad S0) (cellsC ct ad S0) := by
  refine MetH.of RX5 (by decide) rfl (Nat.le_of_ble_eq_true rfl) ?_
  intro p e s m args below meth c C hK hP ls hl
  have hl : lv_has ls 3 [(0, .ref (ad 1)), (1, .ref (ad (12 + p0))), (2, .int p1)] := hl
  obtain ⟨hx, hb, hr, hml, hown, htL, hlocks⟩ := id C
  have hS : va_S F s.heap s.heap [] := va_S.rf
  generalize hQ : MQ below (Hq D (cellsC ct ad S0) F (some (.int r))) args s 0 0 F = Q
  refine lv_aload_n hx hb dX5_rowValueReach_0 rfl (lv_at hl 1 rfl) ?_
  refine gf_X3_9 C hK hP hk_p0 mw_1_133 dX5_rowValueReach_1 ?_
  refine lv_aload_n hx hb dX5_rowValueReach_4 rfl (lv_at hl 0 rfl) ?_
  refine gf_X5_0 C hK hP mw_1_169 dX5_rowValueReach_5 ?_
  refine gf_X2_1 C hK hP mw_1_55 dX5_rowValueReach_8 ?_
  refine va_mmin (ls := _) hx hb (hml.trans hl.1.symm) hown (htL _ mw_2_59) (htL _ mw_2_60) (htL _ mw_1_17) (htL _ mw_2_61) (Nat.le_of_ble_eq_true rfl) (Nat.le_of_ble_eq_true rfl) (Nat.le_of_ble_eq_true rfl) (Nat.le_of_ble_eq_true rfl) dX5_rowValueReach_11 ?_
  refine lv_aload_n hx hb dX5_rowValueReach_14 rfl (lv_at hl 0 rfl) ?_
  refine gf_X5_2 C hK hP mw_1_173 dX5_rowValueReach_15 ?_
  refine lv_iload_n hx hb dX5_rowValueReach_18 rfl (lv_at hl 2 rfl) ?_
  refine lv_aload_n hx hb dX5_rowValueReach_19 rfl (lv_at hl 0 rfl) ?_
  refine gf_X5_0 C hK hP mw_1_169 dX5_rowValueReach_20 ?_
  refine gf_X2_0 C hK hP mw_1_52 dX5_rowValueReach_23 ?_
  obtain ⟨v2, h1, hf⟩ := b1_some hf
  refine hc_V (As := [.int p1, .int (S0.1 3 0)]) (rest := [.int (mnI (S0.1 (12 + p0) 9) (S0.1 3 1))]) C hK (c_X6_greatestLoss l D ct ad F hG p1 (S0.1 3 0) S0  v2 h1) hl.1 cp_X6_greatestLoss mw_3_94 (rc_X6 hK hP) hP hS ⟨rfl, rfl⟩ ⟨Nat.le_of_ble_eq_true rfl, Nat.le_of_ble_eq_true rfl⟩ rfl rfl (Nat.le_of_ble_eq_true rfl) dX5_rowValueReach_26 ⟨Nat.le_of_ble_eq_true rfl, Nat.le_of_ble_eq_true rfl⟩ (fun H locs hP hS => ?_)
  refine lv_isub hx hb dX5_rowValueReach_29 ?_
  cases hf
  subst hQ
  exact he_i C hP hS dX5_rowValueReach_30
theorem cp_X5_rowValueReach : CPv yX5_rowValueReach cX5_rowValueReach 3 (some .int) 2 := ⟨mw_3_93, mw_1_2, mw_3_91, mw_3_92, by decide +kernel⟩
def rm_X6_differenceOf : Room := { frames := 1, cells := 0, slots := 0, locals := 27 }
set_option maxHeartbeats 4000000 in
set_option maxRecDepth 100000 in
theorem c_X6_differenceOf (l : Launch) (D : va_G) (ct : Nat → ClassId) (ad : Nat → Nat) (F : Nat → Prop) (hG : Gd ad 70 F) (p0 : Int32) (S0 : St)  (r : Int32) (hf : f_X6_differenceOf p0 S0 = some r) : MetH l yX6_differenceOf cX6_differenceOf 9 (some .int) rm_X6_differenceOf D (tysW ct) F [.ref (ad 5), .int p0] (some (.int r)) (cellsC ct ad S0) (cellsC ct ad S0) := by
  refine MetH.of RX6 (by decide) rfl (Nat.le_of_ble_eq_true rfl) ?_
  intro p e s m args below meth c C hK hP ls hl
  have hl : lv_has ls 9 [(0, .ref (ad 5)), (1, .int p0)] := hl
  obtain ⟨hx, hb, hr, hml, hown, htL, hlocks⟩ := id C
  have hS : va_S F s.heap s.heap [] := va_S.rf
  generalize hQ : MQ below (Hq D (cellsC ct ad S0) F (some (.int r))) args s 0 0 F = Q
  have w_58 : ∀ (k_8 : Int32 → Int64 → Int64 → Int32 → Option Int32) (hk_8 : ∀ (x1 : Int32) (x2 : Int64) (x4 : Int64) (x6 : Int32), ∀ (H : Heap) (locs : List Loc) (ls : Array Slot), lv_has ls 9 [(0, .ref (ad 5)), (1, .int x1), (2, .long x2), (4, .long x4), (6, .int x6)] → va_P D vwCl (cellsC ct ad S0) H → va_S F s.heap H locs → k_8 x1 x2 x4 x6 = some r → W p l e rm_X6_differenceOf s m args below meth c H locs 0 0 Q (F0 m 8 ls [])), ∀ (x1 : Int32) (x4 : Int64) (x6 : Int32) (y0 : Int64), ∀ (H : Heap) (locs : List Loc) (ls : Array Slot), lv_has ls 9 [(0, .ref (ad 5)), (1, .int x1), (4, .long x4), (6, .int x6)] → va_P D vwCl (cellsC ct ad S0) H → va_S F s.heap H locs → n_X6_differenceOf_58 k_8 S0 x1 x4 x6 y0 = some r → W p l e rm_X6_differenceOf s m args below meth c H locs 0 0 Q (F0 m 58 ls [.long y0]) := by
    intro k_8 hk_8 x1 x4 x6 y0 H locs ls hl hP hS hf
    refine lv_lstore_n (lv' := [(2, .long y0), (0, .ref (ad 5)), (1, .int x1), (4, .long x4), (6, .int x6)]) hx hb dX6_differenceOf_58 rfl hl (by decide) rfl (fun ls hl => ?_)
    refine lv_lload hx hb dX6_differenceOf_59 (lv_at hl 3 rfl) ?_
    refine lv_iload_n hx hb dX6_differenceOf_61 rfl (lv_at hl 2 rfl) ?_
    refine lv_iload hx hb dX6_differenceOf_62 (lv_at hl 4 rfl) ?_
    refine lv_isub hx hb dX6_differenceOf_64 ?_
    refine lv_i2l hx hb dX6_differenceOf_65 rfl ?_
    refine lv_lmul hx hb dX6_differenceOf_66 ?_
    refine lv_iload hx hb dX6_differenceOf_67 (lv_at hl 4 rfl) ?_
    refine lv_iconst (v := 1) hx hb dX6_differenceOf_69 (by decide) ?_
    refine lv_iadd hx hb dX6_differenceOf_70 ?_
    refine lv_i2l hx hb dX6_differenceOf_71 rfl ?_
    obtain ⟨v1, h2, hf⟩ := b1_some hf
    refine pc_S (As := [.long (x4 * (Int32.toInt64 (x1 - x6))), .long (Int32.toInt64 (x6 + 1))]) (rest := []) C (c_X8_part l (x4 * (Int32.toInt64 (x1 - x6))) (Int32.toInt64 (x6 + 1)) v1 h2) hl.1 cp_X8_part mw_3_108 ⟨rfl, rfl⟩ ⟨Nat.le_of_ble_eq_true rfl, Nat.le_of_ble_eq_true rfl⟩ rfl rfl (Nat.le_of_ble_eq_true rfl) dX6_differenceOf_72 ⟨Nat.le_of_ble_eq_true rfl, Nat.le_of_ble_eq_true rfl⟩ ?_
    refine lv_lstore (lv' := [(4, .long v1), (2, .long y0), (0, .ref (ad 5)), (1, .int x1), (6, .int x6)]) hx hb dX6_differenceOf_75 hl (by decide) rfl (fun ls hl => ?_)
    refine lv_iinc (v := (x6 + 1)) (lv' := [(6, .int (x6 + 1)), (4, .long v1), (2, .long y0), (0, .ref (ad 5)), (1, .int x1)]) hx hb dX6_differenceOf_77 hl (k := 4) rfl rfl (by decide) rfl (fun ls hl => ?_)
    refine lv_goto (tgt := 8) hx hb dX6_differenceOf_80 (by decide) ?_
    exact hk_8 x1 y0 v1 (x6 + 1) _ _ _ (lv_sub hl [3, 4, 2, 1, 0] rfl) hP hS hf
  have w_8 : ∀ (x1 : Int32) (x2 : Int64) (x4 : Int64) (x6 : Int32), ∀ (H : Heap) (locs : List Loc) (ls : Array Slot), lv_has ls 9 [(0, .ref (ad 5)), (1, .int x1), (2, .long x2), (4, .long x4), (6, .int x6)] → va_P D vwCl (cellsC ct ad S0) H → va_S F s.heap H locs → n_X6_differenceOf_8 S0 x1 x2 x4 x6 = some r → W p l e rm_X6_differenceOf s m args below meth c H locs 0 0 Q (F0 m 8 ls []) := by
    have aux : ∀ (n : Nat), ∀ (x1 : Int32) (x2 : Int64) (x4 : Int64) (x6 : Int32), ∀ (H : Heap) (locs : List Loc) (ls : Array Slot), lv_has ls 9 [(0, .ref (ad 5)), (1, .int x1), (2, .long x2), (4, .long x4), (6, .int x6)] → va_P D vwCl (cellsC ct ad S0) H → va_S F s.heap H locs → itr (fun (q : Int32 × Int64 × Int64 × Int32) k => s_X6_differenceOf_8  (fun (x1 : Int32) (x2 : Int64) (x4 : Int64) (x6 : Int32) => k (x1, x2, x4, x6)) S0 q.1 q.2.1 q.2.2.1 q.2.2.2) n (x1, x2, x4, x6) = some r → W p l e rm_X6_differenceOf s m args below meth c H locs 0 0 Q (F0 m 8 ls []) := by
      intro n
      induction n with
      | zero => intro x1 x2 x4 x6 H locs ls hl hP hS hf; exact (itr_z hf).elim
      | succ n ih =>
      intro x1 x2 x4 x6 H locs ls hl hP hS hf
      have hk_8 := ih
      have hf : s_X6_differenceOf_8  (fun (x1 : Int32) (x2 : Int64) (x4 : Int64) (x6 : Int32) => itr (fun (q : Int32 × Int64 × Int64 × Int32) k => s_X6_differenceOf_8  (fun (x1 : Int32) (x2 : Int64) (x4 : Int64) (x6 : Int32) => k (x1, x2, x4, x6)) S0 q.1 q.2.1 q.2.2.1 q.2.2.2) n (x1, x2, x4, x6)) S0 x1 x2 x4 x6 = some r := hf
      refine lv_iload hx hb dX6_differenceOf_8 (lv_at hl 4 rfl) ?_
      refine lv_iload_n hx hb dX6_differenceOf_10 rfl (lv_at hl 1 rfl) ?_
      refine lv_icmp_gt (tgt := 83) hx hb dX6_differenceOf_11 (by decide) (fun c3 => ?_) (fun c3 => ?_)
      · have hf := sp1 c3 hf
        refine lv_lload_n hx hb dX6_differenceOf_83 rfl (lv_at hl 2 rfl) ?_
        refine lv_l2i hx hb dX6_differenceOf_84 rfl ?_
        cases hf
        subst hQ
        exact he_i C hP hS dX6_differenceOf_85
      · have hf := sp0 c3 hf
        refine lv_iload hx hb dX6_differenceOf_14 (lv_at hl 4 rfl) ?_
        refine lv_aload_n hx hb dX6_differenceOf_16 rfl (lv_at hl 0 rfl) ?_
        refine gf_X6_1 C hK hP mw_1_105 dX6_differenceOf_17 ?_
        refine an_C9 C hK hP dX6_differenceOf_20 ?_
        refine lv_icmp_ge (tgt := 83) hx hb dX6_differenceOf_21 (by decide) (fun c4 => ?_) (fun c4 => ?_)
        · have hf := sp1 c4 hf
          refine lv_lload_n hx hb dX6_differenceOf_83 rfl (lv_at hl 2 rfl) ?_
          refine lv_l2i hx hb dX6_differenceOf_84 rfl ?_
          cases hf
          subst hQ
          exact he_i C hP hS dX6_differenceOf_85
        · have hf := sp0 c4 hf
          refine lv_lload hx hb dX6_differenceOf_24 (lv_at hl 3 rfl) ?_
          refine lv_aload_n hx hb dX6_differenceOf_26 rfl (lv_at hl 0 rfl) ?_
          refine gf_X6_1 C hK hP mw_1_105 dX6_differenceOf_27 ?_
          refine lv_iload hx hb dX6_differenceOf_30 (lv_at hl 4 rfl) ?_
          obtain ⟨c5, hf⟩ := spn hf
          refine al_C9 C hK hP c5 dX6_differenceOf_32 ?_
          refine lv_i2l hx hb dX6_differenceOf_33 rfl ?_
          refine lv_lmul hx hb dX6_differenceOf_34 ?_
          refine lv_lstore (lv' := [(7, .long (x4 * (Int32.toInt64 (S0.1 9 (Int32.toNatClampNeg x6))))), (0, .ref (ad 5)), (1, .int x1), (2, .long x2), (4, .long x4), (6, .int x6)]) hx hb dX6_differenceOf_35 hl (by decide) rfl (fun ls hl => ?_)
          refine lv_iload_n hx hb dX6_differenceOf_37 rfl (lv_at hl 2 rfl) ?_
          refine lv_iload hx hb dX6_differenceOf_38 (lv_at hl 5 rfl) ?_
          refine lv_isub hx hb dX6_differenceOf_40 ?_
          refine lv_iconst (v := 1) hx hb dX6_differenceOf_41 (by decide) ?_
          refine lv_iand hx hb dX6_differenceOf_42 ?_
          refine lv_iconst (v := 1) hx hb dX6_differenceOf_43 (by decide) ?_
          refine lv_icmp_ne (tgt := 54) hx hb dX6_differenceOf_44 (by decide) (fun c6 => ?_) (fun c6 => ?_)
          · have hf := sp0 c6 hf
            refine lv_lload_n hx hb dX6_differenceOf_54 rfl (lv_at hl 3 rfl) ?_
            refine lv_lload hx hb dX6_differenceOf_55 (lv_at hl 0 rfl) ?_
            refine lv_ladd hx hb dX6_differenceOf_57 ?_
            exact w_58 _ hk_8 x1 x4 x6 (x2 + (x4 * (Int32.toInt64 (S0.1 9 (Int32.toNatClampNeg x6))))) _ _ _ (lv_sub hl [1, 2, 4, 5] rfl) hP hS hf
          · have hf := sp1 c6 hf
            refine lv_lload_n hx hb dX6_differenceOf_47 rfl (lv_at hl 3 rfl) ?_
            refine lv_lload hx hb dX6_differenceOf_48 (lv_at hl 0 rfl) ?_
            refine lv_lsub hx hb dX6_differenceOf_50 ?_
            refine lv_goto (tgt := 58) hx hb dX6_differenceOf_51 (by decide) ?_
            exact w_58 _ hk_8 x1 x4 x6 (x2 - (x4 * (Int32.toInt64 (S0.1 9 (Int32.toNatClampNeg x6))))) _ _ _ (lv_sub hl [1, 2, 4, 5] rfl) hP hS hf
    exact aux FU
  refine lv_lconst (v := 0) hx hb dX6_differenceOf_0 (by decide) ?_
  refine lv_lstore_n (lv' := [(2, .long 0), (0, .ref (ad 5)), (1, .int p0)]) hx hb dX6_differenceOf_1 rfl hl (by decide) rfl (fun ls hl => ?_)
  refine lv_lconst (v := 1) hx hb dX6_differenceOf_2 (by decide) ?_
  refine lv_lstore (lv' := [(4, .long 1), (2, .long 0), (0, .ref (ad 5)), (1, .int p0)]) hx hb dX6_differenceOf_3 hl (by decide) rfl (fun ls hl => ?_)
  refine lv_iconst (v := 0) hx hb dX6_differenceOf_5 (by decide) ?_
  refine lv_istore (lv' := [(6, .int 0), (4, .long 1), (2, .long 0), (0, .ref (ad 5)), (1, .int p0)]) hx hb dX6_differenceOf_6 hl (by decide) rfl (fun ls hl => ?_)
  exact w_8 p0 0 1 0 _ _ _ (lv_sub hl [3, 4, 2, 1, 0] rfl) hP hS hf
theorem cp_X6_differenceOf : CPv yX6_differenceOf cX6_differenceOf 9 (some .int) 1 := ⟨mw_3_107, mw_1_6, mw_3_105, mw_3_106, by decide +kernel⟩
def rm_X5_rowSum : Room := { frames := 2, cells := 0, slots := 0, locals := 71 }
set_option maxHeartbeats 4000000 in
set_option maxRecDepth 100000 in
theorem c_X5_rowSum (l : Launch) (D : va_G) (ct : Nat → ClassId) (ad : Nat → Nat) (F : Nat → Prop) (hG : Gd ad 70 F) (p0 : Int64) (p1 : Int64) (p2 : Int64) (p3 : Int32) (S0 : St)  (r : Int64) (hf : f_X5_rowSum p0 p1 p2 p3 S0 = some r) : MetH l yX5_rowSum cX5_rowSum 19 (some .long) rm_X5_rowSum D (tysW ct) F [.ref (ad 1), .long p0, .long p1, .long p2, .int p3] (some (.long r)) (cellsC ct ad S0) (cellsC ct ad S0) := by
  refine MetH.of RX5 (by decide) rfl (Nat.le_of_ble_eq_true rfl) ?_
  intro p e s m args below meth c C hK hP ls hl
  have hl : lv_has ls 19 [(0, .ref (ad 1)), (1, .long p0), (3, .long p1), (5, .long p2), (7, .int p3)] := hl
  obtain ⟨hx, hb, hr, hml, hown, htL, hlocks⟩ := id C
  have hS : va_S F s.heap s.heap [] := va_S.rf
  generalize hQ : MQ below (Hq D (cellsC ct ad S0) F (some (.long r))) args s 0 0 F = Q
  have w_100 : ∀ (k_19 : Int64 → Int64 → Int64 → Int32 → Int64 → Int64 → Int64 → Int64 → Int32 → Option Int64) (hk_19 : ∀ (x1 : Int64) (x3 : Int64) (x5 : Int64) (x7 : Int32) (x8 : Int64) (x10 : Int64) (x12 : Int64) (x14 : Int64) (x16 : Int32), ∀ (H : Heap) (locs : List Loc) (ls : Array Slot), lv_has ls 19 [(0, .ref (ad 1)), (1, .long x1), (3, .long x3), (5, .long x5), (7, .int x7), (8, .long x8), (10, .long x10), (12, .long x12), (14, .long x14), (16, .int x16)] → va_P D vwCl (cellsC ct ad S0) H → va_S F s.heap H locs → k_19 x1 x3 x5 x7 x8 x10 x12 x14 x16 = some r → W p l e rm_X5_rowSum s m args below meth c H locs 0 0 Q (F0 m 19 ls [])), ∀ (x1 : Int64) (x3 : Int64) (x5 : Int64) (x7 : Int32) (x8 : Int64) (x10 : Int64) (x12 : Int64) (x14 : Int64) (x16 : Int32), ∀ (H : Heap) (locs : List Loc) (ls : Array Slot), lv_has ls 19 [(0, .ref (ad 1)), (1, .long x1), (3, .long x3), (5, .long x5), (7, .int x7), (8, .long x8), (10, .long x10), (12, .long x12), (14, .long x14), (16, .int x16)] → va_P D vwCl (cellsC ct ad S0) H → va_S F s.heap H locs → n_X5_rowSum_100 k_19 S0 x1 x3 x5 x7 x8 x10 x12 x14 x16 = some r → W p l e rm_X5_rowSum s m args below meth c H locs 0 0 Q (F0 m 100 ls []) := by
    intro k_19 hk_19 x1 x3 x5 x7 x8 x10 x12 x14 x16 H locs ls hl hP hS hf
    refine lv_lload hx hb dX5_rowSum_100 (lv_at hl 6 rfl) ?_
    refine lv_lload hx hb dX5_rowSum_102 (lv_at hl 8 rfl) ?_
    obtain ⟨v1, h2, hf⟩ := b1_some hf
    refine pc_S (As := [.long x10, .long x14]) (rest := []) C (c_X8_part l x10 x14 v1 h2) hl.1 cp_X8_part mw_3_103 ⟨rfl, rfl⟩ ⟨Nat.le_of_ble_eq_true rfl, Nat.le_of_ble_eq_true rfl⟩ rfl rfl (Nat.le_of_ble_eq_true rfl) dX5_rowSum_104 ⟨Nat.le_of_ble_eq_true rfl, Nat.le_of_ble_eq_true rfl⟩ ?_
    refine lv_lload hx hb dX5_rowSum_107 (lv_at hl 7 rfl) ?_
    refine lv_lload hx hb dX5_rowSum_109 (lv_at hl 3 rfl) ?_
    obtain ⟨v3, h4, hf⟩ := b1_some hf
    refine pc_S (As := [.long x12, .long x5]) (rest := [.long v1]) C (c_X8_inverseModulo l x12 x5 v3 h4) hl.1 cp_X8_inverseModulo mw_3_50 ⟨rfl, rfl⟩ ⟨Nat.le_of_ble_eq_true rfl, Nat.le_of_ble_eq_true rfl⟩ rfl rfl (Nat.le_of_ble_eq_true rfl) dX5_rowSum_111 ⟨Nat.le_of_ble_eq_true rfl, Nat.le_of_ble_eq_true rfl⟩ ?_
    refine lv_lload hx hb dX5_rowSum_114 (lv_at hl 3 rfl) ?_
    obtain ⟨v5, h6, hf⟩ := b1_some hf
    refine pc_S (As := [.long v1, .long v3, .long x5]) (rest := []) C (c_X8_timesModulo l v1 v3 x5 v5 h6) hl.1 cp_X8_timesModulo mw_2_72 ⟨rfl, rfl⟩ ⟨Nat.le_of_ble_eq_true rfl, Nat.le_of_ble_eq_true rfl⟩ rfl rfl (Nat.le_of_ble_eq_true rfl) dX5_rowSum_116 ⟨Nat.le_of_ble_eq_true rfl, Nat.le_of_ble_eq_true rfl⟩ ?_
    refine lv_lstore (lv' := [(17, .long v5), (0, .ref (ad 1)), (1, .long x1), (3, .long x3), (5, .long x5), (7, .int x7), (8, .long x8), (10, .long x10), (12, .long x12), (14, .long x14), (16, .int x16)]) hx hb dX5_rowSum_119 hl (by decide) rfl (fun ls hl => ?_)
    refine lv_lload hx hb dX5_rowSum_121 (lv_at hl 6 rfl) ?_
    refine lv_lload hx hb dX5_rowSum_123 (lv_at hl 0 rfl) ?_
    refine lv_aload_n hx hb dX5_rowSum_125 rfl (lv_at hl 1 rfl) ?_
    refine gf_X5_2 C hK hP mw_1_173 dX5_rowSum_126 ?_
    refine lv_iload hx hb dX5_rowSum_129 (lv_at hl 10 rfl) ?_
    obtain ⟨v8, h7, hf⟩ := b1_some hf
    refine hc_V (As := [.int x16]) (rest := [.long v5, .long x8]) C hK (c_X6_differenceOf l D ct ad F hG x16 S0  v8 h7) hl.1 cp_X6_differenceOf mw_3_104 (rc_X6 hK hP) hP hS ⟨rfl, rfl⟩ ⟨Nat.le_of_ble_eq_true rfl, Nat.le_of_ble_eq_true rfl⟩ rfl rfl (Nat.le_of_ble_eq_true rfl) dX5_rowSum_131 ⟨Nat.le_of_ble_eq_true rfl, Nat.le_of_ble_eq_true rfl⟩ (fun H locs hP hS => ?_)
    refine lv_i2l hx hb dX5_rowSum_134 rfl ?_
    refine lv_lload hx hb dX5_rowSum_135 (lv_at hl 4 rfl) ?_
    obtain ⟨v9, h10, hf⟩ := b1_some hf
    refine pc_S (As := [.long v5, .long (Int32.toInt64 v8), .long x5]) (rest := [.long x8]) C (c_X8_timesModulo l v5 (Int32.toInt64 v8) x5 v9 h10) hl.1 cp_X8_timesModulo mw_2_72 ⟨rfl, rfl⟩ ⟨Nat.le_of_ble_eq_true rfl, Nat.le_of_ble_eq_true rfl⟩ rfl rfl (Nat.le_of_ble_eq_true rfl) dX5_rowSum_137 ⟨Nat.le_of_ble_eq_true rfl, Nat.le_of_ble_eq_true rfl⟩ ?_
    refine lv_ladd hx hb dX5_rowSum_140 ?_
    refine lv_lload hx hb dX5_rowSum_141 (lv_at hl 4 rfl) ?_
    obtain ⟨v11, h12, hf⟩ := b1_some hf
    refine pc_S (As := [.long (x8 + v9), .long x5]) (rest := []) C (c_X8_rest l (x8 + v9) x5 v11 h12) hl.1 cp_X8_rest mw_2_82 ⟨rfl, rfl⟩ ⟨Nat.le_of_ble_eq_true rfl, Nat.le_of_ble_eq_true rfl⟩ rfl rfl (Nat.le_of_ble_eq_true rfl) dX5_rowSum_143 ⟨Nat.le_of_ble_eq_true rfl, Nat.le_of_ble_eq_true rfl⟩ ?_
    refine lv_lstore (lv' := [(8, .long v11), (17, .long v5), (0, .ref (ad 1)), (1, .long x1), (3, .long x3), (5, .long x5), (7, .int x7), (10, .long x10), (12, .long x12), (14, .long x14), (16, .int x16)]) hx hb dX5_rowSum_146 hl (by decide) rfl (fun ls hl => ?_)
    refine lv_iinc (v := (x16 + 1)) (lv' := [(16, .int (x16 + 1)), (8, .long v11), (17, .long v5), (0, .ref (ad 1)), (1, .long x1), (3, .long x3), (5, .long x5), (7, .int x7), (10, .long x10), (12, .long x12), (14, .long x14)]) hx hb dX5_rowSum_148 hl (k := 10) rfl rfl (by decide) rfl (fun ls hl => ?_)
    refine lv_goto (tgt := 19) hx hb dX5_rowSum_151 (by decide) ?_
    exact hk_19 x1 x3 x5 x7 v11 x10 x12 x14 (x16 + 1) _ _ _ (lv_sub hl [3, 4, 5, 6, 7, 1, 8, 9, 10, 0] rfl) hP hS hf
  have w_19 : ∀ (x1 : Int64) (x3 : Int64) (x5 : Int64) (x7 : Int32) (x8 : Int64) (x10 : Int64) (x12 : Int64) (x14 : Int64) (x16 : Int32), ∀ (H : Heap) (locs : List Loc) (ls : Array Slot), lv_has ls 19 [(0, .ref (ad 1)), (1, .long x1), (3, .long x3), (5, .long x5), (7, .int x7), (8, .long x8), (10, .long x10), (12, .long x12), (14, .long x14), (16, .int x16)] → va_P D vwCl (cellsC ct ad S0) H → va_S F s.heap H locs → n_X5_rowSum_19 S0 x1 x3 x5 x7 x8 x10 x12 x14 x16 = some r → W p l e rm_X5_rowSum s m args below meth c H locs 0 0 Q (F0 m 19 ls []) := by
    have aux : ∀ (n : Nat), ∀ (x1 : Int64) (x3 : Int64) (x5 : Int64) (x7 : Int32) (x8 : Int64) (x10 : Int64) (x12 : Int64) (x14 : Int64) (x16 : Int32), ∀ (H : Heap) (locs : List Loc) (ls : Array Slot), lv_has ls 19 [(0, .ref (ad 1)), (1, .long x1), (3, .long x3), (5, .long x5), (7, .int x7), (8, .long x8), (10, .long x10), (12, .long x12), (14, .long x14), (16, .int x16)] → va_P D vwCl (cellsC ct ad S0) H → va_S F s.heap H locs → itr (fun (q : Int64 × Int64 × Int64 × Int32 × Int64 × Int64 × Int64 × Int64 × Int32) k => s_X5_rowSum_19  (fun (x1 : Int64) (x3 : Int64) (x5 : Int64) (x7 : Int32) (x8 : Int64) (x10 : Int64) (x12 : Int64) (x14 : Int64) (x16 : Int32) => k (x1, x3, x5, x7, x8, x10, x12, x14, x16)) S0 q.1 q.2.1 q.2.2.1 q.2.2.2.1 q.2.2.2.2.1 q.2.2.2.2.2.1 q.2.2.2.2.2.2.1 q.2.2.2.2.2.2.2.1 q.2.2.2.2.2.2.2.2) n (x1, x3, x5, x7, x8, x10, x12, x14, x16) = some r → W p l e rm_X5_rowSum s m args below meth c H locs 0 0 Q (F0 m 19 ls []) := by
      intro n
      induction n with
      | zero => intro x1 x3 x5 x7 x8 x10 x12 x14 x16 H locs ls hl hP hS hf; exact (itr_z hf).elim
      | succ n ih =>
      intro x1 x3 x5 x7 x8 x10 x12 x14 x16 H locs ls hl hP hS hf
      have hk_19 := ih
      have hf : s_X5_rowSum_19  (fun (x1 : Int64) (x3 : Int64) (x5 : Int64) (x7 : Int32) (x8 : Int64) (x10 : Int64) (x12 : Int64) (x14 : Int64) (x16 : Int32) => itr (fun (q : Int64 × Int64 × Int64 × Int32 × Int64 × Int64 × Int64 × Int64 × Int32) k => s_X5_rowSum_19  (fun (x1 : Int64) (x3 : Int64) (x5 : Int64) (x7 : Int32) (x8 : Int64) (x10 : Int64) (x12 : Int64) (x14 : Int64) (x16 : Int32) => k (x1, x3, x5, x7, x8, x10, x12, x14, x16)) S0 q.1 q.2.1 q.2.2.1 q.2.2.2.1 q.2.2.2.2.1 q.2.2.2.2.2.1 q.2.2.2.2.2.2.1 q.2.2.2.2.2.2.2.1 q.2.2.2.2.2.2.2.2) n (x1, x3, x5, x7, x8, x10, x12, x14, x16)) S0 x1 x3 x5 x7 x8 x10 x12 x14 x16 = some r := hf
      refine lv_iload hx hb dX5_rowSum_19 (lv_at hl 9 rfl) ?_
      refine lv_iload hx hb dX5_rowSum_21 (lv_at hl 4 rfl) ?_
      refine lv_icmp_ge (tgt := 154) hx hb dX5_rowSum_23 (by decide) (fun c13 => ?_) (fun c13 => ?_)
      · have hf := sp1 c13 hf
        refine lv_lload hx hb dX5_rowSum_154 (lv_at hl 5 rfl) ?_
        cases hf
        subst hQ
        exact he_l C hP hS dX5_rowSum_156
      · have hf := sp0 c13 hf
        refine lv_iload hx hb dX5_rowSum_26 (lv_at hl 9 rfl) ?_
        refine lv_bipush (v := 12) hx hb dX5_rowSum_28 (by decide) ?_
        refine lv_icmp_ge (tgt := 154) hx hb dX5_rowSum_30 (by decide) (fun c14 => ?_) (fun c14 => ?_)
        · have hf := sp1 c14 hf
          refine lv_lload hx hb dX5_rowSum_154 (lv_at hl 5 rfl) ?_
          cases hf
          subst hQ
          exact he_l C hP hS dX5_rowSum_156
        · have hf := sp0 c14 hf
          refine lv_iload hx hb dX5_rowSum_33 (lv_at hl 9 rfl) ?_
          refine lv_if_le (tgt := 100) hx hb dX5_rowSum_35 (by decide) (fun c15 => ?_) (fun c15 => ?_)
          · have hf := sp1 c15 hf
            exact w_100 _ hk_19 x1 x3 x5 x7 x8 x10 x12 x14 x16 _ _ _ (lv_sub hl [0, 1, 2, 3, 4, 5, 6, 7, 8, 9] rfl) hP hS hf
          · have hf := sp0 c15 hf
            refine lv_lload hx hb dX5_rowSum_38 (lv_at hl 6 rfl) ?_
            refine lv_lload_n hx hb dX5_rowSum_40 rfl (lv_at hl 1 rfl) ?_
            refine lv_iload hx hb dX5_rowSum_41 (lv_at hl 9 rfl) ?_
            refine lv_i2l hx hb dX5_rowSum_43 rfl ?_
            refine lv_lsub hx hb dX5_rowSum_44 ?_
            refine lv_lconst (v := 1) hx hb dX5_rowSum_45 (by decide) ?_
            refine lv_ladd hx hb dX5_rowSum_46 ?_
            refine lv_lload_n hx hb dX5_rowSum_47 rfl (lv_at hl 2 rfl) ?_
            obtain ⟨v16, h17, hf⟩ := b1_some hf
            refine pc_S (As := [.long x10, .long ((x1 - (Int32.toInt64 x16)) + 1), .long x3]) (rest := []) C (c_X8_timesModulo l x10 ((x1 - (Int32.toInt64 x16)) + 1) x3 v16 h17) hl.1 cp_X8_timesModulo mw_2_72 ⟨rfl, rfl⟩ ⟨Nat.le_of_ble_eq_true rfl, Nat.le_of_ble_eq_true rfl⟩ rfl rfl (Nat.le_of_ble_eq_true rfl) dX5_rowSum_48 ⟨Nat.le_of_ble_eq_true rfl, Nat.le_of_ble_eq_true rfl⟩ ?_
            refine lv_lstore (lv' := [(10, .long v16), (0, .ref (ad 1)), (1, .long x1), (3, .long x3), (5, .long x5), (7, .int x7), (8, .long x8), (12, .long x12), (14, .long x14), (16, .int x16)]) hx hb dX5_rowSum_51 hl (by decide) rfl (fun ls hl => ?_)
            refine lv_lload hx hb dX5_rowSum_53 (lv_at hl 7 rfl) ?_
            refine lv_iload hx hb dX5_rowSum_55 (lv_at hl 9 rfl) ?_
            refine lv_i2l hx hb dX5_rowSum_57 rfl ?_
            refine lv_aload_n hx hb dX5_rowSum_58 rfl (lv_at hl 1 rfl) ?_
            refine gf_X5_0 C hK hP mw_1_169 dX5_rowSum_59 ?_
            refine gf_X2_0 C hK hP mw_1_52 dX5_rowSum_62 ?_
            obtain ⟨v18, h19, hf⟩ := b1_some hf
            refine pc_S (As := [.long (Int32.toInt64 x16), .int (S0.1 3 0)]) (rest := [.long x12]) C (c_X8_withoutFactors l (Int32.toInt64 x16) (S0.1 3 0) v18 h19) hl.1 cp_X8_withoutFactors mw_2_93 ⟨rfl, rfl⟩ ⟨Nat.le_of_ble_eq_true rfl, Nat.le_of_ble_eq_true rfl⟩ rfl rfl (Nat.le_of_ble_eq_true rfl) dX5_rowSum_65 ⟨Nat.le_of_ble_eq_true rfl, Nat.le_of_ble_eq_true rfl⟩ ?_
            refine lv_lload hx hb dX5_rowSum_68 (lv_at hl 4 rfl) ?_
            obtain ⟨v20, h21, hf⟩ := b1_some hf
            refine pc_S (As := [.long x12, .long v18, .long x5]) (rest := []) C (c_X8_timesModulo l x12 v18 x5 v20 h21) hl.1 cp_X8_timesModulo mw_2_72 ⟨rfl, rfl⟩ ⟨Nat.le_of_ble_eq_true rfl, Nat.le_of_ble_eq_true rfl⟩ rfl rfl (Nat.le_of_ble_eq_true rfl) dX5_rowSum_70 ⟨Nat.le_of_ble_eq_true rfl, Nat.le_of_ble_eq_true rfl⟩ ?_
            refine lv_lstore (lv' := [(12, .long v20), (10, .long v16), (0, .ref (ad 1)), (1, .long x1), (3, .long x3), (5, .long x5), (7, .int x7), (8, .long x8), (14, .long x14), (16, .int x16)]) hx hb dX5_rowSum_73 hl (by decide) rfl (fun ls hl => ?_)
            refine lv_lload hx hb dX5_rowSum_75 (lv_at hl 8 rfl) ?_
            refine lv_aload_n hx hb dX5_rowSum_77 rfl (lv_at hl 2 rfl) ?_
            refine gf_X5_0 C hK hP mw_1_169 dX5_rowSum_78 ?_
            refine lv_iload hx hb dX5_rowSum_81 (lv_at hl 9 rfl) ?_
            refine lv_i2l hx hb dX5_rowSum_83 rfl ?_
            refine lv_aload_n hx hb dX5_rowSum_84 rfl (lv_at hl 2 rfl) ?_
            refine gf_X5_0 C hK hP mw_1_169 dX5_rowSum_85 ?_
            refine gf_X2_0 C hK hP mw_1_52 dX5_rowSum_88 ?_
            obtain ⟨v22, h23, hf⟩ := b1_some hf
            refine pc_S (As := [.long (Int32.toInt64 x16), .int (S0.1 3 0)]) (rest := [.ref (ad 3), .long x14]) C (c_X8_factorCount l (Int32.toInt64 x16) (S0.1 3 0) v22 h23) hl.1 cp_X8_factorCount mw_2_87 ⟨rfl, rfl⟩ ⟨Nat.le_of_ble_eq_true rfl, Nat.le_of_ble_eq_true rfl⟩ rfl rfl (Nat.le_of_ble_eq_true rfl) dX5_rowSum_91 ⟨Nat.le_of_ble_eq_true rfl, Nat.le_of_ble_eq_true rfl⟩ ?_
            obtain ⟨v25, h24, hf⟩ := b1_some hf
            refine hc_V (As := [.int v22]) (rest := [.long x14]) C hK (c_X2_power l D ct ad F hG v22 S0  v25 h24) hl.1 cp_X2_power mw_2_66 (rc_X2 hK hP) hP hS ⟨rfl, rfl⟩ ⟨Nat.le_of_ble_eq_true rfl, Nat.le_of_ble_eq_true rfl⟩ rfl rfl (Nat.le_of_ble_eq_true rfl) dX5_rowSum_94 ⟨Nat.le_of_ble_eq_true rfl, Nat.le_of_ble_eq_true rfl⟩ (fun H locs hP hS => ?_)
            refine lv_lmul hx hb dX5_rowSum_97 ?_
            refine lv_lstore (lv' := [(14, .long (x14 * v25)), (12, .long v20), (10, .long v16), (0, .ref (ad 1)), (1, .long x1), (3, .long x3), (5, .long x5), (7, .int x7), (8, .long x8), (16, .int x16)]) hx hb dX5_rowSum_98 hl (by decide) rfl (fun ls hl => ?_)
            exact w_100 _ hk_19 x1 x3 x5 x7 x8 v16 v20 (x14 * v25) x16 _ _ _ (lv_sub hl [3, 4, 5, 6, 7, 8, 2, 1, 0, 9] rfl) hP hS hf
    exact aux FU
  refine lv_lconst (v := 0) hx hb dX5_rowSum_0 (by decide) ?_
  refine lv_lstore (lv' := [(8, .long 0), (0, .ref (ad 1)), (1, .long p0), (3, .long p1), (5, .long p2), (7, .int p3)]) hx hb dX5_rowSum_1 hl (by decide) rfl (fun ls hl => ?_)
  refine lv_lconst (v := 1) hx hb dX5_rowSum_3 (by decide) ?_
  refine lv_lload_n hx hb dX5_rowSum_4 rfl (lv_at hl 3 rfl) ?_
  obtain ⟨v26, h27, hf⟩ := b1_some hf
  refine pc_S (As := [.long 1, .long p1]) (rest := []) C (c_X8_rest l 1 p1 v26 h27) hl.1 cp_X8_rest mw_2_82 ⟨rfl, rfl⟩ ⟨Nat.le_of_ble_eq_true rfl, Nat.le_of_ble_eq_true rfl⟩ rfl rfl (Nat.le_of_ble_eq_true rfl) dX5_rowSum_5 ⟨Nat.le_of_ble_eq_true rfl, Nat.le_of_ble_eq_true rfl⟩ ?_
  refine lv_lstore (lv' := [(10, .long v26), (8, .long 0), (0, .ref (ad 1)), (1, .long p0), (3, .long p1), (5, .long p2), (7, .int p3)]) hx hb dX5_rowSum_8 hl (by decide) rfl (fun ls hl => ?_)
  refine lv_lconst (v := 1) hx hb dX5_rowSum_10 (by decide) ?_
  refine lv_lstore (lv' := [(12, .long 1), (10, .long v26), (8, .long 0), (0, .ref (ad 1)), (1, .long p0), (3, .long p1), (5, .long p2), (7, .int p3)]) hx hb dX5_rowSum_11 hl (by decide) rfl (fun ls hl => ?_)
  refine lv_lconst (v := 1) hx hb dX5_rowSum_13 (by decide) ?_
  refine lv_lstore (lv' := [(14, .long 1), (12, .long 1), (10, .long v26), (8, .long 0), (0, .ref (ad 1)), (1, .long p0), (3, .long p1), (5, .long p2), (7, .int p3)]) hx hb dX5_rowSum_14 hl (by decide) rfl (fun ls hl => ?_)
  refine lv_iconst (v := 0) hx hb dX5_rowSum_16 (by decide) ?_
  refine lv_istore (lv' := [(16, .int 0), (14, .long 1), (12, .long 1), (10, .long v26), (8, .long 0), (0, .ref (ad 1)), (1, .long p0), (3, .long p1), (5, .long p2), (7, .int p3)]) hx hb dX5_rowSum_17 hl (by decide) rfl (fun ls hl => ?_)
  exact w_19 p0 p1 p2 p3 0 v26 1 1 0 _ _ _ (lv_sub hl [5, 6, 7, 8, 9, 4, 3, 2, 1, 0] rfl) hP hS hf
theorem cp_X5_rowSum : CPv yX5_rowSum cX5_rowSum 19 (some .long) 4 := ⟨mw_3_102, mw_1_2, mw_3_101, ms_23, by decide +kernel⟩
def rm_X5_findRowValue : Room := { frames := 4, cells := 0, slots := 0, locals := 113 }
set_option maxHeartbeats 4000000 in
set_option maxRecDepth 100000 in
theorem c_X5_findRowValue (l : Launch) (D : va_G) (ct : Nat → ClassId) (ad : Nat → Nat) (F : Nat → Prop) (hG : Gd ad 70 F) (p0 : Nat) (p1 : Nat) (S0 : St) (hk_p0 : p0 < 42) (hk_p1 : p1 < 42) (S' : St) (hf : f_X5_findRowValue p0 p1 S0 = some S') : MetH l yX5_findRowValue cX5_findRowValue 7 none rm_X5_findRowValue D (tysW ct) F [.ref (ad 1), .ref (ad (12 + p0)), .ref (ad (12 + p1))] none (cellsC ct ad S0) (cellsC ct ad S') := by
  refine MetH.of RX5 (by decide) rfl (Nat.le_of_ble_eq_true rfl) ?_
  intro p e s m args below meth c C hK hP ls hl
  have hl : lv_has ls 7 [(0, .ref (ad 1)), (1, .ref (ad (12 + p0))), (2, .ref (ad (12 + p1)))] := hl
  obtain ⟨hx, hb, hr, hml, hown, htL, hlocks⟩ := id C
  have hS : va_S F s.heap s.heap [] := va_S.rf
  generalize hQ : MQ below (Hq D (cellsC ct ad S') F none) args s 0 0 F = Q
  refine lv_aload_n hx hb dX5_findRowValue_0 rfl (lv_at hl 2 rfl) ?_
  refine gf_X3_9 C hK hP hk_p1 mw_1_133 dX5_findRowValue_1 ?_
  refine lv_aload_n hx hb dX5_findRowValue_4 rfl (lv_at hl 0 rfl) ?_
  refine gf_X5_0 C hK hP mw_1_169 dX5_findRowValue_5 ?_
  refine gf_X2_1 C hK hP mw_1_55 dX5_findRowValue_8 ?_
  refine va_mmin (ls := _) hx hb (hml.trans hl.1.symm) hown (htL _ mw_2_59) (htL _ mw_2_60) (htL _ mw_1_17) (htL _ mw_2_61) (Nat.le_of_ble_eq_true rfl) (Nat.le_of_ble_eq_true rfl) (Nat.le_of_ble_eq_true rfl) (Nat.le_of_ble_eq_true rfl) dX5_findRowValue_11 ?_
  refine lv_istore_n (lv' := [(3, .int (mnI (S0.1 (12 + p1) 9) (S0.1 3 1))), (0, .ref (ad 1)), (1, .ref (ad (12 + p0))), (2, .ref (ad (12 + p1)))]) hx hb dX5_findRowValue_14 rfl hl (by decide) rfl (fun ls hl => ?_)
  refine lv_aload_n hx hb dX5_findRowValue_15 rfl (lv_at hl 1 rfl) ?_
  refine lv_aload_n hx hb dX5_findRowValue_16 rfl (lv_at hl 3 rfl) ?_
  refine lv_aload_n hx hb dX5_findRowValue_17 rfl (lv_at hl 2 rfl) ?_
  refine gf_X3_6 C hK hP hk_p0 mw_1_127 dX5_findRowValue_18 ?_
  obtain ⟨v2, h1, hf⟩ := b1_some hf
  refine hc_V (As := [.ref (ad (12 + p1)), .int (S0.1 (12 + p0) 6)]) (rest := []) C hK (c_X5_rowValueReach l D ct ad F hG p1 (S0.1 (12 + p0) 6) S0 hk_p1 v2 h1) hl.1 cp_X5_rowValueReach mw_3_90 (rc_X5 hK hP) hP hS ⟨rfl, rfl⟩ ⟨Nat.le_of_ble_eq_true rfl, Nat.le_of_ble_eq_true rfl⟩ rfl rfl (Nat.le_of_ble_eq_true rfl) dX5_findRowValue_21 ⟨Nat.le_of_ble_eq_true rfl, Nat.le_of_ble_eq_true rfl⟩ (fun H locs hP hS => ?_)
  refine lv_istore (lv' := [(4, .int v2), (3, .int (mnI (S0.1 (12 + p1) 9) (S0.1 3 1))), (0, .ref (ad 1)), (1, .ref (ad (12 + p0))), (2, .ref (ad (12 + p1)))]) hx hb dX5_findRowValue_24 hl (by decide) rfl (fun ls hl => ?_)
  refine lv_aload_n hx hb dX5_findRowValue_26 rfl (lv_at hl 2 rfl) ?_
  refine lv_aload_n hx hb dX5_findRowValue_27 rfl (lv_at hl 4 rfl) ?_
  refine lv_iconst (v := 0) hx hb dX5_findRowValue_28 (by decide) ?_
  refine lv_iload_n hx hb dX5_findRowValue_29 rfl (lv_at hl 1 rfl) ?_
  obtain ⟨v4, h3, hf⟩ := b1_some hf
  refine hc_V (As := [.ref (ad (12 + p1)), .int 0, .int (mnI (S0.1 (12 + p1) 9) (S0.1 3 1))]) (rest := []) C hK (c_X5_wholeFrom l D ct ad F hG p1 0 (mnI (S0.1 (12 + p1) 9) (S0.1 3 1)) S0 hk_p1 v4 h3) hl.1 cp_X5_wholeFrom mw_2_62 (rc_X5 hK hP) hP hS ⟨rfl, rfl⟩ ⟨Nat.le_of_ble_eq_true rfl, Nat.le_of_ble_eq_true rfl⟩ rfl rfl (Nat.le_of_ble_eq_true rfl) dX5_findRowValue_30 ⟨Nat.le_of_ble_eq_true rfl, Nat.le_of_ble_eq_true rfl⟩ (fun H locs hP hS => ?_)
  refine lv_lstore (lv' := [(5, .long v4), (4, .int v2), (3, .int (mnI (S0.1 (12 + p1) 9) (S0.1 3 1))), (0, .ref (ad 1)), (1, .ref (ad (12 + p0))), (2, .ref (ad (12 + p1)))]) hx hb dX5_findRowValue_33 hl (by decide) rfl (fun ls hl => ?_)
  refine lv_aload_n hx hb dX5_findRowValue_35 rfl (lv_at hl 3 rfl) ?_
  refine lv_aload_n hx hb dX5_findRowValue_36 rfl (lv_at hl 4 rfl) ?_
  refine lv_iconst (v := 0) hx hb dX5_findRowValue_37 (by decide) ?_
  refine lv_iload hx hb dX5_findRowValue_38 (lv_at hl 1 rfl) ?_
  refine lv_aload_n hx hb dX5_findRowValue_40 rfl (lv_at hl 3 rfl) ?_
  refine lv_lload hx hb dX5_findRowValue_41 (lv_at hl 0 rfl) ?_
  refine lv_aload_n hx hb dX5_findRowValue_43 rfl (lv_at hl 3 rfl) ?_
  refine gf_X5_0 C hK hP mw_1_169 dX5_findRowValue_44 ?_
  refine lv_iload_n hx hb dX5_findRowValue_47 rfl (lv_at hl 2 rfl) ?_
  obtain ⟨v6, h5, hf⟩ := b1_some hf
  refine hc_V (As := [.int (mnI (S0.1 (12 + p1) 9) (S0.1 3 1))]) (rest := [.long v4, .ref (ad 1), .int v2, .int 0, .ref (ad (12 + p0)), .ref (ad 1)]) C hK (c_X2_power l D ct ad F hG (mnI (S0.1 (12 + p1) 9) (S0.1 3 1)) S0  v6 h5) hl.1 cp_X2_power mw_2_66 (rc_X2 hK hP) hP hS ⟨rfl, rfl⟩ ⟨Nat.le_of_ble_eq_true rfl, Nat.le_of_ble_eq_true rfl⟩ rfl rfl (Nat.le_of_ble_eq_true rfl) dX5_findRowValue_48 ⟨Nat.le_of_ble_eq_true rfl, Nat.le_of_ble_eq_true rfl⟩ (fun H locs hP hS => ?_)
  refine lv_aload_n hx hb dX5_findRowValue_51 rfl (lv_at hl 3 rfl) ?_
  refine gf_X5_0 C hK hP mw_1_169 dX5_findRowValue_52 ?_
  refine lv_iload hx hb dX5_findRowValue_55 (lv_at hl 1 rfl) ?_
  obtain ⟨v8, h7, hf⟩ := b1_some hf
  refine hc_V (As := [.int v2]) (rest := [.long v6, .long v4, .ref (ad 1), .int v2, .int 0, .ref (ad (12 + p0)), .ref (ad 1)]) C hK (c_X2_power l D ct ad F hG v2 S0  v8 h7) hl.1 cp_X2_power mw_2_66 (rc_X2 hK hP) hP hS ⟨rfl, rfl⟩ ⟨Nat.le_of_ble_eq_true rfl, Nat.le_of_ble_eq_true rfl⟩ rfl rfl (Nat.le_of_ble_eq_true rfl) dX5_findRowValue_57 ⟨Nat.le_of_ble_eq_true rfl, Nat.le_of_ble_eq_true rfl⟩ (fun H locs hP hS => ?_)
  refine lv_aload_n hx hb dX5_findRowValue_60 rfl (lv_at hl 4 rfl) ?_
  refine gf_X3_6 C hK hP hk_p0 mw_1_127 dX5_findRowValue_61 ?_
  obtain ⟨v10, h9, hf⟩ := b1_some hf
  refine hc_V (As := [.long v4, .long v6, .long v8, .int (S0.1 (12 + p0) 6)]) (rest := [.int v2, .int 0, .ref (ad (12 + p0)), .ref (ad 1)]) C hK (c_X5_rowSum l D ct ad F hG v4 v6 v8 (S0.1 (12 + p0) 6) S0  v10 h9) hl.1 cp_X5_rowSum mw_3_99 (rc_X5 hK hP) hP hS ⟨rfl, rfl⟩ ⟨Nat.le_of_ble_eq_true rfl, Nat.le_of_ble_eq_true rfl⟩ rfl rfl (Nat.le_of_ble_eq_true rfl) dX5_findRowValue_64 ⟨Nat.le_of_ble_eq_true rfl, Nat.le_of_ble_eq_true rfl⟩ (fun H locs hP hS => ?_)
  obtain ⟨S12, h11, hf⟩ := b1_some hf
  refine hc_V (As := [.ref (ad (12 + p0)), .int 0, .int v2, .long v10]) (rest := []) C hK (c_X5_settle l D ct ad F hG p0 0 v2 v10 S0 hk_p0 S12 h11) hl.1 cp_X5_settle mw_2_78 (rc_X5 hK hP) hP hS ⟨rfl, rfl⟩ ⟨Nat.le_of_ble_eq_true rfl, Nat.le_of_ble_eq_true rfl⟩ rfl rfl (Nat.le_of_ble_eq_true rfl) dX5_findRowValue_67 ⟨Nat.le_of_ble_eq_true rfl, Nat.le_of_ble_eq_true rfl⟩ (fun H locs hP hS => ?_)
  cases hf
  subst hQ
  exact he_v C hP hS dX5_findRowValue_70
theorem cp_X5_findRowValue : CPv yX5_findRowValue cX5_findRowValue 7 none 2 := ⟨mw_3_89, mw_1_2, mw_3_88, ms_22, by decide +kernel⟩
def rm_X5_find : Room := { frames := 5, cells := 0, slots := 0, locals := 143 }
set_option maxHeartbeats 4000000 in
set_option maxRecDepth 100000 in
theorem c_X5_find (l : Launch) (D : va_G) (ct : Nat → ClassId) (ad : Nat → Nat) (F : Nat → Prop) (hG : Gd ad 70 F) (p0 : Nat) (S0 : St) (hk_p0 : p0 < 42) (S' : St) (hf : f_X5_find p0 S0 = some S') : MetH l yX5_find cX5_find 4 none rm_X5_find D (tysW ct) F [.ref (ad 1), .ref (ad (12 + p0))] none (cellsC ct ad S0) (cellsC ct ad S') := by
  refine MetH.of RX5 (by decide) rfl (Nat.le_of_ble_eq_true rfl) ?_
  intro p e s m args below meth c C hK hP ls hl
  have hl : lv_has ls 4 [(0, .ref (ad 1)), (1, .ref (ad (12 + p0)))] := hl
  obtain ⟨hx, hb, hr, hml, hown, htL, hlocks⟩ := id C
  have hS : va_S F s.heap s.heap [] := va_S.rf
  generalize hQ : MQ below (Hq D (cellsC ct ad S') F none) args s 0 0 F = Q
  refine lv_aload_n hx hb dX5_find_0 rfl (lv_at hl 0 rfl) ?_
  refine lv_aload_n hx hb dX5_find_1 rfl (lv_at hl 1 rfl) ?_
  refine gf_X3_1 C hK hP hk_p0 mw_1_121 dX5_find_2 ?_
  obtain ⟨v2, h1, hf⟩ := b1_some hf
  refine hc_V (As := [.int (S0.1 (12 + p0) 1)]) (rest := []) C hK (c_X5_numbered l D ct ad F hG (S0.1 (12 + p0) 1) S0  v2 h1) hl.1 cp_X5_numbered mw_2_39 (rc_X5 hK hP) hP hS ⟨rfl, rfl⟩ ⟨Nat.le_of_ble_eq_true rfl, Nat.le_of_ble_eq_true rfl⟩ rfl rfl (Nat.le_of_ble_eq_true rfl) dX5_find_5 ⟨Nat.le_of_ble_eq_true rfl, Nat.le_of_ble_eq_true rfl⟩ (fun H locs hP hS => ?_)
  obtain ⟨c3, hf⟩ := spy hf
  refine lv_astore_n (lv' := [(2, .ref (ad (12 + v2))), (0, .ref (ad 1)), (1, .ref (ad (12 + p0)))]) hx hb dX5_find_8 rfl hl (by decide) rfl (fun ls hl => ?_)
  refine lv_aload_n hx hb dX5_find_9 rfl (lv_at hl 1 rfl) ?_
  refine lv_aload_n hx hb dX5_find_10 rfl (lv_at hl 2 rfl) ?_
  refine gf_X3_2 C hK hP hk_p0 mw_1_123 dX5_find_11 ?_
  obtain ⟨v5, h4, hf⟩ := b1_some hf
  refine hc_V (As := [.int (S0.1 (12 + p0) 2)]) (rest := []) C hK (c_X5_numbered l D ct ad F hG (S0.1 (12 + p0) 2) S0  v5 h4) hl.1 cp_X5_numbered mw_2_39 (rc_X5 hK hP) hP hS ⟨rfl, rfl⟩ ⟨Nat.le_of_ble_eq_true rfl, Nat.le_of_ble_eq_true rfl⟩ rfl rfl (Nat.le_of_ble_eq_true rfl) dX5_find_14 ⟨Nat.le_of_ble_eq_true rfl, Nat.le_of_ble_eq_true rfl⟩ (fun H locs hP hS => ?_)
  obtain ⟨c6, hf⟩ := spy hf
  refine lv_astore_n (lv' := [(3, .ref (ad (12 + v5))), (2, .ref (ad (12 + v2))), (0, .ref (ad 1)), (1, .ref (ad (12 + p0)))]) hx hb dX5_find_17 rfl hl (by decide) rfl (fun ls hl => ?_)
  refine lv_aload_n hx hb dX5_find_18 rfl (lv_at hl 3 rfl) ?_
  refine gf_X3_0 C hK hP hk_p0 mw_1_119 dX5_find_19 ?_
  by_cases c7 : (S0.1 (12 + p0) 0) = (0 : Int32)
  · have hf := sp1 c7 hf
    refine lv_tableIn (tgt := 68) hx hb dX5_find_22 (by rw [c7]; decide) (by rw [c7]; decide) (by rw [c7]; rfl) (by decide) ?_
    refine lv_aload_n hx hb dX5_find_68 rfl (lv_at hl 2 rfl) ?_
    refine lv_aload_n hx hb dX5_find_69 rfl (lv_at hl 3 rfl) ?_
    obtain ⟨S9, h8, hf⟩ := b1_some hf
    refine hc_V (As := [.ref (ad (12 + p0))]) (rest := []) C hK (c_X5_findFraction l D ct ad F hG p0 S0 hk_p0 S9 h8) hl.1 cp_X5_findFraction mw_3_46 (rc_X5 hK hP) hP hS ⟨rfl, rfl⟩ ⟨Nat.le_of_ble_eq_true rfl, Nat.le_of_ble_eq_true rfl⟩ rfl rfl (Nat.le_of_ble_eq_true rfl) dX5_find_70 ⟨Nat.le_of_ble_eq_true rfl, Nat.le_of_ble_eq_true rfl⟩ (fun H locs hP hS => ?_)
    refine lv_goto (tgt := 150) hx hb dX5_find_73 (by decide) ?_
    cases hf
    subst hQ
    exact he_v C hP hS dX5_find_150
  have hf := sp0 c7 hf
  have tc7 := c7
  by_cases c10 : (S0.1 (12 + p0) 0) = (1 : Int32)
  · have hf := sp1 c10 hf
    refine lv_tableIn (tgt := 76) hx hb dX5_find_22 (by rw [c10]; decide) (by rw [c10]; decide) (by rw [c10]; rfl) (by decide) ?_
    refine lv_aload_n hx hb dX5_find_76 rfl (lv_at hl 2 rfl) ?_
    refine lv_aload_n hx hb dX5_find_77 rfl (lv_at hl 3 rfl) ?_
    refine lv_aload_n hx hb dX5_find_78 rfl (lv_at hl 1 rfl) ?_
    refine lv_aload_n hx hb dX5_find_79 rfl (lv_at hl 0 rfl) ?_
    refine lv_iconst (v := 1) hx hb dX5_find_80 (by decide) ?_
    obtain ⟨S12, h11, hf⟩ := b1_some hf
    refine hc_V (As := [.ref (ad (12 + p0)), .ref (ad (12 + v2)), .ref (ad (12 + v5)), .int 1]) (rest := []) C hK (c_X5_findSum l D ct ad F hG p0 v2 v5 1 S0 hk_p0 c3 c6 S12 h11) hl.1 cp_X5_findSum mw_2_55 (rc_X5 hK hP) hP hS ⟨rfl, rfl⟩ ⟨Nat.le_of_ble_eq_true rfl, Nat.le_of_ble_eq_true rfl⟩ rfl rfl (Nat.le_of_ble_eq_true rfl) dX5_find_81 ⟨Nat.le_of_ble_eq_true rfl, Nat.le_of_ble_eq_true rfl⟩ (fun H locs hP hS => ?_)
    refine lv_goto (tgt := 150) hx hb dX5_find_84 (by decide) ?_
    cases hf
    subst hQ
    exact he_v C hP hS dX5_find_150
  have hf := sp0 c10 hf
  have tc10 := c10
  by_cases c13 : (S0.1 (12 + p0) 0) = (2 : Int32)
  · have hf := sp1 c13 hf
    refine lv_tableIn (tgt := 87) hx hb dX5_find_22 (by rw [c13]; decide) (by rw [c13]; decide) (by rw [c13]; rfl) (by decide) ?_
    refine lv_aload_n hx hb dX5_find_87 rfl (lv_at hl 2 rfl) ?_
    refine lv_aload_n hx hb dX5_find_88 rfl (lv_at hl 3 rfl) ?_
    refine lv_aload_n hx hb dX5_find_89 rfl (lv_at hl 1 rfl) ?_
    refine lv_aload_n hx hb dX5_find_90 rfl (lv_at hl 0 rfl) ?_
    refine lv_iconst (v := (-1)) hx hb dX5_find_91 (by decide) ?_
    obtain ⟨S15, h14, hf⟩ := b1_some hf
    refine hc_V (As := [.ref (ad (12 + p0)), .ref (ad (12 + v2)), .ref (ad (12 + v5)), .int (-1)]) (rest := []) C hK (c_X5_findSum l D ct ad F hG p0 v2 v5 (-1) S0 hk_p0 c3 c6 S15 h14) hl.1 cp_X5_findSum mw_2_55 (rc_X5 hK hP) hP hS ⟨rfl, rfl⟩ ⟨Nat.le_of_ble_eq_true rfl, Nat.le_of_ble_eq_true rfl⟩ rfl rfl (Nat.le_of_ble_eq_true rfl) dX5_find_92 ⟨Nat.le_of_ble_eq_true rfl, Nat.le_of_ble_eq_true rfl⟩ (fun H locs hP hS => ?_)
    refine lv_goto (tgt := 150) hx hb dX5_find_95 (by decide) ?_
    cases hf
    subst hQ
    exact he_v C hP hS dX5_find_150
  have hf := sp0 c13 hf
  have tc13 := c13
  by_cases c16 : (S0.1 (12 + p0) 0) = (3 : Int32)
  · have hf := sp1 c16 hf
    refine lv_tableIn (tgt := 98) hx hb dX5_find_22 (by rw [c16]; decide) (by rw [c16]; decide) (by rw [c16]; rfl) (by decide) ?_
    refine lv_aload_n hx hb dX5_find_98 rfl (lv_at hl 2 rfl) ?_
    refine lv_aload_n hx hb dX5_find_99 rfl (lv_at hl 3 rfl) ?_
    refine lv_aload_n hx hb dX5_find_100 rfl (lv_at hl 1 rfl) ?_
    refine lv_aload_n hx hb dX5_find_101 rfl (lv_at hl 0 rfl) ?_
    obtain ⟨S18, h17, hf⟩ := b1_some hf
    refine hc_V (As := [.ref (ad (12 + p0)), .ref (ad (12 + v2)), .ref (ad (12 + v5))]) (rest := []) C hK (c_X5_findProduct l D ct ad F hG p0 v2 v5 S0 hk_p0 c3 c6 S18 h17) hl.1 cp_X5_findProduct mw_2_100 (rc_X5 hK hP) hP hS ⟨rfl, rfl⟩ ⟨Nat.le_of_ble_eq_true rfl, Nat.le_of_ble_eq_true rfl⟩ rfl rfl (Nat.le_of_ble_eq_true rfl) dX5_find_102 ⟨Nat.le_of_ble_eq_true rfl, Nat.le_of_ble_eq_true rfl⟩ (fun H locs hP hS => ?_)
    refine lv_goto (tgt := 150) hx hb dX5_find_105 (by decide) ?_
    cases hf
    subst hQ
    exact he_v C hP hS dX5_find_150
  have hf := sp0 c16 hf
  have tc16 := c16
  by_cases c19 : (S0.1 (12 + p0) 0) = (4 : Int32)
  · have hf := sp1 c19 hf
    refine lv_tableIn (tgt := 108) hx hb dX5_find_22 (by rw [c19]; decide) (by rw [c19]; decide) (by rw [c19]; rfl) (by decide) ?_
    refine lv_aload_n hx hb dX5_find_108 rfl (lv_at hl 2 rfl) ?_
    refine lv_aload_n hx hb dX5_find_109 rfl (lv_at hl 3 rfl) ?_
    refine lv_aload_n hx hb dX5_find_110 rfl (lv_at hl 1 rfl) ?_
    refine lv_aload_n hx hb dX5_find_111 rfl (lv_at hl 0 rfl) ?_
    obtain ⟨S21, h20, hf⟩ := b1_some hf
    refine hc_V (As := [.ref (ad (12 + p0)), .ref (ad (12 + v2)), .ref (ad (12 + v5))]) (rest := []) C hK (c_X5_findQuotient l D ct ad F hG p0 v2 v5 S0 hk_p0 c3 c6 S21 h20) hl.1 cp_X5_findQuotient mw_3_53 (rc_X5 hK hP) hP hS ⟨rfl, rfl⟩ ⟨Nat.le_of_ble_eq_true rfl, Nat.le_of_ble_eq_true rfl⟩ rfl rfl (Nat.le_of_ble_eq_true rfl) dX5_find_112 ⟨Nat.le_of_ble_eq_true rfl, Nat.le_of_ble_eq_true rfl⟩ (fun H locs hP hS => ?_)
    refine lv_goto (tgt := 150) hx hb dX5_find_115 (by decide) ?_
    cases hf
    subst hQ
    exact he_v C hP hS dX5_find_150
  have hf := sp0 c19 hf
  have tc19 := c19
  by_cases c22 : (S0.1 (12 + p0) 0) = (5 : Int32)
  · have hf := sp1 c22 hf
    refine lv_tableIn (tgt := 118) hx hb dX5_find_22 (by rw [c22]; decide) (by rw [c22]; decide) (by rw [c22]; rfl) (by decide) ?_
    refine lv_aload_n hx hb dX5_find_118 rfl (lv_at hl 2 rfl) ?_
    refine lv_aload_n hx hb dX5_find_119 rfl (lv_at hl 3 rfl) ?_
    refine lv_aload_n hx hb dX5_find_120 rfl (lv_at hl 1 rfl) ?_
    obtain ⟨S24, h23, hf⟩ := b1_some hf
    refine hc_V (As := [.ref (ad (12 + p0)), .ref (ad (12 + v2))]) (rest := []) C hK (c_X5_findSquareRoot l D ct ad F hG p0 v2 S0 hk_p0 c3 S24 h23) hl.1 cp_X5_findSquareRoot mw_3_57 (rc_X5 hK hP) hP hS ⟨rfl, rfl⟩ ⟨Nat.le_of_ble_eq_true rfl, Nat.le_of_ble_eq_true rfl⟩ rfl rfl (Nat.le_of_ble_eq_true rfl) dX5_find_121 ⟨Nat.le_of_ble_eq_true rfl, Nat.le_of_ble_eq_true rfl⟩ (fun H locs hP hS => ?_)
    refine lv_goto (tgt := 150) hx hb dX5_find_124 (by decide) ?_
    cases hf
    subst hQ
    exact he_v C hP hS dX5_find_150
  have hf := sp0 c22 hf
  have tc22 := c22
  by_cases c25 : (S0.1 (12 + p0) 0) = (6 : Int32)
  · have hf := sp1 c25 hf
    refine lv_tableIn (tgt := 127) hx hb dX5_find_22 (by rw [c25]; decide) (by rw [c25]; decide) (by rw [c25]; rfl) (by decide) ?_
    refine lv_aload_n hx hb dX5_find_127 rfl (lv_at hl 2 rfl) ?_
    refine lv_aload_n hx hb dX5_find_128 rfl (lv_at hl 3 rfl) ?_
    refine lv_aload_n hx hb dX5_find_129 rfl (lv_at hl 1 rfl) ?_
    obtain ⟨S27, h26, hf⟩ := b1_some hf
    refine hc_V (As := [.ref (ad (12 + p0)), .ref (ad (12 + v2))]) (rest := []) C hK (c_X5_findRootOfUnity l D ct ad F hG p0 v2 S0 hk_p0 c3 S27 h26) hl.1 cp_X5_findRootOfUnity mw_3_70 (rc_X5 hK hP) hP hS ⟨rfl, rfl⟩ ⟨Nat.le_of_ble_eq_true rfl, Nat.le_of_ble_eq_true rfl⟩ rfl rfl (Nat.le_of_ble_eq_true rfl) dX5_find_130 ⟨Nat.le_of_ble_eq_true rfl, Nat.le_of_ble_eq_true rfl⟩ (fun H locs hP hS => ?_)
    refine lv_goto (tgt := 150) hx hb dX5_find_133 (by decide) ?_
    cases hf
    subst hQ
    exact he_v C hP hS dX5_find_150
  have hf := sp0 c25 hf
  have tc25 := c25
  by_cases c28 : (S0.1 (12 + p0) 0) = (7 : Int32)
  · have hf := sp1 c28 hf
    refine lv_tableIn (tgt := 136) hx hb dX5_find_22 (by rw [c28]; decide) (by rw [c28]; decide) (by rw [c28]; rfl) (by decide) ?_
    refine lv_aload_n hx hb dX5_find_136 rfl (lv_at hl 2 rfl) ?_
    refine lv_aload_n hx hb dX5_find_137 rfl (lv_at hl 3 rfl) ?_
    obtain ⟨S30, h29, hf⟩ := b1_some hf
    refine hc_V (As := [.ref (ad (12 + p0))]) (rest := []) C hK (c_X5_findLifted l D ct ad F hG p0 S0 hk_p0 S30 h29) hl.1 cp_X5_findLifted mw_3_78 (rc_X5 hK hP) hP hS ⟨rfl, rfl⟩ ⟨Nat.le_of_ble_eq_true rfl, Nat.le_of_ble_eq_true rfl⟩ rfl rfl (Nat.le_of_ble_eq_true rfl) dX5_find_138 ⟨Nat.le_of_ble_eq_true rfl, Nat.le_of_ble_eq_true rfl⟩ (fun H locs hP hS => ?_)
    refine lv_goto (tgt := 150) hx hb dX5_find_141 (by decide) ?_
    cases hf
    subst hQ
    exact he_v C hP hS dX5_find_150
  have hf := sp0 c28 hf
  have tc28 := c28
  refine lv_tableOut (tgt := 144) hx hb dX5_find_22 (tsw8 c7 c10 c13 c16 c19 c22 c25 c28) (by decide) ?_
  refine lv_aload_n hx hb dX5_find_144 rfl (lv_at hl 2 rfl) ?_
  refine lv_aload_n hx hb dX5_find_145 rfl (lv_at hl 3 rfl) ?_
  refine lv_aload_n hx hb dX5_find_146 rfl (lv_at hl 1 rfl) ?_
  obtain ⟨S32, h31, hf⟩ := b1_some hf
  refine hc_V (As := [.ref (ad (12 + p0)), .ref (ad (12 + v2))]) (rest := []) C hK (c_X5_findRowValue l D ct ad F hG p0 v2 S0 hk_p0 c3 S32 h31) hl.1 cp_X5_findRowValue mw_3_86 (rc_X5 hK hP) hP hS ⟨rfl, rfl⟩ ⟨Nat.le_of_ble_eq_true rfl, Nat.le_of_ble_eq_true rfl⟩ rfl rfl (Nat.le_of_ble_eq_true rfl) dX5_find_147 ⟨Nat.le_of_ble_eq_true rfl, Nat.le_of_ble_eq_true rfl⟩ (fun H locs hP hS => ?_)
  cases hf
  subst hQ
  exact he_v C hP hS dX5_find_150
theorem cp_X5_find : CPv yX5_find cX5_find 4 none 1 := ⟨mw_3_45, mw_1_2, mw_3_44, ms_14, by decide +kernel⟩
def rm_X5_keep : Room := { frames := 1, cells := 0, slots := 0, locals := 24 }
set_option maxHeartbeats 4000000 in
set_option maxRecDepth 100000 in
theorem c_X5_keep (l : Launch) (D : va_G) (ct : Nat → ClassId) (ad : Nat → Nat) (F : Nat → Prop) (hG : Gd ad 70 F) (p0 : Nat) (S0 : St) (hk_p0 : p0 < 42) (r : Int32) (S' : St) (hf : f_X5_keep p0 S0 = some (r, S')) : MetH l yX5_keep cX5_keep 2 (some .int) rm_X5_keep D (tysW ct) F [.ref (ad 1), .ref (ad (12 + p0))] (some (.int r)) (cellsC ct ad S0) (cellsC ct ad S') := by
  refine MetH.of RX5 (by decide) rfl (Nat.le_of_ble_eq_true rfl) ?_
  intro p e s m args below meth c C hK hP ls hl
  have hl : lv_has ls 2 [(0, .ref (ad 1)), (1, .ref (ad (12 + p0)))] := hl
  obtain ⟨hx, hb, hr, hml, hown, htL, hlocks⟩ := id C
  have hS : va_S F s.heap s.heap [] := va_S.rf
  generalize hQ : MQ below (Hq D (cellsC ct ad S') F (some (.int r))) args s 0 0 F = Q
  refine lv_aload_n hx hb dX5_keep_0 rfl (lv_at hl 1 rfl) ?_
  obtain ⟨S2, h1, hf⟩ := b1_some hf
  refine hc_V (As := []) (rest := []) C hK (c_X3_keepEarly l D ct ad F hG p0 S0 hk_p0 S2 h1) hl.1 cp_X3_keepEarly mw_3_113 (rc_X3 hK hP hk_p0) hP hS ⟨rfl, rfl⟩ ⟨Nat.le_of_ble_eq_true rfl, Nat.le_of_ble_eq_true rfl⟩ rfl rfl (Nat.le_of_ble_eq_true rfl) dX5_keep_1 ⟨Nat.le_of_ble_eq_true rfl, Nat.le_of_ble_eq_true rfl⟩ (fun H locs hP hS => ?_)
  refine lv_aload_n hx hb dX5_keep_4 rfl (lv_at hl 0 rfl) ?_
  refine lv_dup hx hb dX5_keep_5 rfl ?_
  refine gf_X5_3 C hK hP mw_1_175 dX5_keep_6 ?_
  refine lv_iconst (v := 1) hx hb dX5_keep_9 (by decide) ?_
  refine lv_iadd hx hb dX5_keep_10 ?_
  refine pf_X5_3 C hK hP hG hS mw_1_175 dX5_keep_11 (fun H locs hP hS => ?_)
  refine lv_aload_n hx hb dX5_keep_14 rfl (lv_at hl 0 rfl) ?_
  refine gf_X5_3 C hK hP mw_1_175 dX5_keep_15 ?_
  refine lv_iconst (v := 1) hx hb dX5_keep_18 (by decide) ?_
  refine lv_isub hx hb dX5_keep_19 ?_
  cases hf
  subst hQ
  exact he_i C hP hS dX5_keep_20
theorem cp_X5_keep : CPv yX5_keep cX5_keep 2 (some .int) 1 := ⟨mw_3_112, mw_1_2, mw_3_111, ms_24, by decide +kernel⟩
def rm_X5_addFraction : Room := { frames := 6, cells := 0, slots := 0, locals := 170 }
set_option maxHeartbeats 4000000 in
set_option maxRecDepth 100000 in
theorem c_X5_addFraction (l : Launch) (D : va_G) (ct : Nat → ClassId) (ad : Nat → Nat) (F : Nat → Prop) (hG : Gd ad 70 F) (p0 : Int32) (p1 : Int32) (p2 : Int32) (S0 : St)  (r : Int32) (S' : St) (hf : f_X5_addFraction p0 p1 p2 S0 = some (r, S')) : MetH l yX5_addFraction cX5_addFraction 5 (some .int) rm_X5_addFraction D (tysW ct) F [.ref (ad 1), .int p0, .int p1, .int p2] (some (.int r)) (cellsC ct ad S0) (cellsC ct ad S') := by
  refine MetH.of RX5 (by decide) rfl (Nat.le_of_ble_eq_true rfl) ?_
  intro p e s m args below meth c C hK hP ls hl
  have hl : lv_has ls 5 [(0, .ref (ad 1)), (1, .int p0), (2, .int p1), (3, .int p2)] := hl
  obtain ⟨hx, hb, hr, hml, hown, htL, hlocks⟩ := id C
  have hS : va_S F s.heap s.heap [] := va_S.rf
  generalize hQ : MQ below (Hq D (cellsC ct ad S') F (some (.int r))) args s 0 0 F = Q
  refine lv_aload_n hx hb dX5_addFraction_0 rfl (lv_at hl 0 rfl) ?_
  refine lv_aload_n hx hb dX5_addFraction_1 rfl (lv_at hl 0 rfl) ?_
  refine gf_X5_3 C hK hP mw_1_175 dX5_addFraction_2 ?_
  obtain ⟨v2, h1, hf⟩ := b1_some hf
  refine hc_V (As := [.int (S0.1 1 3)]) (rest := []) C hK (c_X5_numbered l D ct ad F hG (S0.1 1 3) S0  v2 h1) hl.1 cp_X5_numbered mw_2_39 (rc_X5 hK hP) hP hS ⟨rfl, rfl⟩ ⟨Nat.le_of_ble_eq_true rfl, Nat.le_of_ble_eq_true rfl⟩ rfl rfl (Nat.le_of_ble_eq_true rfl) dX5_addFraction_5 ⟨Nat.le_of_ble_eq_true rfl, Nat.le_of_ble_eq_true rfl⟩ (fun H locs hP hS => ?_)
  obtain ⟨c3, hf⟩ := spy hf
  refine lv_astore (lv' := [(4, .ref (ad (12 + v2))), (0, .ref (ad 1)), (1, .int p0), (2, .int p1), (3, .int p2)]) hx hb dX5_addFraction_8 hl (by decide) rfl (fun ls hl => ?_)
  refine lv_aload hx hb dX5_addFraction_10 (lv_at hl 0 rfl) ?_
  refine lv_iconst (v := 0) hx hb dX5_addFraction_12 (by decide) ?_
  refine lv_iconst (v := (-1)) hx hb dX5_addFraction_13 (by decide) ?_
  refine lv_iconst (v := (-1)) hx hb dX5_addFraction_14 (by decide) ?_
  obtain ⟨S5, h4, hf⟩ := b1_some hf
  refine hc_V (As := [.int 0, .int (-1), .int (-1)]) (rest := []) C hK (c_X3_become l D ct ad F hG v2 0 (-1) (-1) S0 c3 S5 h4) hl.1 cp_X3_become mw_3_38 (rc_X3 hK hP c3) hP hS ⟨rfl, rfl⟩ ⟨Nat.le_of_ble_eq_true rfl, Nat.le_of_ble_eq_true rfl⟩ rfl rfl (Nat.le_of_ble_eq_true rfl) dX5_addFraction_15 ⟨Nat.le_of_ble_eq_true rfl, Nat.le_of_ble_eq_true rfl⟩ (fun H locs hP hS => ?_)
  refine lv_aload hx hb dX5_addFraction_18 (lv_at hl 0 rfl) ?_
  refine lv_iload_n hx hb dX5_addFraction_20 rfl (lv_at hl 2 rfl) ?_
  refine pf_X3_3 C hK hP hG hS c3 mw_1_124 dX5_addFraction_21 (fun H locs hP hS => ?_)
  refine lv_aload hx hb dX5_addFraction_24 (lv_at hl 0 rfl) ?_
  refine lv_iload_n hx hb dX5_addFraction_26 rfl (lv_at hl 3 rfl) ?_
  refine pf_X3_4 C hK hP hG hS c3 mw_1_125 dX5_addFraction_27 (fun H locs hP hS => ?_)
  refine lv_aload hx hb dX5_addFraction_30 (lv_at hl 0 rfl) ?_
  refine lv_iload_n hx hb dX5_addFraction_32 rfl (lv_at hl 4 rfl) ?_
  refine pf_X3_5 C hK hP hG hS c3 mw_1_126 dX5_addFraction_33 (fun H locs hP hS => ?_)
  refine lv_aload_n hx hb dX5_addFraction_36 rfl (lv_at hl 1 rfl) ?_
  refine lv_aload hx hb dX5_addFraction_37 (lv_at hl 0 rfl) ?_
  obtain ⟨S7, h6, hf⟩ := b1_some hf
  refine hc_V (As := [.ref (ad (12 + v2))]) (rest := []) C hK (c_X5_find l D ct ad F hG v2 (wI (wI (wI S5 (12 + v2) 3 p0) (12 + v2) 4 p1) (12 + v2) 5 p2) c3 S7 h6) hl.1 cp_X5_find mw_3_42 (rc_X5 hK hP) hP hS ⟨rfl, rfl⟩ ⟨Nat.le_of_ble_eq_true rfl, Nat.le_of_ble_eq_true rfl⟩ rfl rfl (Nat.le_of_ble_eq_true rfl) dX5_addFraction_39 ⟨Nat.le_of_ble_eq_true rfl, Nat.le_of_ble_eq_true rfl⟩ (fun H locs hP hS => ?_)
  refine lv_aload_n hx hb dX5_addFraction_42 rfl (lv_at hl 1 rfl) ?_
  refine lv_aload hx hb dX5_addFraction_43 (lv_at hl 0 rfl) ?_
  obtain ⟨v9, S10, h8, hf⟩ := b2_some hf
  refine hc_V (As := [.ref (ad (12 + v2))]) (rest := []) C hK (c_X5_keep l D ct ad F hG v2 S7 c3 v9 S10 h8) hl.1 cp_X5_keep mw_3_109 (rc_X5 hK hP) hP hS ⟨rfl, rfl⟩ ⟨Nat.le_of_ble_eq_true rfl, Nat.le_of_ble_eq_true rfl⟩ rfl rfl (Nat.le_of_ble_eq_true rfl) dX5_addFraction_45 ⟨Nat.le_of_ble_eq_true rfl, Nat.le_of_ble_eq_true rfl⟩ (fun H locs hP hS => ?_)
  cases hf
  subst hQ
  exact he_i C hP hS dX5_addFraction_48
theorem cp_X5_addFraction : CPv yX5_addFraction cX5_addFraction 5 (some .int) 3 := ⟨mw_3_37, mw_1_2, mw_3_35, mw_3_36, by decide +kernel⟩
def rm_X5_addMade : Room := { frames := 6, cells := 0, slots := 0, locals := 170 }
set_option maxHeartbeats 4000000 in
set_option maxRecDepth 100000 in
theorem c_X5_addMade (l : Launch) (D : va_G) (ct : Nat → ClassId) (ad : Nat → Nat) (F : Nat → Prop) (hG : Gd ad 70 F) (p0 : Int32) (p1 : Int32) (p2 : Int32) (S0 : St)  (r : Int32) (S' : St) (hf : f_X5_addMade p0 p1 p2 S0 = some (r, S')) : MetH l yX5_addMade cX5_addMade 5 (some .int) rm_X5_addMade D (tysW ct) F [.ref (ad 1), .int p0, .int p1, .int p2] (some (.int r)) (cellsC ct ad S0) (cellsC ct ad S') := by
  refine MetH.of RX5 (by decide) rfl (Nat.le_of_ble_eq_true rfl) ?_
  intro p e s m args below meth c C hK hP ls hl
  have hl : lv_has ls 5 [(0, .ref (ad 1)), (1, .int p0), (2, .int p1), (3, .int p2)] := hl
  obtain ⟨hx, hb, hr, hml, hown, htL, hlocks⟩ := id C
  have hS : va_S F s.heap s.heap [] := va_S.rf
  generalize hQ : MQ below (Hq D (cellsC ct ad S') F (some (.int r))) args s 0 0 F = Q
  refine lv_aload_n hx hb dX5_addMade_0 rfl (lv_at hl 0 rfl) ?_
  refine lv_aload_n hx hb dX5_addMade_1 rfl (lv_at hl 0 rfl) ?_
  refine gf_X5_3 C hK hP mw_1_175 dX5_addMade_2 ?_
  obtain ⟨v2, h1, hf⟩ := b1_some hf
  refine hc_V (As := [.int (S0.1 1 3)]) (rest := []) C hK (c_X5_numbered l D ct ad F hG (S0.1 1 3) S0  v2 h1) hl.1 cp_X5_numbered mw_2_39 (rc_X5 hK hP) hP hS ⟨rfl, rfl⟩ ⟨Nat.le_of_ble_eq_true rfl, Nat.le_of_ble_eq_true rfl⟩ rfl rfl (Nat.le_of_ble_eq_true rfl) dX5_addMade_5 ⟨Nat.le_of_ble_eq_true rfl, Nat.le_of_ble_eq_true rfl⟩ (fun H locs hP hS => ?_)
  obtain ⟨c3, hf⟩ := spy hf
  refine lv_astore (lv' := [(4, .ref (ad (12 + v2))), (0, .ref (ad 1)), (1, .int p0), (2, .int p1), (3, .int p2)]) hx hb dX5_addMade_8 hl (by decide) rfl (fun ls hl => ?_)
  refine lv_aload hx hb dX5_addMade_10 (lv_at hl 0 rfl) ?_
  refine lv_iload_n hx hb dX5_addMade_12 rfl (lv_at hl 2 rfl) ?_
  refine lv_iload_n hx hb dX5_addMade_13 rfl (lv_at hl 3 rfl) ?_
  refine lv_iload_n hx hb dX5_addMade_14 rfl (lv_at hl 4 rfl) ?_
  obtain ⟨S5, h4, hf⟩ := b1_some hf
  refine hc_V (As := [.int p0, .int p1, .int p2]) (rest := []) C hK (c_X3_become l D ct ad F hG v2 p0 p1 p2 S0 c3 S5 h4) hl.1 cp_X3_become mw_3_38 (rc_X3 hK hP c3) hP hS ⟨rfl, rfl⟩ ⟨Nat.le_of_ble_eq_true rfl, Nat.le_of_ble_eq_true rfl⟩ rfl rfl (Nat.le_of_ble_eq_true rfl) dX5_addMade_15 ⟨Nat.le_of_ble_eq_true rfl, Nat.le_of_ble_eq_true rfl⟩ (fun H locs hP hS => ?_)
  refine lv_aload_n hx hb dX5_addMade_18 rfl (lv_at hl 1 rfl) ?_
  refine lv_aload hx hb dX5_addMade_19 (lv_at hl 0 rfl) ?_
  obtain ⟨S7, h6, hf⟩ := b1_some hf
  refine hc_V (As := [.ref (ad (12 + v2))]) (rest := []) C hK (c_X5_find l D ct ad F hG v2 S5 c3 S7 h6) hl.1 cp_X5_find mw_3_42 (rc_X5 hK hP) hP hS ⟨rfl, rfl⟩ ⟨Nat.le_of_ble_eq_true rfl, Nat.le_of_ble_eq_true rfl⟩ rfl rfl (Nat.le_of_ble_eq_true rfl) dX5_addMade_21 ⟨Nat.le_of_ble_eq_true rfl, Nat.le_of_ble_eq_true rfl⟩ (fun H locs hP hS => ?_)
  refine lv_aload_n hx hb dX5_addMade_24 rfl (lv_at hl 1 rfl) ?_
  refine lv_aload hx hb dX5_addMade_25 (lv_at hl 0 rfl) ?_
  obtain ⟨v9, S10, h8, hf⟩ := b2_some hf
  refine hc_V (As := [.ref (ad (12 + v2))]) (rest := []) C hK (c_X5_keep l D ct ad F hG v2 S7 c3 v9 S10 h8) hl.1 cp_X5_keep mw_3_109 (rc_X5 hK hP) hP hS ⟨rfl, rfl⟩ ⟨Nat.le_of_ble_eq_true rfl, Nat.le_of_ble_eq_true rfl⟩ rfl rfl (Nat.le_of_ble_eq_true rfl) dX5_addMade_27 ⟨Nat.le_of_ble_eq_true rfl, Nat.le_of_ble_eq_true rfl⟩ (fun H locs hP hS => ?_)
  cases hf
  subst hQ
  exact he_i C hP hS dX5_addMade_30
theorem cp_X5_addMade : CPv yX5_addMade cX5_addMade 5 (some .int) 3 := ⟨mw_3_168, mw_1_2, mw_3_166, mw_3_167, by decide +kernel⟩
def rm_X5_addLifted : Room := { frames := 6, cells := 0, slots := 0, locals := 170 }
set_option maxHeartbeats 4000000 in
set_option maxRecDepth 100000 in
theorem c_X5_addLifted (l : Launch) (D : va_G) (ct : Nat → ClassId) (ad : Nat → Nat) (F : Nat → Prop) (hG : Gd ad 70 F) (p0 : Int32) (p1 : Int32) (p2 : Int32) (S0 : St)  (r : Int32) (S' : St) (hf : f_X5_addLifted p0 p1 p2 S0 = some (r, S')) : MetH l yX5_addLifted cX5_addLifted 5 (some .int) rm_X5_addLifted D (tysW ct) F [.ref (ad 1), .int p0, .int p1, .int p2] (some (.int r)) (cellsC ct ad S0) (cellsC ct ad S') := by
  refine MetH.of RX5 (by decide) rfl (Nat.le_of_ble_eq_true rfl) ?_
  intro p e s m args below meth c C hK hP ls hl
  have hl : lv_has ls 5 [(0, .ref (ad 1)), (1, .int p0), (2, .int p1), (3, .int p2)] := hl
  obtain ⟨hx, hb, hr, hml, hown, htL, hlocks⟩ := id C
  have hS : va_S F s.heap s.heap [] := va_S.rf
  generalize hQ : MQ below (Hq D (cellsC ct ad S') F (some (.int r))) args s 0 0 F = Q
  refine lv_aload_n hx hb dX5_addLifted_0 rfl (lv_at hl 0 rfl) ?_
  refine lv_aload_n hx hb dX5_addLifted_1 rfl (lv_at hl 0 rfl) ?_
  refine gf_X5_3 C hK hP mw_1_175 dX5_addLifted_2 ?_
  obtain ⟨v2, h1, hf⟩ := b1_some hf
  refine hc_V (As := [.int (S0.1 1 3)]) (rest := []) C hK (c_X5_numbered l D ct ad F hG (S0.1 1 3) S0  v2 h1) hl.1 cp_X5_numbered mw_2_39 (rc_X5 hK hP) hP hS ⟨rfl, rfl⟩ ⟨Nat.le_of_ble_eq_true rfl, Nat.le_of_ble_eq_true rfl⟩ rfl rfl (Nat.le_of_ble_eq_true rfl) dX5_addLifted_5 ⟨Nat.le_of_ble_eq_true rfl, Nat.le_of_ble_eq_true rfl⟩ (fun H locs hP hS => ?_)
  obtain ⟨c3, hf⟩ := spy hf
  refine lv_astore (lv' := [(4, .ref (ad (12 + v2))), (0, .ref (ad 1)), (1, .int p0), (2, .int p1), (3, .int p2)]) hx hb dX5_addLifted_8 hl (by decide) rfl (fun ls hl => ?_)
  refine lv_aload hx hb dX5_addLifted_10 (lv_at hl 0 rfl) ?_
  refine lv_bipush (v := 7) hx hb dX5_addLifted_12 (by decide) ?_
  refine lv_iconst (v := (-1)) hx hb dX5_addLifted_14 (by decide) ?_
  refine lv_iconst (v := (-1)) hx hb dX5_addLifted_15 (by decide) ?_
  obtain ⟨S5, h4, hf⟩ := b1_some hf
  refine hc_V (As := [.int 7, .int (-1), .int (-1)]) (rest := []) C hK (c_X3_become l D ct ad F hG v2 7 (-1) (-1) S0 c3 S5 h4) hl.1 cp_X3_become mw_3_38 (rc_X3 hK hP c3) hP hS ⟨rfl, rfl⟩ ⟨Nat.le_of_ble_eq_true rfl, Nat.le_of_ble_eq_true rfl⟩ rfl rfl (Nat.le_of_ble_eq_true rfl) dX5_addLifted_16 ⟨Nat.le_of_ble_eq_true rfl, Nat.le_of_ble_eq_true rfl⟩ (fun H locs hP hS => ?_)
  refine lv_aload hx hb dX5_addLifted_19 (lv_at hl 0 rfl) ?_
  refine lv_iload_n hx hb dX5_addLifted_21 rfl (lv_at hl 2 rfl) ?_
  refine pf_X3_3 C hK hP hG hS c3 mw_1_124 dX5_addLifted_22 (fun H locs hP hS => ?_)
  refine lv_aload hx hb dX5_addLifted_25 (lv_at hl 0 rfl) ?_
  refine lv_iload_n hx hb dX5_addLifted_27 rfl (lv_at hl 3 rfl) ?_
  refine pf_X3_4 C hK hP hG hS c3 mw_1_125 dX5_addLifted_28 (fun H locs hP hS => ?_)
  refine lv_aload hx hb dX5_addLifted_31 (lv_at hl 0 rfl) ?_
  refine lv_iload_n hx hb dX5_addLifted_33 rfl (lv_at hl 4 rfl) ?_
  refine pf_X3_5 C hK hP hG hS c3 mw_1_126 dX5_addLifted_34 (fun H locs hP hS => ?_)
  refine lv_aload hx hb dX5_addLifted_37 (lv_at hl 0 rfl) ?_
  refine lv_aload_n hx hb dX5_addLifted_39 rfl (lv_at hl 1 rfl) ?_
  refine gf_X5_1 C hK hP mw_1_171 dX5_addLifted_40 ?_
  refine lv_iload_n hx hb dX5_addLifted_43 rfl (lv_at hl 2 rfl) ?_
  obtain ⟨v7, h6, hf⟩ := b1_some hf
  refine hc_V (As := [.int p0]) (rest := [.ref (ad (12 + v2))]) C hK (c_X0_page l D ct ad F hG p0 (wI (wI (wI S5 (12 + v2) 3 p0) (12 + v2) 4 p1) (12 + v2) 5 p2)  v7 h6) hl.1 cp_X0_page mw_2_108 (rc_X0 hK hP) hP hS ⟨rfl, rfl⟩ ⟨Nat.le_of_ble_eq_true rfl, Nat.le_of_ble_eq_true rfl⟩ rfl rfl (Nat.le_of_ble_eq_true rfl) dX5_addLifted_44 ⟨Nat.le_of_ble_eq_true rfl, Nat.le_of_ble_eq_true rfl⟩ (fun H locs hP hS => ?_)
  obtain ⟨c8, hf⟩ := spy hf
  refine gf_X4_0 C hK hP c8 mw_1_79 dX5_addLifted_47 ?_
  refine pf_X3_6 C hK hP hG hS c3 mw_1_127 dX5_addLifted_50 (fun H locs hP hS => ?_)
  refine lv_aload_n hx hb dX5_addLifted_53 rfl (lv_at hl 1 rfl) ?_
  refine lv_aload hx hb dX5_addLifted_54 (lv_at hl 0 rfl) ?_
  obtain ⟨S10, h9, hf⟩ := b1_some hf
  refine hc_V (As := [.ref (ad (12 + v2))]) (rest := []) C hK (c_X5_find l D ct ad F hG v2 (wI (wI (wI (wI S5 (12 + v2) 3 p0) (12 + v2) 4 p1) (12 + v2) 5 p2) (12 + v2) 6 ((wI (wI (wI S5 (12 + v2) 3 p0) (12 + v2) 4 p1) (12 + v2) 5 p2).1 (54 + v7) 0)) c3 S10 h9) hl.1 cp_X5_find mw_3_42 (rc_X5 hK hP) hP hS ⟨rfl, rfl⟩ ⟨Nat.le_of_ble_eq_true rfl, Nat.le_of_ble_eq_true rfl⟩ rfl rfl (Nat.le_of_ble_eq_true rfl) dX5_addLifted_56 ⟨Nat.le_of_ble_eq_true rfl, Nat.le_of_ble_eq_true rfl⟩ (fun H locs hP hS => ?_)
  refine lv_aload_n hx hb dX5_addLifted_59 rfl (lv_at hl 1 rfl) ?_
  refine lv_aload hx hb dX5_addLifted_60 (lv_at hl 0 rfl) ?_
  obtain ⟨v12, S13, h11, hf⟩ := b2_some hf
  refine hc_V (As := [.ref (ad (12 + v2))]) (rest := []) C hK (c_X5_keep l D ct ad F hG v2 S10 c3 v12 S13 h11) hl.1 cp_X5_keep mw_3_109 (rc_X5 hK hP) hP hS ⟨rfl, rfl⟩ ⟨Nat.le_of_ble_eq_true rfl, Nat.le_of_ble_eq_true rfl⟩ rfl rfl (Nat.le_of_ble_eq_true rfl) dX5_addLifted_62 ⟨Nat.le_of_ble_eq_true rfl, Nat.le_of_ble_eq_true rfl⟩ (fun H locs hP hS => ?_)
  cases hf
  subst hQ
  exact he_i C hP hS dX5_addLifted_65
theorem cp_X5_addLifted : CPv yX5_addLifted cX5_addLifted 5 (some .int) 3 := ⟨mw_5_5, mw_1_2, mw_5_3, mw_5_4, by decide +kernel⟩
def rm_X5_addRowValue : Room := { frames := 6, cells := 0, slots := 0, locals := 170 }
set_option maxHeartbeats 4000000 in
set_option maxRecDepth 100000 in
theorem c_X5_addRowValue (l : Launch) (D : va_G) (ct : Nat → ClassId) (ad : Nat → Nat) (F : Nat → Prop) (hG : Gd ad 70 F) (p0 : Int32) (S0 : St)  (r : Int32) (S' : St) (hf : f_X5_addRowValue p0 S0 = some (r, S')) : MetH l yX5_addRowValue cX5_addRowValue 3 (some .int) rm_X5_addRowValue D (tysW ct) F [.ref (ad 1), .int p0] (some (.int r)) (cellsC ct ad S0) (cellsC ct ad S') := by
  refine MetH.of RX5 (by decide) rfl (Nat.le_of_ble_eq_true rfl) ?_
  intro p e s m args below meth c C hK hP ls hl
  have hl : lv_has ls 3 [(0, .ref (ad 1)), (1, .int p0)] := hl
  obtain ⟨hx, hb, hr, hml, hown, htL, hlocks⟩ := id C
  have hS : va_S F s.heap s.heap [] := va_S.rf
  generalize hQ : MQ below (Hq D (cellsC ct ad S') F (some (.int r))) args s 0 0 F = Q
  refine lv_aload_n hx hb dX5_addRowValue_0 rfl (lv_at hl 0 rfl) ?_
  refine lv_aload_n hx hb dX5_addRowValue_1 rfl (lv_at hl 0 rfl) ?_
  refine gf_X5_3 C hK hP mw_1_175 dX5_addRowValue_2 ?_
  obtain ⟨v2, h1, hf⟩ := b1_some hf
  refine hc_V (As := [.int (S0.1 1 3)]) (rest := []) C hK (c_X5_numbered l D ct ad F hG (S0.1 1 3) S0  v2 h1) hl.1 cp_X5_numbered mw_2_39 (rc_X5 hK hP) hP hS ⟨rfl, rfl⟩ ⟨Nat.le_of_ble_eq_true rfl, Nat.le_of_ble_eq_true rfl⟩ rfl rfl (Nat.le_of_ble_eq_true rfl) dX5_addRowValue_5 ⟨Nat.le_of_ble_eq_true rfl, Nat.le_of_ble_eq_true rfl⟩ (fun H locs hP hS => ?_)
  obtain ⟨c3, hf⟩ := spy hf
  refine lv_astore_n (lv' := [(2, .ref (ad (12 + v2))), (0, .ref (ad 1)), (1, .int p0)]) hx hb dX5_addRowValue_8 rfl hl (by decide) rfl (fun ls hl => ?_)
  refine lv_aload_n hx hb dX5_addRowValue_9 rfl (lv_at hl 0 rfl) ?_
  refine lv_bipush (v := 8) hx hb dX5_addRowValue_10 (by decide) ?_
  refine lv_iload_n hx hb dX5_addRowValue_12 rfl (lv_at hl 2 rfl) ?_
  refine lv_iconst (v := (-1)) hx hb dX5_addRowValue_13 (by decide) ?_
  obtain ⟨S5, h4, hf⟩ := b1_some hf
  refine hc_V (As := [.int 8, .int p0, .int (-1)]) (rest := []) C hK (c_X3_become l D ct ad F hG v2 8 p0 (-1) S0 c3 S5 h4) hl.1 cp_X3_become mw_3_38 (rc_X3 hK hP c3) hP hS ⟨rfl, rfl⟩ ⟨Nat.le_of_ble_eq_true rfl, Nat.le_of_ble_eq_true rfl⟩ rfl rfl (Nat.le_of_ble_eq_true rfl) dX5_addRowValue_14 ⟨Nat.le_of_ble_eq_true rfl, Nat.le_of_ble_eq_true rfl⟩ (fun H locs hP hS => ?_)
  refine lv_aload_n hx hb dX5_addRowValue_17 rfl (lv_at hl 0 rfl) ?_
  refine lv_aload_n hx hb dX5_addRowValue_18 rfl (lv_at hl 1 rfl) ?_
  refine gf_X5_2 C hK hP mw_1_173 dX5_addRowValue_19 ?_
  refine gf_X6_0 C hK hP mw_1_103 dX5_addRowValue_22 ?_
  refine pf_X3_6 C hK hP hG hS c3 mw_1_127 dX5_addRowValue_25 (fun H locs hP hS => ?_)
  refine lv_aload_n hx hb dX5_addRowValue_28 rfl (lv_at hl 1 rfl) ?_
  refine lv_aload_n hx hb dX5_addRowValue_29 rfl (lv_at hl 0 rfl) ?_
  obtain ⟨S7, h6, hf⟩ := b1_some hf
  refine hc_V (As := [.ref (ad (12 + v2))]) (rest := []) C hK (c_X5_find l D ct ad F hG v2 (wI S5 (12 + v2) 6 (S5.1 5 0)) c3 S7 h6) hl.1 cp_X5_find mw_3_42 (rc_X5 hK hP) hP hS ⟨rfl, rfl⟩ ⟨Nat.le_of_ble_eq_true rfl, Nat.le_of_ble_eq_true rfl⟩ rfl rfl (Nat.le_of_ble_eq_true rfl) dX5_addRowValue_30 ⟨Nat.le_of_ble_eq_true rfl, Nat.le_of_ble_eq_true rfl⟩ (fun H locs hP hS => ?_)
  refine lv_aload_n hx hb dX5_addRowValue_33 rfl (lv_at hl 1 rfl) ?_
  refine lv_aload_n hx hb dX5_addRowValue_34 rfl (lv_at hl 0 rfl) ?_
  obtain ⟨v9, S10, h8, hf⟩ := b2_some hf
  refine hc_V (As := [.ref (ad (12 + v2))]) (rest := []) C hK (c_X5_keep l D ct ad F hG v2 S7 c3 v9 S10 h8) hl.1 cp_X5_keep mw_3_109 (rc_X5 hK hP) hP hS ⟨rfl, rfl⟩ ⟨Nat.le_of_ble_eq_true rfl, Nat.le_of_ble_eq_true rfl⟩ rfl rfl (Nat.le_of_ble_eq_true rfl) dX5_addRowValue_35 ⟨Nat.le_of_ble_eq_true rfl, Nat.le_of_ble_eq_true rfl⟩ (fun H locs hP hS => ?_)
  cases hf
  subst hQ
  exact he_i C hP hS dX5_addRowValue_38
theorem cp_X5_addRowValue : CPv yX5_addRowValue cX5_addRowValue 3 (some .int) 1 := ⟨mw_5_132, mw_1_2, mw_5_130, mw_5_131, by decide +kernel⟩
def rm_X5_hasSquareRoot : Room := { frames := 2, cells := 0, slots := 0, locals := 56 }
set_option maxHeartbeats 4000000 in
set_option maxRecDepth 100000 in
theorem c_X5_hasSquareRoot (l : Launch) (D : va_G) (ct : Nat → ClassId) (ad : Nat → Nat) (F : Nat → Prop) (hG : Gd ad 70 F) (p0 : Nat) (S0 : St) (hk_p0 : p0 < 42) (r : Int32) (hf : f_X5_hasSquareRoot p0 S0 = some r) : MetH l yX5_hasSquareRoot cX5_hasSquareRoot 2 (some .boolean) rm_X5_hasSquareRoot D (tysW ct) F [.ref (ad 1), .ref (ad (12 + p0))] (some (.int r)) (cellsC ct ad S0) (cellsC ct ad S0) := by
  refine MetH.of RX5 (by decide) rfl (Nat.le_of_ble_eq_true rfl) ?_
  intro p e s m args below meth c C hK hP ls hl
  have hl : lv_has ls 2 [(0, .ref (ad 1)), (1, .ref (ad (12 + p0)))] := hl
  obtain ⟨hx, hb, hr, hml, hown, htL, hlocks⟩ := id C
  have hS : va_S F s.heap s.heap [] := va_S.rf
  generalize hQ : MQ below (Hq D (cellsC ct ad S0) F (some (.int r))) args s 0 0 F = Q
  refine lv_aload_n hx hb dX5_hasSquareRoot_0 rfl (lv_at hl 1 rfl) ?_
  obtain ⟨v2, h1, hf⟩ := b1_some hf
  refine hc_V (As := []) (rest := []) C hK (c_X3_isNothing l D ct ad F hG p0 S0 hk_p0 v2 h1) hl.1 cp_X3_isNothing mw_2_96 (rc_X3 hK hP hk_p0) hP hS ⟨rfl, rfl⟩ ⟨Nat.le_of_ble_eq_true rfl, Nat.le_of_ble_eq_true rfl⟩ rfl rfl (Nat.le_of_ble_eq_true rfl) dX5_hasSquareRoot_1 ⟨Nat.le_of_ble_eq_true rfl, Nat.le_of_ble_eq_true rfl⟩ (fun H locs hP hS => ?_)
  refine lv_if_ne (tgt := 16) hx hb dX5_hasSquareRoot_4 (by decide) (fun c3 => ?_) (fun c3 => ?_)
  · have hf := sp0 c3 hf
    refine lv_iconst (v := 0) hx hb dX5_hasSquareRoot_16 (by decide) ?_
    cases hf
    subst hQ
    exact he_z C (by decide) hP hS dX5_hasSquareRoot_17
  · have hf := sp1 c3 hf
    refine lv_aload_n hx hb dX5_hasSquareRoot_7 rfl (lv_at hl 1 rfl) ?_
    refine gf_X3_8 C hK hP hk_p0 mw_1_131 dX5_hasSquareRoot_8 ?_
    refine lv_iconst (v := 1) hx hb dX5_hasSquareRoot_11 (by decide) ?_
    refine lv_iand hx hb dX5_hasSquareRoot_12 ?_
    refine lv_if_eq (tgt := 18) hx hb dX5_hasSquareRoot_13 (by decide) (fun c4 => ?_) (fun c4 => ?_)
    · have hf := sp1 c4 hf
      refine lv_aload_n hx hb dX5_hasSquareRoot_18 rfl (lv_at hl 0 rfl) ?_
      refine gf_X5_0 C hK hP mw_1_169 dX5_hasSquareRoot_19 ?_
      refine gf_X2_0 C hK hP mw_1_52 dX5_hasSquareRoot_22 ?_
      refine lv_iconst (v := 2) hx hb dX5_hasSquareRoot_25 (by decide) ?_
      refine lv_icmp_ne (tgt := 61) hx hb dX5_hasSquareRoot_26 (by decide) (fun c5 => ?_) (fun c5 => ?_)
      · have hf := sp0 c5 hf
        refine lv_aload_n hx hb dX5_hasSquareRoot_61 rfl (lv_at hl 0 rfl) ?_
        refine lv_aload_n hx hb dX5_hasSquareRoot_62 rfl (lv_at hl 1 rfl) ?_
        refine gf_X3_10 C hK hP hk_p0 mw_1_136 dX5_hasSquareRoot_63 ?_
        refine lv_aload_n hx hb dX5_hasSquareRoot_66 rfl (lv_at hl 0 rfl) ?_
        refine gf_X5_0 C hK hP mw_1_169 dX5_hasSquareRoot_67 ?_
        refine gf_X2_0 C hK hP mw_1_52 dX5_hasSquareRoot_70 ?_
        refine lv_i2l hx hb dX5_hasSquareRoot_73 rfl ?_
        obtain ⟨v6, h7, hf⟩ := b1_some hf
        refine pc_S (As := [.long (S0.2 (12 + p0) 10), .long (Int32.toInt64 (S0.1 3 0))]) (rest := [.ref (ad 1)]) C (c_X8_rest l (S0.2 (12 + p0) 10) (Int32.toInt64 (S0.1 3 0)) v6 h7) hl.1 cp_X8_rest mw_2_82 ⟨rfl, rfl⟩ ⟨Nat.le_of_ble_eq_true rfl, Nat.le_of_ble_eq_true rfl⟩ rfl rfl (Nat.le_of_ble_eq_true rfl) dX5_hasSquareRoot_74 ⟨Nat.le_of_ble_eq_true rfl, Nat.le_of_ble_eq_true rfl⟩ ?_
        obtain ⟨v9, h8, hf⟩ := b1_some hf
        refine hc_V (As := [.long v6]) (rest := []) C hK (c_X5_rootDigit l D ct ad F hG v6 S0  v9 h8) hl.1 cp_X5_rootDigit mw_3_66 (rc_X5 hK hP) hP hS ⟨rfl, rfl⟩ ⟨Nat.le_of_ble_eq_true rfl, Nat.le_of_ble_eq_true rfl⟩ rfl rfl (Nat.le_of_ble_eq_true rfl) dX5_hasSquareRoot_77 ⟨Nat.le_of_ble_eq_true rfl, Nat.le_of_ble_eq_true rfl⟩ (fun H locs hP hS => ?_)
        refine lv_if_le (tgt := 87) hx hb dX5_hasSquareRoot_80 (by decide) (fun c10 => ?_) (fun c10 => ?_)
        · have hf := sp1 c10 hf
          refine lv_iconst (v := 0) hx hb dX5_hasSquareRoot_87 (by decide) ?_
          cases hf
          subst hQ
          exact he_z C (by decide) hP hS dX5_hasSquareRoot_88
        · have hf := sp0 c10 hf
          refine lv_iconst (v := 1) hx hb dX5_hasSquareRoot_83 (by decide) ?_
          refine lv_goto (tgt := 88) hx hb dX5_hasSquareRoot_84 (by decide) ?_
          cases hf
          subst hQ
          exact he_z C (by decide) hP hS dX5_hasSquareRoot_88
      · have hf := sp1 c5 hf
        refine lv_aload_n hx hb dX5_hasSquareRoot_29 rfl (lv_at hl 1 rfl) ?_
        refine gf_X3_9 C hK hP hk_p0 mw_1_133 dX5_hasSquareRoot_30 ?_
        refine lv_aload_n hx hb dX5_hasSquareRoot_33 rfl (lv_at hl 1 rfl) ?_
        refine gf_X3_8 C hK hP hk_p0 mw_1_131 dX5_hasSquareRoot_34 ?_
        refine lv_isub hx hb dX5_hasSquareRoot_37 ?_
        refine lv_iconst (v := 3) hx hb dX5_hasSquareRoot_38 (by decide) ?_
        refine lv_icmp_lt (tgt := 59) hx hb dX5_hasSquareRoot_39 (by decide) (fun c11 => ?_) (fun c11 => ?_)
        · have hf := sp1 c11 hf
          refine lv_iconst (v := 0) hx hb dX5_hasSquareRoot_59 (by decide) ?_
          cases hf
          subst hQ
          exact he_z C (by decide) hP hS dX5_hasSquareRoot_60
        · have hf := sp0 c11 hf
          refine lv_aload_n hx hb dX5_hasSquareRoot_42 rfl (lv_at hl 1 rfl) ?_
          refine gf_X3_10 C hK hP hk_p0 mw_1_136 dX5_hasSquareRoot_43 ?_
          refine lv_ldc2 (v := 7) hx hb hown (htL _ mw_3_221) dX5_hasSquareRoot_46 ?_
          refine lv_land hx hb dX5_hasSquareRoot_49 ?_
          refine lv_lconst (v := 1) hx hb dX5_hasSquareRoot_50 (by decide) ?_
          refine W.lcmp hx hb dX5_hasSquareRoot_51 ?_
          refine lv_if_ne (tgt := 59) hx hb dX5_hasSquareRoot_52 (by decide) (fun c12 => ?_) (fun c12 => ?_)
          · have hf := sp0 c12 hf
            refine lv_iconst (v := 0) hx hb dX5_hasSquareRoot_59 (by decide) ?_
            cases hf
            subst hQ
            exact he_z C (by decide) hP hS dX5_hasSquareRoot_60
          · have hf := sp1 c12 hf
            refine lv_iconst (v := 1) hx hb dX5_hasSquareRoot_55 (by decide) ?_
            refine lv_goto (tgt := 60) hx hb dX5_hasSquareRoot_56 (by decide) ?_
            cases hf
            subst hQ
            exact he_z C (by decide) hP hS dX5_hasSquareRoot_60
    · have hf := sp0 c4 hf
      refine lv_iconst (v := 0) hx hb dX5_hasSquareRoot_16 (by decide) ?_
      cases hf
      subst hQ
      exact he_z C (by decide) hP hS dX5_hasSquareRoot_17
theorem cp_X5_hasSquareRoot : CPv yX5_hasSquareRoot cX5_hasSquareRoot 2 (some .boolean) 1 := ⟨mw_3_220, mw_1_2, mw_3_218, mw_3_219, by decide +kernel⟩
def rm_X5_digitOf : Room := { frames := 2, cells := 0, slots := 0, locals := 66 }
set_option maxHeartbeats 4000000 in
set_option maxRecDepth 100000 in
theorem c_X5_digitOf (l : Launch) (D : va_G) (ct : Nat → ClassId) (ad : Nat → Nat) (F : Nat → Prop) (hG : Gd ad 70 F) (p0 : Nat) (p1 : Int32) (S0 : St) (hk_p0 : p0 < 42) (r : Int32) (hf : f_X5_digitOf p0 p1 S0 = some r) : MetH l yX5_digitOf cX5_digitOf 3 (some .int) rm_X5_digitOf D (tysW ct) F [.ref (ad 1), .ref (ad (12 + p0)), .int p1] (some (.int r)) (cellsC ct ad S0) (cellsC ct ad S0) := by
  refine MetH.of RX5 (by decide) rfl (Nat.le_of_ble_eq_true rfl) ?_
  intro p e s m args below meth c C hK hP ls hl
  have hl : lv_has ls 3 [(0, .ref (ad 1)), (1, .ref (ad (12 + p0))), (2, .int p1)] := hl
  obtain ⟨hx, hb, hr, hml, hown, htL, hlocks⟩ := id C
  have hS : va_S F s.heap s.heap [] := va_S.rf
  generalize hQ : MQ below (Hq D (cellsC ct ad S0) F (some (.int r))) args s 0 0 F = Q
  refine lv_iload_n hx hb dX5_digitOf_0 rfl (lv_at hl 2 rfl) ?_
  refine lv_aload_n hx hb dX5_digitOf_1 rfl (lv_at hl 1 rfl) ?_
  refine gf_X3_8 C hK hP hk_p0 mw_1_131 dX5_digitOf_2 ?_
  refine lv_icmp_lt (tgt := 16) hx hb dX5_digitOf_5 (by decide) (fun c1 => ?_) (fun c1 => ?_)
  · have hf := sp1 c1 hf
    refine lv_iconst (v := 0) hx hb dX5_digitOf_16 (by decide) ?_
    cases hf
    subst hQ
    exact he_i C hP hS dX5_digitOf_17
  · have hf := sp0 c1 hf
    refine lv_iload_n hx hb dX5_digitOf_8 rfl (lv_at hl 2 rfl) ?_
    refine lv_aload_n hx hb dX5_digitOf_9 rfl (lv_at hl 1 rfl) ?_
    refine gf_X3_9 C hK hP hk_p0 mw_1_133 dX5_digitOf_10 ?_
    refine lv_icmp_lt (tgt := 18) hx hb dX5_digitOf_13 (by decide) (fun c2 => ?_) (fun c2 => ?_)
    · have hf := sp1 c2 hf
      refine lv_aload_n hx hb dX5_digitOf_18 rfl (lv_at hl 1 rfl) ?_
      refine gf_X3_10 C hK hP hk_p0 mw_1_136 dX5_digitOf_19 ?_
      refine lv_aload_n hx hb dX5_digitOf_22 rfl (lv_at hl 0 rfl) ?_
      refine gf_X5_0 C hK hP mw_1_169 dX5_digitOf_23 ?_
      refine lv_iload_n hx hb dX5_digitOf_26 rfl (lv_at hl 2 rfl) ?_
      refine lv_aload_n hx hb dX5_digitOf_27 rfl (lv_at hl 1 rfl) ?_
      refine gf_X3_8 C hK hP hk_p0 mw_1_131 dX5_digitOf_28 ?_
      refine lv_isub hx hb dX5_digitOf_31 ?_
      obtain ⟨v4, h3, hf⟩ := b1_some hf
      refine hc_V (As := [.int (p1 - (S0.1 (12 + p0) 8))]) (rest := [.long (S0.2 (12 + p0) 10)]) C hK (c_X2_power l D ct ad F hG (p1 - (S0.1 (12 + p0) 8)) S0  v4 h3) hl.1 cp_X2_power mw_2_66 (rc_X2 hK hP) hP hS ⟨rfl, rfl⟩ ⟨Nat.le_of_ble_eq_true rfl, Nat.le_of_ble_eq_true rfl⟩ rfl rfl (Nat.le_of_ble_eq_true rfl) dX5_digitOf_32 ⟨Nat.le_of_ble_eq_true rfl, Nat.le_of_ble_eq_true rfl⟩ (fun H locs hP hS => ?_)
      obtain ⟨v5, h6, hf⟩ := b1_some hf
      refine pc_S (As := [.long (S0.2 (12 + p0) 10), .long v4]) (rest := []) C (c_X8_part l (S0.2 (12 + p0) 10) v4 v5 h6) hl.1 cp_X8_part mw_3_103 ⟨rfl, rfl⟩ ⟨Nat.le_of_ble_eq_true rfl, Nat.le_of_ble_eq_true rfl⟩ rfl rfl (Nat.le_of_ble_eq_true rfl) dX5_digitOf_35 ⟨Nat.le_of_ble_eq_true rfl, Nat.le_of_ble_eq_true rfl⟩ ?_
      refine lv_aload_n hx hb dX5_digitOf_38 rfl (lv_at hl 0 rfl) ?_
      refine gf_X5_0 C hK hP mw_1_169 dX5_digitOf_39 ?_
      refine gf_X2_0 C hK hP mw_1_52 dX5_digitOf_42 ?_
      refine lv_i2l hx hb dX5_digitOf_45 rfl ?_
      obtain ⟨v7, h8, hf⟩ := b1_some hf
      refine pc_S (As := [.long v5, .long (Int32.toInt64 (S0.1 3 0))]) (rest := []) C (c_X8_rest l v5 (Int32.toInt64 (S0.1 3 0)) v7 h8) hl.1 cp_X8_rest mw_2_82 ⟨rfl, rfl⟩ ⟨Nat.le_of_ble_eq_true rfl, Nat.le_of_ble_eq_true rfl⟩ rfl rfl (Nat.le_of_ble_eq_true rfl) dX5_digitOf_46 ⟨Nat.le_of_ble_eq_true rfl, Nat.le_of_ble_eq_true rfl⟩ ?_
      refine lv_l2i hx hb dX5_digitOf_49 rfl ?_
      cases hf
      subst hQ
      exact he_i C hP hS dX5_digitOf_50
    · have hf := sp0 c2 hf
      refine lv_iconst (v := 0) hx hb dX5_digitOf_16 (by decide) ?_
      cases hf
      subst hQ
      exact he_i C hP hS dX5_digitOf_17
theorem cp_X5_digitOf : CPv yX5_digitOf cX5_digitOf 3 (some .int) 2 := ⟨mw_4_32, mw_1_2, mw_4_30, mw_4_31, by decide +kernel⟩
def rm_X5_mark : Room := { frames := 0, cells := 0, slots := 0, locals := 0 }
set_option maxHeartbeats 4000000 in
set_option maxRecDepth 100000 in
theorem c_X5_mark (l : Launch) (D : va_G) (ct : Nat → ClassId) (ad : Nat → Nat) (F : Nat → Prop) (hG : Gd ad 70 F) (p0 : Int32) (S0 : St)  (S' : St) (hf : f_X5_mark p0 S0 = some S') : MetH l yX5_mark cX5_mark 2 none rm_X5_mark D (tysW ct) F [.ref (ad 1), .int p0] none (cellsC ct ad S0) (cellsC ct ad S') := by
  refine MetH.of RX5 (by decide) rfl (Nat.le_of_ble_eq_true rfl) ?_
  intro p e s m args below meth c C hK hP ls hl
  have hl : lv_has ls 2 [(0, .ref (ad 1)), (1, .int p0)] := hl
  obtain ⟨hx, hb, hr, hml, hown, htL, hlocks⟩ := id C
  have hS : va_S F s.heap s.heap [] := va_S.rf
  generalize hQ : MQ below (Hq D (cellsC ct ad S') F none) args s 0 0 F = Q
  refine lv_iload_n hx hb dX5_mark_0 rfl (lv_at hl 1 rfl) ?_
  refine lv_if_lt (tgt := 23) hx hb dX5_mark_1 (by decide) (fun c1 => ?_) (fun c1 => ?_)
  · have hf := sp1 c1 hf
    cases hf
    subst hQ
    exact he_v C hP hS dX5_mark_23
  · have hf := sp0 c1 hf
    refine lv_iload_n hx hb dX5_mark_4 rfl (lv_at hl 1 rfl) ?_
    refine lv_aload_n hx hb dX5_mark_5 rfl (lv_at hl 0 rfl) ?_
    refine gf_X5_4 C hK hP mw_1_177 dX5_mark_6 ?_
    refine an_C7 C hK hP dX5_mark_9 ?_
    refine lv_icmp_ge (tgt := 23) hx hb dX5_mark_10 (by decide) (fun c2 => ?_) (fun c2 => ?_)
    · have hf := sp1 c2 hf
      cases hf
      subst hQ
      exact he_v C hP hS dX5_mark_23
    · have hf := sp0 c2 hf
      refine lv_aload_n hx hb dX5_mark_13 rfl (lv_at hl 0 rfl) ?_
      refine gf_X5_4 C hK hP mw_1_177 dX5_mark_14 ?_
      refine lv_iload_n hx hb dX5_mark_17 rfl (lv_at hl 1 rfl) ?_
      obtain ⟨c3, hf⟩ := spn hf
      refine al_C7 C hK hP c3 dX5_mark_18 ?_
      refine lv_iconst (v := 1) hx hb dX5_mark_19 (by decide) ?_
      refine pf_X3_7 C hK hP hG hS (inN c3 (by decide)) (by decide) (by decide) mw_1_128 dX5_mark_20 (fun H locs hP hS => ?_)
      cases hf
      subst hQ
      exact he_v C hP hS dX5_mark_23
theorem cp_X5_mark : CPv yX5_mark cX5_mark 2 none 1 := ⟨mw_4_47, mw_1_2, mw_4_46, ms_26, by decide +kernel⟩
def rm_X5_markFractionsUnder : Room := { frames := 1, cells := 0, slots := 0, locals := 40 }
set_option maxHeartbeats 4000000 in
set_option maxRecDepth 100000 in
theorem c_X5_markFractionsUnder (l : Launch) (D : va_G) (ct : Nat → ClassId) (ad : Nat → Nat) (F : Nat → Prop) (hG : Gd ad 70 F) (p0 : Int32) (S0 : St)  (r : Int32) (S' : St) (hf : f_X5_markFractionsUnder p0 S0 = some (r, S')) : MetH l yX5_markFractionsUnder cX5_markFractionsUnder 4 (some .boolean) rm_X5_markFractionsUnder D (tysW ct) F [.ref (ad 1), .int p0] (some (.int r)) (cellsC ct ad S0) (cellsC ct ad S') := by
  refine MetH.of RX5 (by decide) rfl (Nat.le_of_ble_eq_true rfl) ?_
  intro p e s m args below meth c C hK hP ls hl
  have hl : lv_has ls 4 [(0, .ref (ad 1)), (1, .int p0)] := hl
  obtain ⟨hx, hb, hr, hml, hown, htL, hlocks⟩ := id C
  have hS : va_S F s.heap s.heap [] := va_S.rf
  generalize hQ : MQ below (Hq D (cellsC ct ad S') F (some (.int r))) args s 0 0 F = Q
  have w_50 : ∀ (x2 : Int32) (x3 : Int32) (S : St), ∀ (H : Heap) (locs : List Loc) (ls : Array Slot), lv_has ls 4 [(0, .ref (ad 1)), (2, .int x2), (3, .int x3)] → va_P D vwCl (cellsC ct ad S) H → va_S F s.heap H locs → n_X5_markFractionsUnder_50 x2 x3 S = some (r, S') → W p l e rm_X5_markFractionsUnder s m args below meth c H locs 0 0 Q (F0 m 50 ls []) := by
    have aux : ∀ (n : Nat), ∀ (x2 : Int32) (x3 : Int32) (S : St), ∀ (H : Heap) (locs : List Loc) (ls : Array Slot), lv_has ls 4 [(0, .ref (ad 1)), (2, .int x2), (3, .int x3)] → va_P D vwCl (cellsC ct ad S) H → va_S F s.heap H locs → itr (fun (q : Int32 × Int32 × St) k => s_X5_markFractionsUnder_50  (fun (x2 : Int32) (x3 : Int32) (S : St) => k (x2, x3, S)) q.1 q.2.1 q.2.2) n (x2, x3, S) = some (r, S') → W p l e rm_X5_markFractionsUnder s m args below meth c H locs 0 0 Q (F0 m 50 ls []) := by
      intro n
      induction n with
      | zero => intro x2 x3 S H locs ls hl hP hS hf; exact (itr_z hf).elim
      | succ n ih =>
      intro x2 x3 S H locs ls hl hP hS hf
      have hk_50 := ih
      have hf : s_X5_markFractionsUnder_50  (fun (x2 : Int32) (x3 : Int32) (S : St) => itr (fun (q : Int32 × Int32 × St) k => s_X5_markFractionsUnder_50  (fun (x2 : Int32) (x3 : Int32) (S : St) => k (x2, x3, S)) q.1 q.2.1 q.2.2) n (x2, x3, S)) x2 x3 S = some (r, S') := hf
      refine lv_iload_n hx hb dX5_markFractionsUnder_50 rfl (lv_at hl 2 rfl) ?_
      refine lv_if_lt (tgt := 120) hx hb dX5_markFractionsUnder_51 (by decide) (fun c1 => ?_) (fun c1 => ?_)
      · have hf := sp1 c1 hf
        refine lv_iload_n hx hb dX5_markFractionsUnder_120 rfl (lv_at hl 1 rfl) ?_
        obtain ⟨c2, hf⟩ := spy hf
        cases hf
        subst hQ
        exact he_z C c2 hP hS dX5_markFractionsUnder_121
      · have hf := sp0 c1 hf
        refine lv_aload_n hx hb dX5_markFractionsUnder_54 rfl (lv_at hl 0 rfl) ?_
        refine gf_X5_4 C hK hP mw_1_177 dX5_markFractionsUnder_55 ?_
        refine lv_iload_n hx hb dX5_markFractionsUnder_58 rfl (lv_at hl 2 rfl) ?_
        obtain ⟨c3, hf⟩ := spn hf
        refine al_C7 C hK hP c3 dX5_markFractionsUnder_59 ?_
        refine gf_X3_7 C hK hP (inN c3 (by decide)) mw_1_128 dX5_markFractionsUnder_60 ?_
        refine lv_if_eq (tgt := 114) hx hb dX5_markFractionsUnder_63 (by decide) (fun c4 => ?_) (fun c4 => ?_)
        · have hf := sp1 c4 hf
          refine lv_iinc (v := (x3 + (-1))) (lv' := [(3, .int (x3 + (-1))), (0, .ref (ad 1)), (2, .int x2)]) hx hb dX5_markFractionsUnder_114 hl (k := 2) rfl rfl (by decide) rfl (fun ls hl => ?_)
          refine lv_goto (tgt := 50) hx hb dX5_markFractionsUnder_117 (by decide) ?_
          exact hk_50 x2 (x3 + (-1)) S _ _ _ (lv_sub hl [1, 2, 0] rfl) hP hS hf
        · have hf := sp0 c4 hf
          refine lv_aload_n hx hb dX5_markFractionsUnder_66 rfl (lv_at hl 0 rfl) ?_
          refine lv_aload_n hx hb dX5_markFractionsUnder_67 rfl (lv_at hl 0 rfl) ?_
          refine gf_X5_4 C hK hP mw_1_177 dX5_markFractionsUnder_68 ?_
          refine lv_iload_n hx hb dX5_markFractionsUnder_71 rfl (lv_at hl 2 rfl) ?_
          obtain ⟨c5, hf⟩ := spn hf
          refine al_C7 C hK hP c5 dX5_markFractionsUnder_72 ?_
          refine gf_X3_1 C hK hP (inN c5 (by decide)) mw_1_121 dX5_markFractionsUnder_73 ?_
          obtain ⟨S7, h6, hf⟩ := b1_some hf
          refine hc_V (As := [.int (S.1 (12 + (Int32.toNatClampNeg x3)) 1)]) (rest := []) C hK (c_X5_mark l D ct ad F hG (S.1 (12 + (Int32.toNatClampNeg x3)) 1) S  S7 h6) hl.1 cp_X5_mark mw_4_44 (rc_X5 hK hP) hP hS ⟨rfl, rfl⟩ ⟨Nat.le_of_ble_eq_true rfl, Nat.le_of_ble_eq_true rfl⟩ rfl rfl (Nat.le_of_ble_eq_true rfl) dX5_markFractionsUnder_76 ⟨Nat.le_of_ble_eq_true rfl, Nat.le_of_ble_eq_true rfl⟩ (fun H locs hP hS => ?_)
          refine lv_aload_n hx hb dX5_markFractionsUnder_79 rfl (lv_at hl 0 rfl) ?_
          refine lv_aload_n hx hb dX5_markFractionsUnder_80 rfl (lv_at hl 0 rfl) ?_
          refine gf_X5_4 C hK hP mw_1_177 dX5_markFractionsUnder_81 ?_
          refine lv_iload_n hx hb dX5_markFractionsUnder_84 rfl (lv_at hl 2 rfl) ?_
          obtain ⟨c8, hf⟩ := spn hf
          refine al_C7 C hK hP c8 dX5_markFractionsUnder_85 ?_
          refine gf_X3_2 C hK hP (inN c8 (by decide)) mw_1_123 dX5_markFractionsUnder_86 ?_
          obtain ⟨S10, h9, hf⟩ := b1_some hf
          refine hc_V (As := [.int (S7.1 (12 + (Int32.toNatClampNeg x3)) 2)]) (rest := []) C hK (c_X5_mark l D ct ad F hG (S7.1 (12 + (Int32.toNatClampNeg x3)) 2) S7  S10 h9) hl.1 cp_X5_mark mw_4_44 (rc_X5 hK hP) hP hS ⟨rfl, rfl⟩ ⟨Nat.le_of_ble_eq_true rfl, Nat.le_of_ble_eq_true rfl⟩ rfl rfl (Nat.le_of_ble_eq_true rfl) dX5_markFractionsUnder_89 ⟨Nat.le_of_ble_eq_true rfl, Nat.le_of_ble_eq_true rfl⟩ (fun H locs hP hS => ?_)
          refine lv_iload_n hx hb dX5_markFractionsUnder_92 rfl (lv_at hl 1 rfl) ?_
          refine lv_if_ne (tgt := 108) hx hb dX5_markFractionsUnder_93 (by decide) (fun c11 => ?_) (fun c11 => ?_)
          · have hf := sp0 c11 hf
            refine lv_iconst (v := 1) hx hb dX5_markFractionsUnder_108 (by decide) ?_
            refine lv_goto (tgt := 113) hx hb dX5_markFractionsUnder_109 (by decide) ?_
            refine lv_istore_n (lv' := [(2, .int 1), (0, .ref (ad 1)), (3, .int x3)]) hx hb dX5_markFractionsUnder_113 rfl hl (by decide) rfl (fun ls hl => ?_)
            refine lv_iinc (v := (x3 + (-1))) (lv' := [(3, .int (x3 + (-1))), (2, .int 1), (0, .ref (ad 1))]) hx hb dX5_markFractionsUnder_114 hl (k := 2) rfl rfl (by decide) rfl (fun ls hl => ?_)
            refine lv_goto (tgt := 50) hx hb dX5_markFractionsUnder_117 (by decide) ?_
            exact hk_50 1 (x3 + (-1)) S10 _ _ _ (lv_sub hl [2, 1, 0] rfl) hP hS hf
          · have hf := sp1 c11 hf
            refine lv_aload_n hx hb dX5_markFractionsUnder_96 rfl (lv_at hl 0 rfl) ?_
            refine gf_X5_4 C hK hP mw_1_177 dX5_markFractionsUnder_97 ?_
            refine lv_iload_n hx hb dX5_markFractionsUnder_100 rfl (lv_at hl 2 rfl) ?_
            obtain ⟨c12, hf⟩ := spn hf
            refine al_C7 C hK hP c12 dX5_markFractionsUnder_101 ?_
            refine gf_X3_0 C hK hP (inN c12 (by decide)) mw_1_119 dX5_markFractionsUnder_102 ?_
            refine lv_if_ne (tgt := 112) hx hb dX5_markFractionsUnder_105 (by decide) (fun c13 => ?_) (fun c13 => ?_)
            · have hf := sp0 c13 hf
              refine lv_iconst (v := 0) hx hb dX5_markFractionsUnder_112 (by decide) ?_
              refine lv_istore_n (lv' := [(2, .int 0), (0, .ref (ad 1)), (3, .int x3)]) hx hb dX5_markFractionsUnder_113 rfl hl (by decide) rfl (fun ls hl => ?_)
              refine lv_iinc (v := (x3 + (-1))) (lv' := [(3, .int (x3 + (-1))), (2, .int 0), (0, .ref (ad 1))]) hx hb dX5_markFractionsUnder_114 hl (k := 2) rfl rfl (by decide) rfl (fun ls hl => ?_)
              refine lv_goto (tgt := 50) hx hb dX5_markFractionsUnder_117 (by decide) ?_
              exact hk_50 0 (x3 + (-1)) S10 _ _ _ (lv_sub hl [2, 1, 0] rfl) hP hS hf
            · have hf := sp1 c13 hf
              refine lv_iconst (v := 1) hx hb dX5_markFractionsUnder_108 (by decide) ?_
              refine lv_goto (tgt := 113) hx hb dX5_markFractionsUnder_109 (by decide) ?_
              refine lv_istore_n (lv' := [(2, .int 1), (0, .ref (ad 1)), (3, .int x3)]) hx hb dX5_markFractionsUnder_113 rfl hl (by decide) rfl (fun ls hl => ?_)
              refine lv_iinc (v := (x3 + (-1))) (lv' := [(3, .int (x3 + (-1))), (2, .int 1), (0, .ref (ad 1))]) hx hb dX5_markFractionsUnder_114 hl (k := 2) rfl rfl (by decide) rfl (fun ls hl => ?_)
              refine lv_goto (tgt := 50) hx hb dX5_markFractionsUnder_117 (by decide) ?_
              exact hk_50 1 (x3 + (-1)) S10 _ _ _ (lv_sub hl [2, 1, 0] rfl) hP hS hf
    exact aux FU
  have w_2 : ∀ (x1 : Int32) (x2 : Int32) (S : St), ∀ (H : Heap) (locs : List Loc) (ls : Array Slot), lv_has ls 4 [(0, .ref (ad 1)), (1, .int x1), (2, .int x2)] → va_P D vwCl (cellsC ct ad S) H → va_S F s.heap H locs → n_X5_markFractionsUnder_2 x1 x2 S = some (r, S') → W p l e rm_X5_markFractionsUnder s m args below meth c H locs 0 0 Q (F0 m 2 ls []) := by
    have aux : ∀ (n : Nat), ∀ (x1 : Int32) (x2 : Int32) (S : St), ∀ (H : Heap) (locs : List Loc) (ls : Array Slot), lv_has ls 4 [(0, .ref (ad 1)), (1, .int x1), (2, .int x2)] → va_P D vwCl (cellsC ct ad S) H → va_S F s.heap H locs → itr (fun (q : Int32 × Int32 × St) k => s_X5_markFractionsUnder_2  (fun (x1 : Int32) (x2 : Int32) (S : St) => k (x1, x2, S)) q.1 q.2.1 q.2.2) n (x1, x2, S) = some (r, S') → W p l e rm_X5_markFractionsUnder s m args below meth c H locs 0 0 Q (F0 m 2 ls []) := by
      intro n
      induction n with
      | zero => intro x1 x2 S H locs ls hl hP hS hf; exact (itr_z hf).elim
      | succ n ih =>
      intro x1 x2 S H locs ls hl hP hS hf
      have hk_2 := ih
      have hf : s_X5_markFractionsUnder_2  (fun (x1 : Int32) (x2 : Int32) (S : St) => itr (fun (q : Int32 × Int32 × St) k => s_X5_markFractionsUnder_2  (fun (x1 : Int32) (x2 : Int32) (S : St) => k (x1, x2, S)) q.1 q.2.1 q.2.2) n (x1, x2, S)) x1 x2 S = some (r, S') := hf
      refine lv_iload_n hx hb dX5_markFractionsUnder_2 rfl (lv_at hl 2 rfl) ?_
      refine lv_aload_n hx hb dX5_markFractionsUnder_3 rfl (lv_at hl 0 rfl) ?_
      refine gf_X5_4 C hK hP mw_1_177 dX5_markFractionsUnder_4 ?_
      refine an_C7 C hK hP dX5_markFractionsUnder_7 ?_
      refine lv_icmp_ge (tgt := 36) hx hb dX5_markFractionsUnder_8 (by decide) (fun c14 => ?_) (fun c14 => ?_)
      · have hf := sp1 c14 hf
        refine lv_iconst (v := 0) hx hb dX5_markFractionsUnder_36 (by decide) ?_
        refine lv_istore_n (lv' := [(2, .int 0), (0, .ref (ad 1)), (1, .int x1)]) hx hb dX5_markFractionsUnder_37 rfl hl (by decide) rfl (fun ls hl => ?_)
        refine lv_iload_n hx hb dX5_markFractionsUnder_38 rfl (lv_at hl 2 rfl) ?_
        refine lv_aload_n hx hb dX5_markFractionsUnder_39 rfl (lv_at hl 1 rfl) ?_
        refine gf_X5_4 C hK hP mw_1_177 dX5_markFractionsUnder_40 ?_
        refine an_C7 C hK hP dX5_markFractionsUnder_43 ?_
        refine lv_iconst (v := 1) hx hb dX5_markFractionsUnder_44 (by decide) ?_
        refine lv_isub hx hb dX5_markFractionsUnder_45 ?_
        refine va_mmin (ls := _) hx hb (hml.trans hl.1.symm) hown (htL _ mw_2_59) (htL _ mw_2_60) (htL _ mw_1_17) (htL _ mw_2_61) (Nat.le_of_ble_eq_true rfl) (Nat.le_of_ble_eq_true rfl) (Nat.le_of_ble_eq_true rfl) (Nat.le_of_ble_eq_true rfl) dX5_markFractionsUnder_46 ?_
        refine lv_istore_n (lv' := [(3, .int (mnI x1 ((40 : Int32) - 1))), (2, .int 0), (0, .ref (ad 1)), (1, .int x1)]) hx hb dX5_markFractionsUnder_49 rfl hl (by decide) rfl (fun ls hl => ?_)
        exact w_50 0 (mnI x1 ((40 : Int32) - 1)) S _ _ _ (lv_sub hl [2, 1, 0] rfl) hP hS hf
      · have hf := sp0 c14 hf
        refine lv_aload_n hx hb dX5_markFractionsUnder_11 rfl (lv_at hl 0 rfl) ?_
        refine gf_X5_4 C hK hP mw_1_177 dX5_markFractionsUnder_12 ?_
        refine lv_iload_n hx hb dX5_markFractionsUnder_15 rfl (lv_at hl 2 rfl) ?_
        obtain ⟨c15, hf⟩ := spn hf
        refine al_C7 C hK hP c15 dX5_markFractionsUnder_16 ?_
        refine lv_iload_n hx hb dX5_markFractionsUnder_17 rfl (lv_at hl 2 rfl) ?_
        refine lv_iload_n hx hb dX5_markFractionsUnder_18 rfl (lv_at hl 1 rfl) ?_
        refine lv_icmp_ne (tgt := 26) hx hb dX5_markFractionsUnder_19 (by decide) (fun c16 => ?_) (fun c16 => ?_)
        · have hf := sp0 c16 hf
          refine lv_iconst (v := 0) hx hb dX5_markFractionsUnder_26 (by decide) ?_
          refine pf_X3_7 C hK hP hG hS (inN c15 (by decide)) (by decide) (by decide) mw_1_128 dX5_markFractionsUnder_27 (fun H locs hP hS => ?_)
          refine lv_iinc (v := (x2 + 1)) (lv' := [(2, .int (x2 + 1)), (0, .ref (ad 1)), (1, .int x1)]) hx hb dX5_markFractionsUnder_30 hl (k := 2) rfl rfl (by decide) rfl (fun ls hl => ?_)
          refine lv_goto (tgt := 2) hx hb dX5_markFractionsUnder_33 (by decide) ?_
          exact hk_2 x1 (x2 + 1) (wI S (12 + (Int32.toNatClampNeg x2)) 7 0) _ _ _ (lv_sub hl [1, 2, 0] rfl) hP hS hf
        · have hf := sp1 c16 hf
          refine lv_iconst (v := 1) hx hb dX5_markFractionsUnder_22 (by decide) ?_
          refine lv_goto (tgt := 27) hx hb dX5_markFractionsUnder_23 (by decide) ?_
          refine pf_X3_7 C hK hP hG hS (inN c15 (by decide)) (by decide) (by decide) mw_1_128 dX5_markFractionsUnder_27 (fun H locs hP hS => ?_)
          refine lv_iinc (v := (x2 + 1)) (lv' := [(2, .int (x2 + 1)), (0, .ref (ad 1)), (1, .int x1)]) hx hb dX5_markFractionsUnder_30 hl (k := 2) rfl rfl (by decide) rfl (fun ls hl => ?_)
          refine lv_goto (tgt := 2) hx hb dX5_markFractionsUnder_33 (by decide) ?_
          exact hk_2 x1 (x2 + 1) (wI S (12 + (Int32.toNatClampNeg x2)) 7 1) _ _ _ (lv_sub hl [1, 2, 0] rfl) hP hS hf
    exact aux FU
  refine lv_iconst (v := 0) hx hb dX5_markFractionsUnder_0 (by decide) ?_
  refine lv_istore_n (lv' := [(2, .int 0), (0, .ref (ad 1)), (1, .int p0)]) hx hb dX5_markFractionsUnder_1 rfl hl (by decide) rfl (fun ls hl => ?_)
  exact w_2 p0 0 S0 _ _ _ (lv_sub hl [1, 2, 0] rfl) hP hS hf
theorem cp_X5_markFractionsUnder : CPv yX5_markFractionsUnder cX5_markFractionsUnder 4 (some .boolean) 1 := ⟨mw_4_43, mw_1_2, mw_4_41, mw_4_42, by decide +kernel⟩
def rm_X5_findMore : Room := { frames := 6, cells := 0, slots := 0, locals := 170 }
set_option maxHeartbeats 4000000 in
set_option maxRecDepth 100000 in
theorem c_X5_findMore (l : Launch) (D : va_G) (ct : Nat → ClassId) (ad : Nat → Nat) (F : Nat → Prop) (hG : Gd ad 70 F) (p0 : Int32) (S0 : St)  (S' : St) (hf : f_X5_findMore p0 S0 = some S') : MetH l yX5_findMore cX5_findMore 4 none rm_X5_findMore D (tysW ct) F [.ref (ad 1), .int p0] none (cellsC ct ad S0) (cellsC ct ad S') := by
  refine MetH.of RX5 (by decide) rfl (Nat.le_of_ble_eq_true rfl) ?_
  intro p e s m args below meth c C hK hP ls hl
  have hl : lv_has ls 4 [(0, .ref (ad 1)), (1, .int p0)] := hl
  obtain ⟨hx, hb, hr, hml, hown, htL, hlocks⟩ := id C
  have hS : va_S F s.heap s.heap [] := va_S.rf
  generalize hQ : MQ below (Hq D (cellsC ct ad S') F none) args s 0 0 F = Q
  have w_55 : ∀ (k_2 : Int32 → Int32 → St → Option St) (hk_2 : ∀ (x1 : Int32) (x2 : Int32) (S : St), ∀ (H : Heap) (locs : List Loc) (ls : Array Slot), lv_has ls 4 [(0, .ref (ad 1)), (1, .int x1), (2, .int x2)] → va_P D vwCl (cellsC ct ad S) H → va_S F s.heap H locs → k_2 x1 x2 S = some S' → W p l e rm_X5_findMore s m args below meth c H locs 0 0 Q (F0 m 2 ls [])), ∀ (x1 : Int32) (x2 : Int32) (x3 : Nat) (S : St), x3 < 42 → ∀ (H : Heap) (locs : List Loc) (ls : Array Slot), lv_has ls 4 [(0, .ref (ad 1)), (1, .int x1), (2, .int x2), (3, .ref (ad (12 + x3)))] → va_P D vwCl (cellsC ct ad S) H → va_S F s.heap H locs → n_X5_findMore_55 k_2 x1 x2 x3 S = some S' → W p l e rm_X5_findMore s m args below meth c H locs 0 0 Q (F0 m 55 ls []) := by
    intro k_2 hk_2 x1 x2 x3 S hk_x3 H locs ls hl hP hS hf
    refine lv_aload_n hx hb dX5_findMore_55 rfl (lv_at hl 0 rfl) ?_
    refine lv_aload_n hx hb dX5_findMore_56 rfl (lv_at hl 3 rfl) ?_
    obtain ⟨S2, h1, hf⟩ := b1_some hf
    refine hc_V (As := [.ref (ad (12 + x3))]) (rest := []) C hK (c_X5_find l D ct ad F hG x3 S hk_x3 S2 h1) hl.1 cp_X5_find mw_3_42 (rc_X5 hK hP) hP hS ⟨rfl, rfl⟩ ⟨Nat.le_of_ble_eq_true rfl, Nat.le_of_ble_eq_true rfl⟩ rfl rfl (Nat.le_of_ble_eq_true rfl) dX5_findMore_57 ⟨Nat.le_of_ble_eq_true rfl, Nat.le_of_ble_eq_true rfl⟩ (fun H locs hP hS => ?_)
    refine lv_iinc (v := (x2 + 1)) (lv' := [(2, .int (x2 + 1)), (0, .ref (ad 1)), (1, .int x1), (3, .ref (ad (12 + x3)))]) hx hb dX5_findMore_60 hl (k := 2) rfl rfl (by decide) rfl (fun ls hl => ?_)
    refine lv_goto (tgt := 2) hx hb dX5_findMore_63 (by decide) ?_
    exact hk_2 x1 (x2 + 1) S2 _ _ _ (lv_sub hl [1, 2, 0] rfl) hP hS hf
  have w_2 : ∀ (x1 : Int32) (x2 : Int32) (S : St), ∀ (H : Heap) (locs : List Loc) (ls : Array Slot), lv_has ls 4 [(0, .ref (ad 1)), (1, .int x1), (2, .int x2)] → va_P D vwCl (cellsC ct ad S) H → va_S F s.heap H locs → n_X5_findMore_2 x1 x2 S = some S' → W p l e rm_X5_findMore s m args below meth c H locs 0 0 Q (F0 m 2 ls []) := by
    have aux : ∀ (n : Nat), ∀ (x1 : Int32) (x2 : Int32) (S : St), ∀ (H : Heap) (locs : List Loc) (ls : Array Slot), lv_has ls 4 [(0, .ref (ad 1)), (1, .int x1), (2, .int x2)] → va_P D vwCl (cellsC ct ad S) H → va_S F s.heap H locs → itr (fun (q : Int32 × Int32 × St) k => s_X5_findMore_2  (fun (x1 : Int32) (x2 : Int32) (S : St) => k (x1, x2, S)) q.1 q.2.1 q.2.2) n (x1, x2, S) = some S' → W p l e rm_X5_findMore s m args below meth c H locs 0 0 Q (F0 m 2 ls []) := by
      intro n
      induction n with
      | zero => intro x1 x2 S H locs ls hl hP hS hf; exact (itr_z hf).elim
      | succ n ih =>
      intro x1 x2 S H locs ls hl hP hS hf
      have hk_2 := ih
      have hf : s_X5_findMore_2  (fun (x1 : Int32) (x2 : Int32) (S : St) => itr (fun (q : Int32 × Int32 × St) k => s_X5_findMore_2  (fun (x1 : Int32) (x2 : Int32) (S : St) => k (x1, x2, S)) q.1 q.2.1 q.2.2) n (x1, x2, S)) x1 x2 S = some S' := hf
      refine lv_iload_n hx hb dX5_findMore_2 rfl (lv_at hl 2 rfl) ?_
      refine lv_aload_n hx hb dX5_findMore_3 rfl (lv_at hl 0 rfl) ?_
      refine gf_X5_3 C hK hP mw_1_175 dX5_findMore_4 ?_
      refine lv_icmp_ge (tgt := 66) hx hb dX5_findMore_7 (by decide) (fun c3 => ?_) (fun c3 => ?_)
      · have hf := sp1 c3 hf
        cases hf
        subst hQ
        exact he_v C hP hS dX5_findMore_66
      · have hf := sp0 c3 hf
        refine lv_iload_n hx hb dX5_findMore_10 rfl (lv_at hl 2 rfl) ?_
        refine lv_aload_n hx hb dX5_findMore_11 rfl (lv_at hl 0 rfl) ?_
        refine gf_X5_4 C hK hP mw_1_177 dX5_findMore_12 ?_
        refine an_C7 C hK hP dX5_findMore_15 ?_
        refine lv_icmp_ge (tgt := 66) hx hb dX5_findMore_16 (by decide) (fun c4 => ?_) (fun c4 => ?_)
        · have hf := sp1 c4 hf
          cases hf
          subst hQ
          exact he_v C hP hS dX5_findMore_66
        · have hf := sp0 c4 hf
          refine lv_aload_n hx hb dX5_findMore_19 rfl (lv_at hl 0 rfl) ?_
          refine gf_X5_4 C hK hP mw_1_177 dX5_findMore_20 ?_
          refine lv_iload_n hx hb dX5_findMore_23 rfl (lv_at hl 2 rfl) ?_
          obtain ⟨c5, hf⟩ := spn hf
          refine al_C7 C hK hP c5 dX5_findMore_24 ?_
          refine lv_astore_n (lv' := [(3, .ref (ad (12 + (Int32.toNatClampNeg x2)))), (0, .ref (ad 1)), (1, .int x1), (2, .int x2)]) hx hb dX5_findMore_25 rfl hl (by decide) rfl (fun ls hl => ?_)
          refine lv_aload_n hx hb dX5_findMore_26 rfl (lv_at hl 0 rfl) ?_
          refine gf_X3_7 C hK hP (inN c5 (by decide)) mw_1_128 dX5_findMore_27 ?_
          refine lv_if_eq (tgt := 55) hx hb dX5_findMore_30 (by decide) (fun c6 => ?_) (fun c6 => ?_)
          · have hf := sp1 c6 hf
            exact w_55 _ hk_2 x1 x2 (Int32.toNatClampNeg x2) S (inN c5 (by decide)) _ _ _ (lv_sub hl [1, 2, 3, 0] rfl) hP hS hf
          · have hf := sp0 c6 hf
            refine lv_aload_n hx hb dX5_findMore_33 rfl (lv_at hl 0 rfl) ?_
            refine gf_X3_0 C hK hP (inN c5 (by decide)) mw_1_119 dX5_findMore_34 ?_
            refine lv_if_ne (tgt := 55) hx hb dX5_findMore_37 (by decide) (fun c7 => ?_) (fun c7 => ?_)
            · have hf := sp0 c7 hf
              exact w_55 _ hk_2 x1 x2 (Int32.toNatClampNeg x2) S (inN c5 (by decide)) _ _ _ (lv_sub hl [1, 2, 3, 0] rfl) hP hS hf
            · have hf := sp1 c7 hf
              refine lv_aload_n hx hb dX5_findMore_40 rfl (lv_at hl 0 rfl) ?_
              refine lv_aload_n hx hb dX5_findMore_41 rfl (lv_at hl 0 rfl) ?_
              refine gf_X3_5 C hK hP (inN c5 (by decide)) mw_1_126 dX5_findMore_42 ?_
              refine lv_iload_n hx hb dX5_findMore_45 rfl (lv_at hl 2 rfl) ?_
              refine lv_iadd hx hb dX5_findMore_46 ?_
              refine lv_bipush (v := 60) hx hb dX5_findMore_47 (by decide) ?_
              refine va_mmin (ls := _) hx hb (hml.trans hl.1.symm) hown (htL _ mw_2_59) (htL _ mw_2_60) (htL _ mw_1_17) (htL _ mw_2_61) (Nat.le_of_ble_eq_true rfl) (Nat.le_of_ble_eq_true rfl) (Nat.le_of_ble_eq_true rfl) (Nat.le_of_ble_eq_true rfl) dX5_findMore_49 ?_
              refine pf_X3_5 C hK hP hG hS (inN c5 (by decide)) mw_1_126 dX5_findMore_52 (fun H locs hP hS => ?_)
              exact w_55 _ hk_2 x1 x2 (Int32.toNatClampNeg x2) (wI S (12 + (Int32.toNatClampNeg x2)) 5 (mnI ((S.1 (12 + (Int32.toNatClampNeg x2)) 5) + x1) 60)) (inN c5 (by decide)) _ _ _ (lv_sub hl [1, 2, 3, 0] rfl) hP hS hf
    exact aux FU
  refine lv_iconst (v := 0) hx hb dX5_findMore_0 (by decide) ?_
  refine lv_istore_n (lv' := [(2, .int 0), (0, .ref (ad 1)), (1, .int p0)]) hx hb dX5_findMore_1 rfl hl (by decide) rfl (fun ls hl => ?_)
  exact w_2 p0 0 S0 _ _ _ (lv_sub hl [1, 2, 0] rfl) hP hS hf
theorem cp_X5_findMore : CPv yX5_findMore cX5_findMore 4 none 1 := ⟨mw_4_52, mw_1_2, mw_4_50, mw_4_51, by decide +kernel⟩
def rm_X5_lowestLike : Room := { frames := 1, cells := 0, slots := 0, locals := 25 }
set_option maxHeartbeats 4000000 in
set_option maxRecDepth 100000 in
theorem c_X5_lowestLike (l : Launch) (D : va_G) (ct : Nat → ClassId) (ad : Nat → Nat) (F : Nat → Prop) (hG : Gd ad 70 F) (p0 : Int32) (S0 : St)  (r : Int32) (hf : f_X5_lowestLike p0 S0 = some r) : MetH l yX5_lowestLike cX5_lowestLike 4 (some .int) rm_X5_lowestLike D (tysW ct) F [.ref (ad 1), .int p0] (some (.int r)) (cellsC ct ad S0) (cellsC ct ad S0) := by
  refine MetH.of RX5 (by decide) rfl (Nat.le_of_ble_eq_true rfl) ?_
  intro p e s m args below meth c C hK hP ls hl
  have hl : lv_has ls 4 [(0, .ref (ad 1)), (1, .int p0)] := hl
  obtain ⟨hx, hb, hr, hml, hown, htL, hlocks⟩ := id C
  have hS : va_S F s.heap s.heap [] := va_S.rf
  generalize hQ : MQ below (Hq D (cellsC ct ad S0) F (some (.int r))) args s 0 0 F = Q
  have w_8 : ∀ (x1 : Int32) (x2 : Nat) (x3 : Int32), x2 < 42 → ∀ (H : Heap) (locs : List Loc) (ls : Array Slot), lv_has ls 4 [(0, .ref (ad 1)), (1, .int x1), (2, .ref (ad (12 + x2))), (3, .int x3)] → va_P D vwCl (cellsC ct ad S0) H → va_S F s.heap H locs → n_X5_lowestLike_8 S0 x1 x2 x3 = some r → W p l e rm_X5_lowestLike s m args below meth c H locs 0 0 Q (F0 m 8 ls []) := by
    have aux : ∀ (n : Nat), ∀ (x1 : Int32) (x2 : Nat) (x3 : Int32), x2 < 42 → ∀ (H : Heap) (locs : List Loc) (ls : Array Slot), lv_has ls 4 [(0, .ref (ad 1)), (1, .int x1), (2, .ref (ad (12 + x2))), (3, .int x3)] → va_P D vwCl (cellsC ct ad S0) H → va_S F s.heap H locs → itr (fun (q : Int32 × Nat × Int32) k => s_X5_lowestLike_8  (fun (x1 : Int32) (x2 : Nat) (x3 : Int32) => k (x1, x2, x3)) S0 q.1 q.2.1 q.2.2) n (x1, x2, x3) = some r → W p l e rm_X5_lowestLike s m args below meth c H locs 0 0 Q (F0 m 8 ls []) := by
      intro n
      induction n with
      | zero => intro x1 x2 x3 hk_x2 H locs ls hl hP hS hf; exact (itr_z hf).elim
      | succ n ih =>
      intro x1 x2 x3 hk_x2 H locs ls hl hP hS hf
      have hk_8 := ih
      have hf : s_X5_lowestLike_8  (fun (x1 : Int32) (x2 : Nat) (x3 : Int32) => itr (fun (q : Int32 × Nat × Int32) k => s_X5_lowestLike_8  (fun (x1 : Int32) (x2 : Nat) (x3 : Int32) => k (x1, x2, x3)) S0 q.1 q.2.1 q.2.2) n (x1, x2, x3)) S0 x1 x2 x3 = some r := hf
      refine lv_iload_n hx hb dX5_lowestLike_8 rfl (lv_at hl 3 rfl) ?_
      refine lv_iload_n hx hb dX5_lowestLike_9 rfl (lv_at hl 1 rfl) ?_
      refine lv_icmp_ge (tgt := 43) hx hb dX5_lowestLike_10 (by decide) (fun c1 => ?_) (fun c1 => ?_)
      · have hf := sp1 c1 hf
        refine lv_iload_n hx hb dX5_lowestLike_43 rfl (lv_at hl 1 rfl) ?_
        cases hf
        subst hQ
        exact he_i C hP hS dX5_lowestLike_44
      · have hf := sp0 c1 hf
        refine lv_iload_n hx hb dX5_lowestLike_13 rfl (lv_at hl 3 rfl) ?_
        refine lv_aload_n hx hb dX5_lowestLike_14 rfl (lv_at hl 0 rfl) ?_
        refine gf_X5_4 C hK hP mw_1_177 dX5_lowestLike_15 ?_
        refine an_C7 C hK hP dX5_lowestLike_18 ?_
        refine lv_icmp_ge (tgt := 43) hx hb dX5_lowestLike_19 (by decide) (fun c2 => ?_) (fun c2 => ?_)
        · have hf := sp1 c2 hf
          refine lv_iload_n hx hb dX5_lowestLike_43 rfl (lv_at hl 1 rfl) ?_
          cases hf
          subst hQ
          exact he_i C hP hS dX5_lowestLike_44
        · have hf := sp0 c2 hf
          refine lv_aload_n hx hb dX5_lowestLike_22 rfl (lv_at hl 0 rfl) ?_
          refine gf_X5_4 C hK hP mw_1_177 dX5_lowestLike_23 ?_
          refine lv_iload_n hx hb dX5_lowestLike_26 rfl (lv_at hl 3 rfl) ?_
          obtain ⟨c3, hf⟩ := spn hf
          refine al_C7 C hK hP c3 dX5_lowestLike_27 ?_
          refine lv_aload_n hx hb dX5_lowestLike_28 rfl (lv_at hl 2 rfl) ?_
          obtain ⟨v5, h4, hf⟩ := b1_some hf
          refine hc_V (As := [.ref (ad (12 + x2))]) (rest := []) C hK (c_X3_isLike l D ct ad F hG (Int32.toNatClampNeg x3) x2 S0 (inN c3 (by decide)) hk_x2 v5 h4) hl.1 cp_X3_isLike mw_4_64 (rc_X3 hK hP (inN c3 (by decide))) hP hS ⟨rfl, rfl⟩ ⟨Nat.le_of_ble_eq_true rfl, Nat.le_of_ble_eq_true rfl⟩ rfl rfl (Nat.le_of_ble_eq_true rfl) dX5_lowestLike_29 ⟨Nat.le_of_ble_eq_true rfl, Nat.le_of_ble_eq_true rfl⟩ (fun H locs hP hS => ?_)
          refine lv_if_eq (tgt := 37) hx hb dX5_lowestLike_32 (by decide) (fun c6 => ?_) (fun c6 => ?_)
          · have hf := sp1 c6 hf
            refine lv_iinc (v := (x3 + 1)) (lv' := [(3, .int (x3 + 1)), (0, .ref (ad 1)), (1, .int x1), (2, .ref (ad (12 + x2)))]) hx hb dX5_lowestLike_37 hl (k := 3) rfl rfl (by decide) rfl (fun ls hl => ?_)
            refine lv_goto (tgt := 8) hx hb dX5_lowestLike_40 (by decide) ?_
            exact hk_8 x1 x2 (x3 + 1) hk_x2 _ _ _ (lv_sub hl [1, 2, 3, 0] rfl) hP hS hf
          · have hf := sp0 c6 hf
            refine lv_iload_n hx hb dX5_lowestLike_35 rfl (lv_at hl 3 rfl) ?_
            cases hf
            subst hQ
            exact he_i C hP hS dX5_lowestLike_36
    exact aux FU
  refine lv_aload_n hx hb dX5_lowestLike_0 rfl (lv_at hl 0 rfl) ?_
  refine lv_iload_n hx hb dX5_lowestLike_1 rfl (lv_at hl 1 rfl) ?_
  obtain ⟨v8, h7, hf⟩ := b1_some hf
  refine hc_V (As := [.int p0]) (rest := []) C hK (c_X5_numbered l D ct ad F hG p0 S0  v8 h7) hl.1 cp_X5_numbered mw_2_39 (rc_X5 hK hP) hP hS ⟨rfl, rfl⟩ ⟨Nat.le_of_ble_eq_true rfl, Nat.le_of_ble_eq_true rfl⟩ rfl rfl (Nat.le_of_ble_eq_true rfl) dX5_lowestLike_2 ⟨Nat.le_of_ble_eq_true rfl, Nat.le_of_ble_eq_true rfl⟩ (fun H locs hP hS => ?_)
  obtain ⟨c9, hf⟩ := spy hf
  refine lv_astore_n (lv' := [(2, .ref (ad (12 + v8))), (0, .ref (ad 1)), (1, .int p0)]) hx hb dX5_lowestLike_5 rfl hl (by decide) rfl (fun ls hl => ?_)
  refine lv_iconst (v := 0) hx hb dX5_lowestLike_6 (by decide) ?_
  refine lv_istore_n (lv' := [(3, .int 0), (2, .ref (ad (12 + v8))), (0, .ref (ad 1)), (1, .int p0)]) hx hb dX5_lowestLike_7 rfl hl (by decide) rfl (fun ls hl => ?_)
  exact w_8 p0 v8 0 c9 _ _ _ (lv_sub hl [2, 3, 1, 0] rfl) hP hS hf
theorem cp_X5_lowestLike : CPv yX5_lowestLike cX5_lowestLike 4 (some .int) 1 := ⟨mw_4_63, mw_1_2, mw_4_61, mw_4_62, by decide +kernel⟩
def rm_X5_splitsAt : Room := { frames := 4, cells := 0, slots := 0, locals := 129 }
set_option maxHeartbeats 4000000 in
set_option maxRecDepth 100000 in
theorem c_X5_splitsAt (l : Launch) (D : va_G) (ct : Nat → ClassId) (ad : Nat → Nat) (F : Nat → Prop) (hG : Gd ad 70 F) (p0 : Nat) (p1 : Nat) (S0 : St) (hk_p0 : p0 < 42) (hk_p1 : p1 < 42) (r : Int32) (S' : St) (hf : f_X5_splitsAt p0 p1 S0 = some (r, S')) : MetH l yX5_splitsAt cX5_splitsAt 3 (some .int) rm_X5_splitsAt D (tysW ct) F [.ref (ad 1), .ref (ad (12 + p0)), .ref (ad (12 + p1))] (some (.int r)) (cellsC ct ad S0) (cellsC ct ad S') := by
  refine MetH.of RX5 (by decide) rfl (Nat.le_of_ble_eq_true rfl) ?_
  intro p e s m args below meth c C hK hP ls hl
  have hl : lv_has ls 3 [(0, .ref (ad 1)), (1, .ref (ad (12 + p0))), (2, .ref (ad (12 + p1)))] := hl
  obtain ⟨hx, hb, hr, hml, hown, htL, hlocks⟩ := id C
  have hS : va_S F s.heap s.heap [] := va_S.rf
  generalize hQ : MQ below (Hq D (cellsC ct ad S') F (some (.int r))) args s 0 0 F = Q
  refine lv_aload_n hx hb dX5_splitsAt_0 rfl (lv_at hl 0 rfl) ?_
  refine lv_aload_n hx hb dX5_splitsAt_1 rfl (lv_at hl 0 rfl) ?_
  refine gf_X5_5 C hK hP mw_1_178 dX5_splitsAt_2 ?_
  refine lv_aload_n hx hb dX5_splitsAt_5 rfl (lv_at hl 1 rfl) ?_
  refine lv_aload_n hx hb dX5_splitsAt_6 rfl (lv_at hl 2 rfl) ?_
  refine lv_iconst (v := (-1)) hx hb dX5_splitsAt_7 (by decide) ?_
  obtain ⟨S2, h1, hf⟩ := b1_some hf
  refine hc_V (As := [.ref (ad (12 + 40)), .ref (ad (12 + p0)), .ref (ad (12 + p1)), .int (-1)]) (rest := []) C hK (c_X5_findSum l D ct ad F hG 40 p0 p1 (-1) S0 (by decide) hk_p0 hk_p1 S2 h1) hl.1 cp_X5_findSum mw_2_55 (rc_X5 hK hP) hP hS ⟨rfl, rfl⟩ ⟨Nat.le_of_ble_eq_true rfl, Nat.le_of_ble_eq_true rfl⟩ rfl rfl (Nat.le_of_ble_eq_true rfl) dX5_splitsAt_8 ⟨Nat.le_of_ble_eq_true rfl, Nat.le_of_ble_eq_true rfl⟩ (fun H locs hP hS => ?_)
  refine lv_aload_n hx hb dX5_splitsAt_11 rfl (lv_at hl 0 rfl) ?_
  refine gf_X5_5 C hK hP mw_1_178 dX5_splitsAt_12 ?_
  obtain ⟨v4, h3, hf⟩ := b1_some hf
  refine hc_V (As := []) (rest := []) C hK (c_X3_isNothing l D ct ad F hG 40 S2 (by decide) v4 h3) hl.1 cp_X3_isNothing mw_2_96 (rc_X3 hK hP (by decide)) hP hS ⟨rfl, rfl⟩ ⟨Nat.le_of_ble_eq_true rfl, Nat.le_of_ble_eq_true rfl⟩ rfl rfl (Nat.le_of_ble_eq_true rfl) dX5_splitsAt_15 ⟨Nat.le_of_ble_eq_true rfl, Nat.le_of_ble_eq_true rfl⟩ (fun H locs hP hS => ?_)
  refine lv_if_eq (tgt := 27) hx hb dX5_splitsAt_18 (by decide) (fun c5 => ?_) (fun c5 => ?_)
  · have hf := sp1 c5 hf
    refine lv_aload_n hx hb dX5_splitsAt_27 rfl (lv_at hl 0 rfl) ?_
    refine gf_X5_5 C hK hP mw_1_178 dX5_splitsAt_28 ?_
    refine gf_X3_8 C hK hP (by decide) mw_1_131 dX5_splitsAt_31 ?_
    cases hf
    subst hQ
    exact he_i C hP hS dX5_splitsAt_34
  · have hf := sp0 c5 hf
    refine lv_sipush (v := 1000) hx hb dX5_splitsAt_21 (by decide) ?_
    refine lv_goto (tgt := 34) hx hb dX5_splitsAt_24 (by decide) ?_
    cases hf
    subst hQ
    exact he_i C hP hS dX5_splitsAt_34
theorem cp_X5_splitsAt : CPv yX5_splitsAt cX5_splitsAt 3 (some .int) 2 := ⟨mw_2_54, mw_1_2, mw_2_52, mw_2_53, by decide +kernel⟩
def rm_X5_guessSpan : Room := { frames := 1, cells := 0, slots := 0, locals := 40 }
set_option maxHeartbeats 4000000 in
set_option maxRecDepth 100000 in
theorem c_X5_guessSpan (l : Launch) (D : va_G) (ct : Nat → ClassId) (ad : Nat → Nat) (F : Nat → Prop) (hG : Gd ad 70 F) (p0 : Nat) (S0 : St) (hk_p0 : p0 < 42) (r : Int32) (hf : f_X5_guessSpan p0 S0 = some r) : MetH l yX5_guessSpan cX5_guessSpan 2 (some .int) rm_X5_guessSpan D (tysW ct) F [.ref (ad 1), .ref (ad (12 + p0))] (some (.int r)) (cellsC ct ad S0) (cellsC ct ad S0) := by
  refine MetH.of RX5 (by decide) rfl (Nat.le_of_ble_eq_true rfl) ?_
  intro p e s m args below meth c C hK hP ls hl
  have hl : lv_has ls 2 [(0, .ref (ad 1)), (1, .ref (ad (12 + p0)))] := hl
  obtain ⟨hx, hb, hr, hml, hown, htL, hlocks⟩ := id C
  have hS : va_S F s.heap s.heap [] := va_S.rf
  generalize hQ : MQ below (Hq D (cellsC ct ad S0) F (some (.int r))) args s 0 0 F = Q
  refine lv_aload_n hx hb dX5_guessSpan_0 rfl (lv_at hl 1 rfl) ?_
  refine gf_X3_9 C hK hP hk_p0 mw_1_133 dX5_guessSpan_1 ?_
  refine lv_aload_n hx hb dX5_guessSpan_4 rfl (lv_at hl 0 rfl) ?_
  refine gf_X5_0 C hK hP mw_1_169 dX5_guessSpan_5 ?_
  refine gf_X2_1 C hK hP mw_1_55 dX5_guessSpan_8 ?_
  refine va_mmin (ls := _) hx hb (hml.trans hl.1.symm) hown (htL _ mw_2_59) (htL _ mw_2_60) (htL _ mw_1_17) (htL _ mw_2_61) (Nat.le_of_ble_eq_true rfl) (Nat.le_of_ble_eq_true rfl) (Nat.le_of_ble_eq_true rfl) (Nat.le_of_ble_eq_true rfl) dX5_guessSpan_11 ?_
  cases hf
  subst hQ
  exact he_i C hP hS dX5_guessSpan_14
theorem cp_X5_guessSpan : CPv yX5_guessSpan cX5_guessSpan 2 (some .int) 1 := ⟨mw_4_99, mw_1_2, mw_4_98, ms_28, by decide +kernel⟩
def rm_X5_guessedBottom : Room := { frames := 3, cells := 0, slots := 0, locals := 93 }
set_option maxHeartbeats 4000000 in
set_option maxRecDepth 100000 in
theorem c_X5_guessedBottom (l : Launch) (D : va_G) (ct : Nat → ClassId) (ad : Nat → Nat) (F : Nat → Prop) (hG : Gd ad 70 F) (p0 : Nat) (S0 : St) (hk_p0 : p0 < 42) (r : Int64) (hf : f_X5_guessedBottom p0 S0 = some r) : MetH l yX5_guessedBottom cX5_guessedBottom 20 (some .long) rm_X5_guessedBottom D (tysW ct) F [.ref (ad 1), .ref (ad (12 + p0))] (some (.long r)) (cellsC ct ad S0) (cellsC ct ad S0) := by
  refine MetH.of RX5 (by decide) rfl (Nat.le_of_ble_eq_true rfl) ?_
  intro p e s m args below meth c C hK hP ls hl
  have hl : lv_has ls 20 [(0, .ref (ad 1)), (1, .ref (ad (12 + p0)))] := hl
  obtain ⟨hx, hb, hr, hml, hown, htL, hlocks⟩ := id C
  have hS : va_S F s.heap s.heap [] := va_S.rf
  generalize hQ : MQ below (Hq D (cellsC ct ad S0) F (some (.long r))) args s 0 0 F = Q
  have w_171 : ∀ (x13 : Int64) (x15 : Int32) (y0 : Int32), ∀ (H : Heap) (locs : List Loc) (ls : Array Slot), lv_has ls 20 [(13, .long x13), (15, .int x15)] → va_P D vwCl (cellsC ct ad S0) H → va_S F s.heap H locs → n_X5_guessedBottom_171 S0 x13 x15 y0 = some r → W p l e rm_X5_guessedBottom s m args below meth c H locs 0 0 Q (F0 m 171 ls [.int y0]) := by
    intro  x13 x15 y0 H locs ls hl hP hS hf
    refine lv_istore (lv' := [(16, .int y0), (13, .long x13), (15, .int x15)]) hx hb dX5_guessedBottom_171 hl (by decide) rfl (fun ls hl => ?_)
    refine lv_iload hx hb dX5_guessedBottom_173 (lv_at hl 2 rfl) ?_
    refine lv_if_eq (tgt := 188) hx hb dX5_guessedBottom_175 (by decide) (fun c1 => ?_) (fun c1 => ?_)
    · have hf := sp1 c1 hf
      refine lv_lconst (v := 0) hx hb dX5_guessedBottom_188 (by decide) ?_
      cases hf
      subst hQ
      exact he_l C hP hS dX5_guessedBottom_189
    · have hf := sp0 c1 hf
      refine lv_iload hx hb dX5_guessedBottom_178 (lv_at hl 0 rfl) ?_
      refine lv_if_eq (tgt := 188) hx hb dX5_guessedBottom_180 (by decide) (fun c2 => ?_) (fun c2 => ?_)
      · have hf := sp1 c2 hf
        refine lv_lconst (v := 0) hx hb dX5_guessedBottom_188 (by decide) ?_
        cases hf
        subst hQ
        exact he_l C hP hS dX5_guessedBottom_189
      · have hf := sp0 c2 hf
        refine lv_lload hx hb dX5_guessedBottom_183 (lv_at hl 1 rfl) ?_
        refine lv_goto (tgt := 189) hx hb dX5_guessedBottom_185 (by decide) ?_
        cases hf
        subst hQ
        exact he_l C hP hS dX5_guessedBottom_189
  have w_134 : ∀ (x7 : Int64) (x13 : Int64) (y0 : Int32), ∀ (H : Heap) (locs : List Loc) (ls : Array Slot), lv_has ls 20 [(0, .ref (ad 1)), (7, .long x7), (13, .long x13)] → va_P D vwCl (cellsC ct ad S0) H → va_S F s.heap H locs → n_X5_guessedBottom_134 S0 x7 x13 y0 = some r → W p l e rm_X5_guessedBottom s m args below meth c H locs 0 0 Q (F0 m 134 ls [.int y0]) := by
    intro  x7 x13 y0 H locs ls hl hP hS hf
    refine lv_istore (lv' := [(15, .int y0), (0, .ref (ad 1)), (7, .long x7), (13, .long x13)]) hx hb dX5_guessedBottom_134 hl (by decide) rfl (fun ls hl => ?_)
    refine lv_lload hx hb dX5_guessedBottom_136 (lv_at hl 2 rfl) ?_
    refine lv_lload hx hb dX5_guessedBottom_138 (lv_at hl 3 rfl) ?_
    obtain ⟨v3, h4, hf⟩ := b1_some hf
    refine pc_S (As := [.long x7, .long x13]) (rest := []) C (c_X8_greatestCommon l x7 x13 v3 h4) hl.1 cp_X8_greatestCommon mw_4_103 ⟨rfl, rfl⟩ ⟨Nat.le_of_ble_eq_true rfl, Nat.le_of_ble_eq_true rfl⟩ rfl rfl (Nat.le_of_ble_eq_true rfl) dX5_guessedBottom_140 ⟨Nat.le_of_ble_eq_true rfl, Nat.le_of_ble_eq_true rfl⟩ ?_
    refine lv_lconst (v := 1) hx hb dX5_guessedBottom_143 (by decide) ?_
    refine W.lcmp hx hb dX5_guessedBottom_144 ?_
    refine lv_if_ne (tgt := 170) hx hb dX5_guessedBottom_145 (by decide) (fun c5 => ?_) (fun c5 => ?_)
    · have hf := sp0 c5 hf
      refine lv_iconst (v := 0) hx hb dX5_guessedBottom_170 (by decide) ?_
      exact w_171 x13 y0 0 _ _ _ (lv_sub hl [3, 0] rfl) hP hS hf
    · have hf := sp1 c5 hf
      refine lv_lload hx hb dX5_guessedBottom_148 (lv_at hl 3 rfl) ?_
      refine lv_aload_n hx hb dX5_guessedBottom_150 rfl (lv_at hl 1 rfl) ?_
      refine gf_X5_0 C hK hP mw_1_169 dX5_guessedBottom_151 ?_
      refine gf_X2_0 C hK hP mw_1_52 dX5_guessedBottom_154 ?_
      refine lv_i2l hx hb dX5_guessedBottom_157 rfl ?_
      obtain ⟨v6, h7, hf⟩ := b1_some hf
      refine pc_S (As := [.long x13, .long (Int32.toInt64 (S0.1 3 0))]) (rest := []) C (c_X8_rest l x13 (Int32.toInt64 (S0.1 3 0)) v6 h7) hl.1 cp_X8_rest mw_2_82 ⟨rfl, rfl⟩ ⟨Nat.le_of_ble_eq_true rfl, Nat.le_of_ble_eq_true rfl⟩ rfl rfl (Nat.le_of_ble_eq_true rfl) dX5_guessedBottom_158 ⟨Nat.le_of_ble_eq_true rfl, Nat.le_of_ble_eq_true rfl⟩ ?_
      refine lv_lconst (v := 0) hx hb dX5_guessedBottom_161 (by decide) ?_
      refine W.lcmp hx hb dX5_guessedBottom_162 ?_
      refine lv_if_eq (tgt := 170) hx hb dX5_guessedBottom_163 (by decide) (fun c8 => ?_) (fun c8 => ?_)
      · have hf := sp1 c8 hf
        refine lv_iconst (v := 0) hx hb dX5_guessedBottom_170 (by decide) ?_
        exact w_171 x13 y0 0 _ _ _ (lv_sub hl [3, 0] rfl) hP hS hf
      · have hf := sp0 c8 hf
        refine lv_iconst (v := 1) hx hb dX5_guessedBottom_166 (by decide) ?_
        refine lv_goto (tgt := 171) hx hb dX5_guessedBottom_167 (by decide) ?_
        exact w_171 x13 y0 1 _ _ _ (lv_sub hl [3, 0] rfl) hP hS hf
  have w_108 : ∀ (x3 : Int64) (x7 : Int64) (x11 : Int64), ∀ (H : Heap) (locs : List Loc) (ls : Array Slot), lv_has ls 20 [(0, .ref (ad 1)), (3, .long x3), (7, .long x7), (11, .long x11)] → va_P D vwCl (cellsC ct ad S0) H → va_S F s.heap H locs → n_X5_guessedBottom_108 S0 x3 x7 x11 = some r → W p l e rm_X5_guessedBottom s m args below meth c H locs 0 0 Q (F0 m 108 ls []) := by
    intro  x3 x7 x11 H locs ls hl hP hS hf
    refine lv_lload hx hb dX5_guessedBottom_108 (lv_at hl 3 rfl) ?_
    refine va_mabs_long (ls := _) hx hb (hml.trans hl.1.symm) hown (htL _ mw_4_100) (htL _ mw_4_101) (htL _ mw_1_17) (htL _ mw_4_102) (Nat.le_of_ble_eq_true rfl) (Nat.le_of_ble_eq_true rfl) (Nat.le_of_ble_eq_true rfl) (Nat.le_of_ble_eq_true rfl) dX5_guessedBottom_110 ?_
    refine lv_lstore (lv' := [(13, .long (abL x11)), (0, .ref (ad 1)), (3, .long x3), (7, .long x7), (11, .long x11)]) hx hb dX5_guessedBottom_113 hl (by decide) rfl (fun ls hl => ?_)
    refine lv_ldc2 (v := 2) hx hb hown (htL _ mw_3_65) dX5_guessedBottom_115 ?_
    refine lv_lload hx hb dX5_guessedBottom_118 (lv_at hl 0 rfl) ?_
    refine lv_lmul hx hb dX5_guessedBottom_120 ?_
    refine lv_lload hx hb dX5_guessedBottom_121 (lv_at hl 0 rfl) ?_
    refine lv_lmul hx hb dX5_guessedBottom_123 ?_
    refine lv_lload_n hx hb dX5_guessedBottom_124 rfl (lv_at hl 2 rfl) ?_
    refine W.lcmp hx hb dX5_guessedBottom_125 ?_
    refine lv_if_ge (tgt := 133) hx hb dX5_guessedBottom_126 (by decide) (fun c9 => ?_) (fun c9 => ?_)
    · have hf := sp1 c9 hf
      refine lv_iconst (v := 0) hx hb dX5_guessedBottom_133 (by decide) ?_
      exact w_134 x7 (abL x11) 0 _ _ _ (lv_sub hl [1, 3, 0] rfl) hP hS hf
    · have hf := sp0 c9 hf
      refine lv_iconst (v := 1) hx hb dX5_guessedBottom_129 (by decide) ?_
      refine lv_goto (tgt := 134) hx hb dX5_guessedBottom_130 (by decide) ?_
      exact w_134 x7 (abL x11) 1 _ _ _ (lv_sub hl [1, 3, 0] rfl) hP hS hf
  have w_36 : ∀ (x3 : Int64) (x5 : Int64) (x7 : Int64) (x9 : Int64) (x11 : Int64) (x13 : Int32), ∀ (H : Heap) (locs : List Loc) (ls : Array Slot), lv_has ls 20 [(0, .ref (ad 1)), (3, .long x3), (5, .long x5), (7, .long x7), (9, .long x9), (11, .long x11), (13, .int x13)] → va_P D vwCl (cellsC ct ad S0) H → va_S F s.heap H locs → n_X5_guessedBottom_36 S0 x3 x5 x7 x9 x11 x13 = some r → W p l e rm_X5_guessedBottom s m args below meth c H locs 0 0 Q (F0 m 36 ls []) := by
    have aux : ∀ (n : Nat), ∀ (x3 : Int64) (x5 : Int64) (x7 : Int64) (x9 : Int64) (x11 : Int64) (x13 : Int32), ∀ (H : Heap) (locs : List Loc) (ls : Array Slot), lv_has ls 20 [(0, .ref (ad 1)), (3, .long x3), (5, .long x5), (7, .long x7), (9, .long x9), (11, .long x11), (13, .int x13)] → va_P D vwCl (cellsC ct ad S0) H → va_S F s.heap H locs → itr (fun (q : Int64 × Int64 × Int64 × Int64 × Int64 × Int32) k => s_X5_guessedBottom_36  (fun (x3 : Int64) (x5 : Int64) (x7 : Int64) (x9 : Int64) (x11 : Int64) (x13 : Int32) => k (x3, x5, x7, x9, x11, x13)) S0 q.1 q.2.1 q.2.2.1 q.2.2.2.1 q.2.2.2.2.1 q.2.2.2.2.2) n (x3, x5, x7, x9, x11, x13) = some r → W p l e rm_X5_guessedBottom s m args below meth c H locs 0 0 Q (F0 m 36 ls []) := by
      intro n
      induction n with
      | zero => intro x3 x5 x7 x9 x11 x13 H locs ls hl hP hS hf; exact (itr_z hf).elim
      | succ n ih =>
      intro x3 x5 x7 x9 x11 x13 H locs ls hl hP hS hf
      have hk_36 := ih
      have hf : s_X5_guessedBottom_36  (fun (x3 : Int64) (x5 : Int64) (x7 : Int64) (x9 : Int64) (x11 : Int64) (x13 : Int32) => itr (fun (q : Int64 × Int64 × Int64 × Int64 × Int64 × Int32) k => s_X5_guessedBottom_36  (fun (x3 : Int64) (x5 : Int64) (x7 : Int64) (x9 : Int64) (x11 : Int64) (x13 : Int32) => k (x3, x5, x7, x9, x11, x13)) S0 q.1 q.2.1 q.2.2.1 q.2.2.2.1 q.2.2.2.2.1 q.2.2.2.2.2) n (x3, x5, x7, x9, x11, x13)) S0 x3 x5 x7 x9 x11 x13 = some r := hf
      refine lv_iload hx hb dX5_guessedBottom_36 (lv_at hl 6 rfl) ?_
      refine lv_bipush (v := 100) hx hb dX5_guessedBottom_38 (by decide) ?_
      refine lv_icmp_ge (tgt := 108) hx hb dX5_guessedBottom_40 (by decide) (fun c10 => ?_) (fun c10 => ?_)
      · have hf := sp1 c10 hf
        exact w_108 x3 x7 x11 _ _ _ (lv_sub hl [0, 1, 3, 5] rfl) hP hS hf
      · have hf := sp0 c10 hf
        refine lv_ldc2 (v := 2) hx hb hown (htL _ mw_3_65) dX5_guessedBottom_43 ?_
        refine lv_lload hx hb dX5_guessedBottom_46 (lv_at hl 3 rfl) ?_
        refine lv_lmul hx hb dX5_guessedBottom_48 ?_
        refine lv_lload hx hb dX5_guessedBottom_49 (lv_at hl 3 rfl) ?_
        refine lv_lmul hx hb dX5_guessedBottom_51 ?_
        refine lv_lload_n hx hb dX5_guessedBottom_52 rfl (lv_at hl 1 rfl) ?_
        refine W.lcmp hx hb dX5_guessedBottom_53 ?_
        refine lv_if_lt (tgt := 108) hx hb dX5_guessedBottom_54 (by decide) (fun c11 => ?_) (fun c11 => ?_)
        · have hf := sp1 c11 hf
          exact w_108 x3 x7 x11 _ _ _ (lv_sub hl [0, 1, 3, 5] rfl) hP hS hf
        · have hf := sp0 c11 hf
          refine lv_lload hx hb dX5_guessedBottom_57 (lv_at hl 2 rfl) ?_
          refine lv_lload hx hb dX5_guessedBottom_59 (lv_at hl 3 rfl) ?_
          obtain ⟨v12, h13, hf⟩ := b1_some hf
          refine pc_S (As := [.long x5, .long x7]) (rest := []) C (c_X8_part l x5 x7 v12 h13) hl.1 cp_X8_part mw_3_103 ⟨rfl, rfl⟩ ⟨Nat.le_of_ble_eq_true rfl, Nat.le_of_ble_eq_true rfl⟩ rfl rfl (Nat.le_of_ble_eq_true rfl) dX5_guessedBottom_61 ⟨Nat.le_of_ble_eq_true rfl, Nat.le_of_ble_eq_true rfl⟩ ?_
          refine lv_lstore (lv' := [(14, .long v12), (0, .ref (ad 1)), (3, .long x3), (5, .long x5), (7, .long x7), (9, .long x9), (11, .long x11), (13, .int x13)]) hx hb dX5_guessedBottom_64 hl (by decide) rfl (fun ls hl => ?_)
          refine lv_lload hx hb dX5_guessedBottom_66 (lv_at hl 3 rfl) ?_
          refine lv_lload hx hb dX5_guessedBottom_68 (lv_at hl 0 rfl) ?_
          refine lv_lload hx hb dX5_guessedBottom_70 (lv_at hl 4 rfl) ?_
          refine lv_lmul hx hb dX5_guessedBottom_72 ?_
          refine lv_lsub hx hb dX5_guessedBottom_73 ?_
          refine lv_lstore (lv' := [(16, .long (x5 - (v12 * x7))), (14, .long v12), (0, .ref (ad 1)), (3, .long x3), (5, .long x5), (7, .long x7), (9, .long x9), (11, .long x11), (13, .int x13)]) hx hb dX5_guessedBottom_74 hl (by decide) rfl (fun ls hl => ?_)
          refine lv_lload hx hb dX5_guessedBottom_76 (lv_at hl 6 rfl) ?_
          refine lv_lload hx hb dX5_guessedBottom_78 (lv_at hl 1 rfl) ?_
          refine lv_lload hx hb dX5_guessedBottom_80 (lv_at hl 7 rfl) ?_
          refine lv_lmul hx hb dX5_guessedBottom_82 ?_
          refine lv_lsub hx hb dX5_guessedBottom_83 ?_
          refine lv_lstore (lv' := [(18, .long (x9 - (v12 * x11))), (16, .long (x5 - (v12 * x7))), (14, .long v12), (0, .ref (ad 1)), (3, .long x3), (5, .long x5), (7, .long x7), (9, .long x9), (11, .long x11), (13, .int x13)]) hx hb dX5_guessedBottom_84 hl (by decide) rfl (fun ls hl => ?_)
          refine lv_lload hx hb dX5_guessedBottom_86 (lv_at hl 6 rfl) ?_
          refine lv_lstore (lv' := [(5, .long x7), (18, .long (x9 - (v12 * x11))), (16, .long (x5 - (v12 * x7))), (14, .long v12), (0, .ref (ad 1)), (3, .long x3), (7, .long x7), (9, .long x9), (11, .long x11), (13, .int x13)]) hx hb dX5_guessedBottom_88 hl (by decide) rfl (fun ls hl => ?_)
          refine lv_lload hx hb dX5_guessedBottom_90 (lv_at hl 8 rfl) ?_
          refine lv_lstore (lv' := [(9, .long x11), (5, .long x7), (18, .long (x9 - (v12 * x11))), (16, .long (x5 - (v12 * x7))), (14, .long v12), (0, .ref (ad 1)), (3, .long x3), (7, .long x7), (11, .long x11), (13, .int x13)]) hx hb dX5_guessedBottom_92 hl (by decide) rfl (fun ls hl => ?_)
          refine lv_lload hx hb dX5_guessedBottom_94 (lv_at hl 3 rfl) ?_
          refine lv_lstore (lv' := [(7, .long (x5 - (v12 * x7))), (9, .long x11), (5, .long x7), (18, .long (x9 - (v12 * x11))), (16, .long (x5 - (v12 * x7))), (14, .long v12), (0, .ref (ad 1)), (3, .long x3), (11, .long x11), (13, .int x13)]) hx hb dX5_guessedBottom_96 hl (by decide) rfl (fun ls hl => ?_)
          refine lv_lload hx hb dX5_guessedBottom_98 (lv_at hl 3 rfl) ?_
          refine lv_lstore (lv' := [(11, .long (x9 - (v12 * x11))), (7, .long (x5 - (v12 * x7))), (9, .long x11), (5, .long x7), (18, .long (x9 - (v12 * x11))), (16, .long (x5 - (v12 * x7))), (14, .long v12), (0, .ref (ad 1)), (3, .long x3), (13, .int x13)]) hx hb dX5_guessedBottom_100 hl (by decide) rfl (fun ls hl => ?_)
          refine lv_iinc (v := (x13 + 1)) (lv' := [(13, .int (x13 + 1)), (11, .long (x9 - (v12 * x11))), (7, .long (x5 - (v12 * x7))), (9, .long x11), (5, .long x7), (18, .long (x9 - (v12 * x11))), (16, .long (x5 - (v12 * x7))), (14, .long v12), (0, .ref (ad 1)), (3, .long x3)]) hx hb dX5_guessedBottom_102 hl (k := 9) rfl rfl (by decide) rfl (fun ls hl => ?_)
          refine lv_goto (tgt := 36) hx hb dX5_guessedBottom_105 (by decide) ?_
          exact hk_36 x3 x7 (x5 - (v12 * x7)) x11 (x9 - (v12 * x11)) (x13 + 1) _ _ _ (lv_sub hl [8, 9, 4, 2, 3, 1, 0] rfl) hP hS hf
    exact aux FU
  refine lv_aload_n hx hb dX5_guessedBottom_0 rfl (lv_at hl 0 rfl) ?_
  refine lv_aload_n hx hb dX5_guessedBottom_1 rfl (lv_at hl 1 rfl) ?_
  obtain ⟨v15, h14, hf⟩ := b1_some hf
  refine hc_V (As := [.ref (ad (12 + p0))]) (rest := []) C hK (c_X5_guessSpan l D ct ad F hG p0 S0 hk_p0 v15 h14) hl.1 cp_X5_guessSpan mw_4_96 (rc_X5 hK hP) hP hS ⟨rfl, rfl⟩ ⟨Nat.le_of_ble_eq_true rfl, Nat.le_of_ble_eq_true rfl⟩ rfl rfl (Nat.le_of_ble_eq_true rfl) dX5_guessedBottom_2 ⟨Nat.le_of_ble_eq_true rfl, Nat.le_of_ble_eq_true rfl⟩ (fun H locs hP hS => ?_)
  refine lv_istore_n (lv' := [(2, .int v15), (0, .ref (ad 1)), (1, .ref (ad (12 + p0)))]) hx hb dX5_guessedBottom_5 rfl hl (by decide) rfl (fun ls hl => ?_)
  refine lv_aload_n hx hb dX5_guessedBottom_6 rfl (lv_at hl 1 rfl) ?_
  refine gf_X5_0 C hK hP mw_1_169 dX5_guessedBottom_7 ?_
  refine lv_iload_n hx hb dX5_guessedBottom_10 rfl (lv_at hl 0 rfl) ?_
  obtain ⟨v17, h16, hf⟩ := b1_some hf
  refine hc_V (As := [.int v15]) (rest := []) C hK (c_X2_power l D ct ad F hG v15 S0  v17 h16) hl.1 cp_X2_power mw_2_66 (rc_X2 hK hP) hP hS ⟨rfl, rfl⟩ ⟨Nat.le_of_ble_eq_true rfl, Nat.le_of_ble_eq_true rfl⟩ rfl rfl (Nat.le_of_ble_eq_true rfl) dX5_guessedBottom_11 ⟨Nat.le_of_ble_eq_true rfl, Nat.le_of_ble_eq_true rfl⟩ (fun H locs hP hS => ?_)
  refine lv_lstore_n (lv' := [(3, .long v17), (2, .int v15), (0, .ref (ad 1)), (1, .ref (ad (12 + p0)))]) hx hb dX5_guessedBottom_14 rfl hl (by decide) rfl (fun ls hl => ?_)
  refine lv_lload_n hx hb dX5_guessedBottom_15 rfl (lv_at hl 0 rfl) ?_
  refine lv_lstore (lv' := [(5, .long v17), (3, .long v17), (2, .int v15), (0, .ref (ad 1)), (1, .ref (ad (12 + p0)))]) hx hb dX5_guessedBottom_16 hl (by decide) rfl (fun ls hl => ?_)
  refine lv_aload_n hx hb dX5_guessedBottom_18 rfl (lv_at hl 3 rfl) ?_
  refine lv_aload_n hx hb dX5_guessedBottom_19 rfl (lv_at hl 4 rfl) ?_
  refine lv_iconst (v := 0) hx hb dX5_guessedBottom_20 (by decide) ?_
  refine lv_iload_n hx hb dX5_guessedBottom_21 rfl (lv_at hl 2 rfl) ?_
  obtain ⟨v19, h18, hf⟩ := b1_some hf
  refine hc_V (As := [.ref (ad (12 + p0)), .int 0, .int v15]) (rest := []) C hK (c_X5_wholeFrom l D ct ad F hG p0 0 v15 S0 hk_p0 v19 h18) hl.1 cp_X5_wholeFrom mw_2_62 (rc_X5 hK hP) hP hS ⟨rfl, rfl⟩ ⟨Nat.le_of_ble_eq_true rfl, Nat.le_of_ble_eq_true rfl⟩ rfl rfl (Nat.le_of_ble_eq_true rfl) dX5_guessedBottom_22 ⟨Nat.le_of_ble_eq_true rfl, Nat.le_of_ble_eq_true rfl⟩ (fun H locs hP hS => ?_)
  refine lv_lstore (lv' := [(7, .long v19), (5, .long v17), (3, .long v17), (2, .int v15), (0, .ref (ad 1)), (1, .ref (ad (12 + p0)))]) hx hb dX5_guessedBottom_25 hl (by decide) rfl (fun ls hl => ?_)
  refine lv_lconst (v := 0) hx hb dX5_guessedBottom_27 (by decide) ?_
  refine lv_lstore (lv' := [(9, .long 0), (7, .long v19), (5, .long v17), (3, .long v17), (2, .int v15), (0, .ref (ad 1)), (1, .ref (ad (12 + p0)))]) hx hb dX5_guessedBottom_28 hl (by decide) rfl (fun ls hl => ?_)
  refine lv_lconst (v := 1) hx hb dX5_guessedBottom_30 (by decide) ?_
  refine lv_lstore (lv' := [(11, .long 1), (9, .long 0), (7, .long v19), (5, .long v17), (3, .long v17), (2, .int v15), (0, .ref (ad 1)), (1, .ref (ad (12 + p0)))]) hx hb dX5_guessedBottom_31 hl (by decide) rfl (fun ls hl => ?_)
  refine lv_iconst (v := 0) hx hb dX5_guessedBottom_33 (by decide) ?_
  refine lv_istore (lv' := [(13, .int 0), (11, .long 1), (9, .long 0), (7, .long v19), (5, .long v17), (3, .long v17), (2, .int v15), (0, .ref (ad 1)), (1, .ref (ad (12 + p0)))]) hx hb dX5_guessedBottom_34 hl (by decide) rfl (fun ls hl => ?_)
  exact w_36 v17 v17 v19 0 1 0 _ _ _ (lv_sub hl [7, 5, 4, 3, 2, 1, 0] rfl) hP hS hf
theorem cp_X5_guessedBottom : CPv yX5_guessedBottom cX5_guessedBottom 20 (some .long) 1 := ⟨mw_4_95, mw_1_2, mw_4_93, mw_4_94, by decide +kernel⟩
def rm_X5_guessedTop : Room := { frames := 3, cells := 0, slots := 0, locals := 93 }
set_option maxHeartbeats 4000000 in
set_option maxRecDepth 100000 in
theorem c_X5_guessedTop (l : Launch) (D : va_G) (ct : Nat → ClassId) (ad : Nat → Nat) (F : Nat → Prop) (hG : Gd ad 70 F) (p0 : Nat) (p1 : Int64) (S0 : St) (hk_p0 : p0 < 42) (r : Int64) (hf : f_X5_guessedTop p0 p1 S0 = some r) : MetH l yX5_guessedTop cX5_guessedTop 9 (some .long) rm_X5_guessedTop D (tysW ct) F [.ref (ad 1), .ref (ad (12 + p0)), .long p1] (some (.long r)) (cellsC ct ad S0) (cellsC ct ad S0) := by
  refine MetH.of RX5 (by decide) rfl (Nat.le_of_ble_eq_true rfl) ?_
  intro p e s m args below meth c C hK hP ls hl
  have hl : lv_has ls 9 [(0, .ref (ad 1)), (1, .ref (ad (12 + p0))), (2, .long p1)] := hl
  obtain ⟨hx, hb, hr, hml, hown, htL, hlocks⟩ := id C
  have hS : va_S F s.heap s.heap [] := va_S.rf
  generalize hQ : MQ below (Hq D (cellsC ct ad S0) F (some (.long r))) args s 0 0 F = Q
  refine lv_aload_n hx hb dX5_guessedTop_0 rfl (lv_at hl 0 rfl) ?_
  refine lv_aload_n hx hb dX5_guessedTop_1 rfl (lv_at hl 1 rfl) ?_
  obtain ⟨v2, h1, hf⟩ := b1_some hf
  refine hc_V (As := [.ref (ad (12 + p0))]) (rest := []) C hK (c_X5_guessSpan l D ct ad F hG p0 S0 hk_p0 v2 h1) hl.1 cp_X5_guessSpan mw_4_96 (rc_X5 hK hP) hP hS ⟨rfl, rfl⟩ ⟨Nat.le_of_ble_eq_true rfl, Nat.le_of_ble_eq_true rfl⟩ rfl rfl (Nat.le_of_ble_eq_true rfl) dX5_guessedTop_2 ⟨Nat.le_of_ble_eq_true rfl, Nat.le_of_ble_eq_true rfl⟩ (fun H locs hP hS => ?_)
  refine lv_istore (lv' := [(4, .int v2), (0, .ref (ad 1)), (1, .ref (ad (12 + p0))), (2, .long p1)]) hx hb dX5_guessedTop_5 hl (by decide) rfl (fun ls hl => ?_)
  refine lv_aload_n hx hb dX5_guessedTop_7 rfl (lv_at hl 1 rfl) ?_
  refine gf_X5_0 C hK hP mw_1_169 dX5_guessedTop_8 ?_
  refine lv_iload hx hb dX5_guessedTop_11 (lv_at hl 0 rfl) ?_
  obtain ⟨v4, h3, hf⟩ := b1_some hf
  refine hc_V (As := [.int v2]) (rest := []) C hK (c_X2_power l D ct ad F hG v2 S0  v4 h3) hl.1 cp_X2_power mw_2_66 (rc_X2 hK hP) hP hS ⟨rfl, rfl⟩ ⟨Nat.le_of_ble_eq_true rfl, Nat.le_of_ble_eq_true rfl⟩ rfl rfl (Nat.le_of_ble_eq_true rfl) dX5_guessedTop_13 ⟨Nat.le_of_ble_eq_true rfl, Nat.le_of_ble_eq_true rfl⟩ (fun H locs hP hS => ?_)
  refine lv_lstore (lv' := [(5, .long v4), (4, .int v2), (0, .ref (ad 1)), (1, .ref (ad (12 + p0))), (2, .long p1)]) hx hb dX5_guessedTop_16 hl (by decide) rfl (fun ls hl => ?_)
  refine lv_lload_n hx hb dX5_guessedTop_18 rfl (lv_at hl 4 rfl) ?_
  refine lv_aload_n hx hb dX5_guessedTop_19 rfl (lv_at hl 2 rfl) ?_
  refine lv_aload_n hx hb dX5_guessedTop_20 rfl (lv_at hl 3 rfl) ?_
  refine lv_iconst (v := 0) hx hb dX5_guessedTop_21 (by decide) ?_
  refine lv_iload hx hb dX5_guessedTop_22 (lv_at hl 1 rfl) ?_
  obtain ⟨v6, h5, hf⟩ := b1_some hf
  refine hc_V (As := [.ref (ad (12 + p0)), .int 0, .int v2]) (rest := [.long p1]) C hK (c_X5_wholeFrom l D ct ad F hG p0 0 v2 S0 hk_p0 v6 h5) hl.1 cp_X5_wholeFrom mw_2_62 (rc_X5 hK hP) hP hS ⟨rfl, rfl⟩ ⟨Nat.le_of_ble_eq_true rfl, Nat.le_of_ble_eq_true rfl⟩ rfl rfl (Nat.le_of_ble_eq_true rfl) dX5_guessedTop_24 ⟨Nat.le_of_ble_eq_true rfl, Nat.le_of_ble_eq_true rfl⟩ (fun H locs hP hS => ?_)
  refine lv_lload hx hb dX5_guessedTop_27 (lv_at hl 0 rfl) ?_
  obtain ⟨v7, h8, hf⟩ := b1_some hf
  refine pc_S (As := [.long p1, .long v6, .long v4]) (rest := []) C (c_X8_timesModulo l p1 v6 v4 v7 h8) hl.1 cp_X8_timesModulo mw_2_72 ⟨rfl, rfl⟩ ⟨Nat.le_of_ble_eq_true rfl, Nat.le_of_ble_eq_true rfl⟩ rfl rfl (Nat.le_of_ble_eq_true rfl) dX5_guessedTop_29 ⟨Nat.le_of_ble_eq_true rfl, Nat.le_of_ble_eq_true rfl⟩ ?_
  refine lv_lstore (lv' := [(7, .long v7), (5, .long v4), (4, .int v2), (0, .ref (ad 1)), (1, .ref (ad (12 + p0))), (2, .long p1)]) hx hb dX5_guessedTop_32 hl (by decide) rfl (fun ls hl => ?_)
  refine lv_ldc2 (v := 2) hx hb hown (htL _ mw_3_65) dX5_guessedTop_34 ?_
  refine lv_lload hx hb dX5_guessedTop_37 (lv_at hl 0 rfl) ?_
  refine lv_lmul hx hb dX5_guessedTop_39 ?_
  refine lv_lload hx hb dX5_guessedTop_40 (lv_at hl 1 rfl) ?_
  refine W.lcmp hx hb dX5_guessedTop_42 ?_
  refine lv_if_le (tgt := 54) hx hb dX5_guessedTop_43 (by decide) (fun c9 => ?_) (fun c9 => ?_)
  · have hf := sp1 c9 hf
    refine lv_lload hx hb dX5_guessedTop_54 (lv_at hl 0 rfl) ?_
    cases hf
    subst hQ
    exact he_l C hP hS dX5_guessedTop_56
  · have hf := sp0 c9 hf
    refine lv_lload hx hb dX5_guessedTop_46 (lv_at hl 0 rfl) ?_
    refine lv_lload hx hb dX5_guessedTop_48 (lv_at hl 1 rfl) ?_
    refine lv_lsub hx hb dX5_guessedTop_50 ?_
    refine lv_goto (tgt := 56) hx hb dX5_guessedTop_51 (by decide) ?_
    cases hf
    subst hQ
    exact he_l C hP hS dX5_guessedTop_56
theorem cp_X5_guessedTop : CPv yX5_guessedTop cX5_guessedTop 9 (some .long) 2 := ⟨mw_4_111, mw_1_2, mw_4_109, mw_4_110, by decide +kernel⟩
def rm_X5_nothingCount : Room := { frames := 1, cells := 0, slots := 0, locals := 24 }
set_option maxHeartbeats 4000000 in
set_option maxRecDepth 100000 in
theorem c_X5_nothingCount (l : Launch) (D : va_G) (ct : Nat → ClassId) (ad : Nat → Nat) (F : Nat → Prop) (hG : Gd ad 70 F)  (S0 : St)  (r : Int32) (hf : f_X5_nothingCount  S0 = some r) : MetH l yX5_nothingCount cX5_nothingCount 3 (some .int) rm_X5_nothingCount D (tysW ct) F [.ref (ad 1)] (some (.int r)) (cellsC ct ad S0) (cellsC ct ad S0) := by
  refine MetH.of RX5 (by decide) rfl (Nat.le_of_ble_eq_true rfl) ?_
  intro p e s m args below meth c C hK hP ls hl
  have hl : lv_has ls 3 [(0, .ref (ad 1))] := hl
  obtain ⟨hx, hb, hr, hml, hown, htL, hlocks⟩ := id C
  have hS : va_S F s.heap s.heap [] := va_S.rf
  generalize hQ : MQ below (Hq D (cellsC ct ad S0) F (some (.int r))) args s 0 0 F = Q
  have w_4 : ∀ (x1 : Int32) (x2 : Int32), ∀ (H : Heap) (locs : List Loc) (ls : Array Slot), lv_has ls 3 [(0, .ref (ad 1)), (1, .int x1), (2, .int x2)] → va_P D vwCl (cellsC ct ad S0) H → va_S F s.heap H locs → n_X5_nothingCount_4 S0 x1 x2 = some r → W p l e rm_X5_nothingCount s m args below meth c H locs 0 0 Q (F0 m 4 ls []) := by
    have aux : ∀ (n : Nat), ∀ (x1 : Int32) (x2 : Int32), ∀ (H : Heap) (locs : List Loc) (ls : Array Slot), lv_has ls 3 [(0, .ref (ad 1)), (1, .int x1), (2, .int x2)] → va_P D vwCl (cellsC ct ad S0) H → va_S F s.heap H locs → itr (fun (q : Int32 × Int32) k => s_X5_nothingCount_4  (fun (x1 : Int32) (x2 : Int32) => k (x1, x2)) S0 q.1 q.2) n (x1, x2) = some r → W p l e rm_X5_nothingCount s m args below meth c H locs 0 0 Q (F0 m 4 ls []) := by
      intro n
      induction n with
      | zero => intro x1 x2 H locs ls hl hP hS hf; exact (itr_z hf).elim
      | succ n ih =>
      intro x1 x2 H locs ls hl hP hS hf
      have hk_4 := ih
      have hf : s_X5_nothingCount_4  (fun (x1 : Int32) (x2 : Int32) => itr (fun (q : Int32 × Int32) k => s_X5_nothingCount_4  (fun (x1 : Int32) (x2 : Int32) => k (x1, x2)) S0 q.1 q.2) n (x1, x2)) S0 x1 x2 = some r := hf
      refine lv_iload_n hx hb dX5_nothingCount_4 rfl (lv_at hl 2 rfl) ?_
      refine lv_aload_n hx hb dX5_nothingCount_5 rfl (lv_at hl 0 rfl) ?_
      refine gf_X5_3 C hK hP mw_1_175 dX5_nothingCount_6 ?_
      refine lv_icmp_ge (tgt := 42) hx hb dX5_nothingCount_9 (by decide) (fun c1 => ?_) (fun c1 => ?_)
      · have hf := sp1 c1 hf
        refine lv_iload_n hx hb dX5_nothingCount_42 rfl (lv_at hl 1 rfl) ?_
        cases hf
        subst hQ
        exact he_i C hP hS dX5_nothingCount_43
      · have hf := sp0 c1 hf
        refine lv_iload_n hx hb dX5_nothingCount_12 rfl (lv_at hl 2 rfl) ?_
        refine lv_aload_n hx hb dX5_nothingCount_13 rfl (lv_at hl 0 rfl) ?_
        refine gf_X5_4 C hK hP mw_1_177 dX5_nothingCount_14 ?_
        refine an_C7 C hK hP dX5_nothingCount_17 ?_
        refine lv_icmp_ge (tgt := 42) hx hb dX5_nothingCount_18 (by decide) (fun c2 => ?_) (fun c2 => ?_)
        · have hf := sp1 c2 hf
          refine lv_iload_n hx hb dX5_nothingCount_42 rfl (lv_at hl 1 rfl) ?_
          cases hf
          subst hQ
          exact he_i C hP hS dX5_nothingCount_43
        · have hf := sp0 c2 hf
          refine lv_aload_n hx hb dX5_nothingCount_21 rfl (lv_at hl 0 rfl) ?_
          refine gf_X5_4 C hK hP mw_1_177 dX5_nothingCount_22 ?_
          refine lv_iload_n hx hb dX5_nothingCount_25 rfl (lv_at hl 2 rfl) ?_
          obtain ⟨c3, hf⟩ := spn hf
          refine al_C7 C hK hP c3 dX5_nothingCount_26 ?_
          obtain ⟨v5, h4, hf⟩ := b1_some hf
          refine hc_V (As := []) (rest := []) C hK (c_X3_isNothing l D ct ad F hG (Int32.toNatClampNeg x2) S0 (inN c3 (by decide)) v5 h4) hl.1 cp_X3_isNothing mw_2_96 (rc_X3 hK hP (inN c3 (by decide))) hP hS ⟨rfl, rfl⟩ ⟨Nat.le_of_ble_eq_true rfl, Nat.le_of_ble_eq_true rfl⟩ rfl rfl (Nat.le_of_ble_eq_true rfl) dX5_nothingCount_27 ⟨Nat.le_of_ble_eq_true rfl, Nat.le_of_ble_eq_true rfl⟩ (fun H locs hP hS => ?_)
          refine lv_if_eq (tgt := 36) hx hb dX5_nothingCount_30 (by decide) (fun c6 => ?_) (fun c6 => ?_)
          · have hf := sp1 c6 hf
            refine lv_iinc (v := (x2 + 1)) (lv' := [(2, .int (x2 + 1)), (0, .ref (ad 1)), (1, .int x1)]) hx hb dX5_nothingCount_36 hl (k := 2) rfl rfl (by decide) rfl (fun ls hl => ?_)
            refine lv_goto (tgt := 4) hx hb dX5_nothingCount_39 (by decide) ?_
            exact hk_4 x1 (x2 + 1) _ _ _ (lv_sub hl [1, 2, 0] rfl) hP hS hf
          · have hf := sp0 c6 hf
            refine lv_iinc (v := (x1 + 1)) (lv' := [(1, .int (x1 + 1)), (0, .ref (ad 1)), (2, .int x2)]) hx hb dX5_nothingCount_33 hl (k := 1) rfl rfl (by decide) rfl (fun ls hl => ?_)
            refine lv_iinc (v := (x2 + 1)) (lv' := [(2, .int (x2 + 1)), (1, .int (x1 + 1)), (0, .ref (ad 1))]) hx hb dX5_nothingCount_36 hl (k := 2) rfl rfl (by decide) rfl (fun ls hl => ?_)
            refine lv_goto (tgt := 4) hx hb dX5_nothingCount_39 (by decide) ?_
            exact hk_4 (x1 + 1) (x2 + 1) _ _ _ (lv_sub hl [2, 1, 0] rfl) hP hS hf
    exact aux FU
  refine lv_iconst (v := 0) hx hb dX5_nothingCount_0 (by decide) ?_
  refine lv_istore_n (lv' := [(1, .int 0), (0, .ref (ad 1))]) hx hb dX5_nothingCount_1 rfl hl (by decide) rfl (fun ls hl => ?_)
  refine lv_iconst (v := 0) hx hb dX5_nothingCount_2 (by decide) ?_
  refine lv_istore_n (lv' := [(2, .int 0), (1, .int 0), (0, .ref (ad 1))]) hx hb dX5_nothingCount_3 rfl hl (by decide) rfl (fun ls hl => ?_)
  exact w_4 0 0 _ _ _ (lv_sub hl [2, 1, 0] rfl) hP hS hf
theorem cp_X5_nothingCount : CPv yX5_nothingCount cX5_nothingCount 3 (some .int) 0 := ⟨mw_5_144, mw_1_2, mw_5_142, mw_5_143, by decide +kernel⟩
def rm_X5_digitCount : Room := { frames := 0, cells := 0, slots := 0, locals := 0 }
set_option maxHeartbeats 4000000 in
set_option maxRecDepth 100000 in
theorem c_X5_digitCount (l : Launch) (D : va_G) (ct : Nat → ClassId) (ad : Nat → Nat) (F : Nat → Prop) (hG : Gd ad 70 F)  (S0 : St)  (r : Int32) (hf : f_X5_digitCount  S0 = some r) : MetH l yX5_digitCount cX5_digitCount 3 (some .int) rm_X5_digitCount D (tysW ct) F [.ref (ad 1)] (some (.int r)) (cellsC ct ad S0) (cellsC ct ad S0) := by
  refine MetH.of RX5 (by decide) rfl (Nat.le_of_ble_eq_true rfl) ?_
  intro p e s m args below meth c C hK hP ls hl
  have hl : lv_has ls 3 [(0, .ref (ad 1))] := hl
  obtain ⟨hx, hb, hr, hml, hown, htL, hlocks⟩ := id C
  have hS : va_S F s.heap s.heap [] := va_S.rf
  generalize hQ : MQ below (Hq D (cellsC ct ad S0) F (some (.int r))) args s 0 0 F = Q
  have w_4 : ∀ (x1 : Int32) (x2 : Int32), ∀ (H : Heap) (locs : List Loc) (ls : Array Slot), lv_has ls 3 [(0, .ref (ad 1)), (1, .int x1), (2, .int x2)] → va_P D vwCl (cellsC ct ad S0) H → va_S F s.heap H locs → n_X5_digitCount_4 S0 x1 x2 = some r → W p l e rm_X5_digitCount s m args below meth c H locs 0 0 Q (F0 m 4 ls []) := by
    have aux : ∀ (n : Nat), ∀ (x1 : Int32) (x2 : Int32), ∀ (H : Heap) (locs : List Loc) (ls : Array Slot), lv_has ls 3 [(0, .ref (ad 1)), (1, .int x1), (2, .int x2)] → va_P D vwCl (cellsC ct ad S0) H → va_S F s.heap H locs → itr (fun (q : Int32 × Int32) k => s_X5_digitCount_4  (fun (x1 : Int32) (x2 : Int32) => k (x1, x2)) S0 q.1 q.2) n (x1, x2) = some r → W p l e rm_X5_digitCount s m args below meth c H locs 0 0 Q (F0 m 4 ls []) := by
      intro n
      induction n with
      | zero => intro x1 x2 H locs ls hl hP hS hf; exact (itr_z hf).elim
      | succ n ih =>
      intro x1 x2 H locs ls hl hP hS hf
      have hk_4 := ih
      have hf : s_X5_digitCount_4  (fun (x1 : Int32) (x2 : Int32) => itr (fun (q : Int32 × Int32) k => s_X5_digitCount_4  (fun (x1 : Int32) (x2 : Int32) => k (x1, x2)) S0 q.1 q.2) n (x1, x2)) S0 x1 x2 = some r := hf
      refine lv_iload_n hx hb dX5_digitCount_4 rfl (lv_at hl 2 rfl) ?_
      refine lv_aload_n hx hb dX5_digitCount_5 rfl (lv_at hl 0 rfl) ?_
      refine gf_X5_3 C hK hP mw_1_175 dX5_digitCount_6 ?_
      refine lv_icmp_ge (tgt := 49) hx hb dX5_digitCount_9 (by decide) (fun c1 => ?_) (fun c1 => ?_)
      · have hf := sp1 c1 hf
        refine lv_iload_n hx hb dX5_digitCount_49 rfl (lv_at hl 1 rfl) ?_
        cases hf
        subst hQ
        exact he_i C hP hS dX5_digitCount_50
      · have hf := sp0 c1 hf
        refine lv_iload_n hx hb dX5_digitCount_12 rfl (lv_at hl 2 rfl) ?_
        refine lv_aload_n hx hb dX5_digitCount_13 rfl (lv_at hl 0 rfl) ?_
        refine gf_X5_4 C hK hP mw_1_177 dX5_digitCount_14 ?_
        refine an_C7 C hK hP dX5_digitCount_17 ?_
        refine lv_icmp_ge (tgt := 49) hx hb dX5_digitCount_18 (by decide) (fun c2 => ?_) (fun c2 => ?_)
        · have hf := sp1 c2 hf
          refine lv_iload_n hx hb dX5_digitCount_49 rfl (lv_at hl 1 rfl) ?_
          cases hf
          subst hQ
          exact he_i C hP hS dX5_digitCount_50
        · have hf := sp0 c2 hf
          refine lv_iload_n hx hb dX5_digitCount_21 rfl (lv_at hl 1 rfl) ?_
          refine lv_aload_n hx hb dX5_digitCount_22 rfl (lv_at hl 0 rfl) ?_
          refine gf_X5_4 C hK hP mw_1_177 dX5_digitCount_23 ?_
          refine lv_iload_n hx hb dX5_digitCount_26 rfl (lv_at hl 2 rfl) ?_
          obtain ⟨c3, hf⟩ := spn hf
          refine al_C7 C hK hP c3 dX5_digitCount_27 ?_
          refine gf_X3_9 C hK hP (inN c3 (by decide)) mw_1_133 dX5_digitCount_28 ?_
          refine lv_iadd hx hb dX5_digitCount_31 ?_
          refine lv_aload_n hx hb dX5_digitCount_32 rfl (lv_at hl 0 rfl) ?_
          refine gf_X5_4 C hK hP mw_1_177 dX5_digitCount_33 ?_
          refine lv_iload_n hx hb dX5_digitCount_36 rfl (lv_at hl 2 rfl) ?_
          obtain ⟨c4, hf⟩ := spn hf
          refine al_C7 C hK hP c4 dX5_digitCount_37 ?_
          refine gf_X3_8 C hK hP (inN c4 (by decide)) mw_1_131 dX5_digitCount_38 ?_
          refine lv_isub hx hb dX5_digitCount_41 ?_
          refine lv_istore_n (lv' := [(1, .int ((x1 + (S0.1 (12 + (Int32.toNatClampNeg x2)) 9)) - (S0.1 (12 + (Int32.toNatClampNeg x2)) 8))), (0, .ref (ad 1)), (2, .int x2)]) hx hb dX5_digitCount_42 rfl hl (by decide) rfl (fun ls hl => ?_)
          refine lv_iinc (v := (x2 + 1)) (lv' := [(2, .int (x2 + 1)), (1, .int ((x1 + (S0.1 (12 + (Int32.toNatClampNeg x2)) 9)) - (S0.1 (12 + (Int32.toNatClampNeg x2)) 8))), (0, .ref (ad 1))]) hx hb dX5_digitCount_43 hl (k := 2) rfl rfl (by decide) rfl (fun ls hl => ?_)
          refine lv_goto (tgt := 4) hx hb dX5_digitCount_46 (by decide) ?_
          exact hk_4 ((x1 + (S0.1 (12 + (Int32.toNatClampNeg x2)) 9)) - (S0.1 (12 + (Int32.toNatClampNeg x2)) 8)) (x2 + 1) _ _ _ (lv_sub hl [2, 1, 0] rfl) hP hS hf
    exact aux FU
  refine lv_iconst (v := 0) hx hb dX5_digitCount_0 (by decide) ?_
  refine lv_istore_n (lv' := [(1, .int 0), (0, .ref (ad 1))]) hx hb dX5_digitCount_1 rfl hl (by decide) rfl (fun ls hl => ?_)
  refine lv_iconst (v := 0) hx hb dX5_digitCount_2 (by decide) ?_
  refine lv_istore_n (lv' := [(2, .int 0), (1, .int 0), (0, .ref (ad 1))]) hx hb dX5_digitCount_3 rfl hl (by decide) rfl (fun ls hl => ?_)
  exact w_4 0 0 _ _ _ (lv_sub hl [2, 1, 0] rfl) hP hS hf
theorem cp_X5_digitCount : CPv yX5_digitCount cX5_digitCount 3 (some .int) 0 := ⟨mw_5_155, mw_1_2, mw_5_153, mw_5_154, by decide +kernel⟩
def rm_X5_isLiftedRoot : Room := { frames := 3, cells := 0, slots := 0, locals := 93 }
set_option maxHeartbeats 4000000 in
set_option maxRecDepth 100000 in
theorem c_X5_isLiftedRoot (l : Launch) (D : va_G) (ct : Nat → ClassId) (ad : Nat → Nat) (F : Nat → Prop) (hG : Gd ad 70 F) (p0 : Nat) (S0 : St) (hk_p0 : p0 < 42) (r : Int32) (hf : f_X5_isLiftedRoot p0 S0 = some r) : MetH l yX5_isLiftedRoot cX5_isLiftedRoot 4 (some .boolean) rm_X5_isLiftedRoot D (tysW ct) F [.ref (ad 1), .ref (ad (12 + p0))] (some (.int r)) (cellsC ct ad S0) (cellsC ct ad S0) := by
  refine MetH.of RX5 (by decide) rfl (Nat.le_of_ble_eq_true rfl) ?_
  intro p e s m args below meth c C hK hP ls hl
  have hl : lv_has ls 4 [(0, .ref (ad 1)), (1, .ref (ad (12 + p0)))] := hl
  obtain ⟨hx, hb, hr, hml, hown, htL, hlocks⟩ := id C
  have hS : va_S F s.heap s.heap [] := va_S.rf
  generalize hQ : MQ below (Hq D (cellsC ct ad S0) F (some (.int r))) args s 0 0 F = Q
  refine lv_aload_n hx hb dX5_isLiftedRoot_0 rfl (lv_at hl 0 rfl) ?_
  refine lv_aload_n hx hb dX5_isLiftedRoot_1 rfl (lv_at hl 1 rfl) ?_
  refine lv_iconst (v := 0) hx hb dX5_isLiftedRoot_2 (by decide) ?_
  refine lv_aload_n hx hb dX5_isLiftedRoot_3 rfl (lv_at hl 1 rfl) ?_
  refine gf_X3_9 C hK hP hk_p0 mw_1_133 dX5_isLiftedRoot_4 ?_
  obtain ⟨v2, h1, hf⟩ := b1_some hf
  refine hc_V (As := [.ref (ad (12 + p0)), .int 0, .int (S0.1 (12 + p0) 9)]) (rest := []) C hK (c_X5_wholeFrom l D ct ad F hG p0 0 (S0.1 (12 + p0) 9) S0 hk_p0 v2 h1) hl.1 cp_X5_wholeFrom mw_2_62 (rc_X5 hK hP) hP hS ⟨rfl, rfl⟩ ⟨Nat.le_of_ble_eq_true rfl, Nat.le_of_ble_eq_true rfl⟩ rfl rfl (Nat.le_of_ble_eq_true rfl) dX5_isLiftedRoot_7 ⟨Nat.le_of_ble_eq_true rfl, Nat.le_of_ble_eq_true rfl⟩ (fun H locs hP hS => ?_)
  refine lv_lstore_n (lv' := [(2, .long v2), (0, .ref (ad 1)), (1, .ref (ad (12 + p0)))]) hx hb dX5_isLiftedRoot_10 rfl hl (by decide) rfl (fun ls hl => ?_)
  refine lv_aload_n hx hb dX5_isLiftedRoot_11 rfl (lv_at hl 1 rfl) ?_
  refine gf_X5_1 C hK hP mw_1_171 dX5_isLiftedRoot_12 ?_
  refine lv_aload_n hx hb dX5_isLiftedRoot_15 rfl (lv_at hl 2 rfl) ?_
  refine gf_X3_3 C hK hP hk_p0 mw_1_124 dX5_isLiftedRoot_16 ?_
  obtain ⟨v4, h3, hf⟩ := b1_some hf
  refine hc_V (As := [.int (S0.1 (12 + p0) 3)]) (rest := []) C hK (c_X0_page l D ct ad F hG (S0.1 (12 + p0) 3) S0  v4 h3) hl.1 cp_X0_page mw_2_108 (rc_X0 hK hP) hP hS ⟨rfl, rfl⟩ ⟨Nat.le_of_ble_eq_true rfl, Nat.le_of_ble_eq_true rfl⟩ rfl rfl (Nat.le_of_ble_eq_true rfl) dX5_isLiftedRoot_19 ⟨Nat.le_of_ble_eq_true rfl, Nat.le_of_ble_eq_true rfl⟩ (fun H locs hP hS => ?_)
  obtain ⟨c5, hf⟩ := spy hf
  refine lv_lload_n hx hb dX5_isLiftedRoot_22 rfl (lv_at hl 0 rfl) ?_
  refine lv_aload_n hx hb dX5_isLiftedRoot_23 rfl (lv_at hl 1 rfl) ?_
  refine gf_X5_0 C hK hP mw_1_169 dX5_isLiftedRoot_24 ?_
  refine lv_aload_n hx hb dX5_isLiftedRoot_27 rfl (lv_at hl 2 rfl) ?_
  refine gf_X3_9 C hK hP hk_p0 mw_1_133 dX5_isLiftedRoot_28 ?_
  obtain ⟨v7, h6, hf⟩ := b1_some hf
  refine hc_V (As := [.int (S0.1 (12 + p0) 9)]) (rest := [.long v2, .ref (ad (54 + v4))]) C hK (c_X2_power l D ct ad F hG (S0.1 (12 + p0) 9) S0  v7 h6) hl.1 cp_X2_power mw_2_66 (rc_X2 hK hP) hP hS ⟨rfl, rfl⟩ ⟨Nat.le_of_ble_eq_true rfl, Nat.le_of_ble_eq_true rfl⟩ rfl rfl (Nat.le_of_ble_eq_true rfl) dX5_isLiftedRoot_31 ⟨Nat.le_of_ble_eq_true rfl, Nat.le_of_ble_eq_true rfl⟩ (fun H locs hP hS => ?_)
  refine lv_aload_n hx hb dX5_isLiftedRoot_34 rfl (lv_at hl 2 rfl) ?_
  refine gf_X3_6 C hK hP hk_p0 mw_1_127 dX5_isLiftedRoot_35 ?_
  obtain ⟨v9, h8, hf⟩ := b1_some hf
  refine hc_V (As := [.long v2, .long v7, .int (S0.1 (12 + p0) 6)]) (rest := []) C hK (c_X4_worthAt l D ct ad F hG v4 v2 v7 (S0.1 (12 + p0) 6) S0 c5 v9 h8) hl.1 cp_X4_worthAt mw_2_112 (rc_X4 hK hP c5) hP hS ⟨rfl, rfl⟩ ⟨Nat.le_of_ble_eq_true rfl, Nat.le_of_ble_eq_true rfl⟩ rfl rfl (Nat.le_of_ble_eq_true rfl) dX5_isLiftedRoot_38 ⟨Nat.le_of_ble_eq_true rfl, Nat.le_of_ble_eq_true rfl⟩ (fun H locs hP hS => ?_)
  refine lv_lconst (v := 0) hx hb dX5_isLiftedRoot_41 (by decide) ?_
  refine W.lcmp hx hb dX5_isLiftedRoot_42 ?_
  refine lv_if_ne (tgt := 50) hx hb dX5_isLiftedRoot_43 (by decide) (fun c10 => ?_) (fun c10 => ?_)
  · have hf := sp0 c10 hf
    refine lv_iconst (v := 0) hx hb dX5_isLiftedRoot_50 (by decide) ?_
    cases hf
    subst hQ
    exact he_z C (by decide) hP hS dX5_isLiftedRoot_51
  · have hf := sp1 c10 hf
    refine lv_iconst (v := 1) hx hb dX5_isLiftedRoot_46 (by decide) ?_
    refine lv_goto (tgt := 51) hx hb dX5_isLiftedRoot_47 (by decide) ?_
    cases hf
    subst hQ
    exact he_z C (by decide) hP hS dX5_isLiftedRoot_51
theorem cp_X5_isLiftedRoot : CPv yX5_isLiftedRoot cX5_isLiftedRoot 4 (some .boolean) 1 := ⟨mw_2_107, mw_1_2, mw_2_106, ms_10, by decide +kernel⟩
def rm_X5_isTrueStill : Room := { frames := 5, cells := 0, slots := 0, locals := 155 }
set_option maxHeartbeats 4000000 in
set_option maxRecDepth 100000 in
theorem c_X5_isTrueStill (l : Launch) (D : va_G) (ct : Nat → ClassId) (ad : Nat → Nat) (F : Nat → Prop) (hG : Gd ad 70 F) (p0 : Int32) (S0 : St)  (r : Int32) (S' : St) (hf : f_X5_isTrueStill p0 S0 = some (r, S')) : MetH l yX5_isTrueStill cX5_isTrueStill 3 (some .boolean) rm_X5_isTrueStill D (tysW ct) F [.ref (ad 1), .int p0] (some (.int r)) (cellsC ct ad S0) (cellsC ct ad S') := by
  refine MetH.of RX5 (by decide) rfl (Nat.le_of_ble_eq_true rfl) ?_
  intro p e s m args below meth c C hK hP ls hl
  have hl : lv_has ls 3 [(0, .ref (ad 1)), (1, .int p0)] := hl
  obtain ⟨hx, hb, hr, hml, hown, htL, hlocks⟩ := id C
  have hS : va_S F s.heap s.heap [] := va_S.rf
  generalize hQ : MQ below (Hq D (cellsC ct ad S') F (some (.int r))) args s 0 0 F = Q
  have w_38 : ∀ (x2 : Nat) (S : St), x2 < 42 → ∀ (H : Heap) (locs : List Loc) (ls : Array Slot), lv_has ls 3 [(0, .ref (ad 1)), (2, .ref (ad (12 + x2)))] → va_P D vwCl (cellsC ct ad S) H → va_S F s.heap H locs → n_X5_isTrueStill_38 x2 S = some (r, S') → W p l e rm_X5_isTrueStill s m args below meth c H locs 0 0 Q (F0 m 38 ls []) := by
    intro  x2 S hk_x2 H locs ls hl hP hS hf
    refine lv_aload_n hx hb dX5_isTrueStill_38 rfl (lv_at hl 1 rfl) ?_
    refine gf_X3_0 C hK hP hk_x2 mw_1_119 dX5_isTrueStill_39 ?_
    refine lv_iconst (v := 5) hx hb dX5_isTrueStill_42 (by decide) ?_
    refine lv_icmp_ne (tgt := 84) hx hb dX5_isTrueStill_43 (by decide) (fun c1 => ?_) (fun c1 => ?_)
    · have hf := sp0 c1 hf
      refine lv_aload_n hx hb dX5_isTrueStill_84 rfl (lv_at hl 1 rfl) ?_
      refine gf_X3_0 C hK hP hk_x2 mw_1_119 dX5_isTrueStill_85 ?_
      refine lv_bipush (v := 7) hx hb dX5_isTrueStill_88 (by decide) ?_
      refine lv_icmp_ne (tgt := 101) hx hb dX5_isTrueStill_90 (by decide) (fun c2 => ?_) (fun c2 => ?_)
      · have hf := sp0 c2 hf
        refine lv_iconst (v := 1) hx hb dX5_isTrueStill_101 (by decide) ?_
        refine lv_goto (tgt := 106) hx hb dX5_isTrueStill_102 (by decide) ?_
        cases hf
        subst hQ
        exact he_z C (by decide) hP hS dX5_isTrueStill_106
      · have hf := sp1 c2 hf
        refine lv_aload_n hx hb dX5_isTrueStill_93 rfl (lv_at hl 0 rfl) ?_
        refine lv_aload_n hx hb dX5_isTrueStill_94 rfl (lv_at hl 1 rfl) ?_
        obtain ⟨v4, h3, hf⟩ := b1_some hf
        refine hc_V (As := [.ref (ad (12 + x2))]) (rest := []) C hK (c_X5_isLiftedRoot l D ct ad F hG x2 S hk_x2 v4 h3) hl.1 cp_X5_isLiftedRoot mw_2_104 (rc_X5 hK hP) hP hS ⟨rfl, rfl⟩ ⟨Nat.le_of_ble_eq_true rfl, Nat.le_of_ble_eq_true rfl⟩ rfl rfl (Nat.le_of_ble_eq_true rfl) dX5_isTrueStill_95 ⟨Nat.le_of_ble_eq_true rfl, Nat.le_of_ble_eq_true rfl⟩ (fun H locs hP hS => ?_)
        refine lv_if_eq (tgt := 105) hx hb dX5_isTrueStill_98 (by decide) (fun c5 => ?_) (fun c5 => ?_)
        · have hf := sp1 c5 hf
          refine lv_iconst (v := 0) hx hb dX5_isTrueStill_105 (by decide) ?_
          cases hf
          subst hQ
          exact he_z C (by decide) hP hS dX5_isTrueStill_106
        · have hf := sp0 c5 hf
          refine lv_iconst (v := 1) hx hb dX5_isTrueStill_101 (by decide) ?_
          refine lv_goto (tgt := 106) hx hb dX5_isTrueStill_102 (by decide) ?_
          cases hf
          subst hQ
          exact he_z C (by decide) hP hS dX5_isTrueStill_106
    · have hf := sp1 c1 hf
      refine lv_aload_n hx hb dX5_isTrueStill_46 rfl (lv_at hl 0 rfl) ?_
      refine lv_aload_n hx hb dX5_isTrueStill_47 rfl (lv_at hl 0 rfl) ?_
      refine gf_X5_6 C hK hP mw_1_179 dX5_isTrueStill_48 ?_
      refine lv_aload_n hx hb dX5_isTrueStill_51 rfl (lv_at hl 1 rfl) ?_
      refine lv_aload_n hx hb dX5_isTrueStill_52 rfl (lv_at hl 1 rfl) ?_
      obtain ⟨S7, h6, hf⟩ := b1_some hf
      refine hc_V (As := [.ref (ad (12 + 41)), .ref (ad (12 + x2)), .ref (ad (12 + x2))]) (rest := []) C hK (c_X5_findProduct l D ct ad F hG 41 x2 x2 S (by decide) hk_x2 hk_x2 S7 h6) hl.1 cp_X5_findProduct mw_2_100 (rc_X5 hK hP) hP hS ⟨rfl, rfl⟩ ⟨Nat.le_of_ble_eq_true rfl, Nat.le_of_ble_eq_true rfl⟩ rfl rfl (Nat.le_of_ble_eq_true rfl) dX5_isTrueStill_53 ⟨Nat.le_of_ble_eq_true rfl, Nat.le_of_ble_eq_true rfl⟩ (fun H locs hP hS => ?_)
      refine lv_aload_n hx hb dX5_isTrueStill_56 rfl (lv_at hl 0 rfl) ?_
      refine lv_aload_n hx hb dX5_isTrueStill_57 rfl (lv_at hl 0 rfl) ?_
      refine gf_X5_6 C hK hP mw_1_179 dX5_isTrueStill_58 ?_
      refine lv_aload_n hx hb dX5_isTrueStill_61 rfl (lv_at hl 0 rfl) ?_
      refine lv_aload_n hx hb dX5_isTrueStill_62 rfl (lv_at hl 1 rfl) ?_
      refine gf_X3_1 C hK hP hk_x2 mw_1_121 dX5_isTrueStill_63 ?_
      obtain ⟨v9, h8, hf⟩ := b1_some hf
      refine hc_V (As := [.int (S7.1 (12 + x2) 1)]) (rest := [.ref (ad (12 + 41)), .ref (ad 1)]) C hK (c_X5_numbered l D ct ad F hG (S7.1 (12 + x2) 1) S7  v9 h8) hl.1 cp_X5_numbered mw_2_39 (rc_X5 hK hP) hP hS ⟨rfl, rfl⟩ ⟨Nat.le_of_ble_eq_true rfl, Nat.le_of_ble_eq_true rfl⟩ rfl rfl (Nat.le_of_ble_eq_true rfl) dX5_isTrueStill_66 ⟨Nat.le_of_ble_eq_true rfl, Nat.le_of_ble_eq_true rfl⟩ (fun H locs hP hS => ?_)
      obtain ⟨c10, hf⟩ := spy hf
      obtain ⟨v12, S13, h11, hf⟩ := b2_some hf
      refine hc_V (As := [.ref (ad (12 + 41)), .ref (ad (12 + v9))]) (rest := []) C hK (c_X5_splitsAt l D ct ad F hG 41 v9 S7 (by decide) c10 v12 S13 h11) hl.1 cp_X5_splitsAt mw_2_51 (rc_X5 hK hP) hP hS ⟨rfl, rfl⟩ ⟨Nat.le_of_ble_eq_true rfl, Nat.le_of_ble_eq_true rfl⟩ rfl rfl (Nat.le_of_ble_eq_true rfl) dX5_isTrueStill_69 ⟨Nat.le_of_ble_eq_true rfl, Nat.le_of_ble_eq_true rfl⟩ (fun H locs hP hS => ?_)
      refine lv_sipush (v := 1000) hx hb dX5_isTrueStill_72 (by decide) ?_
      refine lv_icmp_ne (tgt := 82) hx hb dX5_isTrueStill_75 (by decide) (fun c14 => ?_) (fun c14 => ?_)
      · have hf := sp0 c14 hf
        refine lv_iconst (v := 0) hx hb dX5_isTrueStill_82 (by decide) ?_
        cases hf
        subst hQ
        exact he_z C (by decide) hP hS dX5_isTrueStill_83
      · have hf := sp1 c14 hf
        refine lv_iconst (v := 1) hx hb dX5_isTrueStill_78 (by decide) ?_
        refine lv_goto (tgt := 83) hx hb dX5_isTrueStill_79 (by decide) ?_
        cases hf
        subst hQ
        exact he_z C (by decide) hP hS dX5_isTrueStill_83
  refine lv_aload_n hx hb dX5_isTrueStill_0 rfl (lv_at hl 0 rfl) ?_
  refine lv_iload_n hx hb dX5_isTrueStill_1 rfl (lv_at hl 1 rfl) ?_
  obtain ⟨v16, h15, hf⟩ := b1_some hf
  refine hc_V (As := [.int p0]) (rest := []) C hK (c_X5_numbered l D ct ad F hG p0 S0  v16 h15) hl.1 cp_X5_numbered mw_2_39 (rc_X5 hK hP) hP hS ⟨rfl, rfl⟩ ⟨Nat.le_of_ble_eq_true rfl, Nat.le_of_ble_eq_true rfl⟩ rfl rfl (Nat.le_of_ble_eq_true rfl) dX5_isTrueStill_2 ⟨Nat.le_of_ble_eq_true rfl, Nat.le_of_ble_eq_true rfl⟩ (fun H locs hP hS => ?_)
  obtain ⟨c17, hf⟩ := spy hf
  refine lv_astore_n (lv' := [(2, .ref (ad (12 + v16))), (0, .ref (ad 1)), (1, .int p0)]) hx hb dX5_isTrueStill_5 rfl hl (by decide) rfl (fun ls hl => ?_)
  refine lv_aload_n hx hb dX5_isTrueStill_6 rfl (lv_at hl 0 rfl) ?_
  obtain ⟨v19, h18, hf⟩ := b1_some hf
  refine hc_V (As := []) (rest := []) C hK (c_X3_isMadeOfOthers l D ct ad F hG v16 S0 c17 v19 h18) hl.1 cp_X3_isMadeOfOthers mw_2_43 (rc_X3 hK hP c17) hP hS ⟨rfl, rfl⟩ ⟨Nat.le_of_ble_eq_true rfl, Nat.le_of_ble_eq_true rfl⟩ rfl rfl (Nat.le_of_ble_eq_true rfl) dX5_isTrueStill_7 ⟨Nat.le_of_ble_eq_true rfl, Nat.le_of_ble_eq_true rfl⟩ (fun H locs hP hS => ?_)
  refine lv_if_eq (tgt := 38) hx hb dX5_isTrueStill_10 (by decide) (fun c20 => ?_) (fun c20 => ?_)
  · have hf := sp1 c20 hf
    exact w_38 v16 S0 c17 _ _ _ (lv_sub hl [1, 0] rfl) hP hS hf
  · have hf := sp0 c20 hf
    refine lv_aload_n hx hb dX5_isTrueStill_13 rfl (lv_at hl 1 rfl) ?_
    refine gf_X5_6 C hK hP mw_1_179 dX5_isTrueStill_14 ?_
    refine lv_aload_n hx hb dX5_isTrueStill_17 rfl (lv_at hl 0 rfl) ?_
    obtain ⟨S22, h21, hf⟩ := b1_some hf
    refine hc_V (As := [.ref (ad (12 + v16))]) (rest := []) C hK (c_X3_copyEarlyOf l D ct ad F hG 41 v16 S0 (by decide) c17 S22 h21) hl.1 cp_X3_copyEarlyOf mw_2_47 (rc_X3 hK hP (by decide)) hP hS ⟨rfl, rfl⟩ ⟨Nat.le_of_ble_eq_true rfl, Nat.le_of_ble_eq_true rfl⟩ rfl rfl (Nat.le_of_ble_eq_true rfl) dX5_isTrueStill_18 ⟨Nat.le_of_ble_eq_true rfl, Nat.le_of_ble_eq_true rfl⟩ (fun H locs hP hS => ?_)
    refine lv_aload_n hx hb dX5_isTrueStill_21 rfl (lv_at hl 1 rfl) ?_
    refine lv_aload_n hx hb dX5_isTrueStill_22 rfl (lv_at hl 0 rfl) ?_
    refine lv_aload_n hx hb dX5_isTrueStill_23 rfl (lv_at hl 1 rfl) ?_
    refine gf_X5_6 C hK hP mw_1_179 dX5_isTrueStill_24 ?_
    obtain ⟨v24, S25, h23, hf⟩ := b2_some hf
    refine hc_V (As := [.ref (ad (12 + v16)), .ref (ad (12 + 41))]) (rest := []) C hK (c_X5_splitsAt l D ct ad F hG v16 41 S22 c17 (by decide) v24 S25 h23) hl.1 cp_X5_splitsAt mw_2_51 (rc_X5 hK hP) hP hS ⟨rfl, rfl⟩ ⟨Nat.le_of_ble_eq_true rfl, Nat.le_of_ble_eq_true rfl⟩ rfl rfl (Nat.le_of_ble_eq_true rfl) dX5_isTrueStill_27 ⟨Nat.le_of_ble_eq_true rfl, Nat.le_of_ble_eq_true rfl⟩ (fun H locs hP hS => ?_)
    refine lv_sipush (v := 1000) hx hb dX5_isTrueStill_30 (by decide) ?_
    refine lv_icmp_eq (tgt := 38) hx hb dX5_isTrueStill_33 (by decide) (fun c26 => ?_) (fun c26 => ?_)
    · have hf := sp1 c26 hf
      exact w_38 v16 S25 c17 _ _ _ (lv_sub hl [1, 0] rfl) hP hS hf
    · have hf := sp0 c26 hf
      refine lv_iconst (v := 0) hx hb dX5_isTrueStill_36 (by decide) ?_
      cases hf
      subst hQ
      exact he_z C (by decide) hP hS dX5_isTrueStill_37
theorem cp_X5_isTrueStill : CPv yX5_isTrueStill cX5_isTrueStill 3 (some .boolean) 1 := ⟨mw_2_38, mw_1_2, mw_2_36, mw_2_37, by decide +kernel⟩
def rm_X6_isFull : Room := { frames := 0, cells := 0, slots := 0, locals := 0 }
set_option maxHeartbeats 4000000 in
set_option maxRecDepth 100000 in
theorem c_X6_isFull (l : Launch) (D : va_G) (ct : Nat → ClassId) (ad : Nat → Nat) (F : Nat → Prop) (hG : Gd ad 70 F)  (S0 : St)  (r : Int32) (hf : f_X6_isFull  S0 = some r) : MetH l yX6_isFull cX6_isFull 1 (some .boolean) rm_X6_isFull D (tysW ct) F [.ref (ad 5)] (some (.int r)) (cellsC ct ad S0) (cellsC ct ad S0) := by
  refine MetH.of RX6 (by decide) rfl (Nat.le_of_ble_eq_true rfl) ?_
  intro p e s m args below meth c C hK hP ls hl
  have hl : lv_has ls 1 [(0, .ref (ad 5))] := hl
  obtain ⟨hx, hb, hr, hml, hown, htL, hlocks⟩ := id C
  have hS : va_S F s.heap s.heap [] := va_S.rf
  generalize hQ : MQ below (Hq D (cellsC ct ad S0) F (some (.int r))) args s 0 0 F = Q
  refine lv_aload_n hx hb dX6_isFull_0 rfl (lv_at hl 0 rfl) ?_
  refine gf_X6_0 C hK hP mw_1_102 dX6_isFull_1 ?_
  refine lv_aload_n hx hb dX6_isFull_4 rfl (lv_at hl 0 rfl) ?_
  refine gf_X6_1 C hK hP mw_1_105 dX6_isFull_5 ?_
  refine an_C9 C hK hP dX6_isFull_8 ?_
  refine lv_icmp_lt (tgt := 16) hx hb dX6_isFull_9 (by decide) (fun c1 => ?_) (fun c1 => ?_)
  · have hf := sp1 c1 hf
    refine lv_iconst (v := 0) hx hb dX6_isFull_16 (by decide) ?_
    cases hf
    subst hQ
    exact he_z C (by decide) hP hS dX6_isFull_17
  · have hf := sp0 c1 hf
    refine lv_iconst (v := 1) hx hb dX6_isFull_12 (by decide) ?_
    refine lv_goto (tgt := 17) hx hb dX6_isFull_13 (by decide) ?_
    cases hf
    subst hQ
    exact he_z C (by decide) hP hS dX6_isFull_17
theorem cp_X6_isFull : CPv yX6_isFull cX6_isFull 1 (some .boolean) 0 := ⟨mw_5_105, mw_1_6, mw_5_103, mw_5_104, by decide +kernel⟩
def rm_X6_append : Room := { frames := 0, cells := 0, slots := 0, locals := 0 }
set_option maxHeartbeats 4000000 in
set_option maxRecDepth 100000 in
theorem c_X6_append (l : Launch) (D : va_G) (ct : Nat → ClassId) (ad : Nat → Nat) (F : Nat → Prop) (hG : Gd ad 70 F) (p0 : Int32) (S0 : St)  (r : Int32) (S' : St) (hf : f_X6_append p0 S0 = some (r, S')) : MetH l yX6_append cX6_append 2 (some .int) rm_X6_append D (tysW ct) F [.ref (ad 5), .int p0] (some (.int r)) (cellsC ct ad S0) (cellsC ct ad S') := by
  refine MetH.of RX6 (by decide) rfl (Nat.le_of_ble_eq_true rfl) ?_
  intro p e s m args below meth c C hK hP ls hl
  have hl : lv_has ls 2 [(0, .ref (ad 5)), (1, .int p0)] := hl
  obtain ⟨hx, hb, hr, hml, hown, htL, hlocks⟩ := id C
  have hS : va_S F s.heap s.heap [] := va_S.rf
  generalize hQ : MQ below (Hq D (cellsC ct ad S') F (some (.int r))) args s 0 0 F = Q
  refine lv_aload_n hx hb dX6_append_0 rfl (lv_at hl 0 rfl) ?_
  refine gf_X6_0 C hK hP mw_1_102 dX6_append_1 ?_
  refine lv_if_lt (tgt := 39) hx hb dX6_append_4 (by decide) (fun c1 => ?_) (fun c1 => ?_)
  · have hf := sp1 c1 hf
    refine lv_aload_n hx hb dX6_append_39 rfl (lv_at hl 0 rfl) ?_
    refine gf_X6_0 C hK hP mw_1_102 dX6_append_40 ?_
    cases hf
    subst hQ
    exact he_i C hP hS dX6_append_43
  · have hf := sp0 c1 hf
    refine lv_aload_n hx hb dX6_append_7 rfl (lv_at hl 0 rfl) ?_
    refine gf_X6_0 C hK hP mw_1_102 dX6_append_8 ?_
    refine lv_aload_n hx hb dX6_append_11 rfl (lv_at hl 0 rfl) ?_
    refine gf_X6_1 C hK hP mw_1_105 dX6_append_12 ?_
    refine an_C9 C hK hP dX6_append_15 ?_
    refine lv_icmp_ge (tgt := 39) hx hb dX6_append_16 (by decide) (fun c2 => ?_) (fun c2 => ?_)
    · have hf := sp1 c2 hf
      refine lv_aload_n hx hb dX6_append_39 rfl (lv_at hl 0 rfl) ?_
      refine gf_X6_0 C hK hP mw_1_102 dX6_append_40 ?_
      cases hf
      subst hQ
      exact he_i C hP hS dX6_append_43
    · have hf := sp0 c2 hf
      refine lv_aload_n hx hb dX6_append_19 rfl (lv_at hl 0 rfl) ?_
      refine gf_X6_1 C hK hP mw_1_105 dX6_append_20 ?_
      refine lv_aload_n hx hb dX6_append_23 rfl (lv_at hl 0 rfl) ?_
      refine gf_X6_0 C hK hP mw_1_102 dX6_append_24 ?_
      refine lv_iload_n hx hb dX6_append_27 rfl (lv_at hl 1 rfl) ?_
      obtain ⟨c3, hf⟩ := spn hf
      refine as_C9 C hK hP hG hS c3 dX6_append_28 (fun H locs hP hS => ?_)
      refine lv_aload_n hx hb dX6_append_29 rfl (lv_at hl 0 rfl) ?_
      refine lv_dup hx hb dX6_append_30 rfl ?_
      refine gf_X6_0 C hK hP mw_1_102 dX6_append_31 ?_
      refine lv_iconst (v := 1) hx hb dX6_append_34 (by decide) ?_
      refine lv_iadd hx hb dX6_append_35 ?_
      refine pf_X6_0 C hK hP hG hS mw_1_102 dX6_append_36 (fun H locs hP hS => ?_)
      refine lv_aload_n hx hb dX6_append_39 rfl (lv_at hl 0 rfl) ?_
      refine gf_X6_0 C hK hP mw_1_102 dX6_append_40 ?_
      cases hf
      subst hQ
      exact he_i C hP hS dX6_append_43
theorem cp_X6_append : CPv yX6_append cX6_append 2 (some .int) 1 := ⟨mw_5_110, mw_1_6, mw_5_108, mw_5_109, by decide +kernel⟩
