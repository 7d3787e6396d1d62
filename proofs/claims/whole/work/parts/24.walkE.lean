def rmx_X9_setPrime : Room := { frames := 8, cells := 1, slots := 6, locals := 140 }
set_option maxHeartbeats 4000000 in
set_option maxRecDepth 100000 in
theorem x_X9_setPrime (l : Launch) (hl0 : l.stackTraces = false) (D : va_G) (ct : Nat → ClassId) (ad : Nat → Nat) (F : Nat → Prop) (hG : Gd ad 70 F) (p0 : Int32) (S0 : St)  (n : Nat) (S' : St) (hf : f_X9_setPrime p0 S0 = some (.error n, S')) : MetX l yX9_setPrime cX9_setPrime 3 (some .int) rmx_X9_setPrime D (tysW ct) F [.ref (ad 0), .int p0] (cellsC ct ad S0) (cellsC ct ad S') n := by
  refine MetX.of RX9 (by decide) rfl (Nat.le_of_ble_eq_true rfl) ?_
  intro p e s m args below meth c C hPk hK hP hXf ls hl
  have hl : lv_has ls 3 [(0, .ref (ad 0)), (1, .int p0)] := hl
  obtain ⟨hx, hb, hr, hml, hown, htL, hlocks⟩ := id C
  have hS : va_S F s.heap s.heap [] := va_S.rf
  generalize hQ : vx_MQ below (fun _ _ _ _ => False) (XQ D (cellsC ct ad S') F n) args s 1 6 F = Q
  refine lv_iload_n hx hb dX9_setPrime_0 rfl (lv_at hl 1 rfl) ?_
  refine lv_bipush (v := 97) hx hb dX9_setPrime_1 (by decide) ?_
  refine lv_icmp_gt (tgt := 13) hx hb dX9_setPrime_3 (by decide) (fun c1 => ?_) (fun c1 => ?_)
  · have hf := sp1 c1 hf
    cases hf
    subst hQ
    exact th_IllegalArgumentException C hl0 hXf hPk hP hS hl.1 mw_2_147 (str_31) ⟨Nat.le_of_ble_eq_true rfl, Nat.le_of_ble_eq_true rfl, Nat.le_of_ble_eq_true rfl, Nat.le_of_ble_eq_true rfl⟩ dX9_setPrime_13 dX9_setPrime_16 dX9_setPrime_17 dX9_setPrime_19 dX9_setPrime_22
  · have hf := sp0 c1 hf
    refine lv_iload_n hx hb dX9_setPrime_6 rfl (lv_at hl 1 rfl) ?_
    obtain ⟨v2, h3, hf⟩ := b1_some hf
    refine pc_S (As := [.int p0]) (rest := []) C (c_X8_isPrime l p0 v2 h3) hl.1 cp_X8_isPrime mw_2_144 ⟨rfl, rfl⟩ ⟨Nat.le_of_ble_eq_true rfl, Nat.le_of_ble_eq_true rfl⟩ rfl rfl (Nat.le_of_ble_eq_true rfl) dX9_setPrime_7 ⟨Nat.le_of_ble_eq_true rfl, Nat.le_of_ble_eq_true rfl⟩ ?_
    refine lv_if_ne (tgt := 23) hx hb dX9_setPrime_10 (by decide) (fun c4 => ?_) (fun c4 => ?_)
    · have hf := sp0 c4 hf
      refine lv_aload_n hx hb dX9_setPrime_23 rfl (lv_at hl 0 rfl) ?_
      refine gf_X9_0 C hK hP mw_1_212 dX9_setPrime_24 ?_
      refine gf_X5_3 C hK hP mw_1_176 dX9_setPrime_27 ?_
      refine lv_if_le (tgt := 43) hx hb dX9_setPrime_30 (by decide) (fun c5 => ?_) (fun c5 => ?_)
      · have hf := sp1 c5 hf
        refine lv_aload_n hx hb dX9_setPrime_43 rfl (lv_at hl 0 rfl) ?_
        refine gf_X9_0 C hK hP mw_1_212 dX9_setPrime_44 ?_
        refine gf_X5_0 C hK hP mw_1_170 dX9_setPrime_47 ?_
        refine gf_X2_0 C hK hP mw_1_51 dX9_setPrime_50 ?_
        refine lv_istore_n (lv' := [(2, .int (S0.1 3 0)), (0, .ref (ad 0)), (1, .int p0)]) hx hb dX9_setPrime_53 rfl hl (by decide) rfl (fun ls hl => ?_)
        refine lv_aload_n hx hb dX9_setPrime_54 rfl (lv_at hl 1 rfl) ?_
        refine gf_X9_0 C hK hP mw_1_212 dX9_setPrime_55 ?_
        refine gf_X5_0 C hK hP mw_1_170 dX9_setPrime_58 ?_
        refine lv_iload_n hx hb dX9_setPrime_61 rfl (lv_at hl 2 rfl) ?_
        obtain ⟨S7, h6, hf⟩ := b1_some hf
        refine hc_V (As := [.int p0]) (rest := []) C hK (c_X2_turnTo l D ct ad F hG p0 S0  S7 h6) hl.1 cp_X2_turnTo mw_2_235 (rc_X2 hK hP) hP hS ⟨rfl, rfl⟩ ⟨Nat.le_of_ble_eq_true rfl, Nat.le_of_ble_eq_true rfl⟩ rfl rfl (Nat.le_of_ble_eq_true rfl) dX9_setPrime_62 ⟨Nat.le_of_ble_eq_true rfl, Nat.le_of_ble_eq_true rfl⟩ (fun H locs hP hS => ?_)
        refine lv_iload_n hx hb dX9_setPrime_65 rfl (lv_at hl 0 rfl) ?_
        cases hf
      · have hf := sp0 c5 hf
        cases hf
        subst hQ
        exact th_UnsupportedOperationException C hl0 hXf hPk hP hS hl.1 mw_2_219 (str_42) ⟨Nat.le_of_ble_eq_true rfl, Nat.le_of_ble_eq_true rfl, Nat.le_of_ble_eq_true rfl, Nat.le_of_ble_eq_true rfl⟩ dX9_setPrime_33 dX9_setPrime_36 dX9_setPrime_37 dX9_setPrime_39 dX9_setPrime_42
    · have hf := sp1 c4 hf
      cases hf
      subst hQ
      exact th_IllegalArgumentException C hl0 hXf hPk hP hS hl.1 mw_2_147 (str_31) ⟨Nat.le_of_ble_eq_true rfl, Nat.le_of_ble_eq_true rfl, Nat.le_of_ble_eq_true rfl, Nat.le_of_ble_eq_true rfl⟩ dX9_setPrime_13 dX9_setPrime_16 dX9_setPrime_17 dX9_setPrime_19 dX9_setPrime_22
def rmx_X9_needWithin : Room := { frames := 8, cells := 1, slots := 6, locals := 140 }
set_option maxHeartbeats 4000000 in
set_option maxRecDepth 100000 in
theorem x_X9_needWithin (l : Launch) (hl0 : l.stackTraces = false) (D : va_G) (tys : List (ClassId × FieldType)) (F : Nat → Prop) (w : va_W) (p0 : Int32) (p1 : Int32) (p2 : Int32) (n : Nat) (hf : f_X9_needWithin p0 p1 p2 = some (.error n)) : MetX l yX9_needWithin cX9_needWithin 3 none rmx_X9_needWithin D tys F [.int p0, .int p1, .int p2] w w n := by
  refine MetX.of RX9 (by decide) rfl (Nat.le_of_ble_eq_true rfl) ?_
  intro p e s m args below meth c C hPk hK hP hXf ls hl
  have hl : lv_has ls 3 [(0, .int p0), (1, .int p1), (2, .int p2)] := hl
  obtain ⟨hx, hb, hr, hml, hown, htL, hlocks⟩ := id C
  have hS : va_S F s.heap s.heap [] := va_S.rf
  generalize hQ : vx_MQ below (fun _ _ _ _ => False) (XQ D w F n) args s 1 6 F = Q
  refine lv_iload_n hx hb dX9_needWithin_0 rfl (lv_at hl 0 rfl) ?_
  refine lv_iload_n hx hb dX9_needWithin_1 rfl (lv_at hl 1 rfl) ?_
  refine lv_icmp_lt (tgt := 10) hx hb dX9_needWithin_2 (by decide) (fun c1 => ?_) (fun c1 => ?_)
  · have hf := sp1 c1 hf
    cases hf
    subst hQ
    exact th_IllegalArgumentExceptionW C hl0 hXf hPk hP hS hl.1 mw_2_147 (str_314) ⟨Nat.le_of_ble_eq_true rfl, Nat.le_of_ble_eq_true rfl, Nat.le_of_ble_eq_true rfl, Nat.le_of_ble_eq_true rfl⟩ dX9_needWithin_10 dX9_needWithin_13 dX9_needWithin_14 dX9_needWithin_17 dX9_needWithin_20
  · have hf := sp0 c1 hf
    refine lv_iload_n hx hb dX9_needWithin_5 rfl (lv_at hl 0 rfl) ?_
    refine lv_iload_n hx hb dX9_needWithin_6 rfl (lv_at hl 2 rfl) ?_
    refine lv_icmp_le (tgt := 21) hx hb dX9_needWithin_7 (by decide) (fun c2 => ?_) (fun c2 => ?_)
    · have hf := sp1 c2 hf
      cases hf
    · have hf := sp0 c2 hf
      cases hf
      subst hQ
      exact th_IllegalArgumentExceptionW C hl0 hXf hPk hP hS hl.1 mw_2_147 (str_314) ⟨Nat.le_of_ble_eq_true rfl, Nat.le_of_ble_eq_true rfl, Nat.le_of_ble_eq_true rfl, Nat.le_of_ble_eq_true rfl⟩ dX9_needWithin_10 dX9_needWithin_13 dX9_needWithin_14 dX9_needWithin_17 dX9_needWithin_20
def rmx_X9_needRoom : Room := { frames := 8, cells := 1, slots := 6, locals := 140 }
set_option maxHeartbeats 4000000 in
set_option maxRecDepth 100000 in
theorem x_X9_needRoom (l : Launch) (hl0 : l.stackTraces = false) (D : va_G) (ct : Nat → ClassId) (ad : Nat → Nat) (F : Nat → Prop) (hG : Gd ad 70 F)  (S0 : St)  (n : Nat) (hf : f_X9_needRoom  S0 = some (.error n)) : MetX l yX9_needRoom cX9_needRoom 1 none rmx_X9_needRoom D (tysW ct) F [.ref (ad 0)] (cellsC ct ad S0) (cellsC ct ad S0) n := by
  refine MetX.of RX9 (by decide) rfl (Nat.le_of_ble_eq_true rfl) ?_
  intro p e s m args below meth c C hPk hK hP hXf ls hl
  have hl : lv_has ls 1 [(0, .ref (ad 0))] := hl
  obtain ⟨hx, hb, hr, hml, hown, htL, hlocks⟩ := id C
  have hS : va_S F s.heap s.heap [] := va_S.rf
  generalize hQ : vx_MQ below (fun _ _ _ _ => False) (XQ D (cellsC ct ad S0) F n) args s 1 6 F = Q
  refine lv_aload_n hx hb dX9_needRoom_0 rfl (lv_at hl 0 rfl) ?_
  refine gf_X9_0 C hK hP mw_1_212 dX9_needRoom_1 ?_
  obtain ⟨v2, h1, hf⟩ := b1_some hf
  refine hc_V (As := []) (rest := []) C hK (c_X5_isFull l D ct ad F hG S0  v2 h1) hl.1 cp_X5_isFull mw_3_14 (rc_X5 hK hP) hP hS ⟨rfl, rfl⟩ ⟨Nat.le_of_ble_eq_true rfl, Nat.le_of_ble_eq_true rfl⟩ rfl rfl (Nat.le_of_ble_eq_true rfl) dX9_needRoom_4 ⟨Nat.le_of_ble_eq_true rfl, Nat.le_of_ble_eq_true rfl⟩ (fun H locs hP hS => ?_)
  refine lv_if_eq (tgt := 21) hx hb dX9_needRoom_7 (by decide) (fun c3 => ?_) (fun c3 => ?_)
  · have hf := sp1 c3 hf
    cases hf
  · have hf := sp0 c3 hf
    cases hf
    subst hQ
    exact th_IllegalStateExceptionW C hl0 hXf hPk hP hS hl.1 mw_3_18 (str_307) ⟨Nat.le_of_ble_eq_true rfl, Nat.le_of_ble_eq_true rfl, Nat.le_of_ble_eq_true rfl, Nat.le_of_ble_eq_true rfl⟩ dX9_needRoom_10 dX9_needRoom_13 dX9_needRoom_14 dX9_needRoom_17 dX9_needRoom_20
def rmx_X9_give : Room := { frames := 9, cells := 1, slots := 6, locals := 198 }
set_option maxHeartbeats 4000000 in
set_option maxRecDepth 100000 in
theorem x_X9_give (l : Launch) (hl0 : l.stackTraces = false) (D : va_G) (ct : Nat → ClassId) (ad : Nat → Nat) (F : Nat → Prop) (hG : Gd ad 70 F) (p0 : Int32) (p1 : Int32) (p2 : Int32) (S0 : St)  (n : Nat) (S' : St) (hf : f_X9_give p0 p1 p2 S0 = some (.error n, S')) : MetX l yX9_give cX9_give 4 (some .int) rmx_X9_give D (tysW ct) F [.ref (ad 0), .int p0, .int p1, .int p2] (cellsC ct ad S0) (cellsC ct ad S') n := by
  refine MetX.of RX9 (by decide) rfl (Nat.le_of_ble_eq_true rfl) ?_
  intro p e s m args below meth c C hPk hK hP hXf ls hl
  have hl : lv_has ls 4 [(0, .ref (ad 0)), (1, .int p0), (2, .int p1), (3, .int p2)] := hl
  obtain ⟨hx, hb, hr, hml, hown, htL, hlocks⟩ := id C
  have hS : va_S F s.heap s.heap [] := va_S.rf
  generalize hQ : vx_MQ below (fun _ _ _ _ => False) (XQ D (cellsC ct ad S') F n) args s 1 6 F = Q
  refine lv_iload_n hx hb dX9_give_0 rfl (lv_at hl 1 rfl) ?_
  refine lv_ldc (v := -1000000) hx hb hown (htL _ mw_3_4) dX9_give_1 ?_
  refine lv_ldc (v := 1000000) hx hb hown (htL _ mw_3_5) dX9_give_3 ?_
  rcases bE_some hf with ⟨n2, h1, hf⟩ | ⟨_, h1, hf⟩
  · cases hf
    subst hQ
    exact xc_S (As := [.int p0, .int (-1000000), .int (1000000)]) (rest := []) C hl0 hXf hPk (x_X9_needWithin l hl0 D (tysW ct) F _ p0 (-1000000) (1000000) _ h1) hl.1 cp_X9_needWithin mw_3_6 hK hP hS ⟨rfl, rfl⟩ ⟨⟨Nat.le_of_ble_eq_true rfl, Nat.le_of_ble_eq_true rfl⟩, Nat.le_of_ble_eq_true rfl, Nat.le_of_ble_eq_true rfl⟩ rfl rfl (Nat.le_of_ble_eq_true rfl) dX9_give_5
  · skip
    refine pc_S (As := [.int p0, .int (-1000000), .int (1000000)]) (rest := []) C (c_X9_needWithin l p0 (-1000000) (1000000) _ h1) hl.1 cp_X9_needWithin mw_3_6 ⟨rfl, rfl⟩ ⟨Nat.le_of_ble_eq_true rfl, Nat.le_of_ble_eq_true rfl⟩ rfl rfl (Nat.le_of_ble_eq_true rfl) dX9_give_5 ⟨Nat.le_of_ble_eq_true rfl, Nat.le_of_ble_eq_true rfl⟩ ?_
    refine lv_iload_n hx hb dX9_give_8 rfl (lv_at hl 2 rfl) ?_
    refine lv_iconst (v := 1) hx hb dX9_give_9 (by decide) ?_
    refine lv_ldc (v := 1000000) hx hb hown (htL _ mw_3_5) dX9_give_10 ?_
    rcases bE_some hf with ⟨n4, h3, hf⟩ | ⟨_, h3, hf⟩
    · cases hf
      subst hQ
      exact xc_S (As := [.int p1, .int 1, .int (1000000)]) (rest := []) C hl0 hXf hPk (x_X9_needWithin l hl0 D (tysW ct) F _ p1 1 (1000000) _ h3) hl.1 cp_X9_needWithin mw_3_6 hK hP hS ⟨rfl, rfl⟩ ⟨⟨Nat.le_of_ble_eq_true rfl, Nat.le_of_ble_eq_true rfl⟩, Nat.le_of_ble_eq_true rfl, Nat.le_of_ble_eq_true rfl⟩ rfl rfl (Nat.le_of_ble_eq_true rfl) dX9_give_12
    · skip
      refine pc_S (As := [.int p1, .int 1, .int (1000000)]) (rest := []) C (c_X9_needWithin l p1 1 (1000000) _ h3) hl.1 cp_X9_needWithin mw_3_6 ⟨rfl, rfl⟩ ⟨Nat.le_of_ble_eq_true rfl, Nat.le_of_ble_eq_true rfl⟩ rfl rfl (Nat.le_of_ble_eq_true rfl) dX9_give_12 ⟨Nat.le_of_ble_eq_true rfl, Nat.le_of_ble_eq_true rfl⟩ ?_
      refine lv_iload_n hx hb dX9_give_15 rfl (lv_at hl 3 rfl) ?_
      refine lv_bipush (v := (-20)) hx hb dX9_give_16 (by decide) ?_
      refine lv_bipush (v := 20) hx hb dX9_give_18 (by decide) ?_
      rcases bE_some hf with ⟨n6, h5, hf⟩ | ⟨_, h5, hf⟩
      · cases hf
        subst hQ
        exact xc_S (As := [.int p2, .int (-20), .int 20]) (rest := []) C hl0 hXf hPk (x_X9_needWithin l hl0 D (tysW ct) F _ p2 (-20) 20 _ h5) hl.1 cp_X9_needWithin mw_3_6 hK hP hS ⟨rfl, rfl⟩ ⟨⟨Nat.le_of_ble_eq_true rfl, Nat.le_of_ble_eq_true rfl⟩, Nat.le_of_ble_eq_true rfl, Nat.le_of_ble_eq_true rfl⟩ rfl rfl (Nat.le_of_ble_eq_true rfl) dX9_give_20
      · skip
        refine pc_S (As := [.int p2, .int (-20), .int 20]) (rest := []) C (c_X9_needWithin l p2 (-20) 20 _ h5) hl.1 cp_X9_needWithin mw_3_6 ⟨rfl, rfl⟩ ⟨Nat.le_of_ble_eq_true rfl, Nat.le_of_ble_eq_true rfl⟩ rfl rfl (Nat.le_of_ble_eq_true rfl) dX9_give_20 ⟨Nat.le_of_ble_eq_true rfl, Nat.le_of_ble_eq_true rfl⟩ ?_
        refine lv_aload_n hx hb dX9_give_23 rfl (lv_at hl 0 rfl) ?_
        rcases bE_some hf with ⟨n8, h7, hf⟩ | ⟨_, h7, hf⟩
        · cases hf
          subst hQ
          exact xc_V (As := []) (rest := []) C hl0 hXf hPk (x_X9_needRoom l hl0 D ct ad F hG S0  _ h7) hl.1 cp_X9_needRoom mw_3_10 (rc_X9 hK hP) hK hP hS ⟨rfl, rfl⟩ ⟨⟨Nat.le_of_ble_eq_true rfl, Nat.le_of_ble_eq_true rfl⟩, Nat.le_of_ble_eq_true rfl, Nat.le_of_ble_eq_true rfl⟩ rfl rfl (Nat.le_of_ble_eq_true rfl) dX9_give_24
        · skip
          refine hc_V (As := []) (rest := []) C hK (c_X9_needRoom l D ct ad F hG S0   h7) hl.1 cp_X9_needRoom mw_3_10 (rc_X9 hK hP) hP hS ⟨rfl, rfl⟩ ⟨Nat.le_of_ble_eq_true rfl, Nat.le_of_ble_eq_true rfl⟩ rfl rfl (Nat.le_of_ble_eq_true rfl) dX9_give_24 ⟨Nat.le_of_ble_eq_true rfl, Nat.le_of_ble_eq_true rfl⟩ (fun H locs hP hS => ?_)
          refine lv_aload_n hx hb dX9_give_27 rfl (lv_at hl 0 rfl) ?_
          refine gf_X9_0 C hK hP mw_1_212 dX9_give_28 ?_
          refine lv_iload_n hx hb dX9_give_31 rfl (lv_at hl 1 rfl) ?_
          refine lv_iload_n hx hb dX9_give_32 rfl (lv_at hl 2 rfl) ?_
          refine lv_iload_n hx hb dX9_give_33 rfl (lv_at hl 3 rfl) ?_
          obtain ⟨v10, S11, h9, hf⟩ := b2_some hf
          refine hc_V (As := [.int p0, .int p1, .int p2]) (rest := []) C hK (c_X5_addFraction l D ct ad F hG p0 p1 p2 S0  v10 S11 h9) hl.1 cp_X5_addFraction mw_3_34 (rc_X5 hK hP) hP hS ⟨rfl, rfl⟩ ⟨Nat.le_of_ble_eq_true rfl, Nat.le_of_ble_eq_true rfl⟩ rfl rfl (Nat.le_of_ble_eq_true rfl) dX9_give_34 ⟨Nat.le_of_ble_eq_true rfl, Nat.le_of_ble_eq_true rfl⟩ (fun H locs hP hS => ?_)
          cases hf
def rmx_X9_needNumber : Room := { frames := 8, cells := 1, slots := 6, locals := 140 }
set_option maxHeartbeats 4000000 in
set_option maxRecDepth 100000 in
theorem x_X9_needNumber (l : Launch) (hl0 : l.stackTraces = false) (D : va_G) (ct : Nat → ClassId) (ad : Nat → Nat) (F : Nat → Prop) (hG : Gd ad 70 F) (p0 : Int32) (S0 : St)  (n : Nat) (hf : f_X9_needNumber p0 S0 = some (.error n)) : MetX l yX9_needNumber cX9_needNumber 2 none rmx_X9_needNumber D (tysW ct) F [.ref (ad 0), .int p0] (cellsC ct ad S0) (cellsC ct ad S0) n := by
  refine MetX.of RX9 (by decide) rfl (Nat.le_of_ble_eq_true rfl) ?_
  intro p e s m args below meth c C hPk hK hP hXf ls hl
  have hl : lv_has ls 2 [(0, .ref (ad 0)), (1, .int p0)] := hl
  obtain ⟨hx, hb, hr, hml, hown, htL, hlocks⟩ := id C
  have hS : va_S F s.heap s.heap [] := va_S.rf
  generalize hQ : vx_MQ below (fun _ _ _ _ => False) (XQ D (cellsC ct ad S0) F n) args s 1 6 F = Q
  refine lv_iload_n hx hb dX9_needNumber_0 rfl (lv_at hl 1 rfl) ?_
  refine lv_if_lt (tgt := 15) hx hb dX9_needNumber_1 (by decide) (fun c1 => ?_) (fun c1 => ?_)
  · have hf := sp1 c1 hf
    cases hf
    subst hQ
    exact th_IndexOutOfBoundsExceptionW C hl0 hXf hPk hP hS hl.1 mw_3_152 (str_304) ⟨Nat.le_of_ble_eq_true rfl, Nat.le_of_ble_eq_true rfl, Nat.le_of_ble_eq_true rfl, Nat.le_of_ble_eq_true rfl⟩ dX9_needNumber_15 dX9_needNumber_18 dX9_needNumber_19 dX9_needNumber_22 dX9_needNumber_25
  · have hf := sp0 c1 hf
    refine lv_iload_n hx hb dX9_needNumber_4 rfl (lv_at hl 1 rfl) ?_
    refine lv_aload_n hx hb dX9_needNumber_5 rfl (lv_at hl 0 rfl) ?_
    refine gf_X9_0 C hK hP mw_1_212 dX9_needNumber_6 ?_
    refine gf_X5_3 C hK hP mw_1_176 dX9_needNumber_9 ?_
    refine lv_icmp_lt (tgt := 26) hx hb dX9_needNumber_12 (by decide) (fun c2 => ?_) (fun c2 => ?_)
    · have hf := sp1 c2 hf
      cases hf
    · have hf := sp0 c2 hf
      cases hf
      subst hQ
      exact th_IndexOutOfBoundsExceptionW C hl0 hXf hPk hP hS hl.1 mw_3_152 (str_304) ⟨Nat.le_of_ble_eq_true rfl, Nat.le_of_ble_eq_true rfl, Nat.le_of_ble_eq_true rfl, Nat.le_of_ble_eq_true rfl⟩ dX9_needNumber_15 dX9_needNumber_18 dX9_needNumber_19 dX9_needNumber_22 dX9_needNumber_25
def rmx_X9_add : Room := { frames := 9, cells := 1, slots := 6, locals := 198 }
set_option maxHeartbeats 4000000 in
set_option maxRecDepth 100000 in
theorem x_X9_add (l : Launch) (hl0 : l.stackTraces = false) (D : va_G) (ct : Nat → ClassId) (ad : Nat → Nat) (F : Nat → Prop) (hG : Gd ad 70 F) (p0 : Int32) (p1 : Int32) (S0 : St)  (n : Nat) (S' : St) (hf : f_X9_add p0 p1 S0 = some (.error n, S')) : MetX l yX9_add cX9_add 3 (some .int) rmx_X9_add D (tysW ct) F [.ref (ad 0), .int p0, .int p1] (cellsC ct ad S0) (cellsC ct ad S') n := by
  refine MetX.of RX9 (by decide) rfl (Nat.le_of_ble_eq_true rfl) ?_
  intro p e s m args below meth c C hPk hK hP hXf ls hl
  have hl : lv_has ls 3 [(0, .ref (ad 0)), (1, .int p0), (2, .int p1)] := hl
  obtain ⟨hx, hb, hr, hml, hown, htL, hlocks⟩ := id C
  have hS : va_S F s.heap s.heap [] := va_S.rf
  generalize hQ : vx_MQ below (fun _ _ _ _ => False) (XQ D (cellsC ct ad S') F n) args s 1 6 F = Q
  refine lv_aload_n hx hb dX9_add_0 rfl (lv_at hl 0 rfl) ?_
  refine lv_iload_n hx hb dX9_add_1 rfl (lv_at hl 1 rfl) ?_
  rcases bE_some hf with ⟨n2, h1, hf⟩ | ⟨_, h1, hf⟩
  · cases hf
    subst hQ
    exact xc_V (As := [.int p0]) (rest := []) C hl0 hXf hPk (x_X9_needNumber l hl0 D ct ad F hG p0 S0  _ h1) hl.1 cp_X9_needNumber mw_3_148 (rc_X9 hK hP) hK hP hS ⟨rfl, rfl⟩ ⟨⟨Nat.le_of_ble_eq_true rfl, Nat.le_of_ble_eq_true rfl⟩, Nat.le_of_ble_eq_true rfl, Nat.le_of_ble_eq_true rfl⟩ rfl rfl (Nat.le_of_ble_eq_true rfl) dX9_add_2
  · skip
    refine hc_V (As := [.int p0]) (rest := []) C hK (c_X9_needNumber l D ct ad F hG p0 S0   h1) hl.1 cp_X9_needNumber mw_3_148 (rc_X9 hK hP) hP hS ⟨rfl, rfl⟩ ⟨Nat.le_of_ble_eq_true rfl, Nat.le_of_ble_eq_true rfl⟩ rfl rfl (Nat.le_of_ble_eq_true rfl) dX9_add_2 ⟨Nat.le_of_ble_eq_true rfl, Nat.le_of_ble_eq_true rfl⟩ (fun H locs hP hS => ?_)
    refine lv_aload_n hx hb dX9_add_5 rfl (lv_at hl 0 rfl) ?_
    refine lv_iload_n hx hb dX9_add_6 rfl (lv_at hl 2 rfl) ?_
    rcases bE_some hf with ⟨n4, h3, hf⟩ | ⟨_, h3, hf⟩
    · cases hf
      subst hQ
      exact xc_V (As := [.int p1]) (rest := []) C hl0 hXf hPk (x_X9_needNumber l hl0 D ct ad F hG p1 S0  _ h3) hl.1 cp_X9_needNumber mw_3_148 (rc_X9 hK hP) hK hP hS ⟨rfl, rfl⟩ ⟨⟨Nat.le_of_ble_eq_true rfl, Nat.le_of_ble_eq_true rfl⟩, Nat.le_of_ble_eq_true rfl, Nat.le_of_ble_eq_true rfl⟩ rfl rfl (Nat.le_of_ble_eq_true rfl) dX9_add_7
    · skip
      refine hc_V (As := [.int p1]) (rest := []) C hK (c_X9_needNumber l D ct ad F hG p1 S0   h3) hl.1 cp_X9_needNumber mw_3_148 (rc_X9 hK hP) hP hS ⟨rfl, rfl⟩ ⟨Nat.le_of_ble_eq_true rfl, Nat.le_of_ble_eq_true rfl⟩ rfl rfl (Nat.le_of_ble_eq_true rfl) dX9_add_7 ⟨Nat.le_of_ble_eq_true rfl, Nat.le_of_ble_eq_true rfl⟩ (fun H locs hP hS => ?_)
      refine lv_aload_n hx hb dX9_add_10 rfl (lv_at hl 0 rfl) ?_
      rcases bE_some hf with ⟨n6, h5, hf⟩ | ⟨_, h5, hf⟩
      · cases hf
        subst hQ
        exact xc_V (As := []) (rest := []) C hl0 hXf hPk (x_X9_needRoom l hl0 D ct ad F hG S0  _ h5) hl.1 cp_X9_needRoom mw_3_10 (rc_X9 hK hP) hK hP hS ⟨rfl, rfl⟩ ⟨⟨Nat.le_of_ble_eq_true rfl, Nat.le_of_ble_eq_true rfl⟩, Nat.le_of_ble_eq_true rfl, Nat.le_of_ble_eq_true rfl⟩ rfl rfl (Nat.le_of_ble_eq_true rfl) dX9_add_11
      · skip
        refine hc_V (As := []) (rest := []) C hK (c_X9_needRoom l D ct ad F hG S0   h5) hl.1 cp_X9_needRoom mw_3_10 (rc_X9 hK hP) hP hS ⟨rfl, rfl⟩ ⟨Nat.le_of_ble_eq_true rfl, Nat.le_of_ble_eq_true rfl⟩ rfl rfl (Nat.le_of_ble_eq_true rfl) dX9_add_11 ⟨Nat.le_of_ble_eq_true rfl, Nat.le_of_ble_eq_true rfl⟩ (fun H locs hP hS => ?_)
        refine lv_aload_n hx hb dX9_add_14 rfl (lv_at hl 0 rfl) ?_
        refine gf_X9_0 C hK hP mw_1_212 dX9_add_15 ?_
        refine lv_iconst (v := 1) hx hb dX9_add_18 (by decide) ?_
        refine lv_iload_n hx hb dX9_add_19 rfl (lv_at hl 1 rfl) ?_
        refine lv_iload_n hx hb dX9_add_20 rfl (lv_at hl 2 rfl) ?_
        obtain ⟨v8, S9, h7, hf⟩ := b2_some hf
        refine hc_V (As := [.int 1, .int p0, .int p1]) (rest := []) C hK (c_X5_addMade l D ct ad F hG 1 p0 p1 S0  v8 S9 h7) hl.1 cp_X5_addMade mw_3_165 (rc_X5 hK hP) hP hS ⟨rfl, rfl⟩ ⟨Nat.le_of_ble_eq_true rfl, Nat.le_of_ble_eq_true rfl⟩ rfl rfl (Nat.le_of_ble_eq_true rfl) dX9_add_21 ⟨Nat.le_of_ble_eq_true rfl, Nat.le_of_ble_eq_true rfl⟩ (fun H locs hP hS => ?_)
        cases hf
def rmx_X9_subtract : Room := { frames := 9, cells := 1, slots := 6, locals := 198 }
set_option maxHeartbeats 4000000 in
set_option maxRecDepth 100000 in
theorem x_X9_subtract (l : Launch) (hl0 : l.stackTraces = false) (D : va_G) (ct : Nat → ClassId) (ad : Nat → Nat) (F : Nat → Prop) (hG : Gd ad 70 F) (p0 : Int32) (p1 : Int32) (S0 : St)  (n : Nat) (S' : St) (hf : f_X9_subtract p0 p1 S0 = some (.error n, S')) : MetX l yX9_subtract cX9_subtract 3 (some .int) rmx_X9_subtract D (tysW ct) F [.ref (ad 0), .int p0, .int p1] (cellsC ct ad S0) (cellsC ct ad S') n := by
  refine MetX.of RX9 (by decide) rfl (Nat.le_of_ble_eq_true rfl) ?_
  intro p e s m args below meth c C hPk hK hP hXf ls hl
  have hl : lv_has ls 3 [(0, .ref (ad 0)), (1, .int p0), (2, .int p1)] := hl
  obtain ⟨hx, hb, hr, hml, hown, htL, hlocks⟩ := id C
  have hS : va_S F s.heap s.heap [] := va_S.rf
  generalize hQ : vx_MQ below (fun _ _ _ _ => False) (XQ D (cellsC ct ad S') F n) args s 1 6 F = Q
  refine lv_aload_n hx hb dX9_subtract_0 rfl (lv_at hl 0 rfl) ?_
  refine lv_iload_n hx hb dX9_subtract_1 rfl (lv_at hl 1 rfl) ?_
  rcases bE_some hf with ⟨n2, h1, hf⟩ | ⟨_, h1, hf⟩
  · cases hf
    subst hQ
    exact xc_V (As := [.int p0]) (rest := []) C hl0 hXf hPk (x_X9_needNumber l hl0 D ct ad F hG p0 S0  _ h1) hl.1 cp_X9_needNumber mw_3_148 (rc_X9 hK hP) hK hP hS ⟨rfl, rfl⟩ ⟨⟨Nat.le_of_ble_eq_true rfl, Nat.le_of_ble_eq_true rfl⟩, Nat.le_of_ble_eq_true rfl, Nat.le_of_ble_eq_true rfl⟩ rfl rfl (Nat.le_of_ble_eq_true rfl) dX9_subtract_2
  · skip
    refine hc_V (As := [.int p0]) (rest := []) C hK (c_X9_needNumber l D ct ad F hG p0 S0   h1) hl.1 cp_X9_needNumber mw_3_148 (rc_X9 hK hP) hP hS ⟨rfl, rfl⟩ ⟨Nat.le_of_ble_eq_true rfl, Nat.le_of_ble_eq_true rfl⟩ rfl rfl (Nat.le_of_ble_eq_true rfl) dX9_subtract_2 ⟨Nat.le_of_ble_eq_true rfl, Nat.le_of_ble_eq_true rfl⟩ (fun H locs hP hS => ?_)
    refine lv_aload_n hx hb dX9_subtract_5 rfl (lv_at hl 0 rfl) ?_
    refine lv_iload_n hx hb dX9_subtract_6 rfl (lv_at hl 2 rfl) ?_
    rcases bE_some hf with ⟨n4, h3, hf⟩ | ⟨_, h3, hf⟩
    · cases hf
      subst hQ
      exact xc_V (As := [.int p1]) (rest := []) C hl0 hXf hPk (x_X9_needNumber l hl0 D ct ad F hG p1 S0  _ h3) hl.1 cp_X9_needNumber mw_3_148 (rc_X9 hK hP) hK hP hS ⟨rfl, rfl⟩ ⟨⟨Nat.le_of_ble_eq_true rfl, Nat.le_of_ble_eq_true rfl⟩, Nat.le_of_ble_eq_true rfl, Nat.le_of_ble_eq_true rfl⟩ rfl rfl (Nat.le_of_ble_eq_true rfl) dX9_subtract_7
    · skip
      refine hc_V (As := [.int p1]) (rest := []) C hK (c_X9_needNumber l D ct ad F hG p1 S0   h3) hl.1 cp_X9_needNumber mw_3_148 (rc_X9 hK hP) hP hS ⟨rfl, rfl⟩ ⟨Nat.le_of_ble_eq_true rfl, Nat.le_of_ble_eq_true rfl⟩ rfl rfl (Nat.le_of_ble_eq_true rfl) dX9_subtract_7 ⟨Nat.le_of_ble_eq_true rfl, Nat.le_of_ble_eq_true rfl⟩ (fun H locs hP hS => ?_)
      refine lv_aload_n hx hb dX9_subtract_10 rfl (lv_at hl 0 rfl) ?_
      rcases bE_some hf with ⟨n6, h5, hf⟩ | ⟨_, h5, hf⟩
      · cases hf
        subst hQ
        exact xc_V (As := []) (rest := []) C hl0 hXf hPk (x_X9_needRoom l hl0 D ct ad F hG S0  _ h5) hl.1 cp_X9_needRoom mw_3_10 (rc_X9 hK hP) hK hP hS ⟨rfl, rfl⟩ ⟨⟨Nat.le_of_ble_eq_true rfl, Nat.le_of_ble_eq_true rfl⟩, Nat.le_of_ble_eq_true rfl, Nat.le_of_ble_eq_true rfl⟩ rfl rfl (Nat.le_of_ble_eq_true rfl) dX9_subtract_11
      · skip
        refine hc_V (As := []) (rest := []) C hK (c_X9_needRoom l D ct ad F hG S0   h5) hl.1 cp_X9_needRoom mw_3_10 (rc_X9 hK hP) hP hS ⟨rfl, rfl⟩ ⟨Nat.le_of_ble_eq_true rfl, Nat.le_of_ble_eq_true rfl⟩ rfl rfl (Nat.le_of_ble_eq_true rfl) dX9_subtract_11 ⟨Nat.le_of_ble_eq_true rfl, Nat.le_of_ble_eq_true rfl⟩ (fun H locs hP hS => ?_)
        refine lv_aload_n hx hb dX9_subtract_14 rfl (lv_at hl 0 rfl) ?_
        refine gf_X9_0 C hK hP mw_1_212 dX9_subtract_15 ?_
        refine lv_iconst (v := 2) hx hb dX9_subtract_18 (by decide) ?_
        refine lv_iload_n hx hb dX9_subtract_19 rfl (lv_at hl 1 rfl) ?_
        refine lv_iload_n hx hb dX9_subtract_20 rfl (lv_at hl 2 rfl) ?_
        obtain ⟨v8, S9, h7, hf⟩ := b2_some hf
        refine hc_V (As := [.int 2, .int p0, .int p1]) (rest := []) C hK (c_X5_addMade l D ct ad F hG 2 p0 p1 S0  v8 S9 h7) hl.1 cp_X5_addMade mw_3_165 (rc_X5 hK hP) hP hS ⟨rfl, rfl⟩ ⟨Nat.le_of_ble_eq_true rfl, Nat.le_of_ble_eq_true rfl⟩ rfl rfl (Nat.le_of_ble_eq_true rfl) dX9_subtract_21 ⟨Nat.le_of_ble_eq_true rfl, Nat.le_of_ble_eq_true rfl⟩ (fun H locs hP hS => ?_)
        cases hf
def rmx_X9_multiply : Room := { frames := 9, cells := 1, slots := 6, locals := 198 }
set_option maxHeartbeats 4000000 in
set_option maxRecDepth 100000 in
theorem x_X9_multiply (l : Launch) (hl0 : l.stackTraces = false) (D : va_G) (ct : Nat → ClassId) (ad : Nat → Nat) (F : Nat → Prop) (hG : Gd ad 70 F) (p0 : Int32) (p1 : Int32) (S0 : St)  (n : Nat) (S' : St) (hf : f_X9_multiply p0 p1 S0 = some (.error n, S')) : MetX l yX9_multiply cX9_multiply 3 (some .int) rmx_X9_multiply D (tysW ct) F [.ref (ad 0), .int p0, .int p1] (cellsC ct ad S0) (cellsC ct ad S') n := by
  refine MetX.of RX9 (by decide) rfl (Nat.le_of_ble_eq_true rfl) ?_
  intro p e s m args below meth c C hPk hK hP hXf ls hl
  have hl : lv_has ls 3 [(0, .ref (ad 0)), (1, .int p0), (2, .int p1)] := hl
  obtain ⟨hx, hb, hr, hml, hown, htL, hlocks⟩ := id C
  have hS : va_S F s.heap s.heap [] := va_S.rf
  generalize hQ : vx_MQ below (fun _ _ _ _ => False) (XQ D (cellsC ct ad S') F n) args s 1 6 F = Q
  refine lv_aload_n hx hb dX9_multiply_0 rfl (lv_at hl 0 rfl) ?_
  refine lv_iload_n hx hb dX9_multiply_1 rfl (lv_at hl 1 rfl) ?_
  rcases bE_some hf with ⟨n2, h1, hf⟩ | ⟨_, h1, hf⟩
  · cases hf
    subst hQ
    exact xc_V (As := [.int p0]) (rest := []) C hl0 hXf hPk (x_X9_needNumber l hl0 D ct ad F hG p0 S0  _ h1) hl.1 cp_X9_needNumber mw_3_148 (rc_X9 hK hP) hK hP hS ⟨rfl, rfl⟩ ⟨⟨Nat.le_of_ble_eq_true rfl, Nat.le_of_ble_eq_true rfl⟩, Nat.le_of_ble_eq_true rfl, Nat.le_of_ble_eq_true rfl⟩ rfl rfl (Nat.le_of_ble_eq_true rfl) dX9_multiply_2
  · skip
    refine hc_V (As := [.int p0]) (rest := []) C hK (c_X9_needNumber l D ct ad F hG p0 S0   h1) hl.1 cp_X9_needNumber mw_3_148 (rc_X9 hK hP) hP hS ⟨rfl, rfl⟩ ⟨Nat.le_of_ble_eq_true rfl, Nat.le_of_ble_eq_true rfl⟩ rfl rfl (Nat.le_of_ble_eq_true rfl) dX9_multiply_2 ⟨Nat.le_of_ble_eq_true rfl, Nat.le_of_ble_eq_true rfl⟩ (fun H locs hP hS => ?_)
    refine lv_aload_n hx hb dX9_multiply_5 rfl (lv_at hl 0 rfl) ?_
    refine lv_iload_n hx hb dX9_multiply_6 rfl (lv_at hl 2 rfl) ?_
    rcases bE_some hf with ⟨n4, h3, hf⟩ | ⟨_, h3, hf⟩
    · cases hf
      subst hQ
      exact xc_V (As := [.int p1]) (rest := []) C hl0 hXf hPk (x_X9_needNumber l hl0 D ct ad F hG p1 S0  _ h3) hl.1 cp_X9_needNumber mw_3_148 (rc_X9 hK hP) hK hP hS ⟨rfl, rfl⟩ ⟨⟨Nat.le_of_ble_eq_true rfl, Nat.le_of_ble_eq_true rfl⟩, Nat.le_of_ble_eq_true rfl, Nat.le_of_ble_eq_true rfl⟩ rfl rfl (Nat.le_of_ble_eq_true rfl) dX9_multiply_7
    · skip
      refine hc_V (As := [.int p1]) (rest := []) C hK (c_X9_needNumber l D ct ad F hG p1 S0   h3) hl.1 cp_X9_needNumber mw_3_148 (rc_X9 hK hP) hP hS ⟨rfl, rfl⟩ ⟨Nat.le_of_ble_eq_true rfl, Nat.le_of_ble_eq_true rfl⟩ rfl rfl (Nat.le_of_ble_eq_true rfl) dX9_multiply_7 ⟨Nat.le_of_ble_eq_true rfl, Nat.le_of_ble_eq_true rfl⟩ (fun H locs hP hS => ?_)
      refine lv_aload_n hx hb dX9_multiply_10 rfl (lv_at hl 0 rfl) ?_
      refine gf_X9_0 C hK hP mw_1_212 dX9_multiply_11 ?_
      refine lv_iload_n hx hb dX9_multiply_14 rfl (lv_at hl 1 rfl) ?_
      obtain ⟨v6, h5, hf⟩ := b1_some hf
      refine hc_V (As := [.int p0]) (rest := []) C hK (c_X5_numbered l D ct ad F hG p0 S0  v6 h5) hl.1 cp_X5_numbered mw_3_197 (rc_X5 hK hP) hP hS ⟨rfl, rfl⟩ ⟨Nat.le_of_ble_eq_true rfl, Nat.le_of_ble_eq_true rfl⟩ rfl rfl (Nat.le_of_ble_eq_true rfl) dX9_multiply_15 ⟨Nat.le_of_ble_eq_true rfl, Nat.le_of_ble_eq_true rfl⟩ (fun H locs hP hS => ?_)
      obtain ⟨c7, hf⟩ := spy hf
      refine gf_X3_8 C hK hP c7 mw_1_130 dX9_multiply_18 ?_
      refine lv_aload_n hx hb dX9_multiply_21 rfl (lv_at hl 0 rfl) ?_
      refine gf_X9_0 C hK hP mw_1_212 dX9_multiply_22 ?_
      refine lv_iload_n hx hb dX9_multiply_25 rfl (lv_at hl 2 rfl) ?_
      obtain ⟨v9, h8, hf⟩ := b1_some hf
      refine hc_V (As := [.int p1]) (rest := [.int (S0.1 (12 + v6) 8)]) C hK (c_X5_numbered l D ct ad F hG p1 S0  v9 h8) hl.1 cp_X5_numbered mw_3_197 (rc_X5 hK hP) hP hS ⟨rfl, rfl⟩ ⟨Nat.le_of_ble_eq_true rfl, Nat.le_of_ble_eq_true rfl⟩ rfl rfl (Nat.le_of_ble_eq_true rfl) dX9_multiply_26 ⟨Nat.le_of_ble_eq_true rfl, Nat.le_of_ble_eq_true rfl⟩ (fun H locs hP hS => ?_)
      obtain ⟨c10, hf⟩ := spy hf
      refine gf_X3_8 C hK hP c10 mw_1_130 dX9_multiply_29 ?_
      refine lv_iadd hx hb dX9_multiply_32 ?_
      refine lv_bipush (v := (-60)) hx hb dX9_multiply_33 (by decide) ?_
      refine lv_icmp_ge (tgt := 48) hx hb dX9_multiply_35 (by decide) (fun c11 => ?_) (fun c11 => ?_)
      · have hf := sp1 c11 hf
        refine lv_aload_n hx hb dX9_multiply_48 rfl (lv_at hl 0 rfl) ?_
        rcases bE_some hf with ⟨n13, h12, hf⟩ | ⟨_, h12, hf⟩
        · cases hf
          subst hQ
          exact xc_V (As := []) (rest := []) C hl0 hXf hPk (x_X9_needRoom l hl0 D ct ad F hG S0  _ h12) hl.1 cp_X9_needRoom mw_3_10 (rc_X9 hK hP) hK hP hS ⟨rfl, rfl⟩ ⟨⟨Nat.le_of_ble_eq_true rfl, Nat.le_of_ble_eq_true rfl⟩, Nat.le_of_ble_eq_true rfl, Nat.le_of_ble_eq_true rfl⟩ rfl rfl (Nat.le_of_ble_eq_true rfl) dX9_multiply_49
        · skip
          refine hc_V (As := []) (rest := []) C hK (c_X9_needRoom l D ct ad F hG S0   h12) hl.1 cp_X9_needRoom mw_3_10 (rc_X9 hK hP) hP hS ⟨rfl, rfl⟩ ⟨Nat.le_of_ble_eq_true rfl, Nat.le_of_ble_eq_true rfl⟩ rfl rfl (Nat.le_of_ble_eq_true rfl) dX9_multiply_49 ⟨Nat.le_of_ble_eq_true rfl, Nat.le_of_ble_eq_true rfl⟩ (fun H locs hP hS => ?_)
          refine lv_aload_n hx hb dX9_multiply_52 rfl (lv_at hl 0 rfl) ?_
          refine gf_X9_0 C hK hP mw_1_212 dX9_multiply_53 ?_
          refine lv_iconst (v := 3) hx hb dX9_multiply_56 (by decide) ?_
          refine lv_iload_n hx hb dX9_multiply_57 rfl (lv_at hl 1 rfl) ?_
          refine lv_iload_n hx hb dX9_multiply_58 rfl (lv_at hl 2 rfl) ?_
          obtain ⟨v15, S16, h14, hf⟩ := b2_some hf
          refine hc_V (As := [.int 3, .int p0, .int p1]) (rest := []) C hK (c_X5_addMade l D ct ad F hG 3 p0 p1 S0  v15 S16 h14) hl.1 cp_X5_addMade mw_3_165 (rc_X5 hK hP) hP hS ⟨rfl, rfl⟩ ⟨Nat.le_of_ble_eq_true rfl, Nat.le_of_ble_eq_true rfl⟩ rfl rfl (Nat.le_of_ble_eq_true rfl) dX9_multiply_59 ⟨Nat.le_of_ble_eq_true rfl, Nat.le_of_ble_eq_true rfl⟩ (fun H locs hP hS => ?_)
          cases hf
      · have hf := sp0 c11 hf
        cases hf
        subst hQ
        exact th_ArithmeticException C hl0 hXf hPk hP hS hl.1 mw_3_198 (str_91) ⟨Nat.le_of_ble_eq_true rfl, Nat.le_of_ble_eq_true rfl, Nat.le_of_ble_eq_true rfl, Nat.le_of_ble_eq_true rfl⟩ dX9_multiply_38 dX9_multiply_41 dX9_multiply_42 dX9_multiply_44 dX9_multiply_47
def rmx_X9_divide : Room := { frames := 9, cells := 1, slots := 6, locals := 198 }
set_option maxHeartbeats 4000000 in
set_option maxRecDepth 100000 in
theorem x_X9_divide (l : Launch) (hl0 : l.stackTraces = false) (D : va_G) (ct : Nat → ClassId) (ad : Nat → Nat) (F : Nat → Prop) (hG : Gd ad 70 F) (p0 : Int32) (p1 : Int32) (S0 : St)  (n : Nat) (S' : St) (hf : f_X9_divide p0 p1 S0 = some (.error n, S')) : MetX l yX9_divide cX9_divide 4 (some .int) rmx_X9_divide D (tysW ct) F [.ref (ad 0), .int p0, .int p1] (cellsC ct ad S0) (cellsC ct ad S') n := by
  refine MetX.of RX9 (by decide) rfl (Nat.le_of_ble_eq_true rfl) ?_
  intro p e s m args below meth c C hPk hK hP hXf ls hl
  have hl : lv_has ls 4 [(0, .ref (ad 0)), (1, .int p0), (2, .int p1)] := hl
  obtain ⟨hx, hb, hr, hml, hown, htL, hlocks⟩ := id C
  have hS : va_S F s.heap s.heap [] := va_S.rf
  generalize hQ : vx_MQ below (fun _ _ _ _ => False) (XQ D (cellsC ct ad S') F n) args s 1 6 F = Q
  refine lv_aload_n hx hb dX9_divide_0 rfl (lv_at hl 0 rfl) ?_
  refine lv_iload_n hx hb dX9_divide_1 rfl (lv_at hl 1 rfl) ?_
  rcases bE_some hf with ⟨n2, h1, hf⟩ | ⟨_, h1, hf⟩
  · cases hf
    subst hQ
    exact xc_V (As := [.int p0]) (rest := []) C hl0 hXf hPk (x_X9_needNumber l hl0 D ct ad F hG p0 S0  _ h1) hl.1 cp_X9_needNumber mw_3_148 (rc_X9 hK hP) hK hP hS ⟨rfl, rfl⟩ ⟨⟨Nat.le_of_ble_eq_true rfl, Nat.le_of_ble_eq_true rfl⟩, Nat.le_of_ble_eq_true rfl, Nat.le_of_ble_eq_true rfl⟩ rfl rfl (Nat.le_of_ble_eq_true rfl) dX9_divide_2
  · skip
    refine hc_V (As := [.int p0]) (rest := []) C hK (c_X9_needNumber l D ct ad F hG p0 S0   h1) hl.1 cp_X9_needNumber mw_3_148 (rc_X9 hK hP) hP hS ⟨rfl, rfl⟩ ⟨Nat.le_of_ble_eq_true rfl, Nat.le_of_ble_eq_true rfl⟩ rfl rfl (Nat.le_of_ble_eq_true rfl) dX9_divide_2 ⟨Nat.le_of_ble_eq_true rfl, Nat.le_of_ble_eq_true rfl⟩ (fun H locs hP hS => ?_)
    refine lv_aload_n hx hb dX9_divide_5 rfl (lv_at hl 0 rfl) ?_
    refine lv_iload_n hx hb dX9_divide_6 rfl (lv_at hl 2 rfl) ?_
    rcases bE_some hf with ⟨n4, h3, hf⟩ | ⟨_, h3, hf⟩
    · cases hf
      subst hQ
      exact xc_V (As := [.int p1]) (rest := []) C hl0 hXf hPk (x_X9_needNumber l hl0 D ct ad F hG p1 S0  _ h3) hl.1 cp_X9_needNumber mw_3_148 (rc_X9 hK hP) hK hP hS ⟨rfl, rfl⟩ ⟨⟨Nat.le_of_ble_eq_true rfl, Nat.le_of_ble_eq_true rfl⟩, Nat.le_of_ble_eq_true rfl, Nat.le_of_ble_eq_true rfl⟩ rfl rfl (Nat.le_of_ble_eq_true rfl) dX9_divide_7
    · skip
      refine hc_V (As := [.int p1]) (rest := []) C hK (c_X9_needNumber l D ct ad F hG p1 S0   h3) hl.1 cp_X9_needNumber mw_3_148 (rc_X9 hK hP) hP hS ⟨rfl, rfl⟩ ⟨Nat.le_of_ble_eq_true rfl, Nat.le_of_ble_eq_true rfl⟩ rfl rfl (Nat.le_of_ble_eq_true rfl) dX9_divide_7 ⟨Nat.le_of_ble_eq_true rfl, Nat.le_of_ble_eq_true rfl⟩ (fun H locs hP hS => ?_)
      refine lv_aload_n hx hb dX9_divide_10 rfl (lv_at hl 0 rfl) ?_
      refine gf_X9_0 C hK hP mw_1_212 dX9_divide_11 ?_
      refine lv_iload_n hx hb dX9_divide_14 rfl (lv_at hl 2 rfl) ?_
      obtain ⟨v6, h5, hf⟩ := b1_some hf
      refine hc_V (As := [.int p1]) (rest := []) C hK (c_X5_numbered l D ct ad F hG p1 S0  v6 h5) hl.1 cp_X5_numbered mw_3_197 (rc_X5 hK hP) hP hS ⟨rfl, rfl⟩ ⟨Nat.le_of_ble_eq_true rfl, Nat.le_of_ble_eq_true rfl⟩ rfl rfl (Nat.le_of_ble_eq_true rfl) dX9_divide_15 ⟨Nat.le_of_ble_eq_true rfl, Nat.le_of_ble_eq_true rfl⟩ (fun H locs hP hS => ?_)
      obtain ⟨c7, hf⟩ := spy hf
      refine lv_astore_n (lv' := [(3, .ref (ad (12 + v6))), (0, .ref (ad 0)), (1, .int p0), (2, .int p1)]) hx hb dX9_divide_18 rfl hl (by decide) rfl (fun ls hl => ?_)
      refine lv_aload_n hx hb dX9_divide_19 rfl (lv_at hl 0 rfl) ?_
      obtain ⟨v9, h8, hf⟩ := b1_some hf
      refine hc_V (As := []) (rest := []) C hK (c_X3_isNothing l D ct ad F hG v6 S0 c7 v9 h8) hl.1 cp_X3_isNothing mw_3_208 (rc_X3 hK hP c7) hP hS ⟨rfl, rfl⟩ ⟨Nat.le_of_ble_eq_true rfl, Nat.le_of_ble_eq_true rfl⟩ rfl rfl (Nat.le_of_ble_eq_true rfl) dX9_divide_20 ⟨Nat.le_of_ble_eq_true rfl, Nat.le_of_ble_eq_true rfl⟩ (fun H locs hP hS => ?_)
      refine lv_if_eq (tgt := 36) hx hb dX9_divide_23 (by decide) (fun c10 => ?_) (fun c10 => ?_)
      · have hf := sp1 c10 hf
        refine lv_aload_n hx hb dX9_divide_36 rfl (lv_at hl 1 rfl) ?_
        refine gf_X9_0 C hK hP mw_1_212 dX9_divide_37 ?_
        refine lv_iload_n hx hb dX9_divide_40 rfl (lv_at hl 2 rfl) ?_
        obtain ⟨v12, h11, hf⟩ := b1_some hf
        refine hc_V (As := [.int p0]) (rest := []) C hK (c_X5_numbered l D ct ad F hG p0 S0  v12 h11) hl.1 cp_X5_numbered mw_3_197 (rc_X5 hK hP) hP hS ⟨rfl, rfl⟩ ⟨Nat.le_of_ble_eq_true rfl, Nat.le_of_ble_eq_true rfl⟩ rfl rfl (Nat.le_of_ble_eq_true rfl) dX9_divide_41 ⟨Nat.le_of_ble_eq_true rfl, Nat.le_of_ble_eq_true rfl⟩ (fun H locs hP hS => ?_)
        obtain ⟨c13, hf⟩ := spy hf
        refine gf_X3_8 C hK hP c13 mw_1_130 dX9_divide_44 ?_
        refine lv_aload_n hx hb dX9_divide_47 rfl (lv_at hl 0 rfl) ?_
        refine gf_X3_8 C hK hP c7 mw_1_130 dX9_divide_48 ?_
        refine lv_isub hx hb dX9_divide_51 ?_
        refine lv_bipush (v := (-60)) hx hb dX9_divide_52 (by decide) ?_
        refine lv_icmp_ge (tgt := 67) hx hb dX9_divide_54 (by decide) (fun c14 => ?_) (fun c14 => ?_)
        · have hf := sp1 c14 hf
          refine lv_aload_n hx hb dX9_divide_67 rfl (lv_at hl 1 rfl) ?_
          rcases bE_some hf with ⟨n16, h15, hf⟩ | ⟨_, h15, hf⟩
          · cases hf
            subst hQ
            exact xc_V (As := []) (rest := []) C hl0 hXf hPk (x_X9_needRoom l hl0 D ct ad F hG S0  _ h15) hl.1 cp_X9_needRoom mw_3_10 (rc_X9 hK hP) hK hP hS ⟨rfl, rfl⟩ ⟨⟨Nat.le_of_ble_eq_true rfl, Nat.le_of_ble_eq_true rfl⟩, Nat.le_of_ble_eq_true rfl, Nat.le_of_ble_eq_true rfl⟩ rfl rfl (Nat.le_of_ble_eq_true rfl) dX9_divide_68
          · skip
            refine hc_V (As := []) (rest := []) C hK (c_X9_needRoom l D ct ad F hG S0   h15) hl.1 cp_X9_needRoom mw_3_10 (rc_X9 hK hP) hP hS ⟨rfl, rfl⟩ ⟨Nat.le_of_ble_eq_true rfl, Nat.le_of_ble_eq_true rfl⟩ rfl rfl (Nat.le_of_ble_eq_true rfl) dX9_divide_68 ⟨Nat.le_of_ble_eq_true rfl, Nat.le_of_ble_eq_true rfl⟩ (fun H locs hP hS => ?_)
            refine lv_aload_n hx hb dX9_divide_71 rfl (lv_at hl 1 rfl) ?_
            refine gf_X9_0 C hK hP mw_1_212 dX9_divide_72 ?_
            refine lv_iconst (v := 4) hx hb dX9_divide_75 (by decide) ?_
            refine lv_iload_n hx hb dX9_divide_76 rfl (lv_at hl 2 rfl) ?_
            refine lv_iload_n hx hb dX9_divide_77 rfl (lv_at hl 3 rfl) ?_
            obtain ⟨v18, S19, h17, hf⟩ := b2_some hf
            refine hc_V (As := [.int 4, .int p0, .int p1]) (rest := []) C hK (c_X5_addMade l D ct ad F hG 4 p0 p1 S0  v18 S19 h17) hl.1 cp_X5_addMade mw_3_165 (rc_X5 hK hP) hP hS ⟨rfl, rfl⟩ ⟨Nat.le_of_ble_eq_true rfl, Nat.le_of_ble_eq_true rfl⟩ rfl rfl (Nat.le_of_ble_eq_true rfl) dX9_divide_78 ⟨Nat.le_of_ble_eq_true rfl, Nat.le_of_ble_eq_true rfl⟩ (fun H locs hP hS => ?_)
            cases hf
        · have hf := sp0 c14 hf
          cases hf
          subst hQ
          exact th_ArithmeticException C hl0 hXf hPk hP hS hl.1 mw_3_198 (str_91) ⟨Nat.le_of_ble_eq_true rfl, Nat.le_of_ble_eq_true rfl, Nat.le_of_ble_eq_true rfl, Nat.le_of_ble_eq_true rfl⟩ dX9_divide_57 dX9_divide_60 dX9_divide_61 dX9_divide_63 dX9_divide_66
      · have hf := sp0 c10 hf
        cases hf
        subst hQ
        exact th_ArithmeticException C hl0 hXf hPk hP hS hl.1 mw_3_198 (str_98) ⟨Nat.le_of_ble_eq_true rfl, Nat.le_of_ble_eq_true rfl, Nat.le_of_ble_eq_true rfl, Nat.le_of_ble_eq_true rfl⟩ dX9_divide_26 dX9_divide_29 dX9_divide_30 dX9_divide_32 dX9_divide_35
def rmx_X9_root : Room := { frames := 9, cells := 1, slots := 6, locals := 198 }
set_option maxHeartbeats 4000000 in
set_option maxRecDepth 100000 in
theorem x_X9_root (l : Launch) (hl0 : l.stackTraces = false) (D : va_G) (ct : Nat → ClassId) (ad : Nat → Nat) (F : Nat → Prop) (hG : Gd ad 70 F) (p0 : Int32) (S0 : St)  (n : Nat) (S' : St) (hf : f_X9_root p0 S0 = some (.error n, S')) : MetX l yX9_root cX9_root 2 (some .int) rmx_X9_root D (tysW ct) F [.ref (ad 0), .int p0] (cellsC ct ad S0) (cellsC ct ad S') n := by
  refine MetX.of RX9 (by decide) rfl (Nat.le_of_ble_eq_true rfl) ?_
  intro p e s m args below meth c C hPk hK hP hXf ls hl
  have hl : lv_has ls 2 [(0, .ref (ad 0)), (1, .int p0)] := hl
  obtain ⟨hx, hb, hr, hml, hown, htL, hlocks⟩ := id C
  have hS : va_S F s.heap s.heap [] := va_S.rf
  generalize hQ : vx_MQ below (fun _ _ _ _ => False) (XQ D (cellsC ct ad S') F n) args s 1 6 F = Q
  refine lv_aload_n hx hb dX9_root_0 rfl (lv_at hl 0 rfl) ?_
  refine lv_iload_n hx hb dX9_root_1 rfl (lv_at hl 1 rfl) ?_
  rcases bE_some hf with ⟨n2, h1, hf⟩ | ⟨_, h1, hf⟩
  · cases hf
    subst hQ
    exact xc_V (As := [.int p0]) (rest := []) C hl0 hXf hPk (x_X9_needNumber l hl0 D ct ad F hG p0 S0  _ h1) hl.1 cp_X9_needNumber mw_3_148 (rc_X9 hK hP) hK hP hS ⟨rfl, rfl⟩ ⟨⟨Nat.le_of_ble_eq_true rfl, Nat.le_of_ble_eq_true rfl⟩, Nat.le_of_ble_eq_true rfl, Nat.le_of_ble_eq_true rfl⟩ rfl rfl (Nat.le_of_ble_eq_true rfl) dX9_root_2
  · skip
    refine hc_V (As := [.int p0]) (rest := []) C hK (c_X9_needNumber l D ct ad F hG p0 S0   h1) hl.1 cp_X9_needNumber mw_3_148 (rc_X9 hK hP) hP hS ⟨rfl, rfl⟩ ⟨Nat.le_of_ble_eq_true rfl, Nat.le_of_ble_eq_true rfl⟩ rfl rfl (Nat.le_of_ble_eq_true rfl) dX9_root_2 ⟨Nat.le_of_ble_eq_true rfl, Nat.le_of_ble_eq_true rfl⟩ (fun H locs hP hS => ?_)
    refine lv_aload_n hx hb dX9_root_5 rfl (lv_at hl 0 rfl) ?_
    refine gf_X9_0 C hK hP mw_1_212 dX9_root_6 ?_
    refine lv_aload_n hx hb dX9_root_9 rfl (lv_at hl 0 rfl) ?_
    refine gf_X9_0 C hK hP mw_1_212 dX9_root_10 ?_
    refine lv_iload_n hx hb dX9_root_13 rfl (lv_at hl 1 rfl) ?_
    obtain ⟨v4, h3, hf⟩ := b1_some hf
    refine hc_V (As := [.int p0]) (rest := [.ref (ad 1)]) C hK (c_X5_numbered l D ct ad F hG p0 S0  v4 h3) hl.1 cp_X5_numbered mw_3_197 (rc_X5 hK hP) hP hS ⟨rfl, rfl⟩ ⟨Nat.le_of_ble_eq_true rfl, Nat.le_of_ble_eq_true rfl⟩ rfl rfl (Nat.le_of_ble_eq_true rfl) dX9_root_14 ⟨Nat.le_of_ble_eq_true rfl, Nat.le_of_ble_eq_true rfl⟩ (fun H locs hP hS => ?_)
    obtain ⟨c5, hf⟩ := spy hf
    obtain ⟨v7, h6, hf⟩ := b1_some hf
    refine hc_V (As := [.ref (ad (12 + v4))]) (rest := []) C hK (c_X5_hasSquareRoot l D ct ad F hG v4 S0 c5 v7 h6) hl.1 cp_X5_hasSquareRoot mw_3_217 (rc_X5 hK hP) hP hS ⟨rfl, rfl⟩ ⟨Nat.le_of_ble_eq_true rfl, Nat.le_of_ble_eq_true rfl⟩ rfl rfl (Nat.le_of_ble_eq_true rfl) dX9_root_17 ⟨Nat.le_of_ble_eq_true rfl, Nat.le_of_ble_eq_true rfl⟩ (fun H locs hP hS => ?_)
    refine lv_if_ne (tgt := 33) hx hb dX9_root_20 (by decide) (fun c8 => ?_) (fun c8 => ?_)
    · have hf := sp0 c8 hf
      refine lv_aload_n hx hb dX9_root_33 rfl (lv_at hl 0 rfl) ?_
      rcases bE_some hf with ⟨n10, h9, hf⟩ | ⟨_, h9, hf⟩
      · cases hf
        subst hQ
        exact xc_V (As := []) (rest := []) C hl0 hXf hPk (x_X9_needRoom l hl0 D ct ad F hG S0  _ h9) hl.1 cp_X9_needRoom mw_3_10 (rc_X9 hK hP) hK hP hS ⟨rfl, rfl⟩ ⟨⟨Nat.le_of_ble_eq_true rfl, Nat.le_of_ble_eq_true rfl⟩, Nat.le_of_ble_eq_true rfl, Nat.le_of_ble_eq_true rfl⟩ rfl rfl (Nat.le_of_ble_eq_true rfl) dX9_root_34
      · skip
        refine hc_V (As := []) (rest := []) C hK (c_X9_needRoom l D ct ad F hG S0   h9) hl.1 cp_X9_needRoom mw_3_10 (rc_X9 hK hP) hP hS ⟨rfl, rfl⟩ ⟨Nat.le_of_ble_eq_true rfl, Nat.le_of_ble_eq_true rfl⟩ rfl rfl (Nat.le_of_ble_eq_true rfl) dX9_root_34 ⟨Nat.le_of_ble_eq_true rfl, Nat.le_of_ble_eq_true rfl⟩ (fun H locs hP hS => ?_)
        refine lv_aload_n hx hb dX9_root_37 rfl (lv_at hl 0 rfl) ?_
        refine gf_X9_0 C hK hP mw_1_212 dX9_root_38 ?_
        refine lv_iconst (v := 5) hx hb dX9_root_41 (by decide) ?_
        refine lv_iload_n hx hb dX9_root_42 rfl (lv_at hl 1 rfl) ?_
        refine lv_iconst (v := (-1)) hx hb dX9_root_43 (by decide) ?_
        obtain ⟨v12, S13, h11, hf⟩ := b2_some hf
        refine hc_V (As := [.int 5, .int p0, .int (-1)]) (rest := []) C hK (c_X5_addMade l D ct ad F hG 5 p0 (-1) S0  v12 S13 h11) hl.1 cp_X5_addMade mw_3_165 (rc_X5 hK hP) hP hS ⟨rfl, rfl⟩ ⟨Nat.le_of_ble_eq_true rfl, Nat.le_of_ble_eq_true rfl⟩ rfl rfl (Nat.le_of_ble_eq_true rfl) dX9_root_44 ⟨Nat.le_of_ble_eq_true rfl, Nat.le_of_ble_eq_true rfl⟩ (fun H locs hP hS => ?_)
        cases hf
    · have hf := sp1 c8 hf
      cases hf
      subst hQ
      exact th_UnsupportedOperationException C hl0 hXf hPk hP hS hl.1 mw_2_219 (str_104) ⟨Nat.le_of_ble_eq_true rfl, Nat.le_of_ble_eq_true rfl, Nat.le_of_ble_eq_true rfl, Nat.le_of_ble_eq_true rfl⟩ dX9_root_23 dX9_root_26 dX9_root_27 dX9_root_29 dX9_root_32
def rmx_X9_unity : Room := { frames := 9, cells := 1, slots := 6, locals := 198 }
set_option maxHeartbeats 4000000 in
set_option maxRecDepth 100000 in
theorem x_X9_unity (l : Launch) (hl0 : l.stackTraces = false) (D : va_G) (ct : Nat → ClassId) (ad : Nat → Nat) (F : Nat → Prop) (hG : Gd ad 70 F) (p0 : Int32) (S0 : St)  (n : Nat) (S' : St) (hf : f_X9_unity p0 S0 = some (.error n, S')) : MetX l yX9_unity cX9_unity 3 (some .int) rmx_X9_unity D (tysW ct) F [.ref (ad 0), .int p0] (cellsC ct ad S0) (cellsC ct ad S') n := by
  refine MetX.of RX9 (by decide) rfl (Nat.le_of_ble_eq_true rfl) ?_
  intro p e s m args below meth c C hPk hK hP hXf ls hl
  have hl : lv_has ls 3 [(0, .ref (ad 0)), (1, .int p0)] := hl
  obtain ⟨hx, hb, hr, hml, hown, htL, hlocks⟩ := id C
  have hS : va_S F s.heap s.heap [] := va_S.rf
  generalize hQ : vx_MQ below (fun _ _ _ _ => False) (XQ D (cellsC ct ad S') F n) args s 1 6 F = Q
  refine lv_aload_n hx hb dX9_unity_0 rfl (lv_at hl 0 rfl) ?_
  refine lv_iload_n hx hb dX9_unity_1 rfl (lv_at hl 1 rfl) ?_
  rcases bE_some hf with ⟨n2, h1, hf⟩ | ⟨_, h1, hf⟩
  · cases hf
    subst hQ
    exact xc_V (As := [.int p0]) (rest := []) C hl0 hXf hPk (x_X9_needNumber l hl0 D ct ad F hG p0 S0  _ h1) hl.1 cp_X9_needNumber mw_3_148 (rc_X9 hK hP) hK hP hS ⟨rfl, rfl⟩ ⟨⟨Nat.le_of_ble_eq_true rfl, Nat.le_of_ble_eq_true rfl⟩, Nat.le_of_ble_eq_true rfl, Nat.le_of_ble_eq_true rfl⟩ rfl rfl (Nat.le_of_ble_eq_true rfl) dX9_unity_2
  · skip
    refine hc_V (As := [.int p0]) (rest := []) C hK (c_X9_needNumber l D ct ad F hG p0 S0   h1) hl.1 cp_X9_needNumber mw_3_148 (rc_X9 hK hP) hP hS ⟨rfl, rfl⟩ ⟨Nat.le_of_ble_eq_true rfl, Nat.le_of_ble_eq_true rfl⟩ rfl rfl (Nat.le_of_ble_eq_true rfl) dX9_unity_2 ⟨Nat.le_of_ble_eq_true rfl, Nat.le_of_ble_eq_true rfl⟩ (fun H locs hP hS => ?_)
    refine lv_aload_n hx hb dX9_unity_5 rfl (lv_at hl 0 rfl) ?_
    refine gf_X9_0 C hK hP mw_1_212 dX9_unity_6 ?_
    refine lv_iload_n hx hb dX9_unity_9 rfl (lv_at hl 1 rfl) ?_
    obtain ⟨v4, h3, hf⟩ := b1_some hf
    refine hc_V (As := [.int p0]) (rest := []) C hK (c_X5_numbered l D ct ad F hG p0 S0  v4 h3) hl.1 cp_X5_numbered mw_3_197 (rc_X5 hK hP) hP hS ⟨rfl, rfl⟩ ⟨Nat.le_of_ble_eq_true rfl, Nat.le_of_ble_eq_true rfl⟩ rfl rfl (Nat.le_of_ble_eq_true rfl) dX9_unity_10 ⟨Nat.le_of_ble_eq_true rfl, Nat.le_of_ble_eq_true rfl⟩ (fun H locs hP hS => ?_)
    obtain ⟨c5, hf⟩ := spy hf
    refine lv_astore_n (lv' := [(2, .ref (ad (12 + v4))), (0, .ref (ad 0)), (1, .int p0)]) hx hb dX9_unity_13 rfl hl (by decide) rfl (fun ls hl => ?_)
    refine lv_aload_n hx hb dX9_unity_14 rfl (lv_at hl 0 rfl) ?_
    obtain ⟨v7, h6, hf⟩ := b1_some hf
    refine hc_V (As := []) (rest := []) C hK (c_X3_isNothing l D ct ad F hG v4 S0 c5 v7 h6) hl.1 cp_X3_isNothing mw_3_208 (rc_X3 hK hP c5) hP hS ⟨rfl, rfl⟩ ⟨Nat.le_of_ble_eq_true rfl, Nat.le_of_ble_eq_true rfl⟩ rfl rfl (Nat.le_of_ble_eq_true rfl) dX9_unity_15 ⟨Nat.le_of_ble_eq_true rfl, Nat.le_of_ble_eq_true rfl⟩ (fun H locs hP hS => ?_)
    refine lv_if_ne (tgt := 28) hx hb dX9_unity_18 (by decide) (fun c8 => ?_) (fun c8 => ?_)
    · have hf := sp0 c8 hf
      cases hf
      subst hQ
      exact th_UnsupportedOperationException C hl0 hXf hPk hP hS hl.1 mw_2_219 (str_106) ⟨Nat.le_of_ble_eq_true rfl, Nat.le_of_ble_eq_true rfl, Nat.le_of_ble_eq_true rfl, Nat.le_of_ble_eq_true rfl⟩ dX9_unity_28 dX9_unity_31 dX9_unity_32 dX9_unity_34 dX9_unity_37
    · have hf := sp1 c8 hf
      refine lv_aload_n hx hb dX9_unity_21 rfl (lv_at hl 0 rfl) ?_
      refine gf_X3_8 C hK hP c5 mw_1_130 dX9_unity_22 ?_
      refine lv_if_eq (tgt := 38) hx hb dX9_unity_25 (by decide) (fun c9 => ?_) (fun c9 => ?_)
      · have hf := sp1 c9 hf
        refine lv_aload_n hx hb dX9_unity_38 rfl (lv_at hl 1 rfl) ?_
        rcases bE_some hf with ⟨n11, h10, hf⟩ | ⟨_, h10, hf⟩
        · cases hf
          subst hQ
          exact xc_V (As := []) (rest := []) C hl0 hXf hPk (x_X9_needRoom l hl0 D ct ad F hG S0  _ h10) hl.1 cp_X9_needRoom mw_3_10 (rc_X9 hK hP) hK hP hS ⟨rfl, rfl⟩ ⟨⟨Nat.le_of_ble_eq_true rfl, Nat.le_of_ble_eq_true rfl⟩, Nat.le_of_ble_eq_true rfl, Nat.le_of_ble_eq_true rfl⟩ rfl rfl (Nat.le_of_ble_eq_true rfl) dX9_unity_39
        · skip
          refine hc_V (As := []) (rest := []) C hK (c_X9_needRoom l D ct ad F hG S0   h10) hl.1 cp_X9_needRoom mw_3_10 (rc_X9 hK hP) hP hS ⟨rfl, rfl⟩ ⟨Nat.le_of_ble_eq_true rfl, Nat.le_of_ble_eq_true rfl⟩ rfl rfl (Nat.le_of_ble_eq_true rfl) dX9_unity_39 ⟨Nat.le_of_ble_eq_true rfl, Nat.le_of_ble_eq_true rfl⟩ (fun H locs hP hS => ?_)
          refine lv_aload_n hx hb dX9_unity_42 rfl (lv_at hl 1 rfl) ?_
          refine gf_X9_0 C hK hP mw_1_212 dX9_unity_43 ?_
          refine lv_bipush (v := 6) hx hb dX9_unity_46 (by decide) ?_
          refine lv_iload_n hx hb dX9_unity_48 rfl (lv_at hl 2 rfl) ?_
          refine lv_iconst (v := (-1)) hx hb dX9_unity_49 (by decide) ?_
          obtain ⟨v13, S14, h12, hf⟩ := b2_some hf
          refine hc_V (As := [.int 6, .int p0, .int (-1)]) (rest := []) C hK (c_X5_addMade l D ct ad F hG 6 p0 (-1) S0  v13 S14 h12) hl.1 cp_X5_addMade mw_3_165 (rc_X5 hK hP) hP hS ⟨rfl, rfl⟩ ⟨Nat.le_of_ble_eq_true rfl, Nat.le_of_ble_eq_true rfl⟩ rfl rfl (Nat.le_of_ble_eq_true rfl) dX9_unity_50 ⟨Nat.le_of_ble_eq_true rfl, Nat.le_of_ble_eq_true rfl⟩ (fun H locs hP hS => ?_)
          cases hf
      · have hf := sp0 c9 hf
        cases hf
        subst hQ
        exact th_UnsupportedOperationException C hl0 hXf hPk hP hS hl.1 mw_2_219 (str_106) ⟨Nat.le_of_ble_eq_true rfl, Nat.le_of_ble_eq_true rfl, Nat.le_of_ble_eq_true rfl, Nat.le_of_ble_eq_true rfl⟩ dX9_unity_28 dX9_unity_31 dX9_unity_32 dX9_unity_34 dX9_unity_37
def rmx_X9_precision : Room := { frames := 9, cells := 1, slots := 6, locals := 165 }
set_option maxHeartbeats 4000000 in
set_option maxRecDepth 100000 in
theorem x_X9_precision (l : Launch) (hl0 : l.stackTraces = false) (D : va_G) (ct : Nat → ClassId) (ad : Nat → Nat) (F : Nat → Prop) (hG : Gd ad 70 F) (p0 : Int32) (S0 : St)  (n : Nat) (hf : f_X9_precision p0 S0 = some (.error n)) : MetX l yX9_precision cX9_precision 2 (some .int) rmx_X9_precision D (tysW ct) F [.ref (ad 0), .int p0] (cellsC ct ad S0) (cellsC ct ad S0) n := by
  refine MetX.of RX9 (by decide) rfl (Nat.le_of_ble_eq_true rfl) ?_
  intro p e s m args below meth c C hPk hK hP hXf ls hl
  have hl : lv_has ls 2 [(0, .ref (ad 0)), (1, .int p0)] := hl
  obtain ⟨hx, hb, hr, hml, hown, htL, hlocks⟩ := id C
  have hS : va_S F s.heap s.heap [] := va_S.rf
  generalize hQ : vx_MQ below (fun _ _ _ _ => False) (XQ D (cellsC ct ad S0) F n) args s 1 6 F = Q
  refine lv_aload_n hx hb dX9_precision_0 rfl (lv_at hl 0 rfl) ?_
  refine lv_iload_n hx hb dX9_precision_1 rfl (lv_at hl 1 rfl) ?_
  rcases bE_some hf with ⟨n2, h1, hf⟩ | ⟨_, h1, hf⟩
  · cases hf
    subst hQ
    exact xc_V (As := [.int p0]) (rest := []) C hl0 hXf hPk (x_X9_needNumber l hl0 D ct ad F hG p0 S0  _ h1) hl.1 cp_X9_needNumber mw_3_148 (rc_X9 hK hP) hK hP hS ⟨rfl, rfl⟩ ⟨⟨Nat.le_of_ble_eq_true rfl, Nat.le_of_ble_eq_true rfl⟩, Nat.le_of_ble_eq_true rfl, Nat.le_of_ble_eq_true rfl⟩ rfl rfl (Nat.le_of_ble_eq_true rfl) dX9_precision_2
  · skip
    refine hc_V (As := [.int p0]) (rest := []) C hK (c_X9_needNumber l D ct ad F hG p0 S0   h1) hl.1 cp_X9_needNumber mw_3_148 (rc_X9 hK hP) hP hS ⟨rfl, rfl⟩ ⟨Nat.le_of_ble_eq_true rfl, Nat.le_of_ble_eq_true rfl⟩ rfl rfl (Nat.le_of_ble_eq_true rfl) dX9_precision_2 ⟨Nat.le_of_ble_eq_true rfl, Nat.le_of_ble_eq_true rfl⟩ (fun H locs hP hS => ?_)
    refine lv_aload_n hx hb dX9_precision_5 rfl (lv_at hl 0 rfl) ?_
    refine gf_X9_0 C hK hP mw_1_212 dX9_precision_6 ?_
    refine lv_iload_n hx hb dX9_precision_9 rfl (lv_at hl 1 rfl) ?_
    obtain ⟨v4, h3, hf⟩ := b1_some hf
    refine hc_V (As := [.int p0]) (rest := []) C hK (c_X5_numbered l D ct ad F hG p0 S0  v4 h3) hl.1 cp_X5_numbered mw_3_197 (rc_X5 hK hP) hP hS ⟨rfl, rfl⟩ ⟨Nat.le_of_ble_eq_true rfl, Nat.le_of_ble_eq_true rfl⟩ rfl rfl (Nat.le_of_ble_eq_true rfl) dX9_precision_10 ⟨Nat.le_of_ble_eq_true rfl, Nat.le_of_ble_eq_true rfl⟩ (fun H locs hP hS => ?_)
    obtain ⟨c5, hf⟩ := spy hf
    refine gf_X3_9 C hK hP c5 mw_1_134 dX9_precision_13 ?_
    cases hf
def rmx_X9_valuation : Room := { frames := 9, cells := 1, slots := 6, locals := 165 }
set_option maxHeartbeats 4000000 in
set_option maxRecDepth 100000 in
theorem x_X9_valuation (l : Launch) (hl0 : l.stackTraces = false) (D : va_G) (ct : Nat → ClassId) (ad : Nat → Nat) (F : Nat → Prop) (hG : Gd ad 70 F) (p0 : Int32) (S0 : St)  (n : Nat) (hf : f_X9_valuation p0 S0 = some (.error n)) : MetX l yX9_valuation cX9_valuation 2 (some .int) rmx_X9_valuation D (tysW ct) F [.ref (ad 0), .int p0] (cellsC ct ad S0) (cellsC ct ad S0) n := by
  refine MetX.of RX9 (by decide) rfl (Nat.le_of_ble_eq_true rfl) ?_
  intro p e s m args below meth c C hPk hK hP hXf ls hl
  have hl : lv_has ls 2 [(0, .ref (ad 0)), (1, .int p0)] := hl
  obtain ⟨hx, hb, hr, hml, hown, htL, hlocks⟩ := id C
  have hS : va_S F s.heap s.heap [] := va_S.rf
  generalize hQ : vx_MQ below (fun _ _ _ _ => False) (XQ D (cellsC ct ad S0) F n) args s 1 6 F = Q
  refine lv_aload_n hx hb dX9_valuation_0 rfl (lv_at hl 0 rfl) ?_
  refine lv_iload_n hx hb dX9_valuation_1 rfl (lv_at hl 1 rfl) ?_
  rcases bE_some hf with ⟨n2, h1, hf⟩ | ⟨_, h1, hf⟩
  · cases hf
    subst hQ
    exact xc_V (As := [.int p0]) (rest := []) C hl0 hXf hPk (x_X9_needNumber l hl0 D ct ad F hG p0 S0  _ h1) hl.1 cp_X9_needNumber mw_3_148 (rc_X9 hK hP) hK hP hS ⟨rfl, rfl⟩ ⟨⟨Nat.le_of_ble_eq_true rfl, Nat.le_of_ble_eq_true rfl⟩, Nat.le_of_ble_eq_true rfl, Nat.le_of_ble_eq_true rfl⟩ rfl rfl (Nat.le_of_ble_eq_true rfl) dX9_valuation_2
  · skip
    refine hc_V (As := [.int p0]) (rest := []) C hK (c_X9_needNumber l D ct ad F hG p0 S0   h1) hl.1 cp_X9_needNumber mw_3_148 (rc_X9 hK hP) hP hS ⟨rfl, rfl⟩ ⟨Nat.le_of_ble_eq_true rfl, Nat.le_of_ble_eq_true rfl⟩ rfl rfl (Nat.le_of_ble_eq_true rfl) dX9_valuation_2 ⟨Nat.le_of_ble_eq_true rfl, Nat.le_of_ble_eq_true rfl⟩ (fun H locs hP hS => ?_)
    refine lv_aload_n hx hb dX9_valuation_5 rfl (lv_at hl 0 rfl) ?_
    refine gf_X9_0 C hK hP mw_1_212 dX9_valuation_6 ?_
    refine lv_iload_n hx hb dX9_valuation_9 rfl (lv_at hl 1 rfl) ?_
    obtain ⟨v4, h3, hf⟩ := b1_some hf
    refine hc_V (As := [.int p0]) (rest := []) C hK (c_X5_numbered l D ct ad F hG p0 S0  v4 h3) hl.1 cp_X5_numbered mw_3_197 (rc_X5 hK hP) hP hS ⟨rfl, rfl⟩ ⟨Nat.le_of_ble_eq_true rfl, Nat.le_of_ble_eq_true rfl⟩ rfl rfl (Nat.le_of_ble_eq_true rfl) dX9_valuation_10 ⟨Nat.le_of_ble_eq_true rfl, Nat.le_of_ble_eq_true rfl⟩ (fun H locs hP hS => ?_)
    obtain ⟨c5, hf⟩ := spy hf
    refine gf_X3_8 C hK hP c5 mw_1_130 dX9_valuation_13 ?_
    cases hf
def rmx_X9_digit : Room := { frames := 9, cells := 1, slots := 6, locals := 165 }
set_option maxHeartbeats 4000000 in
set_option maxRecDepth 100000 in
theorem x_X9_digit (l : Launch) (hl0 : l.stackTraces = false) (D : va_G) (ct : Nat → ClassId) (ad : Nat → Nat) (F : Nat → Prop) (hG : Gd ad 70 F) (p0 : Int32) (p1 : Int32) (S0 : St)  (n : Nat) (hf : f_X9_digit p0 p1 S0 = some (.error n)) : MetX l yX9_digit cX9_digit 4 (some .int) rmx_X9_digit D (tysW ct) F [.ref (ad 0), .int p0, .int p1] (cellsC ct ad S0) (cellsC ct ad S0) n := by
  refine MetX.of RX9 (by decide) rfl (Nat.le_of_ble_eq_true rfl) ?_
  intro p e s m args below meth c C hPk hK hP hXf ls hl
  have hl : lv_has ls 4 [(0, .ref (ad 0)), (1, .int p0), (2, .int p1)] := hl
  obtain ⟨hx, hb, hr, hml, hown, htL, hlocks⟩ := id C
  have hS : va_S F s.heap s.heap [] := va_S.rf
  generalize hQ : vx_MQ below (fun _ _ _ _ => False) (XQ D (cellsC ct ad S0) F n) args s 1 6 F = Q
  refine lv_aload_n hx hb dX9_digit_0 rfl (lv_at hl 0 rfl) ?_
  refine lv_iload_n hx hb dX9_digit_1 rfl (lv_at hl 1 rfl) ?_
  rcases bE_some hf with ⟨n2, h1, hf⟩ | ⟨_, h1, hf⟩
  · cases hf
    subst hQ
    exact xc_V (As := [.int p0]) (rest := []) C hl0 hXf hPk (x_X9_needNumber l hl0 D ct ad F hG p0 S0  _ h1) hl.1 cp_X9_needNumber mw_3_148 (rc_X9 hK hP) hK hP hS ⟨rfl, rfl⟩ ⟨⟨Nat.le_of_ble_eq_true rfl, Nat.le_of_ble_eq_true rfl⟩, Nat.le_of_ble_eq_true rfl, Nat.le_of_ble_eq_true rfl⟩ rfl rfl (Nat.le_of_ble_eq_true rfl) dX9_digit_2
  · skip
    refine hc_V (As := [.int p0]) (rest := []) C hK (c_X9_needNumber l D ct ad F hG p0 S0   h1) hl.1 cp_X9_needNumber mw_3_148 (rc_X9 hK hP) hP hS ⟨rfl, rfl⟩ ⟨Nat.le_of_ble_eq_true rfl, Nat.le_of_ble_eq_true rfl⟩ rfl rfl (Nat.le_of_ble_eq_true rfl) dX9_digit_2 ⟨Nat.le_of_ble_eq_true rfl, Nat.le_of_ble_eq_true rfl⟩ (fun H locs hP hS => ?_)
    refine lv_aload_n hx hb dX9_digit_5 rfl (lv_at hl 0 rfl) ?_
    refine gf_X9_0 C hK hP mw_1_212 dX9_digit_6 ?_
    refine lv_iload_n hx hb dX9_digit_9 rfl (lv_at hl 1 rfl) ?_
    obtain ⟨v4, h3, hf⟩ := b1_some hf
    refine hc_V (As := [.int p0]) (rest := []) C hK (c_X5_numbered l D ct ad F hG p0 S0  v4 h3) hl.1 cp_X5_numbered mw_3_197 (rc_X5 hK hP) hP hS ⟨rfl, rfl⟩ ⟨Nat.le_of_ble_eq_true rfl, Nat.le_of_ble_eq_true rfl⟩ rfl rfl (Nat.le_of_ble_eq_true rfl) dX9_digit_10 ⟨Nat.le_of_ble_eq_true rfl, Nat.le_of_ble_eq_true rfl⟩ (fun H locs hP hS => ?_)
    obtain ⟨c5, hf⟩ := spy hf
    refine lv_astore_n (lv' := [(3, .ref (ad (12 + v4))), (0, .ref (ad 0)), (1, .int p0), (2, .int p1)]) hx hb dX9_digit_13 rfl hl (by decide) rfl (fun ls hl => ?_)
    refine lv_iload_n hx hb dX9_digit_14 rfl (lv_at hl 3 rfl) ?_
    refine lv_aload_n hx hb dX9_digit_15 rfl (lv_at hl 0 rfl) ?_
    refine gf_X3_9 C hK hP c5 mw_1_134 dX9_digit_16 ?_
    refine lv_icmp_lt (tgt := 32) hx hb dX9_digit_19 (by decide) (fun c6 => ?_) (fun c6 => ?_)
    · have hf := sp1 c6 hf
      refine lv_aload_n hx hb dX9_digit_32 rfl (lv_at hl 1 rfl) ?_
      refine gf_X9_0 C hK hP mw_1_212 dX9_digit_33 ?_
      refine lv_aload_n hx hb dX9_digit_36 rfl (lv_at hl 0 rfl) ?_
      refine lv_iload_n hx hb dX9_digit_37 rfl (lv_at hl 3 rfl) ?_
      obtain ⟨v8, h7, hf⟩ := b1_some hf
      refine hc_V (As := [.ref (ad (12 + v4)), .int p1]) (rest := []) C hK (c_X5_digitOf l D ct ad F hG v4 p1 S0 c5 v8 h7) hl.1 cp_X5_digitOf mw_4_29 (rc_X5 hK hP) hP hS ⟨rfl, rfl⟩ ⟨Nat.le_of_ble_eq_true rfl, Nat.le_of_ble_eq_true rfl⟩ rfl rfl (Nat.le_of_ble_eq_true rfl) dX9_digit_38 ⟨Nat.le_of_ble_eq_true rfl, Nat.le_of_ble_eq_true rfl⟩ (fun H locs hP hS => ?_)
      cases hf
    · have hf := sp0 c6 hf
      cases hf
      subst hQ
      exact th_NoSuchElementException C hl0 hXf hPk hP hS hl.1 mw_4_13 (str_113) ⟨Nat.le_of_ble_eq_true rfl, Nat.le_of_ble_eq_true rfl, Nat.le_of_ble_eq_true rfl, Nat.le_of_ble_eq_true rfl⟩ dX9_digit_22 dX9_digit_25 dX9_digit_26 dX9_digit_28 dX9_digit_31
def rmx_X9_refine : Room := { frames := 9, cells := 1, slots := 6, locals := 197 }
set_option maxHeartbeats 4000000 in
set_option maxRecDepth 100000 in
theorem x_X9_refine (l : Launch) (hl0 : l.stackTraces = false) (D : va_G) (ct : Nat → ClassId) (ad : Nat → Nat) (F : Nat → Prop) (hG : Gd ad 70 F) (p0 : Int32) (p1 : Int32) (S0 : St)  (n : Nat) (S' : St) (hf : f_X9_refine p0 p1 S0 = some (.error n, S')) : MetX l yX9_refine cX9_refine 3 (some .int) rmx_X9_refine D (tysW ct) F [.ref (ad 0), .int p0, .int p1] (cellsC ct ad S0) (cellsC ct ad S') n := by
  refine MetX.of RX9 (by decide) rfl (Nat.le_of_ble_eq_true rfl) ?_
  intro p e s m args below meth c C hPk hK hP hXf ls hl
  have hl : lv_has ls 3 [(0, .ref (ad 0)), (1, .int p0), (2, .int p1)] := hl
  obtain ⟨hx, hb, hr, hml, hown, htL, hlocks⟩ := id C
  have hS : va_S F s.heap s.heap [] := va_S.rf
  generalize hQ : vx_MQ below (fun _ _ _ _ => False) (XQ D (cellsC ct ad S') F n) args s 1 6 F = Q
  refine lv_aload_n hx hb dX9_refine_0 rfl (lv_at hl 0 rfl) ?_
  refine lv_iload_n hx hb dX9_refine_1 rfl (lv_at hl 1 rfl) ?_
  rcases bE_some hf with ⟨n2, h1, hf⟩ | ⟨_, h1, hf⟩
  · cases hf
    subst hQ
    exact xc_V (As := [.int p0]) (rest := []) C hl0 hXf hPk (x_X9_needNumber l hl0 D ct ad F hG p0 S0  _ h1) hl.1 cp_X9_needNumber mw_3_148 (rc_X9 hK hP) hK hP hS ⟨rfl, rfl⟩ ⟨⟨Nat.le_of_ble_eq_true rfl, Nat.le_of_ble_eq_true rfl⟩, Nat.le_of_ble_eq_true rfl, Nat.le_of_ble_eq_true rfl⟩ rfl rfl (Nat.le_of_ble_eq_true rfl) dX9_refine_2
  · skip
    refine hc_V (As := [.int p0]) (rest := []) C hK (c_X9_needNumber l D ct ad F hG p0 S0   h1) hl.1 cp_X9_needNumber mw_3_148 (rc_X9 hK hP) hP hS ⟨rfl, rfl⟩ ⟨Nat.le_of_ble_eq_true rfl, Nat.le_of_ble_eq_true rfl⟩ rfl rfl (Nat.le_of_ble_eq_true rfl) dX9_refine_2 ⟨Nat.le_of_ble_eq_true rfl, Nat.le_of_ble_eq_true rfl⟩ (fun H locs hP hS => ?_)
    refine lv_iload_n hx hb dX9_refine_5 rfl (lv_at hl 2 rfl) ?_
    refine lv_iconst (v := 1) hx hb dX9_refine_6 (by decide) ?_
    refine lv_bipush (v := 20) hx hb dX9_refine_7 (by decide) ?_
    rcases bE_some hf with ⟨n4, h3, hf⟩ | ⟨_, h3, hf⟩
    · cases hf
      subst hQ
      exact xc_S (As := [.int p1, .int 1, .int 20]) (rest := []) C hl0 hXf hPk (x_X9_needWithin l hl0 D (tysW ct) F _ p1 1 20 _ h3) hl.1 cp_X9_needWithin mw_3_6 hK hP hS ⟨rfl, rfl⟩ ⟨⟨Nat.le_of_ble_eq_true rfl, Nat.le_of_ble_eq_true rfl⟩, Nat.le_of_ble_eq_true rfl, Nat.le_of_ble_eq_true rfl⟩ rfl rfl (Nat.le_of_ble_eq_true rfl) dX9_refine_9
    · skip
      refine pc_S (As := [.int p1, .int 1, .int 20]) (rest := []) C (c_X9_needWithin l p1 1 20 _ h3) hl.1 cp_X9_needWithin mw_3_6 ⟨rfl, rfl⟩ ⟨Nat.le_of_ble_eq_true rfl, Nat.le_of_ble_eq_true rfl⟩ rfl rfl (Nat.le_of_ble_eq_true rfl) dX9_refine_9 ⟨Nat.le_of_ble_eq_true rfl, Nat.le_of_ble_eq_true rfl⟩ ?_
      refine lv_aload_n hx hb dX9_refine_12 rfl (lv_at hl 0 rfl) ?_
      refine gf_X9_0 C hK hP mw_1_212 dX9_refine_13 ?_
      refine lv_iload_n hx hb dX9_refine_16 rfl (lv_at hl 1 rfl) ?_
      obtain ⟨v6, S7, h5, hf⟩ := b2_some hf
      refine hc_V (As := [.int p0]) (rest := []) C hK (c_X5_markFractionsUnder l D ct ad F hG p0 S0  v6 S7 h5) hl.1 cp_X5_markFractionsUnder mw_4_40 (rc_X5 hK hP) hP hS ⟨rfl, rfl⟩ ⟨Nat.le_of_ble_eq_true rfl, Nat.le_of_ble_eq_true rfl⟩ rfl rfl (Nat.le_of_ble_eq_true rfl) dX9_refine_17 ⟨Nat.le_of_ble_eq_true rfl, Nat.le_of_ble_eq_true rfl⟩ (fun H locs hP hS => ?_)
      refine lv_if_ne (tgt := 33) hx hb dX9_refine_20 (by decide) (fun c8 => ?_) (fun c8 => ?_)
      · have hf := sp0 c8 hf
        refine lv_aload_n hx hb dX9_refine_33 rfl (lv_at hl 0 rfl) ?_
        refine gf_X9_0 C hK hP mw_1_212 dX9_refine_34 ?_
        refine lv_iload_n hx hb dX9_refine_37 rfl (lv_at hl 2 rfl) ?_
        obtain ⟨S10, h9, hf⟩ := b1_some hf
        refine hc_V (As := [.int p1]) (rest := []) C hK (c_X5_findMore l D ct ad F hG p1 S7  S10 h9) hl.1 cp_X5_findMore mw_4_49 (rc_X5 hK hP) hP hS ⟨rfl, rfl⟩ ⟨Nat.le_of_ble_eq_true rfl, Nat.le_of_ble_eq_true rfl⟩ rfl rfl (Nat.le_of_ble_eq_true rfl) dX9_refine_38 ⟨Nat.le_of_ble_eq_true rfl, Nat.le_of_ble_eq_true rfl⟩ (fun H locs hP hS => ?_)
        refine lv_aload_n hx hb dX9_refine_41 rfl (lv_at hl 0 rfl) ?_
        refine gf_X9_0 C hK hP mw_1_212 dX9_refine_42 ?_
        refine lv_iload_n hx hb dX9_refine_45 rfl (lv_at hl 1 rfl) ?_
        obtain ⟨v12, h11, hf⟩ := b1_some hf
        refine hc_V (As := [.int p0]) (rest := []) C hK (c_X5_numbered l D ct ad F hG p0 S10  v12 h11) hl.1 cp_X5_numbered mw_3_197 (rc_X5 hK hP) hP hS ⟨rfl, rfl⟩ ⟨Nat.le_of_ble_eq_true rfl, Nat.le_of_ble_eq_true rfl⟩ rfl rfl (Nat.le_of_ble_eq_true rfl) dX9_refine_46 ⟨Nat.le_of_ble_eq_true rfl, Nat.le_of_ble_eq_true rfl⟩ (fun H locs hP hS => ?_)
        obtain ⟨c13, hf⟩ := spy hf
        refine gf_X3_9 C hK hP c13 mw_1_134 dX9_refine_49 ?_
        cases hf
      · have hf := sp1 c8 hf
        cases hf
        subst hQ
        exact th_UnsupportedOperationException C hl0 hXf hPk hP hS hl.1 mw_2_219 (str_123) ⟨Nat.le_of_ble_eq_true rfl, Nat.le_of_ble_eq_true rfl, Nat.le_of_ble_eq_true rfl, Nat.le_of_ble_eq_true rfl⟩ dX9_refine_23 dX9_refine_26 dX9_refine_27 dX9_refine_29 dX9_refine_32
def rmx_X9_like : Room := { frames := 9, cells := 1, slots := 6, locals := 165 }
set_option maxHeartbeats 4000000 in
set_option maxRecDepth 100000 in
theorem x_X9_like (l : Launch) (hl0 : l.stackTraces = false) (D : va_G) (ct : Nat → ClassId) (ad : Nat → Nat) (F : Nat → Prop) (hG : Gd ad 70 F) (p0 : Int32) (S0 : St)  (n : Nat) (hf : f_X9_like p0 S0 = some (.error n)) : MetX l yX9_like cX9_like 2 (some .int) rmx_X9_like D (tysW ct) F [.ref (ad 0), .int p0] (cellsC ct ad S0) (cellsC ct ad S0) n := by
  refine MetX.of RX9 (by decide) rfl (Nat.le_of_ble_eq_true rfl) ?_
  intro p e s m args below meth c C hPk hK hP hXf ls hl
  have hl : lv_has ls 2 [(0, .ref (ad 0)), (1, .int p0)] := hl
  obtain ⟨hx, hb, hr, hml, hown, htL, hlocks⟩ := id C
  have hS : va_S F s.heap s.heap [] := va_S.rf
  generalize hQ : vx_MQ below (fun _ _ _ _ => False) (XQ D (cellsC ct ad S0) F n) args s 1 6 F = Q
  refine lv_aload_n hx hb dX9_like_0 rfl (lv_at hl 0 rfl) ?_
  refine lv_iload_n hx hb dX9_like_1 rfl (lv_at hl 1 rfl) ?_
  rcases bE_some hf with ⟨n2, h1, hf⟩ | ⟨_, h1, hf⟩
  · cases hf
    subst hQ
    exact xc_V (As := [.int p0]) (rest := []) C hl0 hXf hPk (x_X9_needNumber l hl0 D ct ad F hG p0 S0  _ h1) hl.1 cp_X9_needNumber mw_3_148 (rc_X9 hK hP) hK hP hS ⟨rfl, rfl⟩ ⟨⟨Nat.le_of_ble_eq_true rfl, Nat.le_of_ble_eq_true rfl⟩, Nat.le_of_ble_eq_true rfl, Nat.le_of_ble_eq_true rfl⟩ rfl rfl (Nat.le_of_ble_eq_true rfl) dX9_like_2
  · skip
    refine hc_V (As := [.int p0]) (rest := []) C hK (c_X9_needNumber l D ct ad F hG p0 S0   h1) hl.1 cp_X9_needNumber mw_3_148 (rc_X9 hK hP) hP hS ⟨rfl, rfl⟩ ⟨Nat.le_of_ble_eq_true rfl, Nat.le_of_ble_eq_true rfl⟩ rfl rfl (Nat.le_of_ble_eq_true rfl) dX9_like_2 ⟨Nat.le_of_ble_eq_true rfl, Nat.le_of_ble_eq_true rfl⟩ (fun H locs hP hS => ?_)
    refine lv_aload_n hx hb dX9_like_5 rfl (lv_at hl 0 rfl) ?_
    refine gf_X9_0 C hK hP mw_1_212 dX9_like_6 ?_
    refine lv_iload_n hx hb dX9_like_9 rfl (lv_at hl 1 rfl) ?_
    obtain ⟨v4, h3, hf⟩ := b1_some hf
    refine hc_V (As := [.int p0]) (rest := []) C hK (c_X5_lowestLike l D ct ad F hG p0 S0  v4 h3) hl.1 cp_X5_lowestLike mw_4_60 (rc_X5 hK hP) hP hS ⟨rfl, rfl⟩ ⟨Nat.le_of_ble_eq_true rfl, Nat.le_of_ble_eq_true rfl⟩ rfl rfl (Nat.le_of_ble_eq_true rfl) dX9_like_10 ⟨Nat.le_of_ble_eq_true rfl, Nat.le_of_ble_eq_true rfl⟩ (fun H locs hP hS => ?_)
    cases hf
def rmx_X9_agree : Room := { frames := 9, cells := 1, slots := 6, locals := 165 }
set_option maxHeartbeats 4000000 in
set_option maxRecDepth 100000 in
theorem x_X9_agree (l : Launch) (hl0 : l.stackTraces = false) (D : va_G) (ct : Nat → ClassId) (ad : Nat → Nat) (F : Nat → Prop) (hG : Gd ad 70 F) (p0 : Int32) (p1 : Int32) (S0 : St)  (n : Nat) (S' : St) (hf : f_X9_agree p0 p1 S0 = some (.error n, S')) : MetX l yX9_agree cX9_agree 3 (some .boolean) rmx_X9_agree D (tysW ct) F [.ref (ad 0), .int p0, .int p1] (cellsC ct ad S0) (cellsC ct ad S') n := by
  refine MetX.of RX9 (by decide) rfl (Nat.le_of_ble_eq_true rfl) ?_
  intro p e s m args below meth c C hPk hK hP hXf ls hl
  have hl : lv_has ls 3 [(0, .ref (ad 0)), (1, .int p0), (2, .int p1)] := hl
  obtain ⟨hx, hb, hr, hml, hown, htL, hlocks⟩ := id C
  have hS : va_S F s.heap s.heap [] := va_S.rf
  generalize hQ : vx_MQ below (fun _ _ _ _ => False) (XQ D (cellsC ct ad S') F n) args s 1 6 F = Q
  refine lv_aload_n hx hb dX9_agree_0 rfl (lv_at hl 0 rfl) ?_
  refine lv_iload_n hx hb dX9_agree_1 rfl (lv_at hl 1 rfl) ?_
  rcases bE_some hf with ⟨n2, h1, hf⟩ | ⟨_, h1, hf⟩
  · cases hf
    subst hQ
    exact xc_V (As := [.int p0]) (rest := []) C hl0 hXf hPk (x_X9_needNumber l hl0 D ct ad F hG p0 S0  _ h1) hl.1 cp_X9_needNumber mw_3_148 (rc_X9 hK hP) hK hP hS ⟨rfl, rfl⟩ ⟨⟨Nat.le_of_ble_eq_true rfl, Nat.le_of_ble_eq_true rfl⟩, Nat.le_of_ble_eq_true rfl, Nat.le_of_ble_eq_true rfl⟩ rfl rfl (Nat.le_of_ble_eq_true rfl) dX9_agree_2
  · skip
    refine hc_V (As := [.int p0]) (rest := []) C hK (c_X9_needNumber l D ct ad F hG p0 S0   h1) hl.1 cp_X9_needNumber mw_3_148 (rc_X9 hK hP) hP hS ⟨rfl, rfl⟩ ⟨Nat.le_of_ble_eq_true rfl, Nat.le_of_ble_eq_true rfl⟩ rfl rfl (Nat.le_of_ble_eq_true rfl) dX9_agree_2 ⟨Nat.le_of_ble_eq_true rfl, Nat.le_of_ble_eq_true rfl⟩ (fun H locs hP hS => ?_)
    refine lv_aload_n hx hb dX9_agree_5 rfl (lv_at hl 0 rfl) ?_
    refine lv_iload_n hx hb dX9_agree_6 rfl (lv_at hl 2 rfl) ?_
    rcases bE_some hf with ⟨n4, h3, hf⟩ | ⟨_, h3, hf⟩
    · cases hf
      subst hQ
      exact xc_V (As := [.int p1]) (rest := []) C hl0 hXf hPk (x_X9_needNumber l hl0 D ct ad F hG p1 S0  _ h3) hl.1 cp_X9_needNumber mw_3_148 (rc_X9 hK hP) hK hP hS ⟨rfl, rfl⟩ ⟨⟨Nat.le_of_ble_eq_true rfl, Nat.le_of_ble_eq_true rfl⟩, Nat.le_of_ble_eq_true rfl, Nat.le_of_ble_eq_true rfl⟩ rfl rfl (Nat.le_of_ble_eq_true rfl) dX9_agree_7
    · skip
      refine hc_V (As := [.int p1]) (rest := []) C hK (c_X9_needNumber l D ct ad F hG p1 S0   h3) hl.1 cp_X9_needNumber mw_3_148 (rc_X9 hK hP) hP hS ⟨rfl, rfl⟩ ⟨Nat.le_of_ble_eq_true rfl, Nat.le_of_ble_eq_true rfl⟩ rfl rfl (Nat.le_of_ble_eq_true rfl) dX9_agree_7 ⟨Nat.le_of_ble_eq_true rfl, Nat.le_of_ble_eq_true rfl⟩ (fun H locs hP hS => ?_)
      refine lv_aload_n hx hb dX9_agree_10 rfl (lv_at hl 0 rfl) ?_
      refine gf_X9_0 C hK hP mw_1_212 dX9_agree_11 ?_
      refine lv_aload_n hx hb dX9_agree_14 rfl (lv_at hl 0 rfl) ?_
      refine gf_X9_0 C hK hP mw_1_212 dX9_agree_15 ?_
      refine lv_iload_n hx hb dX9_agree_18 rfl (lv_at hl 1 rfl) ?_
      obtain ⟨v6, h5, hf⟩ := b1_some hf
      refine hc_V (As := [.int p0]) (rest := [.ref (ad 1)]) C hK (c_X5_numbered l D ct ad F hG p0 S0  v6 h5) hl.1 cp_X5_numbered mw_3_197 (rc_X5 hK hP) hP hS ⟨rfl, rfl⟩ ⟨Nat.le_of_ble_eq_true rfl, Nat.le_of_ble_eq_true rfl⟩ rfl rfl (Nat.le_of_ble_eq_true rfl) dX9_agree_19 ⟨Nat.le_of_ble_eq_true rfl, Nat.le_of_ble_eq_true rfl⟩ (fun H locs hP hS => ?_)
      obtain ⟨c7, hf⟩ := spy hf
      refine lv_aload_n hx hb dX9_agree_22 rfl (lv_at hl 0 rfl) ?_
      refine gf_X9_0 C hK hP mw_1_212 dX9_agree_23 ?_
      refine lv_iload_n hx hb dX9_agree_26 rfl (lv_at hl 2 rfl) ?_
      obtain ⟨v9, h8, hf⟩ := b1_some hf
      refine hc_V (As := [.int p1]) (rest := [.ref (ad (12 + v6)), .ref (ad 1)]) C hK (c_X5_numbered l D ct ad F hG p1 S0  v9 h8) hl.1 cp_X5_numbered mw_3_197 (rc_X5 hK hP) hP hS ⟨rfl, rfl⟩ ⟨Nat.le_of_ble_eq_true rfl, Nat.le_of_ble_eq_true rfl⟩ rfl rfl (Nat.le_of_ble_eq_true rfl) dX9_agree_27 ⟨Nat.le_of_ble_eq_true rfl, Nat.le_of_ble_eq_true rfl⟩ (fun H locs hP hS => ?_)
      obtain ⟨c10, hf⟩ := spy hf
      obtain ⟨v12, S13, h11, hf⟩ := b2_some hf
      refine hc_V (As := [.ref (ad (12 + v6)), .ref (ad (12 + v9))]) (rest := []) C hK (c_X5_splitsAt l D ct ad F hG v6 v9 S0 c7 c10 v12 S13 h11) hl.1 cp_X5_splitsAt mw_4_75 (rc_X5 hK hP) hP hS ⟨rfl, rfl⟩ ⟨Nat.le_of_ble_eq_true rfl, Nat.le_of_ble_eq_true rfl⟩ rfl rfl (Nat.le_of_ble_eq_true rfl) dX9_agree_30 ⟨Nat.le_of_ble_eq_true rfl, Nat.le_of_ble_eq_true rfl⟩ (fun H locs hP hS => ?_)
      refine lv_sipush (v := 1000) hx hb dX9_agree_33 (by decide) ?_
      refine lv_icmp_ne (tgt := 43) hx hb dX9_agree_36 (by decide) (fun c14 => ?_) (fun c14 => ?_)
      · have hf := sp0 c14 hf
        refine lv_iconst (v := 0) hx hb dX9_agree_43 (by decide) ?_
        cases hf
      · have hf := sp1 c14 hf
        refine lv_iconst (v := 1) hx hb dX9_agree_39 (by decide) ?_
        refine lv_goto (tgt := 44) hx hb dX9_agree_40 (by decide) ?_
        cases hf
def rmx_X9_guessedBottomOrThrow : Room := { frames := 8, cells := 1, slots := 6, locals := 140 }
set_option maxHeartbeats 4000000 in
set_option maxRecDepth 100000 in
theorem x_X9_guessedBottomOrThrow (l : Launch) (hl0 : l.stackTraces = false) (D : va_G) (ct : Nat → ClassId) (ad : Nat → Nat) (F : Nat → Prop) (hG : Gd ad 70 F) (p0 : Nat) (S0 : St) (hk_p0 : p0 < 42) (n : Nat) (hf : f_X9_guessedBottomOrThrow p0 S0 = some (.error n)) : MetX l yX9_guessedBottomOrThrow cX9_guessedBottomOrThrow 4 (some .long) rmx_X9_guessedBottomOrThrow D (tysW ct) F [.ref (ad 0), .ref (ad (12 + p0))] (cellsC ct ad S0) (cellsC ct ad S0) n := by
  refine MetX.of RX9 (by decide) rfl (Nat.le_of_ble_eq_true rfl) ?_
  intro p e s m args below meth c C hPk hK hP hXf ls hl
  have hl : lv_has ls 4 [(0, .ref (ad 0)), (1, .ref (ad (12 + p0)))] := hl
  obtain ⟨hx, hb, hr, hml, hown, htL, hlocks⟩ := id C
  have hS : va_S F s.heap s.heap [] := va_S.rf
  generalize hQ : vx_MQ below (fun _ _ _ _ => False) (XQ D (cellsC ct ad S0) F n) args s 1 6 F = Q
  refine lv_aload_n hx hb dX9_guessedBottomOrThrow_0 rfl (lv_at hl 1 rfl) ?_
  obtain ⟨v2, h1, hf⟩ := b1_some hf
  refine hc_V (As := []) (rest := []) C hK (c_X3_hasWholeDigits l D ct ad F hG p0 S0 hk_p0 v2 h1) hl.1 cp_X3_hasWholeDigits mw_4_87 (rc_X3 hK hP hk_p0) hP hS ⟨rfl, rfl⟩ ⟨Nat.le_of_ble_eq_true rfl, Nat.le_of_ble_eq_true rfl⟩ rfl rfl (Nat.le_of_ble_eq_true rfl) dX9_guessedBottomOrThrow_1 ⟨Nat.le_of_ble_eq_true rfl, Nat.le_of_ble_eq_true rfl⟩ (fun H locs hP hS => ?_)
  refine lv_if_ne (tgt := 18) hx hb dX9_guessedBottomOrThrow_4 (by decide) (fun c3 => ?_) (fun c3 => ?_)
  · have hf := sp0 c3 hf
    refine lv_aload_n hx hb dX9_guessedBottomOrThrow_18 rfl (lv_at hl 0 rfl) ?_
    refine gf_X9_0 C hK hP mw_1_212 dX9_guessedBottomOrThrow_19 ?_
    refine lv_aload_n hx hb dX9_guessedBottomOrThrow_22 rfl (lv_at hl 1 rfl) ?_
    obtain ⟨v5, h4, hf⟩ := b1_some hf
    refine hc_V (As := [.ref (ad (12 + p0))]) (rest := []) C hK (c_X5_guessedBottom l D ct ad F hG p0 S0 hk_p0 v5 h4) hl.1 cp_X5_guessedBottom mw_4_92 (rc_X5 hK hP) hP hS ⟨rfl, rfl⟩ ⟨Nat.le_of_ble_eq_true rfl, Nat.le_of_ble_eq_true rfl⟩ rfl rfl (Nat.le_of_ble_eq_true rfl) dX9_guessedBottomOrThrow_23 ⟨Nat.le_of_ble_eq_true rfl, Nat.le_of_ble_eq_true rfl⟩ (fun H locs hP hS => ?_)
    refine lv_lstore_n (lv' := [(2, .long v5), (0, .ref (ad 0)), (1, .ref (ad (12 + p0)))]) hx hb dX9_guessedBottomOrThrow_26 rfl hl (by decide) rfl (fun ls hl => ?_)
    refine lv_lload_n hx hb dX9_guessedBottomOrThrow_27 rfl (lv_at hl 0 rfl) ?_
    refine lv_lconst (v := 0) hx hb dX9_guessedBottomOrThrow_28 (by decide) ?_
    refine W.lcmp hx hb dX9_guessedBottomOrThrow_29 ?_
    refine lv_if_ne (tgt := 44) hx hb dX9_guessedBottomOrThrow_30 (by decide) (fun c6 => ?_) (fun c6 => ?_)
    · have hf := sp0 c6 hf
      refine lv_lload_n hx hb dX9_guessedBottomOrThrow_44 rfl (lv_at hl 0 rfl) ?_
      cases hf
    · have hf := sp1 c6 hf
      cases hf
      subst hQ
      exact th_NoSuchElementExceptionW C hl0 hXf hPk hP hS hl.1 mw_4_13 (str_326) ⟨Nat.le_of_ble_eq_true rfl, Nat.le_of_ble_eq_true rfl, Nat.le_of_ble_eq_true rfl, Nat.le_of_ble_eq_true rfl⟩ dX9_guessedBottomOrThrow_33 dX9_guessedBottomOrThrow_36 dX9_guessedBottomOrThrow_37 dX9_guessedBottomOrThrow_40 dX9_guessedBottomOrThrow_43
  · have hf := sp1 c3 hf
    cases hf
    subst hQ
    exact th_UnsupportedOperationExceptionW C hl0 hXf hPk hP hS hl.1 mw_2_219 (str_321) ⟨Nat.le_of_ble_eq_true rfl, Nat.le_of_ble_eq_true rfl, Nat.le_of_ble_eq_true rfl, Nat.le_of_ble_eq_true rfl⟩ dX9_guessedBottomOrThrow_7 dX9_guessedBottomOrThrow_10 dX9_guessedBottomOrThrow_11 dX9_guessedBottomOrThrow_14 dX9_guessedBottomOrThrow_17
def rmx_X9_numerator : Room := { frames := 9, cells := 1, slots := 6, locals := 167 }
set_option maxHeartbeats 4000000 in
set_option maxRecDepth 100000 in
theorem x_X9_numerator (l : Launch) (hl0 : l.stackTraces = false) (D : va_G) (ct : Nat → ClassId) (ad : Nat → Nat) (F : Nat → Prop) (hG : Gd ad 70 F) (p0 : Int32) (S0 : St)  (n : Nat) (hf : f_X9_numerator p0 S0 = some (.error n)) : MetX l yX9_numerator cX9_numerator 3 (some .int) rmx_X9_numerator D (tysW ct) F [.ref (ad 0), .int p0] (cellsC ct ad S0) (cellsC ct ad S0) n := by
  refine MetX.of RX9 (by decide) rfl (Nat.le_of_ble_eq_true rfl) ?_
  intro p e s m args below meth c C hPk hK hP hXf ls hl
  have hl : lv_has ls 3 [(0, .ref (ad 0)), (1, .int p0)] := hl
  obtain ⟨hx, hb, hr, hml, hown, htL, hlocks⟩ := id C
  have hS : va_S F s.heap s.heap [] := va_S.rf
  generalize hQ : vx_MQ below (fun _ _ _ _ => False) (XQ D (cellsC ct ad S0) F n) args s 1 6 F = Q
  refine lv_aload_n hx hb dX9_numerator_0 rfl (lv_at hl 0 rfl) ?_
  refine lv_iload_n hx hb dX9_numerator_1 rfl (lv_at hl 1 rfl) ?_
  rcases bE_some hf with ⟨n2, h1, hf⟩ | ⟨_, h1, hf⟩
  · cases hf
    subst hQ
    exact xc_V (As := [.int p0]) (rest := []) C hl0 hXf hPk (x_X9_needNumber l hl0 D ct ad F hG p0 S0  _ h1) hl.1 cp_X9_needNumber mw_3_148 (rc_X9 hK hP) hK hP hS ⟨rfl, rfl⟩ ⟨⟨Nat.le_of_ble_eq_true rfl, Nat.le_of_ble_eq_true rfl⟩, Nat.le_of_ble_eq_true rfl, Nat.le_of_ble_eq_true rfl⟩ rfl rfl (Nat.le_of_ble_eq_true rfl) dX9_numerator_2
  · skip
    refine hc_V (As := [.int p0]) (rest := []) C hK (c_X9_needNumber l D ct ad F hG p0 S0   h1) hl.1 cp_X9_needNumber mw_3_148 (rc_X9 hK hP) hP hS ⟨rfl, rfl⟩ ⟨Nat.le_of_ble_eq_true rfl, Nat.le_of_ble_eq_true rfl⟩ rfl rfl (Nat.le_of_ble_eq_true rfl) dX9_numerator_2 ⟨Nat.le_of_ble_eq_true rfl, Nat.le_of_ble_eq_true rfl⟩ (fun H locs hP hS => ?_)
    refine lv_aload_n hx hb dX9_numerator_5 rfl (lv_at hl 0 rfl) ?_
    refine gf_X9_0 C hK hP mw_1_212 dX9_numerator_6 ?_
    refine lv_iload_n hx hb dX9_numerator_9 rfl (lv_at hl 1 rfl) ?_
    obtain ⟨v4, h3, hf⟩ := b1_some hf
    refine hc_V (As := [.int p0]) (rest := []) C hK (c_X5_numbered l D ct ad F hG p0 S0  v4 h3) hl.1 cp_X5_numbered mw_3_197 (rc_X5 hK hP) hP hS ⟨rfl, rfl⟩ ⟨Nat.le_of_ble_eq_true rfl, Nat.le_of_ble_eq_true rfl⟩ rfl rfl (Nat.le_of_ble_eq_true rfl) dX9_numerator_10 ⟨Nat.le_of_ble_eq_true rfl, Nat.le_of_ble_eq_true rfl⟩ (fun H locs hP hS => ?_)
    obtain ⟨c5, hf⟩ := spy hf
    refine lv_astore_n (lv' := [(2, .ref (ad (12 + v4))), (0, .ref (ad 0)), (1, .int p0)]) hx hb dX9_numerator_13 rfl hl (by decide) rfl (fun ls hl => ?_)
    refine lv_aload_n hx hb dX9_numerator_14 rfl (lv_at hl 1 rfl) ?_
    refine gf_X9_0 C hK hP mw_1_212 dX9_numerator_15 ?_
    refine lv_aload_n hx hb dX9_numerator_18 rfl (lv_at hl 0 rfl) ?_
    refine lv_aload_n hx hb dX9_numerator_19 rfl (lv_at hl 1 rfl) ?_
    refine lv_aload_n hx hb dX9_numerator_20 rfl (lv_at hl 0 rfl) ?_
    rcases bE_some hf with ⟨n8, h6, hf⟩ | ⟨v7, h6, hf⟩
    · cases hf
      subst hQ
      exact xc_V (As := [.ref (ad (12 + v4))]) (rest := [.ref (ad (12 + v4)), .ref (ad 1)]) C hl0 hXf hPk (x_X9_guessedBottomOrThrow l hl0 D ct ad F hG v4 S0 c5 _ h6) hl.1 cp_X9_guessedBottomOrThrow mw_4_83 (rc_X9 hK hP) hK hP hS ⟨rfl, rfl⟩ ⟨⟨Nat.le_of_ble_eq_true rfl, Nat.le_of_ble_eq_true rfl⟩, Nat.le_of_ble_eq_true rfl, Nat.le_of_ble_eq_true rfl⟩ rfl rfl (Nat.le_of_ble_eq_true rfl) dX9_numerator_21
    · skip
      refine hc_V (As := [.ref (ad (12 + v4))]) (rest := [.ref (ad (12 + v4)), .ref (ad 1)]) C hK (c_X9_guessedBottomOrThrow l D ct ad F hG v4 S0 c5 _ h6) hl.1 cp_X9_guessedBottomOrThrow mw_4_83 (rc_X9 hK hP) hP hS ⟨rfl, rfl⟩ ⟨Nat.le_of_ble_eq_true rfl, Nat.le_of_ble_eq_true rfl⟩ rfl rfl (Nat.le_of_ble_eq_true rfl) dX9_numerator_21 ⟨Nat.le_of_ble_eq_true rfl, Nat.le_of_ble_eq_true rfl⟩ (fun H locs hP hS => ?_)
      obtain ⟨v10, h9, hf⟩ := b1_some hf
      refine hc_V (As := [.ref (ad (12 + v4)), .long v7]) (rest := []) C hK (c_X5_guessedTop l D ct ad F hG v4 v7 S0 c5 v10 h9) hl.1 cp_X5_guessedTop mw_4_108 (rc_X5 hK hP) hP hS ⟨rfl, rfl⟩ ⟨Nat.le_of_ble_eq_true rfl, Nat.le_of_ble_eq_true rfl⟩ rfl rfl (Nat.le_of_ble_eq_true rfl) dX9_numerator_24 ⟨Nat.le_of_ble_eq_true rfl, Nat.le_of_ble_eq_true rfl⟩ (fun H locs hP hS => ?_)
      refine lv_l2i hx hb dX9_numerator_27 rfl ?_
      cases hf
def rmx_X9_denominator : Room := { frames := 9, cells := 1, slots := 6, locals := 167 }
set_option maxHeartbeats 4000000 in
set_option maxRecDepth 100000 in
theorem x_X9_denominator (l : Launch) (hl0 : l.stackTraces = false) (D : va_G) (ct : Nat → ClassId) (ad : Nat → Nat) (F : Nat → Prop) (hG : Gd ad 70 F) (p0 : Int32) (S0 : St)  (n : Nat) (hf : f_X9_denominator p0 S0 = some (.error n)) : MetX l yX9_denominator cX9_denominator 2 (some .int) rmx_X9_denominator D (tysW ct) F [.ref (ad 0), .int p0] (cellsC ct ad S0) (cellsC ct ad S0) n := by
  refine MetX.of RX9 (by decide) rfl (Nat.le_of_ble_eq_true rfl) ?_
  intro p e s m args below meth c C hPk hK hP hXf ls hl
  have hl : lv_has ls 2 [(0, .ref (ad 0)), (1, .int p0)] := hl
  obtain ⟨hx, hb, hr, hml, hown, htL, hlocks⟩ := id C
  have hS : va_S F s.heap s.heap [] := va_S.rf
  generalize hQ : vx_MQ below (fun _ _ _ _ => False) (XQ D (cellsC ct ad S0) F n) args s 1 6 F = Q
  refine lv_aload_n hx hb dX9_denominator_0 rfl (lv_at hl 0 rfl) ?_
  refine lv_iload_n hx hb dX9_denominator_1 rfl (lv_at hl 1 rfl) ?_
  rcases bE_some hf with ⟨n2, h1, hf⟩ | ⟨_, h1, hf⟩
  · cases hf
    subst hQ
    exact xc_V (As := [.int p0]) (rest := []) C hl0 hXf hPk (x_X9_needNumber l hl0 D ct ad F hG p0 S0  _ h1) hl.1 cp_X9_needNumber mw_3_148 (rc_X9 hK hP) hK hP hS ⟨rfl, rfl⟩ ⟨⟨Nat.le_of_ble_eq_true rfl, Nat.le_of_ble_eq_true rfl⟩, Nat.le_of_ble_eq_true rfl, Nat.le_of_ble_eq_true rfl⟩ rfl rfl (Nat.le_of_ble_eq_true rfl) dX9_denominator_2
  · skip
    refine hc_V (As := [.int p0]) (rest := []) C hK (c_X9_needNumber l D ct ad F hG p0 S0   h1) hl.1 cp_X9_needNumber mw_3_148 (rc_X9 hK hP) hP hS ⟨rfl, rfl⟩ ⟨Nat.le_of_ble_eq_true rfl, Nat.le_of_ble_eq_true rfl⟩ rfl rfl (Nat.le_of_ble_eq_true rfl) dX9_denominator_2 ⟨Nat.le_of_ble_eq_true rfl, Nat.le_of_ble_eq_true rfl⟩ (fun H locs hP hS => ?_)
    refine lv_aload_n hx hb dX9_denominator_5 rfl (lv_at hl 0 rfl) ?_
    refine lv_aload_n hx hb dX9_denominator_6 rfl (lv_at hl 0 rfl) ?_
    refine gf_X9_0 C hK hP mw_1_212 dX9_denominator_7 ?_
    refine lv_iload_n hx hb dX9_denominator_10 rfl (lv_at hl 1 rfl) ?_
    obtain ⟨v4, h3, hf⟩ := b1_some hf
    refine hc_V (As := [.int p0]) (rest := [.ref (ad 0)]) C hK (c_X5_numbered l D ct ad F hG p0 S0  v4 h3) hl.1 cp_X5_numbered mw_3_197 (rc_X5 hK hP) hP hS ⟨rfl, rfl⟩ ⟨Nat.le_of_ble_eq_true rfl, Nat.le_of_ble_eq_true rfl⟩ rfl rfl (Nat.le_of_ble_eq_true rfl) dX9_denominator_11 ⟨Nat.le_of_ble_eq_true rfl, Nat.le_of_ble_eq_true rfl⟩ (fun H locs hP hS => ?_)
    obtain ⟨c5, hf⟩ := spy hf
    rcases bE_some hf with ⟨n8, h6, hf⟩ | ⟨v7, h6, hf⟩
    · cases hf
      subst hQ
      exact xc_V (As := [.ref (ad (12 + v4))]) (rest := []) C hl0 hXf hPk (x_X9_guessedBottomOrThrow l hl0 D ct ad F hG v4 S0 c5 _ h6) hl.1 cp_X9_guessedBottomOrThrow mw_4_83 (rc_X9 hK hP) hK hP hS ⟨rfl, rfl⟩ ⟨⟨Nat.le_of_ble_eq_true rfl, Nat.le_of_ble_eq_true rfl⟩, Nat.le_of_ble_eq_true rfl, Nat.le_of_ble_eq_true rfl⟩ rfl rfl (Nat.le_of_ble_eq_true rfl) dX9_denominator_14
    · skip
      refine hc_V (As := [.ref (ad (12 + v4))]) (rest := []) C hK (c_X9_guessedBottomOrThrow l D ct ad F hG v4 S0 c5 _ h6) hl.1 cp_X9_guessedBottomOrThrow mw_4_83 (rc_X9 hK hP) hP hS ⟨rfl, rfl⟩ ⟨Nat.le_of_ble_eq_true rfl, Nat.le_of_ble_eq_true rfl⟩ rfl rfl (Nat.le_of_ble_eq_true rfl) dX9_denominator_14 ⟨Nat.le_of_ble_eq_true rfl, Nat.le_of_ble_eq_true rfl⟩ (fun H locs hP hS => ?_)
      refine lv_l2i hx hb dX9_denominator_17 rfl ?_
      cases hf
def rmx_X9_distance : Room := { frames := 9, cells := 1, slots := 6, locals := 166 }
set_option maxHeartbeats 4000000 in
set_option maxRecDepth 100000 in
theorem x_X9_distance (l : Launch) (hl0 : l.stackTraces = false) (D : va_G) (ct : Nat → ClassId) (ad : Nat → Nat) (F : Nat → Prop) (hG : Gd ad 70 F) (p0 : Int32) (p1 : Int32) (p2 : Int32) (p3 : Int32) (S0 : St)  (n : Nat) (S' : St) (hf : f_X9_distance p0 p1 p2 p3 S0 = some (.error n, S')) : MetX l yX9_distance cX9_distance 8 (some .int) rmx_X9_distance D (tysW ct) F [.ref (ad 0), .int p0, .int p1, .int p2, .int p3] (cellsC ct ad S0) (cellsC ct ad S') n := by
  refine MetX.of RX9 (by decide) rfl (Nat.le_of_ble_eq_true rfl) ?_
  intro p e s m args below meth c C hPk hK hP hXf ls hl
  have hl : lv_has ls 8 [(0, .ref (ad 0)), (1, .int p0), (2, .int p1), (3, .int p2), (4, .int p3)] := hl
  obtain ⟨hx, hb, hr, hml, hown, htL, hlocks⟩ := id C
  have hS : va_S F s.heap s.heap [] := va_S.rf
  generalize hQ : vx_MQ below (fun _ _ _ _ => False) (XQ D (cellsC ct ad S') F n) args s 1 6 F = Q
  refine lv_aload_n hx hb dX9_distance_0 rfl (lv_at hl 0 rfl) ?_
  refine lv_iload_n hx hb dX9_distance_1 rfl (lv_at hl 1 rfl) ?_
  rcases bE_some hf with ⟨n2, h1, hf⟩ | ⟨_, h1, hf⟩
  · cases hf
    subst hQ
    exact xc_V (As := [.int p0]) (rest := []) C hl0 hXf hPk (x_X9_needNumber l hl0 D ct ad F hG p0 S0  _ h1) hl.1 cp_X9_needNumber mw_3_148 (rc_X9 hK hP) hK hP hS ⟨rfl, rfl⟩ ⟨⟨Nat.le_of_ble_eq_true rfl, Nat.le_of_ble_eq_true rfl⟩, Nat.le_of_ble_eq_true rfl, Nat.le_of_ble_eq_true rfl⟩ rfl rfl (Nat.le_of_ble_eq_true rfl) dX9_distance_2
  · skip
    refine hc_V (As := [.int p0]) (rest := []) C hK (c_X9_needNumber l D ct ad F hG p0 S0   h1) hl.1 cp_X9_needNumber mw_3_148 (rc_X9 hK hP) hP hS ⟨rfl, rfl⟩ ⟨Nat.le_of_ble_eq_true rfl, Nat.le_of_ble_eq_true rfl⟩ rfl rfl (Nat.le_of_ble_eq_true rfl) dX9_distance_2 ⟨Nat.le_of_ble_eq_true rfl, Nat.le_of_ble_eq_true rfl⟩ (fun H locs hP hS => ?_)
    refine lv_aload_n hx hb dX9_distance_5 rfl (lv_at hl 0 rfl) ?_
    refine lv_iload_n hx hb dX9_distance_6 rfl (lv_at hl 3 rfl) ?_
    rcases bE_some hf with ⟨n4, h3, hf⟩ | ⟨_, h3, hf⟩
    · cases hf
      subst hQ
      exact xc_V (As := [.int p2]) (rest := []) C hl0 hXf hPk (x_X9_needNumber l hl0 D ct ad F hG p2 S0  _ h3) hl.1 cp_X9_needNumber mw_3_148 (rc_X9 hK hP) hK hP hS ⟨rfl, rfl⟩ ⟨⟨Nat.le_of_ble_eq_true rfl, Nat.le_of_ble_eq_true rfl⟩, Nat.le_of_ble_eq_true rfl, Nat.le_of_ble_eq_true rfl⟩ rfl rfl (Nat.le_of_ble_eq_true rfl) dX9_distance_7
    · skip
      refine hc_V (As := [.int p2]) (rest := []) C hK (c_X9_needNumber l D ct ad F hG p2 S0   h3) hl.1 cp_X9_needNumber mw_3_148 (rc_X9 hK hP) hP hS ⟨rfl, rfl⟩ ⟨Nat.le_of_ble_eq_true rfl, Nat.le_of_ble_eq_true rfl⟩ rfl rfl (Nat.le_of_ble_eq_true rfl) dX9_distance_7 ⟨Nat.le_of_ble_eq_true rfl, Nat.le_of_ble_eq_true rfl⟩ (fun H locs hP hS => ?_)
      refine lv_aload_n hx hb dX9_distance_10 rfl (lv_at hl 0 rfl) ?_
      refine gf_X9_0 C hK hP mw_1_212 dX9_distance_11 ?_
      refine lv_iload_n hx hb dX9_distance_14 rfl (lv_at hl 1 rfl) ?_
      obtain ⟨v6, h5, hf⟩ := b1_some hf
      refine hc_V (As := [.int p0]) (rest := []) C hK (c_X5_numbered l D ct ad F hG p0 S0  v6 h5) hl.1 cp_X5_numbered mw_3_197 (rc_X5 hK hP) hP hS ⟨rfl, rfl⟩ ⟨Nat.le_of_ble_eq_true rfl, Nat.le_of_ble_eq_true rfl⟩ rfl rfl (Nat.le_of_ble_eq_true rfl) dX9_distance_15 ⟨Nat.le_of_ble_eq_true rfl, Nat.le_of_ble_eq_true rfl⟩ (fun H locs hP hS => ?_)
      obtain ⟨c7, hf⟩ := spy hf
      refine lv_astore (lv' := [(5, .ref (ad (12 + v6))), (0, .ref (ad 0)), (1, .int p0), (2, .int p1), (3, .int p2), (4, .int p3)]) hx hb dX9_distance_18 hl (by decide) rfl (fun ls hl => ?_)
      refine lv_aload_n hx hb dX9_distance_20 rfl (lv_at hl 1 rfl) ?_
      refine gf_X9_0 C hK hP mw_1_212 dX9_distance_21 ?_
      refine lv_iload_n hx hb dX9_distance_24 rfl (lv_at hl 4 rfl) ?_
      obtain ⟨v9, h8, hf⟩ := b1_some hf
      refine hc_V (As := [.int p2]) (rest := []) C hK (c_X5_numbered l D ct ad F hG p2 S0  v9 h8) hl.1 cp_X5_numbered mw_3_197 (rc_X5 hK hP) hP hS ⟨rfl, rfl⟩ ⟨Nat.le_of_ble_eq_true rfl, Nat.le_of_ble_eq_true rfl⟩ rfl rfl (Nat.le_of_ble_eq_true rfl) dX9_distance_25 ⟨Nat.le_of_ble_eq_true rfl, Nat.le_of_ble_eq_true rfl⟩ (fun H locs hP hS => ?_)
      obtain ⟨c10, hf⟩ := spy hf
      refine lv_astore (lv' := [(6, .ref (ad (12 + v9))), (5, .ref (ad (12 + v6))), (0, .ref (ad 0)), (1, .int p0), (2, .int p1), (3, .int p2), (4, .int p3)]) hx hb dX9_distance_28 hl (by decide) rfl (fun ls hl => ?_)
      refine lv_iload_n hx hb dX9_distance_30 rfl (lv_at hl 4 rfl) ?_
      refine lv_bipush (v := (-60)) hx hb dX9_distance_31 (by decide) ?_
      refine lv_aload hx hb dX9_distance_33 (lv_at hl 1 rfl) ?_
      refine gf_X3_9 C hK hP c7 mw_1_134 dX9_distance_35 ?_
      rcases bE_some hf with ⟨n12, h11, hf⟩ | ⟨_, h11, hf⟩
      · cases hf
        subst hQ
        exact xc_S (As := [.int p1, .int (-60), .int (S0.1 (12 + v6) 9)]) (rest := []) C hl0 hXf hPk (x_X9_needWithin l hl0 D (tysW ct) F _ p1 (-60) (S0.1 (12 + v6) 9) _ h11) hl.1 cp_X9_needWithin mw_3_6 hK hP hS ⟨rfl, rfl⟩ ⟨⟨Nat.le_of_ble_eq_true rfl, Nat.le_of_ble_eq_true rfl⟩, Nat.le_of_ble_eq_true rfl, Nat.le_of_ble_eq_true rfl⟩ rfl rfl (Nat.le_of_ble_eq_true rfl) dX9_distance_38
      · skip
        refine pc_S (As := [.int p1, .int (-60), .int (S0.1 (12 + v6) 9)]) (rest := []) C (c_X9_needWithin l p1 (-60) (S0.1 (12 + v6) 9) _ h11) hl.1 cp_X9_needWithin mw_3_6 ⟨rfl, rfl⟩ ⟨Nat.le_of_ble_eq_true rfl, Nat.le_of_ble_eq_true rfl⟩ rfl rfl (Nat.le_of_ble_eq_true rfl) dX9_distance_38 ⟨Nat.le_of_ble_eq_true rfl, Nat.le_of_ble_eq_true rfl⟩ ?_
        refine lv_iload hx hb dX9_distance_41 (lv_at hl 6 rfl) ?_
        refine lv_bipush (v := (-60)) hx hb dX9_distance_43 (by decide) ?_
        refine lv_aload hx hb dX9_distance_45 (lv_at hl 0 rfl) ?_
        refine gf_X3_9 C hK hP c10 mw_1_134 dX9_distance_47 ?_
        rcases bE_some hf with ⟨n14, h13, hf⟩ | ⟨_, h13, hf⟩
        · cases hf
          subst hQ
          exact xc_S (As := [.int p3, .int (-60), .int (S0.1 (12 + v9) 9)]) (rest := []) C hl0 hXf hPk (x_X9_needWithin l hl0 D (tysW ct) F _ p3 (-60) (S0.1 (12 + v9) 9) _ h13) hl.1 cp_X9_needWithin mw_3_6 hK hP hS ⟨rfl, rfl⟩ ⟨⟨Nat.le_of_ble_eq_true rfl, Nat.le_of_ble_eq_true rfl⟩, Nat.le_of_ble_eq_true rfl, Nat.le_of_ble_eq_true rfl⟩ rfl rfl (Nat.le_of_ble_eq_true rfl) dX9_distance_50
        · skip
          refine pc_S (As := [.int p3, .int (-60), .int (S0.1 (12 + v9) 9)]) (rest := []) C (c_X9_needWithin l p3 (-60) (S0.1 (12 + v9) 9) _ h13) hl.1 cp_X9_needWithin mw_3_6 ⟨rfl, rfl⟩ ⟨Nat.le_of_ble_eq_true rfl, Nat.le_of_ble_eq_true rfl⟩ rfl rfl (Nat.le_of_ble_eq_true rfl) dX9_distance_50 ⟨Nat.le_of_ble_eq_true rfl, Nat.le_of_ble_eq_true rfl⟩ ?_
          refine lv_iload_n hx hb dX9_distance_53 rfl (lv_at hl 4 rfl) ?_
          refine lv_iload hx hb dX9_distance_54 (lv_at hl 6 rfl) ?_
          refine va_mmin (ls := _) hx hb (hml.trans hl.1.symm) hown (htL _ mw_4_126) (htL _ mw_2_60) (htL _ mw_1_17) (htL _ mw_2_61) (Nat.le_of_ble_eq_true rfl) (Nat.le_of_ble_eq_true rfl) (Nat.le_of_ble_eq_true rfl) (Nat.le_of_ble_eq_true rfl) dX9_distance_56 ?_
          refine lv_aload_n hx hb dX9_distance_59 rfl (lv_at hl 2 rfl) ?_
          refine gf_X9_0 C hK hP mw_1_212 dX9_distance_60 ?_
          refine lv_aload hx hb dX9_distance_63 (lv_at hl 1 rfl) ?_
          refine lv_aload hx hb dX9_distance_65 (lv_at hl 0 rfl) ?_
          obtain ⟨v16, S17, h15, hf⟩ := b2_some hf
          refine hc_V (As := [.ref (ad (12 + v6)), .ref (ad (12 + v9))]) (rest := [.int (mnI p1 p3)]) C hK (c_X5_splitsAt l D ct ad F hG v6 v9 S0 c7 c10 v16 S17 h15) hl.1 cp_X5_splitsAt mw_4_75 (rc_X5 hK hP) hP hS ⟨rfl, rfl⟩ ⟨Nat.le_of_ble_eq_true rfl, Nat.le_of_ble_eq_true rfl⟩ rfl rfl (Nat.le_of_ble_eq_true rfl) dX9_distance_67 ⟨Nat.le_of_ble_eq_true rfl, Nat.le_of_ble_eq_true rfl⟩ (fun H locs hP hS => ?_)
          refine va_mmin (ls := _) hx hb (hml.trans hl.1.symm) hown (htL _ mw_4_126) (htL _ mw_2_60) (htL _ mw_1_17) (htL _ mw_2_61) (Nat.le_of_ble_eq_true rfl) (Nat.le_of_ble_eq_true rfl) (Nat.le_of_ble_eq_true rfl) (Nat.le_of_ble_eq_true rfl) dX9_distance_70 ?_
          refine lv_istore (lv' := [(7, .int (mnI (mnI p1 p3) v16)), (6, .ref (ad (12 + v9))), (5, .ref (ad (12 + v6))), (0, .ref (ad 0)), (1, .int p0), (2, .int p1), (3, .int p2), (4, .int p3)]) hx hb dX9_distance_73 hl (by decide) rfl (fun ls hl => ?_)
          refine lv_iload_n hx hb dX9_distance_75 rfl (lv_at hl 5 rfl) ?_
          refine lv_iload hx hb dX9_distance_76 (lv_at hl 0 rfl) ?_
          refine lv_isub hx hb dX9_distance_78 ?_
          refine lv_iload hx hb dX9_distance_79 (lv_at hl 7 rfl) ?_
          refine lv_iadd hx hb dX9_distance_81 ?_
          refine lv_iload hx hb dX9_distance_82 (lv_at hl 0 rfl) ?_
          refine lv_isub hx hb dX9_distance_84 ?_
          cases hf
def rmx_X9_needWholeNotZero : Room := { frames := 8, cells := 1, slots := 6, locals := 140 }
set_option maxHeartbeats 4000000 in
set_option maxRecDepth 100000 in
theorem x_X9_needWholeNotZero (l : Launch) (hl0 : l.stackTraces = false) (D : va_G) (tys : List (ClassId × FieldType)) (F : Nat → Prop) (w : va_W) (p0 : Int32) (n : Nat) (hf : f_X9_needWholeNotZero p0 = some (.error n)) : MetX l yX9_needWholeNotZero cX9_needWholeNotZero 1 none rmx_X9_needWholeNotZero D tys F [.int p0] w w n := by
  refine MetX.of RX9 (by decide) rfl (Nat.le_of_ble_eq_true rfl) ?_
  intro p e s m args below meth c C hPk hK hP hXf ls hl
  have hl : lv_has ls 1 [(0, .int p0)] := hl
  obtain ⟨hx, hb, hr, hml, hown, htL, hlocks⟩ := id C
  have hS : va_S F s.heap s.heap [] := va_S.rf
  generalize hQ : vx_MQ below (fun _ _ _ _ => False) (XQ D w F n) args s 1 6 F = Q
  refine lv_iload_n hx hb dX9_needWholeNotZero_0 rfl (lv_at hl 0 rfl) ?_
  refine lv_if_eq (tgt := 18) hx hb dX9_needWholeNotZero_1 (by decide) (fun c1 => ?_) (fun c1 => ?_)
  · have hf := sp1 c1 hf
    cases hf
    subst hQ
    exact th_IllegalArgumentExceptionW C hl0 hXf hPk hP hS hl.1 mw_2_147 (str_316) ⟨Nat.le_of_ble_eq_true rfl, Nat.le_of_ble_eq_true rfl, Nat.le_of_ble_eq_true rfl, Nat.le_of_ble_eq_true rfl⟩ dX9_needWholeNotZero_18 dX9_needWholeNotZero_21 dX9_needWholeNotZero_22 dX9_needWholeNotZero_25 dX9_needWholeNotZero_28
  · have hf := sp0 c1 hf
    refine lv_iload_n hx hb dX9_needWholeNotZero_4 rfl (lv_at hl 0 rfl) ?_
    refine lv_sipush (v := (-10000)) hx hb dX9_needWholeNotZero_5 (by decide) ?_
    refine lv_icmp_lt (tgt := 18) hx hb dX9_needWholeNotZero_8 (by decide) (fun c2 => ?_) (fun c2 => ?_)
    · have hf := sp1 c2 hf
      cases hf
      subst hQ
      exact th_IllegalArgumentExceptionW C hl0 hXf hPk hP hS hl.1 mw_2_147 (str_316) ⟨Nat.le_of_ble_eq_true rfl, Nat.le_of_ble_eq_true rfl, Nat.le_of_ble_eq_true rfl, Nat.le_of_ble_eq_true rfl⟩ dX9_needWholeNotZero_18 dX9_needWholeNotZero_21 dX9_needWholeNotZero_22 dX9_needWholeNotZero_25 dX9_needWholeNotZero_28
    · have hf := sp0 c2 hf
      refine lv_iload_n hx hb dX9_needWholeNotZero_11 rfl (lv_at hl 0 rfl) ?_
      refine lv_sipush (v := 10000) hx hb dX9_needWholeNotZero_12 (by decide) ?_
      refine lv_icmp_le (tgt := 29) hx hb dX9_needWholeNotZero_15 (by decide) (fun c3 => ?_) (fun c3 => ?_)
      · have hf := sp1 c3 hf
        cases hf
      · have hf := sp0 c3 hf
        cases hf
        subst hQ
        exact th_IllegalArgumentExceptionW C hl0 hXf hPk hP hS hl.1 mw_2_147 (str_316) ⟨Nat.le_of_ble_eq_true rfl, Nat.le_of_ble_eq_true rfl, Nat.le_of_ble_eq_true rfl, Nat.le_of_ble_eq_true rfl⟩ dX9_needWholeNotZero_18 dX9_needWholeNotZero_21 dX9_needWholeNotZero_22 dX9_needWholeNotZero_25 dX9_needWholeNotZero_28
def rmx_X9_begin : Room := { frames := 9, cells := 1, slots := 6, locals := 164 }
set_option maxHeartbeats 4000000 in
set_option maxRecDepth 100000 in
theorem x_X9_begin (l : Launch) (hl0 : l.stackTraces = false) (D : va_G) (ct : Nat → ClassId) (ad : Nat → Nat) (F : Nat → Prop) (hG : Gd ad 70 F) (p0 : Int32) (S0 : St)  (n : Nat) (S' : St) (hf : f_X9_begin p0 S0 = some (.error n, S')) : MetX l yX9_begin cX9_begin 2 (some .int) rmx_X9_begin D (tysW ct) F [.ref (ad 0), .int p0] (cellsC ct ad S0) (cellsC ct ad S') n := by
  refine MetX.of RX9 (by decide) rfl (Nat.le_of_ble_eq_true rfl) ?_
  intro p e s m args below meth c C hPk hK hP hXf ls hl
  have hl : lv_has ls 2 [(0, .ref (ad 0)), (1, .int p0)] := hl
  obtain ⟨hx, hb, hr, hml, hown, htL, hlocks⟩ := id C
  have hS : va_S F s.heap s.heap [] := va_S.rf
  generalize hQ : vx_MQ below (fun _ _ _ _ => False) (XQ D (cellsC ct ad S') F n) args s 1 6 F = Q
  refine lv_iload_n hx hb dX9_begin_0 rfl (lv_at hl 1 rfl) ?_
  rcases bE_some hf with ⟨n2, h1, hf⟩ | ⟨_, h1, hf⟩
  · cases hf
    subst hQ
    exact xc_S (As := [.int p0]) (rest := []) C hl0 hXf hPk (x_X9_needWholeNotZero l hl0 D (tysW ct) F _ p0 _ h1) hl.1 cp_X9_needWholeNotZero mw_4_134 hK hP hS ⟨rfl, rfl⟩ ⟨⟨Nat.le_of_ble_eq_true rfl, Nat.le_of_ble_eq_true rfl⟩, Nat.le_of_ble_eq_true rfl, Nat.le_of_ble_eq_true rfl⟩ rfl rfl (Nat.le_of_ble_eq_true rfl) dX9_begin_1
  · skip
    refine pc_S (As := [.int p0]) (rest := []) C (c_X9_needWholeNotZero l p0 _ h1) hl.1 cp_X9_needWholeNotZero mw_4_134 ⟨rfl, rfl⟩ ⟨Nat.le_of_ble_eq_true rfl, Nat.le_of_ble_eq_true rfl⟩ rfl rfl (Nat.le_of_ble_eq_true rfl) dX9_begin_1 ⟨Nat.le_of_ble_eq_true rfl, Nat.le_of_ble_eq_true rfl⟩ ?_
    refine lv_aload_n hx hb dX9_begin_4 rfl (lv_at hl 0 rfl) ?_
    refine gf_X9_0 C hK hP mw_1_212 dX9_begin_5 ?_
    refine gf_X5_1 C hK hP mw_1_172 dX9_begin_8 ?_
    obtain ⟨v4, h3, hf⟩ := b1_some hf
    refine hc_V (As := []) (rest := []) C hK (c_X0_isFull l D ct ad F hG S0  v4 h3) hl.1 cp_X0_isFull mw_4_138 (rc_X0 hK hP) hP hS ⟨rfl, rfl⟩ ⟨Nat.le_of_ble_eq_true rfl, Nat.le_of_ble_eq_true rfl⟩ rfl rfl (Nat.le_of_ble_eq_true rfl) dX9_begin_11 ⟨Nat.le_of_ble_eq_true rfl, Nat.le_of_ble_eq_true rfl⟩ (fun H locs hP hS => ?_)
    refine lv_if_eq (tgt := 27) hx hb dX9_begin_14 (by decide) (fun c5 => ?_) (fun c5 => ?_)
    · have hf := sp1 c5 hf
      refine lv_aload_n hx hb dX9_begin_27 rfl (lv_at hl 0 rfl) ?_
      refine gf_X9_0 C hK hP mw_1_212 dX9_begin_28 ?_
      refine gf_X5_1 C hK hP mw_1_172 dX9_begin_31 ?_
      refine lv_iload_n hx hb dX9_begin_34 rfl (lv_at hl 1 rfl) ?_
      obtain ⟨v7, S8, h6, hf⟩ := b2_some hf
      refine hc_V (As := [.int p0]) (rest := []) C hK (c_X0_open l D ct ad F hG p0 S0  v7 S8 h6) hl.1 cp_X0_open mw_4_143 (rc_X0 hK hP) hP hS ⟨rfl, rfl⟩ ⟨Nat.le_of_ble_eq_true rfl, Nat.le_of_ble_eq_true rfl⟩ rfl rfl (Nat.le_of_ble_eq_true rfl) dX9_begin_35 ⟨Nat.le_of_ble_eq_true rfl, Nat.le_of_ble_eq_true rfl⟩ (fun H locs hP hS => ?_)
      cases hf
    · have hf := sp0 c5 hf
      cases hf
      subst hQ
      exact th_IllegalStateException C hl0 hXf hPk hP hS hl.1 mw_3_18 (str_164) ⟨Nat.le_of_ble_eq_true rfl, Nat.le_of_ble_eq_true rfl, Nat.le_of_ble_eq_true rfl, Nat.le_of_ble_eq_true rfl⟩ dX9_begin_17 dX9_begin_20 dX9_begin_21 dX9_begin_23 dX9_begin_26
def rmx_X9_needPolynomial : Room := { frames := 8, cells := 1, slots := 6, locals := 140 }
set_option maxHeartbeats 4000000 in
set_option maxRecDepth 100000 in
theorem x_X9_needPolynomial (l : Launch) (hl0 : l.stackTraces = false) (D : va_G) (ct : Nat → ClassId) (ad : Nat → Nat) (F : Nat → Prop) (hG : Gd ad 70 F) (p0 : Int32) (S0 : St)  (n : Nat) (hf : f_X9_needPolynomial p0 S0 = some (.error n)) : MetX l yX9_needPolynomial cX9_needPolynomial 2 none rmx_X9_needPolynomial D (tysW ct) F [.ref (ad 0), .int p0] (cellsC ct ad S0) (cellsC ct ad S0) n := by
  refine MetX.of RX9 (by decide) rfl (Nat.le_of_ble_eq_true rfl) ?_
  intro p e s m args below meth c C hPk hK hP hXf ls hl
  have hl : lv_has ls 2 [(0, .ref (ad 0)), (1, .int p0)] := hl
  obtain ⟨hx, hb, hr, hml, hown, htL, hlocks⟩ := id C
  have hS : va_S F s.heap s.heap [] := va_S.rf
  generalize hQ : vx_MQ below (fun _ _ _ _ => False) (XQ D (cellsC ct ad S0) F n) args s 1 6 F = Q
  refine lv_iload_n hx hb dX9_needPolynomial_0 rfl (lv_at hl 1 rfl) ?_
  refine lv_if_lt (tgt := 18) hx hb dX9_needPolynomial_1 (by decide) (fun c1 => ?_) (fun c1 => ?_)
  · have hf := sp1 c1 hf
    cases hf
    subst hQ
    exact th_IndexOutOfBoundsExceptionW C hl0 hXf hPk hP hS hl.1 mw_3_152 (str_310) ⟨Nat.le_of_ble_eq_true rfl, Nat.le_of_ble_eq_true rfl, Nat.le_of_ble_eq_true rfl, Nat.le_of_ble_eq_true rfl⟩ dX9_needPolynomial_18 dX9_needPolynomial_21 dX9_needPolynomial_22 dX9_needPolynomial_25 dX9_needPolynomial_28
  · have hf := sp0 c1 hf
    refine lv_iload_n hx hb dX9_needPolynomial_4 rfl (lv_at hl 1 rfl) ?_
    refine lv_aload_n hx hb dX9_needPolynomial_5 rfl (lv_at hl 0 rfl) ?_
    refine gf_X9_0 C hK hP mw_1_212 dX9_needPolynomial_6 ?_
    refine gf_X5_1 C hK hP mw_1_172 dX9_needPolynomial_9 ?_
    refine gf_X0_0 C hK hP mw_1_89 dX9_needPolynomial_12 ?_
    refine lv_icmp_lt (tgt := 29) hx hb dX9_needPolynomial_15 (by decide) (fun c2 => ?_) (fun c2 => ?_)
    · have hf := sp1 c2 hf
      cases hf
    · have hf := sp0 c2 hf
      cases hf
      subst hQ
      exact th_IndexOutOfBoundsExceptionW C hl0 hXf hPk hP hS hl.1 mw_3_152 (str_310) ⟨Nat.le_of_ble_eq_true rfl, Nat.le_of_ble_eq_true rfl, Nat.le_of_ble_eq_true rfl, Nat.le_of_ble_eq_true rfl⟩ dX9_needPolynomial_18 dX9_needPolynomial_21 dX9_needPolynomial_22 dX9_needPolynomial_25 dX9_needPolynomial_28
def rmx_X9_term : Room := { frames := 9, cells := 1, slots := 6, locals := 166 }
set_option maxHeartbeats 4000000 in
set_option maxRecDepth 100000 in
theorem x_X9_term (l : Launch) (hl0 : l.stackTraces = false) (D : va_G) (ct : Nat → ClassId) (ad : Nat → Nat) (F : Nat → Prop) (hG : Gd ad 70 F) (p0 : Int32) (p1 : Int32) (p2 : Int32) (S0 : St)  (n : Nat) (S' : St) (hf : f_X9_term p0 p1 p2 S0 = some (.error n, S')) : MetX l yX9_term cX9_term 5 (some .int) rmx_X9_term D (tysW ct) F [.ref (ad 0), .int p0, .int p1, .int p2] (cellsC ct ad S0) (cellsC ct ad S') n := by
  refine MetX.of RX9 (by decide) rfl (Nat.le_of_ble_eq_true rfl) ?_
  intro p e s m args below meth c C hPk hK hP hXf ls hl
  have hl : lv_has ls 5 [(0, .ref (ad 0)), (1, .int p0), (2, .int p1), (3, .int p2)] := hl
  obtain ⟨hx, hb, hr, hml, hown, htL, hlocks⟩ := id C
  have hS : va_S F s.heap s.heap [] := va_S.rf
  generalize hQ : vx_MQ below (fun _ _ _ _ => False) (XQ D (cellsC ct ad S') F n) args s 1 6 F = Q
  refine lv_aload_n hx hb dX9_term_0 rfl (lv_at hl 0 rfl) ?_
  refine lv_iload_n hx hb dX9_term_1 rfl (lv_at hl 1 rfl) ?_
  rcases bE_some hf with ⟨n2, h1, hf⟩ | ⟨_, h1, hf⟩
  · cases hf
    subst hQ
    exact xc_V (As := [.int p0]) (rest := []) C hl0 hXf hPk (x_X9_needPolynomial l hl0 D ct ad F hG p0 S0  _ h1) hl.1 cp_X9_needPolynomial mw_4_159 (rc_X9 hK hP) hK hP hS ⟨rfl, rfl⟩ ⟨⟨Nat.le_of_ble_eq_true rfl, Nat.le_of_ble_eq_true rfl⟩, Nat.le_of_ble_eq_true rfl, Nat.le_of_ble_eq_true rfl⟩ rfl rfl (Nat.le_of_ble_eq_true rfl) dX9_term_2
  · skip
    refine hc_V (As := [.int p0]) (rest := []) C hK (c_X9_needPolynomial l D ct ad F hG p0 S0   h1) hl.1 cp_X9_needPolynomial mw_4_159 (rc_X9 hK hP) hP hS ⟨rfl, rfl⟩ ⟨Nat.le_of_ble_eq_true rfl, Nat.le_of_ble_eq_true rfl⟩ rfl rfl (Nat.le_of_ble_eq_true rfl) dX9_term_2 ⟨Nat.le_of_ble_eq_true rfl, Nat.le_of_ble_eq_true rfl⟩ (fun H locs hP hS => ?_)
    refine lv_aload_n hx hb dX9_term_5 rfl (lv_at hl 0 rfl) ?_
    refine gf_X9_0 C hK hP mw_1_212 dX9_term_6 ?_
    refine gf_X5_1 C hK hP mw_1_172 dX9_term_9 ?_
    refine lv_iload_n hx hb dX9_term_12 rfl (lv_at hl 1 rfl) ?_
    obtain ⟨v4, h3, hf⟩ := b1_some hf
    refine hc_V (As := [.int p0]) (rest := []) C hK (c_X0_page l D ct ad F hG p0 S0  v4 h3) hl.1 cp_X0_page mw_4_164 (rc_X0 hK hP) hP hS ⟨rfl, rfl⟩ ⟨Nat.le_of_ble_eq_true rfl, Nat.le_of_ble_eq_true rfl⟩ rfl rfl (Nat.le_of_ble_eq_true rfl) dX9_term_13 ⟨Nat.le_of_ble_eq_true rfl, Nat.le_of_ble_eq_true rfl⟩ (fun H locs hP hS => ?_)
    obtain ⟨c5, hf⟩ := spy hf
    refine lv_astore (lv' := [(4, .ref (ad (54 + v4))), (0, .ref (ad 0)), (1, .int p0), (2, .int p1), (3, .int p2)]) hx hb dX9_term_16 hl (by decide) rfl (fun ls hl => ?_)
    refine lv_iload_n hx hb dX9_term_18 rfl (lv_at hl 3 rfl) ?_
    refine lv_aload hx hb dX9_term_19 (lv_at hl 0 rfl) ?_
    refine gf_X4_0 C hK hP c5 mw_1_80 dX9_term_21 ?_
    refine lv_bipush (v := 6) hx hb dX9_term_24 (by decide) ?_
    rcases bE_some hf with ⟨n7, h6, hf⟩ | ⟨_, h6, hf⟩
    · cases hf
      subst hQ
      exact xc_S (As := [.int p1, .int (S0.1 (54 + v4) 0), .int 6]) (rest := []) C hl0 hXf hPk (x_X9_needWithin l hl0 D (tysW ct) F _ p1 (S0.1 (54 + v4) 0) 6 _ h6) hl.1 cp_X9_needWithin mw_3_6 hK hP hS ⟨rfl, rfl⟩ ⟨⟨Nat.le_of_ble_eq_true rfl, Nat.le_of_ble_eq_true rfl⟩, Nat.le_of_ble_eq_true rfl, Nat.le_of_ble_eq_true rfl⟩ rfl rfl (Nat.le_of_ble_eq_true rfl) dX9_term_26
    · skip
      refine pc_S (As := [.int p1, .int (S0.1 (54 + v4) 0), .int 6]) (rest := []) C (c_X9_needWithin l p1 (S0.1 (54 + v4) 0) 6 _ h6) hl.1 cp_X9_needWithin mw_3_6 ⟨rfl, rfl⟩ ⟨Nat.le_of_ble_eq_true rfl, Nat.le_of_ble_eq_true rfl⟩ rfl rfl (Nat.le_of_ble_eq_true rfl) dX9_term_26 ⟨Nat.le_of_ble_eq_true rfl, Nat.le_of_ble_eq_true rfl⟩ ?_
      refine lv_iload_n hx hb dX9_term_29 rfl (lv_at hl 4 rfl) ?_
      rcases bE_some hf with ⟨n9, h8, hf⟩ | ⟨_, h8, hf⟩
      · cases hf
        subst hQ
        exact xc_S (As := [.int p2]) (rest := []) C hl0 hXf hPk (x_X9_needWholeNotZero l hl0 D (tysW ct) F _ p2 _ h8) hl.1 cp_X9_needWholeNotZero mw_4_134 hK hP hS ⟨rfl, rfl⟩ ⟨⟨Nat.le_of_ble_eq_true rfl, Nat.le_of_ble_eq_true rfl⟩, Nat.le_of_ble_eq_true rfl, Nat.le_of_ble_eq_true rfl⟩ rfl rfl (Nat.le_of_ble_eq_true rfl) dX9_term_30
      · skip
        refine pc_S (As := [.int p2]) (rest := []) C (c_X9_needWholeNotZero l p2 _ h8) hl.1 cp_X9_needWholeNotZero mw_4_134 ⟨rfl, rfl⟩ ⟨Nat.le_of_ble_eq_true rfl, Nat.le_of_ble_eq_true rfl⟩ rfl rfl (Nat.le_of_ble_eq_true rfl) dX9_term_30 ⟨Nat.le_of_ble_eq_true rfl, Nat.le_of_ble_eq_true rfl⟩ ?_
        refine lv_aload hx hb dX9_term_33 (lv_at hl 0 rfl) ?_
        refine lv_iload_n hx hb dX9_term_35 rfl (lv_at hl 3 rfl) ?_
        refine lv_iload_n hx hb dX9_term_36 rfl (lv_at hl 4 rfl) ?_
        obtain ⟨S11, h10, hf⟩ := b1_some hf
        refine hc_V (As := [.int p1, .int p2]) (rest := []) C hK (c_X4_append l D ct ad F hG v4 p1 p2 S0 c5 S11 h10) hl.1 cp_X4_append mw_4_165 (rc_X4 hK hP c5) hP hS ⟨rfl, rfl⟩ ⟨Nat.le_of_ble_eq_true rfl, Nat.le_of_ble_eq_true rfl⟩ rfl rfl (Nat.le_of_ble_eq_true rfl) dX9_term_37 ⟨Nat.le_of_ble_eq_true rfl, Nat.le_of_ble_eq_true rfl⟩ (fun H locs hP hS => ?_)
        refine lv_aload hx hb dX9_term_40 (lv_at hl 0 rfl) ?_
        obtain ⟨v13, h12, hf⟩ := b1_some hf
        refine hc_V (As := []) (rest := []) C hK (c_X4_termCount l D ct ad F hG v4 S11 c5 v13 h12) hl.1 cp_X4_termCount mw_4_166 (rc_X4 hK hP c5) hP hS ⟨rfl, rfl⟩ ⟨Nat.le_of_ble_eq_true rfl, Nat.le_of_ble_eq_true rfl⟩ rfl rfl (Nat.le_of_ble_eq_true rfl) dX9_term_42 ⟨Nat.le_of_ble_eq_true rfl, Nat.le_of_ble_eq_true rfl⟩ (fun H locs hP hS => ?_)
        cases hf
def rmx_X9_sides : Room := { frames := 9, cells := 1, slots := 6, locals := 165 }
set_option maxHeartbeats 4000000 in
set_option maxRecDepth 100000 in
theorem x_X9_sides (l : Launch) (hl0 : l.stackTraces = false) (D : va_G) (ct : Nat → ClassId) (ad : Nat → Nat) (F : Nat → Prop) (hG : Gd ad 70 F) (p0 : Int32) (S0 : St)  (n : Nat) (hf : f_X9_sides p0 S0 = some (.error n)) : MetX l yX9_sides cX9_sides 2 (some .int) rmx_X9_sides D (tysW ct) F [.ref (ad 0), .int p0] (cellsC ct ad S0) (cellsC ct ad S0) n := by
  refine MetX.of RX9 (by decide) rfl (Nat.le_of_ble_eq_true rfl) ?_
  intro p e s m args below meth c C hPk hK hP hXf ls hl
  have hl : lv_has ls 2 [(0, .ref (ad 0)), (1, .int p0)] := hl
  obtain ⟨hx, hb, hr, hml, hown, htL, hlocks⟩ := id C
  have hS : va_S F s.heap s.heap [] := va_S.rf
  generalize hQ : vx_MQ below (fun _ _ _ _ => False) (XQ D (cellsC ct ad S0) F n) args s 1 6 F = Q
  refine lv_aload_n hx hb dX9_sides_0 rfl (lv_at hl 0 rfl) ?_
  refine lv_iload_n hx hb dX9_sides_1 rfl (lv_at hl 1 rfl) ?_
  rcases bE_some hf with ⟨n2, h1, hf⟩ | ⟨_, h1, hf⟩
  · cases hf
    subst hQ
    exact xc_V (As := [.int p0]) (rest := []) C hl0 hXf hPk (x_X9_needPolynomial l hl0 D ct ad F hG p0 S0  _ h1) hl.1 cp_X9_needPolynomial mw_4_159 (rc_X9 hK hP) hK hP hS ⟨rfl, rfl⟩ ⟨⟨Nat.le_of_ble_eq_true rfl, Nat.le_of_ble_eq_true rfl⟩, Nat.le_of_ble_eq_true rfl, Nat.le_of_ble_eq_true rfl⟩ rfl rfl (Nat.le_of_ble_eq_true rfl) dX9_sides_2
  · skip
    refine hc_V (As := [.int p0]) (rest := []) C hK (c_X9_needPolynomial l D ct ad F hG p0 S0   h1) hl.1 cp_X9_needPolynomial mw_4_159 (rc_X9 hK hP) hP hS ⟨rfl, rfl⟩ ⟨Nat.le_of_ble_eq_true rfl, Nat.le_of_ble_eq_true rfl⟩ rfl rfl (Nat.le_of_ble_eq_true rfl) dX9_sides_2 ⟨Nat.le_of_ble_eq_true rfl, Nat.le_of_ble_eq_true rfl⟩ (fun H locs hP hS => ?_)
    refine lv_aload_n hx hb dX9_sides_5 rfl (lv_at hl 0 rfl) ?_
    refine gf_X9_0 C hK hP mw_1_212 dX9_sides_6 ?_
    refine gf_X5_1 C hK hP mw_1_172 dX9_sides_9 ?_
    refine lv_iload_n hx hb dX9_sides_12 rfl (lv_at hl 1 rfl) ?_
    obtain ⟨v4, h3, hf⟩ := b1_some hf
    refine hc_V (As := [.int p0]) (rest := []) C hK (c_X0_page l D ct ad F hG p0 S0  v4 h3) hl.1 cp_X0_page mw_4_164 (rc_X0 hK hP) hP hS ⟨rfl, rfl⟩ ⟨Nat.le_of_ble_eq_true rfl, Nat.le_of_ble_eq_true rfl⟩ rfl rfl (Nat.le_of_ble_eq_true rfl) dX9_sides_13 ⟨Nat.le_of_ble_eq_true rfl, Nat.le_of_ble_eq_true rfl⟩ (fun H locs hP hS => ?_)
    obtain ⟨c5, hf⟩ := spy hf
    refine lv_aload_n hx hb dX9_sides_16 rfl (lv_at hl 0 rfl) ?_
    refine gf_X9_0 C hK hP mw_1_212 dX9_sides_17 ?_
    refine gf_X5_0 C hK hP mw_1_170 dX9_sides_20 ?_
    refine gf_X2_0 C hK hP mw_1_51 dX9_sides_23 ?_
    obtain ⟨v7, h6, hf⟩ := b1_some hf
    refine hc_V (As := [.int (S0.1 3 0)]) (rest := []) C hK (c_X4_sideCount l D ct ad F hG v4 (S0.1 3 0) S0 c5 v7 h6) hl.1 cp_X4_sideCount mw_4_177 (rc_X4 hK hP c5) hP hS ⟨rfl, rfl⟩ ⟨Nat.le_of_ble_eq_true rfl, Nat.le_of_ble_eq_true rfl⟩ rfl rfl (Nat.le_of_ble_eq_true rfl) dX9_sides_26 ⟨Nat.le_of_ble_eq_true rfl, Nat.le_of_ble_eq_true rfl⟩ (fun H locs hP hS => ?_)
    cases hf
def rmx_X9_needSide : Room := { frames := 9, cells := 1, slots := 6, locals := 165 }
set_option maxHeartbeats 4000000 in
set_option maxRecDepth 100000 in
theorem x_X9_needSide (l : Launch) (hl0 : l.stackTraces = false) (D : va_G) (ct : Nat → ClassId) (ad : Nat → Nat) (F : Nat → Prop) (hG : Gd ad 70 F) (p0 : Int32) (p1 : Int32) (S0 : St)  (n : Nat) (hf : f_X9_needSide p0 p1 S0 = some (.error n)) : MetX l yX9_needSide cX9_needSide 3 none rmx_X9_needSide D (tysW ct) F [.ref (ad 0), .int p0, .int p1] (cellsC ct ad S0) (cellsC ct ad S0) n := by
  refine MetX.of RX9 (by decide) rfl (Nat.le_of_ble_eq_true rfl) ?_
  intro p e s m args below meth c C hPk hK hP hXf ls hl
  have hl : lv_has ls 3 [(0, .ref (ad 0)), (1, .int p0), (2, .int p1)] := hl
  obtain ⟨hx, hb, hr, hml, hown, htL, hlocks⟩ := id C
  have hS : va_S F s.heap s.heap [] := va_S.rf
  generalize hQ : vx_MQ below (fun _ _ _ _ => False) (XQ D (cellsC ct ad S0) F n) args s 1 6 F = Q
  refine lv_aload_n hx hb dX9_needSide_0 rfl (lv_at hl 0 rfl) ?_
  refine lv_iload_n hx hb dX9_needSide_1 rfl (lv_at hl 1 rfl) ?_
  rcases bE_some hf with ⟨n2, h1, hf⟩ | ⟨_, h1, hf⟩
  · cases hf
    subst hQ
    exact xc_V (As := [.int p0]) (rest := []) C hl0 hXf hPk (x_X9_needPolynomial l hl0 D ct ad F hG p0 S0  _ h1) hl.1 cp_X9_needPolynomial mw_4_159 (rc_X9 hK hP) hK hP hS ⟨rfl, rfl⟩ ⟨⟨Nat.le_of_ble_eq_true rfl, Nat.le_of_ble_eq_true rfl⟩, Nat.le_of_ble_eq_true rfl, Nat.le_of_ble_eq_true rfl⟩ rfl rfl (Nat.le_of_ble_eq_true rfl) dX9_needSide_2
  · skip
    refine hc_V (As := [.int p0]) (rest := []) C hK (c_X9_needPolynomial l D ct ad F hG p0 S0   h1) hl.1 cp_X9_needPolynomial mw_4_159 (rc_X9 hK hP) hP hS ⟨rfl, rfl⟩ ⟨Nat.le_of_ble_eq_true rfl, Nat.le_of_ble_eq_true rfl⟩ rfl rfl (Nat.le_of_ble_eq_true rfl) dX9_needSide_2 ⟨Nat.le_of_ble_eq_true rfl, Nat.le_of_ble_eq_true rfl⟩ (fun H locs hP hS => ?_)
    refine lv_iload_n hx hb dX9_needSide_5 rfl (lv_at hl 2 rfl) ?_
    refine lv_if_lt (tgt := 37) hx hb dX9_needSide_6 (by decide) (fun c3 => ?_) (fun c3 => ?_)
    · have hf := sp1 c3 hf
      cases hf
      subst hQ
      exact th_IndexOutOfBoundsExceptionW C hl0 hXf hPk hP hS hl.1 mw_3_152 (str_312) ⟨Nat.le_of_ble_eq_true rfl, Nat.le_of_ble_eq_true rfl, Nat.le_of_ble_eq_true rfl, Nat.le_of_ble_eq_true rfl⟩ dX9_needSide_37 dX9_needSide_40 dX9_needSide_41 dX9_needSide_44 dX9_needSide_47
    · have hf := sp0 c3 hf
      refine lv_iload_n hx hb dX9_needSide_9 rfl (lv_at hl 2 rfl) ?_
      refine lv_aload_n hx hb dX9_needSide_10 rfl (lv_at hl 0 rfl) ?_
      refine gf_X9_0 C hK hP mw_1_212 dX9_needSide_11 ?_
      refine gf_X5_1 C hK hP mw_1_172 dX9_needSide_14 ?_
      refine lv_iload_n hx hb dX9_needSide_17 rfl (lv_at hl 1 rfl) ?_
      obtain ⟨v5, h4, hf⟩ := b1_some hf
      refine hc_V (As := [.int p0]) (rest := [.int p1]) C hK (c_X0_page l D ct ad F hG p0 S0  v5 h4) hl.1 cp_X0_page mw_4_164 (rc_X0 hK hP) hP hS ⟨rfl, rfl⟩ ⟨Nat.le_of_ble_eq_true rfl, Nat.le_of_ble_eq_true rfl⟩ rfl rfl (Nat.le_of_ble_eq_true rfl) dX9_needSide_18 ⟨Nat.le_of_ble_eq_true rfl, Nat.le_of_ble_eq_true rfl⟩ (fun H locs hP hS => ?_)
      obtain ⟨c6, hf⟩ := spy hf
      refine lv_aload_n hx hb dX9_needSide_21 rfl (lv_at hl 0 rfl) ?_
      refine gf_X9_0 C hK hP mw_1_212 dX9_needSide_22 ?_
      refine gf_X5_0 C hK hP mw_1_170 dX9_needSide_25 ?_
      refine gf_X2_0 C hK hP mw_1_51 dX9_needSide_28 ?_
      obtain ⟨v8, h7, hf⟩ := b1_some hf
      refine hc_V (As := [.int (S0.1 3 0)]) (rest := [.int p1]) C hK (c_X4_sideCount l D ct ad F hG v5 (S0.1 3 0) S0 c6 v8 h7) hl.1 cp_X4_sideCount mw_4_177 (rc_X4 hK hP c6) hP hS ⟨rfl, rfl⟩ ⟨Nat.le_of_ble_eq_true rfl, Nat.le_of_ble_eq_true rfl⟩ rfl rfl (Nat.le_of_ble_eq_true rfl) dX9_needSide_31 ⟨Nat.le_of_ble_eq_true rfl, Nat.le_of_ble_eq_true rfl⟩ (fun H locs hP hS => ?_)
      refine lv_icmp_lt (tgt := 48) hx hb dX9_needSide_34 (by decide) (fun c9 => ?_) (fun c9 => ?_)
      · have hf := sp1 c9 hf
        cases hf
      · have hf := sp0 c9 hf
        cases hf
        subst hQ
        exact th_IndexOutOfBoundsExceptionW C hl0 hXf hPk hP hS hl.1 mw_3_152 (str_312) ⟨Nat.le_of_ble_eq_true rfl, Nat.le_of_ble_eq_true rfl, Nat.le_of_ble_eq_true rfl, Nat.le_of_ble_eq_true rfl⟩ dX9_needSide_37 dX9_needSide_40 dX9_needSide_41 dX9_needSide_44 dX9_needSide_47
def rmx_X9_length : Room := { frames := 10, cells := 1, slots := 6, locals := 191 }
set_option maxHeartbeats 4000000 in
set_option maxRecDepth 100000 in
theorem x_X9_length (l : Launch) (hl0 : l.stackTraces = false) (D : va_G) (ct : Nat → ClassId) (ad : Nat → Nat) (F : Nat → Prop) (hG : Gd ad 70 F) (p0 : Int32) (p1 : Int32) (S0 : St)  (n : Nat) (hf : f_X9_length p0 p1 S0 = some (.error n)) : MetX l yX9_length cX9_length 5 (some .int) rmx_X9_length D (tysW ct) F [.ref (ad 0), .int p0, .int p1] (cellsC ct ad S0) (cellsC ct ad S0) n := by
  refine MetX.of RX9 (by decide) rfl (Nat.le_of_ble_eq_true rfl) ?_
  intro p e s m args below meth c C hPk hK hP hXf ls hl
  have hl : lv_has ls 5 [(0, .ref (ad 0)), (1, .int p0), (2, .int p1)] := hl
  obtain ⟨hx, hb, hr, hml, hown, htL, hlocks⟩ := id C
  have hS : va_S F s.heap s.heap [] := va_S.rf
  generalize hQ : vx_MQ below (fun _ _ _ _ => False) (XQ D (cellsC ct ad S0) F n) args s 1 6 F = Q
  refine lv_aload_n hx hb dX9_length_0 rfl (lv_at hl 0 rfl) ?_
  refine lv_iload_n hx hb dX9_length_1 rfl (lv_at hl 1 rfl) ?_
  refine lv_iload_n hx hb dX9_length_2 rfl (lv_at hl 2 rfl) ?_
  rcases bE_some hf with ⟨n2, h1, hf⟩ | ⟨_, h1, hf⟩
  · cases hf
    subst hQ
    exact xc_V (As := [.int p0, .int p1]) (rest := []) C hl0 hXf hPk (x_X9_needSide l hl0 D ct ad F hG p0 p1 S0  _ h1) hl.1 cp_X9_needSide mw_4_197 (rc_X9 hK hP) hK hP hS ⟨rfl, rfl⟩ ⟨⟨Nat.le_of_ble_eq_true rfl, Nat.le_of_ble_eq_true rfl⟩, Nat.le_of_ble_eq_true rfl, Nat.le_of_ble_eq_true rfl⟩ rfl rfl (Nat.le_of_ble_eq_true rfl) dX9_length_3
  · skip
    refine hc_V (As := [.int p0, .int p1]) (rest := []) C hK (c_X9_needSide l D ct ad F hG p0 p1 S0   h1) hl.1 cp_X9_needSide mw_4_197 (rc_X9 hK hP) hP hS ⟨rfl, rfl⟩ ⟨Nat.le_of_ble_eq_true rfl, Nat.le_of_ble_eq_true rfl⟩ rfl rfl (Nat.le_of_ble_eq_true rfl) dX9_length_3 ⟨Nat.le_of_ble_eq_true rfl, Nat.le_of_ble_eq_true rfl⟩ (fun H locs hP hS => ?_)
    refine lv_aload_n hx hb dX9_length_6 rfl (lv_at hl 0 rfl) ?_
    refine gf_X9_0 C hK hP mw_1_212 dX9_length_7 ?_
    refine gf_X5_1 C hK hP mw_1_172 dX9_length_10 ?_
    refine lv_iload_n hx hb dX9_length_13 rfl (lv_at hl 1 rfl) ?_
    obtain ⟨v4, h3, hf⟩ := b1_some hf
    refine hc_V (As := [.int p0]) (rest := []) C hK (c_X0_page l D ct ad F hG p0 S0  v4 h3) hl.1 cp_X0_page mw_4_164 (rc_X0 hK hP) hP hS ⟨rfl, rfl⟩ ⟨Nat.le_of_ble_eq_true rfl, Nat.le_of_ble_eq_true rfl⟩ rfl rfl (Nat.le_of_ble_eq_true rfl) dX9_length_14 ⟨Nat.le_of_ble_eq_true rfl, Nat.le_of_ble_eq_true rfl⟩ (fun H locs hP hS => ?_)
    obtain ⟨c5, hf⟩ := spy hf
    refine lv_astore_n (lv' := [(3, .ref (ad (54 + v4))), (0, .ref (ad 0)), (1, .int p0), (2, .int p1)]) hx hb dX9_length_17 rfl hl (by decide) rfl (fun ls hl => ?_)
    refine lv_aload_n hx hb dX9_length_18 rfl (lv_at hl 0 rfl) ?_
    refine lv_iload_n hx hb dX9_length_19 rfl (lv_at hl 3 rfl) ?_
    refine lv_aload_n hx hb dX9_length_20 rfl (lv_at hl 1 rfl) ?_
    refine gf_X9_0 C hK hP mw_1_212 dX9_length_21 ?_
    refine gf_X5_0 C hK hP mw_1_170 dX9_length_24 ?_
    refine gf_X2_0 C hK hP mw_1_51 dX9_length_27 ?_
    obtain ⟨v7, h6, hf⟩ := b1_some hf
    refine hc_V (As := [.int p1, .int (S0.1 3 0)]) (rest := []) C hK (c_X4_sideStart l D ct ad F hG v4 p1 (S0.1 3 0) S0 c5 v7 h6) hl.1 cp_X4_sideStart mw_4_202 (rc_X4 hK hP c5) hP hS ⟨rfl, rfl⟩ ⟨Nat.le_of_ble_eq_true rfl, Nat.le_of_ble_eq_true rfl⟩ rfl rfl (Nat.le_of_ble_eq_true rfl) dX9_length_30 ⟨Nat.le_of_ble_eq_true rfl, Nat.le_of_ble_eq_true rfl⟩ (fun H locs hP hS => ?_)
    refine lv_istore (lv' := [(4, .int v7), (3, .ref (ad (54 + v4))), (0, .ref (ad 0)), (1, .int p0), (2, .int p1)]) hx hb dX9_length_33 hl (by decide) rfl (fun ls hl => ?_)
    refine lv_aload_n hx hb dX9_length_35 rfl (lv_at hl 1 rfl) ?_
    refine lv_iload hx hb dX9_length_36 (lv_at hl 0 rfl) ?_
    refine lv_aload_n hx hb dX9_length_38 rfl (lv_at hl 2 rfl) ?_
    refine gf_X9_0 C hK hP mw_1_212 dX9_length_39 ?_
    refine gf_X5_0 C hK hP mw_1_170 dX9_length_42 ?_
    refine gf_X2_0 C hK hP mw_1_51 dX9_length_45 ?_
    obtain ⟨v9, h8, hf⟩ := b1_some hf
    refine hc_V (As := [.int v7, .int (S0.1 3 0)]) (rest := []) C hK (c_X4_sideEnd l D ct ad F hG v4 v7 (S0.1 3 0) S0 c5 v9 h8) hl.1 cp_X4_sideEnd mw_4_206 (rc_X4 hK hP c5) hP hS ⟨rfl, rfl⟩ ⟨Nat.le_of_ble_eq_true rfl, Nat.le_of_ble_eq_true rfl⟩ rfl rfl (Nat.le_of_ble_eq_true rfl) dX9_length_48 ⟨Nat.le_of_ble_eq_true rfl, Nat.le_of_ble_eq_true rfl⟩ (fun H locs hP hS => ?_)
    refine lv_iload hx hb dX9_length_51 (lv_at hl 0 rfl) ?_
    refine lv_isub hx hb dX9_length_53 ?_
    cases hf
def rmx_X9_slope : Room := { frames := 10, cells := 1, slots := 6, locals := 191 }
set_option maxHeartbeats 4000000 in
set_option maxRecDepth 100000 in
theorem x_X9_slope (l : Launch) (hl0 : l.stackTraces = false) (D : va_G) (ct : Nat → ClassId) (ad : Nat → Nat) (F : Nat → Prop) (hG : Gd ad 70 F) (p0 : Int32) (p1 : Int32) (S0 : St)  (n : Nat) (hf : f_X9_slope p0 p1 S0 = some (.error n)) : MetX l yX9_slope cX9_slope 4 (some .int) rmx_X9_slope D (tysW ct) F [.ref (ad 0), .int p0, .int p1] (cellsC ct ad S0) (cellsC ct ad S0) n := by
  refine MetX.of RX9 (by decide) rfl (Nat.le_of_ble_eq_true rfl) ?_
  intro p e s m args below meth c C hPk hK hP hXf ls hl
  have hl : lv_has ls 4 [(0, .ref (ad 0)), (1, .int p0), (2, .int p1)] := hl
  obtain ⟨hx, hb, hr, hml, hown, htL, hlocks⟩ := id C
  have hS : va_S F s.heap s.heap [] := va_S.rf
  generalize hQ : vx_MQ below (fun _ _ _ _ => False) (XQ D (cellsC ct ad S0) F n) args s 1 6 F = Q
  refine lv_aload_n hx hb dX9_slope_0 rfl (lv_at hl 0 rfl) ?_
  refine lv_iload_n hx hb dX9_slope_1 rfl (lv_at hl 1 rfl) ?_
  refine lv_iload_n hx hb dX9_slope_2 rfl (lv_at hl 2 rfl) ?_
  rcases bE_some hf with ⟨n2, h1, hf⟩ | ⟨_, h1, hf⟩
  · cases hf
    subst hQ
    exact xc_V (As := [.int p0, .int p1]) (rest := []) C hl0 hXf hPk (x_X9_needSide l hl0 D ct ad F hG p0 p1 S0  _ h1) hl.1 cp_X9_needSide mw_4_197 (rc_X9 hK hP) hK hP hS ⟨rfl, rfl⟩ ⟨⟨Nat.le_of_ble_eq_true rfl, Nat.le_of_ble_eq_true rfl⟩, Nat.le_of_ble_eq_true rfl, Nat.le_of_ble_eq_true rfl⟩ rfl rfl (Nat.le_of_ble_eq_true rfl) dX9_slope_3
  · skip
    refine hc_V (As := [.int p0, .int p1]) (rest := []) C hK (c_X9_needSide l D ct ad F hG p0 p1 S0   h1) hl.1 cp_X9_needSide mw_4_197 (rc_X9 hK hP) hP hS ⟨rfl, rfl⟩ ⟨Nat.le_of_ble_eq_true rfl, Nat.le_of_ble_eq_true rfl⟩ rfl rfl (Nat.le_of_ble_eq_true rfl) dX9_slope_3 ⟨Nat.le_of_ble_eq_true rfl, Nat.le_of_ble_eq_true rfl⟩ (fun H locs hP hS => ?_)
    refine lv_aload_n hx hb dX9_slope_6 rfl (lv_at hl 0 rfl) ?_
    refine gf_X9_0 C hK hP mw_1_212 dX9_slope_7 ?_
    refine gf_X5_1 C hK hP mw_1_172 dX9_slope_10 ?_
    refine lv_iload_n hx hb dX9_slope_13 rfl (lv_at hl 1 rfl) ?_
    obtain ⟨v4, h3, hf⟩ := b1_some hf
    refine hc_V (As := [.int p0]) (rest := []) C hK (c_X0_page l D ct ad F hG p0 S0  v4 h3) hl.1 cp_X0_page mw_4_164 (rc_X0 hK hP) hP hS ⟨rfl, rfl⟩ ⟨Nat.le_of_ble_eq_true rfl, Nat.le_of_ble_eq_true rfl⟩ rfl rfl (Nat.le_of_ble_eq_true rfl) dX9_slope_14 ⟨Nat.le_of_ble_eq_true rfl, Nat.le_of_ble_eq_true rfl⟩ (fun H locs hP hS => ?_)
    obtain ⟨c5, hf⟩ := spy hf
    refine lv_astore_n (lv' := [(3, .ref (ad (54 + v4))), (0, .ref (ad 0)), (1, .int p0), (2, .int p1)]) hx hb dX9_slope_17 rfl hl (by decide) rfl (fun ls hl => ?_)
    refine lv_aload_n hx hb dX9_slope_18 rfl (lv_at hl 0 rfl) ?_
    refine lv_aload_n hx hb dX9_slope_19 rfl (lv_at hl 0 rfl) ?_
    refine lv_iload_n hx hb dX9_slope_20 rfl (lv_at hl 3 rfl) ?_
    refine lv_aload_n hx hb dX9_slope_21 rfl (lv_at hl 1 rfl) ?_
    refine gf_X9_0 C hK hP mw_1_212 dX9_slope_22 ?_
    refine gf_X5_0 C hK hP mw_1_170 dX9_slope_25 ?_
    refine gf_X2_0 C hK hP mw_1_51 dX9_slope_28 ?_
    obtain ⟨v7, h6, hf⟩ := b1_some hf
    refine hc_V (As := [.int p1, .int (S0.1 3 0)]) (rest := [.ref (ad (54 + v4))]) C hK (c_X4_sideStart l D ct ad F hG v4 p1 (S0.1 3 0) S0 c5 v7 h6) hl.1 cp_X4_sideStart mw_4_202 (rc_X4 hK hP c5) hP hS ⟨rfl, rfl⟩ ⟨Nat.le_of_ble_eq_true rfl, Nat.le_of_ble_eq_true rfl⟩ rfl rfl (Nat.le_of_ble_eq_true rfl) dX9_slope_31 ⟨Nat.le_of_ble_eq_true rfl, Nat.le_of_ble_eq_true rfl⟩ (fun H locs hP hS => ?_)
    refine lv_aload_n hx hb dX9_slope_34 rfl (lv_at hl 1 rfl) ?_
    refine gf_X9_0 C hK hP mw_1_212 dX9_slope_35 ?_
    refine gf_X5_0 C hK hP mw_1_170 dX9_slope_38 ?_
    refine gf_X2_0 C hK hP mw_1_51 dX9_slope_41 ?_
    obtain ⟨v9, h8, hf⟩ := b1_some hf
    refine hc_V (As := [.int v7, .int (S0.1 3 0)]) (rest := []) C hK (c_X4_steepness l D ct ad F hG v4 v7 (S0.1 3 0) S0 c5 v9 h8) hl.1 cp_X4_steepness mw_4_214 (rc_X4 hK hP c5) hP hS ⟨rfl, rfl⟩ ⟨Nat.le_of_ble_eq_true rfl, Nat.le_of_ble_eq_true rfl⟩ rfl rfl (Nat.le_of_ble_eq_true rfl) dX9_slope_44 ⟨Nat.le_of_ble_eq_true rfl, Nat.le_of_ble_eq_true rfl⟩ (fun H locs hP hS => ?_)
    cases hf
def rmx_X9_residue : Room := { frames := 9, cells := 1, slots := 6, locals := 166 }
set_option maxHeartbeats 4000000 in
set_option maxRecDepth 100000 in
theorem x_X9_residue (l : Launch) (hl0 : l.stackTraces = false) (D : va_G) (ct : Nat → ClassId) (ad : Nat → Nat) (F : Nat → Prop) (hG : Gd ad 70 F) (p0 : Int32) (p1 : Int32) (S0 : St)  (n : Nat) (hf : f_X9_residue p0 p1 S0 = some (.error n)) : MetX l yX9_residue cX9_residue 3 (some .char) rmx_X9_residue D (tysW ct) F [.ref (ad 0), .int p0, .int p1] (cellsC ct ad S0) (cellsC ct ad S0) n := by
  refine MetX.of RX9 (by decide) rfl (Nat.le_of_ble_eq_true rfl) ?_
  intro p e s m args below meth c C hPk hK hP hXf ls hl
  have hl : lv_has ls 3 [(0, .ref (ad 0)), (1, .int p0), (2, .int p1)] := hl
  obtain ⟨hx, hb, hr, hml, hown, htL, hlocks⟩ := id C
  have hS : va_S F s.heap s.heap [] := va_S.rf
  generalize hQ : vx_MQ below (fun _ _ _ _ => False) (XQ D (cellsC ct ad S0) F n) args s 1 6 F = Q
  refine lv_aload_n hx hb dX9_residue_0 rfl (lv_at hl 0 rfl) ?_
  refine lv_iload_n hx hb dX9_residue_1 rfl (lv_at hl 1 rfl) ?_
  rcases bE_some hf with ⟨n2, h1, hf⟩ | ⟨_, h1, hf⟩
  · cases hf
    subst hQ
    exact xc_V (As := [.int p0]) (rest := []) C hl0 hXf hPk (x_X9_needPolynomial l hl0 D ct ad F hG p0 S0  _ h1) hl.1 cp_X9_needPolynomial mw_4_159 (rc_X9 hK hP) hK hP hS ⟨rfl, rfl⟩ ⟨⟨Nat.le_of_ble_eq_true rfl, Nat.le_of_ble_eq_true rfl⟩, Nat.le_of_ble_eq_true rfl, Nat.le_of_ble_eq_true rfl⟩ rfl rfl (Nat.le_of_ble_eq_true rfl) dX9_residue_2
  · skip
    refine hc_V (As := [.int p0]) (rest := []) C hK (c_X9_needPolynomial l D ct ad F hG p0 S0   h1) hl.1 cp_X9_needPolynomial mw_4_159 (rc_X9 hK hP) hP hS ⟨rfl, rfl⟩ ⟨Nat.le_of_ble_eq_true rfl, Nat.le_of_ble_eq_true rfl⟩ rfl rfl (Nat.le_of_ble_eq_true rfl) dX9_residue_2 ⟨Nat.le_of_ble_eq_true rfl, Nat.le_of_ble_eq_true rfl⟩ (fun H locs hP hS => ?_)
    refine lv_iload_n hx hb dX9_residue_5 rfl (lv_at hl 2 rfl) ?_
    refine lv_iconst (v := 0) hx hb dX9_residue_6 (by decide) ?_
    refine lv_aload_n hx hb dX9_residue_7 rfl (lv_at hl 0 rfl) ?_
    refine gf_X9_0 C hK hP mw_1_212 dX9_residue_8 ?_
    refine gf_X5_0 C hK hP mw_1_170 dX9_residue_11 ?_
    refine gf_X2_0 C hK hP mw_1_51 dX9_residue_14 ?_
    refine lv_iconst (v := 1) hx hb dX9_residue_17 (by decide) ?_
    refine lv_isub hx hb dX9_residue_18 ?_
    rcases bE_some hf with ⟨n4, h3, hf⟩ | ⟨_, h3, hf⟩
    · cases hf
      subst hQ
      exact xc_S (As := [.int p1, .int 0, .int ((S0.1 3 0) - 1)]) (rest := []) C hl0 hXf hPk (x_X9_needWithin l hl0 D (tysW ct) F _ p1 0 ((S0.1 3 0) - 1) _ h3) hl.1 cp_X9_needWithin mw_3_6 hK hP hS ⟨rfl, rfl⟩ ⟨⟨Nat.le_of_ble_eq_true rfl, Nat.le_of_ble_eq_true rfl⟩, Nat.le_of_ble_eq_true rfl, Nat.le_of_ble_eq_true rfl⟩ rfl rfl (Nat.le_of_ble_eq_true rfl) dX9_residue_19
    · skip
      refine pc_S (As := [.int p1, .int 0, .int ((S0.1 3 0) - 1)]) (rest := []) C (c_X9_needWithin l p1 0 ((S0.1 3 0) - 1) _ h3) hl.1 cp_X9_needWithin mw_3_6 ⟨rfl, rfl⟩ ⟨Nat.le_of_ble_eq_true rfl, Nat.le_of_ble_eq_true rfl⟩ rfl rfl (Nat.le_of_ble_eq_true rfl) dX9_residue_19 ⟨Nat.le_of_ble_eq_true rfl, Nat.le_of_ble_eq_true rfl⟩ ?_
      refine lv_aload_n hx hb dX9_residue_22 rfl (lv_at hl 0 rfl) ?_
      refine gf_X9_0 C hK hP mw_1_212 dX9_residue_23 ?_
      refine gf_X5_1 C hK hP mw_1_172 dX9_residue_26 ?_
      refine lv_iload_n hx hb dX9_residue_29 rfl (lv_at hl 1 rfl) ?_
      obtain ⟨v6, h5, hf⟩ := b1_some hf
      refine hc_V (As := [.int p0]) (rest := []) C hK (c_X0_page l D ct ad F hG p0 S0  v6 h5) hl.1 cp_X0_page mw_4_164 (rc_X0 hK hP) hP hS ⟨rfl, rfl⟩ ⟨Nat.le_of_ble_eq_true rfl, Nat.le_of_ble_eq_true rfl⟩ rfl rfl (Nat.le_of_ble_eq_true rfl) dX9_residue_30 ⟨Nat.le_of_ble_eq_true rfl, Nat.le_of_ble_eq_true rfl⟩ (fun H locs hP hS => ?_)
      obtain ⟨c7, hf⟩ := spy hf
      refine lv_iload_n hx hb dX9_residue_33 rfl (lv_at hl 2 rfl) ?_
      refine lv_aload_n hx hb dX9_residue_34 rfl (lv_at hl 0 rfl) ?_
      refine gf_X9_0 C hK hP mw_1_212 dX9_residue_35 ?_
      refine gf_X5_0 C hK hP mw_1_170 dX9_residue_38 ?_
      refine gf_X2_0 C hK hP mw_1_51 dX9_residue_41 ?_
      obtain ⟨v9, h8, hf⟩ := b1_some hf
      refine hc_V (As := [.int p1, .int (S0.1 3 0)]) (rest := []) C hK (c_X4_rootSign l D ct ad F hG v6 p1 (S0.1 3 0) S0 c7 v9 h8) hl.1 cp_X4_rootSign mw_4_228 (rc_X4 hK hP c7) hP hS ⟨rfl, rfl⟩ ⟨Nat.le_of_ble_eq_true rfl, Nat.le_of_ble_eq_true rfl⟩ rfl rfl (Nat.le_of_ble_eq_true rfl) dX9_residue_44 ⟨Nat.le_of_ble_eq_true rfl, Nat.le_of_ble_eq_true rfl⟩ (fun H locs hP hS => ?_)
      obtain ⟨c10, hf⟩ := spy hf
      cases hf
def rmx_X9_lift : Room := { frames := 9, cells := 1, slots := 6, locals := 198 }
set_option maxHeartbeats 4000000 in
set_option maxRecDepth 100000 in
theorem x_X9_lift (l : Launch) (hl0 : l.stackTraces = false) (D : va_G) (ct : Nat → ClassId) (ad : Nat → Nat) (F : Nat → Prop) (hG : Gd ad 70 F) (p0 : Int32) (p1 : Int32) (p2 : Int32) (S0 : St)  (n : Nat) (S' : St) (hf : f_X9_lift p0 p1 p2 S0 = some (.error n, S')) : MetX l yX9_lift cX9_lift 4 (some .int) rmx_X9_lift D (tysW ct) F [.ref (ad 0), .int p0, .int p1, .int p2] (cellsC ct ad S0) (cellsC ct ad S') n := by
  refine MetX.of RX9 (by decide) rfl (Nat.le_of_ble_eq_true rfl) ?_
  intro p e s m args below meth c C hPk hK hP hXf ls hl
  have hl : lv_has ls 4 [(0, .ref (ad 0)), (1, .int p0), (2, .int p1), (3, .int p2)] := hl
  obtain ⟨hx, hb, hr, hml, hown, htL, hlocks⟩ := id C
  have hS : va_S F s.heap s.heap [] := va_S.rf
  generalize hQ : vx_MQ below (fun _ _ _ _ => False) (XQ D (cellsC ct ad S') F n) args s 1 6 F = Q
  refine lv_aload_n hx hb dX9_lift_0 rfl (lv_at hl 0 rfl) ?_
  refine lv_iload_n hx hb dX9_lift_1 rfl (lv_at hl 1 rfl) ?_
  rcases bE_some hf with ⟨n2, h1, hf⟩ | ⟨_, h1, hf⟩
  · cases hf
    subst hQ
    exact xc_V (As := [.int p0]) (rest := []) C hl0 hXf hPk (x_X9_needPolynomial l hl0 D ct ad F hG p0 S0  _ h1) hl.1 cp_X9_needPolynomial mw_4_159 (rc_X9 hK hP) hK hP hS ⟨rfl, rfl⟩ ⟨⟨Nat.le_of_ble_eq_true rfl, Nat.le_of_ble_eq_true rfl⟩, Nat.le_of_ble_eq_true rfl, Nat.le_of_ble_eq_true rfl⟩ rfl rfl (Nat.le_of_ble_eq_true rfl) dX9_lift_2
  · skip
    refine hc_V (As := [.int p0]) (rest := []) C hK (c_X9_needPolynomial l D ct ad F hG p0 S0   h1) hl.1 cp_X9_needPolynomial mw_4_159 (rc_X9 hK hP) hP hS ⟨rfl, rfl⟩ ⟨Nat.le_of_ble_eq_true rfl, Nat.le_of_ble_eq_true rfl⟩ rfl rfl (Nat.le_of_ble_eq_true rfl) dX9_lift_2 ⟨Nat.le_of_ble_eq_true rfl, Nat.le_of_ble_eq_true rfl⟩ (fun H locs hP hS => ?_)
    refine lv_iload_n hx hb dX9_lift_5 rfl (lv_at hl 2 rfl) ?_
    refine lv_iconst (v := 0) hx hb dX9_lift_6 (by decide) ?_
    refine lv_aload_n hx hb dX9_lift_7 rfl (lv_at hl 0 rfl) ?_
    refine gf_X9_0 C hK hP mw_1_212 dX9_lift_8 ?_
    refine gf_X5_0 C hK hP mw_1_170 dX9_lift_11 ?_
    refine gf_X2_0 C hK hP mw_1_51 dX9_lift_14 ?_
    refine lv_iconst (v := 1) hx hb dX9_lift_17 (by decide) ?_
    refine lv_isub hx hb dX9_lift_18 ?_
    rcases bE_some hf with ⟨n4, h3, hf⟩ | ⟨_, h3, hf⟩
    · cases hf
      subst hQ
      exact xc_S (As := [.int p1, .int 0, .int ((S0.1 3 0) - 1)]) (rest := []) C hl0 hXf hPk (x_X9_needWithin l hl0 D (tysW ct) F _ p1 0 ((S0.1 3 0) - 1) _ h3) hl.1 cp_X9_needWithin mw_3_6 hK hP hS ⟨rfl, rfl⟩ ⟨⟨Nat.le_of_ble_eq_true rfl, Nat.le_of_ble_eq_true rfl⟩, Nat.le_of_ble_eq_true rfl, Nat.le_of_ble_eq_true rfl⟩ rfl rfl (Nat.le_of_ble_eq_true rfl) dX9_lift_19
    · skip
      refine pc_S (As := [.int p1, .int 0, .int ((S0.1 3 0) - 1)]) (rest := []) C (c_X9_needWithin l p1 0 ((S0.1 3 0) - 1) _ h3) hl.1 cp_X9_needWithin mw_3_6 ⟨rfl, rfl⟩ ⟨Nat.le_of_ble_eq_true rfl, Nat.le_of_ble_eq_true rfl⟩ rfl rfl (Nat.le_of_ble_eq_true rfl) dX9_lift_19 ⟨Nat.le_of_ble_eq_true rfl, Nat.le_of_ble_eq_true rfl⟩ ?_
      refine lv_iload_n hx hb dX9_lift_22 rfl (lv_at hl 3 rfl) ?_
      refine lv_iconst (v := 1) hx hb dX9_lift_23 (by decide) ?_
      refine lv_aload_n hx hb dX9_lift_24 rfl (lv_at hl 0 rfl) ?_
      refine gf_X9_0 C hK hP mw_1_212 dX9_lift_25 ?_
      refine gf_X5_0 C hK hP mw_1_170 dX9_lift_28 ?_
      refine gf_X2_1 C hK hP mw_1_54 dX9_lift_31 ?_
      rcases bE_some hf with ⟨n6, h5, hf⟩ | ⟨_, h5, hf⟩
      · cases hf
        subst hQ
        exact xc_S (As := [.int p2, .int 1, .int (S0.1 3 1)]) (rest := []) C hl0 hXf hPk (x_X9_needWithin l hl0 D (tysW ct) F _ p2 1 (S0.1 3 1) _ h5) hl.1 cp_X9_needWithin mw_3_6 hK hP hS ⟨rfl, rfl⟩ ⟨⟨Nat.le_of_ble_eq_true rfl, Nat.le_of_ble_eq_true rfl⟩, Nat.le_of_ble_eq_true rfl, Nat.le_of_ble_eq_true rfl⟩ rfl rfl (Nat.le_of_ble_eq_true rfl) dX9_lift_34
      · skip
        refine pc_S (As := [.int p2, .int 1, .int (S0.1 3 1)]) (rest := []) C (c_X9_needWithin l p2 1 (S0.1 3 1) _ h5) hl.1 cp_X9_needWithin mw_3_6 ⟨rfl, rfl⟩ ⟨Nat.le_of_ble_eq_true rfl, Nat.le_of_ble_eq_true rfl⟩ rfl rfl (Nat.le_of_ble_eq_true rfl) dX9_lift_34 ⟨Nat.le_of_ble_eq_true rfl, Nat.le_of_ble_eq_true rfl⟩ ?_
        refine lv_aload_n hx hb dX9_lift_37 rfl (lv_at hl 0 rfl) ?_
        refine gf_X9_0 C hK hP mw_1_212 dX9_lift_38 ?_
        refine gf_X5_1 C hK hP mw_1_172 dX9_lift_41 ?_
        refine lv_iload_n hx hb dX9_lift_44 rfl (lv_at hl 1 rfl) ?_
        obtain ⟨v8, h7, hf⟩ := b1_some hf
        refine hc_V (As := [.int p0]) (rest := []) C hK (c_X0_page l D ct ad F hG p0 S0  v8 h7) hl.1 cp_X0_page mw_4_164 (rc_X0 hK hP) hP hS ⟨rfl, rfl⟩ ⟨Nat.le_of_ble_eq_true rfl, Nat.le_of_ble_eq_true rfl⟩ rfl rfl (Nat.le_of_ble_eq_true rfl) dX9_lift_45 ⟨Nat.le_of_ble_eq_true rfl, Nat.le_of_ble_eq_true rfl⟩ (fun H locs hP hS => ?_)
        obtain ⟨c9, hf⟩ := spy hf
        refine lv_iload_n hx hb dX9_lift_48 rfl (lv_at hl 2 rfl) ?_
        refine lv_aload_n hx hb dX9_lift_49 rfl (lv_at hl 0 rfl) ?_
        refine gf_X9_0 C hK hP mw_1_212 dX9_lift_50 ?_
        refine gf_X5_0 C hK hP mw_1_170 dX9_lift_53 ?_
        refine gf_X2_0 C hK hP mw_1_51 dX9_lift_56 ?_
        obtain ⟨v11, h10, hf⟩ := b1_some hf
        refine hc_V (As := [.int p1, .int (S0.1 3 0)]) (rest := []) C hK (c_X4_rootSign l D ct ad F hG v8 p1 (S0.1 3 0) S0 c9 v11 h10) hl.1 cp_X4_rootSign mw_4_228 (rc_X4 hK hP c9) hP hS ⟨rfl, rfl⟩ ⟨Nat.le_of_ble_eq_true rfl, Nat.le_of_ble_eq_true rfl⟩ rfl rfl (Nat.le_of_ble_eq_true rfl) dX9_lift_59 ⟨Nat.le_of_ble_eq_true rfl, Nat.le_of_ble_eq_true rfl⟩ (fun H locs hP hS => ?_)
        refine lv_bipush (v := 115) hx hb dX9_lift_62 (by decide) ?_
        refine lv_icmp_eq (tgt := 77) hx hb dX9_lift_64 (by decide) (fun c12 => ?_) (fun c12 => ?_)
        · have hf := sp1 c12 hf
          refine lv_aload_n hx hb dX9_lift_77 rfl (lv_at hl 0 rfl) ?_
          rcases bE_some hf with ⟨n14, h13, hf⟩ | ⟨_, h13, hf⟩
          · cases hf
            subst hQ
            exact xc_V (As := []) (rest := []) C hl0 hXf hPk (x_X9_needRoom l hl0 D ct ad F hG S0  _ h13) hl.1 cp_X9_needRoom mw_3_10 (rc_X9 hK hP) hK hP hS ⟨rfl, rfl⟩ ⟨⟨Nat.le_of_ble_eq_true rfl, Nat.le_of_ble_eq_true rfl⟩, Nat.le_of_ble_eq_true rfl, Nat.le_of_ble_eq_true rfl⟩ rfl rfl (Nat.le_of_ble_eq_true rfl) dX9_lift_78
          · skip
            refine hc_V (As := []) (rest := []) C hK (c_X9_needRoom l D ct ad F hG S0   h13) hl.1 cp_X9_needRoom mw_3_10 (rc_X9 hK hP) hP hS ⟨rfl, rfl⟩ ⟨Nat.le_of_ble_eq_true rfl, Nat.le_of_ble_eq_true rfl⟩ rfl rfl (Nat.le_of_ble_eq_true rfl) dX9_lift_78 ⟨Nat.le_of_ble_eq_true rfl, Nat.le_of_ble_eq_true rfl⟩ (fun H locs hP hS => ?_)
            refine lv_aload_n hx hb dX9_lift_81 rfl (lv_at hl 0 rfl) ?_
            refine gf_X9_0 C hK hP mw_1_212 dX9_lift_82 ?_
            refine lv_iload_n hx hb dX9_lift_85 rfl (lv_at hl 1 rfl) ?_
            refine lv_iload_n hx hb dX9_lift_86 rfl (lv_at hl 2 rfl) ?_
            refine lv_iload_n hx hb dX9_lift_87 rfl (lv_at hl 3 rfl) ?_
            obtain ⟨v16, S17, h15, hf⟩ := b2_some hf
            refine hc_V (As := [.int p0, .int p1, .int p2]) (rest := []) C hK (c_X5_addLifted l D ct ad F hG p0 p1 p2 S0  v16 S17 h15) hl.1 cp_X5_addLifted mw_5_2 (rc_X5 hK hP) hP hS ⟨rfl, rfl⟩ ⟨Nat.le_of_ble_eq_true rfl, Nat.le_of_ble_eq_true rfl⟩ rfl rfl (Nat.le_of_ble_eq_true rfl) dX9_lift_88 ⟨Nat.le_of_ble_eq_true rfl, Nat.le_of_ble_eq_true rfl⟩ (fun H locs hP hS => ?_)
            cases hf
        · have hf := sp0 c12 hf
          cases hf
          subst hQ
          exact th_UnsupportedOperationException C hl0 hXf hPk hP hS hl.1 mw_2_219 (str_207) ⟨Nat.le_of_ble_eq_true rfl, Nat.le_of_ble_eq_true rfl, Nat.le_of_ble_eq_true rfl, Nat.le_of_ble_eq_true rfl⟩ dX9_lift_67 dX9_lift_70 dX9_lift_71 dX9_lift_73 dX9_lift_76
def rmx_X9_rootsModulo : Room := { frames := 9, cells := 1, slots := 6, locals := 166 }
set_option maxHeartbeats 4000000 in
set_option maxRecDepth 100000 in
theorem x_X9_rootsModulo (l : Launch) (hl0 : l.stackTraces = false) (D : va_G) (ct : Nat → ClassId) (ad : Nat → Nat) (F : Nat → Prop) (hG : Gd ad 70 F) (p0 : Int32) (p1 : Int32) (S0 : St)  (n : Nat) (hf : f_X9_rootsModulo p0 p1 S0 = some (.error n)) : MetX l yX9_rootsModulo cX9_rootsModulo 5 (some .int) rmx_X9_rootsModulo D (tysW ct) F [.ref (ad 0), .int p0, .int p1] (cellsC ct ad S0) (cellsC ct ad S0) n := by
  refine MetX.of RX9 (by decide) rfl (Nat.le_of_ble_eq_true rfl) ?_
  intro p e s m args below meth c C hPk hK hP hXf ls hl
  have hl : lv_has ls 5 [(0, .ref (ad 0)), (1, .int p0), (2, .int p1)] := hl
  obtain ⟨hx, hb, hr, hml, hown, htL, hlocks⟩ := id C
  have hS : va_S F s.heap s.heap [] := va_S.rf
  generalize hQ : vx_MQ below (fun _ _ _ _ => False) (XQ D (cellsC ct ad S0) F n) args s 1 6 F = Q
  refine lv_aload_n hx hb dX9_rootsModulo_0 rfl (lv_at hl 0 rfl) ?_
  refine lv_iload_n hx hb dX9_rootsModulo_1 rfl (lv_at hl 1 rfl) ?_
  rcases bE_some hf with ⟨n2, h1, hf⟩ | ⟨_, h1, hf⟩
  · cases hf
    subst hQ
    exact xc_V (As := [.int p0]) (rest := []) C hl0 hXf hPk (x_X9_needPolynomial l hl0 D ct ad F hG p0 S0  _ h1) hl.1 cp_X9_needPolynomial mw_4_159 (rc_X9 hK hP) hK hP hS ⟨rfl, rfl⟩ ⟨⟨Nat.le_of_ble_eq_true rfl, Nat.le_of_ble_eq_true rfl⟩, Nat.le_of_ble_eq_true rfl, Nat.le_of_ble_eq_true rfl⟩ rfl rfl (Nat.le_of_ble_eq_true rfl) dX9_rootsModulo_2
  · skip
    refine hc_V (As := [.int p0]) (rest := []) C hK (c_X9_needPolynomial l D ct ad F hG p0 S0   h1) hl.1 cp_X9_needPolynomial mw_4_159 (rc_X9 hK hP) hP hS ⟨rfl, rfl⟩ ⟨Nat.le_of_ble_eq_true rfl, Nat.le_of_ble_eq_true rfl⟩ rfl rfl (Nat.le_of_ble_eq_true rfl) dX9_rootsModulo_2 ⟨Nat.le_of_ble_eq_true rfl, Nat.le_of_ble_eq_true rfl⟩ (fun H locs hP hS => ?_)
    refine lv_iload_n hx hb dX9_rootsModulo_5 rfl (lv_at hl 2 rfl) ?_
    refine lv_iconst (v := 1) hx hb dX9_rootsModulo_6 (by decide) ?_
    refine lv_aload_n hx hb dX9_rootsModulo_7 rfl (lv_at hl 0 rfl) ?_
    refine gf_X9_0 C hK hP mw_1_212 dX9_rootsModulo_8 ?_
    refine gf_X5_0 C hK hP mw_1_170 dX9_rootsModulo_11 ?_
    refine gf_X2_1 C hK hP mw_1_54 dX9_rootsModulo_14 ?_
    rcases bE_some hf with ⟨n4, h3, hf⟩ | ⟨_, h3, hf⟩
    · cases hf
      subst hQ
      exact xc_S (As := [.int p1, .int 1, .int (S0.1 3 1)]) (rest := []) C hl0 hXf hPk (x_X9_needWithin l hl0 D (tysW ct) F _ p1 1 (S0.1 3 1) _ h3) hl.1 cp_X9_needWithin mw_3_6 hK hP hS ⟨rfl, rfl⟩ ⟨⟨Nat.le_of_ble_eq_true rfl, Nat.le_of_ble_eq_true rfl⟩, Nat.le_of_ble_eq_true rfl, Nat.le_of_ble_eq_true rfl⟩ rfl rfl (Nat.le_of_ble_eq_true rfl) dX9_rootsModulo_17
    · skip
      refine pc_S (As := [.int p1, .int 1, .int (S0.1 3 1)]) (rest := []) C (c_X9_needWithin l p1 1 (S0.1 3 1) _ h3) hl.1 cp_X9_needWithin mw_3_6 ⟨rfl, rfl⟩ ⟨Nat.le_of_ble_eq_true rfl, Nat.le_of_ble_eq_true rfl⟩ rfl rfl (Nat.le_of_ble_eq_true rfl) dX9_rootsModulo_17 ⟨Nat.le_of_ble_eq_true rfl, Nat.le_of_ble_eq_true rfl⟩ ?_
      refine lv_aload_n hx hb dX9_rootsModulo_20 rfl (lv_at hl 0 rfl) ?_
      refine gf_X9_0 C hK hP mw_1_212 dX9_rootsModulo_21 ?_
      refine gf_X5_0 C hK hP mw_1_170 dX9_rootsModulo_24 ?_
      refine lv_iload_n hx hb dX9_rootsModulo_27 rfl (lv_at hl 2 rfl) ?_
      obtain ⟨v6, h5, hf⟩ := b1_some hf
      refine hc_V (As := [.int p1]) (rest := []) C hK (c_X2_power l D ct ad F hG p1 S0  v6 h5) hl.1 cp_X2_power mw_5_13 (rc_X2 hK hP) hP hS ⟨rfl, rfl⟩ ⟨Nat.le_of_ble_eq_true rfl, Nat.le_of_ble_eq_true rfl⟩ rfl rfl (Nat.le_of_ble_eq_true rfl) dX9_rootsModulo_28 ⟨Nat.le_of_ble_eq_true rfl, Nat.le_of_ble_eq_true rfl⟩ (fun H locs hP hS => ?_)
      refine lv_lstore_n (lv' := [(3, .long v6), (0, .ref (ad 0)), (1, .int p0), (2, .int p1)]) hx hb dX9_rootsModulo_31 rfl hl (by decide) rfl (fun ls hl => ?_)
      refine lv_lload_n hx hb dX9_rootsModulo_32 rfl (lv_at hl 0 rfl) ?_
      refine lv_ldc2 (v := 10000) hx hb hown (htL _ mw_5_14) dX9_rootsModulo_33 ?_
      refine W.lcmp hx hb dX9_rootsModulo_36 ?_
      refine lv_if_le (tgt := 50) hx hb dX9_rootsModulo_37 (by decide) (fun c7 => ?_) (fun c7 => ?_)
      · have hf := sp1 c7 hf
        refine lv_aload_n hx hb dX9_rootsModulo_50 rfl (lv_at hl 1 rfl) ?_
        refine gf_X9_0 C hK hP mw_1_212 dX9_rootsModulo_51 ?_
        refine gf_X5_1 C hK hP mw_1_172 dX9_rootsModulo_54 ?_
        refine lv_iload_n hx hb dX9_rootsModulo_57 rfl (lv_at hl 2 rfl) ?_
        obtain ⟨v9, h8, hf⟩ := b1_some hf
        refine hc_V (As := [.int p0]) (rest := []) C hK (c_X0_page l D ct ad F hG p0 S0  v9 h8) hl.1 cp_X0_page mw_4_164 (rc_X0 hK hP) hP hS ⟨rfl, rfl⟩ ⟨Nat.le_of_ble_eq_true rfl, Nat.le_of_ble_eq_true rfl⟩ rfl rfl (Nat.le_of_ble_eq_true rfl) dX9_rootsModulo_58 ⟨Nat.le_of_ble_eq_true rfl, Nat.le_of_ble_eq_true rfl⟩ (fun H locs hP hS => ?_)
        obtain ⟨c10, hf⟩ := spy hf
        refine lv_lload_n hx hb dX9_rootsModulo_61 rfl (lv_at hl 0 rfl) ?_
        refine lv_l2i hx hb dX9_rootsModulo_62 rfl ?_
        obtain ⟨v12, h11, hf⟩ := b1_some hf
        refine hc_V (As := [.int (Int64.toInt32 v6)]) (rest := []) C hK (c_X4_rootCount l D ct ad F hG v9 (Int64.toInt32 v6) S0 c10 v12 h11) hl.1 cp_X4_rootCount mw_5_16 (rc_X4 hK hP c10) hP hS ⟨rfl, rfl⟩ ⟨Nat.le_of_ble_eq_true rfl, Nat.le_of_ble_eq_true rfl⟩ rfl rfl (Nat.le_of_ble_eq_true rfl) dX9_rootsModulo_63 ⟨Nat.le_of_ble_eq_true rfl, Nat.le_of_ble_eq_true rfl⟩ (fun H locs hP hS => ?_)
        cases hf
      · have hf := sp0 c7 hf
        cases hf
        subst hQ
        exact th_IllegalArgumentException C hl0 hXf hPk hP hS hl.1 mw_2_147 (str_218) ⟨Nat.le_of_ble_eq_true rfl, Nat.le_of_ble_eq_true rfl, Nat.le_of_ble_eq_true rfl, Nat.le_of_ble_eq_true rfl⟩ dX9_rootsModulo_40 dX9_rootsModulo_43 dX9_rootsModulo_44 dX9_rootsModulo_46 dX9_rootsModulo_49
def rmx_X9_symbol : Room := { frames := 9, cells := 1, slots := 6, locals := 175 }
set_option maxHeartbeats 4000000 in
set_option maxRecDepth 100000 in
theorem x_X9_symbol (l : Launch) (hl0 : l.stackTraces = false) (D : va_G) (ct : Nat → ClassId) (ad : Nat → Nat) (F : Nat → Prop) (hG : Gd ad 70 F) (p0 : Int32) (p1 : Int32) (p2 : Int32) (S0 : St)  (n : Nat) (hf : f_X9_symbol p0 p1 p2 S0 = some (.error n)) : MetX l yX9_symbol cX9_symbol 4 (some .int) rmx_X9_symbol D (tysW ct) F [.ref (ad 0), .int p0, .int p1, .int p2] (cellsC ct ad S0) (cellsC ct ad S0) n := by
  refine MetX.of RX9 (by decide) rfl (Nat.le_of_ble_eq_true rfl) ?_
  intro p e s m args below meth c C hPk hK hP hXf ls hl
  have hl : lv_has ls 4 [(0, .ref (ad 0)), (1, .int p0), (2, .int p1), (3, .int p2)] := hl
  obtain ⟨hx, hb, hr, hml, hown, htL, hlocks⟩ := id C
  have hS : va_S F s.heap s.heap [] := va_S.rf
  generalize hQ : vx_MQ below (fun _ _ _ _ => False) (XQ D (cellsC ct ad S0) F n) args s 1 6 F = Q
  have w_37 : ∀ (x1 : Int32) (x2 : Int32) (x3 : Int32), ∀ (H : Heap) (locs : List Loc) (ls : Array Slot), lv_has ls 4 [(1, .int x1), (2, .int x2), (3, .int x3)] → va_P D vwCl (cellsC ct ad S0) H → va_S F s.heap H locs → n_X9_symbol_37 S0 x1 x2 x3 = some (.error n) → W p l e rmx_X9_symbol s m args below meth c H locs 0 0 Q (F0 m 37 ls []) := by
    intro  x1 x2 x3 H locs ls hl hP hS hf
    refine lv_iload_n hx hb dX9_symbol_37 rfl (lv_at hl 0 rfl) ?_
    refine lv_iload_n hx hb dX9_symbol_38 rfl (lv_at hl 1 rfl) ?_
    refine lv_iload_n hx hb dX9_symbol_39 rfl (lv_at hl 2 rfl) ?_
    obtain ⟨v1, h2, hf⟩ := b1_some hf
    refine pc_S (As := [.int x1, .int x2, .int x3]) (rest := []) C (c_X7_signAt l x1 x2 x3 v1 h2) hl.1 cp_X7_signAt mw_5_28 ⟨rfl, rfl⟩ ⟨Nat.le_of_ble_eq_true rfl, Nat.le_of_ble_eq_true rfl⟩ rfl rfl (Nat.le_of_ble_eq_true rfl) dX9_symbol_40 ⟨Nat.le_of_ble_eq_true rfl, Nat.le_of_ble_eq_true rfl⟩ ?_
    cases hf
  refine lv_iload_n hx hb dX9_symbol_0 rfl (lv_at hl 1 rfl) ?_
  rcases bE_some hf with ⟨n4, h3, hf⟩ | ⟨_, h3, hf⟩
  · cases hf
    subst hQ
    exact xc_S (As := [.int p0]) (rest := []) C hl0 hXf hPk (x_X9_needWholeNotZero l hl0 D (tysW ct) F _ p0 _ h3) hl.1 cp_X9_needWholeNotZero mw_4_134 hK hP hS ⟨rfl, rfl⟩ ⟨⟨Nat.le_of_ble_eq_true rfl, Nat.le_of_ble_eq_true rfl⟩, Nat.le_of_ble_eq_true rfl, Nat.le_of_ble_eq_true rfl⟩ rfl rfl (Nat.le_of_ble_eq_true rfl) dX9_symbol_1
  · skip
    refine pc_S (As := [.int p0]) (rest := []) C (c_X9_needWholeNotZero l p0 _ h3) hl.1 cp_X9_needWholeNotZero mw_4_134 ⟨rfl, rfl⟩ ⟨Nat.le_of_ble_eq_true rfl, Nat.le_of_ble_eq_true rfl⟩ rfl rfl (Nat.le_of_ble_eq_true rfl) dX9_symbol_1 ⟨Nat.le_of_ble_eq_true rfl, Nat.le_of_ble_eq_true rfl⟩ ?_
    refine lv_iload_n hx hb dX9_symbol_4 rfl (lv_at hl 2 rfl) ?_
    rcases bE_some hf with ⟨n6, h5, hf⟩ | ⟨_, h5, hf⟩
    · cases hf
      subst hQ
      exact xc_S (As := [.int p1]) (rest := []) C hl0 hXf hPk (x_X9_needWholeNotZero l hl0 D (tysW ct) F _ p1 _ h5) hl.1 cp_X9_needWholeNotZero mw_4_134 hK hP hS ⟨rfl, rfl⟩ ⟨⟨Nat.le_of_ble_eq_true rfl, Nat.le_of_ble_eq_true rfl⟩, Nat.le_of_ble_eq_true rfl, Nat.le_of_ble_eq_true rfl⟩ rfl rfl (Nat.le_of_ble_eq_true rfl) dX9_symbol_5
    · skip
      refine pc_S (As := [.int p1]) (rest := []) C (c_X9_needWholeNotZero l p1 _ h5) hl.1 cp_X9_needWholeNotZero mw_4_134 ⟨rfl, rfl⟩ ⟨Nat.le_of_ble_eq_true rfl, Nat.le_of_ble_eq_true rfl⟩ rfl rfl (Nat.le_of_ble_eq_true rfl) dX9_symbol_5 ⟨Nat.le_of_ble_eq_true rfl, Nat.le_of_ble_eq_true rfl⟩ ?_
      refine lv_iload_n hx hb dX9_symbol_8 rfl (lv_at hl 3 rfl) ?_
      refine lv_iconst (v := 0) hx hb dX9_symbol_9 (by decide) ?_
      refine lv_sipush (v := 10000) hx hb dX9_symbol_10 (by decide) ?_
      rcases bE_some hf with ⟨n8, h7, hf⟩ | ⟨_, h7, hf⟩
      · cases hf
        subst hQ
        exact xc_S (As := [.int p2, .int 0, .int 10000]) (rest := []) C hl0 hXf hPk (x_X9_needWithin l hl0 D (tysW ct) F _ p2 0 10000 _ h7) hl.1 cp_X9_needWithin mw_3_6 hK hP hS ⟨rfl, rfl⟩ ⟨⟨Nat.le_of_ble_eq_true rfl, Nat.le_of_ble_eq_true rfl⟩, Nat.le_of_ble_eq_true rfl, Nat.le_of_ble_eq_true rfl⟩ rfl rfl (Nat.le_of_ble_eq_true rfl) dX9_symbol_13
      · skip
        refine pc_S (As := [.int p2, .int 0, .int 10000]) (rest := []) C (c_X9_needWithin l p2 0 10000 _ h7) hl.1 cp_X9_needWithin mw_3_6 ⟨rfl, rfl⟩ ⟨Nat.le_of_ble_eq_true rfl, Nat.le_of_ble_eq_true rfl⟩ rfl rfl (Nat.le_of_ble_eq_true rfl) dX9_symbol_13 ⟨Nat.le_of_ble_eq_true rfl, Nat.le_of_ble_eq_true rfl⟩ ?_
        refine lv_iload_n hx hb dX9_symbol_16 rfl (lv_at hl 3 rfl) ?_
        refine lv_if_eq (tgt := 37) hx hb dX9_symbol_17 (by decide) (fun c9 => ?_) (fun c9 => ?_)
        · have hf := sp1 c9 hf
          exact w_37 p0 p1 p2 _ _ _ (lv_sub hl [1, 2, 3] rfl) hP hS hf
        · have hf := sp0 c9 hf
          refine lv_iload_n hx hb dX9_symbol_20 rfl (lv_at hl 3 rfl) ?_
          obtain ⟨v10, h11, hf⟩ := b1_some hf
          refine pc_S (As := [.int p2]) (rest := []) C (c_X8_isPrime l p2 v10 h11) hl.1 cp_X8_isPrime mw_2_144 ⟨rfl, rfl⟩ ⟨Nat.le_of_ble_eq_true rfl, Nat.le_of_ble_eq_true rfl⟩ rfl rfl (Nat.le_of_ble_eq_true rfl) dX9_symbol_21 ⟨Nat.le_of_ble_eq_true rfl, Nat.le_of_ble_eq_true rfl⟩ ?_
          refine lv_if_ne (tgt := 37) hx hb dX9_symbol_24 (by decide) (fun c12 => ?_) (fun c12 => ?_)
          · have hf := sp0 c12 hf
            exact w_37 p0 p1 p2 _ _ _ (lv_sub hl [1, 2, 3] rfl) hP hS hf
          · have hf := sp1 c12 hf
            cases hf
            subst hQ
            exact th_IllegalArgumentException C hl0 hXf hPk hP hS hl.1 mw_2_147 (str_223) ⟨Nat.le_of_ble_eq_true rfl, Nat.le_of_ble_eq_true rfl, Nat.le_of_ble_eq_true rfl, Nat.le_of_ble_eq_true rfl⟩ dX9_symbol_27 dX9_symbol_30 dX9_symbol_31 dX9_symbol_33 dX9_symbol_36
def rmx_X9_obstacle : Room := { frames := 9, cells := 1, slots := 6, locals := 203 }
set_option maxHeartbeats 4000000 in
set_option maxRecDepth 100000 in
theorem x_X9_obstacle (l : Launch) (hl0 : l.stackTraces = false) (D : va_G) (ct : Nat → ClassId) (ad : Nat → Nat) (F : Nat → Prop) (hG : Gd ad 70 F) (p0 : Int32) (p1 : Int32) (S0 : St)  (n : Nat) (hf : f_X9_obstacle p0 p1 S0 = some (.error n)) : MetX l yX9_obstacle cX9_obstacle 4 (some .int) rmx_X9_obstacle D (tysW ct) F [.ref (ad 0), .int p0, .int p1] (cellsC ct ad S0) (cellsC ct ad S0) n := by
  refine MetX.of RX9 (by decide) rfl (Nat.le_of_ble_eq_true rfl) ?_
  intro p e s m args below meth c C hPk hK hP hXf ls hl
  have hl : lv_has ls 4 [(0, .ref (ad 0)), (1, .int p0), (2, .int p1)] := hl
  obtain ⟨hx, hb, hr, hml, hown, htL, hlocks⟩ := id C
  have hS : va_S F s.heap s.heap [] := va_S.rf
  generalize hQ : vx_MQ below (fun _ _ _ _ => False) (XQ D (cellsC ct ad S0) F n) args s 1 6 F = Q
  refine lv_iload_n hx hb dX9_obstacle_0 rfl (lv_at hl 1 rfl) ?_
  rcases bE_some hf with ⟨n2, h1, hf⟩ | ⟨_, h1, hf⟩
  · cases hf
    subst hQ
    exact xc_S (As := [.int p0]) (rest := []) C hl0 hXf hPk (x_X9_needWholeNotZero l hl0 D (tysW ct) F _ p0 _ h1) hl.1 cp_X9_needWholeNotZero mw_4_134 hK hP hS ⟨rfl, rfl⟩ ⟨⟨Nat.le_of_ble_eq_true rfl, Nat.le_of_ble_eq_true rfl⟩, Nat.le_of_ble_eq_true rfl, Nat.le_of_ble_eq_true rfl⟩ rfl rfl (Nat.le_of_ble_eq_true rfl) dX9_obstacle_1
  · skip
    refine pc_S (As := [.int p0]) (rest := []) C (c_X9_needWholeNotZero l p0 _ h1) hl.1 cp_X9_needWholeNotZero mw_4_134 ⟨rfl, rfl⟩ ⟨Nat.le_of_ble_eq_true rfl, Nat.le_of_ble_eq_true rfl⟩ rfl rfl (Nat.le_of_ble_eq_true rfl) dX9_obstacle_1 ⟨Nat.le_of_ble_eq_true rfl, Nat.le_of_ble_eq_true rfl⟩ ?_
    refine lv_iload_n hx hb dX9_obstacle_4 rfl (lv_at hl 2 rfl) ?_
    rcases bE_some hf with ⟨n4, h3, hf⟩ | ⟨_, h3, hf⟩
    · cases hf
      subst hQ
      exact xc_S (As := [.int p1]) (rest := []) C hl0 hXf hPk (x_X9_needWholeNotZero l hl0 D (tysW ct) F _ p1 _ h3) hl.1 cp_X9_needWholeNotZero mw_4_134 hK hP hS ⟨rfl, rfl⟩ ⟨⟨Nat.le_of_ble_eq_true rfl, Nat.le_of_ble_eq_true rfl⟩, Nat.le_of_ble_eq_true rfl, Nat.le_of_ble_eq_true rfl⟩ rfl rfl (Nat.le_of_ble_eq_true rfl) dX9_obstacle_5
    · skip
      refine pc_S (As := [.int p1]) (rest := []) C (c_X9_needWholeNotZero l p1 _ h3) hl.1 cp_X9_needWholeNotZero mw_4_134 ⟨rfl, rfl⟩ ⟨Nat.le_of_ble_eq_true rfl, Nat.le_of_ble_eq_true rfl⟩ rfl rfl (Nat.le_of_ble_eq_true rfl) dX9_obstacle_5 ⟨Nat.le_of_ble_eq_true rfl, Nat.le_of_ble_eq_true rfl⟩ ?_
      refine lv_iload_n hx hb dX9_obstacle_8 rfl (lv_at hl 1 rfl) ?_
      refine lv_iload_n hx hb dX9_obstacle_9 rfl (lv_at hl 2 rfl) ?_
      refine lv_sipush (v := 10000) hx hb dX9_obstacle_10 (by decide) ?_
      obtain ⟨v5, h6, hf⟩ := b1_some hf
      refine pc_S (As := [.int p0, .int p1, .int 10000]) (rest := []) C (c_X7_firstMinus l p0 p1 10000 v5 h6) hl.1 cp_X7_firstMinus mw_5_52 ⟨rfl, rfl⟩ ⟨Nat.le_of_ble_eq_true rfl, Nat.le_of_ble_eq_true rfl⟩ rfl rfl (Nat.le_of_ble_eq_true rfl) dX9_obstacle_13 ⟨Nat.le_of_ble_eq_true rfl, Nat.le_of_ble_eq_true rfl⟩ ?_
      refine lv_istore_n (lv' := [(3, .int v5), (0, .ref (ad 0)), (1, .int p0), (2, .int p1)]) hx hb dX9_obstacle_16 rfl hl (by decide) rfl (fun ls hl => ?_)
      refine lv_iload_n hx hb dX9_obstacle_17 rfl (lv_at hl 0 rfl) ?_
      refine lv_if_ge (tgt := 31) hx hb dX9_obstacle_18 (by decide) (fun c7 => ?_) (fun c7 => ?_)
      · have hf := sp1 c7 hf
        refine lv_iload_n hx hb dX9_obstacle_31 rfl (lv_at hl 0 rfl) ?_
        cases hf
      · have hf := sp0 c7 hf
        cases hf
        subst hQ
        exact th_NoSuchElementException C hl0 hXf hPk hP hS hl.1 mw_4_13 (str_233) ⟨Nat.le_of_ble_eq_true rfl, Nat.le_of_ble_eq_true rfl, Nat.le_of_ble_eq_true rfl, Nat.le_of_ble_eq_true rfl⟩ dX9_obstacle_21 dX9_obstacle_24 dX9_obstacle_25 dX9_obstacle_27 dX9_obstacle_30
def rmx_X9_setSize : Room := { frames := 9, cells := 1, slots := 6, locals := 166 }
set_option maxHeartbeats 4000000 in
set_option maxRecDepth 100000 in
theorem x_X9_setSize (l : Launch) (hl0 : l.stackTraces = false) (D : va_G) (ct : Nat → ClassId) (ad : Nat → Nat) (F : Nat → Prop) (hG : Gd ad 70 F) (p0 : Int32) (S0 : St)  (n : Nat) (S' : St) (hf : f_X9_setSize p0 S0 = some (.error n, S')) : MetX l yX9_setSize cX9_setSize 3 (some .int) rmx_X9_setSize D (tysW ct) F [.ref (ad 0), .int p0] (cellsC ct ad S0) (cellsC ct ad S') n := by
  refine MetX.of RX9 (by decide) rfl (Nat.le_of_ble_eq_true rfl) ?_
  intro p e s m args below meth c C hPk hK hP hXf ls hl
  have hl : lv_has ls 3 [(0, .ref (ad 0)), (1, .int p0)] := hl
  obtain ⟨hx, hb, hr, hml, hown, htL, hlocks⟩ := id C
  have hS : va_S F s.heap s.heap [] := va_S.rf
  generalize hQ : vx_MQ below (fun _ _ _ _ => False) (XQ D (cellsC ct ad S') F n) args s 1 6 F = Q
  refine lv_iload_n hx hb dX9_setSize_0 rfl (lv_at hl 1 rfl) ?_
  refine lv_iconst (v := 1) hx hb dX9_setSize_1 (by decide) ?_
  refine lv_iconst (v := 4) hx hb dX9_setSize_2 (by decide) ?_
  rcases bE_some hf with ⟨n2, h1, hf⟩ | ⟨_, h1, hf⟩
  · cases hf
    subst hQ
    exact xc_S (As := [.int p0, .int 1, .int 4]) (rest := []) C hl0 hXf hPk (x_X9_needWithin l hl0 D (tysW ct) F _ p0 1 4 _ h1) hl.1 cp_X9_needWithin mw_3_6 hK hP hS ⟨rfl, rfl⟩ ⟨⟨Nat.le_of_ble_eq_true rfl, Nat.le_of_ble_eq_true rfl⟩, Nat.le_of_ble_eq_true rfl, Nat.le_of_ble_eq_true rfl⟩ rfl rfl (Nat.le_of_ble_eq_true rfl) dX9_setSize_3
  · skip
    refine pc_S (As := [.int p0, .int 1, .int 4]) (rest := []) C (c_X9_needWithin l p0 1 4 _ h1) hl.1 cp_X9_needWithin mw_3_6 ⟨rfl, rfl⟩ ⟨Nat.le_of_ble_eq_true rfl, Nat.le_of_ble_eq_true rfl⟩ rfl rfl (Nat.le_of_ble_eq_true rfl) dX9_setSize_3 ⟨Nat.le_of_ble_eq_true rfl, Nat.le_of_ble_eq_true rfl⟩ ?_
    refine lv_aload_n hx hb dX9_setSize_6 rfl (lv_at hl 0 rfl) ?_
    refine gf_X9_1 C hK hP mw_1_213 dX9_setSize_7 ?_
    refine gf_X1_0 C hK hP mw_1_202 dX9_setSize_10 ?_
    refine lv_istore_n (lv' := [(2, .int (S0.1 2 0)), (0, .ref (ad 0)), (1, .int p0)]) hx hb dX9_setSize_13 rfl hl (by decide) rfl (fun ls hl => ?_)
    refine lv_aload_n hx hb dX9_setSize_14 rfl (lv_at hl 1 rfl) ?_
    refine gf_X9_1 C hK hP mw_1_213 dX9_setSize_15 ?_
    refine lv_iload_n hx hb dX9_setSize_18 rfl (lv_at hl 2 rfl) ?_
    obtain ⟨S4, h3, hf⟩ := b1_some hf
    refine hc_V (As := [.int p0]) (rest := []) C hK (c_X1_clearTo l D ct ad F hG p0 S0  S4 h3) hl.1 cp_X1_clearTo mw_5_66 (rc_X1 hK hP) hP hS ⟨rfl, rfl⟩ ⟨Nat.le_of_ble_eq_true rfl, Nat.le_of_ble_eq_true rfl⟩ rfl rfl (Nat.le_of_ble_eq_true rfl) dX9_setSize_19 ⟨Nat.le_of_ble_eq_true rfl, Nat.le_of_ble_eq_true rfl⟩ (fun H locs hP hS => ?_)
    refine lv_iload_n hx hb dX9_setSize_22 rfl (lv_at hl 0 rfl) ?_
    cases hf
def rmx_X9_setEntry : Room := { frames := 9, cells := 1, slots := 6, locals := 166 }
set_option maxHeartbeats 4000000 in
set_option maxRecDepth 100000 in
theorem x_X9_setEntry (l : Launch) (hl0 : l.stackTraces = false) (D : va_G) (ct : Nat → ClassId) (ad : Nat → Nat) (F : Nat → Prop) (hG : Gd ad 70 F) (p0 : Int32) (p1 : Int32) (p2 : Int32) (S0 : St)  (n : Nat) (S' : St) (hf : f_X9_setEntry p0 p1 p2 S0 = some (.error n, S')) : MetX l yX9_setEntry cX9_setEntry 4 (some .int) rmx_X9_setEntry D (tysW ct) F [.ref (ad 0), .int p0, .int p1, .int p2] (cellsC ct ad S0) (cellsC ct ad S') n := by
  refine MetX.of RX9 (by decide) rfl (Nat.le_of_ble_eq_true rfl) ?_
  intro p e s m args below meth c C hPk hK hP hXf ls hl
  have hl : lv_has ls 4 [(0, .ref (ad 0)), (1, .int p0), (2, .int p1), (3, .int p2)] := hl
  obtain ⟨hx, hb, hr, hml, hown, htL, hlocks⟩ := id C
  have hS : va_S F s.heap s.heap [] := va_S.rf
  generalize hQ : vx_MQ below (fun _ _ _ _ => False) (XQ D (cellsC ct ad S') F n) args s 1 6 F = Q
  refine lv_aload_n hx hb dX9_setEntry_0 rfl (lv_at hl 0 rfl) ?_
  refine gf_X9_1 C hK hP mw_1_213 dX9_setEntry_1 ?_
  refine lv_iload_n hx hb dX9_setEntry_4 rfl (lv_at hl 1 rfl) ?_
  refine lv_iload_n hx hb dX9_setEntry_5 rfl (lv_at hl 2 rfl) ?_
  obtain ⟨v2, h1, hf⟩ := b1_some hf
  refine hc_V (As := [.int p0, .int p1]) (rest := []) C hK (c_X1_has l D ct ad F hG p0 p1 S0  v2 h1) hl.1 cp_X1_has mw_5_77 (rc_X1 hK hP) hP hS ⟨rfl, rfl⟩ ⟨Nat.le_of_ble_eq_true rfl, Nat.le_of_ble_eq_true rfl⟩ rfl rfl (Nat.le_of_ble_eq_true rfl) dX9_setEntry_6 ⟨Nat.le_of_ble_eq_true rfl, Nat.le_of_ble_eq_true rfl⟩ (fun H locs hP hS => ?_)
  refine lv_if_ne (tgt := 22) hx hb dX9_setEntry_9 (by decide) (fun c3 => ?_) (fun c3 => ?_)
  · have hf := sp0 c3 hf
    refine lv_iload_n hx hb dX9_setEntry_22 rfl (lv_at hl 3 rfl) ?_
    refine lv_sipush (v := (-999)) hx hb dX9_setEntry_23 (by decide) ?_
    refine lv_sipush (v := 999) hx hb dX9_setEntry_26 (by decide) ?_
    rcases bE_some hf with ⟨n5, h4, hf⟩ | ⟨_, h4, hf⟩
    · cases hf
      subst hQ
      exact xc_S (As := [.int p2, .int (-999), .int 999]) (rest := []) C hl0 hXf hPk (x_X9_needWithin l hl0 D (tysW ct) F _ p2 (-999) 999 _ h4) hl.1 cp_X9_needWithin mw_3_6 hK hP hS ⟨rfl, rfl⟩ ⟨⟨Nat.le_of_ble_eq_true rfl, Nat.le_of_ble_eq_true rfl⟩, Nat.le_of_ble_eq_true rfl, Nat.le_of_ble_eq_true rfl⟩ rfl rfl (Nat.le_of_ble_eq_true rfl) dX9_setEntry_29
    · skip
      refine pc_S (As := [.int p2, .int (-999), .int 999]) (rest := []) C (c_X9_needWithin l p2 (-999) 999 _ h4) hl.1 cp_X9_needWithin mw_3_6 ⟨rfl, rfl⟩ ⟨Nat.le_of_ble_eq_true rfl, Nat.le_of_ble_eq_true rfl⟩ rfl rfl (Nat.le_of_ble_eq_true rfl) dX9_setEntry_29 ⟨Nat.le_of_ble_eq_true rfl, Nat.le_of_ble_eq_true rfl⟩ ?_
      refine lv_aload_n hx hb dX9_setEntry_32 rfl (lv_at hl 0 rfl) ?_
      refine gf_X9_1 C hK hP mw_1_213 dX9_setEntry_33 ?_
      refine lv_iload_n hx hb dX9_setEntry_36 rfl (lv_at hl 1 rfl) ?_
      refine lv_iload_n hx hb dX9_setEntry_37 rfl (lv_at hl 2 rfl) ?_
      refine lv_iload_n hx hb dX9_setEntry_38 rfl (lv_at hl 3 rfl) ?_
      obtain ⟨v7, S8, h6, hf⟩ := b2_some hf
      refine hc_V (As := [.int p0, .int p1, .int p2]) (rest := []) C hK (c_X1_replace l D ct ad F hG p0 p1 p2 S0  v7 S8 h6) hl.1 cp_X1_replace mw_5_82 (rc_X1 hK hP) hP hS ⟨rfl, rfl⟩ ⟨Nat.le_of_ble_eq_true rfl, Nat.le_of_ble_eq_true rfl⟩ rfl rfl (Nat.le_of_ble_eq_true rfl) dX9_setEntry_39 ⟨Nat.le_of_ble_eq_true rfl, Nat.le_of_ble_eq_true rfl⟩ (fun H locs hP hS => ?_)
      cases hf
  · have hf := sp1 c3 hf
    cases hf
    subst hQ
    exact th_IndexOutOfBoundsException C hl0 hXf hPk hP hS hl.1 mw_3_152 (str_247) ⟨Nat.le_of_ble_eq_true rfl, Nat.le_of_ble_eq_true rfl, Nat.le_of_ble_eq_true rfl, Nat.le_of_ble_eq_true rfl⟩ dX9_setEntry_12 dX9_setEntry_15 dX9_setEntry_16 dX9_setEntry_18 dX9_setEntry_21
def rmx_X9_shape : Room := { frames := 8, cells := 1, slots := 6, locals := 140 }
set_option maxHeartbeats 4000000 in
set_option maxRecDepth 100000 in
theorem x_X9_shape (l : Launch) (hl0 : l.stackTraces = false) (D : va_G) (ct : Nat → ClassId) (ad : Nat → Nat) (F : Nat → Prop) (hG : Gd ad 70 F) (p0 : Int32) (S0 : St)  (n : Nat) (S' : St) (hf : f_X9_shape p0 S0 = some (.error n, S')) : MetX l yX9_shape cX9_shape 2 (some .int) rmx_X9_shape D (tysW ct) F [.ref (ad 0), .int p0] (cellsC ct ad S0) (cellsC ct ad S') n := by
  refine MetX.of RX9 (by decide) rfl (Nat.le_of_ble_eq_true rfl) ?_
  intro p e s m args below meth c C hPk hK hP hXf ls hl
  have hl : lv_has ls 2 [(0, .ref (ad 0)), (1, .int p0)] := hl
  obtain ⟨hx, hb, hr, hml, hown, htL, hlocks⟩ := id C
  have hS : va_S F s.heap s.heap [] := va_S.rf
  generalize hQ : vx_MQ below (fun _ _ _ _ => False) (XQ D (cellsC ct ad S') F n) args s 1 6 F = Q
  refine lv_iload_n hx hb dX9_shape_0 rfl (lv_at hl 1 rfl) ?_
  refine lv_if_lt (tgt := 15) hx hb dX9_shape_1 (by decide) (fun c1 => ?_) (fun c1 => ?_)
  · have hf := sp1 c1 hf
    cases hf
    subst hQ
    exact th_NoSuchElementExceptionW C hl0 hXf hPk hP hS hl.1 mw_4_13 (str_260) ⟨Nat.le_of_ble_eq_true rfl, Nat.le_of_ble_eq_true rfl, Nat.le_of_ble_eq_true rfl, Nat.le_of_ble_eq_true rfl⟩ dX9_shape_15 dX9_shape_18 dX9_shape_19 dX9_shape_22 dX9_shape_25
  · have hf := sp0 c1 hf
    refine lv_iload_n hx hb dX9_shape_4 rfl (lv_at hl 1 rfl) ?_
    refine lv_aload_n hx hb dX9_shape_5 rfl (lv_at hl 0 rfl) ?_
    refine gf_X9_1 C hK hP mw_1_213 dX9_shape_6 ?_
    obtain ⟨v3, S4, h2, hf⟩ := b2_some hf
    refine hc_V (As := []) (rest := [.int p0]) C hK (c_X1_fullRows l D ct ad F hG S0  v3 S4 h2) hl.1 cp_X1_fullRows mw_2_20 (rc_X1 hK hP) hP hS ⟨rfl, rfl⟩ ⟨Nat.le_of_ble_eq_true rfl, Nat.le_of_ble_eq_true rfl⟩ rfl rfl (Nat.le_of_ble_eq_true rfl) dX9_shape_9 ⟨Nat.le_of_ble_eq_true rfl, Nat.le_of_ble_eq_true rfl⟩ (fun H locs hP hS => ?_)
    refine lv_icmp_lt (tgt := 26) hx hb dX9_shape_12 (by decide) (fun c5 => ?_) (fun c5 => ?_)
    · have hf := sp1 c5 hf
      refine lv_aload_n hx hb dX9_shape_26 rfl (lv_at hl 0 rfl) ?_
      refine gf_X9_1 C hK hP mw_1_213 dX9_shape_27 ?_
      refine lv_iload_n hx hb dX9_shape_30 rfl (lv_at hl 1 rfl) ?_
      refine lv_aload_n hx hb dX9_shape_31 rfl (lv_at hl 0 rfl) ?_
      refine gf_X9_0 C hK hP mw_1_212 dX9_shape_32 ?_
      refine gf_X5_0 C hK hP mw_1_170 dX9_shape_35 ?_
      refine gf_X2_0 C hK hP mw_1_51 dX9_shape_38 ?_
      obtain ⟨v7, S8, h6, hf⟩ := b2_some hf
      refine hc_V (As := [.int p0, .int (S4.1 3 0)]) (rest := []) C hK (c_X1_exponentAt l D ct ad F hG p0 (S4.1 3 0) S4  v7 S8 h6) hl.1 cp_X1_exponentAt mw_5_94 (rc_X1 hK hP) hP hS ⟨rfl, rfl⟩ ⟨Nat.le_of_ble_eq_true rfl, Nat.le_of_ble_eq_true rfl⟩ rfl rfl (Nat.le_of_ble_eq_true rfl) dX9_shape_41 ⟨Nat.le_of_ble_eq_true rfl, Nat.le_of_ble_eq_true rfl⟩ (fun H locs hP hS => ?_)
      cases hf
    · have hf := sp0 c5 hf
      cases hf
      subst hQ
      exact th_NoSuchElementExceptionW C hl0 hXf hPk hP hS hl.1 mw_4_13 (str_260) ⟨Nat.le_of_ble_eq_true rfl, Nat.le_of_ble_eq_true rfl, Nat.le_of_ble_eq_true rfl, Nat.le_of_ble_eq_true rfl⟩ dX9_shape_15 dX9_shape_18 dX9_shape_19 dX9_shape_22 dX9_shape_25
def rmx_X9_value : Room := { frames := 9, cells := 1, slots := 6, locals := 166 }
set_option maxHeartbeats 4000000 in
set_option maxRecDepth 100000 in
theorem x_X9_value (l : Launch) (hl0 : l.stackTraces = false) (D : va_G) (ct : Nat → ClassId) (ad : Nat → Nat) (F : Nat → Prop) (hG : Gd ad 70 F) (p0 : Int32) (S0 : St)  (n : Nat) (S' : St) (hf : f_X9_value p0 S0 = some (.error n, S')) : MetX l yX9_value cX9_value 2 (some .int) rmx_X9_value D (tysW ct) F [.ref (ad 0), .int p0] (cellsC ct ad S0) (cellsC ct ad S') n := by
  refine MetX.of RX9 (by decide) rfl (Nat.le_of_ble_eq_true rfl) ?_
  intro p e s m args below meth c C hPk hK hP hXf ls hl
  have hl : lv_has ls 2 [(0, .ref (ad 0)), (1, .int p0)] := hl
  obtain ⟨hx, hb, hr, hml, hown, htL, hlocks⟩ := id C
  have hS : va_S F s.heap s.heap [] := va_S.rf
  generalize hQ : vx_MQ below (fun _ _ _ _ => False) (XQ D (cellsC ct ad S') F n) args s 1 6 F = Q
  refine lv_iload_n hx hb dX9_value_0 rfl (lv_at hl 1 rfl) ?_
  refine lv_sipush (v := (-10000)) hx hb dX9_value_1 (by decide) ?_
  refine lv_sipush (v := 10000) hx hb dX9_value_4 (by decide) ?_
  rcases bE_some hf with ⟨n2, h1, hf⟩ | ⟨_, h1, hf⟩
  · cases hf
    subst hQ
    exact xc_S (As := [.int p0, .int (-10000), .int 10000]) (rest := []) C hl0 hXf hPk (x_X9_needWithin l hl0 D (tysW ct) F _ p0 (-10000) 10000 _ h1) hl.1 cp_X9_needWithin mw_3_6 hK hP hS ⟨rfl, rfl⟩ ⟨⟨Nat.le_of_ble_eq_true rfl, Nat.le_of_ble_eq_true rfl⟩, Nat.le_of_ble_eq_true rfl, Nat.le_of_ble_eq_true rfl⟩ rfl rfl (Nat.le_of_ble_eq_true rfl) dX9_value_7
  · skip
    refine pc_S (As := [.int p0, .int (-10000), .int 10000]) (rest := []) C (c_X9_needWithin l p0 (-10000) 10000 _ h1) hl.1 cp_X9_needWithin mw_3_6 ⟨rfl, rfl⟩ ⟨Nat.le_of_ble_eq_true rfl, Nat.le_of_ble_eq_true rfl⟩ rfl rfl (Nat.le_of_ble_eq_true rfl) dX9_value_7 ⟨Nat.le_of_ble_eq_true rfl, Nat.le_of_ble_eq_true rfl⟩ ?_
    refine lv_aload_n hx hb dX9_value_10 rfl (lv_at hl 0 rfl) ?_
    refine gf_X9_0 C hK hP mw_1_212 dX9_value_11 ?_
    refine gf_X5_2 C hK hP mw_1_174 dX9_value_14 ?_
    obtain ⟨v4, h3, hf⟩ := b1_some hf
    refine hc_V (As := []) (rest := []) C hK (c_X6_isFull l D ct ad F hG S0  v4 h3) hl.1 cp_X6_isFull mw_5_102 (rc_X6 hK hP) hP hS ⟨rfl, rfl⟩ ⟨Nat.le_of_ble_eq_true rfl, Nat.le_of_ble_eq_true rfl⟩ rfl rfl (Nat.le_of_ble_eq_true rfl) dX9_value_17 ⟨Nat.le_of_ble_eq_true rfl, Nat.le_of_ble_eq_true rfl⟩ (fun H locs hP hS => ?_)
    refine lv_if_eq (tgt := 34) hx hb dX9_value_20 (by decide) (fun c5 => ?_) (fun c5 => ?_)
    · have hf := sp1 c5 hf
      refine lv_aload_n hx hb dX9_value_34 rfl (lv_at hl 0 rfl) ?_
      refine gf_X9_0 C hK hP mw_1_212 dX9_value_35 ?_
      refine gf_X5_2 C hK hP mw_1_174 dX9_value_38 ?_
      refine lv_iload_n hx hb dX9_value_41 rfl (lv_at hl 1 rfl) ?_
      obtain ⟨v7, S8, h6, hf⟩ := b2_some hf
      refine hc_V (As := [.int p0]) (rest := []) C hK (c_X6_append l D ct ad F hG p0 S0  v7 S8 h6) hl.1 cp_X6_append mw_5_107 (rc_X6 hK hP) hP hS ⟨rfl, rfl⟩ ⟨Nat.le_of_ble_eq_true rfl, Nat.le_of_ble_eq_true rfl⟩ rfl rfl (Nat.le_of_ble_eq_true rfl) dX9_value_42 ⟨Nat.le_of_ble_eq_true rfl, Nat.le_of_ble_eq_true rfl⟩ (fun H locs hP hS => ?_)
      cases hf
    · have hf := sp0 c5 hf
      cases hf
      subst hQ
      exact th_IllegalStateExceptionW C hl0 hXf hPk hP hS hl.1 mw_3_18 (str_272) ⟨Nat.le_of_ble_eq_true rfl, Nat.le_of_ble_eq_true rfl, Nat.le_of_ble_eq_true rfl, Nat.le_of_ble_eq_true rfl⟩ dX9_value_23 dX9_value_26 dX9_value_27 dX9_value_30 dX9_value_33
def rmx_X9_difference : Room := { frames := 8, cells := 1, slots := 6, locals := 140 }
set_option maxHeartbeats 4000000 in
set_option maxRecDepth 100000 in
theorem x_X9_difference (l : Launch) (hl0 : l.stackTraces = false) (D : va_G) (ct : Nat → ClassId) (ad : Nat → Nat) (F : Nat → Prop) (hG : Gd ad 70 F) (p0 : Int32) (S0 : St)  (n : Nat) (hf : f_X9_difference p0 S0 = some (.error n)) : MetX l yX9_difference cX9_difference 2 (some .int) rmx_X9_difference D (tysW ct) F [.ref (ad 0), .int p0] (cellsC ct ad S0) (cellsC ct ad S0) n := by
  refine MetX.of RX9 (by decide) rfl (Nat.le_of_ble_eq_true rfl) ?_
  intro p e s m args below meth c C hPk hK hP hXf ls hl
  have hl : lv_has ls 2 [(0, .ref (ad 0)), (1, .int p0)] := hl
  obtain ⟨hx, hb, hr, hml, hown, htL, hlocks⟩ := id C
  have hS : va_S F s.heap s.heap [] := va_S.rf
  generalize hQ : vx_MQ below (fun _ _ _ _ => False) (XQ D (cellsC ct ad S0) F n) args s 1 6 F = Q
  refine lv_iload_n hx hb dX9_difference_0 rfl (lv_at hl 1 rfl) ?_
  refine lv_if_lt (tgt := 18) hx hb dX9_difference_1 (by decide) (fun c1 => ?_) (fun c1 => ?_)
  · have hf := sp1 c1 hf
    cases hf
    subst hQ
    exact th_NoSuchElementExceptionW C hl0 hXf hPk hP hS hl.1 mw_4_13 (str_277) ⟨Nat.le_of_ble_eq_true rfl, Nat.le_of_ble_eq_true rfl, Nat.le_of_ble_eq_true rfl, Nat.le_of_ble_eq_true rfl⟩ dX9_difference_18 dX9_difference_21 dX9_difference_22 dX9_difference_25 dX9_difference_28
  · have hf := sp0 c1 hf
    refine lv_iload_n hx hb dX9_difference_4 rfl (lv_at hl 1 rfl) ?_
    refine lv_aload_n hx hb dX9_difference_5 rfl (lv_at hl 0 rfl) ?_
    refine gf_X9_0 C hK hP mw_1_212 dX9_difference_6 ?_
    refine gf_X5_2 C hK hP mw_1_174 dX9_difference_9 ?_
    refine gf_X6_0 C hK hP mw_1_104 dX9_difference_12 ?_
    refine lv_icmp_lt (tgt := 29) hx hb dX9_difference_15 (by decide) (fun c2 => ?_) (fun c2 => ?_)
    · have hf := sp1 c2 hf
      refine lv_aload_n hx hb dX9_difference_29 rfl (lv_at hl 0 rfl) ?_
      refine gf_X9_0 C hK hP mw_1_212 dX9_difference_30 ?_
      refine gf_X5_2 C hK hP mw_1_174 dX9_difference_33 ?_
      refine lv_iload_n hx hb dX9_difference_36 rfl (lv_at hl 1 rfl) ?_
      obtain ⟨v4, h3, hf⟩ := b1_some hf
      refine hc_V (As := [.int p0]) (rest := []) C hK (c_X6_differenceOf l D ct ad F hG p0 S0  v4 h3) hl.1 cp_X6_differenceOf mw_5_119 (rc_X6 hK hP) hP hS ⟨rfl, rfl⟩ ⟨Nat.le_of_ble_eq_true rfl, Nat.le_of_ble_eq_true rfl⟩ rfl rfl (Nat.le_of_ble_eq_true rfl) dX9_difference_37 ⟨Nat.le_of_ble_eq_true rfl, Nat.le_of_ble_eq_true rfl⟩ (fun H locs hP hS => ?_)
      cases hf
    · have hf := sp0 c2 hf
      cases hf
      subst hQ
      exact th_NoSuchElementExceptionW C hl0 hXf hPk hP hS hl.1 mw_4_13 (str_277) ⟨Nat.le_of_ble_eq_true rfl, Nat.le_of_ble_eq_true rfl, Nat.le_of_ble_eq_true rfl, Nat.le_of_ble_eq_true rfl⟩ dX9_difference_18 dX9_difference_21 dX9_difference_22 dX9_difference_25 dX9_difference_28
def rmx_X9_at : Room := { frames := 9, cells := 1, slots := 6, locals := 196 }
set_option maxHeartbeats 4000000 in
set_option maxRecDepth 100000 in
theorem x_X9_at (l : Launch) (hl0 : l.stackTraces = false) (D : va_G) (ct : Nat → ClassId) (ad : Nat → Nat) (F : Nat → Prop) (hG : Gd ad 70 F) (p0 : Int32) (S0 : St)  (n : Nat) (S' : St) (hf : f_X9_at p0 S0 = some (.error n, S')) : MetX l yX9_at cX9_at 3 (some .int) rmx_X9_at D (tysW ct) F [.ref (ad 0), .int p0] (cellsC ct ad S0) (cellsC ct ad S') n := by
  refine MetX.of RX9 (by decide) rfl (Nat.le_of_ble_eq_true rfl) ?_
  intro p e s m args below meth c C hPk hK hP hXf ls hl
  have hl : lv_has ls 3 [(0, .ref (ad 0)), (1, .int p0)] := hl
  obtain ⟨hx, hb, hr, hml, hown, htL, hlocks⟩ := id C
  have hS : va_S F s.heap s.heap [] := va_S.rf
  generalize hQ : vx_MQ below (fun _ _ _ _ => False) (XQ D (cellsC ct ad S') F n) args s 1 6 F = Q
  refine lv_aload_n hx hb dX9_at_0 rfl (lv_at hl 0 rfl) ?_
  refine lv_iload_n hx hb dX9_at_1 rfl (lv_at hl 1 rfl) ?_
  rcases bE_some hf with ⟨n2, h1, hf⟩ | ⟨_, h1, hf⟩
  · cases hf
    subst hQ
    exact xc_V (As := [.int p0]) (rest := []) C hl0 hXf hPk (x_X9_needNumber l hl0 D ct ad F hG p0 S0  _ h1) hl.1 cp_X9_needNumber mw_3_148 (rc_X9 hK hP) hK hP hS ⟨rfl, rfl⟩ ⟨⟨Nat.le_of_ble_eq_true rfl, Nat.le_of_ble_eq_true rfl⟩, Nat.le_of_ble_eq_true rfl, Nat.le_of_ble_eq_true rfl⟩ rfl rfl (Nat.le_of_ble_eq_true rfl) dX9_at_2
  · skip
    refine hc_V (As := [.int p0]) (rest := []) C hK (c_X9_needNumber l D ct ad F hG p0 S0   h1) hl.1 cp_X9_needNumber mw_3_148 (rc_X9 hK hP) hP hS ⟨rfl, rfl⟩ ⟨Nat.le_of_ble_eq_true rfl, Nat.le_of_ble_eq_true rfl⟩ rfl rfl (Nat.le_of_ble_eq_true rfl) dX9_at_2 ⟨Nat.le_of_ble_eq_true rfl, Nat.le_of_ble_eq_true rfl⟩ (fun H locs hP hS => ?_)
    refine lv_aload_n hx hb dX9_at_5 rfl (lv_at hl 0 rfl) ?_
    refine gf_X9_0 C hK hP mw_1_212 dX9_at_6 ?_
    refine lv_iload_n hx hb dX9_at_9 rfl (lv_at hl 1 rfl) ?_
    obtain ⟨v4, h3, hf⟩ := b1_some hf
    refine hc_V (As := [.int p0]) (rest := []) C hK (c_X5_numbered l D ct ad F hG p0 S0  v4 h3) hl.1 cp_X5_numbered mw_3_197 (rc_X5 hK hP) hP hS ⟨rfl, rfl⟩ ⟨Nat.le_of_ble_eq_true rfl, Nat.le_of_ble_eq_true rfl⟩ rfl rfl (Nat.le_of_ble_eq_true rfl) dX9_at_10 ⟨Nat.le_of_ble_eq_true rfl, Nat.le_of_ble_eq_true rfl⟩ (fun H locs hP hS => ?_)
    obtain ⟨c5, hf⟩ := spy hf
    refine lv_astore_n (lv' := [(2, .ref (ad (12 + v4))), (0, .ref (ad 0)), (1, .int p0)]) hx hb dX9_at_13 rfl hl (by decide) rfl (fun ls hl => ?_)
    refine lv_aload_n hx hb dX9_at_14 rfl (lv_at hl 0 rfl) ?_
    refine gf_X3_8 C hK hP c5 mw_1_130 dX9_at_15 ?_
    refine lv_if_lt (tgt := 42) hx hb dX9_at_18 (by decide) (fun c6 => ?_) (fun c6 => ?_)
    · have hf := sp1 c6 hf
      cases hf
      subst hQ
      exact th_UnsupportedOperationExceptionW C hl0 hXf hPk hP hS hl.1 mw_2_219 (str_285) ⟨Nat.le_of_ble_eq_true rfl, Nat.le_of_ble_eq_true rfl, Nat.le_of_ble_eq_true rfl, Nat.le_of_ble_eq_true rfl⟩ dX9_at_42 dX9_at_45 dX9_at_46 dX9_at_49 dX9_at_52
    · have hf := sp0 c6 hf
      refine lv_aload_n hx hb dX9_at_21 rfl (lv_at hl 1 rfl) ?_
      refine gf_X9_0 C hK hP mw_1_212 dX9_at_22 ?_
      refine lv_aload_n hx hb dX9_at_25 rfl (lv_at hl 0 rfl) ?_
      refine lv_aload_n hx hb dX9_at_26 rfl (lv_at hl 1 rfl) ?_
      refine gf_X9_0 C hK hP mw_1_212 dX9_at_27 ?_
      refine gf_X5_2 C hK hP mw_1_174 dX9_at_30 ?_
      refine gf_X6_0 C hK hP mw_1_104 dX9_at_33 ?_
      obtain ⟨v8, h7, hf⟩ := b1_some hf
      refine hc_V (As := [.ref (ad (12 + v4)), .int (S0.1 5 0)]) (rest := []) C hK (c_X5_rowValueReach l D ct ad F hG v4 (S0.1 5 0) S0 c5 v8 h7) hl.1 cp_X5_rowValueReach mw_5_127 (rc_X5 hK hP) hP hS ⟨rfl, rfl⟩ ⟨Nat.le_of_ble_eq_true rfl, Nat.le_of_ble_eq_true rfl⟩ rfl rfl (Nat.le_of_ble_eq_true rfl) dX9_at_36 ⟨Nat.le_of_ble_eq_true rfl, Nat.le_of_ble_eq_true rfl⟩ (fun H locs hP hS => ?_)
      refine lv_if_gt (tgt := 53) hx hb dX9_at_39 (by decide) (fun c9 => ?_) (fun c9 => ?_)
      · have hf := sp1 c9 hf
        refine lv_aload_n hx hb dX9_at_53 rfl (lv_at hl 1 rfl) ?_
        rcases bE_some hf with ⟨n11, h10, hf⟩ | ⟨_, h10, hf⟩
        · cases hf
          subst hQ
          exact xc_V (As := []) (rest := []) C hl0 hXf hPk (x_X9_needRoom l hl0 D ct ad F hG S0  _ h10) hl.1 cp_X9_needRoom mw_3_10 (rc_X9 hK hP) hK hP hS ⟨rfl, rfl⟩ ⟨⟨Nat.le_of_ble_eq_true rfl, Nat.le_of_ble_eq_true rfl⟩, Nat.le_of_ble_eq_true rfl, Nat.le_of_ble_eq_true rfl⟩ rfl rfl (Nat.le_of_ble_eq_true rfl) dX9_at_54
        · skip
          refine hc_V (As := []) (rest := []) C hK (c_X9_needRoom l D ct ad F hG S0   h10) hl.1 cp_X9_needRoom mw_3_10 (rc_X9 hK hP) hP hS ⟨rfl, rfl⟩ ⟨Nat.le_of_ble_eq_true rfl, Nat.le_of_ble_eq_true rfl⟩ rfl rfl (Nat.le_of_ble_eq_true rfl) dX9_at_54 ⟨Nat.le_of_ble_eq_true rfl, Nat.le_of_ble_eq_true rfl⟩ (fun H locs hP hS => ?_)
          refine lv_aload_n hx hb dX9_at_57 rfl (lv_at hl 1 rfl) ?_
          refine gf_X9_0 C hK hP mw_1_212 dX9_at_58 ?_
          refine lv_iload_n hx hb dX9_at_61 rfl (lv_at hl 2 rfl) ?_
          obtain ⟨v13, S14, h12, hf⟩ := b2_some hf
          refine hc_V (As := [.int p0]) (rest := []) C hK (c_X5_addRowValue l D ct ad F hG p0 S0  v13 S14 h12) hl.1 cp_X5_addRowValue mw_5_129 (rc_X5 hK hP) hP hS ⟨rfl, rfl⟩ ⟨Nat.le_of_ble_eq_true rfl, Nat.le_of_ble_eq_true rfl⟩ rfl rfl (Nat.le_of_ble_eq_true rfl) dX9_at_62 ⟨Nat.le_of_ble_eq_true rfl, Nat.le_of_ble_eq_true rfl⟩ (fun H locs hP hS => ?_)
          cases hf
      · have hf := sp0 c9 hf
        cases hf
        subst hQ
        exact th_UnsupportedOperationExceptionW C hl0 hXf hPk hP hS hl.1 mw_2_219 (str_285) ⟨Nat.le_of_ble_eq_true rfl, Nat.le_of_ble_eq_true rfl, Nat.le_of_ble_eq_true rfl, Nat.le_of_ble_eq_true rfl⟩ dX9_at_42 dX9_at_45 dX9_at_46 dX9_at_49 dX9_at_52
