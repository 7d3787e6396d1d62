def rm_X10_thrown : Room := { frames := 0, cells := 0, slots := 0, locals := 0 }
set_option maxHeartbeats 4000000 in
set_option maxRecDepth 100000 in
theorem c_X10_thrown (l : Launch) (D : va_G) (ct : Nat → ClassId) (ad : Nat → Nat) (F : Nat → Prop) (hG : Gd ad 18 F)  (S0 : St)  (r : Int32) (hf : f_X10_thrown  S0 = some r) : MetH l yX10_thrown cX10_thrown 1 (some .int) rm_X10_thrown D (tysW ct) F [.ref (ad 0)] (some (.int r)) (cellsM ct ad S0) (cellsM ct ad S0) := by
  refine MetH.of RX10 (by decide) rfl (Nat.le_of_ble_eq_true rfl) ?_
  intro p e s m args below meth c C hK hP ls hl
  have hl : lv_has ls 1 [(0, .ref (ad 0))] := hl
  obtain ⟨hx, hb, hr, hml, hown, htL, hlocks⟩ := id C
  have hS : va_S F s.heap s.heap [] := va_S.rf
  generalize hQ : MQ below (Hq D (cellsM ct ad S0) F (some (.int r))) args s 0 0 F = Q
  refine lv_aload_n hx hb dX10_thrown_0 rfl (lv_at hl 0 rfl) ?_
  refine gf_X10_17 C hK hP mw_5_179 dX10_thrown_1 ?_
  cases hf
  subst hQ
  exact he_i C hP hS dX10_thrown_4
theorem cp_X10_thrown : CPv yX10_thrown cX10_thrown 1 (some .int) 0 := ⟨mw_6_8, mw_1_9, mw_6_6, mw_6_7, by decide +kernel⟩
def rm_X10_no : Room := { frames := 0, cells := 0, slots := 0, locals := 0 }
set_option maxHeartbeats 4000000 in
set_option maxRecDepth 100000 in
theorem c_X10_no (l : Launch) (D : va_G) (ct : Nat → ClassId) (ad : Nat → Nat) (F : Nat → Prop) (hG : Gd ad 18 F) (p0 : Int32) (p1 : Int32) (S0 : St)  (r : Int32) (S' : St) (hf : f_X10_no p0 p1 S0 = some (r, S')) : MetH l yX10_no cX10_no 3 (some .boolean) rm_X10_no D (tysW ct) F [.ref (ad 0), .int p0, .int p1] (some (.int r)) (cellsM ct ad S0) (cellsM ct ad S') := by
  refine MetH.of RX10 (by decide) rfl (Nat.le_of_ble_eq_true rfl) ?_
  intro p e s m args below meth c C hK hP ls hl
  have hl : lv_has ls 3 [(0, .ref (ad 0)), (1, .int p0), (2, .int p1)] := hl
  obtain ⟨hx, hb, hr, hml, hown, htL, hlocks⟩ := id C
  have hS : va_S F s.heap s.heap [] := va_S.rf
  generalize hQ : MQ below (Hq D (cellsM ct ad S') F (some (.int r))) args s 0 0 F = Q
  have w_10 : ∀ (x1 : Int32) (y1 : Int32) (S : St), ∀ (H : Heap) (locs : List Loc) (ls : Array Slot), lv_has ls 3 [(1, .int x1)] → va_P D vwCl (cellsM ct ad S) H → va_S F s.heap H locs → n_X10_no_10 x1 y1 S = some (r, S') → W p l e rm_X10_no s m args below meth c H locs 0 0 Q (F0 m 10 ls [.int y1, .ref (ad 0)]) := by
    intro  x1 y1 S H locs ls hl hP hS hf
    refine pf_X10_17 C hK hP hG hS mw_5_179 dX10_no_10 (fun H locs hP hS => ?_)
    refine lv_iload_n hx hb dX10_no_13 rfl (lv_at hl 0 rfl) ?_
    refine lv_if_ne (tgt := 21) hx hb dX10_no_14 (by decide) (fun c1 => ?_) (fun c1 => ?_)
    · have hf := sp0 c1 hf
      refine lv_iconst (v := 0) hx hb dX10_no_21 (by decide) ?_
      cases hf
      subst hQ
      exact he_z C (by decide) hP hS dX10_no_22
    · have hf := sp1 c1 hf
      refine lv_iconst (v := 1) hx hb dX10_no_17 (by decide) ?_
      refine lv_goto (tgt := 22) hx hb dX10_no_18 (by decide) ?_
      cases hf
      subst hQ
      exact he_z C (by decide) hP hS dX10_no_22
  refine lv_aload_n hx hb dX10_no_0 rfl (lv_at hl 0 rfl) ?_
  refine lv_iload_n hx hb dX10_no_1 rfl (lv_at hl 1 rfl) ?_
  refine lv_if_eq (tgt := 9) hx hb dX10_no_2 (by decide) (fun c2 => ?_) (fun c2 => ?_)
  · have hf := sp1 c2 hf
    refine lv_iload_n hx hb dX10_no_9 rfl (lv_at hl 2 rfl) ?_
    exact w_10 p0 p1 S0 _ _ _ (lv_sub hl [1] rfl) hP hS hf
  · have hf := sp0 c2 hf
    refine lv_iconst (v := 0) hx hb dX10_no_5 (by decide) ?_
    refine lv_goto (tgt := 10) hx hb dX10_no_6 (by decide) ?_
    exact w_10 p0 0 S0 _ _ _ (lv_sub hl [1] rfl) hP hS hf
theorem cp_X10_no : CPv yX10_no cX10_no 3 (some .boolean) 2 := ⟨mw_6_24, mw_1_9, mw_6_23, ms_32, by decide +kernel⟩
def rm_X10_noNumber : Room := { frames := 1, cells := 0, slots := 0, locals := 29 }
set_option maxHeartbeats 4000000 in
set_option maxRecDepth 100000 in
theorem c_X10_noNumber (l : Launch) (D : va_G) (ct : Nat → ClassId) (ad : Nat → Nat) (F : Nat → Prop) (hG : Gd ad 18 F) (p0 : Int32) (S0 : St)  (r : Int32) (S' : St) (hf : f_X10_noNumber p0 S0 = some (r, S')) : MetH l yX10_noNumber cX10_noNumber 2 (some .boolean) rm_X10_noNumber D (tysW ct) F [.ref (ad 0), .int p0] (some (.int r)) (cellsM ct ad S0) (cellsM ct ad S') := by
  refine MetH.of RX10 (by decide) rfl (Nat.le_of_ble_eq_true rfl) ?_
  intro p e s m args below meth c C hK hP ls hl
  have hl : lv_has ls 2 [(0, .ref (ad 0)), (1, .int p0)] := hl
  obtain ⟨hx, hb, hr, hml, hown, htL, hlocks⟩ := id C
  have hS : va_S F s.heap s.heap [] := va_S.rf
  generalize hQ : MQ below (Hq D (cellsM ct ad S') F (some (.int r))) args s 0 0 F = Q
  refine lv_aload_n hx hb dX10_noNumber_0 rfl (lv_at hl 0 rfl) ?_
  refine lv_iload_n hx hb dX10_noNumber_1 rfl (lv_at hl 1 rfl) ?_
  refine lv_i2l hx hb dX10_noNumber_2 rfl ?_
  refine lv_lconst (v := 0) hx hb dX10_noNumber_3 (by decide) ?_
  refine lv_aload_n hx hb dX10_noNumber_4 rfl (lv_at hl 0 rfl) ?_
  refine gf_X10_19 C hK hP mw_5_181 dX10_noNumber_5 ?_
  refine lv_iconst (v := 1) hx hb dX10_noNumber_8 (by decide) ?_
  refine lv_isub hx hb dX10_noNumber_9 ?_
  refine lv_i2l hx hb dX10_noNumber_10 rfl ?_
  obtain ⟨v1, h2, hf⟩ := b1_some hf
  refine pc_S (As := [.long (Int32.toInt64 p0), .long 0, .long (Int32.toInt64 ((S0.1 0 19) - 1))]) (rest := [.ref (ad 0)]) C (c_X10_isIn l (Int32.toInt64 p0) 0 (Int32.toInt64 ((S0.1 0 19) - 1)) v1 h2) hl.1 cp_X10_isIn mw_6_15 ⟨rfl, rfl⟩ ⟨Nat.le_of_ble_eq_true rfl, Nat.le_of_ble_eq_true rfl⟩ rfl rfl (Nat.le_of_ble_eq_true rfl) dX10_noNumber_11 ⟨Nat.le_of_ble_eq_true rfl, Nat.le_of_ble_eq_true rfl⟩ ?_
  refine lv_iconst (v := 1) hx hb dX10_noNumber_14 (by decide) ?_
  obtain ⟨v4, S5, h3, hf⟩ := b2_some hf
  refine hc_V (As := [.int v1, .int 1]) (rest := []) C hK (c_X10_no l D ct ad F hG v1 1 S0  v4 S5 h3) hl.1 cp_X10_no mw_6_21 (rc_X10 hK hP) hP hS ⟨rfl, rfl⟩ ⟨Nat.le_of_ble_eq_true rfl, Nat.le_of_ble_eq_true rfl⟩ rfl rfl (Nat.le_of_ble_eq_true rfl) dX10_noNumber_15 ⟨Nat.le_of_ble_eq_true rfl, Nat.le_of_ble_eq_true rfl⟩ (fun H locs hP hS => ?_)
  obtain ⟨c6, hf⟩ := spy hf
  cases hf
  subst hQ
  exact he_z C c6 hP hS dX10_noNumber_18
theorem cp_X10_noNumber : CPv yX10_noNumber cX10_noNumber 2 (some .boolean) 1 := ⟨mw_6_163, mw_1_9, mw_6_162, ms_56, by decide +kernel⟩
def rm_X10_noNumbers : Room := { frames := 1, cells := 0, slots := 0, locals := 29 }
set_option maxHeartbeats 4000000 in
set_option maxRecDepth 100000 in
theorem c_X10_noNumbers (l : Launch) (D : va_G) (ct : Nat → ClassId) (ad : Nat → Nat) (F : Nat → Prop) (hG : Gd ad 18 F) (p0 : Int32) (p1 : Int32) (S0 : St)  (r : Int32) (S' : St) (hf : f_X10_noNumbers p0 p1 S0 = some (r, S')) : MetH l yX10_noNumbers cX10_noNumbers 3 (some .boolean) rm_X10_noNumbers D (tysW ct) F [.ref (ad 0), .int p0, .int p1] (some (.int r)) (cellsM ct ad S0) (cellsM ct ad S') := by
  refine MetH.of RX10 (by decide) rfl (Nat.le_of_ble_eq_true rfl) ?_
  intro p e s m args below meth c C hK hP ls hl
  have hl : lv_has ls 3 [(0, .ref (ad 0)), (1, .int p0), (2, .int p1)] := hl
  obtain ⟨hx, hb, hr, hml, hown, htL, hlocks⟩ := id C
  have hS : va_S F s.heap s.heap [] := va_S.rf
  generalize hQ : MQ below (Hq D (cellsM ct ad S') F (some (.int r))) args s 0 0 F = Q
  have w_38 : ∀ (y1 : Int32) (S : St), ∀ (H : Heap) (locs : List Loc) (ls : Array Slot), lv_has ls 3 [] → va_P D vwCl (cellsM ct ad S) H → va_S F s.heap H locs → n_X10_noNumbers_38 y1 S = some (r, S') → W p l e rm_X10_noNumbers s m args below meth c H locs 0 0 Q (F0 m 38 ls [.int y1, .ref (ad 0)]) := by
    intro  y1 S H locs ls hl hP hS hf
    refine lv_iconst (v := 1) hx hb dX10_noNumbers_38 (by decide) ?_
    obtain ⟨v2, S3, h1, hf⟩ := b2_some hf
    refine hc_V (As := [.int y1, .int 1]) (rest := []) C hK (c_X10_no l D ct ad F hG y1 1 S  v2 S3 h1) hl.1 cp_X10_no mw_6_21 (rc_X10 hK hP) hP hS ⟨rfl, rfl⟩ ⟨Nat.le_of_ble_eq_true rfl, Nat.le_of_ble_eq_true rfl⟩ rfl rfl (Nat.le_of_ble_eq_true rfl) dX10_noNumbers_39 ⟨Nat.le_of_ble_eq_true rfl, Nat.le_of_ble_eq_true rfl⟩ (fun H locs hP hS => ?_)
    obtain ⟨c4, hf⟩ := spy hf
    cases hf
    subst hQ
    exact he_z C c4 hP hS dX10_noNumbers_42
  refine lv_aload_n hx hb dX10_noNumbers_0 rfl (lv_at hl 0 rfl) ?_
  refine lv_iload_n hx hb dX10_noNumbers_1 rfl (lv_at hl 1 rfl) ?_
  refine lv_i2l hx hb dX10_noNumbers_2 rfl ?_
  refine lv_lconst (v := 0) hx hb dX10_noNumbers_3 (by decide) ?_
  refine lv_aload_n hx hb dX10_noNumbers_4 rfl (lv_at hl 0 rfl) ?_
  refine gf_X10_19 C hK hP mw_5_181 dX10_noNumbers_5 ?_
  refine lv_iconst (v := 1) hx hb dX10_noNumbers_8 (by decide) ?_
  refine lv_isub hx hb dX10_noNumbers_9 ?_
  refine lv_i2l hx hb dX10_noNumbers_10 rfl ?_
  obtain ⟨v5, h6, hf⟩ := b1_some hf
  refine pc_S (As := [.long (Int32.toInt64 p0), .long 0, .long (Int32.toInt64 ((S0.1 0 19) - 1))]) (rest := [.ref (ad 0)]) C (c_X10_isIn l (Int32.toInt64 p0) 0 (Int32.toInt64 ((S0.1 0 19) - 1)) v5 h6) hl.1 cp_X10_isIn mw_6_15 ⟨rfl, rfl⟩ ⟨Nat.le_of_ble_eq_true rfl, Nat.le_of_ble_eq_true rfl⟩ rfl rfl (Nat.le_of_ble_eq_true rfl) dX10_noNumbers_11 ⟨Nat.le_of_ble_eq_true rfl, Nat.le_of_ble_eq_true rfl⟩ ?_
  refine lv_if_eq (tgt := 37) hx hb dX10_noNumbers_14 (by decide) (fun c7 => ?_) (fun c7 => ?_)
  · have hf := sp1 c7 hf
    refine lv_iconst (v := 0) hx hb dX10_noNumbers_37 (by decide) ?_
    exact w_38 0 S0 _ _ _ (lv_sub hl [] rfl) hP hS hf
  · have hf := sp0 c7 hf
    refine lv_iload_n hx hb dX10_noNumbers_17 rfl (lv_at hl 2 rfl) ?_
    refine lv_i2l hx hb dX10_noNumbers_18 rfl ?_
    refine lv_lconst (v := 0) hx hb dX10_noNumbers_19 (by decide) ?_
    refine lv_aload_n hx hb dX10_noNumbers_20 rfl (lv_at hl 0 rfl) ?_
    refine gf_X10_19 C hK hP mw_5_181 dX10_noNumbers_21 ?_
    refine lv_iconst (v := 1) hx hb dX10_noNumbers_24 (by decide) ?_
    refine lv_isub hx hb dX10_noNumbers_25 ?_
    refine lv_i2l hx hb dX10_noNumbers_26 rfl ?_
    obtain ⟨v8, h9, hf⟩ := b1_some hf
    refine pc_S (As := [.long (Int32.toInt64 p1), .long 0, .long (Int32.toInt64 ((S0.1 0 19) - 1))]) (rest := [.ref (ad 0)]) C (c_X10_isIn l (Int32.toInt64 p1) 0 (Int32.toInt64 ((S0.1 0 19) - 1)) v8 h9) hl.1 cp_X10_isIn mw_6_15 ⟨rfl, rfl⟩ ⟨Nat.le_of_ble_eq_true rfl, Nat.le_of_ble_eq_true rfl⟩ rfl rfl (Nat.le_of_ble_eq_true rfl) dX10_noNumbers_27 ⟨Nat.le_of_ble_eq_true rfl, Nat.le_of_ble_eq_true rfl⟩ ?_
    refine lv_if_eq (tgt := 37) hx hb dX10_noNumbers_30 (by decide) (fun c10 => ?_) (fun c10 => ?_)
    · have hf := sp1 c10 hf
      refine lv_iconst (v := 0) hx hb dX10_noNumbers_37 (by decide) ?_
      exact w_38 0 S0 _ _ _ (lv_sub hl [] rfl) hP hS hf
    · have hf := sp0 c10 hf
      refine lv_iconst (v := 1) hx hb dX10_noNumbers_33 (by decide) ?_
      refine lv_goto (tgt := 38) hx hb dX10_noNumbers_34 (by decide) ?_
      exact w_38 1 S0 _ _ _ (lv_sub hl [] rfl) hP hS hf
theorem cp_X10_noNumbers : CPv yX10_noNumbers cX10_noNumbers 3 (some .boolean) 2 := ⟨mw_6_143, mw_1_9, mw_6_142, ms_55, by decide +kernel⟩
def rm_X10_power : Room := { frames := 0, cells := 0, slots := 0, locals := 0 }
set_option maxHeartbeats 4000000 in
set_option maxRecDepth 100000 in
theorem c_X10_power (l : Launch) (D : va_G) (ct : Nat → ClassId) (ad : Nat → Nat) (F : Nat → Prop) (hG : Gd ad 18 F) (p0 : Int32) (S0 : St)  (r : Int64) (hf : f_X10_power p0 S0 = some r) : MetH l yX10_power cX10_power 5 (some .long) rm_X10_power D (tysW ct) F [.ref (ad 0), .int p0] (some (.long r)) (cellsM ct ad S0) (cellsM ct ad S0) := by
  refine MetH.of RX10 (by decide) rfl (Nat.le_of_ble_eq_true rfl) ?_
  intro p e s m args below meth c C hK hP ls hl
  have hl : lv_has ls 5 [(0, .ref (ad 0)), (1, .int p0)] := hl
  obtain ⟨hx, hb, hr, hml, hown, htL, hlocks⟩ := id C
  have hS : va_S F s.heap s.heap [] := va_S.rf
  generalize hQ : MQ below (Hq D (cellsM ct ad S0) F (some (.long r))) args s 0 0 F = Q
  have w_5 : ∀ (x1 : Int32) (x2 : Int64) (x4 : Int32), ∀ (H : Heap) (locs : List Loc) (ls : Array Slot), lv_has ls 5 [(0, .ref (ad 0)), (1, .int x1), (2, .long x2), (4, .int x4)] → va_P D vwCl (cellsM ct ad S0) H → va_S F s.heap H locs → n_X10_power_5 S0 x1 x2 x4 = some r → W p l e rm_X10_power s m args below meth c H locs 0 0 Q (F0 m 5 ls []) := by
    have aux : ∀ (n : Nat), ∀ (x1 : Int32) (x2 : Int64) (x4 : Int32), ∀ (H : Heap) (locs : List Loc) (ls : Array Slot), lv_has ls 5 [(0, .ref (ad 0)), (1, .int x1), (2, .long x2), (4, .int x4)] → va_P D vwCl (cellsM ct ad S0) H → va_S F s.heap H locs → itr (fun (q : Int32 × Int64 × Int32) k => s_X10_power_5  (fun (x1 : Int32) (x2 : Int64) (x4 : Int32) => k (x1, x2, x4)) S0 q.1 q.2.1 q.2.2) n (x1, x2, x4) = some r → W p l e rm_X10_power s m args below meth c H locs 0 0 Q (F0 m 5 ls []) := by
      intro n
      induction n with
      | zero => intro x1 x2 x4 H locs ls hl hP hS hf; exact (itr_z hf).elim
      | succ n ih =>
      intro x1 x2 x4 H locs ls hl hP hS hf
      have hk_5 := ih
      have hf : s_X10_power_5  (fun (x1 : Int32) (x2 : Int64) (x4 : Int32) => itr (fun (q : Int32 × Int64 × Int32) k => s_X10_power_5  (fun (x1 : Int32) (x2 : Int64) (x4 : Int32) => k (x1, x2, x4)) S0 q.1 q.2.1 q.2.2) n (x1, x2, x4)) S0 x1 x2 x4 = some r := hf
      refine lv_iload hx hb dX10_power_5 (lv_at hl 3 rfl) ?_
      refine lv_iload_n hx hb dX10_power_7 rfl (lv_at hl 1 rfl) ?_
      refine lv_icmp_ge (tgt := 25) hx hb dX10_power_8 (by decide) (fun c1 => ?_) (fun c1 => ?_)
      · have hf := sp1 c1 hf
        refine lv_lload_n hx hb dX10_power_25 rfl (lv_at hl 2 rfl) ?_
        cases hf
        subst hQ
        exact he_l C hP hS dX10_power_26
      · have hf := sp0 c1 hf
        refine lv_lload_n hx hb dX10_power_11 rfl (lv_at hl 2 rfl) ?_
        refine lv_aload_n hx hb dX10_power_12 rfl (lv_at hl 0 rfl) ?_
        refine gf_X10_18 C hK hP mw_5_180 dX10_power_13 ?_
        refine lv_i2l hx hb dX10_power_16 rfl ?_
        refine lv_lmul hx hb dX10_power_17 ?_
        refine lv_lstore_n (lv' := [(2, .long (x2 * (Int32.toInt64 (S0.1 0 18)))), (0, .ref (ad 0)), (1, .int x1), (4, .int x4)]) hx hb dX10_power_18 rfl hl (by decide) rfl (fun ls hl => ?_)
        refine lv_iinc (v := (x4 + 1)) (lv' := [(4, .int (x4 + 1)), (2, .long (x2 * (Int32.toInt64 (S0.1 0 18)))), (0, .ref (ad 0)), (1, .int x1)]) hx hb dX10_power_19 hl (k := 3) rfl rfl (by decide) rfl (fun ls hl => ?_)
        refine lv_goto (tgt := 5) hx hb dX10_power_22 (by decide) ?_
        exact hk_5 x1 (x2 * (Int32.toInt64 (S0.1 0 18))) (x4 + 1) _ _ _ (lv_sub hl [2, 3, 1, 0] rfl) hP hS hf
    exact aux FU
  refine lv_lconst (v := 1) hx hb dX10_power_0 (by decide) ?_
  refine lv_lstore_n (lv' := [(2, .long 1), (0, .ref (ad 0)), (1, .int p0)]) hx hb dX10_power_1 rfl hl (by decide) rfl (fun ls hl => ?_)
  refine lv_iconst (v := 0) hx hb dX10_power_2 (by decide) ?_
  refine lv_istore (lv' := [(4, .int 0), (2, .long 1), (0, .ref (ad 0)), (1, .int p0)]) hx hb dX10_power_3 hl (by decide) rfl (fun ls hl => ?_)
  exact w_5 p0 1 0 _ _ _ (lv_sub hl [2, 3, 1, 0] rfl) hP hS hf
theorem cp_X10_power : CPv yX10_power cX10_power 5 (some .long) 1 := ⟨mw_6_70, mw_1_9, mw_6_69, ms_40, by decide +kernel⟩
def rm_X10_most : Room := { frames := 0, cells := 0, slots := 0, locals := 0 }
set_option maxHeartbeats 4000000 in
set_option maxRecDepth 100000 in
theorem c_X10_most (l : Launch) (D : va_G) (ct : Nat → ClassId) (ad : Nat → Nat) (F : Nat → Prop) (hG : Gd ad 18 F)  (S0 : St)  (r : Int32) (hf : f_X10_most  S0 = some r) : MetH l yX10_most cX10_most 4 (some .int) rm_X10_most D (tysW ct) F [.ref (ad 0)] (some (.int r)) (cellsM ct ad S0) (cellsM ct ad S0) := by
  refine MetH.of RX10 (by decide) rfl (Nat.le_of_ble_eq_true rfl) ?_
  intro p e s m args below meth c C hK hP ls hl
  have hl : lv_has ls 4 [(0, .ref (ad 0))] := hl
  obtain ⟨hx, hb, hr, hml, hown, htL, hlocks⟩ := id C
  have hS : va_S F s.heap s.heap [] := va_S.rf
  generalize hQ : MQ below (Hq D (cellsM ct ad S0) F (some (.int r))) args s 0 0 F = Q
  have w_8 : ∀ (x1 : Int32) (x2 : Int64), ∀ (H : Heap) (locs : List Loc) (ls : Array Slot), lv_has ls 4 [(0, .ref (ad 0)), (1, .int x1), (2, .long x2)] → va_P D vwCl (cellsM ct ad S0) H → va_S F s.heap H locs → n_X10_most_8 S0 x1 x2 = some r → W p l e rm_X10_most s m args below meth c H locs 0 0 Q (F0 m 8 ls []) := by
    have aux : ∀ (n : Nat), ∀ (x1 : Int32) (x2 : Int64), ∀ (H : Heap) (locs : List Loc) (ls : Array Slot), lv_has ls 4 [(0, .ref (ad 0)), (1, .int x1), (2, .long x2)] → va_P D vwCl (cellsM ct ad S0) H → va_S F s.heap H locs → itr (fun (q : Int32 × Int64) k => s_X10_most_8  (fun (x1 : Int32) (x2 : Int64) => k (x1, x2)) S0 q.1 q.2) n (x1, x2) = some r → W p l e rm_X10_most s m args below meth c H locs 0 0 Q (F0 m 8 ls []) := by
      intro n
      induction n with
      | zero => intro x1 x2 H locs ls hl hP hS hf; exact (itr_z hf).elim
      | succ n ih =>
      intro x1 x2 H locs ls hl hP hS hf
      have hk_8 := ih
      have hf : s_X10_most_8  (fun (x1 : Int32) (x2 : Int64) => itr (fun (q : Int32 × Int64) k => s_X10_most_8  (fun (x1 : Int32) (x2 : Int64) => k (x1, x2)) S0 q.1 q.2) n (x1, x2)) S0 x1 x2 = some r := hf
      refine lv_lload_n hx hb dX10_most_8 rfl (lv_at hl 2 rfl) ?_
      refine lv_ldc2 (v := 1000000000) hx hb hown (htL _ mw_6_33) dX10_most_9 ?_
      refine W.lcmp hx hb dX10_most_12 ?_
      refine lv_if_gt (tgt := 30) hx hb dX10_most_13 (by decide) (fun c1 => ?_) (fun c1 => ?_)
      · have hf := sp1 c1 hf
        refine lv_iload_n hx hb dX10_most_30 rfl (lv_at hl 1 rfl) ?_
        cases hf
        subst hQ
        exact he_i C hP hS dX10_most_31
      · have hf := sp0 c1 hf
        refine lv_lload_n hx hb dX10_most_16 rfl (lv_at hl 2 rfl) ?_
        refine lv_aload_n hx hb dX10_most_17 rfl (lv_at hl 0 rfl) ?_
        refine gf_X10_18 C hK hP mw_5_180 dX10_most_18 ?_
        refine lv_i2l hx hb dX10_most_21 rfl ?_
        refine lv_lmul hx hb dX10_most_22 ?_
        refine lv_lstore_n (lv' := [(2, .long (x2 * (Int32.toInt64 (S0.1 0 18)))), (0, .ref (ad 0)), (1, .int x1)]) hx hb dX10_most_23 rfl hl (by decide) rfl (fun ls hl => ?_)
        refine lv_iinc (v := (x1 + 1)) (lv' := [(1, .int (x1 + 1)), (2, .long (x2 * (Int32.toInt64 (S0.1 0 18)))), (0, .ref (ad 0))]) hx hb dX10_most_24 hl (k := 2) rfl rfl (by decide) rfl (fun ls hl => ?_)
        refine lv_goto (tgt := 8) hx hb dX10_most_27 (by decide) ?_
        exact hk_8 (x1 + 1) (x2 * (Int32.toInt64 (S0.1 0 18))) _ _ _ (lv_sub hl [2, 0, 1] rfl) hP hS hf
    exact aux FU
  refine lv_iconst (v := 0) hx hb dX10_most_0 (by decide) ?_
  refine lv_istore_n (lv' := [(1, .int 0), (0, .ref (ad 0))]) hx hb dX10_most_1 rfl hl (by decide) rfl (fun ls hl => ?_)
  refine lv_aload_n hx hb dX10_most_2 rfl (lv_at hl 1 rfl) ?_
  refine gf_X10_18 C hK hP mw_5_180 dX10_most_3 ?_
  refine lv_i2l hx hb dX10_most_6 rfl ?_
  refine lv_lstore_n (lv' := [(2, .long (Int32.toInt64 (S0.1 0 18))), (1, .int 0), (0, .ref (ad 0))]) hx hb dX10_most_7 rfl hl (by decide) rfl (fun ls hl => ?_)
  exact w_8 0 (Int32.toInt64 (S0.1 0 18)) _ _ _ (lv_sub hl [2, 1, 0] rfl) hP hS hf
theorem cp_X10_most : CPv yX10_most cX10_most 4 (some .int) 0 := ⟨mw_6_32, mw_1_9, mw_6_31, ms_33, by decide +kernel⟩
def rm_X10_inverse : Room := { frames := 2, cells := 0, slots := 0, locals := 64 }
set_option maxHeartbeats 4000000 in
set_option maxRecDepth 100000 in
theorem c_X10_inverse (l : Launch) (D : va_G) (ct : Nat → ClassId) (ad : Nat → Nat) (F : Nat → Prop) (hG : Gd ad 18 F) (p0 : Int64) (p1 : Int32) (S0 : St)  (r : Int64) (hf : f_X10_inverse p0 p1 S0 = some r) : MetH l yX10_inverse cX10_inverse 6 (some .long) rm_X10_inverse D (tysW ct) F [.ref (ad 0), .long p0, .int p1] (some (.long r)) (cellsM ct ad S0) (cellsM ct ad S0) := by
  refine MetH.of RX10 (by decide) rfl (Nat.le_of_ble_eq_true rfl) ?_
  intro p e s m args below meth c C hK hP ls hl
  have hl : lv_has ls 6 [(0, .ref (ad 0)), (1, .long p0), (3, .int p1)] := hl
  obtain ⟨hx, hb, hr, hml, hown, htL, hlocks⟩ := id C
  have hS : va_S F s.heap s.heap [] := va_S.rf
  generalize hQ : MQ below (Hq D (cellsM ct ad S0) F (some (.long r))) args s 0 0 F = Q
  refine lv_iload_n hx hb dX10_inverse_0 rfl (lv_at hl 2 rfl) ?_
  refine lv_if_gt (tgt := 6) hx hb dX10_inverse_1 (by decide) (fun c1 => ?_) (fun c1 => ?_)
  · have hf := sp1 c1 hf
    refine lv_aload_n hx hb dX10_inverse_6 rfl (lv_at hl 0 rfl) ?_
    refine lv_iload_n hx hb dX10_inverse_7 rfl (lv_at hl 2 rfl) ?_
    obtain ⟨v3, h2, hf⟩ := b1_some hf
    refine hc_V (As := [.int p1]) (rest := []) C hK (c_X10_power l D ct ad F hG p1 S0  v3 h2) hl.1 cp_X10_power mw_6_67 (rc_X10 hK hP) hP hS ⟨rfl, rfl⟩ ⟨Nat.le_of_ble_eq_true rfl, Nat.le_of_ble_eq_true rfl⟩ rfl rfl (Nat.le_of_ble_eq_true rfl) dX10_inverse_8 ⟨Nat.le_of_ble_eq_true rfl, Nat.le_of_ble_eq_true rfl⟩ (fun H locs hP hS => ?_)
    refine lv_lstore (lv' := [(4, .long v3), (0, .ref (ad 0)), (1, .long p0), (3, .int p1)]) hx hb dX10_inverse_11 hl (by decide) rfl (fun ls hl => ?_)
    refine lv_lload_n hx hb dX10_inverse_13 rfl (lv_at hl 2 rfl) ?_
    refine lv_lload hx hb dX10_inverse_14 (lv_at hl 0 rfl) ?_
    refine lv_aload_n hx hb dX10_inverse_16 rfl (lv_at hl 1 rfl) ?_
    refine gf_X10_18 C hK hP mw_5_180 dX10_inverse_17 ?_
    refine lv_i2l hx hb dX10_inverse_20 rfl ?_
    obtain ⟨c4, hf⟩ := spn hf
    refine lv_ldiv hx hb dX10_inverse_21 c4 ?_
    refine lv_aload_n hx hb dX10_inverse_22 rfl (lv_at hl 1 rfl) ?_
    refine gf_X10_18 C hK hP mw_5_180 dX10_inverse_23 ?_
    refine lv_iconst (v := 1) hx hb dX10_inverse_26 (by decide) ?_
    refine lv_isub hx hb dX10_inverse_27 ?_
    refine lv_i2l hx hb dX10_inverse_28 rfl ?_
    refine lv_lmul hx hb dX10_inverse_29 ?_
    refine lv_lconst (v := 1) hx hb dX10_inverse_30 (by decide) ?_
    refine lv_lsub hx hb dX10_inverse_31 ?_
    refine lv_lload hx hb dX10_inverse_32 (lv_at hl 0 rfl) ?_
    obtain ⟨v5, h6, hf⟩ := b1_some hf
    refine pc_S (As := [.long p0, .long (((v3 / (Int32.toInt64 (S0.1 0 18))) * (Int32.toInt64 ((S0.1 0 18) - 1))) - 1), .long v3]) (rest := []) C (c_X10_raised l p0 (((v3 / (Int32.toInt64 (S0.1 0 18))) * (Int32.toInt64 ((S0.1 0 18) - 1))) - 1) v3 v5 h6) hl.1 cp_X10_raised mw_6_78 ⟨rfl, rfl⟩ ⟨Nat.le_of_ble_eq_true rfl, Nat.le_of_ble_eq_true rfl⟩ rfl rfl (Nat.le_of_ble_eq_true rfl) dX10_inverse_34 ⟨Nat.le_of_ble_eq_true rfl, Nat.le_of_ble_eq_true rfl⟩ ?_
    cases hf
    subst hQ
    exact he_l C hP hS dX10_inverse_37
  · have hf := sp0 c1 hf
    refine lv_lconst (v := 0) hx hb dX10_inverse_4 (by decide) ?_
    cases hf
    subst hQ
    exact he_l C hP hS dX10_inverse_5
theorem cp_X10_inverse : CPv yX10_inverse cX10_inverse 6 (some .long) 2 := ⟨mw_6_77, mw_1_9, mw_6_76, ms_41, by decide +kernel⟩
def rm_X10_valuationOf : Room := { frames := 0, cells := 0, slots := 0, locals := 0 }
set_option maxHeartbeats 4000000 in
set_option maxRecDepth 100000 in
theorem c_X10_valuationOf (l : Launch) (D : va_G) (ct : Nat → ClassId) (ad : Nat → Nat) (F : Nat → Prop) (hG : Gd ad 18 F) (p0 : Int64) (S0 : St)  (r : Int32) (hf : f_X10_valuationOf p0 S0 = some r) : MetH l yX10_valuationOf cX10_valuationOf 6 (some .int) rm_X10_valuationOf D (tysW ct) F [.ref (ad 0), .long p0] (some (.int r)) (cellsM ct ad S0) (cellsM ct ad S0) := by
  refine MetH.of RX10 (by decide) rfl (Nat.le_of_ble_eq_true rfl) ?_
  intro p e s m args below meth c C hK hP ls hl
  have hl : lv_has ls 6 [(0, .ref (ad 0)), (1, .long p0)] := hl
  obtain ⟨hx, hb, hr, hml, hown, htL, hlocks⟩ := id C
  have hS : va_S F s.heap s.heap [] := va_S.rf
  generalize hQ : MQ below (Hq D (cellsM ct ad S0) F (some (.int r))) args s 0 0 F = Q
  have w_5 : ∀ (x3 : Int32) (x4 : Int64), ∀ (H : Heap) (locs : List Loc) (ls : Array Slot), lv_has ls 6 [(0, .ref (ad 0)), (3, .int x3), (4, .long x4)] → va_P D vwCl (cellsM ct ad S0) H → va_S F s.heap H locs → n_X10_valuationOf_5 S0 x3 x4 = some r → W p l e rm_X10_valuationOf s m args below meth c H locs 0 0 Q (F0 m 5 ls []) := by
    have aux : ∀ (n : Nat), ∀ (x3 : Int32) (x4 : Int64), ∀ (H : Heap) (locs : List Loc) (ls : Array Slot), lv_has ls 6 [(0, .ref (ad 0)), (3, .int x3), (4, .long x4)] → va_P D vwCl (cellsM ct ad S0) H → va_S F s.heap H locs → itr (fun (q : Int32 × Int64) k => s_X10_valuationOf_5  (fun (x3 : Int32) (x4 : Int64) => k (x3, x4)) S0 q.1 q.2) n (x3, x4) = some r → W p l e rm_X10_valuationOf s m args below meth c H locs 0 0 Q (F0 m 5 ls []) := by
      intro n
      induction n with
      | zero => intro x3 x4 H locs ls hl hP hS hf; exact (itr_z hf).elim
      | succ n ih =>
      intro x3 x4 H locs ls hl hP hS hf
      have hk_5 := ih
      have hf : s_X10_valuationOf_5  (fun (x3 : Int32) (x4 : Int64) => itr (fun (q : Int32 × Int64) k => s_X10_valuationOf_5  (fun (x3 : Int32) (x4 : Int64) => k (x3, x4)) S0 q.1 q.2) n (x3, x4)) S0 x3 x4 = some r := hf
      refine lv_lload hx hb dX10_valuationOf_5 (lv_at hl 2 rfl) ?_
      refine lv_lconst (v := 0) hx hb dX10_valuationOf_7 (by decide) ?_
      refine W.lcmp hx hb dX10_valuationOf_8 ?_
      refine lv_if_eq (tgt := 41) hx hb dX10_valuationOf_9 (by decide) (fun c1 => ?_) (fun c1 => ?_)
      · have hf := sp1 c1 hf
        refine lv_iload_n hx hb dX10_valuationOf_41 rfl (lv_at hl 1 rfl) ?_
        cases hf
        subst hQ
        exact he_i C hP hS dX10_valuationOf_42
      · have hf := sp0 c1 hf
        refine lv_lload hx hb dX10_valuationOf_12 (lv_at hl 2 rfl) ?_
        refine lv_aload_n hx hb dX10_valuationOf_14 rfl (lv_at hl 0 rfl) ?_
        refine gf_X10_18 C hK hP mw_5_180 dX10_valuationOf_15 ?_
        refine lv_i2l hx hb dX10_valuationOf_18 rfl ?_
        obtain ⟨c2, hf⟩ := spn hf
        refine lv_lrem hx hb dX10_valuationOf_19 c2 ?_
        refine lv_lconst (v := 0) hx hb dX10_valuationOf_20 (by decide) ?_
        refine W.lcmp hx hb dX10_valuationOf_21 ?_
        refine lv_if_ne (tgt := 41) hx hb dX10_valuationOf_22 (by decide) (fun c3 => ?_) (fun c3 => ?_)
        · have hf := sp0 c3 hf
          refine lv_iload_n hx hb dX10_valuationOf_41 rfl (lv_at hl 1 rfl) ?_
          cases hf
          subst hQ
          exact he_i C hP hS dX10_valuationOf_42
        · have hf := sp1 c3 hf
          refine lv_iinc (v := (x3 + 1)) (lv' := [(3, .int (x3 + 1)), (0, .ref (ad 0)), (4, .long x4)]) hx hb dX10_valuationOf_25 hl (k := 1) rfl rfl (by decide) rfl (fun ls hl => ?_)
          refine lv_lload hx hb dX10_valuationOf_28 (lv_at hl 2 rfl) ?_
          refine lv_aload_n hx hb dX10_valuationOf_30 rfl (lv_at hl 1 rfl) ?_
          refine gf_X10_18 C hK hP mw_5_180 dX10_valuationOf_31 ?_
          refine lv_i2l hx hb dX10_valuationOf_34 rfl ?_
          obtain ⟨c4, hf⟩ := spn hf
          refine lv_ldiv hx hb dX10_valuationOf_35 c4 ?_
          refine lv_lstore (lv' := [(4, .long (x4 / (Int32.toInt64 (S0.1 0 18)))), (3, .int (x3 + 1)), (0, .ref (ad 0))]) hx hb dX10_valuationOf_36 hl (by decide) rfl (fun ls hl => ?_)
          refine lv_goto (tgt := 5) hx hb dX10_valuationOf_38 (by decide) ?_
          exact hk_5 (x3 + 1) (x4 / (Int32.toInt64 (S0.1 0 18))) _ _ _ (lv_sub hl [2, 1, 0] rfl) hP hS hf
    exact aux FU
  refine lv_iconst (v := 0) hx hb dX10_valuationOf_0 (by decide) ?_
  refine lv_istore_n (lv' := [(3, .int 0), (0, .ref (ad 0)), (1, .long p0)]) hx hb dX10_valuationOf_1 rfl hl (by decide) rfl (fun ls hl => ?_)
  refine lv_lload_n hx hb dX10_valuationOf_2 rfl (lv_at hl 2 rfl) ?_
  refine lv_lstore (lv' := [(4, .long p0), (3, .int 0), (0, .ref (ad 0)), (1, .long p0)]) hx hb dX10_valuationOf_3 hl (by decide) rfl (fun ls hl => ?_)
  exact w_5 0 p0 _ _ _ (lv_sub hl [2, 1, 0] rfl) hP hS hf
theorem cp_X10_valuationOf : CPv yX10_valuationOf cX10_valuationOf 6 (some .int) 1 := ⟨mw_6_61, mw_1_9, mw_6_60, ms_38, by decide +kernel⟩
def rm_X10_nothing : Room := { frames := 1, cells := 0, slots := 0, locals := 40 }
set_option maxHeartbeats 4000000 in
set_option maxRecDepth 100000 in
theorem c_X10_nothing (l : Launch) (D : va_G) (ct : Nat → ClassId) (ad : Nat → Nat) (F : Nat → Prop) (hG : Gd ad 18 F) (p0 : Int32) (S0 : St)  (S' : St) (hf : f_X10_nothing p0 S0 = some S') : MetH l yX10_nothing cX10_nothing 2 none rm_X10_nothing D (tysW ct) F [.ref (ad 0), .int p0] none (cellsM ct ad S0) (cellsM ct ad S') := by
  refine MetH.of RX10 (by decide) rfl (Nat.le_of_ble_eq_true rfl) ?_
  intro p e s m args below meth c C hK hP ls hl
  have hl : lv_has ls 2 [(0, .ref (ad 0)), (1, .int p0)] := hl
  obtain ⟨hx, hb, hr, hml, hown, htL, hlocks⟩ := id C
  have hS : va_S F s.heap s.heap [] := va_S.rf
  generalize hQ : MQ below (Hq D (cellsM ct ad S') F none) args s 0 0 F = Q
  refine lv_aload_n hx hb dX10_nothing_0 rfl (lv_at hl 0 rfl) ?_
  refine lv_bipush (v := 60) hx hb dX10_nothing_1 (by decide) ?_
  refine lv_iload_n hx hb dX10_nothing_3 rfl (lv_at hl 1 rfl) ?_
  refine va_mmin (ls := _) hx hb (hml.trans hl.1.symm) hown (htL _ mw_6_62) (htL _ mw_2_60) (htL _ mw_1_17) (htL _ mw_2_61) (Nat.le_of_ble_eq_true rfl) (Nat.le_of_ble_eq_true rfl) (Nat.le_of_ble_eq_true rfl) (Nat.le_of_ble_eq_true rfl) dX10_nothing_4 ?_
  refine pf_X10_24 C hK hP hG hS mw_5_186 dX10_nothing_7 (fun H locs hP hS => ?_)
  refine lv_aload_n hx hb dX10_nothing_10 rfl (lv_at hl 0 rfl) ?_
  refine lv_aload_n hx hb dX10_nothing_11 rfl (lv_at hl 0 rfl) ?_
  refine gf_X10_24 C hK hP mw_5_186 dX10_nothing_12 ?_
  refine pf_X10_23 C hK hP hG hS mw_5_185 dX10_nothing_15 (fun H locs hP hS => ?_)
  refine lv_aload_n hx hb dX10_nothing_18 rfl (lv_at hl 0 rfl) ?_
  refine lv_lconst (v := 0) hx hb dX10_nothing_19 (by decide) ?_
  refine pf_X10_26 C hK hP hG hS mw_5_188 dX10_nothing_20 (fun H locs hP hS => ?_)
  cases hf
  subst hQ
  exact he_v C hP hS dX10_nothing_23
theorem cp_X10_nothing : CPv yX10_nothing cX10_nothing 2 none 1 := ⟨mw_6_66, mw_1_9, mw_6_65, ms_39, by decide +kernel⟩
def rm_X10_lays : Room := { frames := 2, cells := 0, slots := 0, locals := 65 }
set_option maxHeartbeats 4000000 in
set_option maxRecDepth 100000 in
theorem c_X10_lays (l : Launch) (D : va_G) (ct : Nat → ClassId) (ad : Nat → Nat) (F : Nat → Prop) (hG : Gd ad 18 F) (p0 : Int64) (p1 : Int32) (p2 : Int32) (S0 : St)  (S' : St) (hf : f_X10_lays p0 p1 p2 S0 = some S') : MetH l yX10_lays cX10_lays 7 none rm_X10_lays D (tysW ct) F [.ref (ad 0), .long p0, .int p1, .int p2] none (cellsM ct ad S0) (cellsM ct ad S') := by
  refine MetH.of RX10 (by decide) rfl (Nat.le_of_ble_eq_true rfl) ?_
  intro p e s m args below meth c C hK hP ls hl
  have hl : lv_has ls 7 [(0, .ref (ad 0)), (1, .long p0), (3, .int p1), (4, .int p2)] := hl
  obtain ⟨hx, hb, hr, hml, hown, htL, hlocks⟩ := id C
  have hS : va_S F s.heap s.heap [] := va_S.rf
  generalize hQ : MQ below (Hq D (cellsM ct ad S') F none) args s 0 0 F = Q
  have w_21 : ∀ (x4 : Int32) (S : St), ∀ (H : Heap) (locs : List Loc) (ls : Array Slot), lv_has ls 7 [(0, .ref (ad 0)), (4, .int x4)] → va_P D vwCl (cellsM ct ad S) H → va_S F s.heap H locs → n_X10_lays_21 x4 S = some S' → W p l e rm_X10_lays s m args below meth c H locs 0 0 Q (F0 m 21 ls []) := by
    intro  x4 S H locs ls hl hP hS hf
    refine lv_aload_n hx hb dX10_lays_21 rfl (lv_at hl 0 rfl) ?_
    refine lv_iload hx hb dX10_lays_22 (lv_at hl 1 rfl) ?_
    obtain ⟨S2, h1, hf⟩ := b1_some hf
    refine hc_V (As := [.int x4]) (rest := []) C hK (c_X10_nothing l D ct ad F hG x4 S  S2 h1) hl.1 cp_X10_nothing mw_6_63 (rc_X10 hK hP) hP hS ⟨rfl, rfl⟩ ⟨Nat.le_of_ble_eq_true rfl, Nat.le_of_ble_eq_true rfl⟩ rfl rfl (Nat.le_of_ble_eq_true rfl) dX10_lays_24 ⟨Nat.le_of_ble_eq_true rfl, Nat.le_of_ble_eq_true rfl⟩ (fun H locs hP hS => ?_)
    cases hf
    subst hQ
    exact he_v C hP hS dX10_lays_27
  refine lv_bipush (v := 60) hx hb dX10_lays_0 (by decide) ?_
  refine lv_iload hx hb dX10_lays_2 (lv_at hl 3 rfl) ?_
  refine va_mmin (ls := _) hx hb (hml.trans hl.1.symm) hown (htL _ mw_6_62) (htL _ mw_2_60) (htL _ mw_1_17) (htL _ mw_2_61) (Nat.le_of_ble_eq_true rfl) (Nat.le_of_ble_eq_true rfl) (Nat.le_of_ble_eq_true rfl) (Nat.le_of_ble_eq_true rfl) dX10_lays_4 ?_
  refine lv_istore (lv' := [(5, .int (mnI 60 p2)), (0, .ref (ad 0)), (1, .long p0), (3, .int p1), (4, .int p2)]) hx hb dX10_lays_7 hl (by decide) rfl (fun ls hl => ?_)
  refine lv_lload_n hx hb dX10_lays_9 rfl (lv_at hl 2 rfl) ?_
  refine lv_lconst (v := 0) hx hb dX10_lays_10 (by decide) ?_
  refine W.lcmp hx hb dX10_lays_11 ?_
  refine lv_if_eq (tgt := 21) hx hb dX10_lays_12 (by decide) (fun c3 => ?_) (fun c3 => ?_)
  · have hf := sp1 c3 hf
    exact w_21 p2 S0 _ _ _ (lv_sub hl [1, 4] rfl) hP hS hf
  · have hf := sp0 c3 hf
    refine lv_iload_n hx hb dX10_lays_15 rfl (lv_at hl 3 rfl) ?_
    refine lv_iload hx hb dX10_lays_16 (lv_at hl 0 rfl) ?_
    refine lv_icmp_lt (tgt := 28) hx hb dX10_lays_18 (by decide) (fun c4 => ?_) (fun c4 => ?_)
    · have hf := sp1 c4 hf
      refine lv_aload_n hx hb dX10_lays_28 rfl (lv_at hl 1 rfl) ?_
      refine lv_lload_n hx hb dX10_lays_29 rfl (lv_at hl 2 rfl) ?_
      obtain ⟨v6, h5, hf⟩ := b1_some hf
      refine hc_V (As := [.long p0]) (rest := []) C hK (c_X10_valuationOf l D ct ad F hG p0 S0  v6 h5) hl.1 cp_X10_valuationOf mw_6_58 (rc_X10 hK hP) hP hS ⟨rfl, rfl⟩ ⟨Nat.le_of_ble_eq_true rfl, Nat.le_of_ble_eq_true rfl⟩ rfl rfl (Nat.le_of_ble_eq_true rfl) dX10_lays_30 ⟨Nat.le_of_ble_eq_true rfl, Nat.le_of_ble_eq_true rfl⟩ (fun H locs hP hS => ?_)
      refine lv_istore (lv' := [(6, .int v6), (5, .int (mnI 60 p2)), (0, .ref (ad 0)), (1, .long p0), (3, .int p1), (4, .int p2)]) hx hb dX10_lays_33 hl (by decide) rfl (fun ls hl => ?_)
      refine lv_iload_n hx hb dX10_lays_35 rfl (lv_at hl 4 rfl) ?_
      refine lv_iload hx hb dX10_lays_36 (lv_at hl 0 rfl) ?_
      refine lv_iadd hx hb dX10_lays_38 ?_
      refine lv_iload hx hb dX10_lays_39 (lv_at hl 1 rfl) ?_
      refine lv_icmp_lt (tgt := 51) hx hb dX10_lays_41 (by decide) (fun c7 => ?_) (fun c7 => ?_)
      · have hf := sp1 c7 hf
        refine lv_aload_n hx hb dX10_lays_51 rfl (lv_at hl 2 rfl) ?_
        refine lv_iload_n hx hb dX10_lays_52 rfl (lv_at hl 4 rfl) ?_
        refine lv_iload hx hb dX10_lays_53 (lv_at hl 0 rfl) ?_
        refine lv_iadd hx hb dX10_lays_55 ?_
        refine pf_X10_23 C hK hP hG hS mw_5_185 dX10_lays_56 (fun H locs hP hS => ?_)
        refine lv_aload_n hx hb dX10_lays_59 rfl (lv_at hl 2 rfl) ?_
        refine lv_iload hx hb dX10_lays_60 (lv_at hl 1 rfl) ?_
        refine lv_aload_n hx hb dX10_lays_62 rfl (lv_at hl 2 rfl) ?_
        refine gf_X10_23 C hK hP mw_5_185 dX10_lays_63 ?_
        refine lv_aload_n hx hb dX10_lays_66 rfl (lv_at hl 2 rfl) ?_
        obtain ⟨v9, h8, hf⟩ := b1_some hf
        refine hc_V (As := []) (rest := [.int ((wI S0 0 23 (p1 + v6)).1 0 23), .int (mnI 60 p2), .ref (ad 0)]) C hK (c_X10_most l D ct ad F hG (wI S0 0 23 (p1 + v6))  v9 h8) hl.1 cp_X10_most mw_6_29 (rc_X10 hK hP) hP hS ⟨rfl, rfl⟩ ⟨Nat.le_of_ble_eq_true rfl, Nat.le_of_ble_eq_true rfl⟩ rfl rfl (Nat.le_of_ble_eq_true rfl) dX10_lays_67 ⟨Nat.le_of_ble_eq_true rfl, Nat.le_of_ble_eq_true rfl⟩ (fun H locs hP hS => ?_)
        refine lv_iadd hx hb dX10_lays_70 ?_
        refine va_mmin (ls := _) hx hb (hml.trans hl.1.symm) hown (htL _ mw_6_62) (htL _ mw_2_60) (htL _ mw_1_17) (htL _ mw_2_61) (Nat.le_of_ble_eq_true rfl) (Nat.le_of_ble_eq_true rfl) (Nat.le_of_ble_eq_true rfl) (Nat.le_of_ble_eq_true rfl) dX10_lays_71 ?_
        refine pf_X10_24 C hK hP hG hS mw_5_186 dX10_lays_74 (fun H locs hP hS => ?_)
        refine lv_aload_n hx hb dX10_lays_77 rfl (lv_at hl 2 rfl) ?_
        refine lv_lload_n hx hb dX10_lays_78 rfl (lv_at hl 3 rfl) ?_
        refine lv_aload_n hx hb dX10_lays_79 rfl (lv_at hl 2 rfl) ?_
        refine lv_iload hx hb dX10_lays_80 (lv_at hl 0 rfl) ?_
        obtain ⟨v11, h10, hf⟩ := b1_some hf
        refine hc_V (As := [.int v6]) (rest := [.long p0, .ref (ad 0)]) C hK (c_X10_power l D ct ad F hG v6 (wI (wI S0 0 23 (p1 + v6)) 0 24 (mnI (mnI 60 p2) (((wI S0 0 23 (p1 + v6)).1 0 23) + v9)))  v11 h10) hl.1 cp_X10_power mw_6_67 (rc_X10 hK hP) hP hS ⟨rfl, rfl⟩ ⟨Nat.le_of_ble_eq_true rfl, Nat.le_of_ble_eq_true rfl⟩ rfl rfl (Nat.le_of_ble_eq_true rfl) dX10_lays_82 ⟨Nat.le_of_ble_eq_true rfl, Nat.le_of_ble_eq_true rfl⟩ (fun H locs hP hS => ?_)
        obtain ⟨c12, hf⟩ := spn hf
        refine lv_ldiv hx hb dX10_lays_85 c12 ?_
        refine lv_aload_n hx hb dX10_lays_86 rfl (lv_at hl 2 rfl) ?_
        refine lv_aload_n hx hb dX10_lays_87 rfl (lv_at hl 2 rfl) ?_
        refine gf_X10_24 C hK hP mw_5_186 dX10_lays_88 ?_
        refine lv_aload_n hx hb dX10_lays_91 rfl (lv_at hl 2 rfl) ?_
        refine gf_X10_23 C hK hP mw_5_185 dX10_lays_92 ?_
        refine lv_isub hx hb dX10_lays_95 ?_
        obtain ⟨v14, h13, hf⟩ := b1_some hf
        refine hc_V (As := [.int (((wI (wI S0 0 23 (p1 + v6)) 0 24 (mnI (mnI 60 p2) (((wI S0 0 23 (p1 + v6)).1 0 23) + v9))).1 0 24) - ((wI (wI S0 0 23 (p1 + v6)) 0 24 (mnI (mnI 60 p2) (((wI S0 0 23 (p1 + v6)).1 0 23) + v9))).1 0 23))]) (rest := [.long (p0 / v11), .ref (ad 0)]) C hK (c_X10_power l D ct ad F hG (((wI (wI S0 0 23 (p1 + v6)) 0 24 (mnI (mnI 60 p2) (((wI S0 0 23 (p1 + v6)).1 0 23) + v9))).1 0 24) - ((wI (wI S0 0 23 (p1 + v6)) 0 24 (mnI (mnI 60 p2) (((wI S0 0 23 (p1 + v6)).1 0 23) + v9))).1 0 23)) (wI (wI S0 0 23 (p1 + v6)) 0 24 (mnI (mnI 60 p2) (((wI S0 0 23 (p1 + v6)).1 0 23) + v9)))  v14 h13) hl.1 cp_X10_power mw_6_67 (rc_X10 hK hP) hP hS ⟨rfl, rfl⟩ ⟨Nat.le_of_ble_eq_true rfl, Nat.le_of_ble_eq_true rfl⟩ rfl rfl (Nat.le_of_ble_eq_true rfl) dX10_lays_96 ⟨Nat.le_of_ble_eq_true rfl, Nat.le_of_ble_eq_true rfl⟩ (fun H locs hP hS => ?_)
        obtain ⟨v15, h16, hf⟩ := b1_some hf
        refine pc_S (As := [.long (p0 / v11), .long v14]) (rest := [.ref (ad 0)]) C (c_X10_whole l (p0 / v11) v14 v15 h16) hl.1 cp_X10_whole mw_6_71 ⟨rfl, rfl⟩ ⟨Nat.le_of_ble_eq_true rfl, Nat.le_of_ble_eq_true rfl⟩ rfl rfl (Nat.le_of_ble_eq_true rfl) dX10_lays_99 ⟨Nat.le_of_ble_eq_true rfl, Nat.le_of_ble_eq_true rfl⟩ ?_
        refine pf_X10_26 C hK hP hG hS mw_5_188 dX10_lays_102 (fun H locs hP hS => ?_)
        cases hf
        subst hQ
        exact he_v C hP hS dX10_lays_105
      · have hf := sp0 c7 hf
        refine lv_aload_n hx hb dX10_lays_44 rfl (lv_at hl 2 rfl) ?_
        refine lv_iload hx hb dX10_lays_45 (lv_at hl 5 rfl) ?_
        obtain ⟨S18, h17, hf⟩ := b1_some hf
        refine hc_V (As := [.int p2]) (rest := []) C hK (c_X10_nothing l D ct ad F hG p2 S0  S18 h17) hl.1 cp_X10_nothing mw_6_63 (rc_X10 hK hP) hP hS ⟨rfl, rfl⟩ ⟨Nat.le_of_ble_eq_true rfl, Nat.le_of_ble_eq_true rfl⟩ rfl rfl (Nat.le_of_ble_eq_true rfl) dX10_lays_47 ⟨Nat.le_of_ble_eq_true rfl, Nat.le_of_ble_eq_true rfl⟩ (fun H locs hP hS => ?_)
        cases hf
        subst hQ
        exact he_v C hP hS dX10_lays_50
    · have hf := sp0 c4 hf
      exact w_21 p2 S0 _ _ _ (lv_sub hl [1, 4] rfl) hP hS hf
theorem cp_X10_lays : CPv yX10_lays cX10_lays 7 none 3 := ⟨mw_6_88, mw_1_9, mw_6_87, ms_43, by decide +kernel⟩
def rm_X10_fraction : Room := { frames := 3, cells := 0, slots := 0, locals := 93 }
set_option maxHeartbeats 4000000 in
set_option maxRecDepth 100000 in
theorem c_X10_fraction (l : Launch) (D : va_G) (ct : Nat → ClassId) (ad : Nat → Nat) (F : Nat → Prop) (hG : Gd ad 18 F) (p0 : Int32) (p1 : Int32) (p2 : Int32) (S0 : St)  (S' : St) (hf : f_X10_fraction p0 p1 p2 S0 = some S') : MetH l yX10_fraction cX10_fraction 10 none rm_X10_fraction D (tysW ct) F [.ref (ad 0), .int p0, .int p1, .int p2] none (cellsM ct ad S0) (cellsM ct ad S') := by
  refine MetH.of RX10 (by decide) rfl (Nat.le_of_ble_eq_true rfl) ?_
  intro p e s m args below meth c C hK hP ls hl
  have hl : lv_has ls 10 [(0, .ref (ad 0)), (1, .int p0), (2, .int p1), (3, .int p2)] := hl
  obtain ⟨hx, hb, hr, hml, hown, htL, hlocks⟩ := id C
  have hS : va_S F s.heap s.heap [] := va_S.rf
  generalize hQ : MQ below (Hq D (cellsM ct ad S') F none) args s 0 0 F = Q
  have w_38 : ∀ (x3 : Int32) (S : St), ∀ (H : Heap) (locs : List Loc) (ls : Array Slot), lv_has ls 10 [(0, .ref (ad 0)), (3, .int x3)] → va_P D vwCl (cellsM ct ad S) H → va_S F s.heap H locs → n_X10_fraction_38 x3 S = some S' → W p l e rm_X10_fraction s m args below meth c H locs 0 0 Q (F0 m 38 ls []) := by
    intro  x3 S H locs ls hl hP hS hf
    refine lv_aload_n hx hb dX10_fraction_38 rfl (lv_at hl 0 rfl) ?_
    refine lv_iload_n hx hb dX10_fraction_39 rfl (lv_at hl 1 rfl) ?_
    obtain ⟨S2, h1, hf⟩ := b1_some hf
    refine hc_V (As := [.int x3]) (rest := []) C hK (c_X10_nothing l D ct ad F hG x3 S  S2 h1) hl.1 cp_X10_nothing mw_6_63 (rc_X10 hK hP) hP hS ⟨rfl, rfl⟩ ⟨Nat.le_of_ble_eq_true rfl, Nat.le_of_ble_eq_true rfl⟩ rfl rfl (Nat.le_of_ble_eq_true rfl) dX10_fraction_40 ⟨Nat.le_of_ble_eq_true rfl, Nat.le_of_ble_eq_true rfl⟩ (fun H locs hP hS => ?_)
    cases hf
    subst hQ
    exact he_v C hP hS dX10_fraction_43
  refine lv_aload_n hx hb dX10_fraction_0 rfl (lv_at hl 0 rfl) ?_
  refine lv_iload_n hx hb dX10_fraction_1 rfl (lv_at hl 1 rfl) ?_
  refine lv_i2l hx hb dX10_fraction_2 rfl ?_
  obtain ⟨v4, h3, hf⟩ := b1_some hf
  refine hc_V (As := [.long (Int32.toInt64 p0)]) (rest := []) C hK (c_X10_valuationOf l D ct ad F hG (Int32.toInt64 p0) S0  v4 h3) hl.1 cp_X10_valuationOf mw_6_58 (rc_X10 hK hP) hP hS ⟨rfl, rfl⟩ ⟨Nat.le_of_ble_eq_true rfl, Nat.le_of_ble_eq_true rfl⟩ rfl rfl (Nat.le_of_ble_eq_true rfl) dX10_fraction_3 ⟨Nat.le_of_ble_eq_true rfl, Nat.le_of_ble_eq_true rfl⟩ (fun H locs hP hS => ?_)
  refine lv_istore (lv' := [(4, .int v4), (0, .ref (ad 0)), (1, .int p0), (2, .int p1), (3, .int p2)]) hx hb dX10_fraction_6 hl (by decide) rfl (fun ls hl => ?_)
  refine lv_aload_n hx hb dX10_fraction_8 rfl (lv_at hl 1 rfl) ?_
  refine lv_iload_n hx hb dX10_fraction_9 rfl (lv_at hl 3 rfl) ?_
  refine lv_i2l hx hb dX10_fraction_10 rfl ?_
  obtain ⟨v6, h5, hf⟩ := b1_some hf
  refine hc_V (As := [.long (Int32.toInt64 p1)]) (rest := []) C hK (c_X10_valuationOf l D ct ad F hG (Int32.toInt64 p1) S0  v6 h5) hl.1 cp_X10_valuationOf mw_6_58 (rc_X10 hK hP) hP hS ⟨rfl, rfl⟩ ⟨Nat.le_of_ble_eq_true rfl, Nat.le_of_ble_eq_true rfl⟩ rfl rfl (Nat.le_of_ble_eq_true rfl) dX10_fraction_11 ⟨Nat.le_of_ble_eq_true rfl, Nat.le_of_ble_eq_true rfl⟩ (fun H locs hP hS => ?_)
  refine lv_istore (lv' := [(5, .int v6), (4, .int v4), (0, .ref (ad 0)), (1, .int p0), (2, .int p1), (3, .int p2)]) hx hb dX10_fraction_14 hl (by decide) rfl (fun ls hl => ?_)
  refine lv_iload hx hb dX10_fraction_16 (lv_at hl 1 rfl) ?_
  refine lv_iload hx hb dX10_fraction_18 (lv_at hl 0 rfl) ?_
  refine lv_isub hx hb dX10_fraction_20 ?_
  refine lv_istore (lv' := [(6, .int (v4 - v6)), (5, .int v6), (4, .int v4), (0, .ref (ad 0)), (1, .int p0), (2, .int p1), (3, .int p2)]) hx hb dX10_fraction_21 hl (by decide) rfl (fun ls hl => ?_)
  refine lv_iload_n hx hb dX10_fraction_23 rfl (lv_at hl 4 rfl) ?_
  refine lv_if_eq (tgt := 38) hx hb dX10_fraction_24 (by decide) (fun c7 => ?_) (fun c7 => ?_)
  · have hf := sp1 c7 hf
    exact w_38 p2 S0 _ _ _ (lv_sub hl [3, 6] rfl) hP hS hf
  · have hf := sp0 c7 hf
    refine lv_iload hx hb dX10_fraction_27 (lv_at hl 0 rfl) ?_
    refine lv_bipush (v := 60) hx hb dX10_fraction_29 (by decide) ?_
    refine lv_iload_n hx hb dX10_fraction_31 rfl (lv_at hl 6 rfl) ?_
    refine va_mmin (ls := _) hx hb (hml.trans hl.1.symm) hown (htL _ mw_6_62) (htL _ mw_2_60) (htL _ mw_1_17) (htL _ mw_2_61) (Nat.le_of_ble_eq_true rfl) (Nat.le_of_ble_eq_true rfl) (Nat.le_of_ble_eq_true rfl) (Nat.le_of_ble_eq_true rfl) dX10_fraction_32 ?_
    refine lv_icmp_lt (tgt := 44) hx hb dX10_fraction_35 (by decide) (fun c8 => ?_) (fun c8 => ?_)
    · have hf := sp1 c8 hf
      refine lv_bipush (v := 60) hx hb dX10_fraction_44 (by decide) ?_
      refine lv_iload_n hx hb dX10_fraction_46 rfl (lv_at hl 6 rfl) ?_
      refine va_mmin (ls := _) hx hb (hml.trans hl.1.symm) hown (htL _ mw_6_62) (htL _ mw_2_60) (htL _ mw_1_17) (htL _ mw_2_61) (Nat.le_of_ble_eq_true rfl) (Nat.le_of_ble_eq_true rfl) (Nat.le_of_ble_eq_true rfl) (Nat.le_of_ble_eq_true rfl) dX10_fraction_47 ?_
      refine lv_iload hx hb dX10_fraction_50 (lv_at hl 0 rfl) ?_
      refine lv_aload_n hx hb dX10_fraction_52 rfl (lv_at hl 3 rfl) ?_
      obtain ⟨v10, h9, hf⟩ := b1_some hf
      refine hc_V (As := []) (rest := [.int (v4 - v6), .int (mnI 60 p2)]) C hK (c_X10_most l D ct ad F hG S0  v10 h9) hl.1 cp_X10_most mw_6_29 (rc_X10 hK hP) hP hS ⟨rfl, rfl⟩ ⟨Nat.le_of_ble_eq_true rfl, Nat.le_of_ble_eq_true rfl⟩ rfl rfl (Nat.le_of_ble_eq_true rfl) dX10_fraction_53 ⟨Nat.le_of_ble_eq_true rfl, Nat.le_of_ble_eq_true rfl⟩ (fun H locs hP hS => ?_)
      refine lv_iadd hx hb dX10_fraction_56 ?_
      refine va_mmin (ls := _) hx hb (hml.trans hl.1.symm) hown (htL _ mw_6_62) (htL _ mw_2_60) (htL _ mw_1_17) (htL _ mw_2_61) (Nat.le_of_ble_eq_true rfl) (Nat.le_of_ble_eq_true rfl) (Nat.le_of_ble_eq_true rfl) (Nat.le_of_ble_eq_true rfl) dX10_fraction_57 ?_
      refine lv_istore (lv' := [(7, .int (mnI (mnI 60 p2) ((v4 - v6) + v10))), (6, .int (v4 - v6)), (5, .int v6), (4, .int v4), (0, .ref (ad 0)), (1, .int p0), (2, .int p1), (3, .int p2)]) hx hb dX10_fraction_60 hl (by decide) rfl (fun ls hl => ?_)
      refine lv_aload_n hx hb dX10_fraction_62 rfl (lv_at hl 4 rfl) ?_
      refine lv_iload hx hb dX10_fraction_63 (lv_at hl 0 rfl) ?_
      refine lv_iload hx hb dX10_fraction_65 (lv_at hl 1 rfl) ?_
      refine lv_isub hx hb dX10_fraction_67 ?_
      obtain ⟨v12, h11, hf⟩ := b1_some hf
      refine hc_V (As := [.int ((mnI (mnI 60 p2) ((v4 - v6) + v10)) - (v4 - v6))]) (rest := []) C hK (c_X10_power l D ct ad F hG ((mnI (mnI 60 p2) ((v4 - v6) + v10)) - (v4 - v6)) S0  v12 h11) hl.1 cp_X10_power mw_6_67 (rc_X10 hK hP) hP hS ⟨rfl, rfl⟩ ⟨Nat.le_of_ble_eq_true rfl, Nat.le_of_ble_eq_true rfl⟩ rfl rfl (Nat.le_of_ble_eq_true rfl) dX10_fraction_68 ⟨Nat.le_of_ble_eq_true rfl, Nat.le_of_ble_eq_true rfl⟩ (fun H locs hP hS => ?_)
      refine lv_lstore (lv' := [(8, .long v12), (7, .int (mnI (mnI 60 p2) ((v4 - v6) + v10))), (6, .int (v4 - v6)), (5, .int v6), (4, .int v4), (0, .ref (ad 0)), (1, .int p0), (2, .int p1), (3, .int p2)]) hx hb dX10_fraction_71 hl (by decide) rfl (fun ls hl => ?_)
      refine lv_aload_n hx hb dX10_fraction_73 rfl (lv_at hl 5 rfl) ?_
      refine lv_iload hx hb dX10_fraction_74 (lv_at hl 2 rfl) ?_
      refine pf_X10_23 C hK hP hG hS mw_5_185 dX10_fraction_76 (fun H locs hP hS => ?_)
      refine lv_aload_n hx hb dX10_fraction_79 rfl (lv_at hl 5 rfl) ?_
      refine lv_iload hx hb dX10_fraction_80 (lv_at hl 1 rfl) ?_
      refine pf_X10_24 C hK hP hG hS mw_5_186 dX10_fraction_82 (fun H locs hP hS => ?_)
      refine lv_aload_n hx hb dX10_fraction_85 rfl (lv_at hl 5 rfl) ?_
      refine lv_iload_n hx hb dX10_fraction_86 rfl (lv_at hl 6 rfl) ?_
      refine lv_i2l hx hb dX10_fraction_87 rfl ?_
      refine lv_aload_n hx hb dX10_fraction_88 rfl (lv_at hl 5 rfl) ?_
      refine lv_iload hx hb dX10_fraction_89 (lv_at hl 4 rfl) ?_
      obtain ⟨v14, h13, hf⟩ := b1_some hf
      refine hc_V (As := [.int v4]) (rest := [.long (Int32.toInt64 p0), .ref (ad 0)]) C hK (c_X10_power l D ct ad F hG v4 (wI (wI S0 0 23 (v4 - v6)) 0 24 (mnI (mnI 60 p2) ((v4 - v6) + v10)))  v14 h13) hl.1 cp_X10_power mw_6_67 (rc_X10 hK hP) hP hS ⟨rfl, rfl⟩ ⟨Nat.le_of_ble_eq_true rfl, Nat.le_of_ble_eq_true rfl⟩ rfl rfl (Nat.le_of_ble_eq_true rfl) dX10_fraction_91 ⟨Nat.le_of_ble_eq_true rfl, Nat.le_of_ble_eq_true rfl⟩ (fun H locs hP hS => ?_)
      obtain ⟨c15, hf⟩ := spn hf
      refine lv_ldiv hx hb dX10_fraction_94 c15 ?_
      refine lv_lload hx hb dX10_fraction_95 (lv_at hl 0 rfl) ?_
      obtain ⟨v16, h17, hf⟩ := b1_some hf
      refine pc_S (As := [.long ((Int32.toInt64 p0) / v14), .long v12]) (rest := [.ref (ad 0)]) C (c_X10_whole l ((Int32.toInt64 p0) / v14) v12 v16 h17) hl.1 cp_X10_whole mw_6_71 ⟨rfl, rfl⟩ ⟨Nat.le_of_ble_eq_true rfl, Nat.le_of_ble_eq_true rfl⟩ rfl rfl (Nat.le_of_ble_eq_true rfl) dX10_fraction_97 ⟨Nat.le_of_ble_eq_true rfl, Nat.le_of_ble_eq_true rfl⟩ ?_
      refine lv_aload_n hx hb dX10_fraction_100 rfl (lv_at hl 5 rfl) ?_
      refine lv_iload_n hx hb dX10_fraction_101 rfl (lv_at hl 7 rfl) ?_
      refine lv_i2l hx hb dX10_fraction_102 rfl ?_
      refine lv_aload_n hx hb dX10_fraction_103 rfl (lv_at hl 5 rfl) ?_
      refine lv_iload hx hb dX10_fraction_104 (lv_at hl 3 rfl) ?_
      obtain ⟨v19, h18, hf⟩ := b1_some hf
      refine hc_V (As := [.int v6]) (rest := [.long (Int32.toInt64 p1), .ref (ad 0), .long v16, .ref (ad 0)]) C hK (c_X10_power l D ct ad F hG v6 (wI (wI S0 0 23 (v4 - v6)) 0 24 (mnI (mnI 60 p2) ((v4 - v6) + v10)))  v19 h18) hl.1 cp_X10_power mw_6_67 (rc_X10 hK hP) hP hS ⟨rfl, rfl⟩ ⟨Nat.le_of_ble_eq_true rfl, Nat.le_of_ble_eq_true rfl⟩ rfl rfl (Nat.le_of_ble_eq_true rfl) dX10_fraction_106 ⟨Nat.le_of_ble_eq_true rfl, Nat.le_of_ble_eq_true rfl⟩ (fun H locs hP hS => ?_)
      obtain ⟨c20, hf⟩ := spn hf
      refine lv_ldiv hx hb dX10_fraction_109 c20 ?_
      refine lv_iload hx hb dX10_fraction_110 (lv_at hl 1 rfl) ?_
      refine lv_iload hx hb dX10_fraction_112 (lv_at hl 2 rfl) ?_
      refine lv_isub hx hb dX10_fraction_114 ?_
      obtain ⟨v22, h21, hf⟩ := b1_some hf
      refine hc_V (As := [.long ((Int32.toInt64 p1) / v19), .int ((mnI (mnI 60 p2) ((v4 - v6) + v10)) - (v4 - v6))]) (rest := [.long v16, .ref (ad 0)]) C hK (c_X10_inverse l D ct ad F hG ((Int32.toInt64 p1) / v19) ((mnI (mnI 60 p2) ((v4 - v6) + v10)) - (v4 - v6)) (wI (wI S0 0 23 (v4 - v6)) 0 24 (mnI (mnI 60 p2) ((v4 - v6) + v10)))  v22 h21) hl.1 cp_X10_inverse mw_6_74 (rc_X10 hK hP) hP hS ⟨rfl, rfl⟩ ⟨Nat.le_of_ble_eq_true rfl, Nat.le_of_ble_eq_true rfl⟩ rfl rfl (Nat.le_of_ble_eq_true rfl) dX10_fraction_115 ⟨Nat.le_of_ble_eq_true rfl, Nat.le_of_ble_eq_true rfl⟩ (fun H locs hP hS => ?_)
      refine lv_lmul hx hb dX10_fraction_118 ?_
      refine lv_lload hx hb dX10_fraction_119 (lv_at hl 0 rfl) ?_
      obtain ⟨c23, hf⟩ := spn hf
      refine lv_lrem hx hb dX10_fraction_121 c23 ?_
      refine pf_X10_26 C hK hP hG hS mw_5_188 dX10_fraction_122 (fun H locs hP hS => ?_)
      cases hf
      subst hQ
      exact he_v C hP hS dX10_fraction_125
    · have hf := sp0 c8 hf
      exact w_38 p2 S0 _ _ _ (lv_sub hl [3, 6] rfl) hP hS hf
theorem cp_X10_fraction : CPv yX10_fraction cX10_fraction 10 none 3 := ⟨mw_6_57, mw_1_9, mw_6_56, ms_37, by decide +kernel⟩
def rm_X10_sum : Room := { frames := 3, cells := 0, slots := 0, locals := 95 }
set_option maxHeartbeats 4000000 in
set_option maxRecDepth 100000 in
theorem c_X10_sum (l : Launch) (D : va_G) (ct : Nat → ClassId) (ad : Nat → Nat) (F : Nat → Prop) (hG : Gd ad 18 F) (p0 : Int32) (p1 : Int32) (p2 : Int32) (S0 : St)  (S' : St) (hf : f_X10_sum p0 p1 p2 S0 = some S') : MetH l yX10_sum cX10_sum 12 none rm_X10_sum D (tysW ct) F [.ref (ad 0), .int p0, .int p1, .int p2] none (cellsM ct ad S0) (cellsM ct ad S') := by
  refine MetH.of RX10 (by decide) rfl (Nat.le_of_ble_eq_true rfl) ?_
  intro p e s m args below meth c C hK hP ls hl
  have hl : lv_has ls 12 [(0, .ref (ad 0)), (1, .int p0), (2, .int p1), (3, .int p2)] := hl
  obtain ⟨hx, hb, hr, hml, hown, htL, hlocks⟩ := id C
  have hS : va_S F s.heap s.heap [] := va_S.rf
  generalize hQ : MQ below (Hq D (cellsM ct ad S') F none) args s 0 0 F = Q
  have w_134 : ∀ (x3 : Int32) (x4 : Int32) (x5 : Int32) (x6 : Int64) (x8 : Int64) (y0 : Int64) (S : St), ∀ (H : Heap) (locs : List Loc) (ls : Array Slot), lv_has ls 12 [(0, .ref (ad 0)), (3, .int x3), (4, .int x4), (5, .int x5), (6, .long x6), (8, .long x8)] → va_P D vwCl (cellsM ct ad S) H → va_S F s.heap H locs → n_X10_sum_134 x3 x4 x5 x6 x8 y0 S = some S' → W p l e rm_X10_sum s m args below meth c H locs 0 0 Q (F0 m 134 ls [.long y0]) := by
    intro  x3 x4 x5 x6 x8 y0 S H locs ls hl hP hS hf
    refine lv_lstore (lv' := [(10, .long y0), (0, .ref (ad 0)), (3, .int x3), (4, .int x4), (5, .int x5), (6, .long x6), (8, .long x8)]) hx hb dX10_sum_134 hl (by decide) rfl (fun ls hl => ?_)
    refine lv_aload_n hx hb dX10_sum_136 rfl (lv_at hl 1 rfl) ?_
    refine lv_lload hx hb dX10_sum_137 (lv_at hl 6 rfl) ?_
    refine lv_iload_n hx hb dX10_sum_139 rfl (lv_at hl 2 rfl) ?_
    refine lv_i2l hx hb dX10_sum_140 rfl ?_
    refine lv_lload hx hb dX10_sum_141 (lv_at hl 0 rfl) ?_
    refine lv_lmul hx hb dX10_sum_143 ?_
    refine lv_ladd hx hb dX10_sum_144 ?_
    refine lv_lload hx hb dX10_sum_145 (lv_at hl 5 rfl) ?_
    obtain ⟨v1, h2, hf⟩ := b1_some hf
    refine pc_S (As := [.long (x8 + ((Int32.toInt64 x3) * y0)), .long x6]) (rest := [.ref (ad 0)]) C (c_X10_whole l (x8 + ((Int32.toInt64 x3) * y0)) x6 v1 h2) hl.1 cp_X10_whole mw_6_71 ⟨rfl, rfl⟩ ⟨Nat.le_of_ble_eq_true rfl, Nat.le_of_ble_eq_true rfl⟩ rfl rfl (Nat.le_of_ble_eq_true rfl) dX10_sum_147 ⟨Nat.le_of_ble_eq_true rfl, Nat.le_of_ble_eq_true rfl⟩ ?_
    refine lv_iload hx hb dX10_sum_150 (lv_at hl 4 rfl) ?_
    refine lv_iload hx hb dX10_sum_152 (lv_at hl 3 rfl) ?_
    obtain ⟨S4, h3, hf⟩ := b1_some hf
    refine hc_V (As := [.long v1, .int x5, .int x4]) (rest := []) C hK (c_X10_lays l D ct ad F hG v1 x5 x4 S  S4 h3) hl.1 cp_X10_lays mw_6_85 (rc_X10 hK hP) hP hS ⟨rfl, rfl⟩ ⟨Nat.le_of_ble_eq_true rfl, Nat.le_of_ble_eq_true rfl⟩ rfl rfl (Nat.le_of_ble_eq_true rfl) dX10_sum_154 ⟨Nat.le_of_ble_eq_true rfl, Nat.le_of_ble_eq_true rfl⟩ (fun H locs hP hS => ?_)
    cases hf
    subst hQ
    exact he_v C hP hS dX10_sum_157
  have w_91 : ∀ (x2 : Int32) (x3 : Int32) (x4 : Int32) (x5 : Int32) (x6 : Int64) (y0 : Int64) (S : St), ∀ (H : Heap) (locs : List Loc) (ls : Array Slot), lv_has ls 12 [(0, .ref (ad 0)), (2, .int x2), (3, .int x3), (4, .int x4), (5, .int x5), (6, .long x6)] → va_P D vwCl (cellsM ct ad S) H → va_S F s.heap H locs → n_X10_sum_91 x2 x3 x4 x5 x6 y0 S = some S' → W p l e rm_X10_sum s m args below meth c H locs 0 0 Q (F0 m 91 ls [.long y0]) := by
    intro  x2 x3 x4 x5 x6 y0 S H locs ls hl hP hS hf
    refine lv_lstore (lv' := [(8, .long y0), (0, .ref (ad 0)), (2, .int x2), (3, .int x3), (4, .int x4), (5, .int x5), (6, .long x6)]) hx hb dX10_sum_91 hl (by decide) rfl (fun ls hl => ?_)
    refine lv_aload_n hx hb dX10_sum_93 rfl (lv_at hl 1 rfl) ?_
    refine gf_X10_0 C hK hP mw_5_162 dX10_sum_94 ?_
    refine lv_iload_n hx hb dX10_sum_97 rfl (lv_at hl 2 rfl) ?_
    obtain ⟨c5, hf⟩ := spn hf
    refine al_M1 C hK hP c5 dX10_sum_98 ?_
    refine lv_iload hx hb dX10_sum_99 (lv_at hl 4 rfl) ?_
    refine lv_icmp_lt (tgt := 108) hx hb dX10_sum_101 (by decide) (fun c6 => ?_) (fun c6 => ?_)
    · have hf := sp1 c6 hf
      refine lv_aload_n hx hb dX10_sum_108 rfl (lv_at hl 1 rfl) ?_
      refine gf_X10_7 C hK hP mw_5_169 dX10_sum_109 ?_
      refine lv_iload_n hx hb dX10_sum_112 rfl (lv_at hl 2 rfl) ?_
      obtain ⟨c7, hf⟩ := spn hf
      refine al_M8 C hK hP c7 dX10_sum_113 ?_
      refine lv_lload hx hb dX10_sum_114 (lv_at hl 6 rfl) ?_
      obtain ⟨c8, hf⟩ := spn hf
      refine lv_lrem hx hb dX10_sum_116 c8 ?_
      refine lv_aload_n hx hb dX10_sum_117 rfl (lv_at hl 1 rfl) ?_
      refine lv_aload_n hx hb dX10_sum_118 rfl (lv_at hl 1 rfl) ?_
      refine gf_X10_0 C hK hP mw_5_162 dX10_sum_119 ?_
      refine lv_iload_n hx hb dX10_sum_122 rfl (lv_at hl 2 rfl) ?_
      obtain ⟨c9, hf⟩ := spn hf
      refine al_M1 C hK hP c9 dX10_sum_123 ?_
      refine lv_iload hx hb dX10_sum_124 (lv_at hl 5 rfl) ?_
      refine lv_isub hx hb dX10_sum_126 ?_
      obtain ⟨v11, h10, hf⟩ := b1_some hf
      refine hc_V (As := [.int ((S.1 1 (Int32.toNatClampNeg x2)) - x5)]) (rest := [.long (rL (S.2 8 (Int32.toNatClampNeg x2)) x6)]) C hK (c_X10_power l D ct ad F hG ((S.1 1 (Int32.toNatClampNeg x2)) - x5) S  v11 h10) hl.1 cp_X10_power mw_6_67 (rc_X10 hK hP) hP hS ⟨rfl, rfl⟩ ⟨Nat.le_of_ble_eq_true rfl, Nat.le_of_ble_eq_true rfl⟩ rfl rfl (Nat.le_of_ble_eq_true rfl) dX10_sum_127 ⟨Nat.le_of_ble_eq_true rfl, Nat.le_of_ble_eq_true rfl⟩ (fun H locs hP hS => ?_)
      refine lv_lmul hx hb dX10_sum_130 ?_
      refine lv_lload hx hb dX10_sum_131 (lv_at hl 6 rfl) ?_
      obtain ⟨c12, hf⟩ := spn hf
      refine lv_lrem hx hb dX10_sum_133 c12 ?_
      exact w_134 x3 x4 x5 x6 y0 (rL ((rL (S.2 8 (Int32.toNatClampNeg x2)) x6) * v11) x6) S _ _ _ (lv_sub hl [1, 3, 4, 5, 6, 0] rfl) hP hS hf
    · have hf := sp0 c6 hf
      refine lv_lconst (v := 0) hx hb dX10_sum_104 (by decide) ?_
      refine lv_goto (tgt := 134) hx hb dX10_sum_105 (by decide) ?_
      exact w_134 x3 x4 x5 x6 y0 0 S _ _ _ (lv_sub hl [1, 3, 4, 5, 6, 0] rfl) hP hS hf
  refine lv_aload_n hx hb dX10_sum_0 rfl (lv_at hl 0 rfl) ?_
  refine gf_X10_1 C hK hP mw_5_163 dX10_sum_1 ?_
  refine lv_iload_n hx hb dX10_sum_4 rfl (lv_at hl 1 rfl) ?_
  obtain ⟨c13, hf⟩ := spn hf
  refine al_M2 C hK hP c13 dX10_sum_5 ?_
  refine lv_aload_n hx hb dX10_sum_6 rfl (lv_at hl 0 rfl) ?_
  refine gf_X10_1 C hK hP mw_5_163 dX10_sum_7 ?_
  refine lv_iload_n hx hb dX10_sum_10 rfl (lv_at hl 2 rfl) ?_
  obtain ⟨c14, hf⟩ := spn hf
  refine al_M2 C hK hP c14 dX10_sum_11 ?_
  refine va_mmin (ls := _) hx hb (hml.trans hl.1.symm) hown (htL _ mw_6_62) (htL _ mw_2_60) (htL _ mw_1_17) (htL _ mw_2_61) (Nat.le_of_ble_eq_true rfl) (Nat.le_of_ble_eq_true rfl) (Nat.le_of_ble_eq_true rfl) (Nat.le_of_ble_eq_true rfl) dX10_sum_12 ?_
  refine lv_istore (lv' := [(4, .int (mnI (S0.1 2 (Int32.toNatClampNeg p0)) (S0.1 2 (Int32.toNatClampNeg p1)))), (0, .ref (ad 0)), (1, .int p0), (2, .int p1), (3, .int p2)]) hx hb dX10_sum_15 hl (by decide) rfl (fun ls hl => ?_)
  refine lv_iload hx hb dX10_sum_17 (lv_at hl 0 rfl) ?_
  refine lv_aload_n hx hb dX10_sum_19 rfl (lv_at hl 1 rfl) ?_
  refine gf_X10_0 C hK hP mw_5_162 dX10_sum_20 ?_
  refine lv_iload_n hx hb dX10_sum_23 rfl (lv_at hl 2 rfl) ?_
  obtain ⟨c15, hf⟩ := spn hf
  refine al_M1 C hK hP c15 dX10_sum_24 ?_
  refine lv_aload_n hx hb dX10_sum_25 rfl (lv_at hl 1 rfl) ?_
  refine gf_X10_0 C hK hP mw_5_162 dX10_sum_26 ?_
  refine lv_iload_n hx hb dX10_sum_29 rfl (lv_at hl 3 rfl) ?_
  obtain ⟨c16, hf⟩ := spn hf
  refine al_M1 C hK hP c16 dX10_sum_30 ?_
  refine va_mmin (ls := _) hx hb (hml.trans hl.1.symm) hown (htL _ mw_6_62) (htL _ mw_2_60) (htL _ mw_1_17) (htL _ mw_2_61) (Nat.le_of_ble_eq_true rfl) (Nat.le_of_ble_eq_true rfl) (Nat.le_of_ble_eq_true rfl) (Nat.le_of_ble_eq_true rfl) dX10_sum_31 ?_
  refine va_mmin (ls := _) hx hb (hml.trans hl.1.symm) hown (htL _ mw_6_62) (htL _ mw_2_60) (htL _ mw_1_17) (htL _ mw_2_61) (Nat.le_of_ble_eq_true rfl) (Nat.le_of_ble_eq_true rfl) (Nat.le_of_ble_eq_true rfl) (Nat.le_of_ble_eq_true rfl) dX10_sum_34 ?_
  refine lv_istore (lv' := [(5, .int (mnI (mnI (S0.1 2 (Int32.toNatClampNeg p0)) (S0.1 2 (Int32.toNatClampNeg p1))) (mnI (S0.1 1 (Int32.toNatClampNeg p0)) (S0.1 1 (Int32.toNatClampNeg p1))))), (4, .int (mnI (S0.1 2 (Int32.toNatClampNeg p0)) (S0.1 2 (Int32.toNatClampNeg p1)))), (0, .ref (ad 0)), (1, .int p0), (2, .int p1), (3, .int p2)]) hx hb dX10_sum_37 hl (by decide) rfl (fun ls hl => ?_)
  refine lv_aload_n hx hb dX10_sum_39 rfl (lv_at hl 2 rfl) ?_
  refine lv_iload hx hb dX10_sum_40 (lv_at hl 1 rfl) ?_
  refine lv_iload hx hb dX10_sum_42 (lv_at hl 0 rfl) ?_
  refine lv_isub hx hb dX10_sum_44 ?_
  obtain ⟨v18, h17, hf⟩ := b1_some hf
  refine hc_V (As := [.int ((mnI (S0.1 2 (Int32.toNatClampNeg p0)) (S0.1 2 (Int32.toNatClampNeg p1))) - (mnI (mnI (S0.1 2 (Int32.toNatClampNeg p0)) (S0.1 2 (Int32.toNatClampNeg p1))) (mnI (S0.1 1 (Int32.toNatClampNeg p0)) (S0.1 1 (Int32.toNatClampNeg p1)))))]) (rest := []) C hK (c_X10_power l D ct ad F hG ((mnI (S0.1 2 (Int32.toNatClampNeg p0)) (S0.1 2 (Int32.toNatClampNeg p1))) - (mnI (mnI (S0.1 2 (Int32.toNatClampNeg p0)) (S0.1 2 (Int32.toNatClampNeg p1))) (mnI (S0.1 1 (Int32.toNatClampNeg p0)) (S0.1 1 (Int32.toNatClampNeg p1))))) S0  v18 h17) hl.1 cp_X10_power mw_6_67 (rc_X10 hK hP) hP hS ⟨rfl, rfl⟩ ⟨Nat.le_of_ble_eq_true rfl, Nat.le_of_ble_eq_true rfl⟩ rfl rfl (Nat.le_of_ble_eq_true rfl) dX10_sum_45 ⟨Nat.le_of_ble_eq_true rfl, Nat.le_of_ble_eq_true rfl⟩ (fun H locs hP hS => ?_)
  refine lv_lstore (lv' := [(6, .long v18), (5, .int (mnI (mnI (S0.1 2 (Int32.toNatClampNeg p0)) (S0.1 2 (Int32.toNatClampNeg p1))) (mnI (S0.1 1 (Int32.toNatClampNeg p0)) (S0.1 1 (Int32.toNatClampNeg p1))))), (4, .int (mnI (S0.1 2 (Int32.toNatClampNeg p0)) (S0.1 2 (Int32.toNatClampNeg p1)))), (0, .ref (ad 0)), (1, .int p0), (2, .int p1), (3, .int p2)]) hx hb dX10_sum_48 hl (by decide) rfl (fun ls hl => ?_)
  refine lv_aload_n hx hb dX10_sum_50 rfl (lv_at hl 3 rfl) ?_
  refine gf_X10_0 C hK hP mw_5_162 dX10_sum_51 ?_
  refine lv_iload_n hx hb dX10_sum_54 rfl (lv_at hl 4 rfl) ?_
  obtain ⟨c19, hf⟩ := spn hf
  refine al_M1 C hK hP c19 dX10_sum_55 ?_
  refine lv_iload hx hb dX10_sum_56 (lv_at hl 2 rfl) ?_
  refine lv_icmp_lt (tgt := 65) hx hb dX10_sum_58 (by decide) (fun c20 => ?_) (fun c20 => ?_)
  · have hf := sp1 c20 hf
    refine lv_aload_n hx hb dX10_sum_65 rfl (lv_at hl 3 rfl) ?_
    refine gf_X10_7 C hK hP mw_5_169 dX10_sum_66 ?_
    refine lv_iload_n hx hb dX10_sum_69 rfl (lv_at hl 4 rfl) ?_
    obtain ⟨c21, hf⟩ := spn hf
    refine al_M8 C hK hP c21 dX10_sum_70 ?_
    refine lv_lload hx hb dX10_sum_71 (lv_at hl 0 rfl) ?_
    obtain ⟨c22, hf⟩ := spn hf
    refine lv_lrem hx hb dX10_sum_73 c22 ?_
    refine lv_aload_n hx hb dX10_sum_74 rfl (lv_at hl 3 rfl) ?_
    refine lv_aload_n hx hb dX10_sum_75 rfl (lv_at hl 3 rfl) ?_
    refine gf_X10_0 C hK hP mw_5_162 dX10_sum_76 ?_
    refine lv_iload_n hx hb dX10_sum_79 rfl (lv_at hl 4 rfl) ?_
    obtain ⟨c23, hf⟩ := spn hf
    refine al_M1 C hK hP c23 dX10_sum_80 ?_
    refine lv_iload hx hb dX10_sum_81 (lv_at hl 1 rfl) ?_
    refine lv_isub hx hb dX10_sum_83 ?_
    obtain ⟨v25, h24, hf⟩ := b1_some hf
    refine hc_V (As := [.int ((S0.1 1 (Int32.toNatClampNeg p0)) - (mnI (mnI (S0.1 2 (Int32.toNatClampNeg p0)) (S0.1 2 (Int32.toNatClampNeg p1))) (mnI (S0.1 1 (Int32.toNatClampNeg p0)) (S0.1 1 (Int32.toNatClampNeg p1)))))]) (rest := [.long (rL (S0.2 8 (Int32.toNatClampNeg p0)) v18)]) C hK (c_X10_power l D ct ad F hG ((S0.1 1 (Int32.toNatClampNeg p0)) - (mnI (mnI (S0.1 2 (Int32.toNatClampNeg p0)) (S0.1 2 (Int32.toNatClampNeg p1))) (mnI (S0.1 1 (Int32.toNatClampNeg p0)) (S0.1 1 (Int32.toNatClampNeg p1))))) S0  v25 h24) hl.1 cp_X10_power mw_6_67 (rc_X10 hK hP) hP hS ⟨rfl, rfl⟩ ⟨Nat.le_of_ble_eq_true rfl, Nat.le_of_ble_eq_true rfl⟩ rfl rfl (Nat.le_of_ble_eq_true rfl) dX10_sum_84 ⟨Nat.le_of_ble_eq_true rfl, Nat.le_of_ble_eq_true rfl⟩ (fun H locs hP hS => ?_)
    refine lv_lmul hx hb dX10_sum_87 ?_
    refine lv_lload hx hb dX10_sum_88 (lv_at hl 0 rfl) ?_
    obtain ⟨c26, hf⟩ := spn hf
    refine lv_lrem hx hb dX10_sum_90 c26 ?_
    exact w_91 p1 p2 (mnI (S0.1 2 (Int32.toNatClampNeg p0)) (S0.1 2 (Int32.toNatClampNeg p1))) (mnI (mnI (S0.1 2 (Int32.toNatClampNeg p0)) (S0.1 2 (Int32.toNatClampNeg p1))) (mnI (S0.1 1 (Int32.toNatClampNeg p0)) (S0.1 1 (Int32.toNatClampNeg p1)))) v18 (rL ((rL (S0.2 8 (Int32.toNatClampNeg p0)) v18) * v25) v18) S0 _ _ _ (lv_sub hl [3, 5, 6, 2, 1, 0] rfl) hP hS hf
  · have hf := sp0 c20 hf
    refine lv_lconst (v := 0) hx hb dX10_sum_61 (by decide) ?_
    refine lv_goto (tgt := 91) hx hb dX10_sum_62 (by decide) ?_
    exact w_91 p1 p2 (mnI (S0.1 2 (Int32.toNatClampNeg p0)) (S0.1 2 (Int32.toNatClampNeg p1))) (mnI (mnI (S0.1 2 (Int32.toNatClampNeg p0)) (S0.1 2 (Int32.toNatClampNeg p1))) (mnI (S0.1 1 (Int32.toNatClampNeg p0)) (S0.1 1 (Int32.toNatClampNeg p1)))) v18 0 S0 _ _ _ (lv_sub hl [3, 5, 6, 2, 1, 0] rfl) hP hS hf
theorem cp_X10_sum : CPv yX10_sum cX10_sum 12 none 3 := ⟨mw_6_84, mw_1_9, mw_6_83, ms_42, by decide +kernel⟩
def rm_X10_product : Room := { frames := 3, cells := 0, slots := 0, locals := 95 }
set_option maxHeartbeats 4000000 in
set_option maxRecDepth 100000 in
theorem c_X10_product (l : Launch) (D : va_G) (ct : Nat → ClassId) (ad : Nat → Nat) (F : Nat → Prop) (hG : Gd ad 18 F) (p0 : Int32) (p1 : Int32) (S0 : St)  (S' : St) (hf : f_X10_product p0 p1 S0 = some S') : MetH l yX10_product cX10_product 7 none rm_X10_product D (tysW ct) F [.ref (ad 0), .int p0, .int p1] none (cellsM ct ad S0) (cellsM ct ad S') := by
  refine MetH.of RX10 (by decide) rfl (Nat.le_of_ble_eq_true rfl) ?_
  intro p e s m args below meth c C hK hP ls hl
  have hl : lv_has ls 7 [(0, .ref (ad 0)), (1, .int p0), (2, .int p1)] := hl
  obtain ⟨hx, hb, hr, hml, hown, htL, hlocks⟩ := id C
  have hS : va_S F s.heap s.heap [] := va_S.rf
  generalize hQ : MQ below (Hq D (cellsM ct ad S') F none) args s 0 0 F = Q
  have w_67 : ∀ (x3 : Int32) (S : St), ∀ (H : Heap) (locs : List Loc) (ls : Array Slot), lv_has ls 7 [(0, .ref (ad 0)), (3, .int x3)] → va_P D vwCl (cellsM ct ad S) H → va_S F s.heap H locs → n_X10_product_67 x3 S = some S' → W p l e rm_X10_product s m args below meth c H locs 0 0 Q (F0 m 67 ls []) := by
    intro  x3 S H locs ls hl hP hS hf
    refine lv_aload_n hx hb dX10_product_67 rfl (lv_at hl 0 rfl) ?_
    refine lv_iload_n hx hb dX10_product_68 rfl (lv_at hl 1 rfl) ?_
    obtain ⟨S2, h1, hf⟩ := b1_some hf
    refine hc_V (As := [.int x3]) (rest := []) C hK (c_X10_nothing l D ct ad F hG x3 S  S2 h1) hl.1 cp_X10_nothing mw_6_63 (rc_X10 hK hP) hP hS ⟨rfl, rfl⟩ ⟨Nat.le_of_ble_eq_true rfl, Nat.le_of_ble_eq_true rfl⟩ rfl rfl (Nat.le_of_ble_eq_true rfl) dX10_product_69 ⟨Nat.le_of_ble_eq_true rfl, Nat.le_of_ble_eq_true rfl⟩ (fun H locs hP hS => ?_)
    cases hf
    subst hQ
    exact he_v C hP hS dX10_product_72
  refine lv_aload_n hx hb dX10_product_0 rfl (lv_at hl 0 rfl) ?_
  refine gf_X10_0 C hK hP mw_5_162 dX10_product_1 ?_
  refine lv_iload_n hx hb dX10_product_4 rfl (lv_at hl 1 rfl) ?_
  obtain ⟨c3, hf⟩ := spn hf
  refine al_M1 C hK hP c3 dX10_product_5 ?_
  refine lv_aload_n hx hb dX10_product_6 rfl (lv_at hl 0 rfl) ?_
  refine gf_X10_1 C hK hP mw_5_163 dX10_product_7 ?_
  refine lv_iload_n hx hb dX10_product_10 rfl (lv_at hl 2 rfl) ?_
  obtain ⟨c4, hf⟩ := spn hf
  refine al_M2 C hK hP c4 dX10_product_11 ?_
  refine lv_iadd hx hb dX10_product_12 ?_
  refine lv_aload_n hx hb dX10_product_13 rfl (lv_at hl 0 rfl) ?_
  refine gf_X10_0 C hK hP mw_5_162 dX10_product_14 ?_
  refine lv_iload_n hx hb dX10_product_17 rfl (lv_at hl 2 rfl) ?_
  obtain ⟨c5, hf⟩ := spn hf
  refine al_M1 C hK hP c5 dX10_product_18 ?_
  refine lv_aload_n hx hb dX10_product_19 rfl (lv_at hl 0 rfl) ?_
  refine gf_X10_1 C hK hP mw_5_163 dX10_product_20 ?_
  refine lv_iload_n hx hb dX10_product_23 rfl (lv_at hl 1 rfl) ?_
  obtain ⟨c6, hf⟩ := spn hf
  refine al_M2 C hK hP c6 dX10_product_24 ?_
  refine lv_iadd hx hb dX10_product_25 ?_
  refine va_mmin (ls := _) hx hb (hml.trans hl.1.symm) hown (htL _ mw_6_62) (htL _ mw_2_60) (htL _ mw_1_17) (htL _ mw_2_61) (Nat.le_of_ble_eq_true rfl) (Nat.le_of_ble_eq_true rfl) (Nat.le_of_ble_eq_true rfl) (Nat.le_of_ble_eq_true rfl) dX10_product_26 ?_
  refine lv_istore_n (lv' := [(3, .int (mnI ((S0.1 1 (Int32.toNatClampNeg p0)) + (S0.1 2 (Int32.toNatClampNeg p1))) ((S0.1 1 (Int32.toNatClampNeg p1)) + (S0.1 2 (Int32.toNatClampNeg p0))))), (0, .ref (ad 0)), (1, .int p0), (2, .int p1)]) hx hb dX10_product_29 rfl hl (by decide) rfl (fun ls hl => ?_)
  refine lv_aload_n hx hb dX10_product_30 rfl (lv_at hl 1 rfl) ?_
  refine gf_X10_0 C hK hP mw_5_162 dX10_product_31 ?_
  refine lv_iload_n hx hb dX10_product_34 rfl (lv_at hl 2 rfl) ?_
  obtain ⟨c7, hf⟩ := spn hf
  refine al_M1 C hK hP c7 dX10_product_35 ?_
  refine lv_aload_n hx hb dX10_product_36 rfl (lv_at hl 1 rfl) ?_
  refine gf_X10_0 C hK hP mw_5_162 dX10_product_37 ?_
  refine lv_iload_n hx hb dX10_product_40 rfl (lv_at hl 3 rfl) ?_
  obtain ⟨c8, hf⟩ := spn hf
  refine al_M1 C hK hP c8 dX10_product_41 ?_
  refine lv_iadd hx hb dX10_product_42 ?_
  refine lv_istore (lv' := [(4, .int ((S0.1 1 (Int32.toNatClampNeg p0)) + (S0.1 1 (Int32.toNatClampNeg p1)))), (3, .int (mnI ((S0.1 1 (Int32.toNatClampNeg p0)) + (S0.1 2 (Int32.toNatClampNeg p1))) ((S0.1 1 (Int32.toNatClampNeg p1)) + (S0.1 2 (Int32.toNatClampNeg p0))))), (0, .ref (ad 0)), (1, .int p0), (2, .int p1)]) hx hb dX10_product_43 hl (by decide) rfl (fun ls hl => ?_)
  refine lv_aload_n hx hb dX10_product_45 rfl (lv_at hl 2 rfl) ?_
  refine gf_X10_7 C hK hP mw_5_169 dX10_product_46 ?_
  refine lv_iload_n hx hb dX10_product_49 rfl (lv_at hl 3 rfl) ?_
  obtain ⟨c9, hf⟩ := spn hf
  refine al_M8 C hK hP c9 dX10_product_50 ?_
  refine lv_lconst (v := 0) hx hb dX10_product_51 (by decide) ?_
  refine W.lcmp hx hb dX10_product_52 ?_
  refine lv_if_eq (tgt := 67) hx hb dX10_product_53 (by decide) (fun c10 => ?_) (fun c10 => ?_)
  · have hf := sp1 c10 hf
    exact w_67 (mnI ((S0.1 1 (Int32.toNatClampNeg p0)) + (S0.1 2 (Int32.toNatClampNeg p1))) ((S0.1 1 (Int32.toNatClampNeg p1)) + (S0.1 2 (Int32.toNatClampNeg p0)))) S0 _ _ _ (lv_sub hl [2, 1] rfl) hP hS hf
  · have hf := sp0 c10 hf
    refine lv_aload_n hx hb dX10_product_56 rfl (lv_at hl 2 rfl) ?_
    refine gf_X10_7 C hK hP mw_5_169 dX10_product_57 ?_
    refine lv_iload_n hx hb dX10_product_60 rfl (lv_at hl 4 rfl) ?_
    obtain ⟨c11, hf⟩ := spn hf
    refine al_M8 C hK hP c11 dX10_product_61 ?_
    refine lv_lconst (v := 0) hx hb dX10_product_62 (by decide) ?_
    refine W.lcmp hx hb dX10_product_63 ?_
    refine lv_if_ne (tgt := 73) hx hb dX10_product_64 (by decide) (fun c12 => ?_) (fun c12 => ?_)
    · have hf := sp0 c12 hf
      refine lv_aload_n hx hb dX10_product_73 rfl (lv_at hl 2 rfl) ?_
      refine lv_iload_n hx hb dX10_product_74 rfl (lv_at hl 1 rfl) ?_
      refine lv_iload hx hb dX10_product_75 (lv_at hl 0 rfl) ?_
      refine lv_isub hx hb dX10_product_77 ?_
      refine lv_aload_n hx hb dX10_product_78 rfl (lv_at hl 2 rfl) ?_
      obtain ⟨v14, h13, hf⟩ := b1_some hf
      refine hc_V (As := []) (rest := [.int ((mnI ((S0.1 1 (Int32.toNatClampNeg p0)) + (S0.1 2 (Int32.toNatClampNeg p1))) ((S0.1 1 (Int32.toNatClampNeg p1)) + (S0.1 2 (Int32.toNatClampNeg p0)))) - ((S0.1 1 (Int32.toNatClampNeg p0)) + (S0.1 1 (Int32.toNatClampNeg p1)))), .ref (ad 0)]) C hK (c_X10_most l D ct ad F hG S0  v14 h13) hl.1 cp_X10_most mw_6_29 (rc_X10 hK hP) hP hS ⟨rfl, rfl⟩ ⟨Nat.le_of_ble_eq_true rfl, Nat.le_of_ble_eq_true rfl⟩ rfl rfl (Nat.le_of_ble_eq_true rfl) dX10_product_79 ⟨Nat.le_of_ble_eq_true rfl, Nat.le_of_ble_eq_true rfl⟩ (fun H locs hP hS => ?_)
      refine va_mmin (ls := _) hx hb (hml.trans hl.1.symm) hown (htL _ mw_6_62) (htL _ mw_2_60) (htL _ mw_1_17) (htL _ mw_2_61) (Nat.le_of_ble_eq_true rfl) (Nat.le_of_ble_eq_true rfl) (Nat.le_of_ble_eq_true rfl) (Nat.le_of_ble_eq_true rfl) dX10_product_82 ?_
      obtain ⟨v16, h15, hf⟩ := b1_some hf
      refine hc_V (As := [.int (mnI ((mnI ((S0.1 1 (Int32.toNatClampNeg p0)) + (S0.1 2 (Int32.toNatClampNeg p1))) ((S0.1 1 (Int32.toNatClampNeg p1)) + (S0.1 2 (Int32.toNatClampNeg p0)))) - ((S0.1 1 (Int32.toNatClampNeg p0)) + (S0.1 1 (Int32.toNatClampNeg p1)))) v14)]) (rest := []) C hK (c_X10_power l D ct ad F hG (mnI ((mnI ((S0.1 1 (Int32.toNatClampNeg p0)) + (S0.1 2 (Int32.toNatClampNeg p1))) ((S0.1 1 (Int32.toNatClampNeg p1)) + (S0.1 2 (Int32.toNatClampNeg p0)))) - ((S0.1 1 (Int32.toNatClampNeg p0)) + (S0.1 1 (Int32.toNatClampNeg p1)))) v14) S0  v16 h15) hl.1 cp_X10_power mw_6_67 (rc_X10 hK hP) hP hS ⟨rfl, rfl⟩ ⟨Nat.le_of_ble_eq_true rfl, Nat.le_of_ble_eq_true rfl⟩ rfl rfl (Nat.le_of_ble_eq_true rfl) dX10_product_85 ⟨Nat.le_of_ble_eq_true rfl, Nat.le_of_ble_eq_true rfl⟩ (fun H locs hP hS => ?_)
      refine lv_lstore (lv' := [(5, .long v16), (4, .int ((S0.1 1 (Int32.toNatClampNeg p0)) + (S0.1 1 (Int32.toNatClampNeg p1)))), (3, .int (mnI ((S0.1 1 (Int32.toNatClampNeg p0)) + (S0.1 2 (Int32.toNatClampNeg p1))) ((S0.1 1 (Int32.toNatClampNeg p1)) + (S0.1 2 (Int32.toNatClampNeg p0))))), (0, .ref (ad 0)), (1, .int p0), (2, .int p1)]) hx hb dX10_product_88 hl (by decide) rfl (fun ls hl => ?_)
      refine lv_aload_n hx hb dX10_product_90 rfl (lv_at hl 3 rfl) ?_
      refine lv_aload_n hx hb dX10_product_91 rfl (lv_at hl 3 rfl) ?_
      refine gf_X10_7 C hK hP mw_5_169 dX10_product_92 ?_
      refine lv_iload_n hx hb dX10_product_95 rfl (lv_at hl 4 rfl) ?_
      obtain ⟨c17, hf⟩ := spn hf
      refine al_M8 C hK hP c17 dX10_product_96 ?_
      refine lv_lload hx hb dX10_product_97 (lv_at hl 0 rfl) ?_
      obtain ⟨c18, hf⟩ := spn hf
      refine lv_lrem hx hb dX10_product_99 c18 ?_
      refine lv_aload_n hx hb dX10_product_100 rfl (lv_at hl 3 rfl) ?_
      refine gf_X10_7 C hK hP mw_5_169 dX10_product_101 ?_
      refine lv_iload_n hx hb dX10_product_104 rfl (lv_at hl 5 rfl) ?_
      obtain ⟨c19, hf⟩ := spn hf
      refine al_M8 C hK hP c19 dX10_product_105 ?_
      refine lv_lload hx hb dX10_product_106 (lv_at hl 0 rfl) ?_
      obtain ⟨c20, hf⟩ := spn hf
      refine lv_lrem hx hb dX10_product_108 c20 ?_
      refine lv_lmul hx hb dX10_product_109 ?_
      refine lv_lload hx hb dX10_product_110 (lv_at hl 0 rfl) ?_
      obtain ⟨c21, hf⟩ := spn hf
      refine lv_lrem hx hb dX10_product_112 c21 ?_
      refine lv_iload hx hb dX10_product_113 (lv_at hl 1 rfl) ?_
      refine lv_iload_n hx hb dX10_product_115 rfl (lv_at hl 2 rfl) ?_
      obtain ⟨S23, h22, hf⟩ := b1_some hf
      refine hc_V (As := [.long (rL ((rL (S0.2 8 (Int32.toNatClampNeg p0)) v16) * (rL (S0.2 8 (Int32.toNatClampNeg p1)) v16)) v16), .int ((S0.1 1 (Int32.toNatClampNeg p0)) + (S0.1 1 (Int32.toNatClampNeg p1))), .int (mnI ((S0.1 1 (Int32.toNatClampNeg p0)) + (S0.1 2 (Int32.toNatClampNeg p1))) ((S0.1 1 (Int32.toNatClampNeg p1)) + (S0.1 2 (Int32.toNatClampNeg p0))))]) (rest := []) C hK (c_X10_lays l D ct ad F hG (rL ((rL (S0.2 8 (Int32.toNatClampNeg p0)) v16) * (rL (S0.2 8 (Int32.toNatClampNeg p1)) v16)) v16) ((S0.1 1 (Int32.toNatClampNeg p0)) + (S0.1 1 (Int32.toNatClampNeg p1))) (mnI ((S0.1 1 (Int32.toNatClampNeg p0)) + (S0.1 2 (Int32.toNatClampNeg p1))) ((S0.1 1 (Int32.toNatClampNeg p1)) + (S0.1 2 (Int32.toNatClampNeg p0)))) S0  S23 h22) hl.1 cp_X10_lays mw_6_85 (rc_X10 hK hP) hP hS ⟨rfl, rfl⟩ ⟨Nat.le_of_ble_eq_true rfl, Nat.le_of_ble_eq_true rfl⟩ rfl rfl (Nat.le_of_ble_eq_true rfl) dX10_product_116 ⟨Nat.le_of_ble_eq_true rfl, Nat.le_of_ble_eq_true rfl⟩ (fun H locs hP hS => ?_)
      cases hf
      subst hQ
      exact he_v C hP hS dX10_product_119
    · have hf := sp1 c12 hf
      exact w_67 (mnI ((S0.1 1 (Int32.toNatClampNeg p0)) + (S0.1 2 (Int32.toNatClampNeg p1))) ((S0.1 1 (Int32.toNatClampNeg p1)) + (S0.1 2 (Int32.toNatClampNeg p0)))) S0 _ _ _ (lv_sub hl [2, 1] rfl) hP hS hf
theorem cp_X10_product : CPv yX10_product cX10_product 7 none 2 := ⟨mw_6_92, mw_1_9, mw_6_91, ms_44, by decide +kernel⟩
def rm_X10_quotient : Room := { frames := 3, cells := 0, slots := 0, locals := 95 }
set_option maxHeartbeats 4000000 in
set_option maxRecDepth 100000 in
theorem c_X10_quotient (l : Launch) (D : va_G) (ct : Nat → ClassId) (ad : Nat → Nat) (F : Nat → Prop) (hG : Gd ad 18 F) (p0 : Int32) (p1 : Int32) (S0 : St)  (S' : St) (hf : f_X10_quotient p0 p1 S0 = some S') : MetH l yX10_quotient cX10_quotient 7 none rm_X10_quotient D (tysW ct) F [.ref (ad 0), .int p0, .int p1] none (cellsM ct ad S0) (cellsM ct ad S') := by
  refine MetH.of RX10 (by decide) rfl (Nat.le_of_ble_eq_true rfl) ?_
  intro p e s m args below meth c C hK hP ls hl
  have hl : lv_has ls 7 [(0, .ref (ad 0)), (1, .int p0), (2, .int p1)] := hl
  obtain ⟨hx, hb, hr, hml, hown, htL, hlocks⟩ := id C
  have hS : va_S F s.heap s.heap [] := va_S.rf
  generalize hQ : MQ below (Hq D (cellsM ct ad S') F none) args s 0 0 F = Q
  refine lv_aload_n hx hb dX10_quotient_0 rfl (lv_at hl 0 rfl) ?_
  refine gf_X10_1 C hK hP mw_5_163 dX10_quotient_1 ?_
  refine lv_iload_n hx hb dX10_quotient_4 rfl (lv_at hl 1 rfl) ?_
  obtain ⟨c1, hf⟩ := spn hf
  refine al_M2 C hK hP c1 dX10_quotient_5 ?_
  refine lv_aload_n hx hb dX10_quotient_6 rfl (lv_at hl 0 rfl) ?_
  refine gf_X10_0 C hK hP mw_5_162 dX10_quotient_7 ?_
  refine lv_iload_n hx hb dX10_quotient_10 rfl (lv_at hl 2 rfl) ?_
  obtain ⟨c2, hf⟩ := spn hf
  refine al_M1 C hK hP c2 dX10_quotient_11 ?_
  refine lv_isub hx hb dX10_quotient_12 ?_
  refine lv_aload_n hx hb dX10_quotient_13 rfl (lv_at hl 0 rfl) ?_
  refine gf_X10_0 C hK hP mw_5_162 dX10_quotient_14 ?_
  refine lv_iload_n hx hb dX10_quotient_17 rfl (lv_at hl 1 rfl) ?_
  obtain ⟨c3, hf⟩ := spn hf
  refine al_M1 C hK hP c3 dX10_quotient_18 ?_
  refine lv_aload_n hx hb dX10_quotient_19 rfl (lv_at hl 0 rfl) ?_
  refine gf_X10_1 C hK hP mw_5_163 dX10_quotient_20 ?_
  refine lv_iload_n hx hb dX10_quotient_23 rfl (lv_at hl 2 rfl) ?_
  obtain ⟨c4, hf⟩ := spn hf
  refine al_M2 C hK hP c4 dX10_quotient_24 ?_
  refine lv_iadd hx hb dX10_quotient_25 ?_
  refine lv_iconst (v := 2) hx hb dX10_quotient_26 (by decide) ?_
  refine lv_aload_n hx hb dX10_quotient_27 rfl (lv_at hl 0 rfl) ?_
  refine gf_X10_0 C hK hP mw_5_162 dX10_quotient_28 ?_
  refine lv_iload_n hx hb dX10_quotient_31 rfl (lv_at hl 2 rfl) ?_
  obtain ⟨c5, hf⟩ := spn hf
  refine al_M1 C hK hP c5 dX10_quotient_32 ?_
  refine lv_imul hx hb dX10_quotient_33 ?_
  refine lv_isub hx hb dX10_quotient_34 ?_
  refine va_mmin (ls := _) hx hb (hml.trans hl.1.symm) hown (htL _ mw_6_62) (htL _ mw_2_60) (htL _ mw_1_17) (htL _ mw_2_61) (Nat.le_of_ble_eq_true rfl) (Nat.le_of_ble_eq_true rfl) (Nat.le_of_ble_eq_true rfl) (Nat.le_of_ble_eq_true rfl) dX10_quotient_35 ?_
  refine lv_istore_n (lv' := [(3, .int (mnI ((S0.1 2 (Int32.toNatClampNeg p0)) - (S0.1 1 (Int32.toNatClampNeg p1))) (((S0.1 1 (Int32.toNatClampNeg p0)) + (S0.1 2 (Int32.toNatClampNeg p1))) - (2 * (S0.1 1 (Int32.toNatClampNeg p1)))))), (0, .ref (ad 0)), (1, .int p0), (2, .int p1)]) hx hb dX10_quotient_38 rfl hl (by decide) rfl (fun ls hl => ?_)
  refine lv_aload_n hx hb dX10_quotient_39 rfl (lv_at hl 1 rfl) ?_
  refine gf_X10_0 C hK hP mw_5_162 dX10_quotient_40 ?_
  refine lv_iload_n hx hb dX10_quotient_43 rfl (lv_at hl 2 rfl) ?_
  obtain ⟨c6, hf⟩ := spn hf
  refine al_M1 C hK hP c6 dX10_quotient_44 ?_
  refine lv_aload_n hx hb dX10_quotient_45 rfl (lv_at hl 1 rfl) ?_
  refine gf_X10_0 C hK hP mw_5_162 dX10_quotient_46 ?_
  refine lv_iload_n hx hb dX10_quotient_49 rfl (lv_at hl 3 rfl) ?_
  obtain ⟨c7, hf⟩ := spn hf
  refine al_M1 C hK hP c7 dX10_quotient_50 ?_
  refine lv_isub hx hb dX10_quotient_51 ?_
  refine lv_istore (lv' := [(4, .int ((S0.1 1 (Int32.toNatClampNeg p0)) - (S0.1 1 (Int32.toNatClampNeg p1)))), (3, .int (mnI ((S0.1 2 (Int32.toNatClampNeg p0)) - (S0.1 1 (Int32.toNatClampNeg p1))) (((S0.1 1 (Int32.toNatClampNeg p0)) + (S0.1 2 (Int32.toNatClampNeg p1))) - (2 * (S0.1 1 (Int32.toNatClampNeg p1)))))), (0, .ref (ad 0)), (1, .int p0), (2, .int p1)]) hx hb dX10_quotient_52 hl (by decide) rfl (fun ls hl => ?_)
  refine lv_aload_n hx hb dX10_quotient_54 rfl (lv_at hl 2 rfl) ?_
  refine gf_X10_7 C hK hP mw_5_169 dX10_quotient_55 ?_
  refine lv_iload_n hx hb dX10_quotient_58 rfl (lv_at hl 3 rfl) ?_
  obtain ⟨c8, hf⟩ := spn hf
  refine al_M8 C hK hP c8 dX10_quotient_59 ?_
  refine lv_lconst (v := 0) hx hb dX10_quotient_60 (by decide) ?_
  refine W.lcmp hx hb dX10_quotient_61 ?_
  refine lv_if_ne (tgt := 71) hx hb dX10_quotient_62 (by decide) (fun c9 => ?_) (fun c9 => ?_)
  · have hf := sp0 c9 hf
    refine lv_aload_n hx hb dX10_quotient_71 rfl (lv_at hl 2 rfl) ?_
    refine lv_iload_n hx hb dX10_quotient_72 rfl (lv_at hl 1 rfl) ?_
    refine lv_iload hx hb dX10_quotient_73 (lv_at hl 0 rfl) ?_
    refine lv_isub hx hb dX10_quotient_75 ?_
    obtain ⟨v11, h10, hf⟩ := b1_some hf
    refine hc_V (As := [.int ((mnI ((S0.1 2 (Int32.toNatClampNeg p0)) - (S0.1 1 (Int32.toNatClampNeg p1))) (((S0.1 1 (Int32.toNatClampNeg p0)) + (S0.1 2 (Int32.toNatClampNeg p1))) - (2 * (S0.1 1 (Int32.toNatClampNeg p1))))) - ((S0.1 1 (Int32.toNatClampNeg p0)) - (S0.1 1 (Int32.toNatClampNeg p1))))]) (rest := []) C hK (c_X10_power l D ct ad F hG ((mnI ((S0.1 2 (Int32.toNatClampNeg p0)) - (S0.1 1 (Int32.toNatClampNeg p1))) (((S0.1 1 (Int32.toNatClampNeg p0)) + (S0.1 2 (Int32.toNatClampNeg p1))) - (2 * (S0.1 1 (Int32.toNatClampNeg p1))))) - ((S0.1 1 (Int32.toNatClampNeg p0)) - (S0.1 1 (Int32.toNatClampNeg p1)))) S0  v11 h10) hl.1 cp_X10_power mw_6_67 (rc_X10 hK hP) hP hS ⟨rfl, rfl⟩ ⟨Nat.le_of_ble_eq_true rfl, Nat.le_of_ble_eq_true rfl⟩ rfl rfl (Nat.le_of_ble_eq_true rfl) dX10_quotient_76 ⟨Nat.le_of_ble_eq_true rfl, Nat.le_of_ble_eq_true rfl⟩ (fun H locs hP hS => ?_)
    refine lv_lstore (lv' := [(5, .long v11), (4, .int ((S0.1 1 (Int32.toNatClampNeg p0)) - (S0.1 1 (Int32.toNatClampNeg p1)))), (3, .int (mnI ((S0.1 2 (Int32.toNatClampNeg p0)) - (S0.1 1 (Int32.toNatClampNeg p1))) (((S0.1 1 (Int32.toNatClampNeg p0)) + (S0.1 2 (Int32.toNatClampNeg p1))) - (2 * (S0.1 1 (Int32.toNatClampNeg p1)))))), (0, .ref (ad 0)), (1, .int p0), (2, .int p1)]) hx hb dX10_quotient_79 hl (by decide) rfl (fun ls hl => ?_)
    refine lv_aload_n hx hb dX10_quotient_81 rfl (lv_at hl 3 rfl) ?_
    refine lv_aload_n hx hb dX10_quotient_82 rfl (lv_at hl 3 rfl) ?_
    refine gf_X10_7 C hK hP mw_5_169 dX10_quotient_83 ?_
    refine lv_iload_n hx hb dX10_quotient_86 rfl (lv_at hl 4 rfl) ?_
    obtain ⟨c12, hf⟩ := spn hf
    refine al_M8 C hK hP c12 dX10_quotient_87 ?_
    refine lv_lload hx hb dX10_quotient_88 (lv_at hl 0 rfl) ?_
    obtain ⟨c13, hf⟩ := spn hf
    refine lv_lrem hx hb dX10_quotient_90 c13 ?_
    refine lv_aload_n hx hb dX10_quotient_91 rfl (lv_at hl 3 rfl) ?_
    refine lv_aload_n hx hb dX10_quotient_92 rfl (lv_at hl 3 rfl) ?_
    refine gf_X10_7 C hK hP mw_5_169 dX10_quotient_93 ?_
    refine lv_iload_n hx hb dX10_quotient_96 rfl (lv_at hl 5 rfl) ?_
    obtain ⟨c14, hf⟩ := spn hf
    refine al_M8 C hK hP c14 dX10_quotient_97 ?_
    refine lv_lload hx hb dX10_quotient_98 (lv_at hl 0 rfl) ?_
    obtain ⟨c15, hf⟩ := spn hf
    refine lv_lrem hx hb dX10_quotient_100 c15 ?_
    refine lv_iload_n hx hb dX10_quotient_101 rfl (lv_at hl 2 rfl) ?_
    refine lv_iload hx hb dX10_quotient_102 (lv_at hl 1 rfl) ?_
    refine lv_isub hx hb dX10_quotient_104 ?_
    obtain ⟨v17, h16, hf⟩ := b1_some hf
    refine hc_V (As := [.long (rL (S0.2 8 (Int32.toNatClampNeg p1)) v11), .int ((mnI ((S0.1 2 (Int32.toNatClampNeg p0)) - (S0.1 1 (Int32.toNatClampNeg p1))) (((S0.1 1 (Int32.toNatClampNeg p0)) + (S0.1 2 (Int32.toNatClampNeg p1))) - (2 * (S0.1 1 (Int32.toNatClampNeg p1))))) - ((S0.1 1 (Int32.toNatClampNeg p0)) - (S0.1 1 (Int32.toNatClampNeg p1))))]) (rest := [.long (rL (S0.2 8 (Int32.toNatClampNeg p0)) v11), .ref (ad 0)]) C hK (c_X10_inverse l D ct ad F hG (rL (S0.2 8 (Int32.toNatClampNeg p1)) v11) ((mnI ((S0.1 2 (Int32.toNatClampNeg p0)) - (S0.1 1 (Int32.toNatClampNeg p1))) (((S0.1 1 (Int32.toNatClampNeg p0)) + (S0.1 2 (Int32.toNatClampNeg p1))) - (2 * (S0.1 1 (Int32.toNatClampNeg p1))))) - ((S0.1 1 (Int32.toNatClampNeg p0)) - (S0.1 1 (Int32.toNatClampNeg p1)))) S0  v17 h16) hl.1 cp_X10_inverse mw_6_74 (rc_X10 hK hP) hP hS ⟨rfl, rfl⟩ ⟨Nat.le_of_ble_eq_true rfl, Nat.le_of_ble_eq_true rfl⟩ rfl rfl (Nat.le_of_ble_eq_true rfl) dX10_quotient_105 ⟨Nat.le_of_ble_eq_true rfl, Nat.le_of_ble_eq_true rfl⟩ (fun H locs hP hS => ?_)
    refine lv_lmul hx hb dX10_quotient_108 ?_
    refine lv_lload hx hb dX10_quotient_109 (lv_at hl 0 rfl) ?_
    obtain ⟨c18, hf⟩ := spn hf
    refine lv_lrem hx hb dX10_quotient_111 c18 ?_
    refine lv_iload hx hb dX10_quotient_112 (lv_at hl 1 rfl) ?_
    refine lv_iload_n hx hb dX10_quotient_114 rfl (lv_at hl 2 rfl) ?_
    obtain ⟨S20, h19, hf⟩ := b1_some hf
    refine hc_V (As := [.long (rL ((rL (S0.2 8 (Int32.toNatClampNeg p0)) v11) * v17) v11), .int ((S0.1 1 (Int32.toNatClampNeg p0)) - (S0.1 1 (Int32.toNatClampNeg p1))), .int (mnI ((S0.1 2 (Int32.toNatClampNeg p0)) - (S0.1 1 (Int32.toNatClampNeg p1))) (((S0.1 1 (Int32.toNatClampNeg p0)) + (S0.1 2 (Int32.toNatClampNeg p1))) - (2 * (S0.1 1 (Int32.toNatClampNeg p1)))))]) (rest := []) C hK (c_X10_lays l D ct ad F hG (rL ((rL (S0.2 8 (Int32.toNatClampNeg p0)) v11) * v17) v11) ((S0.1 1 (Int32.toNatClampNeg p0)) - (S0.1 1 (Int32.toNatClampNeg p1))) (mnI ((S0.1 2 (Int32.toNatClampNeg p0)) - (S0.1 1 (Int32.toNatClampNeg p1))) (((S0.1 1 (Int32.toNatClampNeg p0)) + (S0.1 2 (Int32.toNatClampNeg p1))) - (2 * (S0.1 1 (Int32.toNatClampNeg p1))))) S0  S20 h19) hl.1 cp_X10_lays mw_6_85 (rc_X10 hK hP) hP hS ⟨rfl, rfl⟩ ⟨Nat.le_of_ble_eq_true rfl, Nat.le_of_ble_eq_true rfl⟩ rfl rfl (Nat.le_of_ble_eq_true rfl) dX10_quotient_115 ⟨Nat.le_of_ble_eq_true rfl, Nat.le_of_ble_eq_true rfl⟩ (fun H locs hP hS => ?_)
    cases hf
    subst hQ
    exact he_v C hP hS dX10_quotient_118
  · have hf := sp1 c9 hf
    refine lv_aload_n hx hb dX10_quotient_65 rfl (lv_at hl 2 rfl) ?_
    refine lv_iload_n hx hb dX10_quotient_66 rfl (lv_at hl 1 rfl) ?_
    obtain ⟨S22, h21, hf⟩ := b1_some hf
    refine hc_V (As := [.int (mnI ((S0.1 2 (Int32.toNatClampNeg p0)) - (S0.1 1 (Int32.toNatClampNeg p1))) (((S0.1 1 (Int32.toNatClampNeg p0)) + (S0.1 2 (Int32.toNatClampNeg p1))) - (2 * (S0.1 1 (Int32.toNatClampNeg p1)))))]) (rest := []) C hK (c_X10_nothing l D ct ad F hG (mnI ((S0.1 2 (Int32.toNatClampNeg p0)) - (S0.1 1 (Int32.toNatClampNeg p1))) (((S0.1 1 (Int32.toNatClampNeg p0)) + (S0.1 2 (Int32.toNatClampNeg p1))) - (2 * (S0.1 1 (Int32.toNatClampNeg p1))))) S0  S22 h21) hl.1 cp_X10_nothing mw_6_63 (rc_X10 hK hP) hP hS ⟨rfl, rfl⟩ ⟨Nat.le_of_ble_eq_true rfl, Nat.le_of_ble_eq_true rfl⟩ rfl rfl (Nat.le_of_ble_eq_true rfl) dX10_quotient_67 ⟨Nat.le_of_ble_eq_true rfl, Nat.le_of_ble_eq_true rfl⟩ (fun H locs hP hS => ?_)
    cases hf
    subst hQ
    exact he_v C hP hS dX10_quotient_70
theorem cp_X10_quotient : CPv yX10_quotient cX10_quotient 7 none 2 := ⟨mw_6_96, mw_1_9, mw_6_95, ms_45, by decide +kernel⟩
def rm_X10_rootOf : Room := { frames := 1, cells := 0, slots := 0, locals := 29 }
set_option maxHeartbeats 4000000 in
set_option maxRecDepth 100000 in
theorem c_X10_rootOf (l : Launch) (D : va_G) (ct : Nat → ClassId) (ad : Nat → Nat) (F : Nat → Prop) (hG : Gd ad 18 F) (p0 : Int64) (p1 : Int32) (S0 : St)  (r : Int64) (hf : f_X10_rootOf p0 p1 S0 = some r) : MetH l yX10_rootOf cX10_rootOf 11 (some .long) rm_X10_rootOf D (tysW ct) F [.ref (ad 0), .long p0, .int p1] (some (.long r)) (cellsM ct ad S0) (cellsM ct ad S0) := by
  refine MetH.of RX10 (by decide) rfl (Nat.le_of_ble_eq_true rfl) ?_
  intro p e s m args below meth c C hK hP ls hl
  have hl : lv_has ls 11 [(0, .ref (ad 0)), (1, .long p0), (3, .int p1)] := hl
  obtain ⟨hx, hb, hr, hml, hown, htL, hlocks⟩ := id C
  have hS : va_S F s.heap s.heap [] := va_S.rf
  generalize hQ : MQ below (Hq D (cellsM ct ad S0) F (some (.long r))) args s 0 0 F = Q
  have w_14 : ∀ (x1 : Int64) (x3 : Int32) (x4 : Int64) (x6 : Int32), ∀ (H : Heap) (locs : List Loc) (ls : Array Slot), lv_has ls 11 [(0, .ref (ad 0)), (1, .long x1), (3, .int x3), (4, .long x4), (6, .int x6)] → va_P D vwCl (cellsM ct ad S0) H → va_S F s.heap H locs → n_X10_rootOf_14 S0 x1 x3 x4 x6 = some r → W p l e rm_X10_rootOf s m args below meth c H locs 0 0 Q (F0 m 14 ls []) := by
    have aux : ∀ (n : Nat), ∀ (x1 : Int64) (x3 : Int32) (x4 : Int64) (x6 : Int32), ∀ (H : Heap) (locs : List Loc) (ls : Array Slot), lv_has ls 11 [(0, .ref (ad 0)), (1, .long x1), (3, .int x3), (4, .long x4), (6, .int x6)] → va_P D vwCl (cellsM ct ad S0) H → va_S F s.heap H locs → itr (fun (q : Int64 × Int32 × Int64 × Int32) k => s_X10_rootOf_14  (fun (x1 : Int64) (x3 : Int32) (x4 : Int64) (x6 : Int32) => k (x1, x3, x4, x6)) S0 q.1 q.2.1 q.2.2.1 q.2.2.2) n (x1, x3, x4, x6) = some r → W p l e rm_X10_rootOf s m args below meth c H locs 0 0 Q (F0 m 14 ls []) := by
      intro n
      induction n with
      | zero => intro x1 x3 x4 x6 H locs ls hl hP hS hf; exact (itr_z hf).elim
      | succ n ih =>
      intro x1 x3 x4 x6 H locs ls hl hP hS hf
      have hk_14 := ih
      have hf : s_X10_rootOf_14  (fun (x1 : Int64) (x3 : Int32) (x4 : Int64) (x6 : Int32) => itr (fun (q : Int64 × Int32 × Int64 × Int32) k => s_X10_rootOf_14  (fun (x1 : Int64) (x3 : Int32) (x4 : Int64) (x6 : Int32) => k (x1, x3, x4, x6)) S0 q.1 q.2.1 q.2.2.1 q.2.2.2) n (x1, x3, x4, x6)) S0 x1 x3 x4 x6 = some r := hf
      refine lv_iload hx hb dX10_rootOf_14 (lv_at hl 4 rfl) ?_
      refine lv_iconst (v := 2) hx hb dX10_rootOf_16 (by decide) ?_
      refine lv_iadd hx hb dX10_rootOf_17 ?_
      refine lv_iload_n hx hb dX10_rootOf_18 rfl (lv_at hl 2 rfl) ?_
      refine lv_icmp_gt (tgt := 66) hx hb dX10_rootOf_19 (by decide) (fun c1 => ?_) (fun c1 => ?_)
      · have hf := sp1 c1 hf
        refine lv_lload hx hb dX10_rootOf_66 (lv_at hl 3 rfl) ?_
        cases hf
        subst hQ
        exact he_l C hP hS dX10_rootOf_68
      · have hf := sp0 c1 hf
        refine lv_aload_n hx hb dX10_rootOf_22 rfl (lv_at hl 0 rfl) ?_
        refine lv_iload hx hb dX10_rootOf_23 (lv_at hl 4 rfl) ?_
        refine lv_iconst (v := 2) hx hb dX10_rootOf_25 (by decide) ?_
        refine lv_iadd hx hb dX10_rootOf_26 ?_
        obtain ⟨v3, h2, hf⟩ := b1_some hf
        refine hc_V (As := [.int (x6 + 2)]) (rest := []) C hK (c_X10_power l D ct ad F hG (x6 + 2) S0  v3 h2) hl.1 cp_X10_power mw_6_67 (rc_X10 hK hP) hP hS ⟨rfl, rfl⟩ ⟨Nat.le_of_ble_eq_true rfl, Nat.le_of_ble_eq_true rfl⟩ rfl rfl (Nat.le_of_ble_eq_true rfl) dX10_rootOf_27 ⟨Nat.le_of_ble_eq_true rfl, Nat.le_of_ble_eq_true rfl⟩ (fun H locs hP hS => ?_)
        refine lv_lstore (lv' := [(7, .long v3), (0, .ref (ad 0)), (1, .long x1), (3, .int x3), (4, .long x4), (6, .int x6)]) hx hb dX10_rootOf_30 hl (by decide) rfl (fun ls hl => ?_)
        refine lv_lload hx hb dX10_rootOf_32 (lv_at hl 4 rfl) ?_
        refine lv_lload hx hb dX10_rootOf_34 (lv_at hl 4 rfl) ?_
        refine lv_lmul hx hb dX10_rootOf_36 ?_
        refine lv_lload_n hx hb dX10_rootOf_37 rfl (lv_at hl 2 rfl) ?_
        refine lv_lsub hx hb dX10_rootOf_38 ?_
        refine lv_lload hx hb dX10_rootOf_39 (lv_at hl 0 rfl) ?_
        obtain ⟨v4, h5, hf⟩ := b1_some hf
        refine pc_S (As := [.long ((x4 * x4) - x1), .long v3]) (rest := []) C (c_X10_whole l ((x4 * x4) - x1) v3 v4 h5) hl.1 cp_X10_whole mw_6_71 ⟨rfl, rfl⟩ ⟨Nat.le_of_ble_eq_true rfl, Nat.le_of_ble_eq_true rfl⟩ rfl rfl (Nat.le_of_ble_eq_true rfl) dX10_rootOf_41 ⟨Nat.le_of_ble_eq_true rfl, Nat.le_of_ble_eq_true rfl⟩ ?_
        refine lv_lconst (v := 0) hx hb dX10_rootOf_44 (by decide) ?_
        refine W.lcmp hx hb dX10_rootOf_45 ?_
        refine lv_if_eq (tgt := 60) hx hb dX10_rootOf_46 (by decide) (fun c6 => ?_) (fun c6 => ?_)
        · have hf := sp1 c6 hf
          refine lv_iinc (v := (x6 + 1)) (lv' := [(6, .int (x6 + 1)), (7, .long v3), (0, .ref (ad 0)), (1, .long x1), (3, .int x3), (4, .long x4)]) hx hb dX10_rootOf_60 hl (k := 5) rfl rfl (by decide) rfl (fun ls hl => ?_)
          refine lv_goto (tgt := 14) hx hb dX10_rootOf_63 (by decide) ?_
          exact hk_14 x1 x3 x4 (x6 + 1) _ _ _ (lv_sub hl [2, 3, 4, 5, 0] rfl) hP hS hf
        · have hf := sp0 c6 hf
          refine lv_lload hx hb dX10_rootOf_49 (lv_at hl 4 rfl) ?_
          refine lv_aload_n hx hb dX10_rootOf_51 rfl (lv_at hl 1 rfl) ?_
          refine lv_iload hx hb dX10_rootOf_52 (lv_at hl 5 rfl) ?_
          obtain ⟨v8, h7, hf⟩ := b1_some hf
          refine hc_V (As := [.int x6]) (rest := [.long x4]) C hK (c_X10_power l D ct ad F hG x6 S0  v8 h7) hl.1 cp_X10_power mw_6_67 (rc_X10 hK hP) hP hS ⟨rfl, rfl⟩ ⟨Nat.le_of_ble_eq_true rfl, Nat.le_of_ble_eq_true rfl⟩ rfl rfl (Nat.le_of_ble_eq_true rfl) dX10_rootOf_54 ⟨Nat.le_of_ble_eq_true rfl, Nat.le_of_ble_eq_true rfl⟩ (fun H locs hP hS => ?_)
          refine lv_ladd hx hb dX10_rootOf_57 ?_
          refine lv_lstore (lv' := [(4, .long (x4 + v8)), (7, .long v3), (0, .ref (ad 0)), (1, .long x1), (3, .int x3), (6, .int x6)]) hx hb dX10_rootOf_58 hl (by decide) rfl (fun ls hl => ?_)
          refine lv_iinc (v := (x6 + 1)) (lv' := [(6, .int (x6 + 1)), (4, .long (x4 + v8)), (7, .long v3), (0, .ref (ad 0)), (1, .long x1), (3, .int x3)]) hx hb dX10_rootOf_60 hl (k := 5) rfl rfl (by decide) rfl (fun ls hl => ?_)
          refine lv_goto (tgt := 14) hx hb dX10_rootOf_63 (by decide) ?_
          exact hk_14 x1 x3 (x4 + v8) (x6 + 1) _ _ _ (lv_sub hl [3, 4, 5, 1, 0] rfl) hP hS hf
    exact aux FU
  have w_137 : ∀ (k_113 : Int64 → Int32 → Int64 → Int32 → Option Int64) (hk_113 : ∀ (x1 : Int64) (x3 : Int32) (x4 : Int64) (x6 : Int32), ∀ (H : Heap) (locs : List Loc) (ls : Array Slot), lv_has ls 11 [(0, .ref (ad 0)), (1, .long x1), (3, .int x3), (4, .long x4), (6, .int x6)] → va_P D vwCl (cellsM ct ad S0) H → va_S F s.heap H locs → k_113 x1 x3 x4 x6 = some r → W p l e rm_X10_rootOf s m args below meth c H locs 0 0 Q (F0 m 113 ls [])), ∀ (x1 : Int64) (x3 : Int32) (x4 : Int64) (x6 : Int32) (x7 : Int64) (x9 : Int64), ∀ (H : Heap) (locs : List Loc) (ls : Array Slot), lv_has ls 11 [(0, .ref (ad 0)), (1, .long x1), (3, .int x3), (4, .long x4), (6, .int x6), (7, .long x7), (9, .long x9)] → va_P D vwCl (cellsM ct ad S0) H → va_S F s.heap H locs → n_X10_rootOf_137 k_113 S0 x1 x3 x4 x6 x7 x9 = some r → W p l e rm_X10_rootOf s m args below meth c H locs 0 0 Q (F0 m 137 ls []) := by
    intro k_113 hk_113
    have aux : ∀ (n : Nat), ∀ (x1 : Int64) (x3 : Int32) (x4 : Int64) (x6 : Int32) (x7 : Int64) (x9 : Int64), ∀ (H : Heap) (locs : List Loc) (ls : Array Slot), lv_has ls 11 [(0, .ref (ad 0)), (1, .long x1), (3, .int x3), (4, .long x4), (6, .int x6), (7, .long x7), (9, .long x9)] → va_P D vwCl (cellsM ct ad S0) H → va_S F s.heap H locs → itr (fun (q : Int64 × Int32 × Int64 × Int32 × Int64 × Int64) k => s_X10_rootOf_137 k_113 (fun (x1 : Int64) (x3 : Int32) (x4 : Int64) (x6 : Int32) (x7 : Int64) (x9 : Int64) => k (x1, x3, x4, x6, x7, x9)) S0 q.1 q.2.1 q.2.2.1 q.2.2.2.1 q.2.2.2.2.1 q.2.2.2.2.2) n (x1, x3, x4, x6, x7, x9) = some r → W p l e rm_X10_rootOf s m args below meth c H locs 0 0 Q (F0 m 137 ls []) := by
      intro n
      induction n with
      | zero => intro x1 x3 x4 x6 x7 x9 H locs ls hl hP hS hf; exact (itr_z hf).elim
      | succ n ih =>
      intro x1 x3 x4 x6 x7 x9 H locs ls hl hP hS hf
      have hk_137 := ih
      have hf : s_X10_rootOf_137 k_113 (fun (x1 : Int64) (x3 : Int32) (x4 : Int64) (x6 : Int32) (x7 : Int64) (x9 : Int64) => itr (fun (q : Int64 × Int32 × Int64 × Int32 × Int64 × Int64) k => s_X10_rootOf_137 k_113 (fun (x1 : Int64) (x3 : Int32) (x4 : Int64) (x6 : Int32) (x7 : Int64) (x9 : Int64) => k (x1, x3, x4, x6, x7, x9)) S0 q.1 q.2.1 q.2.2.1 q.2.2.2.1 q.2.2.2.2.1 q.2.2.2.2.2) n (x1, x3, x4, x6, x7, x9)) S0 x1 x3 x4 x6 x7 x9 = some r := hf
      refine lv_lload hx hb dX10_rootOf_137 (lv_at hl 3 rfl) ?_
      refine lv_lload hx hb dX10_rootOf_139 (lv_at hl 3 rfl) ?_
      refine lv_lmul hx hb dX10_rootOf_141 ?_
      refine lv_lload_n hx hb dX10_rootOf_142 rfl (lv_at hl 1 rfl) ?_
      refine lv_lsub hx hb dX10_rootOf_143 ?_
      refine lv_lload hx hb dX10_rootOf_144 (lv_at hl 6 rfl) ?_
      obtain ⟨v9, h10, hf⟩ := b1_some hf
      refine pc_S (As := [.long ((x4 * x4) - x1), .long x9]) (rest := []) C (c_X10_whole l ((x4 * x4) - x1) x9 v9 h10) hl.1 cp_X10_whole mw_6_71 ⟨rfl, rfl⟩ ⟨Nat.le_of_ble_eq_true rfl, Nat.le_of_ble_eq_true rfl⟩ rfl rfl (Nat.le_of_ble_eq_true rfl) dX10_rootOf_146 ⟨Nat.le_of_ble_eq_true rfl, Nat.le_of_ble_eq_true rfl⟩ ?_
      refine lv_lconst (v := 0) hx hb dX10_rootOf_149 (by decide) ?_
      refine W.lcmp hx hb dX10_rootOf_150 ?_
      refine lv_if_eq (tgt := 164) hx hb dX10_rootOf_151 (by decide) (fun c11 => ?_) (fun c11 => ?_)
      · have hf := sp1 c11 hf
        refine lv_iinc (v := (x6 + 1)) (lv' := [(6, .int (x6 + 1)), (0, .ref (ad 0)), (1, .long x1), (3, .int x3), (4, .long x4), (7, .long x7), (9, .long x9)]) hx hb dX10_rootOf_164 hl (k := 4) rfl rfl (by decide) rfl (fun ls hl => ?_)
        refine lv_goto (tgt := 113) hx hb dX10_rootOf_167 (by decide) ?_
        exact hk_113 x1 x3 x4 (x6 + 1) _ _ _ (lv_sub hl [1, 2, 3, 4, 0] rfl) hP hS hf
      · have hf := sp0 c11 hf
        refine lv_lload hx hb dX10_rootOf_154 (lv_at hl 3 rfl) ?_
        refine lv_lload hx hb dX10_rootOf_156 (lv_at hl 5 rfl) ?_
        refine lv_ladd hx hb dX10_rootOf_158 ?_
        refine lv_lstore (lv' := [(4, .long (x4 + x7)), (0, .ref (ad 0)), (1, .long x1), (3, .int x3), (6, .int x6), (7, .long x7), (9, .long x9)]) hx hb dX10_rootOf_159 hl (by decide) rfl (fun ls hl => ?_)
        refine lv_goto (tgt := 137) hx hb dX10_rootOf_161 (by decide) ?_
        exact hk_137 x1 x3 (x4 + x7) x6 x7 x9 _ _ _ (lv_sub hl [1, 2, 3, 0, 4, 5, 6] rfl) hP hS hf
    exact aux FU
  have w_113 : ∀ (x1 : Int64) (x3 : Int32) (x4 : Int64) (x6 : Int32), ∀ (H : Heap) (locs : List Loc) (ls : Array Slot), lv_has ls 11 [(0, .ref (ad 0)), (1, .long x1), (3, .int x3), (4, .long x4), (6, .int x6)] → va_P D vwCl (cellsM ct ad S0) H → va_S F s.heap H locs → n_X10_rootOf_113 S0 x1 x3 x4 x6 = some r → W p l e rm_X10_rootOf s m args below meth c H locs 0 0 Q (F0 m 113 ls []) := by
    have aux : ∀ (n : Nat), ∀ (x1 : Int64) (x3 : Int32) (x4 : Int64) (x6 : Int32), ∀ (H : Heap) (locs : List Loc) (ls : Array Slot), lv_has ls 11 [(0, .ref (ad 0)), (1, .long x1), (3, .int x3), (4, .long x4), (6, .int x6)] → va_P D vwCl (cellsM ct ad S0) H → va_S F s.heap H locs → itr (fun (q : Int64 × Int32 × Int64 × Int32) k => s_X10_rootOf_113  (fun (x1 : Int64) (x3 : Int32) (x4 : Int64) (x6 : Int32) => k (x1, x3, x4, x6)) S0 q.1 q.2.1 q.2.2.1 q.2.2.2) n (x1, x3, x4, x6) = some r → W p l e rm_X10_rootOf s m args below meth c H locs 0 0 Q (F0 m 113 ls []) := by
      intro n
      induction n with
      | zero => intro x1 x3 x4 x6 H locs ls hl hP hS hf; exact (itr_z hf).elim
      | succ n ih =>
      intro x1 x3 x4 x6 H locs ls hl hP hS hf
      have hk_113 := ih
      have hf : s_X10_rootOf_113  (fun (x1 : Int64) (x3 : Int32) (x4 : Int64) (x6 : Int32) => itr (fun (q : Int64 × Int32 × Int64 × Int32) k => s_X10_rootOf_113  (fun (x1 : Int64) (x3 : Int32) (x4 : Int64) (x6 : Int32) => k (x1, x3, x4, x6)) S0 q.1 q.2.1 q.2.2.1 q.2.2.2) n (x1, x3, x4, x6)) S0 x1 x3 x4 x6 = some r := hf
      refine lv_iload hx hb dX10_rootOf_113 (lv_at hl 4 rfl) ?_
      refine lv_iload_n hx hb dX10_rootOf_115 rfl (lv_at hl 2 rfl) ?_
      refine lv_icmp_ge (tgt := 170) hx hb dX10_rootOf_116 (by decide) (fun c12 => ?_) (fun c12 => ?_)
      · have hf := sp1 c12 hf
        refine lv_lload hx hb dX10_rootOf_170 (lv_at hl 3 rfl) ?_
        cases hf
        subst hQ
        exact he_l C hP hS dX10_rootOf_172
      · have hf := sp0 c12 hf
        refine lv_aload_n hx hb dX10_rootOf_119 rfl (lv_at hl 0 rfl) ?_
        refine lv_iload hx hb dX10_rootOf_120 (lv_at hl 4 rfl) ?_
        obtain ⟨v14, h13, hf⟩ := b1_some hf
        refine hc_V (As := [.int x6]) (rest := []) C hK (c_X10_power l D ct ad F hG x6 S0  v14 h13) hl.1 cp_X10_power mw_6_67 (rc_X10 hK hP) hP hS ⟨rfl, rfl⟩ ⟨Nat.le_of_ble_eq_true rfl, Nat.le_of_ble_eq_true rfl⟩ rfl rfl (Nat.le_of_ble_eq_true rfl) dX10_rootOf_122 ⟨Nat.le_of_ble_eq_true rfl, Nat.le_of_ble_eq_true rfl⟩ (fun H locs hP hS => ?_)
        refine lv_lstore (lv' := [(7, .long v14), (0, .ref (ad 0)), (1, .long x1), (3, .int x3), (4, .long x4), (6, .int x6)]) hx hb dX10_rootOf_125 hl (by decide) rfl (fun ls hl => ?_)
        refine lv_aload_n hx hb dX10_rootOf_127 rfl (lv_at hl 1 rfl) ?_
        refine lv_iload hx hb dX10_rootOf_128 (lv_at hl 5 rfl) ?_
        refine lv_iconst (v := 1) hx hb dX10_rootOf_130 (by decide) ?_
        refine lv_iadd hx hb dX10_rootOf_131 ?_
        obtain ⟨v16, h15, hf⟩ := b1_some hf
        refine hc_V (As := [.int (x6 + 1)]) (rest := []) C hK (c_X10_power l D ct ad F hG (x6 + 1) S0  v16 h15) hl.1 cp_X10_power mw_6_67 (rc_X10 hK hP) hP hS ⟨rfl, rfl⟩ ⟨Nat.le_of_ble_eq_true rfl, Nat.le_of_ble_eq_true rfl⟩ rfl rfl (Nat.le_of_ble_eq_true rfl) dX10_rootOf_132 ⟨Nat.le_of_ble_eq_true rfl, Nat.le_of_ble_eq_true rfl⟩ (fun H locs hP hS => ?_)
        refine lv_lstore (lv' := [(9, .long v16), (7, .long v14), (0, .ref (ad 0)), (1, .long x1), (3, .int x3), (4, .long x4), (6, .int x6)]) hx hb dX10_rootOf_135 hl (by decide) rfl (fun ls hl => ?_)
        exact w_137 _ hk_113 x1 x3 x4 x6 v14 v16 _ _ _ (lv_sub hl [2, 3, 4, 5, 6, 1, 0] rfl) hP hS hf
    exact aux FU
  have w_72 : ∀ (x1 : Int64) (x3 : Int32) (x4 : Int64), ∀ (H : Heap) (locs : List Loc) (ls : Array Slot), lv_has ls 11 [(0, .ref (ad 0)), (1, .long x1), (3, .int x3), (4, .long x4)] → va_P D vwCl (cellsM ct ad S0) H → va_S F s.heap H locs → n_X10_rootOf_72 S0 x1 x3 x4 = some r → W p l e rm_X10_rootOf s m args below meth c H locs 0 0 Q (F0 m 72 ls []) := by
    have aux : ∀ (n : Nat), ∀ (x1 : Int64) (x3 : Int32) (x4 : Int64), ∀ (H : Heap) (locs : List Loc) (ls : Array Slot), lv_has ls 11 [(0, .ref (ad 0)), (1, .long x1), (3, .int x3), (4, .long x4)] → va_P D vwCl (cellsM ct ad S0) H → va_S F s.heap H locs → itr (fun (q : Int64 × Int32 × Int64) k => s_X10_rootOf_72  (fun (x1 : Int64) (x3 : Int32) (x4 : Int64) => k (x1, x3, x4)) S0 q.1 q.2.1 q.2.2) n (x1, x3, x4) = some r → W p l e rm_X10_rootOf s m args below meth c H locs 0 0 Q (F0 m 72 ls []) := by
      intro n
      induction n with
      | zero => intro x1 x3 x4 H locs ls hl hP hS hf; exact (itr_z hf).elim
      | succ n ih =>
      intro x1 x3 x4 H locs ls hl hP hS hf
      have hk_72 := ih
      have hf : s_X10_rootOf_72  (fun (x1 : Int64) (x3 : Int32) (x4 : Int64) => itr (fun (q : Int64 × Int32 × Int64) k => s_X10_rootOf_72  (fun (x1 : Int64) (x3 : Int32) (x4 : Int64) => k (x1, x3, x4)) S0 q.1 q.2.1 q.2.2) n (x1, x3, x4)) S0 x1 x3 x4 = some r := hf
      refine lv_lload hx hb dX10_rootOf_72 (lv_at hl 3 rfl) ?_
      refine lv_aload_n hx hb dX10_rootOf_74 rfl (lv_at hl 0 rfl) ?_
      refine gf_X10_18 C hK hP mw_5_180 dX10_rootOf_75 ?_
      refine lv_i2l hx hb dX10_rootOf_78 rfl ?_
      refine W.lcmp hx hb dX10_rootOf_79 ?_
      refine lv_if_ge (tgt := 110) hx hb dX10_rootOf_80 (by decide) (fun c17 => ?_) (fun c17 => ?_)
      · have hf := sp1 c17 hf
        refine lv_iconst (v := 1) hx hb dX10_rootOf_110 (by decide) ?_
        refine lv_istore (lv' := [(6, .int 1), (0, .ref (ad 0)), (1, .long x1), (3, .int x3), (4, .long x4)]) hx hb dX10_rootOf_111 hl (by decide) rfl (fun ls hl => ?_)
        exact w_113 x1 x3 x4 1 _ _ _ (lv_sub hl [1, 2, 3, 4, 0] rfl) hP hS hf
      · have hf := sp0 c17 hf
        refine lv_lload hx hb dX10_rootOf_83 (lv_at hl 3 rfl) ?_
        refine lv_lload hx hb dX10_rootOf_85 (lv_at hl 3 rfl) ?_
        refine lv_lmul hx hb dX10_rootOf_87 ?_
        refine lv_lload_n hx hb dX10_rootOf_88 rfl (lv_at hl 1 rfl) ?_
        refine lv_lsub hx hb dX10_rootOf_89 ?_
        refine lv_aload_n hx hb dX10_rootOf_90 rfl (lv_at hl 0 rfl) ?_
        refine gf_X10_18 C hK hP mw_5_180 dX10_rootOf_91 ?_
        refine lv_i2l hx hb dX10_rootOf_94 rfl ?_
        obtain ⟨c18, hf⟩ := spn hf
        refine lv_lrem hx hb dX10_rootOf_95 c18 ?_
        refine lv_lconst (v := 0) hx hb dX10_rootOf_96 (by decide) ?_
        refine W.lcmp hx hb dX10_rootOf_97 ?_
        refine lv_if_eq (tgt := 110) hx hb dX10_rootOf_98 (by decide) (fun c19 => ?_) (fun c19 => ?_)
        · have hf := sp1 c19 hf
          refine lv_iconst (v := 1) hx hb dX10_rootOf_110 (by decide) ?_
          refine lv_istore (lv' := [(6, .int 1), (0, .ref (ad 0)), (1, .long x1), (3, .int x3), (4, .long x4)]) hx hb dX10_rootOf_111 hl (by decide) rfl (fun ls hl => ?_)
          exact w_113 x1 x3 x4 1 _ _ _ (lv_sub hl [1, 2, 3, 4, 0] rfl) hP hS hf
        · have hf := sp0 c19 hf
          refine lv_lload hx hb dX10_rootOf_101 (lv_at hl 3 rfl) ?_
          refine lv_lconst (v := 1) hx hb dX10_rootOf_103 (by decide) ?_
          refine lv_ladd hx hb dX10_rootOf_104 ?_
          refine lv_lstore (lv' := [(4, .long (x4 + 1)), (0, .ref (ad 0)), (1, .long x1), (3, .int x3)]) hx hb dX10_rootOf_105 hl (by decide) rfl (fun ls hl => ?_)
          refine lv_goto (tgt := 72) hx hb dX10_rootOf_107 (by decide) ?_
          exact hk_72 x1 x3 (x4 + 1) _ _ _ (lv_sub hl [1, 2, 3, 0] rfl) hP hS hf
    exact aux FU
  refine lv_aload_n hx hb dX10_rootOf_0 rfl (lv_at hl 0 rfl) ?_
  refine gf_X10_18 C hK hP mw_5_180 dX10_rootOf_1 ?_
  refine lv_iconst (v := 2) hx hb dX10_rootOf_4 (by decide) ?_
  refine lv_icmp_ne (tgt := 69) hx hb dX10_rootOf_5 (by decide) (fun c20 => ?_) (fun c20 => ?_)
  · have hf := sp0 c20 hf
    refine lv_lconst (v := 1) hx hb dX10_rootOf_69 (by decide) ?_
    refine lv_lstore (lv' := [(4, .long 1), (0, .ref (ad 0)), (1, .long p0), (3, .int p1)]) hx hb dX10_rootOf_70 hl (by decide) rfl (fun ls hl => ?_)
    exact w_72 p0 p1 1 _ _ _ (lv_sub hl [1, 2, 3, 0] rfl) hP hS hf
  · have hf := sp1 c20 hf
    refine lv_lconst (v := 1) hx hb dX10_rootOf_8 (by decide) ?_
    refine lv_lstore (lv' := [(4, .long 1), (0, .ref (ad 0)), (1, .long p0), (3, .int p1)]) hx hb dX10_rootOf_9 hl (by decide) rfl (fun ls hl => ?_)
    refine lv_iconst (v := 2) hx hb dX10_rootOf_11 (by decide) ?_
    refine lv_istore (lv' := [(6, .int 2), (4, .long 1), (0, .ref (ad 0)), (1, .long p0), (3, .int p1)]) hx hb dX10_rootOf_12 hl (by decide) rfl (fun ls hl => ?_)
    exact w_14 p0 p1 1 2 _ _ _ (lv_sub hl [2, 3, 4, 1, 0] rfl) hP hS hf
theorem cp_X10_rootOf : CPv yX10_rootOf cX10_rootOf 11 (some .long) 2 := ⟨mw_6_104, mw_1_9, mw_6_103, ms_47, by decide +kernel⟩
def rm_X10_isSquare : Room := { frames := 2, cells := 0, slots := 0, locals := 64 }
set_option maxHeartbeats 4000000 in
set_option maxRecDepth 100000 in
theorem c_X10_isSquare (l : Launch) (D : va_G) (ct : Nat → ClassId) (ad : Nat → Nat) (F : Nat → Prop) (hG : Gd ad 18 F) (p0 : Int32) (S0 : St)  (r : Int32) (hf : f_X10_isSquare p0 S0 = some r) : MetH l yX10_isSquare cX10_isSquare 2 (some .boolean) rm_X10_isSquare D (tysW ct) F [.ref (ad 0), .int p0] (some (.int r)) (cellsM ct ad S0) (cellsM ct ad S0) := by
  refine MetH.of RX10 (by decide) rfl (Nat.le_of_ble_eq_true rfl) ?_
  intro p e s m args below meth c C hK hP ls hl
  have hl : lv_has ls 2 [(0, .ref (ad 0)), (1, .int p0)] := hl
  obtain ⟨hx, hb, hr, hml, hown, htL, hlocks⟩ := id C
  have hS : va_S F s.heap s.heap [] := va_S.rf
  generalize hQ : MQ below (Hq D (cellsM ct ad S0) F (some (.int r))) args s 0 0 F = Q
  refine lv_aload_n hx hb dX10_isSquare_0 rfl (lv_at hl 0 rfl) ?_
  refine gf_X10_7 C hK hP mw_5_169 dX10_isSquare_1 ?_
  refine lv_iload_n hx hb dX10_isSquare_4 rfl (lv_at hl 1 rfl) ?_
  obtain ⟨c1, hf⟩ := spn hf
  refine al_M8 C hK hP c1 dX10_isSquare_5 ?_
  refine lv_lconst (v := 0) hx hb dX10_isSquare_6 (by decide) ?_
  refine W.lcmp hx hb dX10_isSquare_7 ?_
  refine lv_if_eq (tgt := 22) hx hb dX10_isSquare_8 (by decide) (fun c2 => ?_) (fun c2 => ?_)
  · have hf := sp1 c2 hf
    refine lv_iconst (v := 0) hx hb dX10_isSquare_22 (by decide) ?_
    cases hf
    subst hQ
    exact he_z C (by decide) hP hS dX10_isSquare_23
  · have hf := sp0 c2 hf
    refine lv_aload_n hx hb dX10_isSquare_11 rfl (lv_at hl 0 rfl) ?_
    refine gf_X10_0 C hK hP mw_5_162 dX10_isSquare_12 ?_
    refine lv_iload_n hx hb dX10_isSquare_15 rfl (lv_at hl 1 rfl) ?_
    obtain ⟨c3, hf⟩ := spn hf
    refine al_M1 C hK hP c3 dX10_isSquare_16 ?_
    refine lv_iconst (v := 2) hx hb dX10_isSquare_17 (by decide) ?_
    refine lv_irem hx hb dX10_isSquare_18 (by decide) ?_
    refine lv_if_eq (tgt := 24) hx hb dX10_isSquare_19 (by decide) (fun c4 => ?_) (fun c4 => ?_)
    · have hf := sp1 c4 hf
      refine lv_aload_n hx hb dX10_isSquare_24 rfl (lv_at hl 0 rfl) ?_
      refine gf_X10_18 C hK hP mw_5_180 dX10_isSquare_25 ?_
      refine lv_iconst (v := 2) hx hb dX10_isSquare_28 (by decide) ?_
      refine lv_icmp_ne (tgt := 70) hx hb dX10_isSquare_29 (by decide) (fun c5 => ?_) (fun c5 => ?_)
      · have hf := sp0 c5 hf
        refine lv_aload_n hx hb dX10_isSquare_70 rfl (lv_at hl 0 rfl) ?_
        refine gf_X10_7 C hK hP mw_5_169 dX10_isSquare_71 ?_
        refine lv_iload_n hx hb dX10_isSquare_74 rfl (lv_at hl 1 rfl) ?_
        obtain ⟨c6, hf⟩ := spn hf
        refine al_M8 C hK hP c6 dX10_isSquare_75 ?_
        refine lv_aload_n hx hb dX10_isSquare_76 rfl (lv_at hl 0 rfl) ?_
        refine gf_X10_18 C hK hP mw_5_180 dX10_isSquare_77 ?_
        refine lv_iconst (v := 1) hx hb dX10_isSquare_80 (by decide) ?_
        refine lv_isub hx hb dX10_isSquare_81 ?_
        refine lv_iconst (v := 2) hx hb dX10_isSquare_82 (by decide) ?_
        refine lv_idiv hx hb dX10_isSquare_83 (by decide) ?_
        refine lv_i2l hx hb dX10_isSquare_84 rfl ?_
        refine lv_aload_n hx hb dX10_isSquare_85 rfl (lv_at hl 0 rfl) ?_
        refine gf_X10_18 C hK hP mw_5_180 dX10_isSquare_86 ?_
        refine lv_i2l hx hb dX10_isSquare_89 rfl ?_
        obtain ⟨v7, h8, hf⟩ := b1_some hf
        refine pc_S (As := [.long (S0.2 8 (Int32.toNatClampNeg p0)), .long (Int32.toInt64 (((S0.1 0 18) - 1) / 2)), .long (Int32.toInt64 (S0.1 0 18))]) (rest := []) C (c_X10_raised l (S0.2 8 (Int32.toNatClampNeg p0)) (Int32.toInt64 (((S0.1 0 18) - 1) / 2)) (Int32.toInt64 (S0.1 0 18)) v7 h8) hl.1 cp_X10_raised mw_6_78 ⟨rfl, rfl⟩ ⟨Nat.le_of_ble_eq_true rfl, Nat.le_of_ble_eq_true rfl⟩ rfl rfl (Nat.le_of_ble_eq_true rfl) dX10_isSquare_90 ⟨Nat.le_of_ble_eq_true rfl, Nat.le_of_ble_eq_true rfl⟩ ?_
        refine lv_lconst (v := 1) hx hb dX10_isSquare_93 (by decide) ?_
        refine W.lcmp hx hb dX10_isSquare_94 ?_
        refine lv_if_ne (tgt := 102) hx hb dX10_isSquare_95 (by decide) (fun c9 => ?_) (fun c9 => ?_)
        · have hf := sp0 c9 hf
          refine lv_iconst (v := 0) hx hb dX10_isSquare_102 (by decide) ?_
          cases hf
          subst hQ
          exact he_z C (by decide) hP hS dX10_isSquare_103
        · have hf := sp1 c9 hf
          refine lv_iconst (v := 1) hx hb dX10_isSquare_98 (by decide) ?_
          refine lv_goto (tgt := 103) hx hb dX10_isSquare_99 (by decide) ?_
          cases hf
          subst hQ
          exact he_z C (by decide) hP hS dX10_isSquare_103
      · have hf := sp1 c5 hf
        refine lv_aload_n hx hb dX10_isSquare_32 rfl (lv_at hl 0 rfl) ?_
        refine gf_X10_1 C hK hP mw_5_163 dX10_isSquare_33 ?_
        refine lv_iload_n hx hb dX10_isSquare_36 rfl (lv_at hl 1 rfl) ?_
        obtain ⟨c10, hf⟩ := spn hf
        refine al_M2 C hK hP c10 dX10_isSquare_37 ?_
        refine lv_aload_n hx hb dX10_isSquare_38 rfl (lv_at hl 0 rfl) ?_
        refine gf_X10_0 C hK hP mw_5_162 dX10_isSquare_39 ?_
        refine lv_iload_n hx hb dX10_isSquare_42 rfl (lv_at hl 1 rfl) ?_
        obtain ⟨c11, hf⟩ := spn hf
        refine al_M1 C hK hP c11 dX10_isSquare_43 ?_
        refine lv_isub hx hb dX10_isSquare_44 ?_
        refine lv_iconst (v := 3) hx hb dX10_isSquare_45 (by decide) ?_
        refine lv_icmp_lt (tgt := 68) hx hb dX10_isSquare_46 (by decide) (fun c12 => ?_) (fun c12 => ?_)
        · have hf := sp1 c12 hf
          refine lv_iconst (v := 0) hx hb dX10_isSquare_68 (by decide) ?_
          cases hf
          subst hQ
          exact he_z C (by decide) hP hS dX10_isSquare_69
        · have hf := sp0 c12 hf
          refine lv_aload_n hx hb dX10_isSquare_49 rfl (lv_at hl 0 rfl) ?_
          refine gf_X10_7 C hK hP mw_5_169 dX10_isSquare_50 ?_
          refine lv_iload_n hx hb dX10_isSquare_53 rfl (lv_at hl 1 rfl) ?_
          obtain ⟨c13, hf⟩ := spn hf
          refine al_M8 C hK hP c13 dX10_isSquare_54 ?_
          refine lv_ldc2 (v := 8) hx hb hown (htL _ mw_6_168) dX10_isSquare_55 ?_
          refine lv_lrem hx hb dX10_isSquare_58 (by decide) ?_
          refine lv_lconst (v := 1) hx hb dX10_isSquare_59 (by decide) ?_
          refine W.lcmp hx hb dX10_isSquare_60 ?_
          refine lv_if_ne (tgt := 68) hx hb dX10_isSquare_61 (by decide) (fun c14 => ?_) (fun c14 => ?_)
          · have hf := sp0 c14 hf
            refine lv_iconst (v := 0) hx hb dX10_isSquare_68 (by decide) ?_
            cases hf
            subst hQ
            exact he_z C (by decide) hP hS dX10_isSquare_69
          · have hf := sp1 c14 hf
            refine lv_iconst (v := 1) hx hb dX10_isSquare_64 (by decide) ?_
            refine lv_goto (tgt := 69) hx hb dX10_isSquare_65 (by decide) ?_
            cases hf
            subst hQ
            exact he_z C (by decide) hP hS dX10_isSquare_69
    · have hf := sp0 c4 hf
      refine lv_iconst (v := 0) hx hb dX10_isSquare_22 (by decide) ?_
      cases hf
      subst hQ
      exact he_z C (by decide) hP hS dX10_isSquare_23
theorem cp_X10_isSquare : CPv yX10_isSquare cX10_isSquare 2 (some .boolean) 1 := ⟨mw_6_167, mw_1_9, mw_6_166, ms_57, by decide +kernel⟩
def rm_X10_squareRoot : Room := { frames := 3, cells := 0, slots := 0, locals := 95 }
set_option maxHeartbeats 4000000 in
set_option maxRecDepth 100000 in
theorem c_X10_squareRoot (l : Launch) (D : va_G) (ct : Nat → ClassId) (ad : Nat → Nat) (F : Nat → Prop) (hG : Gd ad 18 F) (p0 : Int32) (p1 : Int32) (S0 : St)  (S' : St) (hf : f_X10_squareRoot p0 p1 S0 = some S') : MetH l yX10_squareRoot cX10_squareRoot 4 none rm_X10_squareRoot D (tysW ct) F [.ref (ad 0), .int p0, .int p1] none (cellsM ct ad S0) (cellsM ct ad S') := by
  refine MetH.of RX10 (by decide) rfl (Nat.le_of_ble_eq_true rfl) ?_
  intro p e s m args below meth c C hK hP ls hl
  have hl : lv_has ls 4 [(0, .ref (ad 0)), (1, .int p0), (2, .int p1)] := hl
  obtain ⟨hx, hb, hr, hml, hown, htL, hlocks⟩ := id C
  have hS : va_S F s.heap s.heap [] := va_S.rf
  generalize hQ : MQ below (Hq D (cellsM ct ad S') F none) args s 0 0 F = Q
  have w_15 : ∀ (x1 : Int32) (x2 : Int32) (y0 : Int32) (S : St), ∀ (H : Heap) (locs : List Loc) (ls : Array Slot), lv_has ls 4 [(0, .ref (ad 0)), (1, .int x1), (2, .int x2)] → va_P D vwCl (cellsM ct ad S) H → va_S F s.heap H locs → n_X10_squareRoot_15 x1 x2 y0 S = some S' → W p l e rm_X10_squareRoot s m args below meth c H locs 0 0 Q (F0 m 15 ls [.int y0]) := by
    intro  x1 x2 y0 S H locs ls hl hP hS hf
    refine lv_istore_n (lv' := [(3, .int y0), (0, .ref (ad 0)), (1, .int x1), (2, .int x2)]) hx hb dX10_squareRoot_15 rfl hl (by decide) rfl (fun ls hl => ?_)
    refine lv_aload_n hx hb dX10_squareRoot_16 rfl (lv_at hl 1 rfl) ?_
    refine lv_aload_n hx hb dX10_squareRoot_17 rfl (lv_at hl 1 rfl) ?_
    refine lv_aload_n hx hb dX10_squareRoot_18 rfl (lv_at hl 1 rfl) ?_
    refine gf_X10_7 C hK hP mw_5_169 dX10_squareRoot_19 ?_
    refine lv_iload_n hx hb dX10_squareRoot_22 rfl (lv_at hl 2 rfl) ?_
    obtain ⟨c1, hf⟩ := spn hf
    refine al_M8 C hK hP c1 dX10_squareRoot_23 ?_
    refine lv_iload_n hx hb dX10_squareRoot_24 rfl (lv_at hl 3 rfl) ?_
    obtain ⟨v3, h2, hf⟩ := b1_some hf
    refine hc_V (As := [.long (S.2 8 (Int32.toNatClampNeg x1)), .int x2]) (rest := [.ref (ad 0)]) C hK (c_X10_rootOf l D ct ad F hG (S.2 8 (Int32.toNatClampNeg x1)) x2 S  v3 h2) hl.1 cp_X10_rootOf mw_6_101 (rc_X10 hK hP) hP hS ⟨rfl, rfl⟩ ⟨Nat.le_of_ble_eq_true rfl, Nat.le_of_ble_eq_true rfl⟩ rfl rfl (Nat.le_of_ble_eq_true rfl) dX10_squareRoot_25 ⟨Nat.le_of_ble_eq_true rfl, Nat.le_of_ble_eq_true rfl⟩ (fun H locs hP hS => ?_)
    refine lv_aload_n hx hb dX10_squareRoot_28 rfl (lv_at hl 1 rfl) ?_
    refine lv_iload_n hx hb dX10_squareRoot_29 rfl (lv_at hl 0 rfl) ?_
    obtain ⟨v5, h4, hf⟩ := b1_some hf
    refine hc_V (As := [.int y0]) (rest := [.long v3, .ref (ad 0)]) C hK (c_X10_power l D ct ad F hG y0 S  v5 h4) hl.1 cp_X10_power mw_6_67 (rc_X10 hK hP) hP hS ⟨rfl, rfl⟩ ⟨Nat.le_of_ble_eq_true rfl, Nat.le_of_ble_eq_true rfl⟩ rfl rfl (Nat.le_of_ble_eq_true rfl) dX10_squareRoot_30 ⟨Nat.le_of_ble_eq_true rfl, Nat.le_of_ble_eq_true rfl⟩ (fun H locs hP hS => ?_)
    obtain ⟨v6, h7, hf⟩ := b1_some hf
    refine pc_S (As := [.long v3, .long v5]) (rest := [.ref (ad 0)]) C (c_X10_whole l v3 v5 v6 h7) hl.1 cp_X10_whole mw_6_71 ⟨rfl, rfl⟩ ⟨Nat.le_of_ble_eq_true rfl, Nat.le_of_ble_eq_true rfl⟩ rfl rfl (Nat.le_of_ble_eq_true rfl) dX10_squareRoot_33 ⟨Nat.le_of_ble_eq_true rfl, Nat.le_of_ble_eq_true rfl⟩ ?_
    refine lv_aload_n hx hb dX10_squareRoot_36 rfl (lv_at hl 1 rfl) ?_
    refine gf_X10_0 C hK hP mw_5_162 dX10_squareRoot_37 ?_
    refine lv_iload_n hx hb dX10_squareRoot_40 rfl (lv_at hl 2 rfl) ?_
    obtain ⟨c8, hf⟩ := spn hf
    refine al_M1 C hK hP c8 dX10_squareRoot_41 ?_
    refine lv_iconst (v := 2) hx hb dX10_squareRoot_42 (by decide) ?_
    refine lv_idiv hx hb dX10_squareRoot_43 (by decide) ?_
    refine lv_aload_n hx hb dX10_squareRoot_44 rfl (lv_at hl 1 rfl) ?_
    refine gf_X10_0 C hK hP mw_5_162 dX10_squareRoot_45 ?_
    refine lv_iload_n hx hb dX10_squareRoot_48 rfl (lv_at hl 2 rfl) ?_
    obtain ⟨c9, hf⟩ := spn hf
    refine al_M1 C hK hP c9 dX10_squareRoot_49 ?_
    refine lv_iconst (v := 2) hx hb dX10_squareRoot_50 (by decide) ?_
    refine lv_idiv hx hb dX10_squareRoot_51 (by decide) ?_
    refine lv_iload_n hx hb dX10_squareRoot_52 rfl (lv_at hl 0 rfl) ?_
    refine lv_iadd hx hb dX10_squareRoot_53 ?_
    obtain ⟨S11, h10, hf⟩ := b1_some hf
    refine hc_V (As := [.long v6, .int ((S.1 1 (Int32.toNatClampNeg x1)) / 2), .int (((S.1 1 (Int32.toNatClampNeg x1)) / 2) + y0)]) (rest := []) C hK (c_X10_lays l D ct ad F hG v6 ((S.1 1 (Int32.toNatClampNeg x1)) / 2) (((S.1 1 (Int32.toNatClampNeg x1)) / 2) + y0) S  S11 h10) hl.1 cp_X10_lays mw_6_85 (rc_X10 hK hP) hP hS ⟨rfl, rfl⟩ ⟨Nat.le_of_ble_eq_true rfl, Nat.le_of_ble_eq_true rfl⟩ rfl rfl (Nat.le_of_ble_eq_true rfl) dX10_squareRoot_54 ⟨Nat.le_of_ble_eq_true rfl, Nat.le_of_ble_eq_true rfl⟩ (fun H locs hP hS => ?_)
    cases hf
    subst hQ
    exact he_v C hP hS dX10_squareRoot_57
  refine lv_aload_n hx hb dX10_squareRoot_0 rfl (lv_at hl 0 rfl) ?_
  refine gf_X10_18 C hK hP mw_5_180 dX10_squareRoot_1 ?_
  refine lv_iconst (v := 2) hx hb dX10_squareRoot_4 (by decide) ?_
  refine lv_icmp_ne (tgt := 14) hx hb dX10_squareRoot_5 (by decide) (fun c12 => ?_) (fun c12 => ?_)
  · have hf := sp0 c12 hf
    refine lv_iload_n hx hb dX10_squareRoot_14 rfl (lv_at hl 2 rfl) ?_
    exact w_15 p0 p1 p1 S0 _ _ _ (lv_sub hl [0, 1, 2] rfl) hP hS hf
  · have hf := sp1 c12 hf
    refine lv_iload_n hx hb dX10_squareRoot_8 rfl (lv_at hl 2 rfl) ?_
    refine lv_iconst (v := 1) hx hb dX10_squareRoot_9 (by decide) ?_
    refine lv_isub hx hb dX10_squareRoot_10 ?_
    refine lv_goto (tgt := 15) hx hb dX10_squareRoot_11 (by decide) ?_
    exact w_15 p0 p1 (p1 - 1) S0 _ _ _ (lv_sub hl [0, 1, 2] rfl) hP hS hf
theorem cp_X10_squareRoot : CPv yX10_squareRoot cX10_squareRoot 4 none 2 := ⟨mw_6_100, mw_1_9, mw_6_99, ms_46, by decide +kernel⟩
def rm_X10_teich : Room := { frames := 3, cells := 0, slots := 0, locals := 95 }
set_option maxHeartbeats 4000000 in
set_option maxRecDepth 100000 in
theorem c_X10_teich (l : Launch) (D : va_G) (ct : Nat → ClassId) (ad : Nat → Nat) (F : Nat → Prop) (hG : Gd ad 18 F) (p0 : Int32) (S0 : St)  (S' : St) (hf : f_X10_teich p0 S0 = some S') : MetH l yX10_teich cX10_teich 7 none rm_X10_teich D (tysW ct) F [.ref (ad 0), .int p0] none (cellsM ct ad S0) (cellsM ct ad S') := by
  refine MetH.of RX10 (by decide) rfl (Nat.le_of_ble_eq_true rfl) ?_
  intro p e s m args below meth c C hK hP ls hl
  have hl : lv_has ls 7 [(0, .ref (ad 0)), (1, .int p0)] := hl
  obtain ⟨hx, hb, hr, hml, hown, htL, hlocks⟩ := id C
  have hS : va_S F s.heap s.heap [] := va_S.rf
  generalize hQ : MQ below (Hq D (cellsM ct ad S') F none) args s 0 0 F = Q
  have w_24 : ∀ (x1 : Int32) (x2 : Int64) (x4 : Int64) (x6 : Int32) (S : St), ∀ (H : Heap) (locs : List Loc) (ls : Array Slot), lv_has ls 7 [(0, .ref (ad 0)), (1, .int x1), (2, .long x2), (4, .long x4), (6, .int x6)] → va_P D vwCl (cellsM ct ad S) H → va_S F s.heap H locs → n_X10_teich_24 x1 x2 x4 x6 S = some S' → W p l e rm_X10_teich s m args below meth c H locs 0 0 Q (F0 m 24 ls []) := by
    have aux : ∀ (n : Nat), ∀ (x1 : Int32) (x2 : Int64) (x4 : Int64) (x6 : Int32) (S : St), ∀ (H : Heap) (locs : List Loc) (ls : Array Slot), lv_has ls 7 [(0, .ref (ad 0)), (1, .int x1), (2, .long x2), (4, .long x4), (6, .int x6)] → va_P D vwCl (cellsM ct ad S) H → va_S F s.heap H locs → itr (fun (q : Int32 × Int64 × Int64 × Int32 × St) k => s_X10_teich_24  (fun (x1 : Int32) (x2 : Int64) (x4 : Int64) (x6 : Int32) (S : St) => k (x1, x2, x4, x6, S)) q.1 q.2.1 q.2.2.1 q.2.2.2.1 q.2.2.2.2) n (x1, x2, x4, x6, S) = some S' → W p l e rm_X10_teich s m args below meth c H locs 0 0 Q (F0 m 24 ls []) := by
      intro n
      induction n with
      | zero => intro x1 x2 x4 x6 S H locs ls hl hP hS hf; exact (itr_z hf).elim
      | succ n ih =>
      intro x1 x2 x4 x6 S H locs ls hl hP hS hf
      have hk_24 := ih
      have hf : s_X10_teich_24  (fun (x1 : Int32) (x2 : Int64) (x4 : Int64) (x6 : Int32) (S : St) => itr (fun (q : Int32 × Int64 × Int64 × Int32 × St) k => s_X10_teich_24  (fun (x1 : Int32) (x2 : Int64) (x4 : Int64) (x6 : Int32) (S : St) => k (x1, x2, x4, x6, S)) q.1 q.2.1 q.2.2.1 q.2.2.2.1 q.2.2.2.2) n (x1, x2, x4, x6, S)) x1 x2 x4 x6 S = some S' := hf
      refine lv_iload hx hb dX10_teich_24 (lv_at hl 4 rfl) ?_
      refine lv_aload_n hx hb dX10_teich_26 rfl (lv_at hl 0 rfl) ?_
      refine gf_X10_1 C hK hP mw_5_163 dX10_teich_27 ?_
      refine lv_iload_n hx hb dX10_teich_30 rfl (lv_at hl 1 rfl) ?_
      obtain ⟨c1, hf⟩ := spn hf
      refine al_M2 C hK hP c1 dX10_teich_31 ?_
      refine lv_icmp_ge (tgt := 54) hx hb dX10_teich_32 (by decide) (fun c2 => ?_) (fun c2 => ?_)
      · have hf := sp1 c2 hf
        refine lv_aload_n hx hb dX10_teich_54 rfl (lv_at hl 0 rfl) ?_
        refine lv_lload hx hb dX10_teich_55 (lv_at hl 3 rfl) ?_
        refine lv_iconst (v := 0) hx hb dX10_teich_57 (by decide) ?_
        refine lv_aload_n hx hb dX10_teich_58 rfl (lv_at hl 0 rfl) ?_
        refine gf_X10_1 C hK hP mw_5_163 dX10_teich_59 ?_
        refine lv_iload_n hx hb dX10_teich_62 rfl (lv_at hl 1 rfl) ?_
        obtain ⟨c3, hf⟩ := spn hf
        refine al_M2 C hK hP c3 dX10_teich_63 ?_
        obtain ⟨S5, h4, hf⟩ := b1_some hf
        refine hc_V (As := [.long x4, .int 0, .int (S.1 2 (Int32.toNatClampNeg x1))]) (rest := []) C hK (c_X10_lays l D ct ad F hG x4 0 (S.1 2 (Int32.toNatClampNeg x1)) S  S5 h4) hl.1 cp_X10_lays mw_6_85 (rc_X10 hK hP) hP hS ⟨rfl, rfl⟩ ⟨Nat.le_of_ble_eq_true rfl, Nat.le_of_ble_eq_true rfl⟩ rfl rfl (Nat.le_of_ble_eq_true rfl) dX10_teich_64 ⟨Nat.le_of_ble_eq_true rfl, Nat.le_of_ble_eq_true rfl⟩ (fun H locs hP hS => ?_)
        cases hf
        subst hQ
        exact he_v C hP hS dX10_teich_67
      · have hf := sp0 c2 hf
        refine lv_lload hx hb dX10_teich_35 (lv_at hl 3 rfl) ?_
        refine lv_aload_n hx hb dX10_teich_37 rfl (lv_at hl 0 rfl) ?_
        refine gf_X10_18 C hK hP mw_5_180 dX10_teich_38 ?_
        refine lv_i2l hx hb dX10_teich_41 rfl ?_
        refine lv_lload_n hx hb dX10_teich_42 rfl (lv_at hl 2 rfl) ?_
        obtain ⟨v6, h7, hf⟩ := b1_some hf
        refine pc_S (As := [.long x4, .long (Int32.toInt64 (S.1 0 18)), .long x2]) (rest := []) C (c_X10_raised l x4 (Int32.toInt64 (S.1 0 18)) x2 v6 h7) hl.1 cp_X10_raised mw_6_78 ⟨rfl, rfl⟩ ⟨Nat.le_of_ble_eq_true rfl, Nat.le_of_ble_eq_true rfl⟩ rfl rfl (Nat.le_of_ble_eq_true rfl) dX10_teich_43 ⟨Nat.le_of_ble_eq_true rfl, Nat.le_of_ble_eq_true rfl⟩ ?_
        refine lv_lstore (lv' := [(4, .long v6), (0, .ref (ad 0)), (1, .int x1), (2, .long x2), (6, .int x6)]) hx hb dX10_teich_46 hl (by decide) rfl (fun ls hl => ?_)
        refine lv_iinc (v := (x6 + 1)) (lv' := [(6, .int (x6 + 1)), (4, .long v6), (0, .ref (ad 0)), (1, .int x1), (2, .long x2)]) hx hb dX10_teich_48 hl (k := 4) rfl rfl (by decide) rfl (fun ls hl => ?_)
        refine lv_goto (tgt := 24) hx hb dX10_teich_51 (by decide) ?_
        exact hk_24 x1 x2 v6 (x6 + 1) S _ _ _ (lv_sub hl [2, 3, 4, 1, 0] rfl) hP hS hf
    exact aux FU
  refine lv_aload_n hx hb dX10_teich_0 rfl (lv_at hl 0 rfl) ?_
  refine lv_aload_n hx hb dX10_teich_1 rfl (lv_at hl 0 rfl) ?_
  refine gf_X10_1 C hK hP mw_5_163 dX10_teich_2 ?_
  refine lv_iload_n hx hb dX10_teich_5 rfl (lv_at hl 1 rfl) ?_
  obtain ⟨c8, hf⟩ := spn hf
  refine al_M2 C hK hP c8 dX10_teich_6 ?_
  obtain ⟨v10, h9, hf⟩ := b1_some hf
  refine hc_V (As := [.int (S0.1 2 (Int32.toNatClampNeg p0))]) (rest := []) C hK (c_X10_power l D ct ad F hG (S0.1 2 (Int32.toNatClampNeg p0)) S0  v10 h9) hl.1 cp_X10_power mw_6_67 (rc_X10 hK hP) hP hS ⟨rfl, rfl⟩ ⟨Nat.le_of_ble_eq_true rfl, Nat.le_of_ble_eq_true rfl⟩ rfl rfl (Nat.le_of_ble_eq_true rfl) dX10_teich_7 ⟨Nat.le_of_ble_eq_true rfl, Nat.le_of_ble_eq_true rfl⟩ (fun H locs hP hS => ?_)
  refine lv_lstore_n (lv' := [(2, .long v10), (0, .ref (ad 0)), (1, .int p0)]) hx hb dX10_teich_10 rfl hl (by decide) rfl (fun ls hl => ?_)
  refine lv_aload_n hx hb dX10_teich_11 rfl (lv_at hl 1 rfl) ?_
  refine gf_X10_7 C hK hP mw_5_169 dX10_teich_12 ?_
  refine lv_iload_n hx hb dX10_teich_15 rfl (lv_at hl 2 rfl) ?_
  obtain ⟨c11, hf⟩ := spn hf
  refine al_M8 C hK hP c11 dX10_teich_16 ?_
  refine lv_lload_n hx hb dX10_teich_17 rfl (lv_at hl 0 rfl) ?_
  obtain ⟨c12, hf⟩ := spn hf
  refine lv_lrem hx hb dX10_teich_18 c12 ?_
  refine lv_lstore (lv' := [(4, .long (rL (S0.2 8 (Int32.toNatClampNeg p0)) v10)), (2, .long v10), (0, .ref (ad 0)), (1, .int p0)]) hx hb dX10_teich_19 hl (by decide) rfl (fun ls hl => ?_)
  refine lv_iconst (v := 0) hx hb dX10_teich_21 (by decide) ?_
  refine lv_istore (lv' := [(6, .int 0), (4, .long (rL (S0.2 8 (Int32.toNatClampNeg p0)) v10)), (2, .long v10), (0, .ref (ad 0)), (1, .int p0)]) hx hb dX10_teich_22 hl (by decide) rfl (fun ls hl => ?_)
  exact w_24 p0 v10 (rL (S0.2 8 (Int32.toNatClampNeg p0)) v10) 0 S0 _ _ _ (lv_sub hl [3, 4, 2, 1, 0] rfl) hP hS hf
theorem cp_X10_teich : CPv yX10_teich cX10_teich 7 none 1 := ⟨mw_6_108, mw_1_9, mw_6_107, ms_48, by decide +kernel⟩
def rm_X10_valueOf : Room := { frames := 1, cells := 0, slots := 0, locals := 29 }
set_option maxHeartbeats 4000000 in
set_option maxRecDepth 100000 in
theorem c_X10_valueOf (l : Launch) (D : va_G) (ct : Nat → ClassId) (ad : Nat → Nat) (F : Nat → Prop) (hG : Gd ad 18 F) (p0 : Int32) (p1 : Int64) (p2 : Int64) (p3 : Int32) (S0 : St)  (r : Int64) (hf : f_X10_valueOf p0 p1 p2 p3 S0 = some r) : MetH l yX10_valueOf cX10_valueOf 10 (some .long) rm_X10_valueOf D (tysW ct) F [.ref (ad 0), .int p0, .long p1, .long p2, .int p3] (some (.long r)) (cellsM ct ad S0) (cellsM ct ad S0) := by
  refine MetH.of RX10 (by decide) rfl (Nat.le_of_ble_eq_true rfl) ?_
  intro p e s m args below meth c C hK hP ls hl
  have hl : lv_has ls 10 [(0, .ref (ad 0)), (1, .int p0), (2, .long p1), (4, .long p2), (6, .int p3)] := hl
  obtain ⟨hx, hb, hr, hml, hown, htL, hlocks⟩ := id C
  have hS : va_S F s.heap s.heap [] := va_S.rf
  generalize hQ : MQ below (Hq D (cellsM ct ad S0) F (some (.long r))) args s 0 0 F = Q
  have w_58 : ∀ (k_7 : Int32 → Int64 → Int64 → Int32 → Int64 → Int32 → Option Int64) (hk_7 : ∀ (x1 : Int32) (x2 : Int64) (x4 : Int64) (x6 : Int32) (x7 : Int64) (x9 : Int32), ∀ (H : Heap) (locs : List Loc) (ls : Array Slot), lv_has ls 10 [(0, .ref (ad 0)), (1, .int x1), (2, .long x2), (4, .long x4), (6, .int x6), (7, .long x7), (9, .int x9)] → va_P D vwCl (cellsM ct ad S0) H → va_S F s.heap H locs → k_7 x1 x2 x4 x6 x7 x9 = some r → W p l e rm_X10_valueOf s m args below meth c H locs 0 0 Q (F0 m 7 ls [])), ∀ (x1 : Int32) (x2 : Int64) (x4 : Int64) (x6 : Int32) (x9 : Int32) (y0 : Int64) (y1 : Int64), ∀ (H : Heap) (locs : List Loc) (ls : Array Slot), lv_has ls 10 [(0, .ref (ad 0)), (1, .int x1), (2, .long x2), (4, .long x4), (6, .int x6), (9, .int x9)] → va_P D vwCl (cellsM ct ad S0) H → va_S F s.heap H locs → n_X10_valueOf_58 k_7 S0 x1 x2 x4 x6 x9 y0 y1 = some r → W p l e rm_X10_valueOf s m args below meth c H locs 0 0 Q (F0 m 58 ls [.long y1, .long y0]) := by
    intro k_7 hk_7 x1 x2 x4 x6 x9 y0 y1 H locs ls hl hP hS hf
    refine lv_ladd hx hb dX10_valueOf_58 ?_
    refine lv_lload hx hb dX10_valueOf_59 (lv_at hl 3 rfl) ?_
    obtain ⟨v1, h2, hf⟩ := b1_some hf
    refine pc_S (As := [.long (y0 + y1), .long x4]) (rest := []) C (c_X10_whole l (y0 + y1) x4 v1 h2) hl.1 cp_X10_whole mw_6_71 ⟨rfl, rfl⟩ ⟨Nat.le_of_ble_eq_true rfl, Nat.le_of_ble_eq_true rfl⟩ rfl rfl (Nat.le_of_ble_eq_true rfl) dX10_valueOf_61 ⟨Nat.le_of_ble_eq_true rfl, Nat.le_of_ble_eq_true rfl⟩ ?_
    refine lv_lstore (lv' := [(7, .long v1), (0, .ref (ad 0)), (1, .int x1), (2, .long x2), (4, .long x4), (6, .int x6), (9, .int x9)]) hx hb dX10_valueOf_64 hl (by decide) rfl (fun ls hl => ?_)
    refine lv_iinc (v := (x9 + (-1))) (lv' := [(9, .int (x9 + (-1))), (7, .long v1), (0, .ref (ad 0)), (1, .int x1), (2, .long x2), (4, .long x4), (6, .int x6)]) hx hb dX10_valueOf_66 hl (k := 6) rfl rfl (by decide) rfl (fun ls hl => ?_)
    refine lv_goto (tgt := 7) hx hb dX10_valueOf_69 (by decide) ?_
    exact hk_7 x1 x2 x4 x6 v1 (x9 + (-1)) _ _ _ (lv_sub hl [2, 3, 4, 5, 6, 1, 0] rfl) hP hS hf
  have w_19 : ∀ (k_7 : Int32 → Int64 → Int64 → Int32 → Int64 → Int32 → Option Int64) (hk_7 : ∀ (x1 : Int32) (x2 : Int64) (x4 : Int64) (x6 : Int32) (x7 : Int64) (x9 : Int32), ∀ (H : Heap) (locs : List Loc) (ls : Array Slot), lv_has ls 10 [(0, .ref (ad 0)), (1, .int x1), (2, .long x2), (4, .long x4), (6, .int x6), (7, .long x7), (9, .int x9)] → va_P D vwCl (cellsM ct ad S0) H → va_S F s.heap H locs → k_7 x1 x2 x4 x6 x7 x9 = some r → W p l e rm_X10_valueOf s m args below meth c H locs 0 0 Q (F0 m 7 ls [])), ∀ (x1 : Int32) (x2 : Int64) (x4 : Int64) (x6 : Int32) (x7 : Int64) (x9 : Int32) (y0 : Int32) (y1 : Int32), ∀ (H : Heap) (locs : List Loc) (ls : Array Slot), lv_has ls 10 [(0, .ref (ad 0)), (1, .int x1), (2, .long x2), (4, .long x4), (6, .int x6), (7, .long x7), (9, .int x9)] → va_P D vwCl (cellsM ct ad S0) H → va_S F s.heap H locs → n_X10_valueOf_19 k_7 S0 x1 x2 x4 x6 x7 x9 y0 y1 = some r → W p l e rm_X10_valueOf s m args below meth c H locs 0 0 Q (F0 m 19 ls [.int y1, .int y0]) := by
    intro k_7 hk_7 x1 x2 x4 x6 x7 x9 y0 y1 H locs ls hl hP hS hf
    refine lv_icmp_lt (tgt := 72) hx hb dX10_valueOf_19 (by decide) (fun c3 => ?_) (fun c3 => ?_)
    · have hf := sp1 c3 hf
      refine lv_lload hx hb dX10_valueOf_72 (lv_at hl 5 rfl) ?_
      cases hf
      subst hQ
      exact he_l C hP hS dX10_valueOf_74
    · have hf := sp0 c3 hf
      refine lv_lload hx hb dX10_valueOf_22 (lv_at hl 5 rfl) ?_
      refine lv_lload_n hx hb dX10_valueOf_24 rfl (lv_at hl 2 rfl) ?_
      refine lv_lmul hx hb dX10_valueOf_25 ?_
      refine lv_iload hx hb dX10_valueOf_26 (lv_at hl 4 rfl) ?_
      refine lv_if_eq (tgt := 48) hx hb dX10_valueOf_28 (by decide) (fun c4 => ?_) (fun c4 => ?_)
      · have hf := sp1 c4 hf
        refine lv_aload_n hx hb dX10_valueOf_48 rfl (lv_at hl 0 rfl) ?_
        refine gf_X10_10 C hK hP mw_5_172 dX10_valueOf_49 ?_
        refine lv_iload_n hx hb dX10_valueOf_52 rfl (lv_at hl 1 rfl) ?_
        refine lv_iload hx hb dX10_valueOf_53 (lv_at hl 6 rfl) ?_
        refine lv_iadd hx hb dX10_valueOf_55 ?_
        obtain ⟨c5, hf⟩ := spn hf
        refine al_M11 C hK hP c5 dX10_valueOf_56 ?_
        refine lv_i2l hx hb dX10_valueOf_57 rfl ?_
        exact w_58 _ hk_7 x1 x2 x4 x6 x9 (x7 * x2) (Int32.toInt64 (S0.1 11 (Int32.toNatClampNeg (x1 + x9)))) _ _ _ (lv_sub hl [0, 1, 2, 3, 4, 6] rfl) hP hS hf
      · have hf := sp0 c4 hf
        refine lv_iload hx hb dX10_valueOf_31 (lv_at hl 6 rfl) ?_
        refine lv_i2l hx hb dX10_valueOf_33 rfl ?_
        refine lv_aload_n hx hb dX10_valueOf_34 rfl (lv_at hl 0 rfl) ?_
        refine gf_X10_10 C hK hP mw_5_172 dX10_valueOf_35 ?_
        refine lv_iload_n hx hb dX10_valueOf_38 rfl (lv_at hl 1 rfl) ?_
        refine lv_iload hx hb dX10_valueOf_39 (lv_at hl 6 rfl) ?_
        refine lv_iadd hx hb dX10_valueOf_41 ?_
        obtain ⟨c6, hf⟩ := spn hf
        refine al_M11 C hK hP c6 dX10_valueOf_42 ?_
        refine lv_i2l hx hb dX10_valueOf_43 rfl ?_
        refine lv_lmul hx hb dX10_valueOf_44 ?_
        refine lv_goto (tgt := 58) hx hb dX10_valueOf_45 (by decide) ?_
        exact w_58 _ hk_7 x1 x2 x4 x6 x9 (x7 * x2) ((Int32.toInt64 x9) * (Int32.toInt64 (S0.1 11 (Int32.toNatClampNeg (x1 + x9))))) _ _ _ (lv_sub hl [0, 1, 2, 3, 4, 6] rfl) hP hS hf
  have w_7 : ∀ (x1 : Int32) (x2 : Int64) (x4 : Int64) (x6 : Int32) (x7 : Int64) (x9 : Int32), ∀ (H : Heap) (locs : List Loc) (ls : Array Slot), lv_has ls 10 [(0, .ref (ad 0)), (1, .int x1), (2, .long x2), (4, .long x4), (6, .int x6), (7, .long x7), (9, .int x9)] → va_P D vwCl (cellsM ct ad S0) H → va_S F s.heap H locs → n_X10_valueOf_7 S0 x1 x2 x4 x6 x7 x9 = some r → W p l e rm_X10_valueOf s m args below meth c H locs 0 0 Q (F0 m 7 ls []) := by
    have aux : ∀ (n : Nat), ∀ (x1 : Int32) (x2 : Int64) (x4 : Int64) (x6 : Int32) (x7 : Int64) (x9 : Int32), ∀ (H : Heap) (locs : List Loc) (ls : Array Slot), lv_has ls 10 [(0, .ref (ad 0)), (1, .int x1), (2, .long x2), (4, .long x4), (6, .int x6), (7, .long x7), (9, .int x9)] → va_P D vwCl (cellsM ct ad S0) H → va_S F s.heap H locs → itr (fun (q : Int32 × Int64 × Int64 × Int32 × Int64 × Int32) k => s_X10_valueOf_7  (fun (x1 : Int32) (x2 : Int64) (x4 : Int64) (x6 : Int32) (x7 : Int64) (x9 : Int32) => k (x1, x2, x4, x6, x7, x9)) S0 q.1 q.2.1 q.2.2.1 q.2.2.2.1 q.2.2.2.2.1 q.2.2.2.2.2) n (x1, x2, x4, x6, x7, x9) = some r → W p l e rm_X10_valueOf s m args below meth c H locs 0 0 Q (F0 m 7 ls []) := by
      intro n
      induction n with
      | zero => intro x1 x2 x4 x6 x7 x9 H locs ls hl hP hS hf; exact (itr_z hf).elim
      | succ n ih =>
      intro x1 x2 x4 x6 x7 x9 H locs ls hl hP hS hf
      have hk_7 := ih
      have hf : s_X10_valueOf_7  (fun (x1 : Int32) (x2 : Int64) (x4 : Int64) (x6 : Int32) (x7 : Int64) (x9 : Int32) => itr (fun (q : Int32 × Int64 × Int64 × Int32 × Int64 × Int32) k => s_X10_valueOf_7  (fun (x1 : Int32) (x2 : Int64) (x4 : Int64) (x6 : Int32) (x7 : Int64) (x9 : Int32) => k (x1, x2, x4, x6, x7, x9)) S0 q.1 q.2.1 q.2.2.1 q.2.2.2.1 q.2.2.2.2.1 q.2.2.2.2.2) n (x1, x2, x4, x6, x7, x9)) S0 x1 x2 x4 x6 x7 x9 = some r := hf
      refine lv_iload hx hb dX10_valueOf_7 (lv_at hl 6 rfl) ?_
      refine lv_iload hx hb dX10_valueOf_9 (lv_at hl 4 rfl) ?_
      refine lv_if_eq (tgt := 18) hx hb dX10_valueOf_11 (by decide) (fun c7 => ?_) (fun c7 => ?_)
      · have hf := sp1 c7 hf
        refine lv_iconst (v := 0) hx hb dX10_valueOf_18 (by decide) ?_
        exact w_19 _ hk_7 x1 x2 x4 x6 x7 x9 x9 0 _ _ _ (lv_sub hl [0, 1, 2, 3, 4, 5, 6] rfl) hP hS hf
      · have hf := sp0 c7 hf
        refine lv_iconst (v := 1) hx hb dX10_valueOf_14 (by decide) ?_
        refine lv_goto (tgt := 19) hx hb dX10_valueOf_15 (by decide) ?_
        exact w_19 _ hk_7 x1 x2 x4 x6 x7 x9 x9 1 _ _ _ (lv_sub hl [0, 1, 2, 3, 4, 5, 6] rfl) hP hS hf
    exact aux FU
  refine lv_lconst (v := 0) hx hb dX10_valueOf_0 (by decide) ?_
  refine lv_lstore (lv' := [(7, .long 0), (0, .ref (ad 0)), (1, .int p0), (2, .long p1), (4, .long p2), (6, .int p3)]) hx hb dX10_valueOf_1 hl (by decide) rfl (fun ls hl => ?_)
  refine lv_bipush (v := 6) hx hb dX10_valueOf_3 (by decide) ?_
  refine lv_istore (lv' := [(9, .int 6), (7, .long 0), (0, .ref (ad 0)), (1, .int p0), (2, .long p1), (4, .long p2), (6, .int p3)]) hx hb dX10_valueOf_5 hl (by decide) rfl (fun ls hl => ?_)
  exact w_7 p0 p1 p2 p3 0 6 _ _ _ (lv_sub hl [2, 3, 4, 5, 6, 1, 0] rfl) hP hS hf
theorem cp_X10_valueOf : CPv yX10_valueOf cX10_valueOf 10 (some .long) 4 := ⟨mw_6_116, mw_1_9, mw_6_115, ms_50, by decide +kernel⟩
def rm_X10_lifted : Room := { frames := 3, cells := 0, slots := 0, locals := 95 }
set_option maxHeartbeats 4000000 in
set_option maxRecDepth 100000 in
theorem c_X10_lifted (l : Launch) (D : va_G) (ct : Nat → ClassId) (ad : Nat → Nat) (F : Nat → Prop) (hG : Gd ad 18 F) (p0 : Int32) (S0 : St)  (S' : St) (hf : f_X10_lifted p0 S0 = some S') : MetH l yX10_lifted cX10_lifted 9 none rm_X10_lifted D (tysW ct) F [.ref (ad 0), .int p0] none (cellsM ct ad S0) (cellsM ct ad S') := by
  refine MetH.of RX10 (by decide) rfl (Nat.le_of_ble_eq_true rfl) ?_
  intro p e s m args below meth c C hK hP ls hl
  have hl : lv_has ls 9 [(0, .ref (ad 0)), (1, .int p0)] := hl
  obtain ⟨hx, hb, hr, hml, hown, htL, hlocks⟩ := id C
  have hS : va_S F s.heap s.heap [] := va_S.rf
  generalize hQ : MQ below (Hq D (cellsM ct ad S') F none) args s 0 0 F = Q
  have w_40 : ∀ (k_11 : Int32 → Int64 → Int32 → St → Option St) (hk_11 : ∀ (x1 : Int32) (x2 : Int64) (x4 : Int32) (S : St), ∀ (H : Heap) (locs : List Loc) (ls : Array Slot), lv_has ls 9 [(0, .ref (ad 0)), (1, .int x1), (2, .long x2), (4, .int x4)] → va_P D vwCl (cellsM ct ad S) H → va_S F s.heap H locs → k_11 x1 x2 x4 S = some S' → W p l e rm_X10_lifted s m args below meth c H locs 0 0 Q (F0 m 11 ls [])), ∀ (x1 : Int32) (x2 : Int64) (x4 : Int32) (x5 : Int64) (x7 : Int64) (S : St), ∀ (H : Heap) (locs : List Loc) (ls : Array Slot), lv_has ls 9 [(0, .ref (ad 0)), (1, .int x1), (2, .long x2), (4, .int x4), (5, .long x5), (7, .long x7)] → va_P D vwCl (cellsM ct ad S) H → va_S F s.heap H locs → n_X10_lifted_40 k_11 x1 x2 x4 x5 x7 S = some S' → W p l e rm_X10_lifted s m args below meth c H locs 0 0 Q (F0 m 40 ls []) := by
    intro k_11 hk_11
    have aux : ∀ (n : Nat), ∀ (x1 : Int32) (x2 : Int64) (x4 : Int32) (x5 : Int64) (x7 : Int64) (S : St), ∀ (H : Heap) (locs : List Loc) (ls : Array Slot), lv_has ls 9 [(0, .ref (ad 0)), (1, .int x1), (2, .long x2), (4, .int x4), (5, .long x5), (7, .long x7)] → va_P D vwCl (cellsM ct ad S) H → va_S F s.heap H locs → itr (fun (q : Int32 × Int64 × Int32 × Int64 × Int64 × St) k => s_X10_lifted_40 k_11 (fun (x1 : Int32) (x2 : Int64) (x4 : Int32) (x5 : Int64) (x7 : Int64) (S : St) => k (x1, x2, x4, x5, x7, S)) q.1 q.2.1 q.2.2.1 q.2.2.2.1 q.2.2.2.2.1 q.2.2.2.2.2) n (x1, x2, x4, x5, x7, S) = some S' → W p l e rm_X10_lifted s m args below meth c H locs 0 0 Q (F0 m 40 ls []) := by
      intro n
      induction n with
      | zero => intro x1 x2 x4 x5 x7 S H locs ls hl hP hS hf; exact (itr_z hf).elim
      | succ n ih =>
      intro x1 x2 x4 x5 x7 S H locs ls hl hP hS hf
      have hk_40 := ih
      have hf : s_X10_lifted_40 k_11 (fun (x1 : Int32) (x2 : Int64) (x4 : Int32) (x5 : Int64) (x7 : Int64) (S : St) => itr (fun (q : Int32 × Int64 × Int32 × Int64 × Int64 × St) k => s_X10_lifted_40 k_11 (fun (x1 : Int32) (x2 : Int64) (x4 : Int32) (x5 : Int64) (x7 : Int64) (S : St) => k (x1, x2, x4, x5, x7, S)) q.1 q.2.1 q.2.2.1 q.2.2.2.1 q.2.2.2.2.1 q.2.2.2.2.2) n (x1, x2, x4, x5, x7, S)) x1 x2 x4 x5 x7 S = some S' := hf
      refine lv_aload_n hx hb dX10_lifted_40 rfl (lv_at hl 0 rfl) ?_
      refine lv_bipush (v := 7) hx hb dX10_lifted_41 (by decide) ?_
      refine lv_iload_n hx hb dX10_lifted_43 rfl (lv_at hl 1 rfl) ?_
      refine lv_imul hx hb dX10_lifted_44 ?_
      refine lv_lload_n hx hb dX10_lifted_45 rfl (lv_at hl 2 rfl) ?_
      refine lv_lload hx hb dX10_lifted_46 (lv_at hl 5 rfl) ?_
      obtain ⟨c1, hf⟩ := spn hf
      refine lv_lrem hx hb dX10_lifted_48 c1 ?_
      refine lv_lload hx hb dX10_lifted_49 (lv_at hl 5 rfl) ?_
      refine lv_iconst (v := 0) hx hb dX10_lifted_51 (by decide) ?_
      obtain ⟨v3, h2, hf⟩ := b1_some hf
      refine hc_V (As := [.int (7 * x1), .long (rL x2 x7), .long x7, .int 0]) (rest := []) C hK (c_X10_valueOf l D ct ad F hG (7 * x1) (rL x2 x7) x7 0 S  v3 h2) hl.1 cp_X10_valueOf mw_6_113 (rc_X10 hK hP) hP hS ⟨rfl, rfl⟩ ⟨Nat.le_of_ble_eq_true rfl, Nat.le_of_ble_eq_true rfl⟩ rfl rfl (Nat.le_of_ble_eq_true rfl) dX10_lifted_52 ⟨Nat.le_of_ble_eq_true rfl, Nat.le_of_ble_eq_true rfl⟩ (fun H locs hP hS => ?_)
      refine lv_lconst (v := 0) hx hb dX10_lifted_55 (by decide) ?_
      refine W.lcmp hx hb dX10_lifted_56 ?_
      refine lv_if_eq (tgt := 68) hx hb dX10_lifted_57 (by decide) (fun c4 => ?_) (fun c4 => ?_)
      · have hf := sp1 c4 hf
        refine lv_iinc (v := (x4 + 1)) (lv' := [(4, .int (x4 + 1)), (0, .ref (ad 0)), (1, .int x1), (2, .long x2), (5, .long x5), (7, .long x7)]) hx hb dX10_lifted_68 hl (k := 3) rfl rfl (by decide) rfl (fun ls hl => ?_)
        refine lv_goto (tgt := 11) hx hb dX10_lifted_71 (by decide) ?_
        exact hk_11 x1 x2 (x4 + 1) S _ _ _ (lv_sub hl [1, 2, 3, 0] rfl) hP hS hf
      · have hf := sp0 c4 hf
        refine lv_lload_n hx hb dX10_lifted_60 rfl (lv_at hl 2 rfl) ?_
        refine lv_lload hx hb dX10_lifted_61 (lv_at hl 4 rfl) ?_
        refine lv_ladd hx hb dX10_lifted_63 ?_
        refine lv_lstore_n (lv' := [(2, .long (x2 + x5)), (0, .ref (ad 0)), (1, .int x1), (4, .int x4), (5, .long x5), (7, .long x7)]) hx hb dX10_lifted_64 rfl hl (by decide) rfl (fun ls hl => ?_)
        refine lv_goto (tgt := 40) hx hb dX10_lifted_65 (by decide) ?_
        exact hk_40 x1 (x2 + x5) x4 x5 x7 S _ _ _ (lv_sub hl [1, 2, 0, 3, 4, 5] rfl) hP hS hf
    exact aux FU
  have w_11 : ∀ (x1 : Int32) (x2 : Int64) (x4 : Int32) (S : St), ∀ (H : Heap) (locs : List Loc) (ls : Array Slot), lv_has ls 9 [(0, .ref (ad 0)), (1, .int x1), (2, .long x2), (4, .int x4)] → va_P D vwCl (cellsM ct ad S) H → va_S F s.heap H locs → n_X10_lifted_11 x1 x2 x4 S = some S' → W p l e rm_X10_lifted s m args below meth c H locs 0 0 Q (F0 m 11 ls []) := by
    have aux : ∀ (n : Nat), ∀ (x1 : Int32) (x2 : Int64) (x4 : Int32) (S : St), ∀ (H : Heap) (locs : List Loc) (ls : Array Slot), lv_has ls 9 [(0, .ref (ad 0)), (1, .int x1), (2, .long x2), (4, .int x4)] → va_P D vwCl (cellsM ct ad S) H → va_S F s.heap H locs → itr (fun (q : Int32 × Int64 × Int32 × St) k => s_X10_lifted_11  (fun (x1 : Int32) (x2 : Int64) (x4 : Int32) (S : St) => k (x1, x2, x4, S)) q.1 q.2.1 q.2.2.1 q.2.2.2) n (x1, x2, x4, S) = some S' → W p l e rm_X10_lifted s m args below meth c H locs 0 0 Q (F0 m 11 ls []) := by
      intro n
      induction n with
      | zero => intro x1 x2 x4 S H locs ls hl hP hS hf; exact (itr_z hf).elim
      | succ n ih =>
      intro x1 x2 x4 S H locs ls hl hP hS hf
      have hk_11 := ih
      have hf : s_X10_lifted_11  (fun (x1 : Int32) (x2 : Int64) (x4 : Int32) (S : St) => itr (fun (q : Int32 × Int64 × Int32 × St) k => s_X10_lifted_11  (fun (x1 : Int32) (x2 : Int64) (x4 : Int32) (S : St) => k (x1, x2, x4, S)) q.1 q.2.1 q.2.2.1 q.2.2.2) n (x1, x2, x4, S)) x1 x2 x4 S = some S' := hf
      refine lv_iload hx hb dX10_lifted_11 (lv_at hl 3 rfl) ?_
      refine lv_aload_n hx hb dX10_lifted_13 rfl (lv_at hl 0 rfl) ?_
      refine gf_X10_5 C hK hP mw_5_167 dX10_lifted_14 ?_
      refine lv_iload_n hx hb dX10_lifted_17 rfl (lv_at hl 1 rfl) ?_
      obtain ⟨c5, hf⟩ := spn hf
      refine al_M6 C hK hP c5 dX10_lifted_18 ?_
      refine lv_icmp_ge (tgt := 74) hx hb dX10_lifted_19 (by decide) (fun c6 => ?_) (fun c6 => ?_)
      · have hf := sp1 c6 hf
        refine lv_aload_n hx hb dX10_lifted_74 rfl (lv_at hl 0 rfl) ?_
        refine lv_lload_n hx hb dX10_lifted_75 rfl (lv_at hl 2 rfl) ?_
        refine lv_iconst (v := 0) hx hb dX10_lifted_76 (by decide) ?_
        refine lv_aload_n hx hb dX10_lifted_77 rfl (lv_at hl 0 rfl) ?_
        refine gf_X10_5 C hK hP mw_5_167 dX10_lifted_78 ?_
        refine lv_iload_n hx hb dX10_lifted_81 rfl (lv_at hl 1 rfl) ?_
        obtain ⟨c7, hf⟩ := spn hf
        refine al_M6 C hK hP c7 dX10_lifted_82 ?_
        obtain ⟨S9, h8, hf⟩ := b1_some hf
        refine hc_V (As := [.long x2, .int 0, .int (S.1 6 (Int32.toNatClampNeg x1))]) (rest := []) C hK (c_X10_lays l D ct ad F hG x2 0 (S.1 6 (Int32.toNatClampNeg x1)) S  S9 h8) hl.1 cp_X10_lays mw_6_85 (rc_X10 hK hP) hP hS ⟨rfl, rfl⟩ ⟨Nat.le_of_ble_eq_true rfl, Nat.le_of_ble_eq_true rfl⟩ rfl rfl (Nat.le_of_ble_eq_true rfl) dX10_lifted_83 ⟨Nat.le_of_ble_eq_true rfl, Nat.le_of_ble_eq_true rfl⟩ (fun H locs hP hS => ?_)
        cases hf
        subst hQ
        exact he_v C hP hS dX10_lifted_86
      · have hf := sp0 c6 hf
        refine lv_aload_n hx hb dX10_lifted_22 rfl (lv_at hl 0 rfl) ?_
        refine lv_iload hx hb dX10_lifted_23 (lv_at hl 3 rfl) ?_
        obtain ⟨v11, h10, hf⟩ := b1_some hf
        refine hc_V (As := [.int x4]) (rest := []) C hK (c_X10_power l D ct ad F hG x4 S  v11 h10) hl.1 cp_X10_power mw_6_67 (rc_X10 hK hP) hP hS ⟨rfl, rfl⟩ ⟨Nat.le_of_ble_eq_true rfl, Nat.le_of_ble_eq_true rfl⟩ rfl rfl (Nat.le_of_ble_eq_true rfl) dX10_lifted_25 ⟨Nat.le_of_ble_eq_true rfl, Nat.le_of_ble_eq_true rfl⟩ (fun H locs hP hS => ?_)
        refine lv_lstore (lv' := [(5, .long v11), (0, .ref (ad 0)), (1, .int x1), (2, .long x2), (4, .int x4)]) hx hb dX10_lifted_28 hl (by decide) rfl (fun ls hl => ?_)
        refine lv_aload_n hx hb dX10_lifted_30 rfl (lv_at hl 1 rfl) ?_
        refine lv_iload hx hb dX10_lifted_31 (lv_at hl 4 rfl) ?_
        refine lv_iconst (v := 1) hx hb dX10_lifted_33 (by decide) ?_
        refine lv_iadd hx hb dX10_lifted_34 ?_
        obtain ⟨v13, h12, hf⟩ := b1_some hf
        refine hc_V (As := [.int (x4 + 1)]) (rest := []) C hK (c_X10_power l D ct ad F hG (x4 + 1) S  v13 h12) hl.1 cp_X10_power mw_6_67 (rc_X10 hK hP) hP hS ⟨rfl, rfl⟩ ⟨Nat.le_of_ble_eq_true rfl, Nat.le_of_ble_eq_true rfl⟩ rfl rfl (Nat.le_of_ble_eq_true rfl) dX10_lifted_35 ⟨Nat.le_of_ble_eq_true rfl, Nat.le_of_ble_eq_true rfl⟩ (fun H locs hP hS => ?_)
        refine lv_lstore (lv' := [(7, .long v13), (5, .long v11), (0, .ref (ad 0)), (1, .int x1), (2, .long x2), (4, .int x4)]) hx hb dX10_lifted_38 hl (by decide) rfl (fun ls hl => ?_)
        exact w_40 _ hk_11 x1 x2 x4 v11 v13 S _ _ _ (lv_sub hl [2, 3, 4, 5, 1, 0] rfl) hP hS hf
    exact aux FU
  refine lv_aload_n hx hb dX10_lifted_0 rfl (lv_at hl 0 rfl) ?_
  refine gf_X10_3 C hK hP mw_5_165 dX10_lifted_1 ?_
  refine lv_iload_n hx hb dX10_lifted_4 rfl (lv_at hl 1 rfl) ?_
  obtain ⟨c14, hf⟩ := spn hf
  refine al_M4 C hK hP c14 dX10_lifted_5 ?_
  refine lv_i2l hx hb dX10_lifted_6 rfl ?_
  refine lv_lstore_n (lv' := [(2, .long (Int32.toInt64 (S0.1 4 (Int32.toNatClampNeg p0)))), (0, .ref (ad 0)), (1, .int p0)]) hx hb dX10_lifted_7 rfl hl (by decide) rfl (fun ls hl => ?_)
  refine lv_iconst (v := 1) hx hb dX10_lifted_8 (by decide) ?_
  refine lv_istore (lv' := [(4, .int 1), (2, .long (Int32.toInt64 (S0.1 4 (Int32.toNatClampNeg p0)))), (0, .ref (ad 0)), (1, .int p0)]) hx hb dX10_lifted_9 hl (by decide) rfl (fun ls hl => ?_)
  exact w_11 p0 (Int32.toInt64 (S0.1 4 (Int32.toNatClampNeg p0))) 1 S0 _ _ _ (lv_sub hl [2, 3, 1, 0] rfl) hP hS hf
theorem cp_X10_lifted : CPv yX10_lifted cX10_lifted 9 none 1 := ⟨mw_6_112, mw_1_9, mw_6_111, ms_49, by decide +kernel⟩
def rm_X10_greatest : Room := { frames := 1, cells := 0, slots := 0, locals := 29 }
set_option maxHeartbeats 4000000 in
set_option maxRecDepth 100000 in
theorem c_X10_greatest (l : Launch) (D : va_G) (ct : Nat → ClassId) (ad : Nat → Nat) (F : Nat → Prop) (hG : Gd ad 18 F) (p0 : Int32) (S0 : St)  (r : Int32) (hf : f_X10_greatest p0 S0 = some r) : MetH l yX10_greatest cX10_greatest 4 (some .int) rm_X10_greatest D (tysW ct) F [.ref (ad 0), .int p0] (some (.int r)) (cellsM ct ad S0) (cellsM ct ad S0) := by
  refine MetH.of RX10 (by decide) rfl (Nat.le_of_ble_eq_true rfl) ?_
  intro p e s m args below meth c C hK hP ls hl
  have hl : lv_has ls 4 [(0, .ref (ad 0)), (1, .int p0)] := hl
  obtain ⟨hx, hb, hr, hml, hown, htL, hlocks⟩ := id C
  have hS : va_S F s.heap s.heap [] := va_S.rf
  generalize hQ : MQ below (Hq D (cellsM ct ad S0) F (some (.int r))) args s 0 0 F = Q
  have w_4 : ∀ (x1 : Int32) (x2 : Int32) (x3 : Int32), ∀ (H : Heap) (locs : List Loc) (ls : Array Slot), lv_has ls 4 [(0, .ref (ad 0)), (1, .int x1), (2, .int x2), (3, .int x3)] → va_P D vwCl (cellsM ct ad S0) H → va_S F s.heap H locs → n_X10_greatest_4 S0 x1 x2 x3 = some r → W p l e rm_X10_greatest s m args below meth c H locs 0 0 Q (F0 m 4 ls []) := by
    have aux : ∀ (n : Nat), ∀ (x1 : Int32) (x2 : Int32) (x3 : Int32), ∀ (H : Heap) (locs : List Loc) (ls : Array Slot), lv_has ls 4 [(0, .ref (ad 0)), (1, .int x1), (2, .int x2), (3, .int x3)] → va_P D vwCl (cellsM ct ad S0) H → va_S F s.heap H locs → itr (fun (q : Int32 × Int32 × Int32) k => s_X10_greatest_4  (fun (x1 : Int32) (x2 : Int32) (x3 : Int32) => k (x1, x2, x3)) S0 q.1 q.2.1 q.2.2) n (x1, x2, x3) = some r → W p l e rm_X10_greatest s m args below meth c H locs 0 0 Q (F0 m 4 ls []) := by
      intro n
      induction n with
      | zero => intro x1 x2 x3 H locs ls hl hP hS hf; exact (itr_z hf).elim
      | succ n ih =>
      intro x1 x2 x3 H locs ls hl hP hS hf
      have hk_4 := ih
      have hf : s_X10_greatest_4  (fun (x1 : Int32) (x2 : Int32) (x3 : Int32) => itr (fun (q : Int32 × Int32 × Int32) k => s_X10_greatest_4  (fun (x1 : Int32) (x2 : Int32) (x3 : Int32) => k (x1, x2, x3)) S0 q.1 q.2.1 q.2.2) n (x1, x2, x3)) S0 x1 x2 x3 = some r := hf
      refine lv_iload_n hx hb dX10_greatest_4 rfl (lv_at hl 3 rfl) ?_
      refine lv_iload_n hx hb dX10_greatest_5 rfl (lv_at hl 1 rfl) ?_
      refine lv_icmp_ge (tgt := 24) hx hb dX10_greatest_6 (by decide) (fun c1 => ?_) (fun c1 => ?_)
      · have hf := sp1 c1 hf
        refine lv_iload_n hx hb dX10_greatest_24 rfl (lv_at hl 2 rfl) ?_
        cases hf
        subst hQ
        exact he_i C hP hS dX10_greatest_25
      · have hf := sp0 c1 hf
        refine lv_iload_n hx hb dX10_greatest_9 rfl (lv_at hl 2 rfl) ?_
        refine lv_aload_n hx hb dX10_greatest_10 rfl (lv_at hl 0 rfl) ?_
        refine lv_iload_n hx hb dX10_greatest_11 rfl (lv_at hl 3 rfl) ?_
        refine lv_i2l hx hb dX10_greatest_12 rfl ?_
        obtain ⟨v3, h2, hf⟩ := b1_some hf
        refine hc_V (As := [.long (Int32.toInt64 x3)]) (rest := [.int x2]) C hK (c_X10_valuationOf l D ct ad F hG (Int32.toInt64 x3) S0  v3 h2) hl.1 cp_X10_valuationOf mw_6_58 (rc_X10 hK hP) hP hS ⟨rfl, rfl⟩ ⟨Nat.le_of_ble_eq_true rfl, Nat.le_of_ble_eq_true rfl⟩ rfl rfl (Nat.le_of_ble_eq_true rfl) dX10_greatest_13 ⟨Nat.le_of_ble_eq_true rfl, Nat.le_of_ble_eq_true rfl⟩ (fun H locs hP hS => ?_)
        refine lv_iadd hx hb dX10_greatest_16 ?_
        refine lv_istore_n (lv' := [(2, .int (x2 + v3)), (0, .ref (ad 0)), (1, .int x1), (3, .int x3)]) hx hb dX10_greatest_17 rfl hl (by decide) rfl (fun ls hl => ?_)
        refine lv_iinc (v := (x3 + 1)) (lv' := [(3, .int (x3 + 1)), (2, .int (x2 + v3)), (0, .ref (ad 0)), (1, .int x1)]) hx hb dX10_greatest_18 hl (k := 3) rfl rfl (by decide) rfl (fun ls hl => ?_)
        refine lv_goto (tgt := 4) hx hb dX10_greatest_21 (by decide) ?_
        exact hk_4 x1 (x2 + v3) (x3 + 1) _ _ _ (lv_sub hl [2, 3, 1, 0] rfl) hP hS hf
    exact aux FU
  refine lv_iconst (v := 0) hx hb dX10_greatest_0 (by decide) ?_
  refine lv_istore_n (lv' := [(2, .int 0), (0, .ref (ad 0)), (1, .int p0)]) hx hb dX10_greatest_1 rfl hl (by decide) rfl (fun ls hl => ?_)
  refine lv_iconst (v := 2) hx hb dX10_greatest_2 (by decide) ?_
  refine lv_istore_n (lv' := [(3, .int 2), (2, .int 0), (0, .ref (ad 0)), (1, .int p0)]) hx hb dX10_greatest_3 rfl hl (by decide) rfl (fun ls hl => ?_)
  exact w_4 p0 0 2 _ _ _ (lv_sub hl [2, 3, 1, 0] rfl) hP hS hf
theorem cp_X10_greatest : CPv yX10_greatest cX10_greatest 4 (some .int) 1 := ⟨mw_6_128, mw_1_9, mw_6_127, ms_53, by decide +kernel⟩
def rm_X10_known : Room := { frames := 2, cells := 0, slots := 0, locals := 56 }
set_option maxHeartbeats 4000000 in
set_option maxRecDepth 100000 in
theorem c_X10_known (l : Launch) (D : va_G) (ct : Nat → ClassId) (ad : Nat → Nat) (F : Nat → Prop) (hG : Gd ad 18 F) (p0 : Int32) (p1 : Int32) (S0 : St)  (r : Int32) (hf : f_X10_known p0 p1 S0 = some r) : MetH l yX10_known cX10_known 3 (some .int) rm_X10_known D (tysW ct) F [.ref (ad 0), .int p0, .int p1] (some (.int r)) (cellsM ct ad S0) (cellsM ct ad S0) := by
  refine MetH.of RX10 (by decide) rfl (Nat.le_of_ble_eq_true rfl) ?_
  intro p e s m args below meth c C hK hP ls hl
  have hl : lv_has ls 3 [(0, .ref (ad 0)), (1, .int p0), (2, .int p1)] := hl
  obtain ⟨hx, hb, hr, hml, hown, htL, hlocks⟩ := id C
  have hS : va_S F s.heap s.heap [] := va_S.rf
  generalize hQ : MQ below (Hq D (cellsM ct ad S0) F (some (.int r))) args s 0 0 F = Q
  refine lv_aload_n hx hb dX10_known_0 rfl (lv_at hl 0 rfl) ?_
  refine gf_X10_1 C hK hP mw_5_163 dX10_known_1 ?_
  refine lv_iload_n hx hb dX10_known_4 rfl (lv_at hl 1 rfl) ?_
  obtain ⟨c1, hf⟩ := spn hf
  refine al_M2 C hK hP c1 dX10_known_5 ?_
  refine lv_aload_n hx hb dX10_known_6 rfl (lv_at hl 0 rfl) ?_
  obtain ⟨v3, h2, hf⟩ := b1_some hf
  refine hc_V (As := []) (rest := [.int (S0.1 2 (Int32.toNatClampNeg p0))]) C hK (c_X10_most l D ct ad F hG S0  v3 h2) hl.1 cp_X10_most mw_6_29 (rc_X10 hK hP) hP hS ⟨rfl, rfl⟩ ⟨Nat.le_of_ble_eq_true rfl, Nat.le_of_ble_eq_true rfl⟩ rfl rfl (Nat.le_of_ble_eq_true rfl) dX10_known_7 ⟨Nat.le_of_ble_eq_true rfl, Nat.le_of_ble_eq_true rfl⟩ (fun H locs hP hS => ?_)
  refine va_mmin (ls := _) hx hb (hml.trans hl.1.symm) hown (htL _ mw_6_62) (htL _ mw_2_60) (htL _ mw_1_17) (htL _ mw_2_61) (Nat.le_of_ble_eq_true rfl) (Nat.le_of_ble_eq_true rfl) (Nat.le_of_ble_eq_true rfl) (Nat.le_of_ble_eq_true rfl) dX10_known_10 ?_
  refine lv_aload_n hx hb dX10_known_13 rfl (lv_at hl 0 rfl) ?_
  refine lv_iload_n hx hb dX10_known_14 rfl (lv_at hl 2 rfl) ?_
  obtain ⟨v5, h4, hf⟩ := b1_some hf
  refine hc_V (As := [.int p1]) (rest := [.int (mnI (S0.1 2 (Int32.toNatClampNeg p0)) v3)]) C hK (c_X10_greatest l D ct ad F hG p1 S0  v5 h4) hl.1 cp_X10_greatest mw_6_125 (rc_X10 hK hP) hP hS ⟨rfl, rfl⟩ ⟨Nat.le_of_ble_eq_true rfl, Nat.le_of_ble_eq_true rfl⟩ rfl rfl (Nat.le_of_ble_eq_true rfl) dX10_known_15 ⟨Nat.le_of_ble_eq_true rfl, Nat.le_of_ble_eq_true rfl⟩ (fun H locs hP hS => ?_)
  refine lv_isub hx hb dX10_known_18 ?_
  cases hf
  subst hQ
  exact he_i C hP hS dX10_known_19
theorem cp_X10_known : CPv yX10_known cX10_known 3 (some .int) 2 := ⟨mw_6_124, mw_1_9, mw_6_123, ms_52, by decide +kernel⟩
def rm_X10_ways : Room := { frames := 3, cells := 0, slots := 0, locals := 93 }
set_option maxHeartbeats 4000000 in
set_option maxRecDepth 100000 in
theorem c_X10_ways (l : Launch) (D : va_G) (ct : Nat → ClassId) (ad : Nat → Nat) (F : Nat → Prop) (hG : Gd ad 18 F) (p0 : Int64) (p1 : Int32) (p2 : Int32) (S0 : St)  (r : Int64) (hf : f_X10_ways p0 p1 p2 S0 = some r) : MetH l yX10_ways cX10_ways 13 (some .long) rm_X10_ways D (tysW ct) F [.ref (ad 0), .long p0, .int p1, .int p2] (some (.long r)) (cellsM ct ad S0) (cellsM ct ad S0) := by
  refine MetH.of RX10 (by decide) rfl (Nat.le_of_ble_eq_true rfl) ?_
  intro p e s m args below meth c C hK hP ls hl
  have hl : lv_has ls 13 [(0, .ref (ad 0)), (1, .long p0), (3, .int p1), (4, .int p2)] := hl
  obtain ⟨hx, hb, hr, hml, hown, htL, hlocks⟩ := id C
  have hS : va_S F s.heap s.heap [] := va_S.rf
  generalize hQ : MQ below (Hq D (cellsM ct ad S0) F (some (.long r))) args s 0 0 F = Q
  have w_20 : ∀ (x1 : Int64) (x3 : Int32) (x4 : Int32) (x5 : Int64) (x7 : Int64) (x9 : Int32) (x10 : Int32), ∀ (H : Heap) (locs : List Loc) (ls : Array Slot), lv_has ls 13 [(0, .ref (ad 0)), (1, .long x1), (3, .int x3), (4, .int x4), (5, .long x5), (7, .long x7), (9, .int x9), (10, .int x10)] → va_P D vwCl (cellsM ct ad S0) H → va_S F s.heap H locs → n_X10_ways_20 S0 x1 x3 x4 x5 x7 x9 x10 = some r → W p l e rm_X10_ways s m args below meth c H locs 0 0 Q (F0 m 20 ls []) := by
    have aux : ∀ (n : Nat), ∀ (x1 : Int64) (x3 : Int32) (x4 : Int32) (x5 : Int64) (x7 : Int64) (x9 : Int32) (x10 : Int32), ∀ (H : Heap) (locs : List Loc) (ls : Array Slot), lv_has ls 13 [(0, .ref (ad 0)), (1, .long x1), (3, .int x3), (4, .int x4), (5, .long x5), (7, .long x7), (9, .int x9), (10, .int x10)] → va_P D vwCl (cellsM ct ad S0) H → va_S F s.heap H locs → itr (fun (q : Int64 × Int32 × Int32 × Int64 × Int64 × Int32 × Int32) k => s_X10_ways_20  (fun (x1 : Int64) (x3 : Int32) (x4 : Int32) (x5 : Int64) (x7 : Int64) (x9 : Int32) (x10 : Int32) => k (x1, x3, x4, x5, x7, x9, x10)) S0 q.1 q.2.1 q.2.2.1 q.2.2.2.1 q.2.2.2.2.1 q.2.2.2.2.2.1 q.2.2.2.2.2.2) n (x1, x3, x4, x5, x7, x9, x10) = some r → W p l e rm_X10_ways s m args below meth c H locs 0 0 Q (F0 m 20 ls []) := by
      intro n
      induction n with
      | zero => intro x1 x3 x4 x5 x7 x9 x10 H locs ls hl hP hS hf; exact (itr_z hf).elim
      | succ n ih =>
      intro x1 x3 x4 x5 x7 x9 x10 H locs ls hl hP hS hf
      have hk_20 := ih
      have hf : s_X10_ways_20  (fun (x1 : Int64) (x3 : Int32) (x4 : Int32) (x5 : Int64) (x7 : Int64) (x9 : Int32) (x10 : Int32) => itr (fun (q : Int64 × Int32 × Int32 × Int64 × Int64 × Int32 × Int32) k => s_X10_ways_20  (fun (x1 : Int64) (x3 : Int32) (x4 : Int32) (x5 : Int64) (x7 : Int64) (x9 : Int32) (x10 : Int32) => k (x1, x3, x4, x5, x7, x9, x10)) S0 q.1 q.2.1 q.2.2.1 q.2.2.2.1 q.2.2.2.2.1 q.2.2.2.2.2.1 q.2.2.2.2.2.2) n (x1, x3, x4, x5, x7, x9, x10)) S0 x1 x3 x4 x5 x7 x9 x10 = some r := hf
      refine lv_iload hx hb dX10_ways_20 (lv_at hl 7 rfl) ?_
      refine lv_iload_n hx hb dX10_ways_22 rfl (lv_at hl 2 rfl) ?_
      refine lv_icmp_ge (tgt := 125) hx hb dX10_ways_23 (by decide) (fun c1 => ?_) (fun c1 => ?_)
      · have hf := sp1 c1 hf
        refine lv_iload hx hb dX10_ways_125 (lv_at hl 6 rfl) ?_
        refine lv_iload hx hb dX10_ways_127 (lv_at hl 3 rfl) ?_
        refine lv_icmp_lt (tgt := 136) hx hb dX10_ways_129 (by decide) (fun c2 => ?_) (fun c2 => ?_)
        · have hf := sp1 c2 hf
          refine lv_lload hx hb dX10_ways_136 (lv_at hl 5 rfl) ?_
          refine lv_aload_n hx hb dX10_ways_138 rfl (lv_at hl 0 rfl) ?_
          refine lv_iload hx hb dX10_ways_139 (lv_at hl 6 rfl) ?_
          obtain ⟨v4, h3, hf⟩ := b1_some hf
          refine hc_V (As := [.int x9]) (rest := [.long x7]) C hK (c_X10_power l D ct ad F hG x9 S0  v4 h3) hl.1 cp_X10_power mw_6_67 (rc_X10 hK hP) hP hS ⟨rfl, rfl⟩ ⟨Nat.le_of_ble_eq_true rfl, Nat.le_of_ble_eq_true rfl⟩ rfl rfl (Nat.le_of_ble_eq_true rfl) dX10_ways_141 ⟨Nat.le_of_ble_eq_true rfl, Nat.le_of_ble_eq_true rfl⟩ (fun H locs hP hS => ?_)
          refine lv_lmul hx hb dX10_ways_144 ?_
          refine lv_lload hx hb dX10_ways_145 (lv_at hl 4 rfl) ?_
          obtain ⟨c5, hf⟩ := spn hf
          refine lv_lrem hx hb dX10_ways_147 c5 ?_
          cases hf
          subst hQ
          exact he_l C hP hS dX10_ways_148
        · have hf := sp0 c2 hf
          refine lv_lconst (v := 0) hx hb dX10_ways_132 (by decide) ?_
          refine lv_goto (tgt := 148) hx hb dX10_ways_133 (by decide) ?_
          cases hf
          subst hQ
          exact he_l C hP hS dX10_ways_148
      · have hf := sp0 c1 hf
        refine lv_lload_n hx hb dX10_ways_26 rfl (lv_at hl 1 rfl) ?_
        refine lv_iload hx hb dX10_ways_27 (lv_at hl 7 rfl) ?_
        refine lv_i2l hx hb dX10_ways_29 rfl ?_
        refine W.lcmp hx hb dX10_ways_30 ?_
        refine lv_if_ne (tgt := 36) hx hb dX10_ways_31 (by decide) (fun c6 => ?_) (fun c6 => ?_)
        · have hf := sp0 c6 hf
          refine lv_aload_n hx hb dX10_ways_36 rfl (lv_at hl 0 rfl) ?_
          refine lv_lload_n hx hb dX10_ways_37 rfl (lv_at hl 1 rfl) ?_
          refine lv_iload hx hb dX10_ways_38 (lv_at hl 7 rfl) ?_
          refine lv_i2l hx hb dX10_ways_40 rfl ?_
          refine lv_lsub hx hb dX10_ways_41 ?_
          obtain ⟨v8, h7, hf⟩ := b1_some hf
          refine hc_V (As := [.long (x1 - (Int32.toInt64 x10))]) (rest := []) C hK (c_X10_valuationOf l D ct ad F hG (x1 - (Int32.toInt64 x10)) S0  v8 h7) hl.1 cp_X10_valuationOf mw_6_58 (rc_X10 hK hP) hP hS ⟨rfl, rfl⟩ ⟨Nat.le_of_ble_eq_true rfl, Nat.le_of_ble_eq_true rfl⟩ rfl rfl (Nat.le_of_ble_eq_true rfl) dX10_ways_42 ⟨Nat.le_of_ble_eq_true rfl, Nat.le_of_ble_eq_true rfl⟩ (fun H locs hP hS => ?_)
          refine lv_istore (lv' := [(11, .int v8), (0, .ref (ad 0)), (1, .long x1), (3, .int x3), (4, .int x4), (5, .long x5), (7, .long x7), (9, .int x9), (10, .int x10)]) hx hb dX10_ways_45 hl (by decide) rfl (fun ls hl => ?_)
          refine lv_aload_n hx hb dX10_ways_47 rfl (lv_at hl 1 rfl) ?_
          refine lv_iload hx hb dX10_ways_48 (lv_at hl 8 rfl) ?_
          refine lv_iconst (v := 1) hx hb dX10_ways_50 (by decide) ?_
          refine lv_iadd hx hb dX10_ways_51 ?_
          refine lv_i2l hx hb dX10_ways_52 rfl ?_
          obtain ⟨v10, h9, hf⟩ := b1_some hf
          refine hc_V (As := [.long (Int32.toInt64 (x10 + 1))]) (rest := []) C hK (c_X10_valuationOf l D ct ad F hG (Int32.toInt64 (x10 + 1)) S0  v10 h9) hl.1 cp_X10_valuationOf mw_6_58 (rc_X10 hK hP) hP hS ⟨rfl, rfl⟩ ⟨Nat.le_of_ble_eq_true rfl, Nat.le_of_ble_eq_true rfl⟩ rfl rfl (Nat.le_of_ble_eq_true rfl) dX10_ways_53 ⟨Nat.le_of_ble_eq_true rfl, Nat.le_of_ble_eq_true rfl⟩ (fun H locs hP hS => ?_)
          refine lv_istore (lv' := [(12, .int v10), (11, .int v8), (0, .ref (ad 0)), (1, .long x1), (3, .int x3), (4, .int x4), (5, .long x5), (7, .long x7), (9, .int x9), (10, .int x10)]) hx hb dX10_ways_56 hl (by decide) rfl (fun ls hl => ?_)
          refine lv_iload hx hb dX10_ways_58 (lv_at hl 8 rfl) ?_
          refine lv_iload hx hb dX10_ways_60 (lv_at hl 1 rfl) ?_
          refine lv_iload hx hb dX10_ways_62 (lv_at hl 0 rfl) ?_
          refine lv_isub hx hb dX10_ways_64 ?_
          refine lv_iadd hx hb dX10_ways_65 ?_
          refine lv_istore (lv' := [(9, .int (x9 + (v8 - v10))), (12, .int v10), (11, .int v8), (0, .ref (ad 0)), (1, .long x1), (3, .int x3), (4, .int x4), (5, .long x5), (7, .long x7), (10, .int x10)]) hx hb dX10_ways_66 hl (by decide) rfl (fun ls hl => ?_)
          refine lv_lload hx hb dX10_ways_68 (lv_at hl 8 rfl) ?_
          refine lv_lload_n hx hb dX10_ways_70 rfl (lv_at hl 4 rfl) ?_
          refine lv_iload hx hb dX10_ways_71 (lv_at hl 9 rfl) ?_
          refine lv_i2l hx hb dX10_ways_73 rfl ?_
          refine lv_lsub hx hb dX10_ways_74 ?_
          refine lv_aload_n hx hb dX10_ways_75 rfl (lv_at hl 3 rfl) ?_
          refine lv_iload hx hb dX10_ways_76 (lv_at hl 2 rfl) ?_
          obtain ⟨v12, h11, hf⟩ := b1_some hf
          refine hc_V (As := [.int v8]) (rest := [.long (x1 - (Int32.toInt64 x10)), .long x7]) C hK (c_X10_power l D ct ad F hG v8 S0  v12 h11) hl.1 cp_X10_power mw_6_67 (rc_X10 hK hP) hP hS ⟨rfl, rfl⟩ ⟨Nat.le_of_ble_eq_true rfl, Nat.le_of_ble_eq_true rfl⟩ rfl rfl (Nat.le_of_ble_eq_true rfl) dX10_ways_78 ⟨Nat.le_of_ble_eq_true rfl, Nat.le_of_ble_eq_true rfl⟩ (fun H locs hP hS => ?_)
          obtain ⟨c13, hf⟩ := spn hf
          refine lv_ldiv hx hb dX10_ways_81 c13 ?_
          refine lv_lload hx hb dX10_ways_82 (lv_at hl 7 rfl) ?_
          obtain ⟨v14, h15, hf⟩ := b1_some hf
          refine pc_S (As := [.long ((x1 - (Int32.toInt64 x10)) / v12), .long x5]) (rest := [.long x7]) C (c_X10_whole l ((x1 - (Int32.toInt64 x10)) / v12) x5 v14 h15) hl.1 cp_X10_whole mw_6_71 ⟨rfl, rfl⟩ ⟨Nat.le_of_ble_eq_true rfl, Nat.le_of_ble_eq_true rfl⟩ rfl rfl (Nat.le_of_ble_eq_true rfl) dX10_ways_84 ⟨Nat.le_of_ble_eq_true rfl, Nat.le_of_ble_eq_true rfl⟩ ?_
          refine lv_lmul hx hb dX10_ways_87 ?_
          refine lv_lload hx hb dX10_ways_88 (lv_at hl 7 rfl) ?_
          obtain ⟨c16, hf⟩ := spn hf
          refine lv_lrem hx hb dX10_ways_90 c16 ?_
          refine lv_lstore (lv' := [(7, .long (rL (x7 * v14) x5)), (9, .int (x9 + (v8 - v10))), (12, .int v10), (11, .int v8), (0, .ref (ad 0)), (1, .long x1), (3, .int x3), (4, .int x4), (5, .long x5), (10, .int x10)]) hx hb dX10_ways_91 hl (by decide) rfl (fun ls hl => ?_)
          refine lv_lload hx hb dX10_ways_93 (lv_at hl 0 rfl) ?_
          refine lv_aload_n hx hb dX10_ways_95 rfl (lv_at hl 4 rfl) ?_
          refine lv_iload hx hb dX10_ways_96 (lv_at hl 9 rfl) ?_
          refine lv_iconst (v := 1) hx hb dX10_ways_98 (by decide) ?_
          refine lv_iadd hx hb dX10_ways_99 ?_
          refine lv_i2l hx hb dX10_ways_100 rfl ?_
          refine lv_aload_n hx hb dX10_ways_101 rfl (lv_at hl 4 rfl) ?_
          refine lv_iload hx hb dX10_ways_102 (lv_at hl 2 rfl) ?_
          obtain ⟨v18, h17, hf⟩ := b1_some hf
          refine hc_V (As := [.int v10]) (rest := [.long (Int32.toInt64 (x10 + 1)), .ref (ad 0), .long (rL (x7 * v14) x5)]) C hK (c_X10_power l D ct ad F hG v10 S0  v18 h17) hl.1 cp_X10_power mw_6_67 (rc_X10 hK hP) hP hS ⟨rfl, rfl⟩ ⟨Nat.le_of_ble_eq_true rfl, Nat.le_of_ble_eq_true rfl⟩ rfl rfl (Nat.le_of_ble_eq_true rfl) dX10_ways_104 ⟨Nat.le_of_ble_eq_true rfl, Nat.le_of_ble_eq_true rfl⟩ (fun H locs hP hS => ?_)
          obtain ⟨c19, hf⟩ := spn hf
          refine lv_ldiv hx hb dX10_ways_107 c19 ?_
          refine lv_iload hx hb dX10_ways_108 (lv_at hl 7 rfl) ?_
          obtain ⟨v21, h20, hf⟩ := b1_some hf
          refine hc_V (As := [.long ((Int32.toInt64 (x10 + 1)) / v18), .int x4]) (rest := [.long (rL (x7 * v14) x5)]) C hK (c_X10_inverse l D ct ad F hG ((Int32.toInt64 (x10 + 1)) / v18) x4 S0  v21 h20) hl.1 cp_X10_inverse mw_6_74 (rc_X10 hK hP) hP hS ⟨rfl, rfl⟩ ⟨Nat.le_of_ble_eq_true rfl, Nat.le_of_ble_eq_true rfl⟩ rfl rfl (Nat.le_of_ble_eq_true rfl) dX10_ways_110 ⟨Nat.le_of_ble_eq_true rfl, Nat.le_of_ble_eq_true rfl⟩ (fun H locs hP hS => ?_)
          refine lv_lmul hx hb dX10_ways_113 ?_
          refine lv_lload hx hb dX10_ways_114 (lv_at hl 8 rfl) ?_
          obtain ⟨c22, hf⟩ := spn hf
          refine lv_lrem hx hb dX10_ways_116 c22 ?_
          refine lv_lstore (lv' := [(7, .long (rL ((rL (x7 * v14) x5) * v21) x5)), (9, .int (x9 + (v8 - v10))), (12, .int v10), (11, .int v8), (0, .ref (ad 0)), (1, .long x1), (3, .int x3), (4, .int x4), (5, .long x5), (10, .int x10)]) hx hb dX10_ways_117 hl (by decide) rfl (fun ls hl => ?_)
          refine lv_iinc (v := (x10 + 1)) (lv' := [(10, .int (x10 + 1)), (7, .long (rL ((rL (x7 * v14) x5) * v21) x5)), (9, .int (x9 + (v8 - v10))), (12, .int v10), (11, .int v8), (0, .ref (ad 0)), (1, .long x1), (3, .int x3), (4, .int x4), (5, .long x5)]) hx hb dX10_ways_119 hl (k := 9) rfl rfl (by decide) rfl (fun ls hl => ?_)
          refine lv_goto (tgt := 20) hx hb dX10_ways_122 (by decide) ?_
          exact hk_20 x1 x3 x4 x5 (rL ((rL (x7 * v14) x5) * v21) x5) (x9 + (v8 - v10)) (x10 + 1) _ _ _ (lv_sub hl [5, 6, 7, 8, 9, 1, 2, 0] rfl) hP hS hf
        · have hf := sp1 c6 hf
          refine lv_lconst (v := 0) hx hb dX10_ways_34 (by decide) ?_
          cases hf
          subst hQ
          exact he_l C hP hS dX10_ways_35
    exact aux FU
  refine lv_aload_n hx hb dX10_ways_0 rfl (lv_at hl 0 rfl) ?_
  refine lv_iload hx hb dX10_ways_1 (lv_at hl 3 rfl) ?_
  obtain ⟨v24, h23, hf⟩ := b1_some hf
  refine hc_V (As := [.int p2]) (rest := []) C hK (c_X10_power l D ct ad F hG p2 S0  v24 h23) hl.1 cp_X10_power mw_6_67 (rc_X10 hK hP) hP hS ⟨rfl, rfl⟩ ⟨Nat.le_of_ble_eq_true rfl, Nat.le_of_ble_eq_true rfl⟩ rfl rfl (Nat.le_of_ble_eq_true rfl) dX10_ways_3 ⟨Nat.le_of_ble_eq_true rfl, Nat.le_of_ble_eq_true rfl⟩ (fun H locs hP hS => ?_)
  refine lv_lstore (lv' := [(5, .long v24), (0, .ref (ad 0)), (1, .long p0), (3, .int p1), (4, .int p2)]) hx hb dX10_ways_6 hl (by decide) rfl (fun ls hl => ?_)
  refine lv_lconst (v := 1) hx hb dX10_ways_8 (by decide) ?_
  refine lv_lload hx hb dX10_ways_9 (lv_at hl 0 rfl) ?_
  obtain ⟨c25, hf⟩ := spn hf
  refine lv_lrem hx hb dX10_ways_11 c25 ?_
  refine lv_lstore (lv' := [(7, .long (rL 1 v24)), (5, .long v24), (0, .ref (ad 0)), (1, .long p0), (3, .int p1), (4, .int p2)]) hx hb dX10_ways_12 hl (by decide) rfl (fun ls hl => ?_)
  refine lv_iconst (v := 0) hx hb dX10_ways_14 (by decide) ?_
  refine lv_istore (lv' := [(9, .int 0), (7, .long (rL 1 v24)), (5, .long v24), (0, .ref (ad 0)), (1, .long p0), (3, .int p1), (4, .int p2)]) hx hb dX10_ways_15 hl (by decide) rfl (fun ls hl => ?_)
  refine lv_iconst (v := 0) hx hb dX10_ways_17 (by decide) ?_
  refine lv_istore (lv' := [(10, .int 0), (9, .int 0), (7, .long (rL 1 v24)), (5, .long v24), (0, .ref (ad 0)), (1, .long p0), (3, .int p1), (4, .int p2)]) hx hb dX10_ways_18 hl (by decide) rfl (fun ls hl => ?_)
  exact w_20 p0 p1 p2 v24 (rL 1 v24) 0 0 _ _ _ (lv_sub hl [4, 5, 6, 7, 3, 2, 1, 0] rfl) hP hS hf
theorem cp_X10_ways : CPv yX10_ways cX10_ways 13 (some .long) 3 := ⟨mw_6_135, mw_1_9, mw_6_134, ms_54, by decide +kernel⟩
def rm_X10_rowAt : Room := { frames := 4, cells := 0, slots := 0, locals := 129 }
set_option maxHeartbeats 4000000 in
set_option maxRecDepth 100000 in
theorem c_X10_rowAt (l : Launch) (D : va_G) (ct : Nat → ClassId) (ad : Nat → Nat) (F : Nat → Prop) (hG : Gd ad 18 F) (p0 : Int32) (p1 : Int32) (S0 : St)  (S' : St) (hf : f_X10_rowAt p0 p1 S0 = some S') : MetH l yX10_rowAt cX10_rowAt 15 none rm_X10_rowAt D (tysW ct) F [.ref (ad 0), .int p0, .int p1] none (cellsM ct ad S0) (cellsM ct ad S') := by
  refine MetH.of RX10 (by decide) rfl (Nat.le_of_ble_eq_true rfl) ?_
  intro p e s m args below meth c C hK hP ls hl
  have hl : lv_has ls 15 [(0, .ref (ad 0)), (1, .int p0), (2, .int p1)] := hl
  obtain ⟨hx, hb, hr, hml, hown, htL, hlocks⟩ := id C
  have hS : va_S F s.heap s.heap [] := va_S.rf
  generalize hQ : MQ below (Hq D (cellsM ct ad S') F none) args s 0 0 F = Q
  have w_100 : ∀ (k_83 : Int32 → Int32 → Int64 → Int64 → Int64 → Int32 → St → Option St) (hk_83 : ∀ (x2 : Int32) (x3 : Int32) (x5 : Int64) (x7 : Int64) (x9 : Int64) (x11 : Int32) (S : St), ∀ (H : Heap) (locs : List Loc) (ls : Array Slot), lv_has ls 15 [(0, .ref (ad 0)), (2, .int x2), (3, .int x3), (5, .long x5), (7, .long x7), (9, .long x9), (11, .int x11)] → va_P D vwCl (cellsM ct ad S) H → va_S F s.heap H locs → k_83 x2 x3 x5 x7 x9 x11 S = some S' → W p l e rm_X10_rowAt s m args below meth c H locs 0 0 Q (F0 m 83 ls [])), ∀ (x2 : Int32) (x3 : Int32) (x5 : Int64) (x7 : Int64) (x9 : Int64) (x11 : Int32) (x12 : Int64) (x14 : Int32) (S : St), ∀ (H : Heap) (locs : List Loc) (ls : Array Slot), lv_has ls 15 [(0, .ref (ad 0)), (2, .int x2), (3, .int x3), (5, .long x5), (7, .long x7), (9, .long x9), (11, .int x11), (12, .long x12), (14, .int x14)] → va_P D vwCl (cellsM ct ad S) H → va_S F s.heap H locs → n_X10_rowAt_100 k_83 x2 x3 x5 x7 x9 x11 x12 x14 S = some S' → W p l e rm_X10_rowAt s m args below meth c H locs 0 0 Q (F0 m 100 ls []) := by
    intro k_83 hk_83
    have aux : ∀ (n : Nat), ∀ (x2 : Int32) (x3 : Int32) (x5 : Int64) (x7 : Int64) (x9 : Int64) (x11 : Int32) (x12 : Int64) (x14 : Int32) (S : St), ∀ (H : Heap) (locs : List Loc) (ls : Array Slot), lv_has ls 15 [(0, .ref (ad 0)), (2, .int x2), (3, .int x3), (5, .long x5), (7, .long x7), (9, .long x9), (11, .int x11), (12, .long x12), (14, .int x14)] → va_P D vwCl (cellsM ct ad S) H → va_S F s.heap H locs → itr (fun (q : Int32 × Int32 × Int64 × Int64 × Int64 × Int32 × Int64 × Int32 × St) k => s_X10_rowAt_100 k_83 (fun (x2 : Int32) (x3 : Int32) (x5 : Int64) (x7 : Int64) (x9 : Int64) (x11 : Int32) (x12 : Int64) (x14 : Int32) (S : St) => k (x2, x3, x5, x7, x9, x11, x12, x14, S)) q.1 q.2.1 q.2.2.1 q.2.2.2.1 q.2.2.2.2.1 q.2.2.2.2.2.1 q.2.2.2.2.2.2.1 q.2.2.2.2.2.2.2.1 q.2.2.2.2.2.2.2.2) n (x2, x3, x5, x7, x9, x11, x12, x14, S) = some S' → W p l e rm_X10_rowAt s m args below meth c H locs 0 0 Q (F0 m 100 ls []) := by
      intro n
      induction n with
      | zero => intro x2 x3 x5 x7 x9 x11 x12 x14 S H locs ls hl hP hS hf; exact (itr_z hf).elim
      | succ n ih =>
      intro x2 x3 x5 x7 x9 x11 x12 x14 S H locs ls hl hP hS hf
      have hk_100 := ih
      have hf : s_X10_rowAt_100 k_83 (fun (x2 : Int32) (x3 : Int32) (x5 : Int64) (x7 : Int64) (x9 : Int64) (x11 : Int32) (x12 : Int64) (x14 : Int32) (S : St) => itr (fun (q : Int32 × Int32 × Int64 × Int64 × Int64 × Int32 × Int64 × Int32 × St) k => s_X10_rowAt_100 k_83 (fun (x2 : Int32) (x3 : Int32) (x5 : Int64) (x7 : Int64) (x9 : Int64) (x11 : Int32) (x12 : Int64) (x14 : Int32) (S : St) => k (x2, x3, x5, x7, x9, x11, x12, x14, S)) q.1 q.2.1 q.2.2.1 q.2.2.2.1 q.2.2.2.2.1 q.2.2.2.2.2.1 q.2.2.2.2.2.2.1 q.2.2.2.2.2.2.2.1 q.2.2.2.2.2.2.2.2) n (x2, x3, x5, x7, x9, x11, x12, x14, S)) x2 x3 x5 x7 x9 x11 x12 x14 S = some S' := hf
      refine lv_iload hx hb dX10_rowAt_100 (lv_at hl 8 rfl) ?_
      refine lv_iload hx hb dX10_rowAt_102 (lv_at hl 6 rfl) ?_
      refine lv_icmp_gt (tgt := 157) hx hb dX10_rowAt_104 (by decide) (fun c1 => ?_) (fun c1 => ?_)
      · have hf := sp1 c1 hf
        refine lv_lload hx hb dX10_rowAt_157 (lv_at hl 5 rfl) ?_
        refine lv_lload hx hb dX10_rowAt_159 (lv_at hl 7 rfl) ?_
        refine lv_lload hx hb dX10_rowAt_161 (lv_at hl 3 rfl) ?_
        obtain ⟨v2, h3, hf⟩ := b1_some hf
        refine pc_S (As := [.long x12, .long x5]) (rest := [.long x9]) C (c_X10_whole l x12 x5 v2 h3) hl.1 cp_X10_whole mw_6_71 ⟨rfl, rfl⟩ ⟨Nat.le_of_ble_eq_true rfl, Nat.le_of_ble_eq_true rfl⟩ rfl rfl (Nat.le_of_ble_eq_true rfl) dX10_rowAt_163 ⟨Nat.le_of_ble_eq_true rfl, Nat.le_of_ble_eq_true rfl⟩ ?_
        refine lv_aload_n hx hb dX10_rowAt_166 rfl (lv_at hl 0 rfl) ?_
        refine lv_lload hx hb dX10_rowAt_167 (lv_at hl 4 rfl) ?_
        refine lv_iload hx hb dX10_rowAt_169 (lv_at hl 6 rfl) ?_
        refine lv_iload_n hx hb dX10_rowAt_171 rfl (lv_at hl 2 rfl) ?_
        obtain ⟨v5, h4, hf⟩ := b1_some hf
        refine hc_V (As := [.long x7, .int x11, .int x3]) (rest := [.long v2, .long x9]) C hK (c_X10_ways l D ct ad F hG x7 x11 x3 S  v5 h4) hl.1 cp_X10_ways mw_6_132 (rc_X10 hK hP) hP hS ⟨rfl, rfl⟩ ⟨Nat.le_of_ble_eq_true rfl, Nat.le_of_ble_eq_true rfl⟩ rfl rfl (Nat.le_of_ble_eq_true rfl) dX10_rowAt_172 ⟨Nat.le_of_ble_eq_true rfl, Nat.le_of_ble_eq_true rfl⟩ (fun H locs hP hS => ?_)
        refine lv_lmul hx hb dX10_rowAt_175 ?_
        refine lv_ladd hx hb dX10_rowAt_176 ?_
        refine lv_lload hx hb dX10_rowAt_177 (lv_at hl 3 rfl) ?_
        obtain ⟨v6, h7, hf⟩ := b1_some hf
        refine pc_S (As := [.long (x9 + (v2 * v5)), .long x5]) (rest := []) C (c_X10_whole l (x9 + (v2 * v5)) x5 v6 h7) hl.1 cp_X10_whole mw_6_71 ⟨rfl, rfl⟩ ⟨Nat.le_of_ble_eq_true rfl, Nat.le_of_ble_eq_true rfl⟩ rfl rfl (Nat.le_of_ble_eq_true rfl) dX10_rowAt_179 ⟨Nat.le_of_ble_eq_true rfl, Nat.le_of_ble_eq_true rfl⟩ ?_
        refine lv_lstore (lv' := [(9, .long v6), (0, .ref (ad 0)), (2, .int x2), (3, .int x3), (5, .long x5), (7, .long x7), (11, .int x11), (12, .long x12), (14, .int x14)]) hx hb dX10_rowAt_182 hl (by decide) rfl (fun ls hl => ?_)
        refine lv_iinc (v := (x11 + 1)) (lv' := [(11, .int (x11 + 1)), (9, .long v6), (0, .ref (ad 0)), (2, .int x2), (3, .int x3), (5, .long x5), (7, .long x7), (12, .long x12), (14, .int x14)]) hx hb dX10_rowAt_184 hl (k := 6) rfl rfl (by decide) rfl (fun ls hl => ?_)
        refine lv_goto (tgt := 83) hx hb dX10_rowAt_187 (by decide) ?_
        exact hk_83 x2 x3 x5 x7 v6 (x11 + 1) S _ _ _ (lv_sub hl [2, 3, 4, 5, 6, 1, 0] rfl) hP hS hf
      · have hf := sp0 c1 hf
        refine lv_lload hx hb dX10_rowAt_107 (lv_at hl 7 rfl) ?_
        refine lv_aload_n hx hb dX10_rowAt_109 rfl (lv_at hl 0 rfl) ?_
        refine gf_X10_9 C hK hP mw_5_171 dX10_rowAt_110 ?_
        refine lv_bipush (v := 12) hx hb dX10_rowAt_113 (by decide) ?_
        refine lv_iload_n hx hb dX10_rowAt_115 rfl (lv_at hl 1 rfl) ?_
        refine lv_imul hx hb dX10_rowAt_116 ?_
        refine lv_iload hx hb dX10_rowAt_117 (lv_at hl 8 rfl) ?_
        refine lv_iadd hx hb dX10_rowAt_119 ?_
        obtain ⟨c8, hf⟩ := spn hf
        refine al_M10 C hK hP c8 dX10_rowAt_120 ?_
        refine lv_i2l hx hb dX10_rowAt_121 rfl ?_
        refine lv_iload hx hb dX10_rowAt_122 (lv_at hl 6 rfl) ?_
        refine lv_iload hx hb dX10_rowAt_124 (lv_at hl 8 rfl) ?_
        obtain ⟨v9, h10, hf⟩ := b1_some hf
        refine pc_S (As := [.int x11, .int x14]) (rest := [.long (Int32.toInt64 (S.1 10 (Int32.toNatClampNeg ((12 * x2) + x14)))), .long x12]) C (c_X10_choose l x11 x14 v9 h10) hl.1 cp_X10_choose mw_6_129 ⟨rfl, rfl⟩ ⟨Nat.le_of_ble_eq_true rfl, Nat.le_of_ble_eq_true rfl⟩ rfl rfl (Nat.le_of_ble_eq_true rfl) dX10_rowAt_126 ⟨Nat.le_of_ble_eq_true rfl, Nat.le_of_ble_eq_true rfl⟩ ?_
        refine lv_i2l hx hb dX10_rowAt_129 rfl ?_
        refine lv_lmul hx hb dX10_rowAt_130 ?_
        refine lv_iload hx hb dX10_rowAt_131 (lv_at hl 6 rfl) ?_
        refine lv_iload hx hb dX10_rowAt_133 (lv_at hl 8 rfl) ?_
        refine lv_isub hx hb dX10_rowAt_135 ?_
        refine lv_iconst (v := 2) hx hb dX10_rowAt_136 (by decide) ?_
        refine lv_irem hx hb dX10_rowAt_137 (by decide) ?_
        refine lv_if_ne (tgt := 145) hx hb dX10_rowAt_138 (by decide) (fun c11 => ?_) (fun c11 => ?_)
        · have hf := sp0 c11 hf
          refine lv_iconst (v := (-1)) hx hb dX10_rowAt_145 (by decide) ?_
          refine lv_i2l hx hb dX10_rowAt_146 rfl ?_
          refine lv_lmul hx hb dX10_rowAt_147 ?_
          refine lv_ladd hx hb dX10_rowAt_148 ?_
          refine lv_lstore (lv' := [(12, .long (x12 + (((Int32.toInt64 (S.1 10 (Int32.toNatClampNeg ((12 * x2) + x14)))) * (Int32.toInt64 v9)) * (Int32.toInt64 (-1))))), (0, .ref (ad 0)), (2, .int x2), (3, .int x3), (5, .long x5), (7, .long x7), (9, .long x9), (11, .int x11), (14, .int x14)]) hx hb dX10_rowAt_149 hl (by decide) rfl (fun ls hl => ?_)
          refine lv_iinc (v := (x14 + 1)) (lv' := [(14, .int (x14 + 1)), (12, .long (x12 + (((Int32.toInt64 (S.1 10 (Int32.toNatClampNeg ((12 * x2) + x14)))) * (Int32.toInt64 v9)) * (Int32.toInt64 (-1))))), (0, .ref (ad 0)), (2, .int x2), (3, .int x3), (5, .long x5), (7, .long x7), (9, .long x9), (11, .int x11)]) hx hb dX10_rowAt_151 hl (k := 8) rfl rfl (by decide) rfl (fun ls hl => ?_)
          refine lv_goto (tgt := 100) hx hb dX10_rowAt_154 (by decide) ?_
          exact hk_100 x2 x3 x5 x7 x9 x11 (x12 + (((Int32.toInt64 (S.1 10 (Int32.toNatClampNeg ((12 * x2) + x14)))) * (Int32.toInt64 v9)) * (Int32.toInt64 (-1)))) (x14 + 1) S _ _ _ (lv_sub hl [2, 3, 4, 5, 6, 7, 8, 1, 0] rfl) hP hS hf
        · have hf := sp1 c11 hf
          refine lv_iconst (v := 1) hx hb dX10_rowAt_141 (by decide) ?_
          refine lv_goto (tgt := 146) hx hb dX10_rowAt_142 (by decide) ?_
          refine lv_i2l hx hb dX10_rowAt_146 rfl ?_
          refine lv_lmul hx hb dX10_rowAt_147 ?_
          refine lv_ladd hx hb dX10_rowAt_148 ?_
          refine lv_lstore (lv' := [(12, .long (x12 + (((Int32.toInt64 (S.1 10 (Int32.toNatClampNeg ((12 * x2) + x14)))) * (Int32.toInt64 v9)) * (Int32.toInt64 1)))), (0, .ref (ad 0)), (2, .int x2), (3, .int x3), (5, .long x5), (7, .long x7), (9, .long x9), (11, .int x11), (14, .int x14)]) hx hb dX10_rowAt_149 hl (by decide) rfl (fun ls hl => ?_)
          refine lv_iinc (v := (x14 + 1)) (lv' := [(14, .int (x14 + 1)), (12, .long (x12 + (((Int32.toInt64 (S.1 10 (Int32.toNatClampNeg ((12 * x2) + x14)))) * (Int32.toInt64 v9)) * (Int32.toInt64 1)))), (0, .ref (ad 0)), (2, .int x2), (3, .int x3), (5, .long x5), (7, .long x7), (9, .long x9), (11, .int x11)]) hx hb dX10_rowAt_151 hl (k := 8) rfl rfl (by decide) rfl (fun ls hl => ?_)
          refine lv_goto (tgt := 100) hx hb dX10_rowAt_154 (by decide) ?_
          exact hk_100 x2 x3 x5 x7 x9 x11 (x12 + (((Int32.toInt64 (S.1 10 (Int32.toNatClampNeg ((12 * x2) + x14)))) * (Int32.toInt64 v9)) * (Int32.toInt64 1))) (x14 + 1) S _ _ _ (lv_sub hl [2, 3, 4, 5, 6, 7, 8, 1, 0] rfl) hP hS hf
    exact aux FU
  have w_83 : ∀ (x2 : Int32) (x3 : Int32) (x5 : Int64) (x7 : Int64) (x9 : Int64) (x11 : Int32) (S : St), ∀ (H : Heap) (locs : List Loc) (ls : Array Slot), lv_has ls 15 [(0, .ref (ad 0)), (2, .int x2), (3, .int x3), (5, .long x5), (7, .long x7), (9, .long x9), (11, .int x11)] → va_P D vwCl (cellsM ct ad S) H → va_S F s.heap H locs → n_X10_rowAt_83 x2 x3 x5 x7 x9 x11 S = some S' → W p l e rm_X10_rowAt s m args below meth c H locs 0 0 Q (F0 m 83 ls []) := by
    have aux : ∀ (n : Nat), ∀ (x2 : Int32) (x3 : Int32) (x5 : Int64) (x7 : Int64) (x9 : Int64) (x11 : Int32) (S : St), ∀ (H : Heap) (locs : List Loc) (ls : Array Slot), lv_has ls 15 [(0, .ref (ad 0)), (2, .int x2), (3, .int x3), (5, .long x5), (7, .long x7), (9, .long x9), (11, .int x11)] → va_P D vwCl (cellsM ct ad S) H → va_S F s.heap H locs → itr (fun (q : Int32 × Int32 × Int64 × Int64 × Int64 × Int32 × St) k => s_X10_rowAt_83  (fun (x2 : Int32) (x3 : Int32) (x5 : Int64) (x7 : Int64) (x9 : Int64) (x11 : Int32) (S : St) => k (x2, x3, x5, x7, x9, x11, S)) q.1 q.2.1 q.2.2.1 q.2.2.2.1 q.2.2.2.2.1 q.2.2.2.2.2.1 q.2.2.2.2.2.2) n (x2, x3, x5, x7, x9, x11, S) = some S' → W p l e rm_X10_rowAt s m args below meth c H locs 0 0 Q (F0 m 83 ls []) := by
      intro n
      induction n with
      | zero => intro x2 x3 x5 x7 x9 x11 S H locs ls hl hP hS hf; exact (itr_z hf).elim
      | succ n ih =>
      intro x2 x3 x5 x7 x9 x11 S H locs ls hl hP hS hf
      have hk_83 := ih
      have hf : s_X10_rowAt_83  (fun (x2 : Int32) (x3 : Int32) (x5 : Int64) (x7 : Int64) (x9 : Int64) (x11 : Int32) (S : St) => itr (fun (q : Int32 × Int32 × Int64 × Int64 × Int64 × Int32 × St) k => s_X10_rowAt_83  (fun (x2 : Int32) (x3 : Int32) (x5 : Int64) (x7 : Int64) (x9 : Int64) (x11 : Int32) (S : St) => k (x2, x3, x5, x7, x9, x11, S)) q.1 q.2.1 q.2.2.1 q.2.2.2.1 q.2.2.2.2.1 q.2.2.2.2.2.1 q.2.2.2.2.2.2) n (x2, x3, x5, x7, x9, x11, S)) x2 x3 x5 x7 x9 x11 S = some S' := hf
      refine lv_iload hx hb dX10_rowAt_83 (lv_at hl 6 rfl) ?_
      refine lv_aload_n hx hb dX10_rowAt_85 rfl (lv_at hl 0 rfl) ?_
      refine gf_X10_6 C hK hP mw_5_168 dX10_rowAt_86 ?_
      refine lv_iload_n hx hb dX10_rowAt_89 rfl (lv_at hl 1 rfl) ?_
      obtain ⟨c12, hf⟩ := spn hf
      refine al_M7 C hK hP c12 dX10_rowAt_90 ?_
      refine lv_icmp_ge (tgt := 190) hx hb dX10_rowAt_91 (by decide) (fun c13 => ?_) (fun c13 => ?_)
      · have hf := sp1 c13 hf
        refine lv_aload_n hx hb dX10_rowAt_190 rfl (lv_at hl 0 rfl) ?_
        refine lv_lload hx hb dX10_rowAt_191 (lv_at hl 5 rfl) ?_
        refine lv_iconst (v := 0) hx hb dX10_rowAt_193 (by decide) ?_
        refine lv_iload_n hx hb dX10_rowAt_194 rfl (lv_at hl 2 rfl) ?_
        obtain ⟨S15, h14, hf⟩ := b1_some hf
        refine hc_V (As := [.long x9, .int 0, .int x3]) (rest := []) C hK (c_X10_lays l D ct ad F hG x9 0 x3 S  S15 h14) hl.1 cp_X10_lays mw_6_85 (rc_X10 hK hP) hP hS ⟨rfl, rfl⟩ ⟨Nat.le_of_ble_eq_true rfl, Nat.le_of_ble_eq_true rfl⟩ rfl rfl (Nat.le_of_ble_eq_true rfl) dX10_rowAt_195 ⟨Nat.le_of_ble_eq_true rfl, Nat.le_of_ble_eq_true rfl⟩ (fun H locs hP hS => ?_)
        cases hf
        subst hQ
        exact he_v C hP hS dX10_rowAt_198
      · have hf := sp0 c13 hf
        refine lv_lconst (v := 0) hx hb dX10_rowAt_94 (by decide) ?_
        refine lv_lstore (lv' := [(12, .long 0), (0, .ref (ad 0)), (2, .int x2), (3, .int x3), (5, .long x5), (7, .long x7), (9, .long x9), (11, .int x11)]) hx hb dX10_rowAt_95 hl (by decide) rfl (fun ls hl => ?_)
        refine lv_iconst (v := 0) hx hb dX10_rowAt_97 (by decide) ?_
        refine lv_istore (lv' := [(14, .int 0), (12, .long 0), (0, .ref (ad 0)), (2, .int x2), (3, .int x3), (5, .long x5), (7, .long x7), (9, .long x9), (11, .int x11)]) hx hb dX10_rowAt_98 hl (by decide) rfl (fun ls hl => ?_)
        exact w_100 _ hk_83 x2 x3 x5 x7 x9 x11 0 0 S _ _ _ (lv_sub hl [2, 3, 4, 5, 6, 7, 8, 1, 0] rfl) hP hS hf
    exact aux FU
  refine lv_aload_n hx hb dX10_rowAt_0 rfl (lv_at hl 0 rfl) ?_
  refine lv_iload_n hx hb dX10_rowAt_1 rfl (lv_at hl 1 rfl) ?_
  refine lv_aload_n hx hb dX10_rowAt_2 rfl (lv_at hl 0 rfl) ?_
  refine gf_X10_6 C hK hP mw_5_168 dX10_rowAt_3 ?_
  refine lv_iload_n hx hb dX10_rowAt_6 rfl (lv_at hl 2 rfl) ?_
  obtain ⟨c16, hf⟩ := spn hf
  refine al_M7 C hK hP c16 dX10_rowAt_7 ?_
  obtain ⟨v18, h17, hf⟩ := b1_some hf
  refine hc_V (As := [.int p0, .int (S0.1 7 (Int32.toNatClampNeg p1))]) (rest := []) C hK (c_X10_known l D ct ad F hG p0 (S0.1 7 (Int32.toNatClampNeg p1)) S0  v18 h17) hl.1 cp_X10_known mw_6_121 (rc_X10 hK hP) hP hS ⟨rfl, rfl⟩ ⟨Nat.le_of_ble_eq_true rfl, Nat.le_of_ble_eq_true rfl⟩ rfl rfl (Nat.le_of_ble_eq_true rfl) dX10_rowAt_8 ⟨Nat.le_of_ble_eq_true rfl, Nat.le_of_ble_eq_true rfl⟩ (fun H locs hP hS => ?_)
  refine lv_istore_n (lv' := [(3, .int v18), (0, .ref (ad 0)), (1, .int p0), (2, .int p1)]) hx hb dX10_rowAt_11 rfl hl (by decide) rfl (fun ls hl => ?_)
  refine lv_aload_n hx hb dX10_rowAt_12 rfl (lv_at hl 1 rfl) ?_
  refine gf_X10_1 C hK hP mw_5_163 dX10_rowAt_13 ?_
  refine lv_iload_n hx hb dX10_rowAt_16 rfl (lv_at hl 2 rfl) ?_
  obtain ⟨c19, hf⟩ := spn hf
  refine al_M2 C hK hP c19 dX10_rowAt_17 ?_
  refine lv_aload_n hx hb dX10_rowAt_18 rfl (lv_at hl 1 rfl) ?_
  obtain ⟨v21, h20, hf⟩ := b1_some hf
  refine hc_V (As := []) (rest := [.int (S0.1 2 (Int32.toNatClampNeg p0))]) C hK (c_X10_most l D ct ad F hG S0  v21 h20) hl.1 cp_X10_most mw_6_29 (rc_X10 hK hP) hP hS ⟨rfl, rfl⟩ ⟨Nat.le_of_ble_eq_true rfl, Nat.le_of_ble_eq_true rfl⟩ rfl rfl (Nat.le_of_ble_eq_true rfl) dX10_rowAt_19 ⟨Nat.le_of_ble_eq_true rfl, Nat.le_of_ble_eq_true rfl⟩ (fun H locs hP hS => ?_)
  refine va_mmin (ls := _) hx hb (hml.trans hl.1.symm) hown (htL _ mw_6_62) (htL _ mw_2_60) (htL _ mw_1_17) (htL _ mw_2_61) (Nat.le_of_ble_eq_true rfl) (Nat.le_of_ble_eq_true rfl) (Nat.le_of_ble_eq_true rfl) (Nat.le_of_ble_eq_true rfl) dX10_rowAt_22 ?_
  refine lv_istore (lv' := [(4, .int (mnI (S0.1 2 (Int32.toNatClampNeg p0)) v21)), (3, .int v18), (0, .ref (ad 0)), (1, .int p0), (2, .int p1)]) hx hb dX10_rowAt_25 hl (by decide) rfl (fun ls hl => ?_)
  refine lv_aload_n hx hb dX10_rowAt_27 rfl (lv_at hl 2 rfl) ?_
  refine lv_iload_n hx hb dX10_rowAt_28 rfl (lv_at hl 1 rfl) ?_
  obtain ⟨v23, h22, hf⟩ := b1_some hf
  refine hc_V (As := [.int v18]) (rest := []) C hK (c_X10_power l D ct ad F hG v18 S0  v23 h22) hl.1 cp_X10_power mw_6_67 (rc_X10 hK hP) hP hS ⟨rfl, rfl⟩ ⟨Nat.le_of_ble_eq_true rfl, Nat.le_of_ble_eq_true rfl⟩ rfl rfl (Nat.le_of_ble_eq_true rfl) dX10_rowAt_29 ⟨Nat.le_of_ble_eq_true rfl, Nat.le_of_ble_eq_true rfl⟩ (fun H locs hP hS => ?_)
  refine lv_lstore (lv' := [(5, .long v23), (4, .int (mnI (S0.1 2 (Int32.toNatClampNeg p0)) v21)), (3, .int v18), (0, .ref (ad 0)), (1, .int p0), (2, .int p1)]) hx hb dX10_rowAt_32 hl (by decide) rfl (fun ls hl => ?_)
  refine lv_aload_n hx hb dX10_rowAt_34 rfl (lv_at hl 3 rfl) ?_
  refine gf_X10_0 C hK hP mw_5_162 dX10_rowAt_35 ?_
  refine lv_iload_n hx hb dX10_rowAt_38 rfl (lv_at hl 4 rfl) ?_
  obtain ⟨c24, hf⟩ := spn hf
  refine al_M1 C hK hP c24 dX10_rowAt_39 ?_
  refine lv_iload hx hb dX10_rowAt_40 (lv_at hl 1 rfl) ?_
  refine lv_icmp_lt (tgt := 49) hx hb dX10_rowAt_42 (by decide) (fun c25 => ?_) (fun c25 => ?_)
  · have hf := sp1 c25 hf
    refine lv_aload_n hx hb dX10_rowAt_49 rfl (lv_at hl 3 rfl) ?_
    refine gf_X10_7 C hK hP mw_5_169 dX10_rowAt_50 ?_
    refine lv_iload_n hx hb dX10_rowAt_53 rfl (lv_at hl 4 rfl) ?_
    obtain ⟨c26, hf⟩ := spn hf
    refine al_M8 C hK hP c26 dX10_rowAt_54 ?_
    refine lv_aload_n hx hb dX10_rowAt_55 rfl (lv_at hl 3 rfl) ?_
    refine lv_aload_n hx hb dX10_rowAt_56 rfl (lv_at hl 3 rfl) ?_
    refine gf_X10_0 C hK hP mw_5_162 dX10_rowAt_57 ?_
    refine lv_iload_n hx hb dX10_rowAt_60 rfl (lv_at hl 4 rfl) ?_
    obtain ⟨c27, hf⟩ := spn hf
    refine al_M1 C hK hP c27 dX10_rowAt_61 ?_
    obtain ⟨v29, h28, hf⟩ := b1_some hf
    refine hc_V (As := [.int (S0.1 1 (Int32.toNatClampNeg p0))]) (rest := [.long (S0.2 8 (Int32.toNatClampNeg p0))]) C hK (c_X10_power l D ct ad F hG (S0.1 1 (Int32.toNatClampNeg p0)) S0  v29 h28) hl.1 cp_X10_power mw_6_67 (rc_X10 hK hP) hP hS ⟨rfl, rfl⟩ ⟨Nat.le_of_ble_eq_true rfl, Nat.le_of_ble_eq_true rfl⟩ rfl rfl (Nat.le_of_ble_eq_true rfl) dX10_rowAt_62 ⟨Nat.le_of_ble_eq_true rfl, Nat.le_of_ble_eq_true rfl⟩ (fun H locs hP hS => ?_)
    refine lv_lmul hx hb dX10_rowAt_65 ?_
    refine lv_aload_n hx hb dX10_rowAt_66 rfl (lv_at hl 3 rfl) ?_
    refine lv_iload hx hb dX10_rowAt_67 (lv_at hl 1 rfl) ?_
    obtain ⟨v31, h30, hf⟩ := b1_some hf
    refine hc_V (As := [.int (mnI (S0.1 2 (Int32.toNatClampNeg p0)) v21)]) (rest := [.long ((S0.2 8 (Int32.toNatClampNeg p0)) * v29)]) C hK (c_X10_power l D ct ad F hG (mnI (S0.1 2 (Int32.toNatClampNeg p0)) v21) S0  v31 h30) hl.1 cp_X10_power mw_6_67 (rc_X10 hK hP) hP hS ⟨rfl, rfl⟩ ⟨Nat.le_of_ble_eq_true rfl, Nat.le_of_ble_eq_true rfl⟩ rfl rfl (Nat.le_of_ble_eq_true rfl) dX10_rowAt_69 ⟨Nat.le_of_ble_eq_true rfl, Nat.le_of_ble_eq_true rfl⟩ (fun H locs hP hS => ?_)
    obtain ⟨v32, h33, hf⟩ := b1_some hf
    refine pc_S (As := [.long ((S0.2 8 (Int32.toNatClampNeg p0)) * v29), .long v31]) (rest := []) C (c_X10_whole l ((S0.2 8 (Int32.toNatClampNeg p0)) * v29) v31 v32 h33) hl.1 cp_X10_whole mw_6_71 ⟨rfl, rfl⟩ ⟨Nat.le_of_ble_eq_true rfl, Nat.le_of_ble_eq_true rfl⟩ rfl rfl (Nat.le_of_ble_eq_true rfl) dX10_rowAt_72 ⟨Nat.le_of_ble_eq_true rfl, Nat.le_of_ble_eq_true rfl⟩ ?_
    refine lv_lstore (lv' := [(7, .long v32), (5, .long v23), (4, .int (mnI (S0.1 2 (Int32.toNatClampNeg p0)) v21)), (3, .int v18), (0, .ref (ad 0)), (1, .int p0), (2, .int p1)]) hx hb dX10_rowAt_75 hl (by decide) rfl (fun ls hl => ?_)
    refine lv_lconst (v := 0) hx hb dX10_rowAt_77 (by decide) ?_
    refine lv_lstore (lv' := [(9, .long 0), (7, .long v32), (5, .long v23), (4, .int (mnI (S0.1 2 (Int32.toNatClampNeg p0)) v21)), (3, .int v18), (0, .ref (ad 0)), (1, .int p0), (2, .int p1)]) hx hb dX10_rowAt_78 hl (by decide) rfl (fun ls hl => ?_)
    refine lv_iconst (v := 0) hx hb dX10_rowAt_80 (by decide) ?_
    refine lv_istore (lv' := [(11, .int 0), (9, .long 0), (7, .long v32), (5, .long v23), (4, .int (mnI (S0.1 2 (Int32.toNatClampNeg p0)) v21)), (3, .int v18), (0, .ref (ad 0)), (1, .int p0), (2, .int p1)]) hx hb dX10_rowAt_81 hl (by decide) rfl (fun ls hl => ?_)
    exact w_83 p1 v18 v23 v32 0 0 S0 _ _ _ (lv_sub hl [6, 8, 5, 3, 2, 1, 0] rfl) hP hS hf
  · have hf := sp0 c25 hf
    refine lv_lconst (v := 0) hx hb dX10_rowAt_45 (by decide) ?_
    refine lv_goto (tgt := 75) hx hb dX10_rowAt_46 (by decide) ?_
    refine lv_lstore (lv' := [(7, .long 0), (5, .long v23), (4, .int (mnI (S0.1 2 (Int32.toNatClampNeg p0)) v21)), (3, .int v18), (0, .ref (ad 0)), (1, .int p0), (2, .int p1)]) hx hb dX10_rowAt_75 hl (by decide) rfl (fun ls hl => ?_)
    refine lv_lconst (v := 0) hx hb dX10_rowAt_77 (by decide) ?_
    refine lv_lstore (lv' := [(9, .long 0), (7, .long 0), (5, .long v23), (4, .int (mnI (S0.1 2 (Int32.toNatClampNeg p0)) v21)), (3, .int v18), (0, .ref (ad 0)), (1, .int p0), (2, .int p1)]) hx hb dX10_rowAt_78 hl (by decide) rfl (fun ls hl => ?_)
    refine lv_iconst (v := 0) hx hb dX10_rowAt_80 (by decide) ?_
    refine lv_istore (lv' := [(11, .int 0), (9, .long 0), (7, .long 0), (5, .long v23), (4, .int (mnI (S0.1 2 (Int32.toNatClampNeg p0)) v21)), (3, .int v18), (0, .ref (ad 0)), (1, .int p0), (2, .int p1)]) hx hb dX10_rowAt_81 hl (by decide) rfl (fun ls hl => ?_)
    exact w_83 p1 v18 v23 0 0 0 S0 _ _ _ (lv_sub hl [6, 8, 5, 3, 2, 1, 0] rfl) hP hS hf
theorem cp_X10_rowAt : CPv yX10_rowAt cX10_rowAt 15 none 2 := ⟨mw_6_120, mw_1_9, mw_6_119, ms_51, by decide +kernel⟩
def rm_X10_finds : Room := { frames := 5, cells := 0, slots := 0, locals := 167 }
set_option maxHeartbeats 4000000 in
set_option maxRecDepth 100000 in
theorem c_X10_finds (l : Launch) (D : va_G) (ct : Nat → ClassId) (ad : Nat → Nat) (F : Nat → Prop) (hG : Gd ad 18 F) (p0 : Int32) (S0 : St)  (S' : St) (hf : f_X10_finds p0 S0 = some S') : MetH l yX10_finds cX10_finds 3 none rm_X10_finds D (tysW ct) F [.ref (ad 0), .int p0] none (cellsM ct ad S0) (cellsM ct ad S') := by
  refine MetH.of RX10 (by decide) rfl (Nat.le_of_ble_eq_true rfl) ?_
  intro p e s m args below meth c C hK hP ls hl
  have hl : lv_has ls 3 [(0, .ref (ad 0)), (1, .int p0)] := hl
  obtain ⟨hx, hb, hr, hml, hown, htL, hlocks⟩ := id C
  have hS : va_S F s.heap s.heap [] := va_S.rf
  generalize hQ : MQ below (Hq D (cellsM ct ad S') F none) args s 0 0 F = Q
  have w_219 : ∀ (x1 : Int32) (S : St), ∀ (H : Heap) (locs : List Loc) (ls : Array Slot), lv_has ls 3 [(0, .ref (ad 0)), (1, .int x1)] → va_P D vwCl (cellsM ct ad S) H → va_S F s.heap H locs → n_X10_finds_219 x1 S = some S' → W p l e rm_X10_finds s m args below meth c H locs 0 0 Q (F0 m 219 ls []) := by
    intro  x1 S H locs ls hl hP hS hf
    refine lv_aload_n hx hb dX10_finds_219 rfl (lv_at hl 0 rfl) ?_
    refine gf_X10_0 C hK hP mw_5_162 dX10_finds_220 ?_
    refine lv_iload_n hx hb dX10_finds_223 rfl (lv_at hl 1 rfl) ?_
    refine lv_aload_n hx hb dX10_finds_224 rfl (lv_at hl 0 rfl) ?_
    refine gf_X10_23 C hK hP mw_5_185 dX10_finds_225 ?_
    obtain ⟨c1, hf⟩ := spn hf
    refine as_M1 C hK hP hG hS c1 dX10_finds_228 (fun H locs hP hS => ?_)
    refine lv_aload_n hx hb dX10_finds_229 rfl (lv_at hl 0 rfl) ?_
    refine gf_X10_1 C hK hP mw_5_163 dX10_finds_230 ?_
    refine lv_iload_n hx hb dX10_finds_233 rfl (lv_at hl 1 rfl) ?_
    refine lv_aload_n hx hb dX10_finds_234 rfl (lv_at hl 0 rfl) ?_
    refine gf_X10_24 C hK hP mw_5_186 dX10_finds_235 ?_
    obtain ⟨c2, hf⟩ := spn hf
    refine as_M2 C hK hP hG hS c2 dX10_finds_238 (fun H locs hP hS => ?_)
    refine lv_aload_n hx hb dX10_finds_239 rfl (lv_at hl 0 rfl) ?_
    refine gf_X10_7 C hK hP mw_5_169 dX10_finds_240 ?_
    refine lv_iload_n hx hb dX10_finds_243 rfl (lv_at hl 1 rfl) ?_
    refine lv_aload_n hx hb dX10_finds_244 rfl (lv_at hl 0 rfl) ?_
    refine gf_X10_26 C hK hP mw_5_188 dX10_finds_245 ?_
    obtain ⟨c3, hf⟩ := spn hf
    refine as_M8 C hK hP hG hS c3 dX10_finds_248 (fun H locs hP hS => ?_)
    cases hf
    subst hQ
    exact he_v C hP hS dX10_finds_249
  refine lv_aload_n hx hb dX10_finds_0 rfl (lv_at hl 0 rfl) ?_
  refine gf_X10_2 C hK hP mw_5_164 dX10_finds_1 ?_
  refine lv_iload_n hx hb dX10_finds_4 rfl (lv_at hl 1 rfl) ?_
  obtain ⟨c4, hf⟩ := spn hf
  refine al_M3 C hK hP c4 dX10_finds_5 ?_
  refine lv_istore_n (lv' := [(2, .int (S0.1 3 (Int32.toNatClampNeg p0))), (0, .ref (ad 0)), (1, .int p0)]) hx hb dX10_finds_6 rfl hl (by decide) rfl (fun ls hl => ?_)
  refine lv_iload_n hx hb dX10_finds_7 rfl (lv_at hl 0 rfl) ?_
  refine lv_if_ne (tgt := 36) hx hb dX10_finds_8 (by decide) (fun c5 => ?_) (fun c5 => ?_)
  · have hf := sp0 c5 hf
    refine lv_iload_n hx hb dX10_finds_36 rfl (lv_at hl 0 rfl) ?_
    refine lv_iconst (v := 1) hx hb dX10_finds_37 (by decide) ?_
    refine lv_icmp_ne (tgt := 61) hx hb dX10_finds_38 (by decide) (fun c6 => ?_) (fun c6 => ?_)
    · have hf := sp0 c6 hf
      refine lv_iload_n hx hb dX10_finds_61 rfl (lv_at hl 0 rfl) ?_
      refine lv_iconst (v := 2) hx hb dX10_finds_62 (by decide) ?_
      refine lv_icmp_ne (tgt := 86) hx hb dX10_finds_63 (by decide) (fun c7 => ?_) (fun c7 => ?_)
      · have hf := sp0 c7 hf
        refine lv_iload_n hx hb dX10_finds_86 rfl (lv_at hl 0 rfl) ?_
        refine lv_iconst (v := 3) hx hb dX10_finds_87 (by decide) ?_
        refine lv_icmp_ne (tgt := 110) hx hb dX10_finds_88 (by decide) (fun c8 => ?_) (fun c8 => ?_)
        · have hf := sp0 c8 hf
          refine lv_iload_n hx hb dX10_finds_110 rfl (lv_at hl 0 rfl) ?_
          refine lv_iconst (v := 4) hx hb dX10_finds_111 (by decide) ?_
          refine lv_icmp_ne (tgt := 134) hx hb dX10_finds_112 (by decide) (fun c9 => ?_) (fun c9 => ?_)
          · have hf := sp0 c9 hf
            refine lv_iload_n hx hb dX10_finds_134 rfl (lv_at hl 0 rfl) ?_
            refine lv_iconst (v := 5) hx hb dX10_finds_135 (by decide) ?_
            refine lv_icmp_ne (tgt := 175) hx hb dX10_finds_136 (by decide) (fun c10 => ?_) (fun c10 => ?_)
            · have hf := sp0 c10 hf
              refine lv_iload_n hx hb dX10_finds_175 rfl (lv_at hl 0 rfl) ?_
              refine lv_bipush (v := 6) hx hb dX10_finds_176 (by decide) ?_
              refine lv_icmp_ne (tgt := 194) hx hb dX10_finds_178 (by decide) (fun c11 => ?_) (fun c11 => ?_)
              · have hf := sp0 c11 hf
                refine lv_iload_n hx hb dX10_finds_194 rfl (lv_at hl 0 rfl) ?_
                refine lv_bipush (v := 7) hx hb dX10_finds_195 (by decide) ?_
                refine lv_icmp_ne (tgt := 208) hx hb dX10_finds_197 (by decide) (fun c12 => ?_) (fun c12 => ?_)
                · have hf := sp0 c12 hf
                  refine lv_aload_n hx hb dX10_finds_208 rfl (lv_at hl 1 rfl) ?_
                  refine lv_aload_n hx hb dX10_finds_209 rfl (lv_at hl 1 rfl) ?_
                  refine gf_X10_3 C hK hP mw_5_165 dX10_finds_210 ?_
                  refine lv_iload_n hx hb dX10_finds_213 rfl (lv_at hl 2 rfl) ?_
                  obtain ⟨c13, hf⟩ := spn hf
                  refine al_M4 C hK hP c13 dX10_finds_214 ?_
                  refine lv_iload_n hx hb dX10_finds_215 rfl (lv_at hl 2 rfl) ?_
                  obtain ⟨S15, h14, hf⟩ := b1_some hf
                  refine hc_V (As := [.int (S0.1 4 (Int32.toNatClampNeg p0)), .int p0]) (rest := []) C hK (c_X10_rowAt l D ct ad F hG (S0.1 4 (Int32.toNatClampNeg p0)) p0 S0  S15 h14) hl.1 cp_X10_rowAt mw_6_117 (rc_X10 hK hP) hP hS ⟨rfl, rfl⟩ ⟨Nat.le_of_ble_eq_true rfl, Nat.le_of_ble_eq_true rfl⟩ rfl rfl (Nat.le_of_ble_eq_true rfl) dX10_finds_216 ⟨Nat.le_of_ble_eq_true rfl, Nat.le_of_ble_eq_true rfl⟩ (fun H locs hP hS => ?_)
                  exact w_219 p0 S15 _ _ _ (lv_sub hl [1, 2] rfl) hP hS hf
                · have hf := sp1 c12 hf
                  refine lv_aload_n hx hb dX10_finds_200 rfl (lv_at hl 1 rfl) ?_
                  refine lv_iload_n hx hb dX10_finds_201 rfl (lv_at hl 2 rfl) ?_
                  obtain ⟨S17, h16, hf⟩ := b1_some hf
                  refine hc_V (As := [.int p0]) (rest := []) C hK (c_X10_lifted l D ct ad F hG p0 S0  S17 h16) hl.1 cp_X10_lifted mw_6_109 (rc_X10 hK hP) hP hS ⟨rfl, rfl⟩ ⟨Nat.le_of_ble_eq_true rfl, Nat.le_of_ble_eq_true rfl⟩ rfl rfl (Nat.le_of_ble_eq_true rfl) dX10_finds_202 ⟨Nat.le_of_ble_eq_true rfl, Nat.le_of_ble_eq_true rfl⟩ (fun H locs hP hS => ?_)
                  refine lv_goto (tgt := 219) hx hb dX10_finds_205 (by decide) ?_
                  exact w_219 p0 S17 _ _ _ (lv_sub hl [1, 2] rfl) hP hS hf
              · have hf := sp1 c11 hf
                refine lv_aload_n hx hb dX10_finds_181 rfl (lv_at hl 1 rfl) ?_
                refine lv_aload_n hx hb dX10_finds_182 rfl (lv_at hl 1 rfl) ?_
                refine gf_X10_3 C hK hP mw_5_165 dX10_finds_183 ?_
                refine lv_iload_n hx hb dX10_finds_186 rfl (lv_at hl 2 rfl) ?_
                obtain ⟨c18, hf⟩ := spn hf
                refine al_M4 C hK hP c18 dX10_finds_187 ?_
                obtain ⟨S20, h19, hf⟩ := b1_some hf
                refine hc_V (As := [.int (S0.1 4 (Int32.toNatClampNeg p0))]) (rest := []) C hK (c_X10_teich l D ct ad F hG (S0.1 4 (Int32.toNatClampNeg p0)) S0  S20 h19) hl.1 cp_X10_teich mw_6_105 (rc_X10 hK hP) hP hS ⟨rfl, rfl⟩ ⟨Nat.le_of_ble_eq_true rfl, Nat.le_of_ble_eq_true rfl⟩ rfl rfl (Nat.le_of_ble_eq_true rfl) dX10_finds_188 ⟨Nat.le_of_ble_eq_true rfl, Nat.le_of_ble_eq_true rfl⟩ (fun H locs hP hS => ?_)
                refine lv_goto (tgt := 219) hx hb dX10_finds_191 (by decide) ?_
                exact w_219 p0 S20 _ _ _ (lv_sub hl [1, 2] rfl) hP hS hf
            · have hf := sp1 c10 hf
              refine lv_aload_n hx hb dX10_finds_139 rfl (lv_at hl 1 rfl) ?_
              refine lv_aload_n hx hb dX10_finds_140 rfl (lv_at hl 1 rfl) ?_
              refine gf_X10_3 C hK hP mw_5_165 dX10_finds_141 ?_
              refine lv_iload_n hx hb dX10_finds_144 rfl (lv_at hl 2 rfl) ?_
              obtain ⟨c21, hf⟩ := spn hf
              refine al_M4 C hK hP c21 dX10_finds_145 ?_
              refine lv_aload_n hx hb dX10_finds_146 rfl (lv_at hl 1 rfl) ?_
              refine gf_X10_1 C hK hP mw_5_163 dX10_finds_147 ?_
              refine lv_aload_n hx hb dX10_finds_150 rfl (lv_at hl 1 rfl) ?_
              refine gf_X10_3 C hK hP mw_5_165 dX10_finds_151 ?_
              refine lv_iload_n hx hb dX10_finds_154 rfl (lv_at hl 2 rfl) ?_
              obtain ⟨c22, hf⟩ := spn hf
              refine al_M4 C hK hP c22 dX10_finds_155 ?_
              obtain ⟨c23, hf⟩ := spn hf
              refine al_M2 C hK hP c23 dX10_finds_156 ?_
              refine lv_aload_n hx hb dX10_finds_157 rfl (lv_at hl 1 rfl) ?_
              refine gf_X10_0 C hK hP mw_5_162 dX10_finds_158 ?_
              refine lv_aload_n hx hb dX10_finds_161 rfl (lv_at hl 1 rfl) ?_
              refine gf_X10_3 C hK hP mw_5_165 dX10_finds_162 ?_
              refine lv_iload_n hx hb dX10_finds_165 rfl (lv_at hl 2 rfl) ?_
              obtain ⟨c24, hf⟩ := spn hf
              refine al_M4 C hK hP c24 dX10_finds_166 ?_
              obtain ⟨c25, hf⟩ := spn hf
              refine al_M1 C hK hP c25 dX10_finds_167 ?_
              refine lv_isub hx hb dX10_finds_168 ?_
              obtain ⟨S27, h26, hf⟩ := b1_some hf
              refine hc_V (As := [.int (S0.1 4 (Int32.toNatClampNeg p0)), .int ((S0.1 2 (Int32.toNatClampNeg (S0.1 4 (Int32.toNatClampNeg p0)))) - (S0.1 1 (Int32.toNatClampNeg (S0.1 4 (Int32.toNatClampNeg p0)))))]) (rest := []) C hK (c_X10_squareRoot l D ct ad F hG (S0.1 4 (Int32.toNatClampNeg p0)) ((S0.1 2 (Int32.toNatClampNeg (S0.1 4 (Int32.toNatClampNeg p0)))) - (S0.1 1 (Int32.toNatClampNeg (S0.1 4 (Int32.toNatClampNeg p0))))) S0  S27 h26) hl.1 cp_X10_squareRoot mw_6_97 (rc_X10 hK hP) hP hS ⟨rfl, rfl⟩ ⟨Nat.le_of_ble_eq_true rfl, Nat.le_of_ble_eq_true rfl⟩ rfl rfl (Nat.le_of_ble_eq_true rfl) dX10_finds_169 ⟨Nat.le_of_ble_eq_true rfl, Nat.le_of_ble_eq_true rfl⟩ (fun H locs hP hS => ?_)
              refine lv_goto (tgt := 219) hx hb dX10_finds_172 (by decide) ?_
              exact w_219 p0 S27 _ _ _ (lv_sub hl [1, 2] rfl) hP hS hf
          · have hf := sp1 c9 hf
            refine lv_aload_n hx hb dX10_finds_115 rfl (lv_at hl 1 rfl) ?_
            refine lv_aload_n hx hb dX10_finds_116 rfl (lv_at hl 1 rfl) ?_
            refine gf_X10_3 C hK hP mw_5_165 dX10_finds_117 ?_
            refine lv_iload_n hx hb dX10_finds_120 rfl (lv_at hl 2 rfl) ?_
            obtain ⟨c28, hf⟩ := spn hf
            refine al_M4 C hK hP c28 dX10_finds_121 ?_
            refine lv_aload_n hx hb dX10_finds_122 rfl (lv_at hl 1 rfl) ?_
            refine gf_X10_4 C hK hP mw_5_166 dX10_finds_123 ?_
            refine lv_iload_n hx hb dX10_finds_126 rfl (lv_at hl 2 rfl) ?_
            obtain ⟨c29, hf⟩ := spn hf
            refine al_M5 C hK hP c29 dX10_finds_127 ?_
            obtain ⟨S31, h30, hf⟩ := b1_some hf
            refine hc_V (As := [.int (S0.1 4 (Int32.toNatClampNeg p0)), .int (S0.1 5 (Int32.toNatClampNeg p0))]) (rest := []) C hK (c_X10_quotient l D ct ad F hG (S0.1 4 (Int32.toNatClampNeg p0)) (S0.1 5 (Int32.toNatClampNeg p0)) S0  S31 h30) hl.1 cp_X10_quotient mw_6_93 (rc_X10 hK hP) hP hS ⟨rfl, rfl⟩ ⟨Nat.le_of_ble_eq_true rfl, Nat.le_of_ble_eq_true rfl⟩ rfl rfl (Nat.le_of_ble_eq_true rfl) dX10_finds_128 ⟨Nat.le_of_ble_eq_true rfl, Nat.le_of_ble_eq_true rfl⟩ (fun H locs hP hS => ?_)
            refine lv_goto (tgt := 219) hx hb dX10_finds_131 (by decide) ?_
            exact w_219 p0 S31 _ _ _ (lv_sub hl [1, 2] rfl) hP hS hf
        · have hf := sp1 c8 hf
          refine lv_aload_n hx hb dX10_finds_91 rfl (lv_at hl 1 rfl) ?_
          refine lv_aload_n hx hb dX10_finds_92 rfl (lv_at hl 1 rfl) ?_
          refine gf_X10_3 C hK hP mw_5_165 dX10_finds_93 ?_
          refine lv_iload_n hx hb dX10_finds_96 rfl (lv_at hl 2 rfl) ?_
          obtain ⟨c32, hf⟩ := spn hf
          refine al_M4 C hK hP c32 dX10_finds_97 ?_
          refine lv_aload_n hx hb dX10_finds_98 rfl (lv_at hl 1 rfl) ?_
          refine gf_X10_4 C hK hP mw_5_166 dX10_finds_99 ?_
          refine lv_iload_n hx hb dX10_finds_102 rfl (lv_at hl 2 rfl) ?_
          obtain ⟨c33, hf⟩ := spn hf
          refine al_M5 C hK hP c33 dX10_finds_103 ?_
          obtain ⟨S35, h34, hf⟩ := b1_some hf
          refine hc_V (As := [.int (S0.1 4 (Int32.toNatClampNeg p0)), .int (S0.1 5 (Int32.toNatClampNeg p0))]) (rest := []) C hK (c_X10_product l D ct ad F hG (S0.1 4 (Int32.toNatClampNeg p0)) (S0.1 5 (Int32.toNatClampNeg p0)) S0  S35 h34) hl.1 cp_X10_product mw_6_89 (rc_X10 hK hP) hP hS ⟨rfl, rfl⟩ ⟨Nat.le_of_ble_eq_true rfl, Nat.le_of_ble_eq_true rfl⟩ rfl rfl (Nat.le_of_ble_eq_true rfl) dX10_finds_104 ⟨Nat.le_of_ble_eq_true rfl, Nat.le_of_ble_eq_true rfl⟩ (fun H locs hP hS => ?_)
          refine lv_goto (tgt := 219) hx hb dX10_finds_107 (by decide) ?_
          exact w_219 p0 S35 _ _ _ (lv_sub hl [1, 2] rfl) hP hS hf
      · have hf := sp1 c7 hf
        refine lv_aload_n hx hb dX10_finds_66 rfl (lv_at hl 1 rfl) ?_
        refine lv_aload_n hx hb dX10_finds_67 rfl (lv_at hl 1 rfl) ?_
        refine gf_X10_3 C hK hP mw_5_165 dX10_finds_68 ?_
        refine lv_iload_n hx hb dX10_finds_71 rfl (lv_at hl 2 rfl) ?_
        obtain ⟨c36, hf⟩ := spn hf
        refine al_M4 C hK hP c36 dX10_finds_72 ?_
        refine lv_aload_n hx hb dX10_finds_73 rfl (lv_at hl 1 rfl) ?_
        refine gf_X10_4 C hK hP mw_5_166 dX10_finds_74 ?_
        refine lv_iload_n hx hb dX10_finds_77 rfl (lv_at hl 2 rfl) ?_
        obtain ⟨c37, hf⟩ := spn hf
        refine al_M5 C hK hP c37 dX10_finds_78 ?_
        refine lv_iconst (v := (-1)) hx hb dX10_finds_79 (by decide) ?_
        obtain ⟨S39, h38, hf⟩ := b1_some hf
        refine hc_V (As := [.int (S0.1 4 (Int32.toNatClampNeg p0)), .int (S0.1 5 (Int32.toNatClampNeg p0)), .int (-1)]) (rest := []) C hK (c_X10_sum l D ct ad F hG (S0.1 4 (Int32.toNatClampNeg p0)) (S0.1 5 (Int32.toNatClampNeg p0)) (-1) S0  S39 h38) hl.1 cp_X10_sum mw_6_81 (rc_X10 hK hP) hP hS ⟨rfl, rfl⟩ ⟨Nat.le_of_ble_eq_true rfl, Nat.le_of_ble_eq_true rfl⟩ rfl rfl (Nat.le_of_ble_eq_true rfl) dX10_finds_80 ⟨Nat.le_of_ble_eq_true rfl, Nat.le_of_ble_eq_true rfl⟩ (fun H locs hP hS => ?_)
        refine lv_goto (tgt := 219) hx hb dX10_finds_83 (by decide) ?_
        exact w_219 p0 S39 _ _ _ (lv_sub hl [1, 2] rfl) hP hS hf
    · have hf := sp1 c6 hf
      refine lv_aload_n hx hb dX10_finds_41 rfl (lv_at hl 1 rfl) ?_
      refine lv_aload_n hx hb dX10_finds_42 rfl (lv_at hl 1 rfl) ?_
      refine gf_X10_3 C hK hP mw_5_165 dX10_finds_43 ?_
      refine lv_iload_n hx hb dX10_finds_46 rfl (lv_at hl 2 rfl) ?_
      obtain ⟨c40, hf⟩ := spn hf
      refine al_M4 C hK hP c40 dX10_finds_47 ?_
      refine lv_aload_n hx hb dX10_finds_48 rfl (lv_at hl 1 rfl) ?_
      refine gf_X10_4 C hK hP mw_5_166 dX10_finds_49 ?_
      refine lv_iload_n hx hb dX10_finds_52 rfl (lv_at hl 2 rfl) ?_
      obtain ⟨c41, hf⟩ := spn hf
      refine al_M5 C hK hP c41 dX10_finds_53 ?_
      refine lv_iconst (v := 1) hx hb dX10_finds_54 (by decide) ?_
      obtain ⟨S43, h42, hf⟩ := b1_some hf
      refine hc_V (As := [.int (S0.1 4 (Int32.toNatClampNeg p0)), .int (S0.1 5 (Int32.toNatClampNeg p0)), .int 1]) (rest := []) C hK (c_X10_sum l D ct ad F hG (S0.1 4 (Int32.toNatClampNeg p0)) (S0.1 5 (Int32.toNatClampNeg p0)) 1 S0  S43 h42) hl.1 cp_X10_sum mw_6_81 (rc_X10 hK hP) hP hS ⟨rfl, rfl⟩ ⟨Nat.le_of_ble_eq_true rfl, Nat.le_of_ble_eq_true rfl⟩ rfl rfl (Nat.le_of_ble_eq_true rfl) dX10_finds_55 ⟨Nat.le_of_ble_eq_true rfl, Nat.le_of_ble_eq_true rfl⟩ (fun H locs hP hS => ?_)
      refine lv_goto (tgt := 219) hx hb dX10_finds_58 (by decide) ?_
      exact w_219 p0 S43 _ _ _ (lv_sub hl [1, 2] rfl) hP hS hf
  · have hf := sp1 c5 hf
    refine lv_aload_n hx hb dX10_finds_11 rfl (lv_at hl 1 rfl) ?_
    refine lv_aload_n hx hb dX10_finds_12 rfl (lv_at hl 1 rfl) ?_
    refine gf_X10_3 C hK hP mw_5_165 dX10_finds_13 ?_
    refine lv_iload_n hx hb dX10_finds_16 rfl (lv_at hl 2 rfl) ?_
    obtain ⟨c44, hf⟩ := spn hf
    refine al_M4 C hK hP c44 dX10_finds_17 ?_
    refine lv_aload_n hx hb dX10_finds_18 rfl (lv_at hl 1 rfl) ?_
    refine gf_X10_4 C hK hP mw_5_166 dX10_finds_19 ?_
    refine lv_iload_n hx hb dX10_finds_22 rfl (lv_at hl 2 rfl) ?_
    obtain ⟨c45, hf⟩ := spn hf
    refine al_M5 C hK hP c45 dX10_finds_23 ?_
    refine lv_aload_n hx hb dX10_finds_24 rfl (lv_at hl 1 rfl) ?_
    refine gf_X10_5 C hK hP mw_5_167 dX10_finds_25 ?_
    refine lv_iload_n hx hb dX10_finds_28 rfl (lv_at hl 2 rfl) ?_
    obtain ⟨c46, hf⟩ := spn hf
    refine al_M6 C hK hP c46 dX10_finds_29 ?_
    obtain ⟨S48, h47, hf⟩ := b1_some hf
    refine hc_V (As := [.int (S0.1 4 (Int32.toNatClampNeg p0)), .int (S0.1 5 (Int32.toNatClampNeg p0)), .int (S0.1 6 (Int32.toNatClampNeg p0))]) (rest := []) C hK (c_X10_fraction l D ct ad F hG (S0.1 4 (Int32.toNatClampNeg p0)) (S0.1 5 (Int32.toNatClampNeg p0)) (S0.1 6 (Int32.toNatClampNeg p0)) S0  S48 h47) hl.1 cp_X10_fraction mw_6_54 (rc_X10 hK hP) hP hS ⟨rfl, rfl⟩ ⟨Nat.le_of_ble_eq_true rfl, Nat.le_of_ble_eq_true rfl⟩ rfl rfl (Nat.le_of_ble_eq_true rfl) dX10_finds_30 ⟨Nat.le_of_ble_eq_true rfl, Nat.le_of_ble_eq_true rfl⟩ (fun H locs hP hS => ?_)
    refine lv_goto (tgt := 219) hx hb dX10_finds_33 (by decide) ?_
    exact w_219 p0 S48 _ _ _ (lv_sub hl [1, 2] rfl) hP hS hf
theorem cp_X10_finds : CPv yX10_finds cX10_finds 3 none 1 := ⟨mw_6_53, mw_1_9, mw_6_52, ms_36, by decide +kernel⟩
def rm_X10_comes : Room := { frames := 6, cells := 0, slots := 0, locals := 193 }
set_option maxHeartbeats 4000000 in
set_option maxRecDepth 100000 in
theorem c_X10_comes (l : Launch) (D : va_G) (ct : Nat → ClassId) (ad : Nat → Nat) (F : Nat → Prop) (hG : Gd ad 18 F) (p0 : Int32) (p1 : Int32) (p2 : Int32) (p3 : Int32) (S0 : St)  (r : Int32) (S' : St) (hf : f_X10_comes p0 p1 p2 p3 S0 = some (r, S')) : MetH l yX10_comes cX10_comes 5 (some .int) rm_X10_comes D (tysW ct) F [.ref (ad 0), .int p0, .int p1, .int p2, .int p3] (some (.int r)) (cellsM ct ad S0) (cellsM ct ad S') := by
  refine MetH.of RX10 (by decide) rfl (Nat.le_of_ble_eq_true rfl) ?_
  intro p e s m args below meth c C hK hP ls hl
  have hl : lv_has ls 5 [(0, .ref (ad 0)), (1, .int p0), (2, .int p1), (3, .int p2), (4, .int p3)] := hl
  obtain ⟨hx, hb, hr, hml, hown, htL, hlocks⟩ := id C
  have hS : va_S F s.heap s.heap [] := va_S.rf
  generalize hQ : MQ below (Hq D (cellsM ct ad S') F (some (.int r))) args s 0 0 F = Q
  refine lv_aload_n hx hb dX10_comes_0 rfl (lv_at hl 0 rfl) ?_
  refine gf_X10_2 C hK hP mw_5_164 dX10_comes_1 ?_
  refine lv_aload_n hx hb dX10_comes_4 rfl (lv_at hl 0 rfl) ?_
  refine gf_X10_19 C hK hP mw_5_181 dX10_comes_5 ?_
  refine lv_iload_n hx hb dX10_comes_8 rfl (lv_at hl 1 rfl) ?_
  obtain ⟨c1, hf⟩ := spn hf
  refine as_M3 C hK hP hG hS c1 dX10_comes_9 (fun H locs hP hS => ?_)
  refine lv_aload_n hx hb dX10_comes_10 rfl (lv_at hl 0 rfl) ?_
  refine gf_X10_3 C hK hP mw_5_165 dX10_comes_11 ?_
  refine lv_aload_n hx hb dX10_comes_14 rfl (lv_at hl 0 rfl) ?_
  refine gf_X10_19 C hK hP mw_5_181 dX10_comes_15 ?_
  refine lv_iload_n hx hb dX10_comes_18 rfl (lv_at hl 2 rfl) ?_
  obtain ⟨c2, hf⟩ := spn hf
  refine as_M4 C hK hP hG hS c2 dX10_comes_19 (fun H locs hP hS => ?_)
  refine lv_aload_n hx hb dX10_comes_20 rfl (lv_at hl 0 rfl) ?_
  refine gf_X10_4 C hK hP mw_5_166 dX10_comes_21 ?_
  refine lv_aload_n hx hb dX10_comes_24 rfl (lv_at hl 0 rfl) ?_
  refine gf_X10_19 C hK hP mw_5_181 dX10_comes_25 ?_
  refine lv_iload_n hx hb dX10_comes_28 rfl (lv_at hl 3 rfl) ?_
  obtain ⟨c3, hf⟩ := spn hf
  refine as_M5 C hK hP hG hS c3 dX10_comes_29 (fun H locs hP hS => ?_)
  refine lv_aload_n hx hb dX10_comes_30 rfl (lv_at hl 0 rfl) ?_
  refine gf_X10_5 C hK hP mw_5_167 dX10_comes_31 ?_
  refine lv_aload_n hx hb dX10_comes_34 rfl (lv_at hl 0 rfl) ?_
  refine gf_X10_19 C hK hP mw_5_181 dX10_comes_35 ?_
  refine lv_iload hx hb dX10_comes_38 (lv_at hl 4 rfl) ?_
  obtain ⟨c4, hf⟩ := spn hf
  refine as_M6 C hK hP hG hS c4 dX10_comes_40 (fun H locs hP hS => ?_)
  refine lv_aload_n hx hb dX10_comes_41 rfl (lv_at hl 0 rfl) ?_
  refine gf_X10_8 C hK hP mw_5_170 dX10_comes_42 ?_
  refine lv_aload_n hx hb dX10_comes_45 rfl (lv_at hl 0 rfl) ?_
  refine gf_X10_19 C hK hP mw_5_181 dX10_comes_46 ?_
  refine lv_iconst (v := 0) hx hb dX10_comes_49 (by decide) ?_
  obtain ⟨c5, hf⟩ := spn hf
  refine as_M9 C hK hP hG hS c5 dX10_comes_50 (fun H locs hP hS => ?_)
  refine lv_aload_n hx hb dX10_comes_51 rfl (lv_at hl 0 rfl) ?_
  refine lv_aload_n hx hb dX10_comes_52 rfl (lv_at hl 0 rfl) ?_
  refine gf_X10_19 C hK hP mw_5_181 dX10_comes_53 ?_
  obtain ⟨S7, h6, hf⟩ := b1_some hf
  refine hc_V (As := [.int ((wI (wI (wI (wI (wI S0 3 (Int32.toNatClampNeg (S0.1 0 19)) p0) 4 (Int32.toNatClampNeg ((wI S0 3 (Int32.toNatClampNeg (S0.1 0 19)) p0).1 0 19)) p1) 5 (Int32.toNatClampNeg ((wI (wI S0 3 (Int32.toNatClampNeg (S0.1 0 19)) p0) 4 (Int32.toNatClampNeg ((wI S0 3 (Int32.toNatClampNeg (S0.1 0 19)) p0).1 0 19)) p1).1 0 19)) p2) 6 (Int32.toNatClampNeg ((wI (wI (wI S0 3 (Int32.toNatClampNeg (S0.1 0 19)) p0) 4 (Int32.toNatClampNeg ((wI S0 3 (Int32.toNatClampNeg (S0.1 0 19)) p0).1 0 19)) p1) 5 (Int32.toNatClampNeg ((wI (wI S0 3 (Int32.toNatClampNeg (S0.1 0 19)) p0) 4 (Int32.toNatClampNeg ((wI S0 3 (Int32.toNatClampNeg (S0.1 0 19)) p0).1 0 19)) p1).1 0 19)) p2).1 0 19)) p3) 9 (Int32.toNatClampNeg ((wI (wI (wI (wI S0 3 (Int32.toNatClampNeg (S0.1 0 19)) p0) 4 (Int32.toNatClampNeg ((wI S0 3 (Int32.toNatClampNeg (S0.1 0 19)) p0).1 0 19)) p1) 5 (Int32.toNatClampNeg ((wI (wI S0 3 (Int32.toNatClampNeg (S0.1 0 19)) p0) 4 (Int32.toNatClampNeg ((wI S0 3 (Int32.toNatClampNeg (S0.1 0 19)) p0).1 0 19)) p1).1 0 19)) p2) 6 (Int32.toNatClampNeg ((wI (wI (wI S0 3 (Int32.toNatClampNeg (S0.1 0 19)) p0) 4 (Int32.toNatClampNeg ((wI S0 3 (Int32.toNatClampNeg (S0.1 0 19)) p0).1 0 19)) p1) 5 (Int32.toNatClampNeg ((wI (wI S0 3 (Int32.toNatClampNeg (S0.1 0 19)) p0) 4 (Int32.toNatClampNeg ((wI S0 3 (Int32.toNatClampNeg (S0.1 0 19)) p0).1 0 19)) p1).1 0 19)) p2).1 0 19)) p3).1 0 19)) (vp_nar .boolean 0)).1 0 19)]) (rest := []) C hK (c_X10_finds l D ct ad F hG ((wI (wI (wI (wI (wI S0 3 (Int32.toNatClampNeg (S0.1 0 19)) p0) 4 (Int32.toNatClampNeg ((wI S0 3 (Int32.toNatClampNeg (S0.1 0 19)) p0).1 0 19)) p1) 5 (Int32.toNatClampNeg ((wI (wI S0 3 (Int32.toNatClampNeg (S0.1 0 19)) p0) 4 (Int32.toNatClampNeg ((wI S0 3 (Int32.toNatClampNeg (S0.1 0 19)) p0).1 0 19)) p1).1 0 19)) p2) 6 (Int32.toNatClampNeg ((wI (wI (wI S0 3 (Int32.toNatClampNeg (S0.1 0 19)) p0) 4 (Int32.toNatClampNeg ((wI S0 3 (Int32.toNatClampNeg (S0.1 0 19)) p0).1 0 19)) p1) 5 (Int32.toNatClampNeg ((wI (wI S0 3 (Int32.toNatClampNeg (S0.1 0 19)) p0) 4 (Int32.toNatClampNeg ((wI S0 3 (Int32.toNatClampNeg (S0.1 0 19)) p0).1 0 19)) p1).1 0 19)) p2).1 0 19)) p3) 9 (Int32.toNatClampNeg ((wI (wI (wI (wI S0 3 (Int32.toNatClampNeg (S0.1 0 19)) p0) 4 (Int32.toNatClampNeg ((wI S0 3 (Int32.toNatClampNeg (S0.1 0 19)) p0).1 0 19)) p1) 5 (Int32.toNatClampNeg ((wI (wI S0 3 (Int32.toNatClampNeg (S0.1 0 19)) p0) 4 (Int32.toNatClampNeg ((wI S0 3 (Int32.toNatClampNeg (S0.1 0 19)) p0).1 0 19)) p1).1 0 19)) p2) 6 (Int32.toNatClampNeg ((wI (wI (wI S0 3 (Int32.toNatClampNeg (S0.1 0 19)) p0) 4 (Int32.toNatClampNeg ((wI S0 3 (Int32.toNatClampNeg (S0.1 0 19)) p0).1 0 19)) p1) 5 (Int32.toNatClampNeg ((wI (wI S0 3 (Int32.toNatClampNeg (S0.1 0 19)) p0) 4 (Int32.toNatClampNeg ((wI S0 3 (Int32.toNatClampNeg (S0.1 0 19)) p0).1 0 19)) p1).1 0 19)) p2).1 0 19)) p3).1 0 19)) (vp_nar .boolean 0)).1 0 19) (wI (wI (wI (wI (wI S0 3 (Int32.toNatClampNeg (S0.1 0 19)) p0) 4 (Int32.toNatClampNeg ((wI S0 3 (Int32.toNatClampNeg (S0.1 0 19)) p0).1 0 19)) p1) 5 (Int32.toNatClampNeg ((wI (wI S0 3 (Int32.toNatClampNeg (S0.1 0 19)) p0) 4 (Int32.toNatClampNeg ((wI S0 3 (Int32.toNatClampNeg (S0.1 0 19)) p0).1 0 19)) p1).1 0 19)) p2) 6 (Int32.toNatClampNeg ((wI (wI (wI S0 3 (Int32.toNatClampNeg (S0.1 0 19)) p0) 4 (Int32.toNatClampNeg ((wI S0 3 (Int32.toNatClampNeg (S0.1 0 19)) p0).1 0 19)) p1) 5 (Int32.toNatClampNeg ((wI (wI S0 3 (Int32.toNatClampNeg (S0.1 0 19)) p0) 4 (Int32.toNatClampNeg ((wI S0 3 (Int32.toNatClampNeg (S0.1 0 19)) p0).1 0 19)) p1).1 0 19)) p2).1 0 19)) p3) 9 (Int32.toNatClampNeg ((wI (wI (wI (wI S0 3 (Int32.toNatClampNeg (S0.1 0 19)) p0) 4 (Int32.toNatClampNeg ((wI S0 3 (Int32.toNatClampNeg (S0.1 0 19)) p0).1 0 19)) p1) 5 (Int32.toNatClampNeg ((wI (wI S0 3 (Int32.toNatClampNeg (S0.1 0 19)) p0) 4 (Int32.toNatClampNeg ((wI S0 3 (Int32.toNatClampNeg (S0.1 0 19)) p0).1 0 19)) p1).1 0 19)) p2) 6 (Int32.toNatClampNeg ((wI (wI (wI S0 3 (Int32.toNatClampNeg (S0.1 0 19)) p0) 4 (Int32.toNatClampNeg ((wI S0 3 (Int32.toNatClampNeg (S0.1 0 19)) p0).1 0 19)) p1) 5 (Int32.toNatClampNeg ((wI (wI S0 3 (Int32.toNatClampNeg (S0.1 0 19)) p0) 4 (Int32.toNatClampNeg ((wI S0 3 (Int32.toNatClampNeg (S0.1 0 19)) p0).1 0 19)) p1).1 0 19)) p2).1 0 19)) p3).1 0 19)) (vp_nar .boolean 0))  S7 h6) hl.1 cp_X10_finds mw_6_50 (rc_X10 hK hP) hP hS ⟨rfl, rfl⟩ ⟨Nat.le_of_ble_eq_true rfl, Nat.le_of_ble_eq_true rfl⟩ rfl rfl (Nat.le_of_ble_eq_true rfl) dX10_comes_56 ⟨Nat.le_of_ble_eq_true rfl, Nat.le_of_ble_eq_true rfl⟩ (fun H locs hP hS => ?_)
  refine lv_aload_n hx hb dX10_comes_59 rfl (lv_at hl 0 rfl) ?_
  refine lv_dup hx hb dX10_comes_60 rfl ?_
  refine gf_X10_19 C hK hP mw_5_181 dX10_comes_61 ?_
  refine lv_dup_x1 hx hb dX10_comes_64 rfl rfl ?_
  refine lv_iconst (v := 1) hx hb dX10_comes_65 (by decide) ?_
  refine lv_iadd hx hb dX10_comes_66 ?_
  refine pf_X10_19 C hK hP hG hS mw_5_181 dX10_comes_67 (fun H locs hP hS => ?_)
  cases hf
  subst hQ
  exact he_i C hP hS dX10_comes_70
theorem cp_X10_comes : CPv yX10_comes cX10_comes 5 (some .int) 4 := ⟨mw_6_49, mw_1_9, mw_6_48, ms_35, by decide +kernel⟩
def rm_X10_noRoom : Room := { frames := 1, cells := 0, slots := 0, locals := 26 }
set_option maxHeartbeats 4000000 in
set_option maxRecDepth 100000 in
theorem c_X10_noRoom (l : Launch) (D : va_G) (ct : Nat → ClassId) (ad : Nat → Nat) (F : Nat → Prop) (hG : Gd ad 18 F) (p0 : Int32) (S0 : St)  (r : Int32) (S' : St) (hf : f_X10_noRoom p0 S0 = some (r, S')) : MetH l yX10_noRoom cX10_noRoom 2 (some .boolean) rm_X10_noRoom D (tysW ct) F [.ref (ad 0), .int p0] (some (.int r)) (cellsM ct ad S0) (cellsM ct ad S') := by
  refine MetH.of RX10 (by decide) rfl (Nat.le_of_ble_eq_true rfl) ?_
  intro p e s m args below meth c C hK hP ls hl
  have hl : lv_has ls 2 [(0, .ref (ad 0)), (1, .int p0)] := hl
  obtain ⟨hx, hb, hr, hml, hown, htL, hlocks⟩ := id C
  have hS : va_S F s.heap s.heap [] := va_S.rf
  generalize hQ : MQ below (Hq D (cellsM ct ad S') F (some (.int r))) args s 0 0 F = Q
  have w_15 : ∀ (x1 : Int32) (y1 : Int32) (S : St), ∀ (H : Heap) (locs : List Loc) (ls : Array Slot), lv_has ls 2 [(1, .int x1)] → va_P D vwCl (cellsM ct ad S) H → va_S F s.heap H locs → n_X10_noRoom_15 x1 y1 S = some (r, S') → W p l e rm_X10_noRoom s m args below meth c H locs 0 0 Q (F0 m 15 ls [.int y1, .ref (ad 0)]) := by
    intro  x1 y1 S H locs ls hl hP hS hf
    refine lv_iload_n hx hb dX10_noRoom_15 rfl (lv_at hl 0 rfl) ?_
    obtain ⟨v2, S3, h1, hf⟩ := b2_some hf
    refine hc_V (As := [.int y1, .int x1]) (rest := []) C hK (c_X10_no l D ct ad F hG y1 x1 S  v2 S3 h1) hl.1 cp_X10_no mw_6_21 (rc_X10 hK hP) hP hS ⟨rfl, rfl⟩ ⟨Nat.le_of_ble_eq_true rfl, Nat.le_of_ble_eq_true rfl⟩ rfl rfl (Nat.le_of_ble_eq_true rfl) dX10_noRoom_16 ⟨Nat.le_of_ble_eq_true rfl, Nat.le_of_ble_eq_true rfl⟩ (fun H locs hP hS => ?_)
    obtain ⟨c4, hf⟩ := spy hf
    cases hf
    subst hQ
    exact he_z C c4 hP hS dX10_noRoom_19
  refine lv_aload_n hx hb dX10_noRoom_0 rfl (lv_at hl 0 rfl) ?_
  refine lv_aload_n hx hb dX10_noRoom_1 rfl (lv_at hl 0 rfl) ?_
  refine gf_X10_19 C hK hP mw_5_181 dX10_noRoom_2 ?_
  refine lv_bipush (v := 40) hx hb dX10_noRoom_5 (by decide) ?_
  refine lv_icmp_ge (tgt := 14) hx hb dX10_noRoom_7 (by decide) (fun c5 => ?_) (fun c5 => ?_)
  · have hf := sp1 c5 hf
    refine lv_iconst (v := 0) hx hb dX10_noRoom_14 (by decide) ?_
    exact w_15 p0 0 S0 _ _ _ (lv_sub hl [1] rfl) hP hS hf
  · have hf := sp0 c5 hf
    refine lv_iconst (v := 1) hx hb dX10_noRoom_10 (by decide) ?_
    refine lv_goto (tgt := 15) hx hb dX10_noRoom_11 (by decide) ?_
    exact w_15 p0 1 S0 _ _ _ (lv_sub hl [1] rfl) hP hS hf
theorem cp_X10_noRoom : CPv yX10_noRoom cX10_noRoom 2 (some .boolean) 1 := ⟨mw_6_45, mw_1_9, mw_6_44, ms_34, by decide +kernel⟩
def rm_X10_setPrime : Room := { frames := 1, cells := 0, slots := 0, locals := 29 }
set_option maxHeartbeats 4000000 in
set_option maxRecDepth 100000 in
theorem c_X10_setPrime (l : Launch) (D : va_G) (ct : Nat → ClassId) (ad : Nat → Nat) (F : Nat → Prop) (hG : Gd ad 18 F) (p0 : Int32) (S0 : St)  (r : Int32) (S' : St) (hf : f_X10_setPrime p0 S0 = some (r, S')) : MetH l yX10_setPrime cX10_setPrime 3 (some .int) rm_X10_setPrime D (tysW ct) F [.ref (ad 0), .int p0] (some (.int r)) (cellsM ct ad S0) (cellsM ct ad S') := by
  refine MetH.of RX10 (by decide) rfl (Nat.le_of_ble_eq_true rfl) ?_
  intro p e s m args below meth c C hK hP ls hl
  have hl : lv_has ls 3 [(0, .ref (ad 0)), (1, .int p0)] := hl
  obtain ⟨hx, hb, hr, hml, hown, htL, hlocks⟩ := id C
  have hS : va_S F s.heap s.heap [] := va_S.rf
  generalize hQ : MQ below (Hq D (cellsM ct ad S') F (some (.int r))) args s 0 0 F = Q
  have w_47 : ∀ (x1 : Int32) (y1 : Int32) (S : St), ∀ (H : Heap) (locs : List Loc) (ls : Array Slot), lv_has ls 3 [(0, .ref (ad 0)), (1, .int x1)] → va_P D vwCl (cellsM ct ad S) H → va_S F s.heap H locs → n_X10_setPrime_47 x1 y1 S = some (r, S') → W p l e rm_X10_setPrime s m args below meth c H locs 0 0 Q (F0 m 47 ls [.int y1, .ref (ad 0)]) := by
    intro  x1 y1 S H locs ls hl hP hS hf
    refine lv_iconst (v := 2) hx hb dX10_setPrime_47 (by decide) ?_
    obtain ⟨v2, S3, h1, hf⟩ := b2_some hf
    refine hc_V (As := [.int y1, .int 2]) (rest := []) C hK (c_X10_no l D ct ad F hG y1 2 S  v2 S3 h1) hl.1 cp_X10_no mw_6_21 (rc_X10 hK hP) hP hS ⟨rfl, rfl⟩ ⟨Nat.le_of_ble_eq_true rfl, Nat.le_of_ble_eq_true rfl⟩ rfl rfl (Nat.le_of_ble_eq_true rfl) dX10_setPrime_48 ⟨Nat.le_of_ble_eq_true rfl, Nat.le_of_ble_eq_true rfl⟩ (fun H locs hP hS => ?_)
    refine lv_if_eq (tgt := 56) hx hb dX10_setPrime_51 (by decide) (fun c4 => ?_) (fun c4 => ?_)
    · have hf := sp1 c4 hf
      refine lv_aload_n hx hb dX10_setPrime_56 rfl (lv_at hl 0 rfl) ?_
      refine gf_X10_18 C hK hP mw_5_180 dX10_setPrime_57 ?_
      refine lv_istore_n (lv' := [(2, .int (S3.1 0 18)), (0, .ref (ad 0)), (1, .int x1)]) hx hb dX10_setPrime_60 rfl hl (by decide) rfl (fun ls hl => ?_)
      refine lv_aload_n hx hb dX10_setPrime_61 rfl (lv_at hl 1 rfl) ?_
      refine lv_iload_n hx hb dX10_setPrime_62 rfl (lv_at hl 2 rfl) ?_
      refine pf_X10_18 C hK hP hG hS mw_5_180 dX10_setPrime_63 (fun H locs hP hS => ?_)
      refine lv_iload_n hx hb dX10_setPrime_66 rfl (lv_at hl 0 rfl) ?_
      cases hf
      subst hQ
      exact he_i C hP hS dX10_setPrime_67
    · have hf := sp0 c4 hf
      refine lv_iconst (v := 0) hx hb dX10_setPrime_54 (by decide) ?_
      cases hf
      subst hQ
      exact he_i C hP hS dX10_setPrime_55
  have w_27 : ∀ (x1 : Int32) (y1 : Int32) (S : St), ∀ (H : Heap) (locs : List Loc) (ls : Array Slot), lv_has ls 3 [(0, .ref (ad 0)), (1, .int x1)] → va_P D vwCl (cellsM ct ad S) H → va_S F s.heap H locs → n_X10_setPrime_27 x1 y1 S = some (r, S') → W p l e rm_X10_setPrime s m args below meth c H locs 0 0 Q (F0 m 27 ls [.int y1, .ref (ad 0)]) := by
    intro  x1 y1 S H locs ls hl hP hS hf
    refine lv_iconst (v := 1) hx hb dX10_setPrime_27 (by decide) ?_
    obtain ⟨v6, S7, h5, hf⟩ := b2_some hf
    refine hc_V (As := [.int y1, .int 1]) (rest := []) C hK (c_X10_no l D ct ad F hG y1 1 S  v6 S7 h5) hl.1 cp_X10_no mw_6_21 (rc_X10 hK hP) hP hS ⟨rfl, rfl⟩ ⟨Nat.le_of_ble_eq_true rfl, Nat.le_of_ble_eq_true rfl⟩ rfl rfl (Nat.le_of_ble_eq_true rfl) dX10_setPrime_28 ⟨Nat.le_of_ble_eq_true rfl, Nat.le_of_ble_eq_true rfl⟩ (fun H locs hP hS => ?_)
    refine lv_if_ne (tgt := 54) hx hb dX10_setPrime_31 (by decide) (fun c8 => ?_) (fun c8 => ?_)
    · have hf := sp0 c8 hf
      refine lv_iconst (v := 0) hx hb dX10_setPrime_54 (by decide) ?_
      cases hf
      subst hQ
      exact he_i C hP hS dX10_setPrime_55
    · have hf := sp1 c8 hf
      refine lv_aload_n hx hb dX10_setPrime_34 rfl (lv_at hl 0 rfl) ?_
      refine lv_aload_n hx hb dX10_setPrime_35 rfl (lv_at hl 0 rfl) ?_
      refine gf_X10_19 C hK hP mw_5_181 dX10_setPrime_36 ?_
      refine lv_if_ne (tgt := 46) hx hb dX10_setPrime_39 (by decide) (fun c9 => ?_) (fun c9 => ?_)
      · have hf := sp0 c9 hf
        refine lv_iconst (v := 0) hx hb dX10_setPrime_46 (by decide) ?_
        exact w_47 x1 0 S7 _ _ _ (lv_sub hl [0, 1] rfl) hP hS hf
      · have hf := sp1 c9 hf
        refine lv_iconst (v := 1) hx hb dX10_setPrime_42 (by decide) ?_
        refine lv_goto (tgt := 47) hx hb dX10_setPrime_43 (by decide) ?_
        exact w_47 x1 1 S7 _ _ _ (lv_sub hl [0, 1] rfl) hP hS hf
  refine lv_aload_n hx hb dX10_setPrime_0 rfl (lv_at hl 0 rfl) ?_
  refine lv_iload_n hx hb dX10_setPrime_1 rfl (lv_at hl 1 rfl) ?_
  refine lv_i2l hx hb dX10_setPrime_2 rfl ?_
  refine lv_ldc2 (v := 2) hx hb hown (htL _ mw_6_13) dX10_setPrime_3 ?_
  refine lv_ldc2 (v := 97) hx hb hown (htL _ mw_6_14) dX10_setPrime_6 ?_
  obtain ⟨v10, h11, hf⟩ := b1_some hf
  refine pc_S (As := [.long (Int32.toInt64 p0), .long (2), .long (97)]) (rest := [.ref (ad 0)]) C (c_X10_isIn l (Int32.toInt64 p0) (2) (97) v10 h11) hl.1 cp_X10_isIn mw_6_15 ⟨rfl, rfl⟩ ⟨Nat.le_of_ble_eq_true rfl, Nat.le_of_ble_eq_true rfl⟩ rfl rfl (Nat.le_of_ble_eq_true rfl) dX10_setPrime_9 ⟨Nat.le_of_ble_eq_true rfl, Nat.le_of_ble_eq_true rfl⟩ ?_
  refine lv_if_eq (tgt := 26) hx hb dX10_setPrime_12 (by decide) (fun c12 => ?_) (fun c12 => ?_)
  · have hf := sp1 c12 hf
    refine lv_iconst (v := 0) hx hb dX10_setPrime_26 (by decide) ?_
    exact w_27 p0 0 S0 _ _ _ (lv_sub hl [0, 1] rfl) hP hS hf
  · have hf := sp0 c12 hf
    refine lv_iload_n hx hb dX10_setPrime_15 rfl (lv_at hl 1 rfl) ?_
    obtain ⟨v13, h14, hf⟩ := b1_some hf
    refine pc_S (As := [.int p0]) (rest := [.ref (ad 0)]) C (c_X10_isPrime l p0 v13 h14) hl.1 cp_X10_isPrime mw_6_18 ⟨rfl, rfl⟩ ⟨Nat.le_of_ble_eq_true rfl, Nat.le_of_ble_eq_true rfl⟩ rfl rfl (Nat.le_of_ble_eq_true rfl) dX10_setPrime_16 ⟨Nat.le_of_ble_eq_true rfl, Nat.le_of_ble_eq_true rfl⟩ ?_
    refine lv_if_eq (tgt := 26) hx hb dX10_setPrime_19 (by decide) (fun c15 => ?_) (fun c15 => ?_)
    · have hf := sp1 c15 hf
      refine lv_iconst (v := 0) hx hb dX10_setPrime_26 (by decide) ?_
      exact w_27 p0 0 S0 _ _ _ (lv_sub hl [0, 1] rfl) hP hS hf
    · have hf := sp0 c15 hf
      refine lv_iconst (v := 1) hx hb dX10_setPrime_22 (by decide) ?_
      refine lv_goto (tgt := 27) hx hb dX10_setPrime_23 (by decide) ?_
      exact w_27 p0 1 S0 _ _ _ (lv_sub hl [0, 1] rfl) hP hS hf
theorem cp_X10_setPrime : CPv yX10_setPrime cX10_setPrime 3 (some .int) 1 := ⟨mw_6_12, mw_1_9, mw_6_10, mw_6_11, by decide +kernel⟩
def rm_X10_reach : Room := { frames := 1, cells := 0, slots := 0, locals := 27 }
set_option maxHeartbeats 4000000 in
set_option maxRecDepth 100000 in
theorem c_X10_reach (l : Launch) (D : va_G) (ct : Nat → ClassId) (ad : Nat → Nat) (F : Nat → Prop) (hG : Gd ad 18 F)  (S0 : St)  (r : Int32) (hf : f_X10_reach  S0 = some r) : MetH l yX10_reach cX10_reach 1 (some .int) rm_X10_reach D (tysW ct) F [.ref (ad 0)] (some (.int r)) (cellsM ct ad S0) (cellsM ct ad S0) := by
  refine MetH.of RX10 (by decide) rfl (Nat.le_of_ble_eq_true rfl) ?_
  intro p e s m args below meth c C hK hP ls hl
  have hl : lv_has ls 1 [(0, .ref (ad 0))] := hl
  obtain ⟨hx, hb, hr, hml, hown, htL, hlocks⟩ := id C
  have hS : va_S F s.heap s.heap [] := va_S.rf
  generalize hQ : MQ below (Hq D (cellsM ct ad S0) F (some (.int r))) args s 0 0 F = Q
  refine lv_aload_n hx hb dX10_reach_0 rfl (lv_at hl 0 rfl) ?_
  obtain ⟨v2, h1, hf⟩ := b1_some hf
  refine hc_V (As := []) (rest := []) C hK (c_X10_most l D ct ad F hG S0  v2 h1) hl.1 cp_X10_most mw_6_29 (rc_X10 hK hP) hP hS ⟨rfl, rfl⟩ ⟨Nat.le_of_ble_eq_true rfl, Nat.le_of_ble_eq_true rfl⟩ rfl rfl (Nat.le_of_ble_eq_true rfl) dX10_reach_1 ⟨Nat.le_of_ble_eq_true rfl, Nat.le_of_ble_eq_true rfl⟩ (fun H locs hP hS => ?_)
  cases hf
  subst hQ
  exact he_i C hP hS dX10_reach_4
theorem cp_X10_reach : CPv yX10_reach cX10_reach 1 (some .int) 0 := ⟨mw_6_28, mw_1_9, mw_6_26, mw_6_27, by decide +kernel⟩
def rm_X10_give : Room := { frames := 7, cells := 0, slots := 0, locals := 221 }
set_option maxHeartbeats 4000000 in
set_option maxRecDepth 100000 in
theorem c_X10_give (l : Launch) (D : va_G) (ct : Nat → ClassId) (ad : Nat → Nat) (F : Nat → Prop) (hG : Gd ad 18 F) (p0 : Int32) (p1 : Int32) (p2 : Int32) (S0 : St)  (r : Int32) (S' : St) (hf : f_X10_give p0 p1 p2 S0 = some (r, S')) : MetH l yX10_give cX10_give 4 (some .int) rm_X10_give D (tysW ct) F [.ref (ad 0), .int p0, .int p1, .int p2] (some (.int r)) (cellsM ct ad S0) (cellsM ct ad S') := by
  refine MetH.of RX10 (by decide) rfl (Nat.le_of_ble_eq_true rfl) ?_
  intro p e s m args below meth c C hK hP ls hl
  have hl : lv_has ls 4 [(0, .ref (ad 0)), (1, .int p0), (2, .int p1), (3, .int p2)] := hl
  obtain ⟨hx, hb, hr, hml, hown, htL, hlocks⟩ := id C
  have hS : va_S F s.heap s.heap [] := va_S.rf
  generalize hQ : MQ below (Hq D (cellsM ct ad S') F (some (.int r))) args s 0 0 F = Q
  have w_46 : ∀ (x1 : Int32) (x2 : Int32) (x3 : Int32) (y1 : Int32) (S : St), ∀ (H : Heap) (locs : List Loc) (ls : Array Slot), lv_has ls 4 [(0, .ref (ad 0)), (1, .int x1), (2, .int x2), (3, .int x3)] → va_P D vwCl (cellsM ct ad S) H → va_S F s.heap H locs → n_X10_give_46 x1 x2 x3 y1 S = some (r, S') → W p l e rm_X10_give s m args below meth c H locs 0 0 Q (F0 m 46 ls [.int y1, .ref (ad 0)]) := by
    intro  x1 x2 x3 y1 S H locs ls hl hP hS hf
    refine lv_iconst (v := 1) hx hb dX10_give_46 (by decide) ?_
    obtain ⟨v2, S3, h1, hf⟩ := b2_some hf
    refine hc_V (As := [.int y1, .int 1]) (rest := []) C hK (c_X10_no l D ct ad F hG y1 1 S  v2 S3 h1) hl.1 cp_X10_no mw_6_21 (rc_X10 hK hP) hP hS ⟨rfl, rfl⟩ ⟨Nat.le_of_ble_eq_true rfl, Nat.le_of_ble_eq_true rfl⟩ rfl rfl (Nat.le_of_ble_eq_true rfl) dX10_give_47 ⟨Nat.le_of_ble_eq_true rfl, Nat.le_of_ble_eq_true rfl⟩ (fun H locs hP hS => ?_)
    refine lv_if_ne (tgt := 61) hx hb dX10_give_50 (by decide) (fun c4 => ?_) (fun c4 => ?_)
    · have hf := sp0 c4 hf
      refine lv_iconst (v := 0) hx hb dX10_give_61 (by decide) ?_
      cases hf
      subst hQ
      exact he_i C hP hS dX10_give_62
    · have hf := sp1 c4 hf
      refine lv_aload_n hx hb dX10_give_53 rfl (lv_at hl 0 rfl) ?_
      refine lv_iconst (v := 2) hx hb dX10_give_54 (by decide) ?_
      obtain ⟨v6, S7, h5, hf⟩ := b2_some hf
      refine hc_V (As := [.int 2]) (rest := []) C hK (c_X10_noRoom l D ct ad F hG 2 S3  v6 S7 h5) hl.1 cp_X10_noRoom mw_6_42 (rc_X10 hK hP) hP hS ⟨rfl, rfl⟩ ⟨Nat.le_of_ble_eq_true rfl, Nat.le_of_ble_eq_true rfl⟩ rfl rfl (Nat.le_of_ble_eq_true rfl) dX10_give_55 ⟨Nat.le_of_ble_eq_true rfl, Nat.le_of_ble_eq_true rfl⟩ (fun H locs hP hS => ?_)
      refine lv_if_eq (tgt := 63) hx hb dX10_give_58 (by decide) (fun c8 => ?_) (fun c8 => ?_)
      · have hf := sp1 c8 hf
        refine lv_aload_n hx hb dX10_give_63 rfl (lv_at hl 0 rfl) ?_
        refine lv_iconst (v := 0) hx hb dX10_give_64 (by decide) ?_
        refine lv_iload_n hx hb dX10_give_65 rfl (lv_at hl 1 rfl) ?_
        refine lv_iload_n hx hb dX10_give_66 rfl (lv_at hl 2 rfl) ?_
        refine lv_iload_n hx hb dX10_give_67 rfl (lv_at hl 3 rfl) ?_
        obtain ⟨v10, S11, h9, hf⟩ := b2_some hf
        refine hc_V (As := [.int 0, .int x1, .int x2, .int x3]) (rest := []) C hK (c_X10_comes l D ct ad F hG 0 x1 x2 x3 S7  v10 S11 h9) hl.1 cp_X10_comes mw_6_46 (rc_X10 hK hP) hP hS ⟨rfl, rfl⟩ ⟨Nat.le_of_ble_eq_true rfl, Nat.le_of_ble_eq_true rfl⟩ rfl rfl (Nat.le_of_ble_eq_true rfl) dX10_give_68 ⟨Nat.le_of_ble_eq_true rfl, Nat.le_of_ble_eq_true rfl⟩ (fun H locs hP hS => ?_)
        cases hf
        subst hQ
        exact he_i C hP hS dX10_give_71
      · have hf := sp0 c8 hf
        refine lv_iconst (v := 0) hx hb dX10_give_61 (by decide) ?_
        cases hf
        subst hQ
        exact he_i C hP hS dX10_give_62
  refine lv_aload_n hx hb dX10_give_0 rfl (lv_at hl 0 rfl) ?_
  refine lv_iload_n hx hb dX10_give_1 rfl (lv_at hl 1 rfl) ?_
  refine lv_i2l hx hb dX10_give_2 rfl ?_
  refine lv_ldc2 (v := -1000000) hx hb hown (htL _ mw_6_38) dX10_give_3 ?_
  refine lv_ldc2 (v := 1000000) hx hb hown (htL _ mw_6_39) dX10_give_6 ?_
  obtain ⟨v12, h13, hf⟩ := b1_some hf
  refine pc_S (As := [.long (Int32.toInt64 p0), .long (-1000000), .long (1000000)]) (rest := [.ref (ad 0)]) C (c_X10_isIn l (Int32.toInt64 p0) (-1000000) (1000000) v12 h13) hl.1 cp_X10_isIn mw_6_15 ⟨rfl, rfl⟩ ⟨Nat.le_of_ble_eq_true rfl, Nat.le_of_ble_eq_true rfl⟩ rfl rfl (Nat.le_of_ble_eq_true rfl) dX10_give_9 ⟨Nat.le_of_ble_eq_true rfl, Nat.le_of_ble_eq_true rfl⟩ ?_
  refine lv_if_eq (tgt := 45) hx hb dX10_give_12 (by decide) (fun c14 => ?_) (fun c14 => ?_)
  · have hf := sp1 c14 hf
    refine lv_iconst (v := 0) hx hb dX10_give_45 (by decide) ?_
    exact w_46 p0 p1 p2 0 S0 _ _ _ (lv_sub hl [0, 1, 2, 3] rfl) hP hS hf
  · have hf := sp0 c14 hf
    refine lv_iload_n hx hb dX10_give_15 rfl (lv_at hl 2 rfl) ?_
    refine lv_i2l hx hb dX10_give_16 rfl ?_
    refine lv_lconst (v := 1) hx hb dX10_give_17 (by decide) ?_
    refine lv_ldc2 (v := 1000000) hx hb hown (htL _ mw_6_39) dX10_give_18 ?_
    obtain ⟨v15, h16, hf⟩ := b1_some hf
    refine pc_S (As := [.long (Int32.toInt64 p1), .long 1, .long (1000000)]) (rest := [.ref (ad 0)]) C (c_X10_isIn l (Int32.toInt64 p1) 1 (1000000) v15 h16) hl.1 cp_X10_isIn mw_6_15 ⟨rfl, rfl⟩ ⟨Nat.le_of_ble_eq_true rfl, Nat.le_of_ble_eq_true rfl⟩ rfl rfl (Nat.le_of_ble_eq_true rfl) dX10_give_21 ⟨Nat.le_of_ble_eq_true rfl, Nat.le_of_ble_eq_true rfl⟩ ?_
    refine lv_if_eq (tgt := 45) hx hb dX10_give_24 (by decide) (fun c17 => ?_) (fun c17 => ?_)
    · have hf := sp1 c17 hf
      refine lv_iconst (v := 0) hx hb dX10_give_45 (by decide) ?_
      exact w_46 p0 p1 p2 0 S0 _ _ _ (lv_sub hl [0, 1, 2, 3] rfl) hP hS hf
    · have hf := sp0 c17 hf
      refine lv_iload_n hx hb dX10_give_27 rfl (lv_at hl 3 rfl) ?_
      refine lv_i2l hx hb dX10_give_28 rfl ?_
      refine lv_ldc2 (v := -20) hx hb hown (htL _ mw_6_40) dX10_give_29 ?_
      refine lv_ldc2 (v := 20) hx hb hown (htL _ mw_6_41) dX10_give_32 ?_
      obtain ⟨v18, h19, hf⟩ := b1_some hf
      refine pc_S (As := [.long (Int32.toInt64 p2), .long (-20), .long (20)]) (rest := [.ref (ad 0)]) C (c_X10_isIn l (Int32.toInt64 p2) (-20) (20) v18 h19) hl.1 cp_X10_isIn mw_6_15 ⟨rfl, rfl⟩ ⟨Nat.le_of_ble_eq_true rfl, Nat.le_of_ble_eq_true rfl⟩ rfl rfl (Nat.le_of_ble_eq_true rfl) dX10_give_35 ⟨Nat.le_of_ble_eq_true rfl, Nat.le_of_ble_eq_true rfl⟩ ?_
      refine lv_if_eq (tgt := 45) hx hb dX10_give_38 (by decide) (fun c20 => ?_) (fun c20 => ?_)
      · have hf := sp1 c20 hf
        refine lv_iconst (v := 0) hx hb dX10_give_45 (by decide) ?_
        exact w_46 p0 p1 p2 0 S0 _ _ _ (lv_sub hl [0, 1, 2, 3] rfl) hP hS hf
      · have hf := sp0 c20 hf
        refine lv_iconst (v := 1) hx hb dX10_give_41 (by decide) ?_
        refine lv_goto (tgt := 46) hx hb dX10_give_42 (by decide) ?_
        exact w_46 p0 p1 p2 1 S0 _ _ _ (lv_sub hl [0, 1, 2, 3] rfl) hP hS hf
theorem cp_X10_give : CPv yX10_give cX10_give 4 (some .int) 3 := ⟨mw_6_37, mw_1_9, mw_6_35, mw_6_36, by decide +kernel⟩
def rm_X10_add : Room := { frames := 7, cells := 0, slots := 0, locals := 221 }
set_option maxHeartbeats 4000000 in
set_option maxRecDepth 100000 in
theorem c_X10_add (l : Launch) (D : va_G) (ct : Nat → ClassId) (ad : Nat → Nat) (F : Nat → Prop) (hG : Gd ad 18 F) (p0 : Int32) (p1 : Int32) (S0 : St)  (r : Int32) (S' : St) (hf : f_X10_add p0 p1 S0 = some (r, S')) : MetH l yX10_add cX10_add 3 (some .int) rm_X10_add D (tysW ct) F [.ref (ad 0), .int p0, .int p1] (some (.int r)) (cellsM ct ad S0) (cellsM ct ad S') := by
  refine MetH.of RX10 (by decide) rfl (Nat.le_of_ble_eq_true rfl) ?_
  intro p e s m args below meth c C hK hP ls hl
  have hl : lv_has ls 3 [(0, .ref (ad 0)), (1, .int p0), (2, .int p1)] := hl
  obtain ⟨hx, hb, hr, hml, hown, htL, hlocks⟩ := id C
  have hS : va_S F s.heap s.heap [] := va_S.rf
  generalize hQ : MQ below (Hq D (cellsM ct ad S') F (some (.int r))) args s 0 0 F = Q
  refine lv_aload_n hx hb dX10_add_0 rfl (lv_at hl 0 rfl) ?_
  refine lv_iload_n hx hb dX10_add_1 rfl (lv_at hl 1 rfl) ?_
  refine lv_iload_n hx hb dX10_add_2 rfl (lv_at hl 2 rfl) ?_
  obtain ⟨v2, S3, h1, hf⟩ := b2_some hf
  refine hc_V (As := [.int p0, .int p1]) (rest := []) C hK (c_X10_noNumbers l D ct ad F hG p0 p1 S0  v2 S3 h1) hl.1 cp_X10_noNumbers mw_6_140 (rc_X10 hK hP) hP hS ⟨rfl, rfl⟩ ⟨Nat.le_of_ble_eq_true rfl, Nat.le_of_ble_eq_true rfl⟩ rfl rfl (Nat.le_of_ble_eq_true rfl) dX10_add_3 ⟨Nat.le_of_ble_eq_true rfl, Nat.le_of_ble_eq_true rfl⟩ (fun H locs hP hS => ?_)
  refine lv_if_ne (tgt := 17) hx hb dX10_add_6 (by decide) (fun c4 => ?_) (fun c4 => ?_)
  · have hf := sp0 c4 hf
    refine lv_iconst (v := 0) hx hb dX10_add_17 (by decide) ?_
    refine lv_goto (tgt := 29) hx hb dX10_add_18 (by decide) ?_
    cases hf
    subst hQ
    exact he_i C hP hS dX10_add_29
  · have hf := sp1 c4 hf
    refine lv_aload_n hx hb dX10_add_9 rfl (lv_at hl 0 rfl) ?_
    refine lv_iconst (v := 2) hx hb dX10_add_10 (by decide) ?_
    obtain ⟨v6, S7, h5, hf⟩ := b2_some hf
    refine hc_V (As := [.int 2]) (rest := []) C hK (c_X10_noRoom l D ct ad F hG 2 S3  v6 S7 h5) hl.1 cp_X10_noRoom mw_6_42 (rc_X10 hK hP) hP hS ⟨rfl, rfl⟩ ⟨Nat.le_of_ble_eq_true rfl, Nat.le_of_ble_eq_true rfl⟩ rfl rfl (Nat.le_of_ble_eq_true rfl) dX10_add_11 ⟨Nat.le_of_ble_eq_true rfl, Nat.le_of_ble_eq_true rfl⟩ (fun H locs hP hS => ?_)
    refine lv_if_eq (tgt := 21) hx hb dX10_add_14 (by decide) (fun c8 => ?_) (fun c8 => ?_)
    · have hf := sp1 c8 hf
      refine lv_aload_n hx hb dX10_add_21 rfl (lv_at hl 0 rfl) ?_
      refine lv_iconst (v := 1) hx hb dX10_add_22 (by decide) ?_
      refine lv_iload_n hx hb dX10_add_23 rfl (lv_at hl 1 rfl) ?_
      refine lv_iload_n hx hb dX10_add_24 rfl (lv_at hl 2 rfl) ?_
      refine lv_iconst (v := 0) hx hb dX10_add_25 (by decide) ?_
      obtain ⟨v10, S11, h9, hf⟩ := b2_some hf
      refine hc_V (As := [.int 1, .int p0, .int p1, .int 0]) (rest := []) C hK (c_X10_comes l D ct ad F hG 1 p0 p1 0 S7  v10 S11 h9) hl.1 cp_X10_comes mw_6_46 (rc_X10 hK hP) hP hS ⟨rfl, rfl⟩ ⟨Nat.le_of_ble_eq_true rfl, Nat.le_of_ble_eq_true rfl⟩ rfl rfl (Nat.le_of_ble_eq_true rfl) dX10_add_26 ⟨Nat.le_of_ble_eq_true rfl, Nat.le_of_ble_eq_true rfl⟩ (fun H locs hP hS => ?_)
      cases hf
      subst hQ
      exact he_i C hP hS dX10_add_29
    · have hf := sp0 c8 hf
      refine lv_iconst (v := 0) hx hb dX10_add_17 (by decide) ?_
      refine lv_goto (tgt := 29) hx hb dX10_add_18 (by decide) ?_
      cases hf
      subst hQ
      exact he_i C hP hS dX10_add_29
theorem cp_X10_add : CPv yX10_add cX10_add 3 (some .int) 2 := ⟨mw_6_139, mw_1_9, mw_6_137, mw_6_138, by decide +kernel⟩
def rm_X10_subtract : Room := { frames := 7, cells := 0, slots := 0, locals := 221 }
set_option maxHeartbeats 4000000 in
set_option maxRecDepth 100000 in
theorem c_X10_subtract (l : Launch) (D : va_G) (ct : Nat → ClassId) (ad : Nat → Nat) (F : Nat → Prop) (hG : Gd ad 18 F) (p0 : Int32) (p1 : Int32) (S0 : St)  (r : Int32) (S' : St) (hf : f_X10_subtract p0 p1 S0 = some (r, S')) : MetH l yX10_subtract cX10_subtract 3 (some .int) rm_X10_subtract D (tysW ct) F [.ref (ad 0), .int p0, .int p1] (some (.int r)) (cellsM ct ad S0) (cellsM ct ad S') := by
  refine MetH.of RX10 (by decide) rfl (Nat.le_of_ble_eq_true rfl) ?_
  intro p e s m args below meth c C hK hP ls hl
  have hl : lv_has ls 3 [(0, .ref (ad 0)), (1, .int p0), (2, .int p1)] := hl
  obtain ⟨hx, hb, hr, hml, hown, htL, hlocks⟩ := id C
  have hS : va_S F s.heap s.heap [] := va_S.rf
  generalize hQ : MQ below (Hq D (cellsM ct ad S') F (some (.int r))) args s 0 0 F = Q
  refine lv_aload_n hx hb dX10_subtract_0 rfl (lv_at hl 0 rfl) ?_
  refine lv_iload_n hx hb dX10_subtract_1 rfl (lv_at hl 1 rfl) ?_
  refine lv_iload_n hx hb dX10_subtract_2 rfl (lv_at hl 2 rfl) ?_
  obtain ⟨v2, S3, h1, hf⟩ := b2_some hf
  refine hc_V (As := [.int p0, .int p1]) (rest := []) C hK (c_X10_noNumbers l D ct ad F hG p0 p1 S0  v2 S3 h1) hl.1 cp_X10_noNumbers mw_6_140 (rc_X10 hK hP) hP hS ⟨rfl, rfl⟩ ⟨Nat.le_of_ble_eq_true rfl, Nat.le_of_ble_eq_true rfl⟩ rfl rfl (Nat.le_of_ble_eq_true rfl) dX10_subtract_3 ⟨Nat.le_of_ble_eq_true rfl, Nat.le_of_ble_eq_true rfl⟩ (fun H locs hP hS => ?_)
  refine lv_if_ne (tgt := 17) hx hb dX10_subtract_6 (by decide) (fun c4 => ?_) (fun c4 => ?_)
  · have hf := sp0 c4 hf
    refine lv_iconst (v := 0) hx hb dX10_subtract_17 (by decide) ?_
    refine lv_goto (tgt := 29) hx hb dX10_subtract_18 (by decide) ?_
    cases hf
    subst hQ
    exact he_i C hP hS dX10_subtract_29
  · have hf := sp1 c4 hf
    refine lv_aload_n hx hb dX10_subtract_9 rfl (lv_at hl 0 rfl) ?_
    refine lv_iconst (v := 2) hx hb dX10_subtract_10 (by decide) ?_
    obtain ⟨v6, S7, h5, hf⟩ := b2_some hf
    refine hc_V (As := [.int 2]) (rest := []) C hK (c_X10_noRoom l D ct ad F hG 2 S3  v6 S7 h5) hl.1 cp_X10_noRoom mw_6_42 (rc_X10 hK hP) hP hS ⟨rfl, rfl⟩ ⟨Nat.le_of_ble_eq_true rfl, Nat.le_of_ble_eq_true rfl⟩ rfl rfl (Nat.le_of_ble_eq_true rfl) dX10_subtract_11 ⟨Nat.le_of_ble_eq_true rfl, Nat.le_of_ble_eq_true rfl⟩ (fun H locs hP hS => ?_)
    refine lv_if_eq (tgt := 21) hx hb dX10_subtract_14 (by decide) (fun c8 => ?_) (fun c8 => ?_)
    · have hf := sp1 c8 hf
      refine lv_aload_n hx hb dX10_subtract_21 rfl (lv_at hl 0 rfl) ?_
      refine lv_iconst (v := 2) hx hb dX10_subtract_22 (by decide) ?_
      refine lv_iload_n hx hb dX10_subtract_23 rfl (lv_at hl 1 rfl) ?_
      refine lv_iload_n hx hb dX10_subtract_24 rfl (lv_at hl 2 rfl) ?_
      refine lv_iconst (v := 0) hx hb dX10_subtract_25 (by decide) ?_
      obtain ⟨v10, S11, h9, hf⟩ := b2_some hf
      refine hc_V (As := [.int 2, .int p0, .int p1, .int 0]) (rest := []) C hK (c_X10_comes l D ct ad F hG 2 p0 p1 0 S7  v10 S11 h9) hl.1 cp_X10_comes mw_6_46 (rc_X10 hK hP) hP hS ⟨rfl, rfl⟩ ⟨Nat.le_of_ble_eq_true rfl, Nat.le_of_ble_eq_true rfl⟩ rfl rfl (Nat.le_of_ble_eq_true rfl) dX10_subtract_26 ⟨Nat.le_of_ble_eq_true rfl, Nat.le_of_ble_eq_true rfl⟩ (fun H locs hP hS => ?_)
      cases hf
      subst hQ
      exact he_i C hP hS dX10_subtract_29
    · have hf := sp0 c8 hf
      refine lv_iconst (v := 0) hx hb dX10_subtract_17 (by decide) ?_
      refine lv_goto (tgt := 29) hx hb dX10_subtract_18 (by decide) ?_
      cases hf
      subst hQ
      exact he_i C hP hS dX10_subtract_29
theorem cp_X10_subtract : CPv yX10_subtract cX10_subtract 3 (some .int) 2 := ⟨mw_6_147, mw_1_9, mw_6_145, mw_6_146, by decide +kernel⟩
def rm_X10_multiply : Room := { frames := 7, cells := 0, slots := 0, locals := 221 }
set_option maxHeartbeats 4000000 in
set_option maxRecDepth 100000 in
theorem c_X10_multiply (l : Launch) (D : va_G) (ct : Nat → ClassId) (ad : Nat → Nat) (F : Nat → Prop) (hG : Gd ad 18 F) (p0 : Int32) (p1 : Int32) (S0 : St)  (r : Int32) (S' : St) (hf : f_X10_multiply p0 p1 S0 = some (r, S')) : MetH l yX10_multiply cX10_multiply 3 (some .int) rm_X10_multiply D (tysW ct) F [.ref (ad 0), .int p0, .int p1] (some (.int r)) (cellsM ct ad S0) (cellsM ct ad S') := by
  refine MetH.of RX10 (by decide) rfl (Nat.le_of_ble_eq_true rfl) ?_
  intro p e s m args below meth c C hK hP ls hl
  have hl : lv_has ls 3 [(0, .ref (ad 0)), (1, .int p0), (2, .int p1)] := hl
  obtain ⟨hx, hb, hr, hml, hown, htL, hlocks⟩ := id C
  have hS : va_S F s.heap s.heap [] := va_S.rf
  generalize hQ : MQ below (Hq D (cellsM ct ad S') F (some (.int r))) args s 0 0 F = Q
  have w_32 : ∀ (x1 : Int32) (x2 : Int32) (y1 : Int32) (S : St), ∀ (H : Heap) (locs : List Loc) (ls : Array Slot), lv_has ls 3 [(0, .ref (ad 0)), (1, .int x1), (2, .int x2)] → va_P D vwCl (cellsM ct ad S) H → va_S F s.heap H locs → n_X10_multiply_32 x1 x2 y1 S = some (r, S') → W p l e rm_X10_multiply s m args below meth c H locs 0 0 Q (F0 m 32 ls [.int y1, .ref (ad 0)]) := by
    intro  x1 x2 y1 S H locs ls hl hP hS hf
    refine lv_iconst (v := 2) hx hb dX10_multiply_32 (by decide) ?_
    obtain ⟨v2, S3, h1, hf⟩ := b2_some hf
    refine hc_V (As := [.int y1, .int 2]) (rest := []) C hK (c_X10_no l D ct ad F hG y1 2 S  v2 S3 h1) hl.1 cp_X10_no mw_6_21 (rc_X10 hK hP) hP hS ⟨rfl, rfl⟩ ⟨Nat.le_of_ble_eq_true rfl, Nat.le_of_ble_eq_true rfl⟩ rfl rfl (Nat.le_of_ble_eq_true rfl) dX10_multiply_33 ⟨Nat.le_of_ble_eq_true rfl, Nat.le_of_ble_eq_true rfl⟩ (fun H locs hP hS => ?_)
    refine lv_if_ne (tgt := 47) hx hb dX10_multiply_36 (by decide) (fun c4 => ?_) (fun c4 => ?_)
    · have hf := sp0 c4 hf
      refine lv_iconst (v := 0) hx hb dX10_multiply_47 (by decide) ?_
      refine lv_goto (tgt := 59) hx hb dX10_multiply_48 (by decide) ?_
      cases hf
      subst hQ
      exact he_i C hP hS dX10_multiply_59
    · have hf := sp1 c4 hf
      refine lv_aload_n hx hb dX10_multiply_39 rfl (lv_at hl 0 rfl) ?_
      refine lv_iconst (v := 3) hx hb dX10_multiply_40 (by decide) ?_
      obtain ⟨v6, S7, h5, hf⟩ := b2_some hf
      refine hc_V (As := [.int 3]) (rest := []) C hK (c_X10_noRoom l D ct ad F hG 3 S3  v6 S7 h5) hl.1 cp_X10_noRoom mw_6_42 (rc_X10 hK hP) hP hS ⟨rfl, rfl⟩ ⟨Nat.le_of_ble_eq_true rfl, Nat.le_of_ble_eq_true rfl⟩ rfl rfl (Nat.le_of_ble_eq_true rfl) dX10_multiply_41 ⟨Nat.le_of_ble_eq_true rfl, Nat.le_of_ble_eq_true rfl⟩ (fun H locs hP hS => ?_)
      refine lv_if_eq (tgt := 51) hx hb dX10_multiply_44 (by decide) (fun c8 => ?_) (fun c8 => ?_)
      · have hf := sp1 c8 hf
        refine lv_aload_n hx hb dX10_multiply_51 rfl (lv_at hl 0 rfl) ?_
        refine lv_iconst (v := 3) hx hb dX10_multiply_52 (by decide) ?_
        refine lv_iload_n hx hb dX10_multiply_53 rfl (lv_at hl 1 rfl) ?_
        refine lv_iload_n hx hb dX10_multiply_54 rfl (lv_at hl 2 rfl) ?_
        refine lv_iconst (v := 0) hx hb dX10_multiply_55 (by decide) ?_
        obtain ⟨v10, S11, h9, hf⟩ := b2_some hf
        refine hc_V (As := [.int 3, .int x1, .int x2, .int 0]) (rest := []) C hK (c_X10_comes l D ct ad F hG 3 x1 x2 0 S7  v10 S11 h9) hl.1 cp_X10_comes mw_6_46 (rc_X10 hK hP) hP hS ⟨rfl, rfl⟩ ⟨Nat.le_of_ble_eq_true rfl, Nat.le_of_ble_eq_true rfl⟩ rfl rfl (Nat.le_of_ble_eq_true rfl) dX10_multiply_56 ⟨Nat.le_of_ble_eq_true rfl, Nat.le_of_ble_eq_true rfl⟩ (fun H locs hP hS => ?_)
        cases hf
        subst hQ
        exact he_i C hP hS dX10_multiply_59
      · have hf := sp0 c8 hf
        refine lv_iconst (v := 0) hx hb dX10_multiply_47 (by decide) ?_
        refine lv_goto (tgt := 59) hx hb dX10_multiply_48 (by decide) ?_
        cases hf
        subst hQ
        exact he_i C hP hS dX10_multiply_59
  refine lv_aload_n hx hb dX10_multiply_0 rfl (lv_at hl 0 rfl) ?_
  refine lv_iload_n hx hb dX10_multiply_1 rfl (lv_at hl 1 rfl) ?_
  refine lv_iload_n hx hb dX10_multiply_2 rfl (lv_at hl 2 rfl) ?_
  obtain ⟨v13, S14, h12, hf⟩ := b2_some hf
  refine hc_V (As := [.int p0, .int p1]) (rest := []) C hK (c_X10_noNumbers l D ct ad F hG p0 p1 S0  v13 S14 h12) hl.1 cp_X10_noNumbers mw_6_140 (rc_X10 hK hP) hP hS ⟨rfl, rfl⟩ ⟨Nat.le_of_ble_eq_true rfl, Nat.le_of_ble_eq_true rfl⟩ rfl rfl (Nat.le_of_ble_eq_true rfl) dX10_multiply_3 ⟨Nat.le_of_ble_eq_true rfl, Nat.le_of_ble_eq_true rfl⟩ (fun H locs hP hS => ?_)
  refine lv_if_eq (tgt := 11) hx hb dX10_multiply_6 (by decide) (fun c15 => ?_) (fun c15 => ?_)
  · have hf := sp1 c15 hf
    refine lv_aload_n hx hb dX10_multiply_11 rfl (lv_at hl 0 rfl) ?_
    refine lv_iload_n hx hb dX10_multiply_12 rfl (lv_at hl 1 rfl) ?_
    refine lv_iload_n hx hb dX10_multiply_13 rfl (lv_at hl 2 rfl) ?_
    obtain ⟨S17, h16, hf⟩ := b1_some hf
    refine hc_V (As := [.int p0, .int p1]) (rest := []) C hK (c_X10_product l D ct ad F hG p0 p1 S14  S17 h16) hl.1 cp_X10_product mw_6_89 (rc_X10 hK hP) hP hS ⟨rfl, rfl⟩ ⟨Nat.le_of_ble_eq_true rfl, Nat.le_of_ble_eq_true rfl⟩ rfl rfl (Nat.le_of_ble_eq_true rfl) dX10_multiply_14 ⟨Nat.le_of_ble_eq_true rfl, Nat.le_of_ble_eq_true rfl⟩ (fun H locs hP hS => ?_)
    refine lv_aload_n hx hb dX10_multiply_17 rfl (lv_at hl 0 rfl) ?_
    refine lv_aload_n hx hb dX10_multiply_18 rfl (lv_at hl 0 rfl) ?_
    refine gf_X10_23 C hK hP mw_5_185 dX10_multiply_19 ?_
    refine lv_bipush (v := (-60)) hx hb dX10_multiply_22 (by decide) ?_
    refine lv_icmp_lt (tgt := 31) hx hb dX10_multiply_24 (by decide) (fun c18 => ?_) (fun c18 => ?_)
    · have hf := sp1 c18 hf
      refine lv_iconst (v := 0) hx hb dX10_multiply_31 (by decide) ?_
      exact w_32 p0 p1 0 S17 _ _ _ (lv_sub hl [0, 1, 2] rfl) hP hS hf
    · have hf := sp0 c18 hf
      refine lv_iconst (v := 1) hx hb dX10_multiply_27 (by decide) ?_
      refine lv_goto (tgt := 32) hx hb dX10_multiply_28 (by decide) ?_
      exact w_32 p0 p1 1 S17 _ _ _ (lv_sub hl [0, 1, 2] rfl) hP hS hf
  · have hf := sp0 c15 hf
    refine lv_iconst (v := 0) hx hb dX10_multiply_9 (by decide) ?_
    cases hf
    subst hQ
    exact he_i C hP hS dX10_multiply_10
theorem cp_X10_multiply : CPv yX10_multiply cX10_multiply 3 (some .int) 2 := ⟨mw_6_151, mw_1_9, mw_6_149, mw_6_150, by decide +kernel⟩
def rm_X10_divide : Room := { frames := 7, cells := 0, slots := 0, locals := 221 }
set_option maxHeartbeats 4000000 in
set_option maxRecDepth 100000 in
theorem c_X10_divide (l : Launch) (D : va_G) (ct : Nat → ClassId) (ad : Nat → Nat) (F : Nat → Prop) (hG : Gd ad 18 F) (p0 : Int32) (p1 : Int32) (S0 : St)  (r : Int32) (S' : St) (hf : f_X10_divide p0 p1 S0 = some (r, S')) : MetH l yX10_divide cX10_divide 3 (some .int) rm_X10_divide D (tysW ct) F [.ref (ad 0), .int p0, .int p1] (some (.int r)) (cellsM ct ad S0) (cellsM ct ad S') := by
  refine MetH.of RX10 (by decide) rfl (Nat.le_of_ble_eq_true rfl) ?_
  intro p e s m args below meth c C hK hP ls hl
  have hl : lv_has ls 3 [(0, .ref (ad 0)), (1, .int p0), (2, .int p1)] := hl
  obtain ⟨hx, hb, hr, hml, hown, htL, hlocks⟩ := id C
  have hS : va_S F s.heap s.heap [] := va_S.rf
  generalize hQ : MQ below (Hq D (cellsM ct ad S') F (some (.int r))) args s 0 0 F = Q
  have w_56 : ∀ (x1 : Int32) (x2 : Int32) (y1 : Int32) (S : St), ∀ (H : Heap) (locs : List Loc) (ls : Array Slot), lv_has ls 3 [(0, .ref (ad 0)), (1, .int x1), (2, .int x2)] → va_P D vwCl (cellsM ct ad S) H → va_S F s.heap H locs → n_X10_divide_56 x1 x2 y1 S = some (r, S') → W p l e rm_X10_divide s m args below meth c H locs 0 0 Q (F0 m 56 ls [.int y1, .ref (ad 0)]) := by
    intro  x1 x2 y1 S H locs ls hl hP hS hf
    refine lv_iconst (v := 2) hx hb dX10_divide_56 (by decide) ?_
    obtain ⟨v2, S3, h1, hf⟩ := b2_some hf
    refine hc_V (As := [.int y1, .int 2]) (rest := []) C hK (c_X10_no l D ct ad F hG y1 2 S  v2 S3 h1) hl.1 cp_X10_no mw_6_21 (rc_X10 hK hP) hP hS ⟨rfl, rfl⟩ ⟨Nat.le_of_ble_eq_true rfl, Nat.le_of_ble_eq_true rfl⟩ rfl rfl (Nat.le_of_ble_eq_true rfl) dX10_divide_57 ⟨Nat.le_of_ble_eq_true rfl, Nat.le_of_ble_eq_true rfl⟩ (fun H locs hP hS => ?_)
    refine lv_if_ne (tgt := 71) hx hb dX10_divide_60 (by decide) (fun c4 => ?_) (fun c4 => ?_)
    · have hf := sp0 c4 hf
      refine lv_iconst (v := 0) hx hb dX10_divide_71 (by decide) ?_
      refine lv_goto (tgt := 83) hx hb dX10_divide_72 (by decide) ?_
      cases hf
      subst hQ
      exact he_i C hP hS dX10_divide_83
    · have hf := sp1 c4 hf
      refine lv_aload_n hx hb dX10_divide_63 rfl (lv_at hl 0 rfl) ?_
      refine lv_iconst (v := 3) hx hb dX10_divide_64 (by decide) ?_
      obtain ⟨v6, S7, h5, hf⟩ := b2_some hf
      refine hc_V (As := [.int 3]) (rest := []) C hK (c_X10_noRoom l D ct ad F hG 3 S3  v6 S7 h5) hl.1 cp_X10_noRoom mw_6_42 (rc_X10 hK hP) hP hS ⟨rfl, rfl⟩ ⟨Nat.le_of_ble_eq_true rfl, Nat.le_of_ble_eq_true rfl⟩ rfl rfl (Nat.le_of_ble_eq_true rfl) dX10_divide_65 ⟨Nat.le_of_ble_eq_true rfl, Nat.le_of_ble_eq_true rfl⟩ (fun H locs hP hS => ?_)
      refine lv_if_eq (tgt := 75) hx hb dX10_divide_68 (by decide) (fun c8 => ?_) (fun c8 => ?_)
      · have hf := sp1 c8 hf
        refine lv_aload_n hx hb dX10_divide_75 rfl (lv_at hl 0 rfl) ?_
        refine lv_iconst (v := 4) hx hb dX10_divide_76 (by decide) ?_
        refine lv_iload_n hx hb dX10_divide_77 rfl (lv_at hl 1 rfl) ?_
        refine lv_iload_n hx hb dX10_divide_78 rfl (lv_at hl 2 rfl) ?_
        refine lv_iconst (v := 0) hx hb dX10_divide_79 (by decide) ?_
        obtain ⟨v10, S11, h9, hf⟩ := b2_some hf
        refine hc_V (As := [.int 4, .int x1, .int x2, .int 0]) (rest := []) C hK (c_X10_comes l D ct ad F hG 4 x1 x2 0 S7  v10 S11 h9) hl.1 cp_X10_comes mw_6_46 (rc_X10 hK hP) hP hS ⟨rfl, rfl⟩ ⟨Nat.le_of_ble_eq_true rfl, Nat.le_of_ble_eq_true rfl⟩ rfl rfl (Nat.le_of_ble_eq_true rfl) dX10_divide_80 ⟨Nat.le_of_ble_eq_true rfl, Nat.le_of_ble_eq_true rfl⟩ (fun H locs hP hS => ?_)
        cases hf
        subst hQ
        exact he_i C hP hS dX10_divide_83
      · have hf := sp0 c8 hf
        refine lv_iconst (v := 0) hx hb dX10_divide_71 (by decide) ?_
        refine lv_goto (tgt := 83) hx hb dX10_divide_72 (by decide) ?_
        cases hf
        subst hQ
        exact he_i C hP hS dX10_divide_83
  have w_26 : ∀ (x1 : Int32) (x2 : Int32) (y1 : Int32) (S : St), ∀ (H : Heap) (locs : List Loc) (ls : Array Slot), lv_has ls 3 [(0, .ref (ad 0)), (1, .int x1), (2, .int x2)] → va_P D vwCl (cellsM ct ad S) H → va_S F s.heap H locs → n_X10_divide_26 x1 x2 y1 S = some (r, S') → W p l e rm_X10_divide s m args below meth c H locs 0 0 Q (F0 m 26 ls [.int y1, .ref (ad 0)]) := by
    intro  x1 x2 y1 S H locs ls hl hP hS hf
    refine lv_iconst (v := 2) hx hb dX10_divide_26 (by decide) ?_
    obtain ⟨v13, S14, h12, hf⟩ := b2_some hf
    refine hc_V (As := [.int y1, .int 2]) (rest := []) C hK (c_X10_no l D ct ad F hG y1 2 S  v13 S14 h12) hl.1 cp_X10_no mw_6_21 (rc_X10 hK hP) hP hS ⟨rfl, rfl⟩ ⟨Nat.le_of_ble_eq_true rfl, Nat.le_of_ble_eq_true rfl⟩ rfl rfl (Nat.le_of_ble_eq_true rfl) dX10_divide_27 ⟨Nat.le_of_ble_eq_true rfl, Nat.le_of_ble_eq_true rfl⟩ (fun H locs hP hS => ?_)
    refine lv_if_eq (tgt := 35) hx hb dX10_divide_30 (by decide) (fun c15 => ?_) (fun c15 => ?_)
    · have hf := sp1 c15 hf
      refine lv_aload_n hx hb dX10_divide_35 rfl (lv_at hl 0 rfl) ?_
      refine lv_iload_n hx hb dX10_divide_36 rfl (lv_at hl 1 rfl) ?_
      refine lv_iload_n hx hb dX10_divide_37 rfl (lv_at hl 2 rfl) ?_
      obtain ⟨S17, h16, hf⟩ := b1_some hf
      refine hc_V (As := [.int x1, .int x2]) (rest := []) C hK (c_X10_quotient l D ct ad F hG x1 x2 S14  S17 h16) hl.1 cp_X10_quotient mw_6_93 (rc_X10 hK hP) hP hS ⟨rfl, rfl⟩ ⟨Nat.le_of_ble_eq_true rfl, Nat.le_of_ble_eq_true rfl⟩ rfl rfl (Nat.le_of_ble_eq_true rfl) dX10_divide_38 ⟨Nat.le_of_ble_eq_true rfl, Nat.le_of_ble_eq_true rfl⟩ (fun H locs hP hS => ?_)
      refine lv_aload_n hx hb dX10_divide_41 rfl (lv_at hl 0 rfl) ?_
      refine lv_aload_n hx hb dX10_divide_42 rfl (lv_at hl 0 rfl) ?_
      refine gf_X10_23 C hK hP mw_5_185 dX10_divide_43 ?_
      refine lv_bipush (v := (-60)) hx hb dX10_divide_46 (by decide) ?_
      refine lv_icmp_lt (tgt := 55) hx hb dX10_divide_48 (by decide) (fun c18 => ?_) (fun c18 => ?_)
      · have hf := sp1 c18 hf
        refine lv_iconst (v := 0) hx hb dX10_divide_55 (by decide) ?_
        exact w_56 x1 x2 0 S17 _ _ _ (lv_sub hl [0, 1, 2] rfl) hP hS hf
      · have hf := sp0 c18 hf
        refine lv_iconst (v := 1) hx hb dX10_divide_51 (by decide) ?_
        refine lv_goto (tgt := 56) hx hb dX10_divide_52 (by decide) ?_
        exact w_56 x1 x2 1 S17 _ _ _ (lv_sub hl [0, 1, 2] rfl) hP hS hf
    · have hf := sp0 c15 hf
      refine lv_iconst (v := 0) hx hb dX10_divide_33 (by decide) ?_
      cases hf
      subst hQ
      exact he_i C hP hS dX10_divide_34
  refine lv_aload_n hx hb dX10_divide_0 rfl (lv_at hl 0 rfl) ?_
  refine lv_iload_n hx hb dX10_divide_1 rfl (lv_at hl 1 rfl) ?_
  refine lv_iload_n hx hb dX10_divide_2 rfl (lv_at hl 2 rfl) ?_
  obtain ⟨v20, S21, h19, hf⟩ := b2_some hf
  refine hc_V (As := [.int p0, .int p1]) (rest := []) C hK (c_X10_noNumbers l D ct ad F hG p0 p1 S0  v20 S21 h19) hl.1 cp_X10_noNumbers mw_6_140 (rc_X10 hK hP) hP hS ⟨rfl, rfl⟩ ⟨Nat.le_of_ble_eq_true rfl, Nat.le_of_ble_eq_true rfl⟩ rfl rfl (Nat.le_of_ble_eq_true rfl) dX10_divide_3 ⟨Nat.le_of_ble_eq_true rfl, Nat.le_of_ble_eq_true rfl⟩ (fun H locs hP hS => ?_)
  refine lv_if_ne (tgt := 33) hx hb dX10_divide_6 (by decide) (fun c22 => ?_) (fun c22 => ?_)
  · have hf := sp0 c22 hf
    refine lv_iconst (v := 0) hx hb dX10_divide_33 (by decide) ?_
    cases hf
    subst hQ
    exact he_i C hP hS dX10_divide_34
  · have hf := sp1 c22 hf
    refine lv_aload_n hx hb dX10_divide_9 rfl (lv_at hl 0 rfl) ?_
    refine lv_aload_n hx hb dX10_divide_10 rfl (lv_at hl 0 rfl) ?_
    refine gf_X10_7 C hK hP mw_5_169 dX10_divide_11 ?_
    refine lv_iload_n hx hb dX10_divide_14 rfl (lv_at hl 2 rfl) ?_
    obtain ⟨c23, hf⟩ := spn hf
    refine al_M8 C hK hP c23 dX10_divide_15 ?_
    refine lv_lconst (v := 0) hx hb dX10_divide_16 (by decide) ?_
    refine W.lcmp hx hb dX10_divide_17 ?_
    refine lv_if_eq (tgt := 25) hx hb dX10_divide_18 (by decide) (fun c24 => ?_) (fun c24 => ?_)
    · have hf := sp1 c24 hf
      refine lv_iconst (v := 0) hx hb dX10_divide_25 (by decide) ?_
      exact w_26 p0 p1 0 S21 _ _ _ (lv_sub hl [0, 1, 2] rfl) hP hS hf
    · have hf := sp0 c24 hf
      refine lv_iconst (v := 1) hx hb dX10_divide_21 (by decide) ?_
      refine lv_goto (tgt := 26) hx hb dX10_divide_22 (by decide) ?_
      exact w_26 p0 p1 1 S21 _ _ _ (lv_sub hl [0, 1, 2] rfl) hP hS hf
theorem cp_X10_divide : CPv yX10_divide cX10_divide 3 (some .int) 2 := ⟨mw_6_155, mw_1_9, mw_6_153, mw_6_154, by decide +kernel⟩
def rm_X10_root : Room := { frames := 7, cells := 0, slots := 0, locals := 221 }
set_option maxHeartbeats 4000000 in
set_option maxRecDepth 100000 in
theorem c_X10_root (l : Launch) (D : va_G) (ct : Nat → ClassId) (ad : Nat → Nat) (F : Nat → Prop) (hG : Gd ad 18 F) (p0 : Int32) (S0 : St)  (r : Int32) (S' : St) (hf : f_X10_root p0 S0 = some (r, S')) : MetH l yX10_root cX10_root 2 (some .int) rm_X10_root D (tysW ct) F [.ref (ad 0), .int p0] (some (.int r)) (cellsM ct ad S0) (cellsM ct ad S') := by
  refine MetH.of RX10 (by decide) rfl (Nat.le_of_ble_eq_true rfl) ?_
  intro p e s m args below meth c C hK hP ls hl
  have hl : lv_has ls 2 [(0, .ref (ad 0)), (1, .int p0)] := hl
  obtain ⟨hx, hb, hr, hml, hown, htL, hlocks⟩ := id C
  have hS : va_S F s.heap s.heap [] := va_S.rf
  generalize hQ : MQ below (Hq D (cellsM ct ad S') F (some (.int r))) args s 0 0 F = Q
  refine lv_aload_n hx hb dX10_root_0 rfl (lv_at hl 0 rfl) ?_
  refine lv_iload_n hx hb dX10_root_1 rfl (lv_at hl 1 rfl) ?_
  obtain ⟨v2, S3, h1, hf⟩ := b2_some hf
  refine hc_V (As := [.int p0]) (rest := []) C hK (c_X10_noNumber l D ct ad F hG p0 S0  v2 S3 h1) hl.1 cp_X10_noNumber mw_6_160 (rc_X10 hK hP) hP hS ⟨rfl, rfl⟩ ⟨Nat.le_of_ble_eq_true rfl, Nat.le_of_ble_eq_true rfl⟩ rfl rfl (Nat.le_of_ble_eq_true rfl) dX10_root_2 ⟨Nat.le_of_ble_eq_true rfl, Nat.le_of_ble_eq_true rfl⟩ (fun H locs hP hS => ?_)
  refine lv_if_ne (tgt := 29) hx hb dX10_root_5 (by decide) (fun c4 => ?_) (fun c4 => ?_)
  · have hf := sp0 c4 hf
    refine lv_iconst (v := 0) hx hb dX10_root_29 (by decide) ?_
    refine lv_goto (tgt := 41) hx hb dX10_root_30 (by decide) ?_
    cases hf
    subst hQ
    exact he_i C hP hS dX10_root_41
  · have hf := sp1 c4 hf
    refine lv_aload_n hx hb dX10_root_8 rfl (lv_at hl 0 rfl) ?_
    refine lv_aload_n hx hb dX10_root_9 rfl (lv_at hl 0 rfl) ?_
    refine lv_iload_n hx hb dX10_root_10 rfl (lv_at hl 1 rfl) ?_
    obtain ⟨v6, h5, hf⟩ := b1_some hf
    refine hc_V (As := [.int p0]) (rest := [.ref (ad 0)]) C hK (c_X10_isSquare l D ct ad F hG p0 S3  v6 h5) hl.1 cp_X10_isSquare mw_6_164 (rc_X10 hK hP) hP hS ⟨rfl, rfl⟩ ⟨Nat.le_of_ble_eq_true rfl, Nat.le_of_ble_eq_true rfl⟩ rfl rfl (Nat.le_of_ble_eq_true rfl) dX10_root_11 ⟨Nat.le_of_ble_eq_true rfl, Nat.le_of_ble_eq_true rfl⟩ (fun H locs hP hS => ?_)
    refine lv_iconst (v := 2) hx hb dX10_root_14 (by decide) ?_
    obtain ⟨v8, S9, h7, hf⟩ := b2_some hf
    refine hc_V (As := [.int v6, .int 2]) (rest := []) C hK (c_X10_no l D ct ad F hG v6 2 S3  v8 S9 h7) hl.1 cp_X10_no mw_6_21 (rc_X10 hK hP) hP hS ⟨rfl, rfl⟩ ⟨Nat.le_of_ble_eq_true rfl, Nat.le_of_ble_eq_true rfl⟩ rfl rfl (Nat.le_of_ble_eq_true rfl) dX10_root_15 ⟨Nat.le_of_ble_eq_true rfl, Nat.le_of_ble_eq_true rfl⟩ (fun H locs hP hS => ?_)
    refine lv_if_ne (tgt := 29) hx hb dX10_root_18 (by decide) (fun c10 => ?_) (fun c10 => ?_)
    · have hf := sp0 c10 hf
      refine lv_iconst (v := 0) hx hb dX10_root_29 (by decide) ?_
      refine lv_goto (tgt := 41) hx hb dX10_root_30 (by decide) ?_
      cases hf
      subst hQ
      exact he_i C hP hS dX10_root_41
    · have hf := sp1 c10 hf
      refine lv_aload_n hx hb dX10_root_21 rfl (lv_at hl 0 rfl) ?_
      refine lv_iconst (v := 3) hx hb dX10_root_22 (by decide) ?_
      obtain ⟨v12, S13, h11, hf⟩ := b2_some hf
      refine hc_V (As := [.int 3]) (rest := []) C hK (c_X10_noRoom l D ct ad F hG 3 S9  v12 S13 h11) hl.1 cp_X10_noRoom mw_6_42 (rc_X10 hK hP) hP hS ⟨rfl, rfl⟩ ⟨Nat.le_of_ble_eq_true rfl, Nat.le_of_ble_eq_true rfl⟩ rfl rfl (Nat.le_of_ble_eq_true rfl) dX10_root_23 ⟨Nat.le_of_ble_eq_true rfl, Nat.le_of_ble_eq_true rfl⟩ (fun H locs hP hS => ?_)
      refine lv_if_eq (tgt := 33) hx hb dX10_root_26 (by decide) (fun c14 => ?_) (fun c14 => ?_)
      · have hf := sp1 c14 hf
        refine lv_aload_n hx hb dX10_root_33 rfl (lv_at hl 0 rfl) ?_
        refine lv_iconst (v := 5) hx hb dX10_root_34 (by decide) ?_
        refine lv_iload_n hx hb dX10_root_35 rfl (lv_at hl 1 rfl) ?_
        refine lv_iconst (v := 0) hx hb dX10_root_36 (by decide) ?_
        refine lv_iconst (v := 0) hx hb dX10_root_37 (by decide) ?_
        obtain ⟨v16, S17, h15, hf⟩ := b2_some hf
        refine hc_V (As := [.int 5, .int p0, .int 0, .int 0]) (rest := []) C hK (c_X10_comes l D ct ad F hG 5 p0 0 0 S13  v16 S17 h15) hl.1 cp_X10_comes mw_6_46 (rc_X10 hK hP) hP hS ⟨rfl, rfl⟩ ⟨Nat.le_of_ble_eq_true rfl, Nat.le_of_ble_eq_true rfl⟩ rfl rfl (Nat.le_of_ble_eq_true rfl) dX10_root_38 ⟨Nat.le_of_ble_eq_true rfl, Nat.le_of_ble_eq_true rfl⟩ (fun H locs hP hS => ?_)
        cases hf
        subst hQ
        exact he_i C hP hS dX10_root_41
      · have hf := sp0 c14 hf
        refine lv_iconst (v := 0) hx hb dX10_root_29 (by decide) ?_
        refine lv_goto (tgt := 41) hx hb dX10_root_30 (by decide) ?_
        cases hf
        subst hQ
        exact he_i C hP hS dX10_root_41
theorem cp_X10_root : CPv yX10_root cX10_root 2 (some .int) 1 := ⟨mw_6_159, mw_1_9, mw_6_157, mw_6_158, by decide +kernel⟩
def rm_X10_unity : Room := { frames := 7, cells := 0, slots := 0, locals := 221 }
set_option maxHeartbeats 4000000 in
set_option maxRecDepth 100000 in
theorem c_X10_unity (l : Launch) (D : va_G) (ct : Nat → ClassId) (ad : Nat → Nat) (F : Nat → Prop) (hG : Gd ad 18 F) (p0 : Int32) (S0 : St)  (r : Int32) (S' : St) (hf : f_X10_unity p0 S0 = some (r, S')) : MetH l yX10_unity cX10_unity 2 (some .int) rm_X10_unity D (tysW ct) F [.ref (ad 0), .int p0] (some (.int r)) (cellsM ct ad S0) (cellsM ct ad S') := by
  refine MetH.of RX10 (by decide) rfl (Nat.le_of_ble_eq_true rfl) ?_
  intro p e s m args below meth c C hK hP ls hl
  have hl : lv_has ls 2 [(0, .ref (ad 0)), (1, .int p0)] := hl
  obtain ⟨hx, hb, hr, hml, hown, htL, hlocks⟩ := id C
  have hS : va_S F s.heap s.heap [] := va_S.rf
  generalize hQ : MQ below (Hq D (cellsM ct ad S') F (some (.int r))) args s 0 0 F = Q
  have w_34 : ∀ (x1 : Int32) (y1 : Int32) (S : St), ∀ (H : Heap) (locs : List Loc) (ls : Array Slot), lv_has ls 2 [(0, .ref (ad 0)), (1, .int x1)] → va_P D vwCl (cellsM ct ad S) H → va_S F s.heap H locs → n_X10_unity_34 x1 y1 S = some (r, S') → W p l e rm_X10_unity s m args below meth c H locs 0 0 Q (F0 m 34 ls [.int y1, .ref (ad 0)]) := by
    intro  x1 y1 S H locs ls hl hP hS hf
    refine lv_iconst (v := 2) hx hb dX10_unity_34 (by decide) ?_
    obtain ⟨v2, S3, h1, hf⟩ := b2_some hf
    refine hc_V (As := [.int y1, .int 2]) (rest := []) C hK (c_X10_no l D ct ad F hG y1 2 S  v2 S3 h1) hl.1 cp_X10_no mw_6_21 (rc_X10 hK hP) hP hS ⟨rfl, rfl⟩ ⟨Nat.le_of_ble_eq_true rfl, Nat.le_of_ble_eq_true rfl⟩ rfl rfl (Nat.le_of_ble_eq_true rfl) dX10_unity_35 ⟨Nat.le_of_ble_eq_true rfl, Nat.le_of_ble_eq_true rfl⟩ (fun H locs hP hS => ?_)
    refine lv_if_ne (tgt := 49) hx hb dX10_unity_38 (by decide) (fun c4 => ?_) (fun c4 => ?_)
    · have hf := sp0 c4 hf
      refine lv_iconst (v := 0) hx hb dX10_unity_49 (by decide) ?_
      refine lv_goto (tgt := 62) hx hb dX10_unity_50 (by decide) ?_
      cases hf
      subst hQ
      exact he_i C hP hS dX10_unity_62
    · have hf := sp1 c4 hf
      refine lv_aload_n hx hb dX10_unity_41 rfl (lv_at hl 0 rfl) ?_
      refine lv_iconst (v := 3) hx hb dX10_unity_42 (by decide) ?_
      obtain ⟨v6, S7, h5, hf⟩ := b2_some hf
      refine hc_V (As := [.int 3]) (rest := []) C hK (c_X10_noRoom l D ct ad F hG 3 S3  v6 S7 h5) hl.1 cp_X10_noRoom mw_6_42 (rc_X10 hK hP) hP hS ⟨rfl, rfl⟩ ⟨Nat.le_of_ble_eq_true rfl, Nat.le_of_ble_eq_true rfl⟩ rfl rfl (Nat.le_of_ble_eq_true rfl) dX10_unity_43 ⟨Nat.le_of_ble_eq_true rfl, Nat.le_of_ble_eq_true rfl⟩ (fun H locs hP hS => ?_)
      refine lv_if_eq (tgt := 53) hx hb dX10_unity_46 (by decide) (fun c8 => ?_) (fun c8 => ?_)
      · have hf := sp1 c8 hf
        refine lv_aload_n hx hb dX10_unity_53 rfl (lv_at hl 0 rfl) ?_
        refine lv_bipush (v := 6) hx hb dX10_unity_54 (by decide) ?_
        refine lv_iload_n hx hb dX10_unity_56 rfl (lv_at hl 1 rfl) ?_
        refine lv_iconst (v := 0) hx hb dX10_unity_57 (by decide) ?_
        refine lv_iconst (v := 0) hx hb dX10_unity_58 (by decide) ?_
        obtain ⟨v10, S11, h9, hf⟩ := b2_some hf
        refine hc_V (As := [.int 6, .int x1, .int 0, .int 0]) (rest := []) C hK (c_X10_comes l D ct ad F hG 6 x1 0 0 S7  v10 S11 h9) hl.1 cp_X10_comes mw_6_46 (rc_X10 hK hP) hP hS ⟨rfl, rfl⟩ ⟨Nat.le_of_ble_eq_true rfl, Nat.le_of_ble_eq_true rfl⟩ rfl rfl (Nat.le_of_ble_eq_true rfl) dX10_unity_59 ⟨Nat.le_of_ble_eq_true rfl, Nat.le_of_ble_eq_true rfl⟩ (fun H locs hP hS => ?_)
        cases hf
        subst hQ
        exact he_i C hP hS dX10_unity_62
      · have hf := sp0 c8 hf
        refine lv_iconst (v := 0) hx hb dX10_unity_49 (by decide) ?_
        refine lv_goto (tgt := 62) hx hb dX10_unity_50 (by decide) ?_
        cases hf
        subst hQ
        exact he_i C hP hS dX10_unity_62
  refine lv_aload_n hx hb dX10_unity_0 rfl (lv_at hl 0 rfl) ?_
  refine lv_iload_n hx hb dX10_unity_1 rfl (lv_at hl 1 rfl) ?_
  obtain ⟨v13, S14, h12, hf⟩ := b2_some hf
  refine hc_V (As := [.int p0]) (rest := []) C hK (c_X10_noNumber l D ct ad F hG p0 S0  v13 S14 h12) hl.1 cp_X10_noNumber mw_6_160 (rc_X10 hK hP) hP hS ⟨rfl, rfl⟩ ⟨Nat.le_of_ble_eq_true rfl, Nat.le_of_ble_eq_true rfl⟩ rfl rfl (Nat.le_of_ble_eq_true rfl) dX10_unity_2 ⟨Nat.le_of_ble_eq_true rfl, Nat.le_of_ble_eq_true rfl⟩ (fun H locs hP hS => ?_)
  refine lv_if_ne (tgt := 49) hx hb dX10_unity_5 (by decide) (fun c15 => ?_) (fun c15 => ?_)
  · have hf := sp0 c15 hf
    refine lv_iconst (v := 0) hx hb dX10_unity_49 (by decide) ?_
    refine lv_goto (tgt := 62) hx hb dX10_unity_50 (by decide) ?_
    cases hf
    subst hQ
    exact he_i C hP hS dX10_unity_62
  · have hf := sp1 c15 hf
    refine lv_aload_n hx hb dX10_unity_8 rfl (lv_at hl 0 rfl) ?_
    refine lv_aload_n hx hb dX10_unity_9 rfl (lv_at hl 0 rfl) ?_
    refine gf_X10_0 C hK hP mw_5_162 dX10_unity_10 ?_
    refine lv_iload_n hx hb dX10_unity_13 rfl (lv_at hl 1 rfl) ?_
    obtain ⟨c16, hf⟩ := spn hf
    refine al_M1 C hK hP c16 dX10_unity_14 ?_
    refine lv_if_ne (tgt := 33) hx hb dX10_unity_15 (by decide) (fun c17 => ?_) (fun c17 => ?_)
    · have hf := sp0 c17 hf
      refine lv_iconst (v := 0) hx hb dX10_unity_33 (by decide) ?_
      exact w_34 p0 0 S14 _ _ _ (lv_sub hl [0, 1] rfl) hP hS hf
    · have hf := sp1 c17 hf
      refine lv_aload_n hx hb dX10_unity_18 rfl (lv_at hl 0 rfl) ?_
      refine gf_X10_7 C hK hP mw_5_169 dX10_unity_19 ?_
      refine lv_iload_n hx hb dX10_unity_22 rfl (lv_at hl 1 rfl) ?_
      obtain ⟨c18, hf⟩ := spn hf
      refine al_M8 C hK hP c18 dX10_unity_23 ?_
      refine lv_lconst (v := 0) hx hb dX10_unity_24 (by decide) ?_
      refine W.lcmp hx hb dX10_unity_25 ?_
      refine lv_if_eq (tgt := 33) hx hb dX10_unity_26 (by decide) (fun c19 => ?_) (fun c19 => ?_)
      · have hf := sp1 c19 hf
        refine lv_iconst (v := 0) hx hb dX10_unity_33 (by decide) ?_
        exact w_34 p0 0 S14 _ _ _ (lv_sub hl [0, 1] rfl) hP hS hf
      · have hf := sp0 c19 hf
        refine lv_iconst (v := 1) hx hb dX10_unity_29 (by decide) ?_
        refine lv_goto (tgt := 34) hx hb dX10_unity_30 (by decide) ?_
        exact w_34 p0 1 S14 _ _ _ (lv_sub hl [0, 1] rfl) hP hS hf
theorem cp_X10_unity : CPv yX10_unity cX10_unity 2 (some .int) 1 := ⟨mw_6_172, mw_1_9, mw_6_170, mw_6_171, by decide +kernel⟩
def rm_X10_precision : Room := { frames := 2, cells := 0, slots := 0, locals := 54 }
set_option maxHeartbeats 4000000 in
set_option maxRecDepth 100000 in
theorem c_X10_precision (l : Launch) (D : va_G) (ct : Nat → ClassId) (ad : Nat → Nat) (F : Nat → Prop) (hG : Gd ad 18 F) (p0 : Int32) (S0 : St)  (r : Int32) (S' : St) (hf : f_X10_precision p0 S0 = some (r, S')) : MetH l yX10_precision cX10_precision 2 (some .int) rm_X10_precision D (tysW ct) F [.ref (ad 0), .int p0] (some (.int r)) (cellsM ct ad S0) (cellsM ct ad S') := by
  refine MetH.of RX10 (by decide) rfl (Nat.le_of_ble_eq_true rfl) ?_
  intro p e s m args below meth c C hK hP ls hl
  have hl : lv_has ls 2 [(0, .ref (ad 0)), (1, .int p0)] := hl
  obtain ⟨hx, hb, hr, hml, hown, htL, hlocks⟩ := id C
  have hS : va_S F s.heap s.heap [] := va_S.rf
  generalize hQ : MQ below (Hq D (cellsM ct ad S') F (some (.int r))) args s 0 0 F = Q
  refine lv_aload_n hx hb dX10_precision_0 rfl (lv_at hl 0 rfl) ?_
  refine lv_iload_n hx hb dX10_precision_1 rfl (lv_at hl 1 rfl) ?_
  obtain ⟨v2, S3, h1, hf⟩ := b2_some hf
  refine hc_V (As := [.int p0]) (rest := []) C hK (c_X10_noNumber l D ct ad F hG p0 S0  v2 S3 h1) hl.1 cp_X10_noNumber mw_6_160 (rc_X10 hK hP) hP hS ⟨rfl, rfl⟩ ⟨Nat.le_of_ble_eq_true rfl, Nat.le_of_ble_eq_true rfl⟩ rfl rfl (Nat.le_of_ble_eq_true rfl) dX10_precision_2 ⟨Nat.le_of_ble_eq_true rfl, Nat.le_of_ble_eq_true rfl⟩ (fun H locs hP hS => ?_)
  refine lv_if_eq (tgt := 12) hx hb dX10_precision_5 (by decide) (fun c4 => ?_) (fun c4 => ?_)
  · have hf := sp1 c4 hf
    refine lv_aload_n hx hb dX10_precision_12 rfl (lv_at hl 0 rfl) ?_
    refine gf_X10_1 C hK hP mw_5_163 dX10_precision_13 ?_
    refine lv_iload_n hx hb dX10_precision_16 rfl (lv_at hl 1 rfl) ?_
    obtain ⟨c5, hf⟩ := spn hf
    refine al_M2 C hK hP c5 dX10_precision_17 ?_
    cases hf
    subst hQ
    exact he_i C hP hS dX10_precision_18
  · have hf := sp0 c4 hf
    refine lv_iconst (v := 0) hx hb dX10_precision_8 (by decide) ?_
    refine lv_goto (tgt := 18) hx hb dX10_precision_9 (by decide) ?_
    cases hf
    subst hQ
    exact he_i C hP hS dX10_precision_18
theorem cp_X10_precision : CPv yX10_precision cX10_precision 2 (some .int) 1 := ⟨mw_6_176, mw_1_9, mw_6_174, mw_6_175, by decide +kernel⟩
def rm_X10_valuation : Room := { frames := 2, cells := 0, slots := 0, locals := 54 }
set_option maxHeartbeats 4000000 in
set_option maxRecDepth 100000 in
theorem c_X10_valuation (l : Launch) (D : va_G) (ct : Nat → ClassId) (ad : Nat → Nat) (F : Nat → Prop) (hG : Gd ad 18 F) (p0 : Int32) (S0 : St)  (r : Int32) (S' : St) (hf : f_X10_valuation p0 S0 = some (r, S')) : MetH l yX10_valuation cX10_valuation 2 (some .int) rm_X10_valuation D (tysW ct) F [.ref (ad 0), .int p0] (some (.int r)) (cellsM ct ad S0) (cellsM ct ad S') := by
  refine MetH.of RX10 (by decide) rfl (Nat.le_of_ble_eq_true rfl) ?_
  intro p e s m args below meth c C hK hP ls hl
  have hl : lv_has ls 2 [(0, .ref (ad 0)), (1, .int p0)] := hl
  obtain ⟨hx, hb, hr, hml, hown, htL, hlocks⟩ := id C
  have hS : va_S F s.heap s.heap [] := va_S.rf
  generalize hQ : MQ below (Hq D (cellsM ct ad S') F (some (.int r))) args s 0 0 F = Q
  refine lv_aload_n hx hb dX10_valuation_0 rfl (lv_at hl 0 rfl) ?_
  refine lv_iload_n hx hb dX10_valuation_1 rfl (lv_at hl 1 rfl) ?_
  obtain ⟨v2, S3, h1, hf⟩ := b2_some hf
  refine hc_V (As := [.int p0]) (rest := []) C hK (c_X10_noNumber l D ct ad F hG p0 S0  v2 S3 h1) hl.1 cp_X10_noNumber mw_6_160 (rc_X10 hK hP) hP hS ⟨rfl, rfl⟩ ⟨Nat.le_of_ble_eq_true rfl, Nat.le_of_ble_eq_true rfl⟩ rfl rfl (Nat.le_of_ble_eq_true rfl) dX10_valuation_2 ⟨Nat.le_of_ble_eq_true rfl, Nat.le_of_ble_eq_true rfl⟩ (fun H locs hP hS => ?_)
  refine lv_if_eq (tgt := 12) hx hb dX10_valuation_5 (by decide) (fun c4 => ?_) (fun c4 => ?_)
  · have hf := sp1 c4 hf
    refine lv_aload_n hx hb dX10_valuation_12 rfl (lv_at hl 0 rfl) ?_
    refine gf_X10_0 C hK hP mw_5_162 dX10_valuation_13 ?_
    refine lv_iload_n hx hb dX10_valuation_16 rfl (lv_at hl 1 rfl) ?_
    obtain ⟨c5, hf⟩ := spn hf
    refine al_M1 C hK hP c5 dX10_valuation_17 ?_
    cases hf
    subst hQ
    exact he_i C hP hS dX10_valuation_18
  · have hf := sp0 c4 hf
    refine lv_iconst (v := 0) hx hb dX10_valuation_8 (by decide) ?_
    refine lv_goto (tgt := 18) hx hb dX10_valuation_9 (by decide) ?_
    cases hf
    subst hQ
    exact he_i C hP hS dX10_valuation_18
theorem cp_X10_valuation : CPv yX10_valuation cX10_valuation 2 (some .int) 1 := ⟨mw_6_180, mw_1_9, mw_6_178, mw_6_179, by decide +kernel⟩
def rm_X10_digit : Room := { frames := 2, cells := 0, slots := 0, locals := 54 }
set_option maxHeartbeats 4000000 in
set_option maxRecDepth 100000 in
theorem c_X10_digit (l : Launch) (D : va_G) (ct : Nat → ClassId) (ad : Nat → Nat) (F : Nat → Prop) (hG : Gd ad 18 F) (p0 : Int32) (p1 : Int32) (S0 : St)  (r : Int32) (S' : St) (hf : f_X10_digit p0 p1 S0 = some (r, S')) : MetH l yX10_digit cX10_digit 3 (some .int) rm_X10_digit D (tysW ct) F [.ref (ad 0), .int p0, .int p1] (some (.int r)) (cellsM ct ad S0) (cellsM ct ad S') := by
  refine MetH.of RX10 (by decide) rfl (Nat.le_of_ble_eq_true rfl) ?_
  intro p e s m args below meth c C hK hP ls hl
  have hl : lv_has ls 3 [(0, .ref (ad 0)), (1, .int p0), (2, .int p1)] := hl
  obtain ⟨hx, hb, hr, hml, hown, htL, hlocks⟩ := id C
  have hS : va_S F s.heap s.heap [] := va_S.rf
  generalize hQ : MQ below (Hq D (cellsM ct ad S') F (some (.int r))) args s 0 0 F = Q
  have w_24 : ∀ (x1 : Int32) (x2 : Int32) (y1 : Int32) (S : St), ∀ (H : Heap) (locs : List Loc) (ls : Array Slot), lv_has ls 3 [(0, .ref (ad 0)), (1, .int x1), (2, .int x2)] → va_P D vwCl (cellsM ct ad S) H → va_S F s.heap H locs → n_X10_digit_24 x1 x2 y1 S = some (r, S') → W p l e rm_X10_digit s m args below meth c H locs 0 0 Q (F0 m 24 ls [.int y1, .ref (ad 0)]) := by
    intro  x1 x2 y1 S H locs ls hl hP hS hf
    refine lv_iconst (v := 2) hx hb dX10_digit_24 (by decide) ?_
    obtain ⟨v2, S3, h1, hf⟩ := b2_some hf
    refine hc_V (As := [.int y1, .int 2]) (rest := []) C hK (c_X10_no l D ct ad F hG y1 2 S  v2 S3 h1) hl.1 cp_X10_no mw_6_21 (rc_X10 hK hP) hP hS ⟨rfl, rfl⟩ ⟨Nat.le_of_ble_eq_true rfl, Nat.le_of_ble_eq_true rfl⟩ rfl rfl (Nat.le_of_ble_eq_true rfl) dX10_digit_25 ⟨Nat.le_of_ble_eq_true rfl, Nat.le_of_ble_eq_true rfl⟩ (fun H locs hP hS => ?_)
    refine lv_if_eq (tgt := 33) hx hb dX10_digit_28 (by decide) (fun c4 => ?_) (fun c4 => ?_)
    · have hf := sp1 c4 hf
      refine lv_iload_n hx hb dX10_digit_33 rfl (lv_at hl 2 rfl) ?_
      refine lv_aload_n hx hb dX10_digit_34 rfl (lv_at hl 0 rfl) ?_
      refine gf_X10_0 C hK hP mw_5_162 dX10_digit_35 ?_
      refine lv_iload_n hx hb dX10_digit_38 rfl (lv_at hl 1 rfl) ?_
      obtain ⟨c5, hf⟩ := spn hf
      refine al_M1 C hK hP c5 dX10_digit_39 ?_
      refine lv_icmp_ge (tgt := 47) hx hb dX10_digit_40 (by decide) (fun c6 => ?_) (fun c6 => ?_)
      · have hf := sp1 c6 hf
        refine lv_aload_n hx hb dX10_digit_47 rfl (lv_at hl 0 rfl) ?_
        refine gf_X10_7 C hK hP mw_5_169 dX10_digit_48 ?_
        refine lv_iload_n hx hb dX10_digit_51 rfl (lv_at hl 1 rfl) ?_
        obtain ⟨c7, hf⟩ := spn hf
        refine al_M8 C hK hP c7 dX10_digit_52 ?_
        refine lv_aload_n hx hb dX10_digit_53 rfl (lv_at hl 0 rfl) ?_
        refine lv_iload_n hx hb dX10_digit_54 rfl (lv_at hl 2 rfl) ?_
        refine lv_aload_n hx hb dX10_digit_55 rfl (lv_at hl 0 rfl) ?_
        refine gf_X10_0 C hK hP mw_5_162 dX10_digit_56 ?_
        refine lv_iload_n hx hb dX10_digit_59 rfl (lv_at hl 1 rfl) ?_
        obtain ⟨c8, hf⟩ := spn hf
        refine al_M1 C hK hP c8 dX10_digit_60 ?_
        refine lv_isub hx hb dX10_digit_61 ?_
        obtain ⟨v10, h9, hf⟩ := b1_some hf
        refine hc_V (As := [.int (x2 - (S3.1 1 (Int32.toNatClampNeg x1)))]) (rest := [.long (S3.2 8 (Int32.toNatClampNeg x1))]) C hK (c_X10_power l D ct ad F hG (x2 - (S3.1 1 (Int32.toNatClampNeg x1))) S3  v10 h9) hl.1 cp_X10_power mw_6_67 (rc_X10 hK hP) hP hS ⟨rfl, rfl⟩ ⟨Nat.le_of_ble_eq_true rfl, Nat.le_of_ble_eq_true rfl⟩ rfl rfl (Nat.le_of_ble_eq_true rfl) dX10_digit_62 ⟨Nat.le_of_ble_eq_true rfl, Nat.le_of_ble_eq_true rfl⟩ (fun H locs hP hS => ?_)
        obtain ⟨c11, hf⟩ := spn hf
        refine lv_ldiv hx hb dX10_digit_65 c11 ?_
        refine lv_aload_n hx hb dX10_digit_66 rfl (lv_at hl 0 rfl) ?_
        refine gf_X10_18 C hK hP mw_5_180 dX10_digit_67 ?_
        refine lv_i2l hx hb dX10_digit_70 rfl ?_
        obtain ⟨c12, hf⟩ := spn hf
        refine lv_lrem hx hb dX10_digit_71 c12 ?_
        refine lv_l2i hx hb dX10_digit_72 rfl ?_
        cases hf
        subst hQ
        exact he_i C hP hS dX10_digit_73
      · have hf := sp0 c6 hf
        refine lv_iconst (v := 0) hx hb dX10_digit_43 (by decide) ?_
        refine lv_goto (tgt := 73) hx hb dX10_digit_44 (by decide) ?_
        cases hf
        subst hQ
        exact he_i C hP hS dX10_digit_73
    · have hf := sp0 c4 hf
      refine lv_iconst (v := 0) hx hb dX10_digit_31 (by decide) ?_
      cases hf
      subst hQ
      exact he_i C hP hS dX10_digit_32
  refine lv_aload_n hx hb dX10_digit_0 rfl (lv_at hl 0 rfl) ?_
  refine lv_iload_n hx hb dX10_digit_1 rfl (lv_at hl 1 rfl) ?_
  obtain ⟨v14, S15, h13, hf⟩ := b2_some hf
  refine hc_V (As := [.int p0]) (rest := []) C hK (c_X10_noNumber l D ct ad F hG p0 S0  v14 S15 h13) hl.1 cp_X10_noNumber mw_6_160 (rc_X10 hK hP) hP hS ⟨rfl, rfl⟩ ⟨Nat.le_of_ble_eq_true rfl, Nat.le_of_ble_eq_true rfl⟩ rfl rfl (Nat.le_of_ble_eq_true rfl) dX10_digit_2 ⟨Nat.le_of_ble_eq_true rfl, Nat.le_of_ble_eq_true rfl⟩ (fun H locs hP hS => ?_)
  refine lv_if_ne (tgt := 31) hx hb dX10_digit_5 (by decide) (fun c16 => ?_) (fun c16 => ?_)
  · have hf := sp0 c16 hf
    refine lv_iconst (v := 0) hx hb dX10_digit_31 (by decide) ?_
    cases hf
    subst hQ
    exact he_i C hP hS dX10_digit_32
  · have hf := sp1 c16 hf
    refine lv_aload_n hx hb dX10_digit_8 rfl (lv_at hl 0 rfl) ?_
    refine lv_iload_n hx hb dX10_digit_9 rfl (lv_at hl 2 rfl) ?_
    refine lv_aload_n hx hb dX10_digit_10 rfl (lv_at hl 0 rfl) ?_
    refine gf_X10_1 C hK hP mw_5_163 dX10_digit_11 ?_
    refine lv_iload_n hx hb dX10_digit_14 rfl (lv_at hl 1 rfl) ?_
    obtain ⟨c17, hf⟩ := spn hf
    refine al_M2 C hK hP c17 dX10_digit_15 ?_
    refine lv_icmp_ge (tgt := 23) hx hb dX10_digit_16 (by decide) (fun c18 => ?_) (fun c18 => ?_)
    · have hf := sp1 c18 hf
      refine lv_iconst (v := 0) hx hb dX10_digit_23 (by decide) ?_
      exact w_24 p0 p1 0 S15 _ _ _ (lv_sub hl [0, 1, 2] rfl) hP hS hf
    · have hf := sp0 c18 hf
      refine lv_iconst (v := 1) hx hb dX10_digit_19 (by decide) ?_
      refine lv_goto (tgt := 24) hx hb dX10_digit_20 (by decide) ?_
      exact w_24 p0 p1 1 S15 _ _ _ (lv_sub hl [0, 1, 2] rfl) hP hS hf
theorem cp_X10_digit : CPv yX10_digit cX10_digit 3 (some .int) 2 := ⟨mw_6_184, mw_1_9, mw_6_182, mw_6_183, by decide +kernel⟩
def rm_X10_hangsOn : Room := { frames := 0, cells := 0, slots := 0, locals := 0 }
set_option maxHeartbeats 4000000 in
set_option maxRecDepth 100000 in
theorem c_X10_hangsOn (l : Launch) (D : va_G) (ct : Nat → ClassId) (ad : Nat → Nat) (F : Nat → Prop) (hG : Gd ad 18 F) (p0 : Int32) (S0 : St)  (r : Int32) (S' : St) (hf : f_X10_hangsOn p0 S0 = some (r, S')) : MetH l yX10_hangsOn cX10_hangsOn 4 (some .boolean) rm_X10_hangsOn D (tysW ct) F [.ref (ad 0), .int p0] (some (.int r)) (cellsM ct ad S0) (cellsM ct ad S') := by
  refine MetH.of RX10 (by decide) rfl (Nat.le_of_ble_eq_true rfl) ?_
  intro p e s m args below meth c C hK hP ls hl
  have hl : lv_has ls 4 [(0, .ref (ad 0)), (1, .int p0)] := hl
  obtain ⟨hx, hb, hr, hml, hown, htL, hlocks⟩ := id C
  have hS : va_S F s.heap s.heap [] := va_S.rf
  generalize hQ : MQ below (Hq D (cellsM ct ad S') F (some (.int r))) args s 0 0 F = Q
  have w_116 : ∀ (k_36 : Int32 → Int32 → St → Option (Int32 × St)) (hk_36 : ∀ (x2 : Int32) (x3 : Int32) (S : St), ∀ (H : Heap) (locs : List Loc) (ls : Array Slot), lv_has ls 4 [(0, .ref (ad 0)), (2, .int x2), (3, .int x3)] → va_P D vwCl (cellsM ct ad S) H → va_S F s.heap H locs → k_36 x2 x3 S = some (r, S') → W p l e rm_X10_hangsOn s m args below meth c H locs 0 0 Q (F0 m 36 ls [])), ∀ (x2 : Int32) (x3 : Int32) (S : St), ∀ (H : Heap) (locs : List Loc) (ls : Array Slot), lv_has ls 4 [(0, .ref (ad 0)), (2, .int x2), (3, .int x3)] → va_P D vwCl (cellsM ct ad S) H → va_S F s.heap H locs → n_X10_hangsOn_116 k_36 x2 x3 S = some (r, S') → W p l e rm_X10_hangsOn s m args below meth c H locs 0 0 Q (F0 m 116 ls []) := by
    intro k_36 hk_36 x2 x3 S H locs ls hl hP hS hf
    refine lv_iload_n hx hb dX10_hangsOn_116 rfl (lv_at hl 1 rfl) ?_
    refine lv_aload_n hx hb dX10_hangsOn_117 rfl (lv_at hl 0 rfl) ?_
    refine gf_X10_2 C hK hP mw_5_164 dX10_hangsOn_118 ?_
    refine lv_iload_n hx hb dX10_hangsOn_121 rfl (lv_at hl 2 rfl) ?_
    obtain ⟨c1, hf⟩ := spn hf
    refine al_M3 C hK hP c1 dX10_hangsOn_122 ?_
    refine lv_if_ne (tgt := 130) hx hb dX10_hangsOn_123 (by decide) (fun c2 => ?_) (fun c2 => ?_)
    · have hf := sp0 c2 hf
      refine lv_iconst (v := 0) hx hb dX10_hangsOn_130 (by decide) ?_
      refine lv_ior hx hb dX10_hangsOn_131 ?_
      refine lv_istore_n (lv' := [(2, .int (x2 ||| 0)), (0, .ref (ad 0)), (3, .int x3)]) hx hb dX10_hangsOn_132 rfl hl (by decide) rfl (fun ls hl => ?_)
      refine lv_iinc (v := (x3 + (-1))) (lv' := [(3, .int (x3 + (-1))), (2, .int (x2 ||| 0)), (0, .ref (ad 0))]) hx hb dX10_hangsOn_133 hl (k := 2) rfl rfl (by decide) rfl (fun ls hl => ?_)
      refine lv_goto (tgt := 36) hx hb dX10_hangsOn_136 (by decide) ?_
      exact hk_36 (x2 ||| 0) (x3 + (-1)) S _ _ _ (lv_sub hl [2, 1, 0] rfl) hP hS hf
    · have hf := sp1 c2 hf
      refine lv_iconst (v := 1) hx hb dX10_hangsOn_126 (by decide) ?_
      refine lv_goto (tgt := 131) hx hb dX10_hangsOn_127 (by decide) ?_
      refine lv_ior hx hb dX10_hangsOn_131 ?_
      refine lv_istore_n (lv' := [(2, .int (x2 ||| 1)), (0, .ref (ad 0)), (3, .int x3)]) hx hb dX10_hangsOn_132 rfl hl (by decide) rfl (fun ls hl => ?_)
      refine lv_iinc (v := (x3 + (-1))) (lv' := [(3, .int (x3 + (-1))), (2, .int (x2 ||| 1)), (0, .ref (ad 0))]) hx hb dX10_hangsOn_133 hl (k := 2) rfl rfl (by decide) rfl (fun ls hl => ?_)
      refine lv_goto (tgt := 36) hx hb dX10_hangsOn_136 (by decide) ?_
      exact hk_36 (x2 ||| 1) (x3 + (-1)) S _ _ _ (lv_sub hl [2, 1, 0] rfl) hP hS hf
  have w_84 : ∀ (k_36 : Int32 → Int32 → St → Option (Int32 × St)) (hk_36 : ∀ (x2 : Int32) (x3 : Int32) (S : St), ∀ (H : Heap) (locs : List Loc) (ls : Array Slot), lv_has ls 4 [(0, .ref (ad 0)), (2, .int x2), (3, .int x3)] → va_P D vwCl (cellsM ct ad S) H → va_S F s.heap H locs → k_36 x2 x3 S = some (r, S') → W p l e rm_X10_hangsOn s m args below meth c H locs 0 0 Q (F0 m 36 ls [])), ∀ (x2 : Int32) (x3 : Int32) (S : St), ∀ (H : Heap) (locs : List Loc) (ls : Array Slot), lv_has ls 4 [(0, .ref (ad 0)), (2, .int x2), (3, .int x3)] → va_P D vwCl (cellsM ct ad S) H → va_S F s.heap H locs → n_X10_hangsOn_84 k_36 x2 x3 S = some (r, S') → W p l e rm_X10_hangsOn s m args below meth c H locs 0 0 Q (F0 m 84 ls []) := by
    intro k_36 hk_36 x2 x3 S H locs ls hl hP hS hf
    refine lv_aload_n hx hb dX10_hangsOn_84 rfl (lv_at hl 0 rfl) ?_
    refine gf_X10_2 C hK hP mw_5_164 dX10_hangsOn_85 ?_
    refine lv_iload_n hx hb dX10_hangsOn_88 rfl (lv_at hl 2 rfl) ?_
    obtain ⟨c3, hf⟩ := spn hf
    refine al_M3 C hK hP c3 dX10_hangsOn_89 ?_
    refine lv_iconst (v := 1) hx hb dX10_hangsOn_90 (by decide) ?_
    refine lv_icmp_lt (tgt := 116) hx hb dX10_hangsOn_91 (by decide) (fun c4 => ?_) (fun c4 => ?_)
    · have hf := sp1 c4 hf
      exact w_116 _ hk_36 x2 x3 S _ _ _ (lv_sub hl [0, 1, 2] rfl) hP hS hf
    · have hf := sp0 c4 hf
      refine lv_aload_n hx hb dX10_hangsOn_94 rfl (lv_at hl 0 rfl) ?_
      refine gf_X10_2 C hK hP mw_5_164 dX10_hangsOn_95 ?_
      refine lv_iload_n hx hb dX10_hangsOn_98 rfl (lv_at hl 2 rfl) ?_
      obtain ⟨c5, hf⟩ := spn hf
      refine al_M3 C hK hP c5 dX10_hangsOn_99 ?_
      refine lv_iconst (v := 4) hx hb dX10_hangsOn_100 (by decide) ?_
      refine lv_icmp_gt (tgt := 116) hx hb dX10_hangsOn_101 (by decide) (fun c6 => ?_) (fun c6 => ?_)
      · have hf := sp1 c6 hf
        exact w_116 _ hk_36 x2 x3 S _ _ _ (lv_sub hl [0, 1, 2] rfl) hP hS hf
      · have hf := sp0 c6 hf
        refine lv_aload_n hx hb dX10_hangsOn_104 rfl (lv_at hl 0 rfl) ?_
        refine gf_X10_8 C hK hP mw_5_170 dX10_hangsOn_105 ?_
        refine lv_aload_n hx hb dX10_hangsOn_108 rfl (lv_at hl 0 rfl) ?_
        refine gf_X10_4 C hK hP mw_5_166 dX10_hangsOn_109 ?_
        refine lv_iload_n hx hb dX10_hangsOn_112 rfl (lv_at hl 2 rfl) ?_
        obtain ⟨c7, hf⟩ := spn hf
        refine al_M5 C hK hP c7 dX10_hangsOn_113 ?_
        refine lv_iconst (v := 1) hx hb dX10_hangsOn_114 (by decide) ?_
        obtain ⟨c8, hf⟩ := spn hf
        refine as_M9 C hK hP hG hS c8 dX10_hangsOn_115 (fun H locs hP hS => ?_)
        exact w_116 _ hk_36 x2 x3 (wI S 9 (Int32.toNatClampNeg (S.1 5 (Int32.toNatClampNeg x3))) (vp_nar .boolean 1)) _ _ _ (lv_sub hl [0, 1, 2] rfl) hP hS hf
  have w_36 : ∀ (x2 : Int32) (x3 : Int32) (S : St), ∀ (H : Heap) (locs : List Loc) (ls : Array Slot), lv_has ls 4 [(0, .ref (ad 0)), (2, .int x2), (3, .int x3)] → va_P D vwCl (cellsM ct ad S) H → va_S F s.heap H locs → n_X10_hangsOn_36 x2 x3 S = some (r, S') → W p l e rm_X10_hangsOn s m args below meth c H locs 0 0 Q (F0 m 36 ls []) := by
    have aux : ∀ (n : Nat), ∀ (x2 : Int32) (x3 : Int32) (S : St), ∀ (H : Heap) (locs : List Loc) (ls : Array Slot), lv_has ls 4 [(0, .ref (ad 0)), (2, .int x2), (3, .int x3)] → va_P D vwCl (cellsM ct ad S) H → va_S F s.heap H locs → itr (fun (q : Int32 × Int32 × St) k => s_X10_hangsOn_36  (fun (x2 : Int32) (x3 : Int32) (S : St) => k (x2, x3, S)) q.1 q.2.1 q.2.2) n (x2, x3, S) = some (r, S') → W p l e rm_X10_hangsOn s m args below meth c H locs 0 0 Q (F0 m 36 ls []) := by
      intro n
      induction n with
      | zero => intro x2 x3 S H locs ls hl hP hS hf; exact (itr_z hf).elim
      | succ n ih =>
      intro x2 x3 S H locs ls hl hP hS hf
      have hk_36 := ih
      have hf : s_X10_hangsOn_36  (fun (x2 : Int32) (x3 : Int32) (S : St) => itr (fun (q : Int32 × Int32 × St) k => s_X10_hangsOn_36  (fun (x2 : Int32) (x3 : Int32) (S : St) => k (x2, x3, S)) q.1 q.2.1 q.2.2) n (x2, x3, S)) x2 x3 S = some (r, S') := hf
      refine lv_iload_n hx hb dX10_hangsOn_36 rfl (lv_at hl 2 rfl) ?_
      refine lv_if_lt (tgt := 139) hx hb dX10_hangsOn_37 (by decide) (fun c9 => ?_) (fun c9 => ?_)
      · have hf := sp1 c9 hf
        refine lv_iload_n hx hb dX10_hangsOn_139 rfl (lv_at hl 1 rfl) ?_
        obtain ⟨c10, hf⟩ := spy hf
        cases hf
        subst hQ
        exact he_z C c10 hP hS dX10_hangsOn_140
      · have hf := sp0 c9 hf
        refine lv_aload_n hx hb dX10_hangsOn_40 rfl (lv_at hl 0 rfl) ?_
        refine gf_X10_8 C hK hP mw_5_170 dX10_hangsOn_41 ?_
        refine lv_iload_n hx hb dX10_hangsOn_44 rfl (lv_at hl 2 rfl) ?_
        obtain ⟨c11, hf⟩ := spn hf
        refine al_M9 C hK hP c11 dX10_hangsOn_45 ?_
        refine lv_if_ne (tgt := 52) hx hb dX10_hangsOn_46 (by decide) (fun c12 => ?_) (fun c12 => ?_)
        · have hf := sp0 c12 hf
          refine lv_aload_n hx hb dX10_hangsOn_52 rfl (lv_at hl 0 rfl) ?_
          refine gf_X10_2 C hK hP mw_5_164 dX10_hangsOn_53 ?_
          refine lv_iload_n hx hb dX10_hangsOn_56 rfl (lv_at hl 2 rfl) ?_
          obtain ⟨c13, hf⟩ := spn hf
          refine al_M3 C hK hP c13 dX10_hangsOn_57 ?_
          refine lv_if_eq (tgt := 84) hx hb dX10_hangsOn_58 (by decide) (fun c14 => ?_) (fun c14 => ?_)
          · have hf := sp1 c14 hf
            exact w_84 _ hk_36 x2 x3 S _ _ _ (lv_sub hl [0, 1, 2] rfl) hP hS hf
          · have hf := sp0 c14 hf
            refine lv_aload_n hx hb dX10_hangsOn_61 rfl (lv_at hl 0 rfl) ?_
            refine gf_X10_2 C hK hP mw_5_164 dX10_hangsOn_62 ?_
            refine lv_iload_n hx hb dX10_hangsOn_65 rfl (lv_at hl 2 rfl) ?_
            obtain ⟨c15, hf⟩ := spn hf
            refine al_M3 C hK hP c15 dX10_hangsOn_66 ?_
            refine lv_bipush (v := 7) hx hb dX10_hangsOn_67 (by decide) ?_
            refine lv_icmp_eq (tgt := 84) hx hb dX10_hangsOn_69 (by decide) (fun c16 => ?_) (fun c16 => ?_)
            · have hf := sp1 c16 hf
              exact w_84 _ hk_36 x2 x3 S _ _ _ (lv_sub hl [0, 1, 2] rfl) hP hS hf
            · have hf := sp0 c16 hf
              refine lv_aload_n hx hb dX10_hangsOn_72 rfl (lv_at hl 0 rfl) ?_
              refine gf_X10_8 C hK hP mw_5_170 dX10_hangsOn_73 ?_
              refine lv_aload_n hx hb dX10_hangsOn_76 rfl (lv_at hl 0 rfl) ?_
              refine gf_X10_3 C hK hP mw_5_165 dX10_hangsOn_77 ?_
              refine lv_iload_n hx hb dX10_hangsOn_80 rfl (lv_at hl 2 rfl) ?_
              obtain ⟨c17, hf⟩ := spn hf
              refine al_M4 C hK hP c17 dX10_hangsOn_81 ?_
              refine lv_iconst (v := 1) hx hb dX10_hangsOn_82 (by decide) ?_
              obtain ⟨c18, hf⟩ := spn hf
              refine as_M9 C hK hP hG hS c18 dX10_hangsOn_83 (fun H locs hP hS => ?_)
              exact w_84 _ hk_36 x2 x3 (wI S 9 (Int32.toNatClampNeg (S.1 4 (Int32.toNatClampNeg x3))) (vp_nar .boolean 1)) _ _ _ (lv_sub hl [0, 1, 2] rfl) hP hS hf
        · have hf := sp1 c12 hf
          refine lv_goto (tgt := 133) hx hb dX10_hangsOn_49 (by decide) ?_
          refine lv_iinc (v := (x3 + (-1))) (lv' := [(3, .int (x3 + (-1))), (0, .ref (ad 0)), (2, .int x2)]) hx hb dX10_hangsOn_133 hl (k := 2) rfl rfl (by decide) rfl (fun ls hl => ?_)
          refine lv_goto (tgt := 36) hx hb dX10_hangsOn_136 (by decide) ?_
          exact hk_36 x2 (x3 + (-1)) S _ _ _ (lv_sub hl [1, 2, 0] rfl) hP hS hf
    exact aux FU
  have w_2 : ∀ (x1 : Int32) (x2 : Int32) (S : St), ∀ (H : Heap) (locs : List Loc) (ls : Array Slot), lv_has ls 4 [(0, .ref (ad 0)), (1, .int x1), (2, .int x2)] → va_P D vwCl (cellsM ct ad S) H → va_S F s.heap H locs → n_X10_hangsOn_2 x1 x2 S = some (r, S') → W p l e rm_X10_hangsOn s m args below meth c H locs 0 0 Q (F0 m 2 ls []) := by
    have aux : ∀ (n : Nat), ∀ (x1 : Int32) (x2 : Int32) (S : St), ∀ (H : Heap) (locs : List Loc) (ls : Array Slot), lv_has ls 4 [(0, .ref (ad 0)), (1, .int x1), (2, .int x2)] → va_P D vwCl (cellsM ct ad S) H → va_S F s.heap H locs → itr (fun (q : Int32 × Int32 × St) k => s_X10_hangsOn_2  (fun (x1 : Int32) (x2 : Int32) (S : St) => k (x1, x2, S)) q.1 q.2.1 q.2.2) n (x1, x2, S) = some (r, S') → W p l e rm_X10_hangsOn s m args below meth c H locs 0 0 Q (F0 m 2 ls []) := by
      intro n
      induction n with
      | zero => intro x1 x2 S H locs ls hl hP hS hf; exact (itr_z hf).elim
      | succ n ih =>
      intro x1 x2 S H locs ls hl hP hS hf
      have hk_2 := ih
      have hf : s_X10_hangsOn_2  (fun (x1 : Int32) (x2 : Int32) (S : St) => itr (fun (q : Int32 × Int32 × St) k => s_X10_hangsOn_2  (fun (x1 : Int32) (x2 : Int32) (S : St) => k (x1, x2, S)) q.1 q.2.1 q.2.2) n (x1, x2, S)) x1 x2 S = some (r, S') := hf
      refine lv_iload_n hx hb dX10_hangsOn_2 rfl (lv_at hl 2 rfl) ?_
      refine lv_aload_n hx hb dX10_hangsOn_3 rfl (lv_at hl 0 rfl) ?_
      refine gf_X10_19 C hK hP mw_5_181 dX10_hangsOn_4 ?_
      refine lv_icmp_ge (tgt := 32) hx hb dX10_hangsOn_7 (by decide) (fun c19 => ?_) (fun c19 => ?_)
      · have hf := sp1 c19 hf
        refine lv_iconst (v := 0) hx hb dX10_hangsOn_32 (by decide) ?_
        refine lv_istore_n (lv' := [(2, .int 0), (0, .ref (ad 0)), (1, .int x1)]) hx hb dX10_hangsOn_33 rfl hl (by decide) rfl (fun ls hl => ?_)
        refine lv_iload_n hx hb dX10_hangsOn_34 rfl (lv_at hl 2 rfl) ?_
        refine lv_istore_n (lv' := [(3, .int x1), (2, .int 0), (0, .ref (ad 0)), (1, .int x1)]) hx hb dX10_hangsOn_35 rfl hl (by decide) rfl (fun ls hl => ?_)
        exact w_36 0 x1 S _ _ _ (lv_sub hl [2, 1, 0] rfl) hP hS hf
      · have hf := sp0 c19 hf
        refine lv_aload_n hx hb dX10_hangsOn_10 rfl (lv_at hl 0 rfl) ?_
        refine gf_X10_8 C hK hP mw_5_170 dX10_hangsOn_11 ?_
        refine lv_iload_n hx hb dX10_hangsOn_14 rfl (lv_at hl 2 rfl) ?_
        refine lv_iload_n hx hb dX10_hangsOn_15 rfl (lv_at hl 2 rfl) ?_
        refine lv_iload_n hx hb dX10_hangsOn_16 rfl (lv_at hl 1 rfl) ?_
        refine lv_icmp_ne (tgt := 24) hx hb dX10_hangsOn_17 (by decide) (fun c20 => ?_) (fun c20 => ?_)
        · have hf := sp0 c20 hf
          refine lv_iconst (v := 0) hx hb dX10_hangsOn_24 (by decide) ?_
          obtain ⟨c21, hf⟩ := spn hf
          refine as_M9 C hK hP hG hS c21 dX10_hangsOn_25 (fun H locs hP hS => ?_)
          refine lv_iinc (v := (x2 + 1)) (lv' := [(2, .int (x2 + 1)), (0, .ref (ad 0)), (1, .int x1)]) hx hb dX10_hangsOn_26 hl (k := 2) rfl rfl (by decide) rfl (fun ls hl => ?_)
          refine lv_goto (tgt := 2) hx hb dX10_hangsOn_29 (by decide) ?_
          exact hk_2 x1 (x2 + 1) (wI S 9 (Int32.toNatClampNeg x2) (vp_nar .boolean 0)) _ _ _ (lv_sub hl [1, 2, 0] rfl) hP hS hf
        · have hf := sp1 c20 hf
          refine lv_iconst (v := 1) hx hb dX10_hangsOn_20 (by decide) ?_
          refine lv_goto (tgt := 25) hx hb dX10_hangsOn_21 (by decide) ?_
          obtain ⟨c22, hf⟩ := spn hf
          refine as_M9 C hK hP hG hS c22 dX10_hangsOn_25 (fun H locs hP hS => ?_)
          refine lv_iinc (v := (x2 + 1)) (lv' := [(2, .int (x2 + 1)), (0, .ref (ad 0)), (1, .int x1)]) hx hb dX10_hangsOn_26 hl (k := 2) rfl rfl (by decide) rfl (fun ls hl => ?_)
          refine lv_goto (tgt := 2) hx hb dX10_hangsOn_29 (by decide) ?_
          exact hk_2 x1 (x2 + 1) (wI S 9 (Int32.toNatClampNeg x2) (vp_nar .boolean 1)) _ _ _ (lv_sub hl [1, 2, 0] rfl) hP hS hf
    exact aux FU
  refine lv_iconst (v := 0) hx hb dX10_hangsOn_0 (by decide) ?_
  refine lv_istore_n (lv' := [(2, .int 0), (0, .ref (ad 0)), (1, .int p0)]) hx hb dX10_hangsOn_1 rfl hl (by decide) rfl (fun ls hl => ?_)
  exact w_2 p0 0 S0 _ _ _ (lv_sub hl [1, 2, 0] rfl) hP hS hf
theorem cp_X10_hangsOn : CPv yX10_hangsOn cX10_hangsOn 4 (some .boolean) 1 := ⟨mw_6_192, mw_1_9, mw_6_191, ms_58, by decide +kernel⟩
def rm_X10_refine : Room := { frames := 6, cells := 0, slots := 0, locals := 193 }
set_option maxHeartbeats 4000000 in
set_option maxRecDepth 100000 in
theorem c_X10_refine (l : Launch) (D : va_G) (ct : Nat → ClassId) (ad : Nat → Nat) (F : Nat → Prop) (hG : Gd ad 18 F) (p0 : Int32) (p1 : Int32) (S0 : St)  (r : Int32) (S' : St) (hf : f_X10_refine p0 p1 S0 = some (r, S')) : MetH l yX10_refine cX10_refine 4 (some .int) rm_X10_refine D (tysW ct) F [.ref (ad 0), .int p0, .int p1] (some (.int r)) (cellsM ct ad S0) (cellsM ct ad S') := by
  refine MetH.of RX10 (by decide) rfl (Nat.le_of_ble_eq_true rfl) ?_
  intro p e s m args below meth c C hK hP ls hl
  have hl : lv_has ls 4 [(0, .ref (ad 0)), (1, .int p0), (2, .int p1)] := hl
  obtain ⟨hx, hb, hr, hml, hown, htL, hlocks⟩ := id C
  have hS : va_S F s.heap s.heap [] := va_S.rf
  generalize hQ : MQ below (Hq D (cellsM ct ad S') F (some (.int r))) args s 0 0 F = Q
  have w_95 : ∀ (x1 : Int32) (x3 : Int32) (S : St), ∀ (H : Heap) (locs : List Loc) (ls : Array Slot), lv_has ls 4 [(0, .ref (ad 0)), (1, .int x1), (3, .int x3)] → va_P D vwCl (cellsM ct ad S) H → va_S F s.heap H locs → n_X10_refine_95 x1 x3 S = some (r, S') → W p l e rm_X10_refine s m args below meth c H locs 0 0 Q (F0 m 95 ls []) := by
    have aux : ∀ (n : Nat), ∀ (x1 : Int32) (x3 : Int32) (S : St), ∀ (H : Heap) (locs : List Loc) (ls : Array Slot), lv_has ls 4 [(0, .ref (ad 0)), (1, .int x1), (3, .int x3)] → va_P D vwCl (cellsM ct ad S) H → va_S F s.heap H locs → itr (fun (q : Int32 × Int32 × St) k => s_X10_refine_95  (fun (x1 : Int32) (x3 : Int32) (S : St) => k (x1, x3, S)) q.1 q.2.1 q.2.2) n (x1, x3, S) = some (r, S') → W p l e rm_X10_refine s m args below meth c H locs 0 0 Q (F0 m 95 ls []) := by
      intro n
      induction n with
      | zero => intro x1 x3 S H locs ls hl hP hS hf; exact (itr_z hf).elim
      | succ n ih =>
      intro x1 x3 S H locs ls hl hP hS hf
      have hk_95 := ih
      have hf : s_X10_refine_95  (fun (x1 : Int32) (x3 : Int32) (S : St) => itr (fun (q : Int32 × Int32 × St) k => s_X10_refine_95  (fun (x1 : Int32) (x3 : Int32) (S : St) => k (x1, x3, S)) q.1 q.2.1 q.2.2) n (x1, x3, S)) x1 x3 S = some (r, S') := hf
      refine lv_iload_n hx hb dX10_refine_95 rfl (lv_at hl 2 rfl) ?_
      refine lv_aload_n hx hb dX10_refine_96 rfl (lv_at hl 0 rfl) ?_
      refine gf_X10_19 C hK hP mw_5_181 dX10_refine_97 ?_
      refine lv_icmp_ge (tgt := 114) hx hb dX10_refine_100 (by decide) (fun c1 => ?_) (fun c1 => ?_)
      · have hf := sp1 c1 hf
        refine lv_aload_n hx hb dX10_refine_114 rfl (lv_at hl 0 rfl) ?_
        refine gf_X10_1 C hK hP mw_5_163 dX10_refine_115 ?_
        refine lv_iload_n hx hb dX10_refine_118 rfl (lv_at hl 1 rfl) ?_
        obtain ⟨c2, hf⟩ := spn hf
        refine al_M2 C hK hP c2 dX10_refine_119 ?_
        cases hf
        subst hQ
        exact he_i C hP hS dX10_refine_120
      · have hf := sp0 c1 hf
        refine lv_aload_n hx hb dX10_refine_103 rfl (lv_at hl 0 rfl) ?_
        refine lv_iload_n hx hb dX10_refine_104 rfl (lv_at hl 2 rfl) ?_
        obtain ⟨S4, h3, hf⟩ := b1_some hf
        refine hc_V (As := [.int x3]) (rest := []) C hK (c_X10_finds l D ct ad F hG x3 S  S4 h3) hl.1 cp_X10_finds mw_6_50 (rc_X10 hK hP) hP hS ⟨rfl, rfl⟩ ⟨Nat.le_of_ble_eq_true rfl, Nat.le_of_ble_eq_true rfl⟩ rfl rfl (Nat.le_of_ble_eq_true rfl) dX10_refine_105 ⟨Nat.le_of_ble_eq_true rfl, Nat.le_of_ble_eq_true rfl⟩ (fun H locs hP hS => ?_)
        refine lv_iinc (v := (x3 + 1)) (lv' := [(3, .int (x3 + 1)), (0, .ref (ad 0)), (1, .int x1)]) hx hb dX10_refine_108 hl (k := 2) rfl rfl (by decide) rfl (fun ls hl => ?_)
        refine lv_goto (tgt := 95) hx hb dX10_refine_111 (by decide) ?_
        exact hk_95 x1 (x3 + 1) S4 _ _ _ (lv_sub hl [1, 2, 0] rfl) hP hS hf
    exact aux FU
  have w_42 : ∀ (x1 : Int32) (x2 : Int32) (x3 : Int32) (S : St), ∀ (H : Heap) (locs : List Loc) (ls : Array Slot), lv_has ls 4 [(0, .ref (ad 0)), (1, .int x1), (2, .int x2), (3, .int x3)] → va_P D vwCl (cellsM ct ad S) H → va_S F s.heap H locs → n_X10_refine_42 x1 x2 x3 S = some (r, S') → W p l e rm_X10_refine s m args below meth c H locs 0 0 Q (F0 m 42 ls []) := by
    have aux : ∀ (n : Nat), ∀ (x1 : Int32) (x2 : Int32) (x3 : Int32) (S : St), ∀ (H : Heap) (locs : List Loc) (ls : Array Slot), lv_has ls 4 [(0, .ref (ad 0)), (1, .int x1), (2, .int x2), (3, .int x3)] → va_P D vwCl (cellsM ct ad S) H → va_S F s.heap H locs → itr (fun (q : Int32 × Int32 × Int32 × St) k => s_X10_refine_42  (fun (x1 : Int32) (x2 : Int32) (x3 : Int32) (S : St) => k (x1, x2, x3, S)) q.1 q.2.1 q.2.2.1 q.2.2.2) n (x1, x2, x3, S) = some (r, S') → W p l e rm_X10_refine s m args below meth c H locs 0 0 Q (F0 m 42 ls []) := by
      intro n
      induction n with
      | zero => intro x1 x2 x3 S H locs ls hl hP hS hf; exact (itr_z hf).elim
      | succ n ih =>
      intro x1 x2 x3 S H locs ls hl hP hS hf
      have hk_42 := ih
      have hf : s_X10_refine_42  (fun (x1 : Int32) (x2 : Int32) (x3 : Int32) (S : St) => itr (fun (q : Int32 × Int32 × Int32 × St) k => s_X10_refine_42  (fun (x1 : Int32) (x2 : Int32) (x3 : Int32) (S : St) => k (x1, x2, x3, S)) q.1 q.2.1 q.2.2.1 q.2.2.2) n (x1, x2, x3, S)) x1 x2 x3 S = some (r, S') := hf
      refine lv_iload_n hx hb dX10_refine_42 rfl (lv_at hl 3 rfl) ?_
      refine lv_aload_n hx hb dX10_refine_43 rfl (lv_at hl 0 rfl) ?_
      refine gf_X10_19 C hK hP mw_5_181 dX10_refine_44 ?_
      refine lv_icmp_ge (tgt := 93) hx hb dX10_refine_47 (by decide) (fun c5 => ?_) (fun c5 => ?_)
      · have hf := sp1 c5 hf
        refine lv_iconst (v := 0) hx hb dX10_refine_93 (by decide) ?_
        refine lv_istore_n (lv' := [(3, .int 0), (0, .ref (ad 0)), (1, .int x1), (2, .int x2)]) hx hb dX10_refine_94 rfl hl (by decide) rfl (fun ls hl => ?_)
        exact w_95 x1 0 S _ _ _ (lv_sub hl [1, 2, 0] rfl) hP hS hf
      · have hf := sp0 c5 hf
        refine lv_aload_n hx hb dX10_refine_50 rfl (lv_at hl 0 rfl) ?_
        refine gf_X10_8 C hK hP mw_5_170 dX10_refine_51 ?_
        refine lv_iload_n hx hb dX10_refine_54 rfl (lv_at hl 3 rfl) ?_
        obtain ⟨c6, hf⟩ := spn hf
        refine al_M9 C hK hP c6 dX10_refine_55 ?_
        refine lv_if_eq (tgt := 87) hx hb dX10_refine_56 (by decide) (fun c7 => ?_) (fun c7 => ?_)
        · have hf := sp1 c7 hf
          refine lv_iinc (v := (x3 + 1)) (lv' := [(3, .int (x3 + 1)), (0, .ref (ad 0)), (1, .int x1), (2, .int x2)]) hx hb dX10_refine_87 hl (k := 3) rfl rfl (by decide) rfl (fun ls hl => ?_)
          refine lv_goto (tgt := 42) hx hb dX10_refine_90 (by decide) ?_
          exact hk_42 x1 x2 (x3 + 1) S _ _ _ (lv_sub hl [1, 2, 3, 0] rfl) hP hS hf
        · have hf := sp0 c7 hf
          refine lv_aload_n hx hb dX10_refine_59 rfl (lv_at hl 0 rfl) ?_
          refine gf_X10_2 C hK hP mw_5_164 dX10_refine_60 ?_
          refine lv_iload_n hx hb dX10_refine_63 rfl (lv_at hl 3 rfl) ?_
          obtain ⟨c8, hf⟩ := spn hf
          refine al_M3 C hK hP c8 dX10_refine_64 ?_
          refine lv_if_ne (tgt := 87) hx hb dX10_refine_65 (by decide) (fun c9 => ?_) (fun c9 => ?_)
          · have hf := sp0 c9 hf
            refine lv_iinc (v := (x3 + 1)) (lv' := [(3, .int (x3 + 1)), (0, .ref (ad 0)), (1, .int x1), (2, .int x2)]) hx hb dX10_refine_87 hl (k := 3) rfl rfl (by decide) rfl (fun ls hl => ?_)
            refine lv_goto (tgt := 42) hx hb dX10_refine_90 (by decide) ?_
            exact hk_42 x1 x2 (x3 + 1) S _ _ _ (lv_sub hl [1, 2, 3, 0] rfl) hP hS hf
          · have hf := sp1 c9 hf
            refine lv_aload_n hx hb dX10_refine_68 rfl (lv_at hl 0 rfl) ?_
            refine gf_X10_5 C hK hP mw_5_167 dX10_refine_69 ?_
            refine lv_iload_n hx hb dX10_refine_72 rfl (lv_at hl 3 rfl) ?_
            refine lv_bipush (v := 60) hx hb dX10_refine_73 (by decide) ?_
            refine lv_aload_n hx hb dX10_refine_75 rfl (lv_at hl 0 rfl) ?_
            refine gf_X10_5 C hK hP mw_5_167 dX10_refine_76 ?_
            refine lv_iload_n hx hb dX10_refine_79 rfl (lv_at hl 3 rfl) ?_
            obtain ⟨c10, hf⟩ := spn hf
            refine al_M6 C hK hP c10 dX10_refine_80 ?_
            refine lv_iload_n hx hb dX10_refine_81 rfl (lv_at hl 2 rfl) ?_
            refine lv_iadd hx hb dX10_refine_82 ?_
            refine va_mmin (ls := _) hx hb (hml.trans hl.1.symm) hown (htL _ mw_6_62) (htL _ mw_2_60) (htL _ mw_1_17) (htL _ mw_2_61) (Nat.le_of_ble_eq_true rfl) (Nat.le_of_ble_eq_true rfl) (Nat.le_of_ble_eq_true rfl) (Nat.le_of_ble_eq_true rfl) dX10_refine_83 ?_
            obtain ⟨c11, hf⟩ := spn hf
            refine as_M6 C hK hP hG hS c11 dX10_refine_86 (fun H locs hP hS => ?_)
            refine lv_iinc (v := (x3 + 1)) (lv' := [(3, .int (x3 + 1)), (0, .ref (ad 0)), (1, .int x1), (2, .int x2)]) hx hb dX10_refine_87 hl (k := 3) rfl rfl (by decide) rfl (fun ls hl => ?_)
            refine lv_goto (tgt := 42) hx hb dX10_refine_90 (by decide) ?_
            exact hk_42 x1 x2 (x3 + 1) (wI S 6 (Int32.toNatClampNeg x3) (mnI 60 ((S.1 6 (Int32.toNatClampNeg x3)) + x2))) _ _ _ (lv_sub hl [1, 2, 3, 0] rfl) hP hS hf
    exact aux FU
  refine lv_aload_n hx hb dX10_refine_0 rfl (lv_at hl 0 rfl) ?_
  refine lv_iload_n hx hb dX10_refine_1 rfl (lv_at hl 1 rfl) ?_
  obtain ⟨v13, S14, h12, hf⟩ := b2_some hf
  refine hc_V (As := [.int p0]) (rest := []) C hK (c_X10_noNumber l D ct ad F hG p0 S0  v13 S14 h12) hl.1 cp_X10_noNumber mw_6_160 (rc_X10 hK hP) hP hS ⟨rfl, rfl⟩ ⟨Nat.le_of_ble_eq_true rfl, Nat.le_of_ble_eq_true rfl⟩ rfl rfl (Nat.le_of_ble_eq_true rfl) dX10_refine_2 ⟨Nat.le_of_ble_eq_true rfl, Nat.le_of_ble_eq_true rfl⟩ (fun H locs hP hS => ?_)
  refine lv_if_ne (tgt := 38) hx hb dX10_refine_5 (by decide) (fun c15 => ?_) (fun c15 => ?_)
  · have hf := sp0 c15 hf
    refine lv_iconst (v := 0) hx hb dX10_refine_38 (by decide) ?_
    cases hf
    subst hQ
    exact he_i C hP hS dX10_refine_39
  · have hf := sp1 c15 hf
    refine lv_aload_n hx hb dX10_refine_8 rfl (lv_at hl 0 rfl) ?_
    refine lv_iload_n hx hb dX10_refine_9 rfl (lv_at hl 2 rfl) ?_
    refine lv_i2l hx hb dX10_refine_10 rfl ?_
    refine lv_lconst (v := 1) hx hb dX10_refine_11 (by decide) ?_
    refine lv_ldc2 (v := 20) hx hb hown (htL _ mw_6_41) dX10_refine_12 ?_
    obtain ⟨v16, h17, hf⟩ := b1_some hf
    refine pc_S (As := [.long (Int32.toInt64 p1), .long 1, .long (20)]) (rest := [.ref (ad 0)]) C (c_X10_isIn l (Int32.toInt64 p1) 1 (20) v16 h17) hl.1 cp_X10_isIn mw_6_15 ⟨rfl, rfl⟩ ⟨Nat.le_of_ble_eq_true rfl, Nat.le_of_ble_eq_true rfl⟩ rfl rfl (Nat.le_of_ble_eq_true rfl) dX10_refine_15 ⟨Nat.le_of_ble_eq_true rfl, Nat.le_of_ble_eq_true rfl⟩ ?_
    refine lv_iconst (v := 2) hx hb dX10_refine_18 (by decide) ?_
    obtain ⟨v19, S20, h18, hf⟩ := b2_some hf
    refine hc_V (As := [.int v16, .int 2]) (rest := []) C hK (c_X10_no l D ct ad F hG v16 2 S14  v19 S20 h18) hl.1 cp_X10_no mw_6_21 (rc_X10 hK hP) hP hS ⟨rfl, rfl⟩ ⟨Nat.le_of_ble_eq_true rfl, Nat.le_of_ble_eq_true rfl⟩ rfl rfl (Nat.le_of_ble_eq_true rfl) dX10_refine_19 ⟨Nat.le_of_ble_eq_true rfl, Nat.le_of_ble_eq_true rfl⟩ (fun H locs hP hS => ?_)
    refine lv_if_ne (tgt := 38) hx hb dX10_refine_22 (by decide) (fun c21 => ?_) (fun c21 => ?_)
    · have hf := sp0 c21 hf
      refine lv_iconst (v := 0) hx hb dX10_refine_38 (by decide) ?_
      cases hf
      subst hQ
      exact he_i C hP hS dX10_refine_39
    · have hf := sp1 c21 hf
      refine lv_aload_n hx hb dX10_refine_25 rfl (lv_at hl 0 rfl) ?_
      refine lv_aload_n hx hb dX10_refine_26 rfl (lv_at hl 0 rfl) ?_
      refine lv_iload_n hx hb dX10_refine_27 rfl (lv_at hl 1 rfl) ?_
      obtain ⟨v23, S24, h22, hf⟩ := b2_some hf
      refine hc_V (As := [.int p0]) (rest := [.ref (ad 0)]) C hK (c_X10_hangsOn l D ct ad F hG p0 S20  v23 S24 h22) hl.1 cp_X10_hangsOn mw_6_189 (rc_X10 hK hP) hP hS ⟨rfl, rfl⟩ ⟨Nat.le_of_ble_eq_true rfl, Nat.le_of_ble_eq_true rfl⟩ rfl rfl (Nat.le_of_ble_eq_true rfl) dX10_refine_28 ⟨Nat.le_of_ble_eq_true rfl, Nat.le_of_ble_eq_true rfl⟩ (fun H locs hP hS => ?_)
      refine lv_iconst (v := 3) hx hb dX10_refine_31 (by decide) ?_
      obtain ⟨v26, S27, h25, hf⟩ := b2_some hf
      refine hc_V (As := [.int v23, .int 3]) (rest := []) C hK (c_X10_no l D ct ad F hG v23 3 S24  v26 S27 h25) hl.1 cp_X10_no mw_6_21 (rc_X10 hK hP) hP hS ⟨rfl, rfl⟩ ⟨Nat.le_of_ble_eq_true rfl, Nat.le_of_ble_eq_true rfl⟩ rfl rfl (Nat.le_of_ble_eq_true rfl) dX10_refine_32 ⟨Nat.le_of_ble_eq_true rfl, Nat.le_of_ble_eq_true rfl⟩ (fun H locs hP hS => ?_)
      refine lv_if_eq (tgt := 40) hx hb dX10_refine_35 (by decide) (fun c28 => ?_) (fun c28 => ?_)
      · have hf := sp1 c28 hf
        refine lv_iconst (v := 0) hx hb dX10_refine_40 (by decide) ?_
        refine lv_istore_n (lv' := [(3, .int 0), (0, .ref (ad 0)), (1, .int p0), (2, .int p1)]) hx hb dX10_refine_41 rfl hl (by decide) rfl (fun ls hl => ?_)
        exact w_42 p0 p1 0 S27 _ _ _ (lv_sub hl [1, 2, 3, 0] rfl) hP hS hf
      · have hf := sp0 c28 hf
        refine lv_iconst (v := 0) hx hb dX10_refine_38 (by decide) ?_
        cases hf
        subst hQ
        exact he_i C hP hS dX10_refine_39
theorem cp_X10_refine : CPv yX10_refine cX10_refine 4 (some .int) 2 := ⟨mw_6_188, mw_1_9, mw_6_186, mw_6_187, by decide +kernel⟩
def rm_X10_like : Room := { frames := 2, cells := 0, slots := 0, locals := 54 }
set_option maxHeartbeats 4000000 in
set_option maxRecDepth 100000 in
theorem c_X10_like (l : Launch) (D : va_G) (ct : Nat → ClassId) (ad : Nat → Nat) (F : Nat → Prop) (hG : Gd ad 18 F) (p0 : Int32) (S0 : St)  (r : Int32) (S' : St) (hf : f_X10_like p0 S0 = some (r, S')) : MetH l yX10_like cX10_like 3 (some .int) rm_X10_like D (tysW ct) F [.ref (ad 0), .int p0] (some (.int r)) (cellsM ct ad S0) (cellsM ct ad S') := by
  refine MetH.of RX10 (by decide) rfl (Nat.le_of_ble_eq_true rfl) ?_
  intro p e s m args below meth c C hK hP ls hl
  have hl : lv_has ls 3 [(0, .ref (ad 0)), (1, .int p0)] := hl
  obtain ⟨hx, hb, hr, hml, hown, htL, hlocks⟩ := id C
  have hS : va_S F s.heap s.heap [] := va_S.rf
  generalize hQ : MQ below (Hq D (cellsM ct ad S') F (some (.int r))) args s 0 0 F = Q
  have w_12 : ∀ (x1 : Int32) (x2 : Int32) (S : St), ∀ (H : Heap) (locs : List Loc) (ls : Array Slot), lv_has ls 3 [(0, .ref (ad 0)), (1, .int x1), (2, .int x2)] → va_P D vwCl (cellsM ct ad S) H → va_S F s.heap H locs → n_X10_like_12 x1 x2 S = some (r, S') → W p l e rm_X10_like s m args below meth c H locs 0 0 Q (F0 m 12 ls []) := by
    have aux : ∀ (n : Nat), ∀ (x1 : Int32) (x2 : Int32) (S : St), ∀ (H : Heap) (locs : List Loc) (ls : Array Slot), lv_has ls 3 [(0, .ref (ad 0)), (1, .int x1), (2, .int x2)] → va_P D vwCl (cellsM ct ad S) H → va_S F s.heap H locs → itr (fun (q : Int32 × Int32 × St) k => s_X10_like_12  (fun (x1 : Int32) (x2 : Int32) (S : St) => k (x1, x2, S)) q.1 q.2.1 q.2.2) n (x1, x2, S) = some (r, S') → W p l e rm_X10_like s m args below meth c H locs 0 0 Q (F0 m 12 ls []) := by
      intro n
      induction n with
      | zero => intro x1 x2 S H locs ls hl hP hS hf; exact (itr_z hf).elim
      | succ n ih =>
      intro x1 x2 S H locs ls hl hP hS hf
      have hk_12 := ih
      have hf : s_X10_like_12  (fun (x1 : Int32) (x2 : Int32) (S : St) => itr (fun (q : Int32 × Int32 × St) k => s_X10_like_12  (fun (x1 : Int32) (x2 : Int32) (S : St) => k (x1, x2, S)) q.1 q.2.1 q.2.2) n (x1, x2, S)) x1 x2 S = some (r, S') := hf
      refine lv_aload_n hx hb dX10_like_12 rfl (lv_at hl 0 rfl) ?_
      refine gf_X10_1 C hK hP mw_5_163 dX10_like_13 ?_
      refine lv_iload_n hx hb dX10_like_16 rfl (lv_at hl 2 rfl) ?_
      obtain ⟨c1, hf⟩ := spn hf
      refine al_M2 C hK hP c1 dX10_like_17 ?_
      refine lv_aload_n hx hb dX10_like_18 rfl (lv_at hl 0 rfl) ?_
      refine gf_X10_1 C hK hP mw_5_163 dX10_like_19 ?_
      refine lv_iload_n hx hb dX10_like_22 rfl (lv_at hl 1 rfl) ?_
      obtain ⟨c2, hf⟩ := spn hf
      refine al_M2 C hK hP c2 dX10_like_23 ?_
      refine lv_icmp_ne (tgt := 58) hx hb dX10_like_24 (by decide) (fun c3 => ?_) (fun c3 => ?_)
      · have hf := sp0 c3 hf
        refine lv_iinc (v := (x2 + 1)) (lv' := [(2, .int (x2 + 1)), (0, .ref (ad 0)), (1, .int x1)]) hx hb dX10_like_58 hl (k := 2) rfl rfl (by decide) rfl (fun ls hl => ?_)
        refine lv_goto (tgt := 12) hx hb dX10_like_61 (by decide) ?_
        exact hk_12 x1 (x2 + 1) S _ _ _ (lv_sub hl [1, 2, 0] rfl) hP hS hf
      · have hf := sp1 c3 hf
        refine lv_aload_n hx hb dX10_like_27 rfl (lv_at hl 0 rfl) ?_
        refine gf_X10_0 C hK hP mw_5_162 dX10_like_28 ?_
        refine lv_iload_n hx hb dX10_like_31 rfl (lv_at hl 2 rfl) ?_
        obtain ⟨c4, hf⟩ := spn hf
        refine al_M1 C hK hP c4 dX10_like_32 ?_
        refine lv_aload_n hx hb dX10_like_33 rfl (lv_at hl 0 rfl) ?_
        refine gf_X10_0 C hK hP mw_5_162 dX10_like_34 ?_
        refine lv_iload_n hx hb dX10_like_37 rfl (lv_at hl 1 rfl) ?_
        obtain ⟨c5, hf⟩ := spn hf
        refine al_M1 C hK hP c5 dX10_like_38 ?_
        refine lv_icmp_ne (tgt := 58) hx hb dX10_like_39 (by decide) (fun c6 => ?_) (fun c6 => ?_)
        · have hf := sp0 c6 hf
          refine lv_iinc (v := (x2 + 1)) (lv' := [(2, .int (x2 + 1)), (0, .ref (ad 0)), (1, .int x1)]) hx hb dX10_like_58 hl (k := 2) rfl rfl (by decide) rfl (fun ls hl => ?_)
          refine lv_goto (tgt := 12) hx hb dX10_like_61 (by decide) ?_
          exact hk_12 x1 (x2 + 1) S _ _ _ (lv_sub hl [1, 2, 0] rfl) hP hS hf
        · have hf := sp1 c6 hf
          refine lv_aload_n hx hb dX10_like_42 rfl (lv_at hl 0 rfl) ?_
          refine gf_X10_7 C hK hP mw_5_169 dX10_like_43 ?_
          refine lv_iload_n hx hb dX10_like_46 rfl (lv_at hl 2 rfl) ?_
          obtain ⟨c7, hf⟩ := spn hf
          refine al_M8 C hK hP c7 dX10_like_47 ?_
          refine lv_aload_n hx hb dX10_like_48 rfl (lv_at hl 0 rfl) ?_
          refine gf_X10_7 C hK hP mw_5_169 dX10_like_49 ?_
          refine lv_iload_n hx hb dX10_like_52 rfl (lv_at hl 1 rfl) ?_
          obtain ⟨c8, hf⟩ := spn hf
          refine al_M8 C hK hP c8 dX10_like_53 ?_
          refine W.lcmp hx hb dX10_like_54 ?_
          refine lv_if_eq (tgt := 64) hx hb dX10_like_55 (by decide) (fun c9 => ?_) (fun c9 => ?_)
          · have hf := sp1 c9 hf
            refine lv_iload_n hx hb dX10_like_64 rfl (lv_at hl 2 rfl) ?_
            cases hf
            subst hQ
            exact he_i C hP hS dX10_like_65
          · have hf := sp0 c9 hf
            refine lv_iinc (v := (x2 + 1)) (lv' := [(2, .int (x2 + 1)), (0, .ref (ad 0)), (1, .int x1)]) hx hb dX10_like_58 hl (k := 2) rfl rfl (by decide) rfl (fun ls hl => ?_)
            refine lv_goto (tgt := 12) hx hb dX10_like_61 (by decide) ?_
            exact hk_12 x1 (x2 + 1) S _ _ _ (lv_sub hl [1, 2, 0] rfl) hP hS hf
    exact aux FU
  refine lv_aload_n hx hb dX10_like_0 rfl (lv_at hl 0 rfl) ?_
  refine lv_iload_n hx hb dX10_like_1 rfl (lv_at hl 1 rfl) ?_
  obtain ⟨v11, S12, h10, hf⟩ := b2_some hf
  refine hc_V (As := [.int p0]) (rest := []) C hK (c_X10_noNumber l D ct ad F hG p0 S0  v11 S12 h10) hl.1 cp_X10_noNumber mw_6_160 (rc_X10 hK hP) hP hS ⟨rfl, rfl⟩ ⟨Nat.le_of_ble_eq_true rfl, Nat.le_of_ble_eq_true rfl⟩ rfl rfl (Nat.le_of_ble_eq_true rfl) dX10_like_2 ⟨Nat.le_of_ble_eq_true rfl, Nat.le_of_ble_eq_true rfl⟩ (fun H locs hP hS => ?_)
  refine lv_if_eq (tgt := 10) hx hb dX10_like_5 (by decide) (fun c13 => ?_) (fun c13 => ?_)
  · have hf := sp1 c13 hf
    refine lv_iconst (v := 0) hx hb dX10_like_10 (by decide) ?_
    refine lv_istore_n (lv' := [(2, .int 0), (0, .ref (ad 0)), (1, .int p0)]) hx hb dX10_like_11 rfl hl (by decide) rfl (fun ls hl => ?_)
    exact w_12 p0 0 S12 _ _ _ (lv_sub hl [1, 2, 0] rfl) hP hS hf
  · have hf := sp0 c13 hf
    refine lv_iconst (v := 0) hx hb dX10_like_8 (by decide) ?_
    cases hf
    subst hQ
    exact he_i C hP hS dX10_like_9
theorem cp_X10_like : CPv yX10_like cX10_like 3 (some .int) 1 := ⟨mw_6_196, mw_1_9, mw_6_194, mw_6_195, by decide +kernel⟩
def rm_X10_agree : Room := { frames := 4, cells := 0, slots := 0, locals := 130 }
set_option maxHeartbeats 4000000 in
set_option maxRecDepth 100000 in
theorem c_X10_agree (l : Launch) (D : va_G) (ct : Nat → ClassId) (ad : Nat → Nat) (F : Nat → Prop) (hG : Gd ad 18 F) (p0 : Int32) (p1 : Int32) (S0 : St)  (r : Int32) (S' : St) (hf : f_X10_agree p0 p1 S0 = some (r, S')) : MetH l yX10_agree cX10_agree 3 (some .boolean) rm_X10_agree D (tysW ct) F [.ref (ad 0), .int p0, .int p1] (some (.int r)) (cellsM ct ad S0) (cellsM ct ad S') := by
  refine MetH.of RX10 (by decide) rfl (Nat.le_of_ble_eq_true rfl) ?_
  intro p e s m args below meth c C hK hP ls hl
  have hl : lv_has ls 3 [(0, .ref (ad 0)), (1, .int p0), (2, .int p1)] := hl
  obtain ⟨hx, hb, hr, hml, hown, htL, hlocks⟩ := id C
  have hS : va_S F s.heap s.heap [] := va_S.rf
  generalize hQ : MQ below (Hq D (cellsM ct ad S') F (some (.int r))) args s 0 0 F = Q
  refine lv_aload_n hx hb dX10_agree_0 rfl (lv_at hl 0 rfl) ?_
  refine lv_iload_n hx hb dX10_agree_1 rfl (lv_at hl 1 rfl) ?_
  refine lv_iload_n hx hb dX10_agree_2 rfl (lv_at hl 2 rfl) ?_
  obtain ⟨v2, S3, h1, hf⟩ := b2_some hf
  refine hc_V (As := [.int p0, .int p1]) (rest := []) C hK (c_X10_noNumbers l D ct ad F hG p0 p1 S0  v2 S3 h1) hl.1 cp_X10_noNumbers mw_6_140 (rc_X10 hK hP) hP hS ⟨rfl, rfl⟩ ⟨Nat.le_of_ble_eq_true rfl, Nat.le_of_ble_eq_true rfl⟩ rfl rfl (Nat.le_of_ble_eq_true rfl) dX10_agree_3 ⟨Nat.le_of_ble_eq_true rfl, Nat.le_of_ble_eq_true rfl⟩ (fun H locs hP hS => ?_)
  refine lv_if_eq (tgt := 11) hx hb dX10_agree_6 (by decide) (fun c4 => ?_) (fun c4 => ?_)
  · have hf := sp1 c4 hf
    refine lv_aload_n hx hb dX10_agree_11 rfl (lv_at hl 0 rfl) ?_
    refine lv_iload_n hx hb dX10_agree_12 rfl (lv_at hl 1 rfl) ?_
    refine lv_iload_n hx hb dX10_agree_13 rfl (lv_at hl 2 rfl) ?_
    refine lv_iconst (v := (-1)) hx hb dX10_agree_14 (by decide) ?_
    obtain ⟨S6, h5, hf⟩ := b1_some hf
    refine hc_V (As := [.int p0, .int p1, .int (-1)]) (rest := []) C hK (c_X10_sum l D ct ad F hG p0 p1 (-1) S3  S6 h5) hl.1 cp_X10_sum mw_6_81 (rc_X10 hK hP) hP hS ⟨rfl, rfl⟩ ⟨Nat.le_of_ble_eq_true rfl, Nat.le_of_ble_eq_true rfl⟩ rfl rfl (Nat.le_of_ble_eq_true rfl) dX10_agree_15 ⟨Nat.le_of_ble_eq_true rfl, Nat.le_of_ble_eq_true rfl⟩ (fun H locs hP hS => ?_)
    refine lv_aload_n hx hb dX10_agree_18 rfl (lv_at hl 0 rfl) ?_
    refine gf_X10_26 C hK hP mw_5_188 dX10_agree_19 ?_
    refine lv_lconst (v := 0) hx hb dX10_agree_22 (by decide) ?_
    refine W.lcmp hx hb dX10_agree_23 ?_
    refine lv_if_ne (tgt := 31) hx hb dX10_agree_24 (by decide) (fun c7 => ?_) (fun c7 => ?_)
    · have hf := sp0 c7 hf
      refine lv_iconst (v := 0) hx hb dX10_agree_31 (by decide) ?_
      cases hf
      subst hQ
      exact he_z C (by decide) hP hS dX10_agree_32
    · have hf := sp1 c7 hf
      refine lv_iconst (v := 1) hx hb dX10_agree_27 (by decide) ?_
      refine lv_goto (tgt := 32) hx hb dX10_agree_28 (by decide) ?_
      cases hf
      subst hQ
      exact he_z C (by decide) hP hS dX10_agree_32
  · have hf := sp0 c4 hf
    refine lv_iconst (v := 0) hx hb dX10_agree_9 (by decide) ?_
    cases hf
    subst hQ
    exact he_z C (by decide) hP hS dX10_agree_10
theorem cp_X10_agree : CPv yX10_agree cX10_agree 3 (some .boolean) 2 := ⟨mw_6_200, mw_1_9, mw_6_198, mw_6_199, by decide +kernel⟩
def rm_X10_guess : Room := { frames := 1, cells := 0, slots := 0, locals := 40 }
set_option maxHeartbeats 4000000 in
set_option maxRecDepth 100000 in
theorem c_X10_guess (l : Launch) (D : va_G) (ct : Nat → ClassId) (ad : Nat → Nat) (F : Nat → Prop) (hG : Gd ad 18 F) (p0 : Int32) (S0 : St)  (r : Int64) (S' : St) (hf : f_X10_guess p0 S0 = some (r, S')) : MetH l yX10_guess cX10_guess 11 (some .long) rm_X10_guess D (tysW ct) F [.ref (ad 0), .int p0] (some (.long r)) (cellsM ct ad S0) (cellsM ct ad S') := by
  refine MetH.of RX10 (by decide) rfl (Nat.le_of_ble_eq_true rfl) ?_
  intro p e s m args below meth c C hK hP ls hl
  have hl : lv_has ls 11 [(0, .ref (ad 0)), (1, .int p0)] := hl
  obtain ⟨hx, hb, hr, hml, hown, htL, hlocks⟩ := id C
  have hS : va_S F s.heap s.heap [] := va_S.rf
  generalize hQ : MQ below (Hq D (cellsM ct ad S') F (some (.long r))) args s 0 0 F = Q
  have w_102 : ∀ (k_60 : Int64 → Int64 → Int64 → St → Option (Int64 × St)) (hk_60 : ∀ (x3 : Int64) (x5 : Int64) (x7 : Int64) (S : St), ∀ (H : Heap) (locs : List Loc) (ls : Array Slot), lv_has ls 11 [(0, .ref (ad 0)), (3, .long x3), (5, .long x5), (7, .long x7)] → va_P D vwCl (cellsM ct ad S) H → va_S F s.heap H locs → k_60 x3 x5 x7 S = some (r, S') → W p l e rm_X10_guess s m args below meth c H locs 0 0 Q (F0 m 60 ls [])), ∀ (x3 : Int64) (x5 : Int64) (x7 : Int64) (x9 : Int64) (S : St), ∀ (H : Heap) (locs : List Loc) (ls : Array Slot), lv_has ls 11 [(0, .ref (ad 0)), (3, .long x3), (5, .long x5), (7, .long x7), (9, .long x9)] → va_P D vwCl (cellsM ct ad S) H → va_S F s.heap H locs → n_X10_guess_102 k_60 x3 x5 x7 x9 S = some (r, S') → W p l e rm_X10_guess s m args below meth c H locs 0 0 Q (F0 m 102 ls []) := by
    intro k_60 hk_60 x3 x5 x7 x9 S H locs ls hl hP hS hf
    refine lv_aload_n hx hb dX10_guess_102 rfl (lv_at hl 0 rfl) ?_
    refine lv_lload hx hb dX10_guess_103 (lv_at hl 4 rfl) ?_
    refine pf_X10_26 C hK hP hG hS mw_5_188 dX10_guess_105 (fun H locs hP hS => ?_)
    refine lv_lload hx hb dX10_guess_108 (lv_at hl 3 rfl) ?_
    refine lv_aload_n hx hb dX10_guess_110 rfl (lv_at hl 0 rfl) ?_
    refine gf_X10_18 C hK hP mw_5_180 dX10_guess_111 ?_
    refine lv_i2l hx hb dX10_guess_114 rfl ?_
    obtain ⟨c1, hf⟩ := spn hf
    refine lv_lrem hx hb dX10_guess_115 c1 ?_
    refine lv_lconst (v := 0) hx hb dX10_guess_116 (by decide) ?_
    refine W.lcmp hx hb dX10_guess_117 ?_
    refine lv_if_eq (tgt := 150) hx hb dX10_guess_118 (by decide) (fun c2 => ?_) (fun c2 => ?_)
    · have hf := sp1 c2 hf
      refine lv_lload hx hb dX10_guess_150 (lv_at hl 3 rfl) ?_
      refine lv_lconst (v := 1) hx hb dX10_guess_152 (by decide) ?_
      refine lv_ladd hx hb dX10_guess_153 ?_
      refine lv_lstore (lv' := [(7, .long (x7 + 1)), (0, .ref (ad 0)), (3, .long x3), (5, .long x5), (9, .long x9)]) hx hb dX10_guess_154 hl (by decide) rfl (fun ls hl => ?_)
      refine lv_goto (tgt := 60) hx hb dX10_guess_156 (by decide) ?_
      exact hk_60 x3 x5 (x7 + 1) (wJ S 0 26 x9) _ _ _ (lv_sub hl [1, 2, 3, 0] rfl) hP hS hf
    · have hf := sp0 c2 hf
      refine lv_ldc2 (v := 2) hx hb hown (htL _ mw_6_13) dX10_guess_121 ?_
      refine lv_lload hx hb dX10_guess_124 (lv_at hl 4 rfl) ?_
      refine lv_lmul hx hb dX10_guess_126 ?_
      refine lv_lload hx hb dX10_guess_127 (lv_at hl 4 rfl) ?_
      refine lv_lmul hx hb dX10_guess_129 ?_
      refine lv_lload_n hx hb dX10_guess_130 rfl (lv_at hl 1 rfl) ?_
      refine W.lcmp hx hb dX10_guess_131 ?_
      refine lv_if_ge (tgt := 150) hx hb dX10_guess_132 (by decide) (fun c3 => ?_) (fun c3 => ?_)
      · have hf := sp1 c3 hf
        refine lv_lload hx hb dX10_guess_150 (lv_at hl 3 rfl) ?_
        refine lv_lconst (v := 1) hx hb dX10_guess_152 (by decide) ?_
        refine lv_ladd hx hb dX10_guess_153 ?_
        refine lv_lstore (lv' := [(7, .long (x7 + 1)), (0, .ref (ad 0)), (3, .long x3), (5, .long x5), (9, .long x9)]) hx hb dX10_guess_154 hl (by decide) rfl (fun ls hl => ?_)
        refine lv_goto (tgt := 60) hx hb dX10_guess_156 (by decide) ?_
        exact hk_60 x3 x5 (x7 + 1) (wJ S 0 26 x9) _ _ _ (lv_sub hl [1, 2, 3, 0] rfl) hP hS hf
      · have hf := sp0 c3 hf
        refine lv_lload hx hb dX10_guess_135 (lv_at hl 4 rfl) ?_
        refine lv_lload hx hb dX10_guess_137 (lv_at hl 3 rfl) ?_
        obtain ⟨v4, h5, hf⟩ := b1_some hf
        refine pc_S (As := [.long x9, .long x7]) (rest := []) C (c_X10_common l x9 x7 v4 h5) hl.1 cp_X10_common mw_6_213 ⟨rfl, rfl⟩ ⟨Nat.le_of_ble_eq_true rfl, Nat.le_of_ble_eq_true rfl⟩ rfl rfl (Nat.le_of_ble_eq_true rfl) dX10_guess_139 ⟨Nat.le_of_ble_eq_true rfl, Nat.le_of_ble_eq_true rfl⟩ ?_
        refine lv_lconst (v := 1) hx hb dX10_guess_142 (by decide) ?_
        refine W.lcmp hx hb dX10_guess_143 ?_
        refine lv_if_ne (tgt := 150) hx hb dX10_guess_144 (by decide) (fun c6 => ?_) (fun c6 => ?_)
        · have hf := sp0 c6 hf
          refine lv_lload hx hb dX10_guess_150 (lv_at hl 3 rfl) ?_
          refine lv_lconst (v := 1) hx hb dX10_guess_152 (by decide) ?_
          refine lv_ladd hx hb dX10_guess_153 ?_
          refine lv_lstore (lv' := [(7, .long (x7 + 1)), (0, .ref (ad 0)), (3, .long x3), (5, .long x5), (9, .long x9)]) hx hb dX10_guess_154 hl (by decide) rfl (fun ls hl => ?_)
          refine lv_goto (tgt := 60) hx hb dX10_guess_156 (by decide) ?_
          exact hk_60 x3 x5 (x7 + 1) (wJ S 0 26 x9) _ _ _ (lv_sub hl [1, 2, 3, 0] rfl) hP hS hf
        · have hf := sp1 c6 hf
          refine lv_lload hx hb dX10_guess_147 (lv_at hl 3 rfl) ?_
          cases hf
          subst hQ
          exact he_l C hP hS dX10_guess_149
  have w_60 : ∀ (x3 : Int64) (x5 : Int64) (x7 : Int64) (S : St), ∀ (H : Heap) (locs : List Loc) (ls : Array Slot), lv_has ls 11 [(0, .ref (ad 0)), (3, .long x3), (5, .long x5), (7, .long x7)] → va_P D vwCl (cellsM ct ad S) H → va_S F s.heap H locs → n_X10_guess_60 x3 x5 x7 S = some (r, S') → W p l e rm_X10_guess s m args below meth c H locs 0 0 Q (F0 m 60 ls []) := by
    have aux : ∀ (n : Nat), ∀ (x3 : Int64) (x5 : Int64) (x7 : Int64) (S : St), ∀ (H : Heap) (locs : List Loc) (ls : Array Slot), lv_has ls 11 [(0, .ref (ad 0)), (3, .long x3), (5, .long x5), (7, .long x7)] → va_P D vwCl (cellsM ct ad S) H → va_S F s.heap H locs → itr (fun (q : Int64 × Int64 × Int64 × St) k => s_X10_guess_60  (fun (x3 : Int64) (x5 : Int64) (x7 : Int64) (S : St) => k (x3, x5, x7, S)) q.1 q.2.1 q.2.2.1 q.2.2.2) n (x3, x5, x7, S) = some (r, S') → W p l e rm_X10_guess s m args below meth c H locs 0 0 Q (F0 m 60 ls []) := by
      intro n
      induction n with
      | zero => intro x3 x5 x7 S H locs ls hl hP hS hf; exact (itr_z hf).elim
      | succ n ih =>
      intro x3 x5 x7 S H locs ls hl hP hS hf
      have hk_60 := ih
      have hf : s_X10_guess_60  (fun (x3 : Int64) (x5 : Int64) (x7 : Int64) (S : St) => itr (fun (q : Int64 × Int64 × Int64 × St) k => s_X10_guess_60  (fun (x3 : Int64) (x5 : Int64) (x7 : Int64) (S : St) => k (x3, x5, x7, S)) q.1 q.2.1 q.2.2.1 q.2.2.2) n (x3, x5, x7, S)) x3 x5 x7 S = some (r, S') := hf
      refine lv_ldc2 (v := 2) hx hb hown (htL _ mw_6_13) dX10_guess_60 ?_
      refine lv_lload hx hb dX10_guess_63 (lv_at hl 3 rfl) ?_
      refine lv_lmul hx hb dX10_guess_65 ?_
      refine lv_lload hx hb dX10_guess_66 (lv_at hl 3 rfl) ?_
      refine lv_lmul hx hb dX10_guess_68 ?_
      refine lv_lload_n hx hb dX10_guess_69 rfl (lv_at hl 1 rfl) ?_
      refine W.lcmp hx hb dX10_guess_70 ?_
      refine lv_if_ge (tgt := 159) hx hb dX10_guess_71 (by decide) (fun c7 => ?_) (fun c7 => ?_)
      · have hf := sp1 c7 hf
        refine lv_lconst (v := 0) hx hb dX10_guess_159 (by decide) ?_
        cases hf
        subst hQ
        exact he_l C hP hS dX10_guess_160
      · have hf := sp0 c7 hf
        refine lv_lload hx hb dX10_guess_74 (lv_at hl 3 rfl) ?_
        refine lv_lload hx hb dX10_guess_76 (lv_at hl 2 rfl) ?_
        refine lv_lmul hx hb dX10_guess_78 ?_
        refine lv_lload_n hx hb dX10_guess_79 rfl (lv_at hl 1 rfl) ?_
        obtain ⟨v8, h9, hf⟩ := b1_some hf
        refine pc_S (As := [.long (x7 * x5), .long x3]) (rest := []) C (c_X10_whole l (x7 * x5) x3 v8 h9) hl.1 cp_X10_whole mw_6_71 ⟨rfl, rfl⟩ ⟨Nat.le_of_ble_eq_true rfl, Nat.le_of_ble_eq_true rfl⟩ rfl rfl (Nat.le_of_ble_eq_true rfl) dX10_guess_80 ⟨Nat.le_of_ble_eq_true rfl, Nat.le_of_ble_eq_true rfl⟩ ?_
        refine lv_lstore (lv' := [(9, .long v8), (0, .ref (ad 0)), (3, .long x3), (5, .long x5), (7, .long x7)]) hx hb dX10_guess_83 hl (by decide) rfl (fun ls hl => ?_)
        refine lv_ldc2 (v := 2) hx hb hown (htL _ mw_6_13) dX10_guess_85 ?_
        refine lv_lload hx hb dX10_guess_88 (lv_at hl 0 rfl) ?_
        refine lv_lmul hx hb dX10_guess_90 ?_
        refine lv_lload_n hx hb dX10_guess_91 rfl (lv_at hl 2 rfl) ?_
        refine W.lcmp hx hb dX10_guess_92 ?_
        refine lv_if_le (tgt := 102) hx hb dX10_guess_93 (by decide) (fun c10 => ?_) (fun c10 => ?_)
        · have hf := sp1 c10 hf
          exact w_102 _ hk_60 x3 x5 x7 v8 S _ _ _ (lv_sub hl [1, 2, 3, 4, 0] rfl) hP hS hf
        · have hf := sp0 c10 hf
          refine lv_lload hx hb dX10_guess_96 (lv_at hl 0 rfl) ?_
          refine lv_lload_n hx hb dX10_guess_98 rfl (lv_at hl 2 rfl) ?_
          refine lv_lsub hx hb dX10_guess_99 ?_
          refine lv_lstore (lv' := [(9, .long (v8 - x3)), (0, .ref (ad 0)), (3, .long x3), (5, .long x5), (7, .long x7)]) hx hb dX10_guess_100 hl (by decide) rfl (fun ls hl => ?_)
          exact w_102 _ hk_60 x3 x5 x7 (v8 - x3) S _ _ _ (lv_sub hl [1, 2, 3, 4, 0] rfl) hP hS hf
    exact aux FU
  refine lv_aload_n hx hb dX10_guess_0 rfl (lv_at hl 0 rfl) ?_
  refine gf_X10_1 C hK hP mw_5_163 dX10_guess_1 ?_
  refine lv_iload_n hx hb dX10_guess_4 rfl (lv_at hl 1 rfl) ?_
  obtain ⟨c11, hf⟩ := spn hf
  refine al_M2 C hK hP c11 dX10_guess_5 ?_
  refine lv_aload_n hx hb dX10_guess_6 rfl (lv_at hl 0 rfl) ?_
  obtain ⟨v13, h12, hf⟩ := b1_some hf
  refine hc_V (As := []) (rest := [.int (S0.1 2 (Int32.toNatClampNeg p0))]) C hK (c_X10_most l D ct ad F hG S0  v13 h12) hl.1 cp_X10_most mw_6_29 (rc_X10 hK hP) hP hS ⟨rfl, rfl⟩ ⟨Nat.le_of_ble_eq_true rfl, Nat.le_of_ble_eq_true rfl⟩ rfl rfl (Nat.le_of_ble_eq_true rfl) dX10_guess_7 ⟨Nat.le_of_ble_eq_true rfl, Nat.le_of_ble_eq_true rfl⟩ (fun H locs hP hS => ?_)
  refine va_mmin (ls := _) hx hb (hml.trans hl.1.symm) hown (htL _ mw_6_62) (htL _ mw_2_60) (htL _ mw_1_17) (htL _ mw_2_61) (Nat.le_of_ble_eq_true rfl) (Nat.le_of_ble_eq_true rfl) (Nat.le_of_ble_eq_true rfl) (Nat.le_of_ble_eq_true rfl) dX10_guess_10 ?_
  refine lv_istore_n (lv' := [(2, .int (mnI (S0.1 2 (Int32.toNatClampNeg p0)) v13)), (0, .ref (ad 0)), (1, .int p0)]) hx hb dX10_guess_13 rfl hl (by decide) rfl (fun ls hl => ?_)
  refine lv_aload_n hx hb dX10_guess_14 rfl (lv_at hl 1 rfl) ?_
  refine lv_iload_n hx hb dX10_guess_15 rfl (lv_at hl 0 rfl) ?_
  obtain ⟨v15, h14, hf⟩ := b1_some hf
  refine hc_V (As := [.int (mnI (S0.1 2 (Int32.toNatClampNeg p0)) v13)]) (rest := []) C hK (c_X10_power l D ct ad F hG (mnI (S0.1 2 (Int32.toNatClampNeg p0)) v13) S0  v15 h14) hl.1 cp_X10_power mw_6_67 (rc_X10 hK hP) hP hS ⟨rfl, rfl⟩ ⟨Nat.le_of_ble_eq_true rfl, Nat.le_of_ble_eq_true rfl⟩ rfl rfl (Nat.le_of_ble_eq_true rfl) dX10_guess_16 ⟨Nat.le_of_ble_eq_true rfl, Nat.le_of_ble_eq_true rfl⟩ (fun H locs hP hS => ?_)
  refine lv_lstore_n (lv' := [(3, .long v15), (2, .int (mnI (S0.1 2 (Int32.toNatClampNeg p0)) v13)), (0, .ref (ad 0)), (1, .int p0)]) hx hb dX10_guess_19 rfl hl (by decide) rfl (fun ls hl => ?_)
  refine lv_aload_n hx hb dX10_guess_20 rfl (lv_at hl 2 rfl) ?_
  refine gf_X10_0 C hK hP mw_5_162 dX10_guess_21 ?_
  refine lv_iload_n hx hb dX10_guess_24 rfl (lv_at hl 3 rfl) ?_
  obtain ⟨c16, hf⟩ := spn hf
  refine al_M1 C hK hP c16 dX10_guess_25 ?_
  refine lv_iload_n hx hb dX10_guess_26 rfl (lv_at hl 1 rfl) ?_
  refine lv_icmp_lt (tgt := 34) hx hb dX10_guess_27 (by decide) (fun c17 => ?_) (fun c17 => ?_)
  · have hf := sp1 c17 hf
    refine lv_aload_n hx hb dX10_guess_34 rfl (lv_at hl 2 rfl) ?_
    refine gf_X10_7 C hK hP mw_5_169 dX10_guess_35 ?_
    refine lv_iload_n hx hb dX10_guess_38 rfl (lv_at hl 3 rfl) ?_
    obtain ⟨c18, hf⟩ := spn hf
    refine al_M8 C hK hP c18 dX10_guess_39 ?_
    refine lv_aload_n hx hb dX10_guess_40 rfl (lv_at hl 2 rfl) ?_
    refine lv_aload_n hx hb dX10_guess_41 rfl (lv_at hl 2 rfl) ?_
    refine gf_X10_0 C hK hP mw_5_162 dX10_guess_42 ?_
    refine lv_iload_n hx hb dX10_guess_45 rfl (lv_at hl 3 rfl) ?_
    obtain ⟨c19, hf⟩ := spn hf
    refine al_M1 C hK hP c19 dX10_guess_46 ?_
    obtain ⟨v21, h20, hf⟩ := b1_some hf
    refine hc_V (As := [.int (S0.1 1 (Int32.toNatClampNeg p0))]) (rest := [.long (S0.2 8 (Int32.toNatClampNeg p0))]) C hK (c_X10_power l D ct ad F hG (S0.1 1 (Int32.toNatClampNeg p0)) S0  v21 h20) hl.1 cp_X10_power mw_6_67 (rc_X10 hK hP) hP hS ⟨rfl, rfl⟩ ⟨Nat.le_of_ble_eq_true rfl, Nat.le_of_ble_eq_true rfl⟩ rfl rfl (Nat.le_of_ble_eq_true rfl) dX10_guess_47 ⟨Nat.le_of_ble_eq_true rfl, Nat.le_of_ble_eq_true rfl⟩ (fun H locs hP hS => ?_)
    refine lv_lmul hx hb dX10_guess_50 ?_
    refine lv_lload_n hx hb dX10_guess_51 rfl (lv_at hl 0 rfl) ?_
    obtain ⟨v22, h23, hf⟩ := b1_some hf
    refine pc_S (As := [.long ((S0.2 8 (Int32.toNatClampNeg p0)) * v21), .long v15]) (rest := []) C (c_X10_whole l ((S0.2 8 (Int32.toNatClampNeg p0)) * v21) v15 v22 h23) hl.1 cp_X10_whole mw_6_71 ⟨rfl, rfl⟩ ⟨Nat.le_of_ble_eq_true rfl, Nat.le_of_ble_eq_true rfl⟩ rfl rfl (Nat.le_of_ble_eq_true rfl) dX10_guess_52 ⟨Nat.le_of_ble_eq_true rfl, Nat.le_of_ble_eq_true rfl⟩ ?_
    refine lv_lstore (lv' := [(5, .long v22), (3, .long v15), (2, .int (mnI (S0.1 2 (Int32.toNatClampNeg p0)) v13)), (0, .ref (ad 0)), (1, .int p0)]) hx hb dX10_guess_55 hl (by decide) rfl (fun ls hl => ?_)
    refine lv_lconst (v := 1) hx hb dX10_guess_57 (by decide) ?_
    refine lv_lstore (lv' := [(7, .long 1), (5, .long v22), (3, .long v15), (2, .int (mnI (S0.1 2 (Int32.toNatClampNeg p0)) v13)), (0, .ref (ad 0)), (1, .int p0)]) hx hb dX10_guess_58 hl (by decide) rfl (fun ls hl => ?_)
    exact w_60 v15 v22 1 S0 _ _ _ (lv_sub hl [4, 2, 1, 0] rfl) hP hS hf
  · have hf := sp0 c17 hf
    refine lv_lconst (v := 0) hx hb dX10_guess_30 (by decide) ?_
    refine lv_goto (tgt := 55) hx hb dX10_guess_31 (by decide) ?_
    refine lv_lstore (lv' := [(5, .long 0), (3, .long v15), (2, .int (mnI (S0.1 2 (Int32.toNatClampNeg p0)) v13)), (0, .ref (ad 0)), (1, .int p0)]) hx hb dX10_guess_55 hl (by decide) rfl (fun ls hl => ?_)
    refine lv_lconst (v := 1) hx hb dX10_guess_57 (by decide) ?_
    refine lv_lstore (lv' := [(7, .long 1), (5, .long 0), (3, .long v15), (2, .int (mnI (S0.1 2 (Int32.toNatClampNeg p0)) v13)), (0, .ref (ad 0)), (1, .int p0)]) hx hb dX10_guess_58 hl (by decide) rfl (fun ls hl => ?_)
    exact w_60 v15 0 1 S0 _ _ _ (lv_sub hl [4, 2, 1, 0] rfl) hP hS hf
theorem cp_X10_guess : CPv yX10_guess cX10_guess 11 (some .long) 1 := ⟨mw_6_212, mw_1_9, mw_6_211, ms_60, by decide +kernel⟩
def rm_X10_noGuess : Room := { frames := 2, cells := 0, slots := 0, locals := 74 }
set_option maxHeartbeats 4000000 in
set_option maxRecDepth 100000 in
theorem c_X10_noGuess (l : Launch) (D : va_G) (ct : Nat → ClassId) (ad : Nat → Nat) (F : Nat → Prop) (hG : Gd ad 18 F) (p0 : Int32) (S0 : St)  (r : Int32) (S' : St) (hf : f_X10_noGuess p0 S0 = some (r, S')) : MetH l yX10_noGuess cX10_noGuess 2 (some .boolean) rm_X10_noGuess D (tysW ct) F [.ref (ad 0), .int p0] (some (.int r)) (cellsM ct ad S0) (cellsM ct ad S') := by
  refine MetH.of RX10 (by decide) rfl (Nat.le_of_ble_eq_true rfl) ?_
  intro p e s m args below meth c C hK hP ls hl
  have hl : lv_has ls 2 [(0, .ref (ad 0)), (1, .int p0)] := hl
  obtain ⟨hx, hb, hr, hml, hown, htL, hlocks⟩ := id C
  have hS : va_S F s.heap s.heap [] := va_S.rf
  generalize hQ : MQ below (Hq D (cellsM ct ad S') F (some (.int r))) args s 0 0 F = Q
  have w_55 : ∀ (y1 : Int32) (S : St), ∀ (H : Heap) (locs : List Loc) (ls : Array Slot), lv_has ls 2 [] → va_P D vwCl (cellsM ct ad S) H → va_S F s.heap H locs → n_X10_noGuess_55 y1 S = some (r, S') → W p l e rm_X10_noGuess s m args below meth c H locs 0 0 Q (F0 m 55 ls [.int y1, .ref (ad 0)]) := by
    intro  y1 S H locs ls hl hP hS hf
    refine lv_iconst (v := 3) hx hb dX10_noGuess_55 (by decide) ?_
    obtain ⟨v2, S3, h1, hf⟩ := b2_some hf
    refine hc_V (As := [.int y1, .int 3]) (rest := []) C hK (c_X10_no l D ct ad F hG y1 3 S  v2 S3 h1) hl.1 cp_X10_no mw_6_21 (rc_X10 hK hP) hP hS ⟨rfl, rfl⟩ ⟨Nat.le_of_ble_eq_true rfl, Nat.le_of_ble_eq_true rfl⟩ rfl rfl (Nat.le_of_ble_eq_true rfl) dX10_noGuess_56 ⟨Nat.le_of_ble_eq_true rfl, Nat.le_of_ble_eq_true rfl⟩ (fun H locs hP hS => ?_)
    refine lv_if_eq (tgt := 66) hx hb dX10_noGuess_59 (by decide) (fun c4 => ?_) (fun c4 => ?_)
    · have hf := sp1 c4 hf
      refine lv_iconst (v := 0) hx hb dX10_noGuess_66 (by decide) ?_
      cases hf
      subst hQ
      exact he_z C (by decide) hP hS dX10_noGuess_67
    · have hf := sp0 c4 hf
      refine lv_iconst (v := 1) hx hb dX10_noGuess_62 (by decide) ?_
      refine lv_goto (tgt := 67) hx hb dX10_noGuess_63 (by decide) ?_
      cases hf
      subst hQ
      exact he_z C (by decide) hP hS dX10_noGuess_67
  have w_32 : ∀ (x1 : Int32) (y1 : Int32) (S : St), ∀ (H : Heap) (locs : List Loc) (ls : Array Slot), lv_has ls 2 [(0, .ref (ad 0)), (1, .int x1)] → va_P D vwCl (cellsM ct ad S) H → va_S F s.heap H locs → n_X10_noGuess_32 x1 y1 S = some (r, S') → W p l e rm_X10_noGuess s m args below meth c H locs 0 0 Q (F0 m 32 ls [.int y1, .ref (ad 0)]) := by
    intro  x1 y1 S H locs ls hl hP hS hf
    refine lv_iconst (v := 2) hx hb dX10_noGuess_32 (by decide) ?_
    obtain ⟨v6, S7, h5, hf⟩ := b2_some hf
    refine hc_V (As := [.int y1, .int 2]) (rest := []) C hK (c_X10_no l D ct ad F hG y1 2 S  v6 S7 h5) hl.1 cp_X10_no mw_6_21 (rc_X10 hK hP) hP hS ⟨rfl, rfl⟩ ⟨Nat.le_of_ble_eq_true rfl, Nat.le_of_ble_eq_true rfl⟩ rfl rfl (Nat.le_of_ble_eq_true rfl) dX10_noGuess_33 ⟨Nat.le_of_ble_eq_true rfl, Nat.le_of_ble_eq_true rfl⟩ (fun H locs hP hS => ?_)
    refine lv_if_ne (tgt := 62) hx hb dX10_noGuess_36 (by decide) (fun c8 => ?_) (fun c8 => ?_)
    · have hf := sp0 c8 hf
      refine lv_iconst (v := 1) hx hb dX10_noGuess_62 (by decide) ?_
      refine lv_goto (tgt := 67) hx hb dX10_noGuess_63 (by decide) ?_
      cases hf
      subst hQ
      exact he_z C (by decide) hP hS dX10_noGuess_67
    · have hf := sp1 c8 hf
      refine lv_aload_n hx hb dX10_noGuess_39 rfl (lv_at hl 0 rfl) ?_
      refine lv_aload_n hx hb dX10_noGuess_40 rfl (lv_at hl 0 rfl) ?_
      refine lv_iload_n hx hb dX10_noGuess_41 rfl (lv_at hl 1 rfl) ?_
      obtain ⟨v10, S11, h9, hf⟩ := b2_some hf
      refine hc_V (As := [.int x1]) (rest := [.ref (ad 0)]) C hK (c_X10_guess l D ct ad F hG x1 S7  v10 S11 h9) hl.1 cp_X10_guess mw_6_209 (rc_X10 hK hP) hP hS ⟨rfl, rfl⟩ ⟨Nat.le_of_ble_eq_true rfl, Nat.le_of_ble_eq_true rfl⟩ rfl rfl (Nat.le_of_ble_eq_true rfl) dX10_noGuess_42 ⟨Nat.le_of_ble_eq_true rfl, Nat.le_of_ble_eq_true rfl⟩ (fun H locs hP hS => ?_)
      refine lv_lconst (v := 0) hx hb dX10_noGuess_45 (by decide) ?_
      refine W.lcmp hx hb dX10_noGuess_46 ?_
      refine lv_if_eq (tgt := 54) hx hb dX10_noGuess_47 (by decide) (fun c12 => ?_) (fun c12 => ?_)
      · have hf := sp1 c12 hf
        refine lv_iconst (v := 0) hx hb dX10_noGuess_54 (by decide) ?_
        exact w_55 0 S11 _ _ _ (lv_sub hl [] rfl) hP hS hf
      · have hf := sp0 c12 hf
        refine lv_iconst (v := 1) hx hb dX10_noGuess_50 (by decide) ?_
        refine lv_goto (tgt := 55) hx hb dX10_noGuess_51 (by decide) ?_
        exact w_55 1 S11 _ _ _ (lv_sub hl [] rfl) hP hS hf
  refine lv_aload_n hx hb dX10_noGuess_0 rfl (lv_at hl 0 rfl) ?_
  refine lv_iload_n hx hb dX10_noGuess_1 rfl (lv_at hl 1 rfl) ?_
  obtain ⟨v14, S15, h13, hf⟩ := b2_some hf
  refine hc_V (As := [.int p0]) (rest := []) C hK (c_X10_noNumber l D ct ad F hG p0 S0  v14 S15 h13) hl.1 cp_X10_noNumber mw_6_160 (rc_X10 hK hP) hP hS ⟨rfl, rfl⟩ ⟨Nat.le_of_ble_eq_true rfl, Nat.le_of_ble_eq_true rfl⟩ rfl rfl (Nat.le_of_ble_eq_true rfl) dX10_noGuess_2 ⟨Nat.le_of_ble_eq_true rfl, Nat.le_of_ble_eq_true rfl⟩ (fun H locs hP hS => ?_)
  refine lv_if_ne (tgt := 62) hx hb dX10_noGuess_5 (by decide) (fun c16 => ?_) (fun c16 => ?_)
  · have hf := sp0 c16 hf
    refine lv_iconst (v := 1) hx hb dX10_noGuess_62 (by decide) ?_
    refine lv_goto (tgt := 67) hx hb dX10_noGuess_63 (by decide) ?_
    cases hf
    subst hQ
    exact he_z C (by decide) hP hS dX10_noGuess_67
  · have hf := sp1 c16 hf
    refine lv_aload_n hx hb dX10_noGuess_8 rfl (lv_at hl 0 rfl) ?_
    refine lv_aload_n hx hb dX10_noGuess_9 rfl (lv_at hl 0 rfl) ?_
    refine gf_X10_0 C hK hP mw_5_162 dX10_noGuess_10 ?_
    refine lv_iload_n hx hb dX10_noGuess_13 rfl (lv_at hl 1 rfl) ?_
    obtain ⟨c17, hf⟩ := spn hf
    refine al_M1 C hK hP c17 dX10_noGuess_14 ?_
    refine lv_if_lt (tgt := 31) hx hb dX10_noGuess_15 (by decide) (fun c18 => ?_) (fun c18 => ?_)
    · have hf := sp1 c18 hf
      refine lv_iconst (v := 0) hx hb dX10_noGuess_31 (by decide) ?_
      exact w_32 p0 0 S15 _ _ _ (lv_sub hl [0, 1] rfl) hP hS hf
    · have hf := sp0 c18 hf
      refine lv_aload_n hx hb dX10_noGuess_18 rfl (lv_at hl 0 rfl) ?_
      refine gf_X10_1 C hK hP mw_5_163 dX10_noGuess_19 ?_
      refine lv_iload_n hx hb dX10_noGuess_22 rfl (lv_at hl 1 rfl) ?_
      obtain ⟨c19, hf⟩ := spn hf
      refine al_M2 C hK hP c19 dX10_noGuess_23 ?_
      refine lv_if_le (tgt := 31) hx hb dX10_noGuess_24 (by decide) (fun c20 => ?_) (fun c20 => ?_)
      · have hf := sp1 c20 hf
        refine lv_iconst (v := 0) hx hb dX10_noGuess_31 (by decide) ?_
        exact w_32 p0 0 S15 _ _ _ (lv_sub hl [0, 1] rfl) hP hS hf
      · have hf := sp0 c20 hf
        refine lv_iconst (v := 1) hx hb dX10_noGuess_27 (by decide) ?_
        refine lv_goto (tgt := 32) hx hb dX10_noGuess_28 (by decide) ?_
        exact w_32 p0 1 S15 _ _ _ (lv_sub hl [0, 1] rfl) hP hS hf
theorem cp_X10_noGuess : CPv yX10_noGuess cX10_noGuess 2 (some .boolean) 1 := ⟨mw_6_208, mw_1_9, mw_6_207, ms_59, by decide +kernel⟩
def rm_X10_numerator : Room := { frames := 3, cells := 0, slots := 0, locals := 99 }
set_option maxHeartbeats 4000000 in
set_option maxRecDepth 100000 in
theorem c_X10_numerator (l : Launch) (D : va_G) (ct : Nat → ClassId) (ad : Nat → Nat) (F : Nat → Prop) (hG : Gd ad 18 F) (p0 : Int32) (S0 : St)  (r : Int32) (S' : St) (hf : f_X10_numerator p0 S0 = some (r, S')) : MetH l yX10_numerator cX10_numerator 2 (some .int) rm_X10_numerator D (tysW ct) F [.ref (ad 0), .int p0] (some (.int r)) (cellsM ct ad S0) (cellsM ct ad S') := by
  refine MetH.of RX10 (by decide) rfl (Nat.le_of_ble_eq_true rfl) ?_
  intro p e s m args below meth c C hK hP ls hl
  have hl : lv_has ls 2 [(0, .ref (ad 0)), (1, .int p0)] := hl
  obtain ⟨hx, hb, hr, hml, hown, htL, hlocks⟩ := id C
  have hS : va_S F s.heap s.heap [] := va_S.rf
  generalize hQ : MQ below (Hq D (cellsM ct ad S') F (some (.int r))) args s 0 0 F = Q
  refine lv_aload_n hx hb dX10_numerator_0 rfl (lv_at hl 0 rfl) ?_
  refine lv_iload_n hx hb dX10_numerator_1 rfl (lv_at hl 1 rfl) ?_
  obtain ⟨v2, S3, h1, hf⟩ := b2_some hf
  refine hc_V (As := [.int p0]) (rest := []) C hK (c_X10_noGuess l D ct ad F hG p0 S0  v2 S3 h1) hl.1 cp_X10_noGuess mw_6_205 (rc_X10 hK hP) hP hS ⟨rfl, rfl⟩ ⟨Nat.le_of_ble_eq_true rfl, Nat.le_of_ble_eq_true rfl⟩ rfl rfl (Nat.le_of_ble_eq_true rfl) dX10_numerator_2 ⟨Nat.le_of_ble_eq_true rfl, Nat.le_of_ble_eq_true rfl⟩ (fun H locs hP hS => ?_)
  refine lv_if_eq (tgt := 12) hx hb dX10_numerator_5 (by decide) (fun c4 => ?_) (fun c4 => ?_)
  · have hf := sp1 c4 hf
    refine lv_aload_n hx hb dX10_numerator_12 rfl (lv_at hl 0 rfl) ?_
    refine gf_X10_26 C hK hP mw_5_188 dX10_numerator_13 ?_
    refine lv_l2i hx hb dX10_numerator_16 rfl ?_
    cases hf
    subst hQ
    exact he_i C hP hS dX10_numerator_17
  · have hf := sp0 c4 hf
    refine lv_iconst (v := 0) hx hb dX10_numerator_8 (by decide) ?_
    refine lv_goto (tgt := 17) hx hb dX10_numerator_9 (by decide) ?_
    cases hf
    subst hQ
    exact he_i C hP hS dX10_numerator_17
theorem cp_X10_numerator : CPv yX10_numerator cX10_numerator 2 (some .int) 1 := ⟨mw_6_204, mw_1_9, mw_6_202, mw_6_203, by decide +kernel⟩
def rm_X10_denominator : Room := { frames := 3, cells := 0, slots := 0, locals := 99 }
set_option maxHeartbeats 4000000 in
set_option maxRecDepth 100000 in
theorem c_X10_denominator (l : Launch) (D : va_G) (ct : Nat → ClassId) (ad : Nat → Nat) (F : Nat → Prop) (hG : Gd ad 18 F) (p0 : Int32) (S0 : St)  (r : Int32) (S' : St) (hf : f_X10_denominator p0 S0 = some (r, S')) : MetH l yX10_denominator cX10_denominator 2 (some .int) rm_X10_denominator D (tysW ct) F [.ref (ad 0), .int p0] (some (.int r)) (cellsM ct ad S0) (cellsM ct ad S') := by
  refine MetH.of RX10 (by decide) rfl (Nat.le_of_ble_eq_true rfl) ?_
  intro p e s m args below meth c C hK hP ls hl
  have hl : lv_has ls 2 [(0, .ref (ad 0)), (1, .int p0)] := hl
  obtain ⟨hx, hb, hr, hml, hown, htL, hlocks⟩ := id C
  have hS : va_S F s.heap s.heap [] := va_S.rf
  generalize hQ : MQ below (Hq D (cellsM ct ad S') F (some (.int r))) args s 0 0 F = Q
  refine lv_aload_n hx hb dX10_denominator_0 rfl (lv_at hl 0 rfl) ?_
  refine lv_iload_n hx hb dX10_denominator_1 rfl (lv_at hl 1 rfl) ?_
  obtain ⟨v2, S3, h1, hf⟩ := b2_some hf
  refine hc_V (As := [.int p0]) (rest := []) C hK (c_X10_noGuess l D ct ad F hG p0 S0  v2 S3 h1) hl.1 cp_X10_noGuess mw_6_205 (rc_X10 hK hP) hP hS ⟨rfl, rfl⟩ ⟨Nat.le_of_ble_eq_true rfl, Nat.le_of_ble_eq_true rfl⟩ rfl rfl (Nat.le_of_ble_eq_true rfl) dX10_denominator_2 ⟨Nat.le_of_ble_eq_true rfl, Nat.le_of_ble_eq_true rfl⟩ (fun H locs hP hS => ?_)
  refine lv_if_eq (tgt := 12) hx hb dX10_denominator_5 (by decide) (fun c4 => ?_) (fun c4 => ?_)
  · have hf := sp1 c4 hf
    refine lv_aload_n hx hb dX10_denominator_12 rfl (lv_at hl 0 rfl) ?_
    refine lv_iload_n hx hb dX10_denominator_13 rfl (lv_at hl 1 rfl) ?_
    obtain ⟨v6, S7, h5, hf⟩ := b2_some hf
    refine hc_V (As := [.int p0]) (rest := []) C hK (c_X10_guess l D ct ad F hG p0 S3  v6 S7 h5) hl.1 cp_X10_guess mw_6_209 (rc_X10 hK hP) hP hS ⟨rfl, rfl⟩ ⟨Nat.le_of_ble_eq_true rfl, Nat.le_of_ble_eq_true rfl⟩ rfl rfl (Nat.le_of_ble_eq_true rfl) dX10_denominator_14 ⟨Nat.le_of_ble_eq_true rfl, Nat.le_of_ble_eq_true rfl⟩ (fun H locs hP hS => ?_)
    refine lv_l2i hx hb dX10_denominator_17 rfl ?_
    cases hf
    subst hQ
    exact he_i C hP hS dX10_denominator_18
  · have hf := sp0 c4 hf
    refine lv_iconst (v := 0) hx hb dX10_denominator_8 (by decide) ?_
    refine lv_goto (tgt := 18) hx hb dX10_denominator_9 (by decide) ?_
    cases hf
    subst hQ
    exact he_i C hP hS dX10_denominator_18
theorem cp_X10_denominator : CPv yX10_denominator cX10_denominator 2 (some .int) 1 := ⟨mw_6_219, mw_1_9, mw_6_217, mw_6_218, by decide +kernel⟩
def rm_X10_distance : Room := { frames := 4, cells := 0, slots := 0, locals := 130 }
set_option maxHeartbeats 4000000 in
set_option maxRecDepth 100000 in
theorem c_X10_distance (l : Launch) (D : va_G) (ct : Nat → ClassId) (ad : Nat → Nat) (F : Nat → Prop) (hG : Gd ad 18 F) (p0 : Int32) (p1 : Int32) (p2 : Int32) (p3 : Int32) (S0 : St)  (r : Int32) (S' : St) (hf : f_X10_distance p0 p1 p2 p3 S0 = some (r, S')) : MetH l yX10_distance cX10_distance 6 (some .int) rm_X10_distance D (tysW ct) F [.ref (ad 0), .int p0, .int p1, .int p2, .int p3] (some (.int r)) (cellsM ct ad S0) (cellsM ct ad S') := by
  refine MetH.of RX10 (by decide) rfl (Nat.le_of_ble_eq_true rfl) ?_
  intro p e s m args below meth c C hK hP ls hl
  have hl : lv_has ls 6 [(0, .ref (ad 0)), (1, .int p0), (2, .int p1), (3, .int p2), (4, .int p3)] := hl
  obtain ⟨hx, hb, hr, hml, hown, htL, hlocks⟩ := id C
  have hS : va_S F s.heap s.heap [] := va_S.rf
  generalize hQ : MQ below (Hq D (cellsM ct ad S') F (some (.int r))) args s 0 0 F = Q
  have w_86 : ∀ (x2 : Int32) (x4 : Int32) (y0 : Int32) (S : St), ∀ (H : Heap) (locs : List Loc) (ls : Array Slot), lv_has ls 6 [(2, .int x2), (4, .int x4)] → va_P D vwCl (cellsM ct ad S) H → va_S F s.heap H locs → n_X10_distance_86 x2 x4 y0 S = some (r, S') → W p l e rm_X10_distance s m args below meth c H locs 0 0 Q (F0 m 86 ls [.int y0]) := by
    intro  x2 x4 y0 S H locs ls hl hP hS hf
    refine lv_iload_n hx hb dX10_distance_86 rfl (lv_at hl 0 rfl) ?_
    refine lv_iload hx hb dX10_distance_87 (lv_at hl 1 rfl) ?_
    refine va_mmin (ls := _) hx hb (hml.trans hl.1.symm) hown (htL _ mw_6_62) (htL _ mw_2_60) (htL _ mw_1_17) (htL _ mw_2_61) (Nat.le_of_ble_eq_true rfl) (Nat.le_of_ble_eq_true rfl) (Nat.le_of_ble_eq_true rfl) (Nat.le_of_ble_eq_true rfl) dX10_distance_89 ?_
    refine va_mmin (ls := _) hx hb (hml.trans hl.1.symm) hown (htL _ mw_6_62) (htL _ mw_2_60) (htL _ mw_1_17) (htL _ mw_2_61) (Nat.le_of_ble_eq_true rfl) (Nat.le_of_ble_eq_true rfl) (Nat.le_of_ble_eq_true rfl) (Nat.le_of_ble_eq_true rfl) dX10_distance_92 ?_
    refine lv_istore (lv' := [(5, .int (mnI y0 (mnI x2 x4))), (2, .int x2), (4, .int x4)]) hx hb dX10_distance_95 hl (by decide) rfl (fun ls hl => ?_)
    refine lv_iload_n hx hb dX10_distance_97 rfl (lv_at hl 1 rfl) ?_
    refine lv_iload hx hb dX10_distance_98 (lv_at hl 2 rfl) ?_
    refine lv_iadd hx hb dX10_distance_100 ?_
    refine lv_iconst (v := 2) hx hb dX10_distance_101 (by decide) ?_
    refine lv_iload hx hb dX10_distance_102 (lv_at hl 0 rfl) ?_
    refine lv_imul hx hb dX10_distance_104 ?_
    refine lv_isub hx hb dX10_distance_105 ?_
    cases hf
    subst hQ
    exact he_i C hP hS dX10_distance_106
  have w_52 : ∀ (x1 : Int32) (x2 : Int32) (x3 : Int32) (x4 : Int32) (y1 : Int32) (S : St), ∀ (H : Heap) (locs : List Loc) (ls : Array Slot), lv_has ls 6 [(0, .ref (ad 0)), (1, .int x1), (2, .int x2), (3, .int x3), (4, .int x4)] → va_P D vwCl (cellsM ct ad S) H → va_S F s.heap H locs → n_X10_distance_52 x1 x2 x3 x4 y1 S = some (r, S') → W p l e rm_X10_distance s m args below meth c H locs 0 0 Q (F0 m 52 ls [.int y1, .ref (ad 0)]) := by
    intro  x1 x2 x3 x4 y1 S H locs ls hl hP hS hf
    refine lv_iconst (v := 2) hx hb dX10_distance_52 (by decide) ?_
    obtain ⟨v2, S3, h1, hf⟩ := b2_some hf
    refine hc_V (As := [.int y1, .int 2]) (rest := []) C hK (c_X10_no l D ct ad F hG y1 2 S  v2 S3 h1) hl.1 cp_X10_no mw_6_21 (rc_X10 hK hP) hP hS ⟨rfl, rfl⟩ ⟨Nat.le_of_ble_eq_true rfl, Nat.le_of_ble_eq_true rfl⟩ rfl rfl (Nat.le_of_ble_eq_true rfl) dX10_distance_53 ⟨Nat.le_of_ble_eq_true rfl, Nat.le_of_ble_eq_true rfl⟩ (fun H locs hP hS => ?_)
    refine lv_if_eq (tgt := 61) hx hb dX10_distance_56 (by decide) (fun c4 => ?_) (fun c4 => ?_)
    · have hf := sp1 c4 hf
      refine lv_aload_n hx hb dX10_distance_61 rfl (lv_at hl 0 rfl) ?_
      refine lv_iload_n hx hb dX10_distance_62 rfl (lv_at hl 1 rfl) ?_
      refine lv_iload_n hx hb dX10_distance_63 rfl (lv_at hl 3 rfl) ?_
      refine lv_iconst (v := (-1)) hx hb dX10_distance_64 (by decide) ?_
      obtain ⟨S6, h5, hf⟩ := b1_some hf
      refine hc_V (As := [.int x1, .int x3, .int (-1)]) (rest := []) C hK (c_X10_sum l D ct ad F hG x1 x3 (-1) S3  S6 h5) hl.1 cp_X10_sum mw_6_81 (rc_X10 hK hP) hP hS ⟨rfl, rfl⟩ ⟨Nat.le_of_ble_eq_true rfl, Nat.le_of_ble_eq_true rfl⟩ rfl rfl (Nat.le_of_ble_eq_true rfl) dX10_distance_65 ⟨Nat.le_of_ble_eq_true rfl, Nat.le_of_ble_eq_true rfl⟩ (fun H locs hP hS => ?_)
      refine lv_aload_n hx hb dX10_distance_68 rfl (lv_at hl 0 rfl) ?_
      refine gf_X10_26 C hK hP mw_5_188 dX10_distance_69 ?_
      refine lv_lconst (v := 0) hx hb dX10_distance_72 (by decide) ?_
      refine W.lcmp hx hb dX10_distance_73 ?_
      refine lv_if_ne (tgt := 82) hx hb dX10_distance_74 (by decide) (fun c7 => ?_) (fun c7 => ?_)
      · have hf := sp0 c7 hf
        refine lv_aload_n hx hb dX10_distance_82 rfl (lv_at hl 0 rfl) ?_
        refine gf_X10_23 C hK hP mw_5_185 dX10_distance_83 ?_
        exact w_86 x2 x4 (S6.1 0 23) S6 _ _ _ (lv_sub hl [2, 4] rfl) hP hS hf
      · have hf := sp1 c7 hf
        refine lv_bipush (v := 60) hx hb dX10_distance_77 (by decide) ?_
        refine lv_goto (tgt := 86) hx hb dX10_distance_79 (by decide) ?_
        exact w_86 x2 x4 60 S6 _ _ _ (lv_sub hl [2, 4] rfl) hP hS hf
    · have hf := sp0 c4 hf
      refine lv_iconst (v := 0) hx hb dX10_distance_59 (by decide) ?_
      cases hf
      subst hQ
      exact he_i C hP hS dX10_distance_60
  refine lv_aload_n hx hb dX10_distance_0 rfl (lv_at hl 0 rfl) ?_
  refine lv_iload_n hx hb dX10_distance_1 rfl (lv_at hl 1 rfl) ?_
  refine lv_iload_n hx hb dX10_distance_2 rfl (lv_at hl 3 rfl) ?_
  obtain ⟨v9, S10, h8, hf⟩ := b2_some hf
  refine hc_V (As := [.int p0, .int p2]) (rest := []) C hK (c_X10_noNumbers l D ct ad F hG p0 p2 S0  v9 S10 h8) hl.1 cp_X10_noNumbers mw_6_140 (rc_X10 hK hP) hP hS ⟨rfl, rfl⟩ ⟨Nat.le_of_ble_eq_true rfl, Nat.le_of_ble_eq_true rfl⟩ rfl rfl (Nat.le_of_ble_eq_true rfl) dX10_distance_3 ⟨Nat.le_of_ble_eq_true rfl, Nat.le_of_ble_eq_true rfl⟩ (fun H locs hP hS => ?_)
  refine lv_if_ne (tgt := 59) hx hb dX10_distance_6 (by decide) (fun c11 => ?_) (fun c11 => ?_)
  · have hf := sp0 c11 hf
    refine lv_iconst (v := 0) hx hb dX10_distance_59 (by decide) ?_
    cases hf
    subst hQ
    exact he_i C hP hS dX10_distance_60
  · have hf := sp1 c11 hf
    refine lv_aload_n hx hb dX10_distance_9 rfl (lv_at hl 0 rfl) ?_
    refine lv_iload_n hx hb dX10_distance_10 rfl (lv_at hl 2 rfl) ?_
    refine lv_i2l hx hb dX10_distance_11 rfl ?_
    refine lv_ldc2 (v := -60) hx hb hown (htL _ mw_6_224) dX10_distance_12 ?_
    refine lv_aload_n hx hb dX10_distance_15 rfl (lv_at hl 0 rfl) ?_
    refine gf_X10_1 C hK hP mw_5_163 dX10_distance_16 ?_
    refine lv_iload_n hx hb dX10_distance_19 rfl (lv_at hl 1 rfl) ?_
    obtain ⟨c12, hf⟩ := spn hf
    refine al_M2 C hK hP c12 dX10_distance_20 ?_
    refine lv_i2l hx hb dX10_distance_21 rfl ?_
    obtain ⟨v13, h14, hf⟩ := b1_some hf
    refine pc_S (As := [.long (Int32.toInt64 p1), .long (-60), .long (Int32.toInt64 (S10.1 2 (Int32.toNatClampNeg p0)))]) (rest := [.ref (ad 0)]) C (c_X10_isIn l (Int32.toInt64 p1) (-60) (Int32.toInt64 (S10.1 2 (Int32.toNatClampNeg p0))) v13 h14) hl.1 cp_X10_isIn mw_6_15 ⟨rfl, rfl⟩ ⟨Nat.le_of_ble_eq_true rfl, Nat.le_of_ble_eq_true rfl⟩ rfl rfl (Nat.le_of_ble_eq_true rfl) dX10_distance_22 ⟨Nat.le_of_ble_eq_true rfl, Nat.le_of_ble_eq_true rfl⟩ ?_
    refine lv_if_eq (tgt := 51) hx hb dX10_distance_25 (by decide) (fun c15 => ?_) (fun c15 => ?_)
    · have hf := sp1 c15 hf
      refine lv_iconst (v := 0) hx hb dX10_distance_51 (by decide) ?_
      exact w_52 p0 p1 p2 p3 0 S10 _ _ _ (lv_sub hl [0, 1, 2, 3, 4] rfl) hP hS hf
    · have hf := sp0 c15 hf
      refine lv_iload hx hb dX10_distance_28 (lv_at hl 4 rfl) ?_
      refine lv_i2l hx hb dX10_distance_30 rfl ?_
      refine lv_ldc2 (v := -60) hx hb hown (htL _ mw_6_224) dX10_distance_31 ?_
      refine lv_aload_n hx hb dX10_distance_34 rfl (lv_at hl 0 rfl) ?_
      refine gf_X10_1 C hK hP mw_5_163 dX10_distance_35 ?_
      refine lv_iload_n hx hb dX10_distance_38 rfl (lv_at hl 3 rfl) ?_
      obtain ⟨c16, hf⟩ := spn hf
      refine al_M2 C hK hP c16 dX10_distance_39 ?_
      refine lv_i2l hx hb dX10_distance_40 rfl ?_
      obtain ⟨v17, h18, hf⟩ := b1_some hf
      refine pc_S (As := [.long (Int32.toInt64 p3), .long (-60), .long (Int32.toInt64 (S10.1 2 (Int32.toNatClampNeg p2)))]) (rest := [.ref (ad 0)]) C (c_X10_isIn l (Int32.toInt64 p3) (-60) (Int32.toInt64 (S10.1 2 (Int32.toNatClampNeg p2))) v17 h18) hl.1 cp_X10_isIn mw_6_15 ⟨rfl, rfl⟩ ⟨Nat.le_of_ble_eq_true rfl, Nat.le_of_ble_eq_true rfl⟩ rfl rfl (Nat.le_of_ble_eq_true rfl) dX10_distance_41 ⟨Nat.le_of_ble_eq_true rfl, Nat.le_of_ble_eq_true rfl⟩ ?_
      refine lv_if_eq (tgt := 51) hx hb dX10_distance_44 (by decide) (fun c19 => ?_) (fun c19 => ?_)
      · have hf := sp1 c19 hf
        refine lv_iconst (v := 0) hx hb dX10_distance_51 (by decide) ?_
        exact w_52 p0 p1 p2 p3 0 S10 _ _ _ (lv_sub hl [0, 1, 2, 3, 4] rfl) hP hS hf
      · have hf := sp0 c19 hf
        refine lv_iconst (v := 1) hx hb dX10_distance_47 (by decide) ?_
        refine lv_goto (tgt := 52) hx hb dX10_distance_48 (by decide) ?_
        exact w_52 p0 p1 p2 p3 1 S10 _ _ _ (lv_sub hl [0, 1, 2, 3, 4] rfl) hP hS hf
theorem cp_X10_distance : CPv yX10_distance cX10_distance 6 (some .int) 4 := ⟨mw_6_223, mw_1_9, mw_6_221, mw_6_222, by decide +kernel⟩
def rm_X10_begin : Room := { frames := 1, cells := 0, slots := 0, locals := 29 }
set_option maxHeartbeats 4000000 in
set_option maxRecDepth 100000 in
theorem c_X10_begin (l : Launch) (D : va_G) (ct : Nat → ClassId) (ad : Nat → Nat) (F : Nat → Prop) (hG : Gd ad 18 F) (p0 : Int32) (S0 : St)  (r : Int32) (S' : St) (hf : f_X10_begin p0 S0 = some (r, S')) : MetH l yX10_begin cX10_begin 2 (some .int) rm_X10_begin D (tysW ct) F [.ref (ad 0), .int p0] (some (.int r)) (cellsM ct ad S0) (cellsM ct ad S') := by
  refine MetH.of RX10 (by decide) rfl (Nat.le_of_ble_eq_true rfl) ?_
  intro p e s m args below meth c C hK hP ls hl
  have hl : lv_has ls 2 [(0, .ref (ad 0)), (1, .int p0)] := hl
  obtain ⟨hx, hb, hr, hml, hown, htL, hlocks⟩ := id C
  have hS : va_S F s.heap s.heap [] := va_S.rf
  generalize hQ : MQ below (Hq D (cellsM ct ad S') F (some (.int r))) args s 0 0 F = Q
  have w_46 : ∀ (x1 : Int32) (y1 : Int32) (S : St), ∀ (H : Heap) (locs : List Loc) (ls : Array Slot), lv_has ls 2 [(0, .ref (ad 0)), (1, .int x1)] → va_P D vwCl (cellsM ct ad S) H → va_S F s.heap H locs → n_X10_begin_46 x1 y1 S = some (r, S') → W p l e rm_X10_begin s m args below meth c H locs 0 0 Q (F0 m 46 ls [.int y1, .ref (ad 0)]) := by
    intro  x1 y1 S H locs ls hl hP hS hf
    refine lv_iconst (v := 2) hx hb dX10_begin_46 (by decide) ?_
    obtain ⟨v2, S3, h1, hf⟩ := b2_some hf
    refine hc_V (As := [.int y1, .int 2]) (rest := []) C hK (c_X10_no l D ct ad F hG y1 2 S  v2 S3 h1) hl.1 cp_X10_no mw_6_21 (rc_X10 hK hP) hP hS ⟨rfl, rfl⟩ ⟨Nat.le_of_ble_eq_true rfl, Nat.le_of_ble_eq_true rfl⟩ rfl rfl (Nat.le_of_ble_eq_true rfl) dX10_begin_47 ⟨Nat.le_of_ble_eq_true rfl, Nat.le_of_ble_eq_true rfl⟩ (fun H locs hP hS => ?_)
    refine lv_if_eq (tgt := 55) hx hb dX10_begin_50 (by decide) (fun c4 => ?_) (fun c4 => ?_)
    · have hf := sp1 c4 hf
      refine lv_aload_n hx hb dX10_begin_55 rfl (lv_at hl 0 rfl) ?_
      refine gf_X10_11 C hK hP mw_5_173 dX10_begin_56 ?_
      refine lv_bipush (v := 7) hx hb dX10_begin_59 (by decide) ?_
      refine lv_aload_n hx hb dX10_begin_61 rfl (lv_at hl 0 rfl) ?_
      refine gf_X10_20 C hK hP mw_5_182 dX10_begin_62 ?_
      refine lv_imul hx hb dX10_begin_65 ?_
      refine lv_iload_n hx hb dX10_begin_66 rfl (lv_at hl 1 rfl) ?_
      obtain ⟨c5, hf⟩ := spn hf
      refine as_M12 C hK hP hG hS c5 dX10_begin_67 (fun H locs hP hS => ?_)
      refine lv_aload_n hx hb dX10_begin_68 rfl (lv_at hl 0 rfl) ?_
      refine gf_X10_12 C hK hP mw_5_174 dX10_begin_69 ?_
      refine lv_aload_n hx hb dX10_begin_72 rfl (lv_at hl 0 rfl) ?_
      refine gf_X10_20 C hK hP mw_5_182 dX10_begin_73 ?_
      refine lv_iconst (v := 0) hx hb dX10_begin_76 (by decide) ?_
      obtain ⟨c6, hf⟩ := spn hf
      refine as_M13 C hK hP hG hS c6 dX10_begin_77 (fun H locs hP hS => ?_)
      refine lv_aload_n hx hb dX10_begin_78 rfl (lv_at hl 0 rfl) ?_
      refine lv_dup hx hb dX10_begin_79 rfl ?_
      refine gf_X10_20 C hK hP mw_5_182 dX10_begin_80 ?_
      refine lv_dup_x1 hx hb dX10_begin_83 rfl rfl ?_
      refine lv_iconst (v := 1) hx hb dX10_begin_84 (by decide) ?_
      refine lv_iadd hx hb dX10_begin_85 ?_
      refine pf_X10_20 C hK hP hG hS mw_5_182 dX10_begin_86 (fun H locs hP hS => ?_)
      cases hf
      subst hQ
      exact he_i C hP hS dX10_begin_89
    · have hf := sp0 c4 hf
      refine lv_iconst (v := 0) hx hb dX10_begin_53 (by decide) ?_
      cases hf
      subst hQ
      exact he_i C hP hS dX10_begin_54
  have w_24 : ∀ (x1 : Int32) (y1 : Int32) (S : St), ∀ (H : Heap) (locs : List Loc) (ls : Array Slot), lv_has ls 2 [(0, .ref (ad 0)), (1, .int x1)] → va_P D vwCl (cellsM ct ad S) H → va_S F s.heap H locs → n_X10_begin_24 x1 y1 S = some (r, S') → W p l e rm_X10_begin s m args below meth c H locs 0 0 Q (F0 m 24 ls [.int y1, .ref (ad 0)]) := by
    intro  x1 y1 S H locs ls hl hP hS hf
    refine lv_iconst (v := 1) hx hb dX10_begin_24 (by decide) ?_
    obtain ⟨v8, S9, h7, hf⟩ := b2_some hf
    refine hc_V (As := [.int y1, .int 1]) (rest := []) C hK (c_X10_no l D ct ad F hG y1 1 S  v8 S9 h7) hl.1 cp_X10_no mw_6_21 (rc_X10 hK hP) hP hS ⟨rfl, rfl⟩ ⟨Nat.le_of_ble_eq_true rfl, Nat.le_of_ble_eq_true rfl⟩ rfl rfl (Nat.le_of_ble_eq_true rfl) dX10_begin_25 ⟨Nat.le_of_ble_eq_true rfl, Nat.le_of_ble_eq_true rfl⟩ (fun H locs hP hS => ?_)
    refine lv_if_ne (tgt := 53) hx hb dX10_begin_28 (by decide) (fun c10 => ?_) (fun c10 => ?_)
    · have hf := sp0 c10 hf
      refine lv_iconst (v := 0) hx hb dX10_begin_53 (by decide) ?_
      cases hf
      subst hQ
      exact he_i C hP hS dX10_begin_54
    · have hf := sp1 c10 hf
      refine lv_aload_n hx hb dX10_begin_31 rfl (lv_at hl 0 rfl) ?_
      refine lv_aload_n hx hb dX10_begin_32 rfl (lv_at hl 0 rfl) ?_
      refine gf_X10_20 C hK hP mw_5_182 dX10_begin_33 ?_
      refine lv_bipush (v := 8) hx hb dX10_begin_36 (by decide) ?_
      refine lv_icmp_ge (tgt := 45) hx hb dX10_begin_38 (by decide) (fun c11 => ?_) (fun c11 => ?_)
      · have hf := sp1 c11 hf
        refine lv_iconst (v := 0) hx hb dX10_begin_45 (by decide) ?_
        exact w_46 x1 0 S9 _ _ _ (lv_sub hl [0, 1] rfl) hP hS hf
      · have hf := sp0 c11 hf
        refine lv_iconst (v := 1) hx hb dX10_begin_41 (by decide) ?_
        refine lv_goto (tgt := 46) hx hb dX10_begin_42 (by decide) ?_
        exact w_46 x1 1 S9 _ _ _ (lv_sub hl [0, 1] rfl) hP hS hf
  refine lv_aload_n hx hb dX10_begin_0 rfl (lv_at hl 0 rfl) ?_
  refine lv_iload_n hx hb dX10_begin_1 rfl (lv_at hl 1 rfl) ?_
  refine lv_i2l hx hb dX10_begin_2 rfl ?_
  refine lv_ldc2 (v := -10000) hx hb hown (htL _ mw_6_229) dX10_begin_3 ?_
  refine lv_ldc2 (v := 10000) hx hb hown (htL _ mw_6_230) dX10_begin_6 ?_
  obtain ⟨v12, h13, hf⟩ := b1_some hf
  refine pc_S (As := [.long (Int32.toInt64 p0), .long (-10000), .long (10000)]) (rest := [.ref (ad 0)]) C (c_X10_isIn l (Int32.toInt64 p0) (-10000) (10000) v12 h13) hl.1 cp_X10_isIn mw_6_15 ⟨rfl, rfl⟩ ⟨Nat.le_of_ble_eq_true rfl, Nat.le_of_ble_eq_true rfl⟩ rfl rfl (Nat.le_of_ble_eq_true rfl) dX10_begin_9 ⟨Nat.le_of_ble_eq_true rfl, Nat.le_of_ble_eq_true rfl⟩ ?_
  refine lv_if_eq (tgt := 23) hx hb dX10_begin_12 (by decide) (fun c14 => ?_) (fun c14 => ?_)
  · have hf := sp1 c14 hf
    refine lv_iconst (v := 0) hx hb dX10_begin_23 (by decide) ?_
    exact w_24 p0 0 S0 _ _ _ (lv_sub hl [0, 1] rfl) hP hS hf
  · have hf := sp0 c14 hf
    refine lv_iload_n hx hb dX10_begin_15 rfl (lv_at hl 1 rfl) ?_
    refine lv_if_eq (tgt := 23) hx hb dX10_begin_16 (by decide) (fun c15 => ?_) (fun c15 => ?_)
    · have hf := sp1 c15 hf
      refine lv_iconst (v := 0) hx hb dX10_begin_23 (by decide) ?_
      exact w_24 p0 0 S0 _ _ _ (lv_sub hl [0, 1] rfl) hP hS hf
    · have hf := sp0 c15 hf
      refine lv_iconst (v := 1) hx hb dX10_begin_19 (by decide) ?_
      refine lv_goto (tgt := 24) hx hb dX10_begin_20 (by decide) ?_
      exact w_24 p0 1 S0 _ _ _ (lv_sub hl [0, 1] rfl) hP hS hf
theorem cp_X10_begin : CPv yX10_begin cX10_begin 2 (some .int) 1 := ⟨mw_6_228, mw_1_9, mw_6_226, mw_6_227, by decide +kernel⟩
def rm_X10_noPolynomial : Room := { frames := 1, cells := 0, slots := 0, locals := 29 }
set_option maxHeartbeats 4000000 in
set_option maxRecDepth 100000 in
theorem c_X10_noPolynomial (l : Launch) (D : va_G) (ct : Nat → ClassId) (ad : Nat → Nat) (F : Nat → Prop) (hG : Gd ad 18 F) (p0 : Int32) (S0 : St)  (r : Int32) (S' : St) (hf : f_X10_noPolynomial p0 S0 = some (r, S')) : MetH l yX10_noPolynomial cX10_noPolynomial 2 (some .boolean) rm_X10_noPolynomial D (tysW ct) F [.ref (ad 0), .int p0] (some (.int r)) (cellsM ct ad S0) (cellsM ct ad S') := by
  refine MetH.of RX10 (by decide) rfl (Nat.le_of_ble_eq_true rfl) ?_
  intro p e s m args below meth c C hK hP ls hl
  have hl : lv_has ls 2 [(0, .ref (ad 0)), (1, .int p0)] := hl
  obtain ⟨hx, hb, hr, hml, hown, htL, hlocks⟩ := id C
  have hS : va_S F s.heap s.heap [] := va_S.rf
  generalize hQ : MQ below (Hq D (cellsM ct ad S') F (some (.int r))) args s 0 0 F = Q
  refine lv_aload_n hx hb dX10_noPolynomial_0 rfl (lv_at hl 0 rfl) ?_
  refine lv_iload_n hx hb dX10_noPolynomial_1 rfl (lv_at hl 1 rfl) ?_
  refine lv_i2l hx hb dX10_noPolynomial_2 rfl ?_
  refine lv_lconst (v := 0) hx hb dX10_noPolynomial_3 (by decide) ?_
  refine lv_aload_n hx hb dX10_noPolynomial_4 rfl (lv_at hl 0 rfl) ?_
  refine gf_X10_20 C hK hP mw_5_182 dX10_noPolynomial_5 ?_
  refine lv_iconst (v := 1) hx hb dX10_noPolynomial_8 (by decide) ?_
  refine lv_isub hx hb dX10_noPolynomial_9 ?_
  refine lv_i2l hx hb dX10_noPolynomial_10 rfl ?_
  obtain ⟨v1, h2, hf⟩ := b1_some hf
  refine pc_S (As := [.long (Int32.toInt64 p0), .long 0, .long (Int32.toInt64 ((S0.1 0 20) - 1))]) (rest := [.ref (ad 0)]) C (c_X10_isIn l (Int32.toInt64 p0) 0 (Int32.toInt64 ((S0.1 0 20) - 1)) v1 h2) hl.1 cp_X10_isIn mw_6_15 ⟨rfl, rfl⟩ ⟨Nat.le_of_ble_eq_true rfl, Nat.le_of_ble_eq_true rfl⟩ rfl rfl (Nat.le_of_ble_eq_true rfl) dX10_noPolynomial_11 ⟨Nat.le_of_ble_eq_true rfl, Nat.le_of_ble_eq_true rfl⟩ ?_
  refine lv_iconst (v := 1) hx hb dX10_noPolynomial_14 (by decide) ?_
  obtain ⟨v4, S5, h3, hf⟩ := b2_some hf
  refine hc_V (As := [.int v1, .int 1]) (rest := []) C hK (c_X10_no l D ct ad F hG v1 1 S0  v4 S5 h3) hl.1 cp_X10_no mw_6_21 (rc_X10 hK hP) hP hS ⟨rfl, rfl⟩ ⟨Nat.le_of_ble_eq_true rfl, Nat.le_of_ble_eq_true rfl⟩ rfl rfl (Nat.le_of_ble_eq_true rfl) dX10_noPolynomial_15 ⟨Nat.le_of_ble_eq_true rfl, Nat.le_of_ble_eq_true rfl⟩ (fun H locs hP hS => ?_)
  obtain ⟨c6, hf⟩ := spy hf
  cases hf
  subst hQ
  exact he_z C c6 hP hS dX10_noPolynomial_18
theorem cp_X10_noPolynomial : CPv yX10_noPolynomial cX10_noPolynomial 2 (some .boolean) 1 := ⟨mw_6_238, mw_1_9, mw_6_237, ms_61, by decide +kernel⟩
def rm_X10_term : Room := { frames := 2, cells := 0, slots := 0, locals := 54 }
set_option maxHeartbeats 4000000 in
set_option maxRecDepth 100000 in
theorem c_X10_term (l : Launch) (D : va_G) (ct : Nat → ClassId) (ad : Nat → Nat) (F : Nat → Prop) (hG : Gd ad 18 F) (p0 : Int32) (p1 : Int32) (p2 : Int32) (S0 : St)  (r : Int32) (S' : St) (hf : f_X10_term p0 p1 p2 S0 = some (r, S')) : MetH l yX10_term cX10_term 6 (some .int) rm_X10_term D (tysW ct) F [.ref (ad 0), .int p0, .int p1, .int p2] (some (.int r)) (cellsM ct ad S0) (cellsM ct ad S') := by
  refine MetH.of RX10 (by decide) rfl (Nat.le_of_ble_eq_true rfl) ?_
  intro p e s m args below meth c C hK hP ls hl
  have hl : lv_has ls 6 [(0, .ref (ad 0)), (1, .int p0), (2, .int p1), (3, .int p2)] := hl
  obtain ⟨hx, hb, hr, hml, hown, htL, hlocks⟩ := id C
  have hS : va_S F s.heap s.heap [] := va_S.rf
  generalize hQ : MQ below (Hq D (cellsM ct ad S') F (some (.int r))) args s 0 0 F = Q
  have w_86 : ∀ (x1 : Int32) (x4 : Int32) (x5 : Int32) (S : St), ∀ (H : Heap) (locs : List Loc) (ls : Array Slot), lv_has ls 6 [(0, .ref (ad 0)), (1, .int x1), (4, .int x4), (5, .int x5)] → va_P D vwCl (cellsM ct ad S) H → va_S F s.heap H locs → n_X10_term_86 x1 x4 x5 S = some (r, S') → W p l e rm_X10_term s m args below meth c H locs 0 0 Q (F0 m 86 ls []) := by
    have aux : ∀ (n : Nat), ∀ (x1 : Int32) (x4 : Int32) (x5 : Int32) (S : St), ∀ (H : Heap) (locs : List Loc) (ls : Array Slot), lv_has ls 6 [(0, .ref (ad 0)), (1, .int x1), (4, .int x4), (5, .int x5)] → va_P D vwCl (cellsM ct ad S) H → va_S F s.heap H locs → itr (fun (q : Int32 × Int32 × Int32 × St) k => s_X10_term_86  (fun (x1 : Int32) (x4 : Int32) (x5 : Int32) (S : St) => k (x1, x4, x5, S)) q.1 q.2.1 q.2.2.1 q.2.2.2) n (x1, x4, x5, S) = some (r, S') → W p l e rm_X10_term s m args below meth c H locs 0 0 Q (F0 m 86 ls []) := by
      intro n
      induction n with
      | zero => intro x1 x4 x5 S H locs ls hl hP hS hf; exact (itr_z hf).elim
      | succ n ih =>
      intro x1 x4 x5 S H locs ls hl hP hS hf
      have hk_86 := ih
      have hf : s_X10_term_86  (fun (x1 : Int32) (x4 : Int32) (x5 : Int32) (S : St) => itr (fun (q : Int32 × Int32 × Int32 × St) k => s_X10_term_86  (fun (x1 : Int32) (x4 : Int32) (x5 : Int32) (S : St) => k (x1, x4, x5, S)) q.1 q.2.1 q.2.2.1 q.2.2.2) n (x1, x4, x5, S)) x1 x4 x5 S = some (r, S') := hf
      refine lv_iload hx hb dX10_term_86 (lv_at hl 3 rfl) ?_
      refine lv_bipush (v := 7) hx hb dX10_term_88 (by decide) ?_
      refine lv_icmp_ge (tgt := 124) hx hb dX10_term_90 (by decide) (fun c1 => ?_) (fun c1 => ?_)
      · have hf := sp1 c1 hf
        refine lv_iload hx hb dX10_term_124 (lv_at hl 2 rfl) ?_
        cases hf
        subst hQ
        exact he_i C hP hS dX10_term_126
      · have hf := sp0 c1 hf
        refine lv_iload hx hb dX10_term_93 (lv_at hl 2 rfl) ?_
        refine lv_aload_n hx hb dX10_term_95 rfl (lv_at hl 0 rfl) ?_
        refine gf_X10_11 C hK hP mw_5_173 dX10_term_96 ?_
        refine lv_bipush (v := 7) hx hb dX10_term_99 (by decide) ?_
        refine lv_iload_n hx hb dX10_term_101 rfl (lv_at hl 1 rfl) ?_
        refine lv_imul hx hb dX10_term_102 ?_
        refine lv_iload hx hb dX10_term_103 (lv_at hl 3 rfl) ?_
        refine lv_iadd hx hb dX10_term_105 ?_
        obtain ⟨c2, hf⟩ := spn hf
        refine al_M12 C hK hP c2 dX10_term_106 ?_
        refine lv_if_ne (tgt := 114) hx hb dX10_term_107 (by decide) (fun c3 => ?_) (fun c3 => ?_)
        · have hf := sp0 c3 hf
          refine lv_iconst (v := 1) hx hb dX10_term_114 (by decide) ?_
          refine lv_iadd hx hb dX10_term_115 ?_
          refine lv_istore (lv' := [(4, .int (x4 + 1)), (0, .ref (ad 0)), (1, .int x1), (5, .int x5)]) hx hb dX10_term_116 hl (by decide) rfl (fun ls hl => ?_)
          refine lv_iinc (v := (x5 + 1)) (lv' := [(5, .int (x5 + 1)), (4, .int (x4 + 1)), (0, .ref (ad 0)), (1, .int x1)]) hx hb dX10_term_118 hl (k := 3) rfl rfl (by decide) rfl (fun ls hl => ?_)
          refine lv_goto (tgt := 86) hx hb dX10_term_121 (by decide) ?_
          exact hk_86 x1 (x4 + 1) (x5 + 1) S _ _ _ (lv_sub hl [2, 3, 1, 0] rfl) hP hS hf
        · have hf := sp1 c3 hf
          refine lv_iconst (v := 0) hx hb dX10_term_110 (by decide) ?_
          refine lv_goto (tgt := 115) hx hb dX10_term_111 (by decide) ?_
          refine lv_iadd hx hb dX10_term_115 ?_
          refine lv_istore (lv' := [(4, .int (x4 + 0)), (0, .ref (ad 0)), (1, .int x1), (5, .int x5)]) hx hb dX10_term_116 hl (by decide) rfl (fun ls hl => ?_)
          refine lv_iinc (v := (x5 + 1)) (lv' := [(5, .int (x5 + 1)), (4, .int (x4 + 0)), (0, .ref (ad 0)), (1, .int x1)]) hx hb dX10_term_118 hl (k := 3) rfl rfl (by decide) rfl (fun ls hl => ?_)
          refine lv_goto (tgt := 86) hx hb dX10_term_121 (by decide) ?_
          exact hk_86 x1 (x4 + 0) (x5 + 1) S _ _ _ (lv_sub hl [2, 3, 1, 0] rfl) hP hS hf
    exact aux FU
  have w_52 : ∀ (x1 : Int32) (x2 : Int32) (x3 : Int32) (y1 : Int32) (S : St), ∀ (H : Heap) (locs : List Loc) (ls : Array Slot), lv_has ls 6 [(0, .ref (ad 0)), (1, .int x1), (2, .int x2), (3, .int x3)] → va_P D vwCl (cellsM ct ad S) H → va_S F s.heap H locs → n_X10_term_52 x1 x2 x3 y1 S = some (r, S') → W p l e rm_X10_term s m args below meth c H locs 0 0 Q (F0 m 52 ls [.int y1, .ref (ad 0)]) := by
    intro  x1 x2 x3 y1 S H locs ls hl hP hS hf
    refine lv_iconst (v := 2) hx hb dX10_term_52 (by decide) ?_
    obtain ⟨v5, S6, h4, hf⟩ := b2_some hf
    refine hc_V (As := [.int y1, .int 2]) (rest := []) C hK (c_X10_no l D ct ad F hG y1 2 S  v5 S6 h4) hl.1 cp_X10_no mw_6_21 (rc_X10 hK hP) hP hS ⟨rfl, rfl⟩ ⟨Nat.le_of_ble_eq_true rfl, Nat.le_of_ble_eq_true rfl⟩ rfl rfl (Nat.le_of_ble_eq_true rfl) dX10_term_53 ⟨Nat.le_of_ble_eq_true rfl, Nat.le_of_ble_eq_true rfl⟩ (fun H locs hP hS => ?_)
    refine lv_if_eq (tgt := 61) hx hb dX10_term_56 (by decide) (fun c7 => ?_) (fun c7 => ?_)
    · have hf := sp1 c7 hf
      refine lv_aload_n hx hb dX10_term_61 rfl (lv_at hl 0 rfl) ?_
      refine gf_X10_11 C hK hP mw_5_173 dX10_term_62 ?_
      refine lv_bipush (v := 7) hx hb dX10_term_65 (by decide) ?_
      refine lv_iload_n hx hb dX10_term_67 rfl (lv_at hl 1 rfl) ?_
      refine lv_imul hx hb dX10_term_68 ?_
      refine lv_iload_n hx hb dX10_term_69 rfl (lv_at hl 2 rfl) ?_
      refine lv_iadd hx hb dX10_term_70 ?_
      refine lv_iload_n hx hb dX10_term_71 rfl (lv_at hl 3 rfl) ?_
      obtain ⟨c8, hf⟩ := spn hf
      refine as_M12 C hK hP hG hS c8 dX10_term_72 (fun H locs hP hS => ?_)
      refine lv_aload_n hx hb dX10_term_73 rfl (lv_at hl 0 rfl) ?_
      refine gf_X10_12 C hK hP mw_5_174 dX10_term_74 ?_
      refine lv_iload_n hx hb dX10_term_77 rfl (lv_at hl 1 rfl) ?_
      refine lv_iload_n hx hb dX10_term_78 rfl (lv_at hl 2 rfl) ?_
      obtain ⟨c9, hf⟩ := spn hf
      refine as_M13 C hK hP hG hS c9 dX10_term_79 (fun H locs hP hS => ?_)
      refine lv_iconst (v := 0) hx hb dX10_term_80 (by decide) ?_
      refine lv_istore (lv' := [(4, .int 0), (0, .ref (ad 0)), (1, .int x1), (2, .int x2), (3, .int x3)]) hx hb dX10_term_81 hl (by decide) rfl (fun ls hl => ?_)
      refine lv_iconst (v := 0) hx hb dX10_term_83 (by decide) ?_
      refine lv_istore (lv' := [(5, .int 0), (4, .int 0), (0, .ref (ad 0)), (1, .int x1), (2, .int x2), (3, .int x3)]) hx hb dX10_term_84 hl (by decide) rfl (fun ls hl => ?_)
      exact w_86 x1 0 0 (wI (wI S6 12 (Int32.toNatClampNeg ((7 * x1) + x2)) x3) 13 (Int32.toNatClampNeg x1) x2) _ _ _ (lv_sub hl [2, 3, 1, 0] rfl) hP hS hf
    · have hf := sp0 c7 hf
      refine lv_iconst (v := 0) hx hb dX10_term_59 (by decide) ?_
      cases hf
      subst hQ
      exact he_i C hP hS dX10_term_60
  refine lv_aload_n hx hb dX10_term_0 rfl (lv_at hl 0 rfl) ?_
  refine lv_iload_n hx hb dX10_term_1 rfl (lv_at hl 1 rfl) ?_
  obtain ⟨v11, S12, h10, hf⟩ := b2_some hf
  refine hc_V (As := [.int p0]) (rest := []) C hK (c_X10_noPolynomial l D ct ad F hG p0 S0  v11 S12 h10) hl.1 cp_X10_noPolynomial mw_6_235 (rc_X10 hK hP) hP hS ⟨rfl, rfl⟩ ⟨Nat.le_of_ble_eq_true rfl, Nat.le_of_ble_eq_true rfl⟩ rfl rfl (Nat.le_of_ble_eq_true rfl) dX10_term_2 ⟨Nat.le_of_ble_eq_true rfl, Nat.le_of_ble_eq_true rfl⟩ (fun H locs hP hS => ?_)
  refine lv_if_ne (tgt := 59) hx hb dX10_term_5 (by decide) (fun c13 => ?_) (fun c13 => ?_)
  · have hf := sp0 c13 hf
    refine lv_iconst (v := 0) hx hb dX10_term_59 (by decide) ?_
    cases hf
    subst hQ
    exact he_i C hP hS dX10_term_60
  · have hf := sp1 c13 hf
    refine lv_aload_n hx hb dX10_term_8 rfl (lv_at hl 0 rfl) ?_
    refine lv_iload_n hx hb dX10_term_9 rfl (lv_at hl 2 rfl) ?_
    refine lv_i2l hx hb dX10_term_10 rfl ?_
    refine lv_aload_n hx hb dX10_term_11 rfl (lv_at hl 0 rfl) ?_
    refine gf_X10_12 C hK hP mw_5_174 dX10_term_12 ?_
    refine lv_iload_n hx hb dX10_term_15 rfl (lv_at hl 1 rfl) ?_
    obtain ⟨c14, hf⟩ := spn hf
    refine al_M13 C hK hP c14 dX10_term_16 ?_
    refine lv_iconst (v := 1) hx hb dX10_term_17 (by decide) ?_
    refine lv_iadd hx hb dX10_term_18 ?_
    refine lv_i2l hx hb dX10_term_19 rfl ?_
    refine lv_ldc2 (v := 6) hx hb hown (htL _ mw_6_239) dX10_term_20 ?_
    obtain ⟨v15, h16, hf⟩ := b1_some hf
    refine pc_S (As := [.long (Int32.toInt64 p1), .long (Int32.toInt64 ((S12.1 13 (Int32.toNatClampNeg p0)) + 1)), .long (6)]) (rest := [.ref (ad 0)]) C (c_X10_isIn l (Int32.toInt64 p1) (Int32.toInt64 ((S12.1 13 (Int32.toNatClampNeg p0)) + 1)) (6) v15 h16) hl.1 cp_X10_isIn mw_6_15 ⟨rfl, rfl⟩ ⟨Nat.le_of_ble_eq_true rfl, Nat.le_of_ble_eq_true rfl⟩ rfl rfl (Nat.le_of_ble_eq_true rfl) dX10_term_23 ⟨Nat.le_of_ble_eq_true rfl, Nat.le_of_ble_eq_true rfl⟩ ?_
    refine lv_if_eq (tgt := 51) hx hb dX10_term_26 (by decide) (fun c17 => ?_) (fun c17 => ?_)
    · have hf := sp1 c17 hf
      refine lv_iconst (v := 0) hx hb dX10_term_51 (by decide) ?_
      exact w_52 p0 p1 p2 0 S12 _ _ _ (lv_sub hl [0, 1, 2, 3] rfl) hP hS hf
    · have hf := sp0 c17 hf
      refine lv_iload_n hx hb dX10_term_29 rfl (lv_at hl 3 rfl) ?_
      refine lv_i2l hx hb dX10_term_30 rfl ?_
      refine lv_ldc2 (v := -10000) hx hb hown (htL _ mw_6_229) dX10_term_31 ?_
      refine lv_ldc2 (v := 10000) hx hb hown (htL _ mw_6_230) dX10_term_34 ?_
      obtain ⟨v18, h19, hf⟩ := b1_some hf
      refine pc_S (As := [.long (Int32.toInt64 p2), .long (-10000), .long (10000)]) (rest := [.ref (ad 0)]) C (c_X10_isIn l (Int32.toInt64 p2) (-10000) (10000) v18 h19) hl.1 cp_X10_isIn mw_6_15 ⟨rfl, rfl⟩ ⟨Nat.le_of_ble_eq_true rfl, Nat.le_of_ble_eq_true rfl⟩ rfl rfl (Nat.le_of_ble_eq_true rfl) dX10_term_37 ⟨Nat.le_of_ble_eq_true rfl, Nat.le_of_ble_eq_true rfl⟩ ?_
      refine lv_if_eq (tgt := 51) hx hb dX10_term_40 (by decide) (fun c20 => ?_) (fun c20 => ?_)
      · have hf := sp1 c20 hf
        refine lv_iconst (v := 0) hx hb dX10_term_51 (by decide) ?_
        exact w_52 p0 p1 p2 0 S12 _ _ _ (lv_sub hl [0, 1, 2, 3] rfl) hP hS hf
      · have hf := sp0 c20 hf
        refine lv_iload_n hx hb dX10_term_43 rfl (lv_at hl 3 rfl) ?_
        refine lv_if_eq (tgt := 51) hx hb dX10_term_44 (by decide) (fun c21 => ?_) (fun c21 => ?_)
        · have hf := sp1 c21 hf
          refine lv_iconst (v := 0) hx hb dX10_term_51 (by decide) ?_
          exact w_52 p0 p1 p2 0 S12 _ _ _ (lv_sub hl [0, 1, 2, 3] rfl) hP hS hf
        · have hf := sp0 c21 hf
          refine lv_iconst (v := 1) hx hb dX10_term_47 (by decide) ?_
          refine lv_goto (tgt := 52) hx hb dX10_term_48 (by decide) ?_
          exact w_52 p0 p1 p2 1 S12 _ _ _ (lv_sub hl [0, 1, 2, 3] rfl) hP hS hf
theorem cp_X10_term : CPv yX10_term cX10_term 6 (some .int) 3 := ⟨mw_6_234, mw_1_9, mw_6_232, mw_6_233, by decide +kernel⟩
def rm_X10_lowerHull : Room := { frames := 1, cells := 0, slots := 0, locals := 29 }
set_option maxHeartbeats 4000000 in
set_option maxRecDepth 100000 in
theorem c_X10_lowerHull (l : Launch) (D : va_G) (ct : Nat → ClassId) (ad : Nat → Nat) (F : Nat → Prop) (hG : Gd ad 18 F) (p0 : Int32) (S0 : St)  (S' : St) (hf : f_X10_lowerHull p0 S0 = some S') : MetH l yX10_lowerHull cX10_lowerHull 7 none rm_X10_lowerHull D (tysW ct) F [.ref (ad 0), .int p0] none (cellsM ct ad S0) (cellsM ct ad S') := by
  refine MetH.of RX10 (by decide) rfl (Nat.le_of_ble_eq_true rfl) ?_
  intro p e s m args below meth c C hK hP ls hl
  have hl : lv_has ls 7 [(0, .ref (ad 0)), (1, .int p0)] := hl
  obtain ⟨hx, hb, hr, hml, hown, htL, hlocks⟩ := id C
  have hS : va_S F s.heap s.heap [] := va_S.rf
  generalize hQ : MQ below (Hq D (cellsM ct ad S') F none) args s 0 0 F = Q
  have w_131 : ∀ (k_7 : Int32 → Int32 → St → Option St) (hk_7 : ∀ (x1 : Int32) (x2 : Int32) (S : St), ∀ (H : Heap) (locs : List Loc) (ls : Array Slot), lv_has ls 7 [(0, .ref (ad 0)), (1, .int x1), (2, .int x2)] → va_P D vwCl (cellsM ct ad S) H → va_S F s.heap H locs → k_7 x1 x2 S = some S' → W p l e rm_X10_lowerHull s m args below meth c H locs 0 0 Q (F0 m 7 ls [])) (k_24 : Int32 → Int32 → Int32 → Int32 → St → Option St) (hk_24 : ∀ (x1 : Int32) (x2 : Int32) (x3 : Int32) (x4 : Int32) (S : St), ∀ (H : Heap) (locs : List Loc) (ls : Array Slot), lv_has ls 7 [(0, .ref (ad 0)), (1, .int x1), (2, .int x2), (3, .int x3), (4, .int x4)] → va_P D vwCl (cellsM ct ad S) H → va_S F s.heap H locs → k_24 x1 x2 x3 x4 S = some S' → W p l e rm_X10_lowerHull s m args below meth c H locs 0 0 Q (F0 m 24 ls [])), ∀ (x1 : Int32) (x2 : Int32) (x3 : Int32) (x4 : Int32) (x5 : Int32) (y0 : Int32) (S : St), ∀ (H : Heap) (locs : List Loc) (ls : Array Slot), lv_has ls 7 [(0, .ref (ad 0)), (1, .int x1), (2, .int x2), (3, .int x3), (4, .int x4), (5, .int x5)] → va_P D vwCl (cellsM ct ad S) H → va_S F s.heap H locs → n_X10_lowerHull_131 k_7 k_24 x1 x2 x3 x4 x5 y0 S = some S' → W p l e rm_X10_lowerHull s m args below meth c H locs 0 0 Q (F0 m 131 ls [.int y0]) := by
    intro k_7 hk_7 k_24 hk_24 x1 x2 x3 x4 x5 y0 S H locs ls hl hP hS hf
    refine lv_istore (lv' := [(6, .int y0), (0, .ref (ad 0)), (1, .int x1), (2, .int x2), (3, .int x3), (4, .int x4), (5, .int x5)]) hx hb dX10_lowerHull_131 hl (by decide) rfl (fun ls hl => ?_)
    refine lv_iload_n hx hb dX10_lowerHull_133 rfl (lv_at hl 4 rfl) ?_
    refine lv_iconst (v := (-1)) hx hb dX10_lowerHull_134 (by decide) ?_
    refine lv_icmp_eq (tgt := 154) hx hb dX10_lowerHull_135 (by decide) (fun c1 => ?_) (fun c1 => ?_)
    · have hf := sp1 c1 hf
      refine lv_iload hx hb dX10_lowerHull_154 (lv_at hl 5 rfl) ?_
      refine lv_istore_n (lv' := [(3, .int x4), (6, .int y0), (0, .ref (ad 0)), (1, .int x1), (2, .int x2), (4, .int x4), (5, .int x5)]) hx hb dX10_lowerHull_156 rfl hl (by decide) rfl (fun ls hl => ?_)
      refine lv_iinc (v := (x4 + 1)) (lv' := [(4, .int (x4 + 1)), (3, .int x4), (6, .int y0), (0, .ref (ad 0)), (1, .int x1), (2, .int x2), (5, .int x5)]) hx hb dX10_lowerHull_157 hl (k := 5) rfl rfl (by decide) rfl (fun ls hl => ?_)
      refine lv_goto (tgt := 24) hx hb dX10_lowerHull_160 (by decide) ?_
      exact hk_24 x1 x2 x4 (x4 + 1) S _ _ _ (lv_sub hl [3, 4, 5, 1, 0] rfl) hP hS hf
    · have hf := sp0 c1 hf
      refine lv_iload hx hb dX10_lowerHull_138 (lv_at hl 6 rfl) ?_
      refine lv_iload_n hx hb dX10_lowerHull_140 rfl (lv_at hl 4 rfl) ?_
      refine lv_iload_n hx hb dX10_lowerHull_141 rfl (lv_at hl 3 rfl) ?_
      refine lv_isub hx hb dX10_lowerHull_142 ?_
      refine lv_imul hx hb dX10_lowerHull_143 ?_
      refine lv_iload hx hb dX10_lowerHull_144 (lv_at hl 0 rfl) ?_
      refine lv_iload hx hb dX10_lowerHull_146 (lv_at hl 5 rfl) ?_
      refine lv_iload_n hx hb dX10_lowerHull_148 rfl (lv_at hl 3 rfl) ?_
      refine lv_isub hx hb dX10_lowerHull_149 ?_
      refine lv_imul hx hb dX10_lowerHull_150 ?_
      refine lv_icmp_gt (tgt := 157) hx hb dX10_lowerHull_151 (by decide) (fun c2 => ?_) (fun c2 => ?_)
      · have hf := sp1 c2 hf
        refine lv_iinc (v := (x4 + 1)) (lv' := [(4, .int (x4 + 1)), (6, .int y0), (0, .ref (ad 0)), (1, .int x1), (2, .int x2), (3, .int x3), (5, .int x5)]) hx hb dX10_lowerHull_157 hl (k := 5) rfl rfl (by decide) rfl (fun ls hl => ?_)
        refine lv_goto (tgt := 24) hx hb dX10_lowerHull_160 (by decide) ?_
        exact hk_24 x1 x2 x3 (x4 + 1) S _ _ _ (lv_sub hl [2, 3, 4, 5, 0] rfl) hP hS hf
      · have hf := sp0 c2 hf
        refine lv_iload hx hb dX10_lowerHull_154 (lv_at hl 5 rfl) ?_
        refine lv_istore_n (lv' := [(3, .int x4), (6, .int y0), (0, .ref (ad 0)), (1, .int x1), (2, .int x2), (4, .int x4), (5, .int x5)]) hx hb dX10_lowerHull_156 rfl hl (by decide) rfl (fun ls hl => ?_)
        refine lv_iinc (v := (x4 + 1)) (lv' := [(4, .int (x4 + 1)), (3, .int x4), (6, .int y0), (0, .ref (ad 0)), (1, .int x1), (2, .int x2), (5, .int x5)]) hx hb dX10_lowerHull_157 hl (k := 5) rfl rfl (by decide) rfl (fun ls hl => ?_)
        refine lv_goto (tgt := 24) hx hb dX10_lowerHull_160 (by decide) ?_
        exact hk_24 x1 x2 x4 (x4 + 1) S _ _ _ (lv_sub hl [3, 4, 5, 1, 0] rfl) hP hS hf
  have w_24 : ∀ (k_7 : Int32 → Int32 → St → Option St) (hk_7 : ∀ (x1 : Int32) (x2 : Int32) (S : St), ∀ (H : Heap) (locs : List Loc) (ls : Array Slot), lv_has ls 7 [(0, .ref (ad 0)), (1, .int x1), (2, .int x2)] → va_P D vwCl (cellsM ct ad S) H → va_S F s.heap H locs → k_7 x1 x2 S = some S' → W p l e rm_X10_lowerHull s m args below meth c H locs 0 0 Q (F0 m 7 ls [])), ∀ (x1 : Int32) (x2 : Int32) (x3 : Int32) (x4 : Int32) (S : St), ∀ (H : Heap) (locs : List Loc) (ls : Array Slot), lv_has ls 7 [(0, .ref (ad 0)), (1, .int x1), (2, .int x2), (3, .int x3), (4, .int x4)] → va_P D vwCl (cellsM ct ad S) H → va_S F s.heap H locs → n_X10_lowerHull_24 k_7 x1 x2 x3 x4 S = some S' → W p l e rm_X10_lowerHull s m args below meth c H locs 0 0 Q (F0 m 24 ls []) := by
    intro k_7 hk_7
    have aux : ∀ (n : Nat), ∀ (x1 : Int32) (x2 : Int32) (x3 : Int32) (x4 : Int32) (S : St), ∀ (H : Heap) (locs : List Loc) (ls : Array Slot), lv_has ls 7 [(0, .ref (ad 0)), (1, .int x1), (2, .int x2), (3, .int x3), (4, .int x4)] → va_P D vwCl (cellsM ct ad S) H → va_S F s.heap H locs → itr (fun (q : Int32 × Int32 × Int32 × Int32 × St) k => s_X10_lowerHull_24 k_7 (fun (x1 : Int32) (x2 : Int32) (x3 : Int32) (x4 : Int32) (S : St) => k (x1, x2, x3, x4, S)) q.1 q.2.1 q.2.2.1 q.2.2.2.1 q.2.2.2.2) n (x1, x2, x3, x4, S) = some S' → W p l e rm_X10_lowerHull s m args below meth c H locs 0 0 Q (F0 m 24 ls []) := by
      intro n
      induction n with
      | zero => intro x1 x2 x3 x4 S H locs ls hl hP hS hf; exact (itr_z hf).elim
      | succ n ih =>
      intro x1 x2 x3 x4 S H locs ls hl hP hS hf
      have hk_24 := ih
      have hf : s_X10_lowerHull_24 k_7 (fun (x1 : Int32) (x2 : Int32) (x3 : Int32) (x4 : Int32) (S : St) => itr (fun (q : Int32 × Int32 × Int32 × Int32 × St) k => s_X10_lowerHull_24 k_7 (fun (x1 : Int32) (x2 : Int32) (x3 : Int32) (x4 : Int32) (S : St) => k (x1, x2, x3, x4, S)) q.1 q.2.1 q.2.2.1 q.2.2.2.1 q.2.2.2.2) n (x1, x2, x3, x4, S)) x1 x2 x3 x4 S = some S' := hf
      refine lv_iload hx hb dX10_lowerHull_24 (lv_at hl 4 rfl) ?_
      refine lv_aload_n hx hb dX10_lowerHull_26 rfl (lv_at hl 0 rfl) ?_
      refine gf_X10_12 C hK hP mw_5_174 dX10_lowerHull_27 ?_
      refine lv_iload_n hx hb dX10_lowerHull_30 rfl (lv_at hl 1 rfl) ?_
      obtain ⟨c3, hf⟩ := spn hf
      refine al_M13 C hK hP c3 dX10_lowerHull_31 ?_
      refine lv_icmp_gt (tgt := 163) hx hb dX10_lowerHull_32 (by decide) (fun c4 => ?_) (fun c4 => ?_)
      · have hf := sp1 c4 hf
        refine lv_aload_n hx hb dX10_lowerHull_163 rfl (lv_at hl 0 rfl) ?_
        refine gf_X10_15 C hK hP mw_5_177 dX10_lowerHull_164 ?_
        refine lv_aload_n hx hb dX10_lowerHull_167 rfl (lv_at hl 0 rfl) ?_
        refine gf_X10_25 C hK hP mw_5_187 dX10_lowerHull_168 ?_
        refine lv_iload_n hx hb dX10_lowerHull_171 rfl (lv_at hl 2 rfl) ?_
        obtain ⟨c5, hf⟩ := spn hf
        refine as_M16 C hK hP hG hS c5 dX10_lowerHull_172 (fun H locs hP hS => ?_)
        refine lv_aload_n hx hb dX10_lowerHull_173 rfl (lv_at hl 0 rfl) ?_
        refine gf_X10_16 C hK hP mw_5_178 dX10_lowerHull_174 ?_
        refine lv_aload_n hx hb dX10_lowerHull_177 rfl (lv_at hl 0 rfl) ?_
        refine gf_X10_25 C hK hP mw_5_187 dX10_lowerHull_178 ?_
        refine lv_iload_n hx hb dX10_lowerHull_181 rfl (lv_at hl 3 rfl) ?_
        obtain ⟨c6, hf⟩ := spn hf
        refine as_M17 C hK hP hG hS c6 dX10_lowerHull_182 (fun H locs hP hS => ?_)
        refine lv_aload_n hx hb dX10_lowerHull_183 rfl (lv_at hl 0 rfl) ?_
        refine lv_dup hx hb dX10_lowerHull_184 rfl ?_
        refine gf_X10_25 C hK hP mw_5_187 dX10_lowerHull_185 ?_
        refine lv_iconst (v := 1) hx hb dX10_lowerHull_188 (by decide) ?_
        refine lv_iadd hx hb dX10_lowerHull_189 ?_
        refine pf_X10_25 C hK hP hG hS mw_5_187 dX10_lowerHull_190 (fun H locs hP hS => ?_)
        refine lv_iload_n hx hb dX10_lowerHull_193 rfl (lv_at hl 3 rfl) ?_
        refine lv_istore_n (lv' := [(2, .int x3), (0, .ref (ad 0)), (1, .int x1), (3, .int x3), (4, .int x4)]) hx hb dX10_lowerHull_194 rfl hl (by decide) rfl (fun ls hl => ?_)
        refine lv_goto (tgt := 7) hx hb dX10_lowerHull_195 (by decide) ?_
        exact hk_7 x1 x3 (wI (wI (wI S 16 (Int32.toNatClampNeg (S.1 0 25)) x2) 17 (Int32.toNatClampNeg ((wI S 16 (Int32.toNatClampNeg (S.1 0 25)) x2).1 0 25)) x3) 0 25 (((wI (wI S 16 (Int32.toNatClampNeg (S.1 0 25)) x2) 17 (Int32.toNatClampNeg ((wI S 16 (Int32.toNatClampNeg (S.1 0 25)) x2).1 0 25)) x3).1 0 25) + 1)) _ _ _ (lv_sub hl [1, 2, 0] rfl) hP hS hf
      · have hf := sp0 c4 hf
        refine lv_aload_n hx hb dX10_lowerHull_35 rfl (lv_at hl 0 rfl) ?_
        refine gf_X10_11 C hK hP mw_5_173 dX10_lowerHull_36 ?_
        refine lv_bipush (v := 7) hx hb dX10_lowerHull_39 (by decide) ?_
        refine lv_iload_n hx hb dX10_lowerHull_41 rfl (lv_at hl 1 rfl) ?_
        refine lv_imul hx hb dX10_lowerHull_42 ?_
        refine lv_iload hx hb dX10_lowerHull_43 (lv_at hl 4 rfl) ?_
        refine lv_iadd hx hb dX10_lowerHull_45 ?_
        obtain ⟨c7, hf⟩ := spn hf
        refine al_M12 C hK hP c7 dX10_lowerHull_46 ?_
        refine lv_if_ne (tgt := 53) hx hb dX10_lowerHull_47 (by decide) (fun c8 => ?_) (fun c8 => ?_)
        · have hf := sp0 c8 hf
          refine lv_aload_n hx hb dX10_lowerHull_53 rfl (lv_at hl 0 rfl) ?_
          refine lv_aload_n hx hb dX10_lowerHull_54 rfl (lv_at hl 0 rfl) ?_
          refine gf_X10_11 C hK hP mw_5_173 dX10_lowerHull_55 ?_
          refine lv_bipush (v := 7) hx hb dX10_lowerHull_58 (by decide) ?_
          refine lv_iload_n hx hb dX10_lowerHull_60 rfl (lv_at hl 1 rfl) ?_
          refine lv_imul hx hb dX10_lowerHull_61 ?_
          refine lv_iload hx hb dX10_lowerHull_62 (lv_at hl 4 rfl) ?_
          refine lv_iadd hx hb dX10_lowerHull_64 ?_
          obtain ⟨c9, hf⟩ := spn hf
          refine al_M12 C hK hP c9 dX10_lowerHull_65 ?_
          refine lv_i2l hx hb dX10_lowerHull_66 rfl ?_
          obtain ⟨v11, h10, hf⟩ := b1_some hf
          refine hc_V (As := [.long (Int32.toInt64 (S.1 12 (Int32.toNatClampNeg ((7 * x1) + x4))))]) (rest := []) C hK (c_X10_valuationOf l D ct ad F hG (Int32.toInt64 (S.1 12 (Int32.toNatClampNeg ((7 * x1) + x4)))) S  v11 h10) hl.1 cp_X10_valuationOf mw_6_58 (rc_X10 hK hP) hP hS ⟨rfl, rfl⟩ ⟨Nat.le_of_ble_eq_true rfl, Nat.le_of_ble_eq_true rfl⟩ rfl rfl (Nat.le_of_ble_eq_true rfl) dX10_lowerHull_67 ⟨Nat.le_of_ble_eq_true rfl, Nat.le_of_ble_eq_true rfl⟩ (fun H locs hP hS => ?_)
          refine lv_aload_n hx hb dX10_lowerHull_70 rfl (lv_at hl 0 rfl) ?_
          refine lv_aload_n hx hb dX10_lowerHull_71 rfl (lv_at hl 0 rfl) ?_
          refine gf_X10_11 C hK hP mw_5_173 dX10_lowerHull_72 ?_
          refine lv_bipush (v := 7) hx hb dX10_lowerHull_75 (by decide) ?_
          refine lv_iload_n hx hb dX10_lowerHull_77 rfl (lv_at hl 1 rfl) ?_
          refine lv_imul hx hb dX10_lowerHull_78 ?_
          refine lv_iload_n hx hb dX10_lowerHull_79 rfl (lv_at hl 2 rfl) ?_
          refine lv_iadd hx hb dX10_lowerHull_80 ?_
          obtain ⟨c12, hf⟩ := spn hf
          refine al_M12 C hK hP c12 dX10_lowerHull_81 ?_
          refine lv_i2l hx hb dX10_lowerHull_82 rfl ?_
          obtain ⟨v14, h13, hf⟩ := b1_some hf
          refine hc_V (As := [.long (Int32.toInt64 (S.1 12 (Int32.toNatClampNeg ((7 * x1) + x2))))]) (rest := [.int v11]) C hK (c_X10_valuationOf l D ct ad F hG (Int32.toInt64 (S.1 12 (Int32.toNatClampNeg ((7 * x1) + x2)))) S  v14 h13) hl.1 cp_X10_valuationOf mw_6_58 (rc_X10 hK hP) hP hS ⟨rfl, rfl⟩ ⟨Nat.le_of_ble_eq_true rfl, Nat.le_of_ble_eq_true rfl⟩ rfl rfl (Nat.le_of_ble_eq_true rfl) dX10_lowerHull_83 ⟨Nat.le_of_ble_eq_true rfl, Nat.le_of_ble_eq_true rfl⟩ (fun H locs hP hS => ?_)
          refine lv_isub hx hb dX10_lowerHull_86 ?_
          refine lv_istore (lv' := [(5, .int (v11 - v14)), (0, .ref (ad 0)), (1, .int x1), (2, .int x2), (3, .int x3), (4, .int x4)]) hx hb dX10_lowerHull_87 hl (by decide) rfl (fun ls hl => ?_)
          refine lv_iload_n hx hb dX10_lowerHull_89 rfl (lv_at hl 4 rfl) ?_
          refine lv_iconst (v := (-1)) hx hb dX10_lowerHull_90 (by decide) ?_
          refine lv_icmp_ne (tgt := 98) hx hb dX10_lowerHull_91 (by decide) (fun c15 => ?_) (fun c15 => ?_)
          · have hf := sp0 c15 hf
            refine lv_aload_n hx hb dX10_lowerHull_98 rfl (lv_at hl 1 rfl) ?_
            refine lv_aload_n hx hb dX10_lowerHull_99 rfl (lv_at hl 1 rfl) ?_
            refine gf_X10_11 C hK hP mw_5_173 dX10_lowerHull_100 ?_
            refine lv_bipush (v := 7) hx hb dX10_lowerHull_103 (by decide) ?_
            refine lv_iload_n hx hb dX10_lowerHull_105 rfl (lv_at hl 2 rfl) ?_
            refine lv_imul hx hb dX10_lowerHull_106 ?_
            refine lv_iload_n hx hb dX10_lowerHull_107 rfl (lv_at hl 4 rfl) ?_
            refine lv_iadd hx hb dX10_lowerHull_108 ?_
            obtain ⟨c16, hf⟩ := spn hf
            refine al_M12 C hK hP c16 dX10_lowerHull_109 ?_
            refine lv_i2l hx hb dX10_lowerHull_110 rfl ?_
            obtain ⟨v18, h17, hf⟩ := b1_some hf
            refine hc_V (As := [.long (Int32.toInt64 (S.1 12 (Int32.toNatClampNeg ((7 * x1) + x3))))]) (rest := []) C hK (c_X10_valuationOf l D ct ad F hG (Int32.toInt64 (S.1 12 (Int32.toNatClampNeg ((7 * x1) + x3)))) S  v18 h17) hl.1 cp_X10_valuationOf mw_6_58 (rc_X10 hK hP) hP hS ⟨rfl, rfl⟩ ⟨Nat.le_of_ble_eq_true rfl, Nat.le_of_ble_eq_true rfl⟩ rfl rfl (Nat.le_of_ble_eq_true rfl) dX10_lowerHull_111 ⟨Nat.le_of_ble_eq_true rfl, Nat.le_of_ble_eq_true rfl⟩ (fun H locs hP hS => ?_)
            refine lv_aload_n hx hb dX10_lowerHull_114 rfl (lv_at hl 1 rfl) ?_
            refine lv_aload_n hx hb dX10_lowerHull_115 rfl (lv_at hl 1 rfl) ?_
            refine gf_X10_11 C hK hP mw_5_173 dX10_lowerHull_116 ?_
            refine lv_bipush (v := 7) hx hb dX10_lowerHull_119 (by decide) ?_
            refine lv_iload_n hx hb dX10_lowerHull_121 rfl (lv_at hl 2 rfl) ?_
            refine lv_imul hx hb dX10_lowerHull_122 ?_
            refine lv_iload_n hx hb dX10_lowerHull_123 rfl (lv_at hl 3 rfl) ?_
            refine lv_iadd hx hb dX10_lowerHull_124 ?_
            obtain ⟨c19, hf⟩ := spn hf
            refine al_M12 C hK hP c19 dX10_lowerHull_125 ?_
            refine lv_i2l hx hb dX10_lowerHull_126 rfl ?_
            obtain ⟨v21, h20, hf⟩ := b1_some hf
            refine hc_V (As := [.long (Int32.toInt64 (S.1 12 (Int32.toNatClampNeg ((7 * x1) + x2))))]) (rest := [.int v18]) C hK (c_X10_valuationOf l D ct ad F hG (Int32.toInt64 (S.1 12 (Int32.toNatClampNeg ((7 * x1) + x2)))) S  v21 h20) hl.1 cp_X10_valuationOf mw_6_58 (rc_X10 hK hP) hP hS ⟨rfl, rfl⟩ ⟨Nat.le_of_ble_eq_true rfl, Nat.le_of_ble_eq_true rfl⟩ rfl rfl (Nat.le_of_ble_eq_true rfl) dX10_lowerHull_127 ⟨Nat.le_of_ble_eq_true rfl, Nat.le_of_ble_eq_true rfl⟩ (fun H locs hP hS => ?_)
            refine lv_isub hx hb dX10_lowerHull_130 ?_
            exact w_131 _ hk_7 _ hk_24 x1 x2 x3 x4 (v11 - v14) (v18 - v21) S _ _ _ (lv_sub hl [1, 2, 3, 4, 5, 0] rfl) hP hS hf
          · have hf := sp1 c15 hf
            refine lv_iconst (v := 0) hx hb dX10_lowerHull_94 (by decide) ?_
            refine lv_goto (tgt := 131) hx hb dX10_lowerHull_95 (by decide) ?_
            exact w_131 _ hk_7 _ hk_24 x1 x2 x3 x4 (v11 - v14) 0 S _ _ _ (lv_sub hl [1, 2, 3, 4, 5, 0] rfl) hP hS hf
        · have hf := sp1 c8 hf
          refine lv_goto (tgt := 157) hx hb dX10_lowerHull_50 (by decide) ?_
          refine lv_iinc (v := (x4 + 1)) (lv' := [(4, .int (x4 + 1)), (0, .ref (ad 0)), (1, .int x1), (2, .int x2), (3, .int x3)]) hx hb dX10_lowerHull_157 hl (k := 4) rfl rfl (by decide) rfl (fun ls hl => ?_)
          refine lv_goto (tgt := 24) hx hb dX10_lowerHull_160 (by decide) ?_
          exact hk_24 x1 x2 x3 (x4 + 1) S _ _ _ (lv_sub hl [1, 2, 3, 4, 0] rfl) hP hS hf
    exact aux FU
  have w_7 : ∀ (x1 : Int32) (x2 : Int32) (S : St), ∀ (H : Heap) (locs : List Loc) (ls : Array Slot), lv_has ls 7 [(0, .ref (ad 0)), (1, .int x1), (2, .int x2)] → va_P D vwCl (cellsM ct ad S) H → va_S F s.heap H locs → n_X10_lowerHull_7 x1 x2 S = some S' → W p l e rm_X10_lowerHull s m args below meth c H locs 0 0 Q (F0 m 7 ls []) := by
    have aux : ∀ (n : Nat), ∀ (x1 : Int32) (x2 : Int32) (S : St), ∀ (H : Heap) (locs : List Loc) (ls : Array Slot), lv_has ls 7 [(0, .ref (ad 0)), (1, .int x1), (2, .int x2)] → va_P D vwCl (cellsM ct ad S) H → va_S F s.heap H locs → itr (fun (q : Int32 × Int32 × St) k => s_X10_lowerHull_7  (fun (x1 : Int32) (x2 : Int32) (S : St) => k (x1, x2, S)) q.1 q.2.1 q.2.2) n (x1, x2, S) = some S' → W p l e rm_X10_lowerHull s m args below meth c H locs 0 0 Q (F0 m 7 ls []) := by
      intro n
      induction n with
      | zero => intro x1 x2 S H locs ls hl hP hS hf; exact (itr_z hf).elim
      | succ n ih =>
      intro x1 x2 S H locs ls hl hP hS hf
      have hk_7 := ih
      have hf : s_X10_lowerHull_7  (fun (x1 : Int32) (x2 : Int32) (S : St) => itr (fun (q : Int32 × Int32 × St) k => s_X10_lowerHull_7  (fun (x1 : Int32) (x2 : Int32) (S : St) => k (x1, x2, S)) q.1 q.2.1 q.2.2) n (x1, x2, S)) x1 x2 S = some S' := hf
      refine lv_iload_n hx hb dX10_lowerHull_7 rfl (lv_at hl 2 rfl) ?_
      refine lv_aload_n hx hb dX10_lowerHull_8 rfl (lv_at hl 0 rfl) ?_
      refine gf_X10_12 C hK hP mw_5_174 dX10_lowerHull_9 ?_
      refine lv_iload_n hx hb dX10_lowerHull_12 rfl (lv_at hl 1 rfl) ?_
      obtain ⟨c22, hf⟩ := spn hf
      refine al_M13 C hK hP c22 dX10_lowerHull_13 ?_
      refine lv_icmp_ge (tgt := 198) hx hb dX10_lowerHull_14 (by decide) (fun c23 => ?_) (fun c23 => ?_)
      · have hf := sp1 c23 hf
        cases hf
        subst hQ
        exact he_v C hP hS dX10_lowerHull_198
      · have hf := sp0 c23 hf
        refine lv_iconst (v := (-1)) hx hb dX10_lowerHull_17 (by decide) ?_
        refine lv_istore_n (lv' := [(3, .int (-1)), (0, .ref (ad 0)), (1, .int x1), (2, .int x2)]) hx hb dX10_lowerHull_18 rfl hl (by decide) rfl (fun ls hl => ?_)
        refine lv_iload_n hx hb dX10_lowerHull_19 rfl (lv_at hl 3 rfl) ?_
        refine lv_iconst (v := 1) hx hb dX10_lowerHull_20 (by decide) ?_
        refine lv_iadd hx hb dX10_lowerHull_21 ?_
        refine lv_istore (lv' := [(4, .int (x2 + 1)), (3, .int (-1)), (0, .ref (ad 0)), (1, .int x1), (2, .int x2)]) hx hb dX10_lowerHull_22 hl (by decide) rfl (fun ls hl => ?_)
        exact w_24 _ hk_7 x1 x2 (-1) (x2 + 1) S _ _ _ (lv_sub hl [2, 3, 4, 1, 0] rfl) hP hS hf
    exact aux FU
  refine lv_iconst (v := 0) hx hb dX10_lowerHull_0 (by decide) ?_
  refine lv_istore_n (lv' := [(2, .int 0), (0, .ref (ad 0)), (1, .int p0)]) hx hb dX10_lowerHull_1 rfl hl (by decide) rfl (fun ls hl => ?_)
  refine lv_aload_n hx hb dX10_lowerHull_2 rfl (lv_at hl 1 rfl) ?_
  refine lv_iconst (v := 0) hx hb dX10_lowerHull_3 (by decide) ?_
  refine pf_X10_25 C hK hP hG hS mw_5_187 dX10_lowerHull_4 (fun H locs hP hS => ?_)
  exact w_7 p0 0 (wI S0 0 25 0) _ _ _ (lv_sub hl [1, 2, 0] rfl) hP hS hf
theorem cp_X10_lowerHull : CPv yX10_lowerHull cX10_lowerHull 7 none 1 := ⟨mw_7_7, mw_1_9, mw_7_6, ms_62, by decide +kernel⟩
def rm_X10_sides : Room := { frames := 2, cells := 0, slots := 0, locals := 59 }
set_option maxHeartbeats 4000000 in
set_option maxRecDepth 100000 in
theorem c_X10_sides (l : Launch) (D : va_G) (ct : Nat → ClassId) (ad : Nat → Nat) (F : Nat → Prop) (hG : Gd ad 18 F) (p0 : Int32) (S0 : St)  (r : Int32) (S' : St) (hf : f_X10_sides p0 S0 = some (r, S')) : MetH l yX10_sides cX10_sides 2 (some .int) rm_X10_sides D (tysW ct) F [.ref (ad 0), .int p0] (some (.int r)) (cellsM ct ad S0) (cellsM ct ad S') := by
  refine MetH.of RX10 (by decide) rfl (Nat.le_of_ble_eq_true rfl) ?_
  intro p e s m args below meth c C hK hP ls hl
  have hl : lv_has ls 2 [(0, .ref (ad 0)), (1, .int p0)] := hl
  obtain ⟨hx, hb, hr, hml, hown, htL, hlocks⟩ := id C
  have hS : va_S F s.heap s.heap [] := va_S.rf
  generalize hQ : MQ below (Hq D (cellsM ct ad S') F (some (.int r))) args s 0 0 F = Q
  refine lv_aload_n hx hb dX10_sides_0 rfl (lv_at hl 0 rfl) ?_
  refine lv_iload_n hx hb dX10_sides_1 rfl (lv_at hl 1 rfl) ?_
  obtain ⟨v2, S3, h1, hf⟩ := b2_some hf
  refine hc_V (As := [.int p0]) (rest := []) C hK (c_X10_noPolynomial l D ct ad F hG p0 S0  v2 S3 h1) hl.1 cp_X10_noPolynomial mw_6_235 (rc_X10 hK hP) hP hS ⟨rfl, rfl⟩ ⟨Nat.le_of_ble_eq_true rfl, Nat.le_of_ble_eq_true rfl⟩ rfl rfl (Nat.le_of_ble_eq_true rfl) dX10_sides_2 ⟨Nat.le_of_ble_eq_true rfl, Nat.le_of_ble_eq_true rfl⟩ (fun H locs hP hS => ?_)
  refine lv_if_eq (tgt := 10) hx hb dX10_sides_5 (by decide) (fun c4 => ?_) (fun c4 => ?_)
  · have hf := sp1 c4 hf
    refine lv_aload_n hx hb dX10_sides_10 rfl (lv_at hl 0 rfl) ?_
    refine lv_iload_n hx hb dX10_sides_11 rfl (lv_at hl 1 rfl) ?_
    obtain ⟨S6, h5, hf⟩ := b1_some hf
    refine hc_V (As := [.int p0]) (rest := []) C hK (c_X10_lowerHull l D ct ad F hG p0 S3  S6 h5) hl.1 cp_X10_lowerHull mw_7_4 (rc_X10 hK hP) hP hS ⟨rfl, rfl⟩ ⟨Nat.le_of_ble_eq_true rfl, Nat.le_of_ble_eq_true rfl⟩ rfl rfl (Nat.le_of_ble_eq_true rfl) dX10_sides_12 ⟨Nat.le_of_ble_eq_true rfl, Nat.le_of_ble_eq_true rfl⟩ (fun H locs hP hS => ?_)
    refine lv_aload_n hx hb dX10_sides_15 rfl (lv_at hl 0 rfl) ?_
    refine gf_X10_25 C hK hP mw_5_187 dX10_sides_16 ?_
    cases hf
    subst hQ
    exact he_i C hP hS dX10_sides_19
  · have hf := sp0 c4 hf
    refine lv_iconst (v := 0) hx hb dX10_sides_8 (by decide) ?_
    cases hf
    subst hQ
    exact he_i C hP hS dX10_sides_9
theorem cp_X10_sides : CPv yX10_sides cX10_sides 2 (some .int) 1 := ⟨mw_7_3, mw_1_9, mw_7_1, mw_7_2, by decide +kernel⟩
def rm_X10_noSide : Room := { frames := 2, cells := 0, slots := 0, locals := 59 }
set_option maxHeartbeats 4000000 in
set_option maxRecDepth 100000 in
theorem c_X10_noSide (l : Launch) (D : va_G) (ct : Nat → ClassId) (ad : Nat → Nat) (F : Nat → Prop) (hG : Gd ad 18 F) (p0 : Int32) (p1 : Int32) (S0 : St)  (r : Int32) (S' : St) (hf : f_X10_noSide p0 p1 S0 = some (r, S')) : MetH l yX10_noSide cX10_noSide 3 (some .boolean) rm_X10_noSide D (tysW ct) F [.ref (ad 0), .int p0, .int p1] (some (.int r)) (cellsM ct ad S0) (cellsM ct ad S') := by
  refine MetH.of RX10 (by decide) rfl (Nat.le_of_ble_eq_true rfl) ?_
  intro p e s m args below meth c C hK hP ls hl
  have hl : lv_has ls 3 [(0, .ref (ad 0)), (1, .int p0), (2, .int p1)] := hl
  obtain ⟨hx, hb, hr, hml, hown, htL, hlocks⟩ := id C
  have hS : va_S F s.heap s.heap [] := va_S.rf
  generalize hQ : MQ below (Hq D (cellsM ct ad S') F (some (.int r))) args s 0 0 F = Q
  refine lv_aload_n hx hb dX10_noSide_0 rfl (lv_at hl 0 rfl) ?_
  refine lv_iload_n hx hb dX10_noSide_1 rfl (lv_at hl 1 rfl) ?_
  obtain ⟨v2, S3, h1, hf⟩ := b2_some hf
  refine hc_V (As := [.int p0]) (rest := []) C hK (c_X10_noPolynomial l D ct ad F hG p0 S0  v2 S3 h1) hl.1 cp_X10_noPolynomial mw_6_235 (rc_X10 hK hP) hP hS ⟨rfl, rfl⟩ ⟨Nat.le_of_ble_eq_true rfl, Nat.le_of_ble_eq_true rfl⟩ rfl rfl (Nat.le_of_ble_eq_true rfl) dX10_noSide_2 ⟨Nat.le_of_ble_eq_true rfl, Nat.le_of_ble_eq_true rfl⟩ (fun H locs hP hS => ?_)
  refine lv_if_eq (tgt := 10) hx hb dX10_noSide_5 (by decide) (fun c4 => ?_) (fun c4 => ?_)
  · have hf := sp1 c4 hf
    refine lv_aload_n hx hb dX10_noSide_10 rfl (lv_at hl 0 rfl) ?_
    refine lv_iload_n hx hb dX10_noSide_11 rfl (lv_at hl 1 rfl) ?_
    obtain ⟨S6, h5, hf⟩ := b1_some hf
    refine hc_V (As := [.int p0]) (rest := []) C hK (c_X10_lowerHull l D ct ad F hG p0 S3  S6 h5) hl.1 cp_X10_lowerHull mw_7_4 (rc_X10 hK hP) hP hS ⟨rfl, rfl⟩ ⟨Nat.le_of_ble_eq_true rfl, Nat.le_of_ble_eq_true rfl⟩ rfl rfl (Nat.le_of_ble_eq_true rfl) dX10_noSide_12 ⟨Nat.le_of_ble_eq_true rfl, Nat.le_of_ble_eq_true rfl⟩ (fun H locs hP hS => ?_)
    refine lv_aload_n hx hb dX10_noSide_15 rfl (lv_at hl 0 rfl) ?_
    refine lv_iload_n hx hb dX10_noSide_16 rfl (lv_at hl 2 rfl) ?_
    refine lv_i2l hx hb dX10_noSide_17 rfl ?_
    refine lv_lconst (v := 0) hx hb dX10_noSide_18 (by decide) ?_
    refine lv_aload_n hx hb dX10_noSide_19 rfl (lv_at hl 0 rfl) ?_
    refine gf_X10_25 C hK hP mw_5_187 dX10_noSide_20 ?_
    refine lv_iconst (v := 1) hx hb dX10_noSide_23 (by decide) ?_
    refine lv_isub hx hb dX10_noSide_24 ?_
    refine lv_i2l hx hb dX10_noSide_25 rfl ?_
    obtain ⟨v7, h8, hf⟩ := b1_some hf
    refine pc_S (As := [.long (Int32.toInt64 p1), .long 0, .long (Int32.toInt64 ((S6.1 0 25) - 1))]) (rest := [.ref (ad 0)]) C (c_X10_isIn l (Int32.toInt64 p1) 0 (Int32.toInt64 ((S6.1 0 25) - 1)) v7 h8) hl.1 cp_X10_isIn mw_6_15 ⟨rfl, rfl⟩ ⟨Nat.le_of_ble_eq_true rfl, Nat.le_of_ble_eq_true rfl⟩ rfl rfl (Nat.le_of_ble_eq_true rfl) dX10_noSide_26 ⟨Nat.le_of_ble_eq_true rfl, Nat.le_of_ble_eq_true rfl⟩ ?_
    refine lv_iconst (v := 1) hx hb dX10_noSide_29 (by decide) ?_
    obtain ⟨v10, S11, h9, hf⟩ := b2_some hf
    refine hc_V (As := [.int v7, .int 1]) (rest := []) C hK (c_X10_no l D ct ad F hG v7 1 S6  v10 S11 h9) hl.1 cp_X10_no mw_6_21 (rc_X10 hK hP) hP hS ⟨rfl, rfl⟩ ⟨Nat.le_of_ble_eq_true rfl, Nat.le_of_ble_eq_true rfl⟩ rfl rfl (Nat.le_of_ble_eq_true rfl) dX10_noSide_30 ⟨Nat.le_of_ble_eq_true rfl, Nat.le_of_ble_eq_true rfl⟩ (fun H locs hP hS => ?_)
    obtain ⟨c12, hf⟩ := spy hf
    cases hf
    subst hQ
    exact he_z C c12 hP hS dX10_noSide_33
  · have hf := sp0 c4 hf
    refine lv_iconst (v := 1) hx hb dX10_noSide_8 (by decide) ?_
    cases hf
    subst hQ
    exact he_z C (by decide) hP hS dX10_noSide_9
theorem cp_X10_noSide : CPv yX10_noSide cX10_noSide 3 (some .boolean) 2 := ⟨mw_7_15, mw_1_9, mw_7_14, ms_63, by decide +kernel⟩
def rm_X10_length : Room := { frames := 3, cells := 0, slots := 0, locals := 85 }
set_option maxHeartbeats 4000000 in
set_option maxRecDepth 100000 in
theorem c_X10_length (l : Launch) (D : va_G) (ct : Nat → ClassId) (ad : Nat → Nat) (F : Nat → Prop) (hG : Gd ad 18 F) (p0 : Int32) (p1 : Int32) (S0 : St)  (r : Int32) (S' : St) (hf : f_X10_length p0 p1 S0 = some (r, S')) : MetH l yX10_length cX10_length 3 (some .int) rm_X10_length D (tysW ct) F [.ref (ad 0), .int p0, .int p1] (some (.int r)) (cellsM ct ad S0) (cellsM ct ad S') := by
  refine MetH.of RX10 (by decide) rfl (Nat.le_of_ble_eq_true rfl) ?_
  intro p e s m args below meth c C hK hP ls hl
  have hl : lv_has ls 3 [(0, .ref (ad 0)), (1, .int p0), (2, .int p1)] := hl
  obtain ⟨hx, hb, hr, hml, hown, htL, hlocks⟩ := id C
  have hS : va_S F s.heap s.heap [] := va_S.rf
  generalize hQ : MQ below (Hq D (cellsM ct ad S') F (some (.int r))) args s 0 0 F = Q
  refine lv_aload_n hx hb dX10_length_0 rfl (lv_at hl 0 rfl) ?_
  refine lv_iload_n hx hb dX10_length_1 rfl (lv_at hl 1 rfl) ?_
  refine lv_iload_n hx hb dX10_length_2 rfl (lv_at hl 2 rfl) ?_
  obtain ⟨v2, S3, h1, hf⟩ := b2_some hf
  refine hc_V (As := [.int p0, .int p1]) (rest := []) C hK (c_X10_noSide l D ct ad F hG p0 p1 S0  v2 S3 h1) hl.1 cp_X10_noSide mw_7_12 (rc_X10 hK hP) hP hS ⟨rfl, rfl⟩ ⟨Nat.le_of_ble_eq_true rfl, Nat.le_of_ble_eq_true rfl⟩ rfl rfl (Nat.le_of_ble_eq_true rfl) dX10_length_3 ⟨Nat.le_of_ble_eq_true rfl, Nat.le_of_ble_eq_true rfl⟩ (fun H locs hP hS => ?_)
  refine lv_if_eq (tgt := 13) hx hb dX10_length_6 (by decide) (fun c4 => ?_) (fun c4 => ?_)
  · have hf := sp1 c4 hf
    refine lv_aload_n hx hb dX10_length_13 rfl (lv_at hl 0 rfl) ?_
    refine gf_X10_16 C hK hP mw_5_178 dX10_length_14 ?_
    refine lv_iload_n hx hb dX10_length_17 rfl (lv_at hl 2 rfl) ?_
    obtain ⟨c5, hf⟩ := spn hf
    refine al_M17 C hK hP c5 dX10_length_18 ?_
    refine lv_aload_n hx hb dX10_length_19 rfl (lv_at hl 0 rfl) ?_
    refine gf_X10_15 C hK hP mw_5_177 dX10_length_20 ?_
    refine lv_iload_n hx hb dX10_length_23 rfl (lv_at hl 2 rfl) ?_
    obtain ⟨c6, hf⟩ := spn hf
    refine al_M16 C hK hP c6 dX10_length_24 ?_
    refine lv_isub hx hb dX10_length_25 ?_
    cases hf
    subst hQ
    exact he_i C hP hS dX10_length_26
  · have hf := sp0 c4 hf
    refine lv_iconst (v := 0) hx hb dX10_length_9 (by decide) ?_
    refine lv_goto (tgt := 26) hx hb dX10_length_10 (by decide) ?_
    cases hf
    subst hQ
    exact he_i C hP hS dX10_length_26
theorem cp_X10_length : CPv yX10_length cX10_length 3 (some .int) 2 := ⟨mw_7_11, mw_1_9, mw_7_9, mw_7_10, by decide +kernel⟩
def rm_X10_slope : Room := { frames := 3, cells := 0, slots := 0, locals := 85 }
set_option maxHeartbeats 4000000 in
set_option maxRecDepth 100000 in
theorem c_X10_slope (l : Launch) (D : va_G) (ct : Nat → ClassId) (ad : Nat → Nat) (F : Nat → Prop) (hG : Gd ad 18 F) (p0 : Int32) (p1 : Int32) (S0 : St)  (r : Int32) (S' : St) (hf : f_X10_slope p0 p1 S0 = some (r, S')) : MetH l yX10_slope cX10_slope 6 (some .int) rm_X10_slope D (tysW ct) F [.ref (ad 0), .int p0, .int p1] (some (.int r)) (cellsM ct ad S0) (cellsM ct ad S') := by
  refine MetH.of RX10 (by decide) rfl (Nat.le_of_ble_eq_true rfl) ?_
  intro p e s m args below meth c C hK hP ls hl
  have hl : lv_has ls 6 [(0, .ref (ad 0)), (1, .int p0), (2, .int p1)] := hl
  obtain ⟨hx, hb, hr, hml, hown, htL, hlocks⟩ := id C
  have hS : va_S F s.heap s.heap [] := va_S.rf
  generalize hQ : MQ below (Hq D (cellsM ct ad S') F (some (.int r))) args s 0 0 F = Q
  refine lv_aload_n hx hb dX10_slope_0 rfl (lv_at hl 0 rfl) ?_
  refine lv_iload_n hx hb dX10_slope_1 rfl (lv_at hl 1 rfl) ?_
  refine lv_iload_n hx hb dX10_slope_2 rfl (lv_at hl 2 rfl) ?_
  obtain ⟨v2, S3, h1, hf⟩ := b2_some hf
  refine hc_V (As := [.int p0, .int p1]) (rest := []) C hK (c_X10_noSide l D ct ad F hG p0 p1 S0  v2 S3 h1) hl.1 cp_X10_noSide mw_7_12 (rc_X10 hK hP) hP hS ⟨rfl, rfl⟩ ⟨Nat.le_of_ble_eq_true rfl, Nat.le_of_ble_eq_true rfl⟩ rfl rfl (Nat.le_of_ble_eq_true rfl) dX10_slope_3 ⟨Nat.le_of_ble_eq_true rfl, Nat.le_of_ble_eq_true rfl⟩ (fun H locs hP hS => ?_)
  refine lv_if_eq (tgt := 11) hx hb dX10_slope_6 (by decide) (fun c4 => ?_) (fun c4 => ?_)
  · have hf := sp1 c4 hf
    refine lv_aload_n hx hb dX10_slope_11 rfl (lv_at hl 0 rfl) ?_
    refine gf_X10_16 C hK hP mw_5_178 dX10_slope_12 ?_
    refine lv_iload_n hx hb dX10_slope_15 rfl (lv_at hl 2 rfl) ?_
    obtain ⟨c5, hf⟩ := spn hf
    refine al_M17 C hK hP c5 dX10_slope_16 ?_
    refine lv_aload_n hx hb dX10_slope_17 rfl (lv_at hl 0 rfl) ?_
    refine gf_X10_15 C hK hP mw_5_177 dX10_slope_18 ?_
    refine lv_iload_n hx hb dX10_slope_21 rfl (lv_at hl 2 rfl) ?_
    obtain ⟨c6, hf⟩ := spn hf
    refine al_M16 C hK hP c6 dX10_slope_22 ?_
    refine lv_isub hx hb dX10_slope_23 ?_
    refine lv_istore_n (lv' := [(3, .int ((S3.1 17 (Int32.toNatClampNeg p1)) - (S3.1 16 (Int32.toNatClampNeg p1)))), (0, .ref (ad 0)), (1, .int p0), (2, .int p1)]) hx hb dX10_slope_24 rfl hl (by decide) rfl (fun ls hl => ?_)
    refine lv_aload_n hx hb dX10_slope_25 rfl (lv_at hl 1 rfl) ?_
    refine lv_aload_n hx hb dX10_slope_26 rfl (lv_at hl 1 rfl) ?_
    refine gf_X10_11 C hK hP mw_5_173 dX10_slope_27 ?_
    refine lv_bipush (v := 7) hx hb dX10_slope_30 (by decide) ?_
    refine lv_iload_n hx hb dX10_slope_32 rfl (lv_at hl 2 rfl) ?_
    refine lv_imul hx hb dX10_slope_33 ?_
    refine lv_aload_n hx hb dX10_slope_34 rfl (lv_at hl 1 rfl) ?_
    refine gf_X10_16 C hK hP mw_5_178 dX10_slope_35 ?_
    refine lv_iload_n hx hb dX10_slope_38 rfl (lv_at hl 3 rfl) ?_
    obtain ⟨c7, hf⟩ := spn hf
    refine al_M17 C hK hP c7 dX10_slope_39 ?_
    refine lv_iadd hx hb dX10_slope_40 ?_
    obtain ⟨c8, hf⟩ := spn hf
    refine al_M12 C hK hP c8 dX10_slope_41 ?_
    refine lv_i2l hx hb dX10_slope_42 rfl ?_
    obtain ⟨v10, h9, hf⟩ := b1_some hf
    refine hc_V (As := [.long (Int32.toInt64 (S3.1 12 (Int32.toNatClampNeg ((7 * p0) + (S3.1 17 (Int32.toNatClampNeg p1))))))]) (rest := []) C hK (c_X10_valuationOf l D ct ad F hG (Int32.toInt64 (S3.1 12 (Int32.toNatClampNeg ((7 * p0) + (S3.1 17 (Int32.toNatClampNeg p1)))))) S3  v10 h9) hl.1 cp_X10_valuationOf mw_6_58 (rc_X10 hK hP) hP hS ⟨rfl, rfl⟩ ⟨Nat.le_of_ble_eq_true rfl, Nat.le_of_ble_eq_true rfl⟩ rfl rfl (Nat.le_of_ble_eq_true rfl) dX10_slope_43 ⟨Nat.le_of_ble_eq_true rfl, Nat.le_of_ble_eq_true rfl⟩ (fun H locs hP hS => ?_)
    refine lv_aload_n hx hb dX10_slope_46 rfl (lv_at hl 1 rfl) ?_
    refine lv_aload_n hx hb dX10_slope_47 rfl (lv_at hl 1 rfl) ?_
    refine gf_X10_11 C hK hP mw_5_173 dX10_slope_48 ?_
    refine lv_bipush (v := 7) hx hb dX10_slope_51 (by decide) ?_
    refine lv_iload_n hx hb dX10_slope_53 rfl (lv_at hl 2 rfl) ?_
    refine lv_imul hx hb dX10_slope_54 ?_
    refine lv_aload_n hx hb dX10_slope_55 rfl (lv_at hl 1 rfl) ?_
    refine gf_X10_15 C hK hP mw_5_177 dX10_slope_56 ?_
    refine lv_iload_n hx hb dX10_slope_59 rfl (lv_at hl 3 rfl) ?_
    obtain ⟨c11, hf⟩ := spn hf
    refine al_M16 C hK hP c11 dX10_slope_60 ?_
    refine lv_iadd hx hb dX10_slope_61 ?_
    obtain ⟨c12, hf⟩ := spn hf
    refine al_M12 C hK hP c12 dX10_slope_62 ?_
    refine lv_i2l hx hb dX10_slope_63 rfl ?_
    obtain ⟨v14, h13, hf⟩ := b1_some hf
    refine hc_V (As := [.long (Int32.toInt64 (S3.1 12 (Int32.toNatClampNeg ((7 * p0) + (S3.1 16 (Int32.toNatClampNeg p1))))))]) (rest := [.int v10]) C hK (c_X10_valuationOf l D ct ad F hG (Int32.toInt64 (S3.1 12 (Int32.toNatClampNeg ((7 * p0) + (S3.1 16 (Int32.toNatClampNeg p1)))))) S3  v14 h13) hl.1 cp_X10_valuationOf mw_6_58 (rc_X10 hK hP) hP hS ⟨rfl, rfl⟩ ⟨Nat.le_of_ble_eq_true rfl, Nat.le_of_ble_eq_true rfl⟩ rfl rfl (Nat.le_of_ble_eq_true rfl) dX10_slope_64 ⟨Nat.le_of_ble_eq_true rfl, Nat.le_of_ble_eq_true rfl⟩ (fun H locs hP hS => ?_)
    refine lv_isub hx hb dX10_slope_67 ?_
    refine lv_istore (lv' := [(4, .int (v10 - v14)), (3, .int ((S3.1 17 (Int32.toNatClampNeg p1)) - (S3.1 16 (Int32.toNatClampNeg p1)))), (0, .ref (ad 0)), (1, .int p0), (2, .int p1)]) hx hb dX10_slope_68 hl (by decide) rfl (fun ls hl => ?_)
    refine lv_iload hx hb dX10_slope_70 (lv_at hl 0 rfl) ?_
    refine lv_i2l hx hb dX10_slope_72 rfl ?_
    refine lv_iload_n hx hb dX10_slope_73 rfl (lv_at hl 1 rfl) ?_
    refine lv_i2l hx hb dX10_slope_74 rfl ?_
    obtain ⟨v15, h16, hf⟩ := b1_some hf
    refine pc_S (As := [.long (Int32.toInt64 (v10 - v14)), .long (Int32.toInt64 ((S3.1 17 (Int32.toNatClampNeg p1)) - (S3.1 16 (Int32.toNatClampNeg p1))))]) (rest := []) C (c_X10_common l (Int32.toInt64 (v10 - v14)) (Int32.toInt64 ((S3.1 17 (Int32.toNatClampNeg p1)) - (S3.1 16 (Int32.toNatClampNeg p1)))) v15 h16) hl.1 cp_X10_common mw_6_213 ⟨rfl, rfl⟩ ⟨Nat.le_of_ble_eq_true rfl, Nat.le_of_ble_eq_true rfl⟩ rfl rfl (Nat.le_of_ble_eq_true rfl) dX10_slope_75 ⟨Nat.le_of_ble_eq_true rfl, Nat.le_of_ble_eq_true rfl⟩ ?_
    refine lv_l2i hx hb dX10_slope_78 rfl ?_
    refine lv_istore (lv' := [(5, .int (Int64.toInt32 v15)), (4, .int (v10 - v14)), (3, .int ((S3.1 17 (Int32.toNatClampNeg p1)) - (S3.1 16 (Int32.toNatClampNeg p1)))), (0, .ref (ad 0)), (1, .int p0), (2, .int p1)]) hx hb dX10_slope_79 hl (by decide) rfl (fun ls hl => ?_)
    refine lv_bipush (v := 100) hx hb dX10_slope_81 (by decide) ?_
    refine lv_iload hx hb dX10_slope_83 (lv_at hl 1 rfl) ?_
    refine lv_iload hx hb dX10_slope_85 (lv_at hl 0 rfl) ?_
    obtain ⟨c17, hf⟩ := spn hf
    refine lv_idiv hx hb dX10_slope_87 c17 ?_
    refine lv_imul hx hb dX10_slope_88 ?_
    refine lv_iload_n hx hb dX10_slope_89 rfl (lv_at hl 2 rfl) ?_
    refine lv_iload hx hb dX10_slope_90 (lv_at hl 0 rfl) ?_
    obtain ⟨c18, hf⟩ := spn hf
    refine lv_idiv hx hb dX10_slope_92 c18 ?_
    refine lv_iadd hx hb dX10_slope_93 ?_
    cases hf
    subst hQ
    exact he_i C hP hS dX10_slope_94
  · have hf := sp0 c4 hf
    refine lv_iconst (v := 0) hx hb dX10_slope_9 (by decide) ?_
    cases hf
    subst hQ
    exact he_i C hP hS dX10_slope_10
theorem cp_X10_slope : CPv yX10_slope cX10_slope 6 (some .int) 2 := ⟨mw_7_19, mw_1_9, mw_7_17, mw_7_18, by decide +kernel⟩
def rm_X10_keeps : Room := { frames := 1, cells := 0, slots := 0, locals := 40 }
set_option maxHeartbeats 4000000 in
set_option maxRecDepth 100000 in
theorem c_X10_keeps (l : Launch) (D : va_G) (ct : Nat → ClassId) (ad : Nat → Nat) (F : Nat → Prop) (hG : Gd ad 18 F) (p0 : Int32) (S0 : St)  (S' : St) (hf : f_X10_keeps p0 S0 = some S') : MetH l yX10_keeps cX10_keeps 3 none rm_X10_keeps D (tysW ct) F [.ref (ad 0), .int p0] none (cellsM ct ad S0) (cellsM ct ad S') := by
  refine MetH.of RX10 (by decide) rfl (Nat.le_of_ble_eq_true rfl) ?_
  intro p e s m args below meth c C hK hP ls hl
  have hl : lv_has ls 3 [(0, .ref (ad 0)), (1, .int p0)] := hl
  obtain ⟨hx, hb, hr, hml, hown, htL, hlocks⟩ := id C
  have hS : va_S F s.heap s.heap [] := va_S.rf
  generalize hQ : MQ below (Hq D (cellsM ct ad S') F none) args s 0 0 F = Q
  have w_2 : ∀ (x1 : Int32) (x2 : Int32) (S : St), ∀ (H : Heap) (locs : List Loc) (ls : Array Slot), lv_has ls 3 [(0, .ref (ad 0)), (1, .int x1), (2, .int x2)] → va_P D vwCl (cellsM ct ad S) H → va_S F s.heap H locs → n_X10_keeps_2 x1 x2 S = some S' → W p l e rm_X10_keeps s m args below meth c H locs 0 0 Q (F0 m 2 ls []) := by
    have aux : ∀ (n : Nat), ∀ (x1 : Int32) (x2 : Int32) (S : St), ∀ (H : Heap) (locs : List Loc) (ls : Array Slot), lv_has ls 3 [(0, .ref (ad 0)), (1, .int x1), (2, .int x2)] → va_P D vwCl (cellsM ct ad S) H → va_S F s.heap H locs → itr (fun (q : Int32 × Int32 × St) k => s_X10_keeps_2  (fun (x1 : Int32) (x2 : Int32) (S : St) => k (x1, x2, S)) q.1 q.2.1 q.2.2) n (x1, x2, S) = some S' → W p l e rm_X10_keeps s m args below meth c H locs 0 0 Q (F0 m 2 ls []) := by
      intro n
      induction n with
      | zero => intro x1 x2 S H locs ls hl hP hS hf; exact (itr_z hf).elim
      | succ n ih =>
      intro x1 x2 S H locs ls hl hP hS hf
      have hk_2 := ih
      have hf : s_X10_keeps_2  (fun (x1 : Int32) (x2 : Int32) (S : St) => itr (fun (q : Int32 × Int32 × St) k => s_X10_keeps_2  (fun (x1 : Int32) (x2 : Int32) (S : St) => k (x1, x2, S)) q.1 q.2.1 q.2.2) n (x1, x2, S)) x1 x2 S = some S' := hf
      refine lv_iload_n hx hb dX10_keeps_2 rfl (lv_at hl 2 rfl) ?_
      refine lv_bipush (v := 7) hx hb dX10_keeps_3 (by decide) ?_
      refine lv_icmp_ge (tgt := 44) hx hb dX10_keeps_5 (by decide) (fun c1 => ?_) (fun c1 => ?_)
      · have hf := sp1 c1 hf
        cases hf
        subst hQ
        exact he_v C hP hS dX10_keeps_44
      · have hf := sp0 c1 hf
        refine lv_aload_n hx hb dX10_keeps_8 rfl (lv_at hl 0 rfl) ?_
        refine gf_X10_10 C hK hP mw_5_172 dX10_keeps_9 ?_
        refine lv_bipush (v := 7) hx hb dX10_keeps_12 (by decide) ?_
        refine lv_bipush (v := 39) hx hb dX10_keeps_14 (by decide) ?_
        refine lv_aload_n hx hb dX10_keeps_16 rfl (lv_at hl 0 rfl) ?_
        refine gf_X10_19 C hK hP mw_5_181 dX10_keeps_17 ?_
        refine va_mmin (ls := _) hx hb (hml.trans hl.1.symm) hown (htL _ mw_6_62) (htL _ mw_2_60) (htL _ mw_1_17) (htL _ mw_2_61) (Nat.le_of_ble_eq_true rfl) (Nat.le_of_ble_eq_true rfl) (Nat.le_of_ble_eq_true rfl) (Nat.le_of_ble_eq_true rfl) dX10_keeps_20 ?_
        refine lv_imul hx hb dX10_keeps_23 ?_
        refine lv_iload_n hx hb dX10_keeps_24 rfl (lv_at hl 2 rfl) ?_
        refine lv_iadd hx hb dX10_keeps_25 ?_
        refine lv_aload_n hx hb dX10_keeps_26 rfl (lv_at hl 0 rfl) ?_
        refine gf_X10_11 C hK hP mw_5_173 dX10_keeps_27 ?_
        refine lv_bipush (v := 7) hx hb dX10_keeps_30 (by decide) ?_
        refine lv_iload_n hx hb dX10_keeps_32 rfl (lv_at hl 1 rfl) ?_
        refine lv_imul hx hb dX10_keeps_33 ?_
        refine lv_iload_n hx hb dX10_keeps_34 rfl (lv_at hl 2 rfl) ?_
        refine lv_iadd hx hb dX10_keeps_35 ?_
        obtain ⟨c2, hf⟩ := spn hf
        refine al_M12 C hK hP c2 dX10_keeps_36 ?_
        obtain ⟨c3, hf⟩ := spn hf
        refine as_M11 C hK hP hG hS c3 dX10_keeps_37 (fun H locs hP hS => ?_)
        refine lv_iinc (v := (x2 + 1)) (lv' := [(2, .int (x2 + 1)), (0, .ref (ad 0)), (1, .int x1)]) hx hb dX10_keeps_38 hl (k := 2) rfl rfl (by decide) rfl (fun ls hl => ?_)
        refine lv_goto (tgt := 2) hx hb dX10_keeps_41 (by decide) ?_
        exact hk_2 x1 (x2 + 1) (wI S 11 (Int32.toNatClampNeg ((7 * (mnI 39 (S.1 0 19))) + x2)) (S.1 12 (Int32.toNatClampNeg ((7 * x1) + x2)))) _ _ _ (lv_sub hl [1, 2, 0] rfl) hP hS hf
    exact aux FU
  refine lv_iconst (v := 0) hx hb dX10_keeps_0 (by decide) ?_
  refine lv_istore_n (lv' := [(2, .int 0), (0, .ref (ad 0)), (1, .int p0)]) hx hb dX10_keeps_1 rfl hl (by decide) rfl (fun ls hl => ?_)
  exact w_2 p0 0 S0 _ _ _ (lv_sub hl [1, 2, 0] rfl) hP hS hf
theorem cp_X10_keeps : CPv yX10_keeps cX10_keeps 3 none 1 := ⟨mw_7_39, mw_1_9, mw_7_38, ms_66, by decide +kernel⟩
def rm_X10_valueAt : Room := { frames := 1, cells := 0, slots := 0, locals := 29 }
set_option maxHeartbeats 4000000 in
set_option maxRecDepth 100000 in
theorem c_X10_valueAt (l : Launch) (D : va_G) (ct : Nat → ClassId) (ad : Nat → Nat) (F : Nat → Prop) (hG : Gd ad 18 F) (p0 : Int32) (p1 : Int64) (p2 : Int64) (p3 : Int32) (S0 : St)  (r : Int64) (hf : f_X10_valueAt p0 p1 p2 p3 S0 = some r) : MetH l yX10_valueAt cX10_valueAt 10 (some .long) rm_X10_valueAt D (tysW ct) F [.ref (ad 0), .int p0, .long p1, .long p2, .int p3] (some (.long r)) (cellsM ct ad S0) (cellsM ct ad S0) := by
  refine MetH.of RX10 (by decide) rfl (Nat.le_of_ble_eq_true rfl) ?_
  intro p e s m args below meth c C hK hP ls hl
  have hl : lv_has ls 10 [(0, .ref (ad 0)), (1, .int p0), (2, .long p1), (4, .long p2), (6, .int p3)] := hl
  obtain ⟨hx, hb, hr, hml, hown, htL, hlocks⟩ := id C
  have hS : va_S F s.heap s.heap [] := va_S.rf
  generalize hQ : MQ below (Hq D (cellsM ct ad S0) F (some (.long r))) args s 0 0 F = Q
  have w_64 : ∀ (k_7 : Int32 → Int64 → Int64 → Int32 → Int64 → Int32 → Option Int64) (hk_7 : ∀ (x1 : Int32) (x2 : Int64) (x4 : Int64) (x6 : Int32) (x7 : Int64) (x9 : Int32), ∀ (H : Heap) (locs : List Loc) (ls : Array Slot), lv_has ls 10 [(0, .ref (ad 0)), (1, .int x1), (2, .long x2), (4, .long x4), (6, .int x6), (7, .long x7), (9, .int x9)] → va_P D vwCl (cellsM ct ad S0) H → va_S F s.heap H locs → k_7 x1 x2 x4 x6 x7 x9 = some r → W p l e rm_X10_valueAt s m args below meth c H locs 0 0 Q (F0 m 7 ls [])), ∀ (x1 : Int32) (x2 : Int64) (x4 : Int64) (x6 : Int32) (x9 : Int32) (y0 : Int64) (y1 : Int64), ∀ (H : Heap) (locs : List Loc) (ls : Array Slot), lv_has ls 10 [(0, .ref (ad 0)), (1, .int x1), (2, .long x2), (4, .long x4), (6, .int x6), (9, .int x9)] → va_P D vwCl (cellsM ct ad S0) H → va_S F s.heap H locs → n_X10_valueAt_64 k_7 S0 x1 x2 x4 x6 x9 y0 y1 = some r → W p l e rm_X10_valueAt s m args below meth c H locs 0 0 Q (F0 m 64 ls [.long y1, .long y0]) := by
    intro k_7 hk_7 x1 x2 x4 x6 x9 y0 y1 H locs ls hl hP hS hf
    refine lv_ladd hx hb dX10_valueAt_64 ?_
    refine lv_lload hx hb dX10_valueAt_65 (lv_at hl 3 rfl) ?_
    obtain ⟨v1, h2, hf⟩ := b1_some hf
    refine pc_S (As := [.long (y0 + y1), .long x4]) (rest := []) C (c_X10_whole l (y0 + y1) x4 v1 h2) hl.1 cp_X10_whole mw_6_71 ⟨rfl, rfl⟩ ⟨Nat.le_of_ble_eq_true rfl, Nat.le_of_ble_eq_true rfl⟩ rfl rfl (Nat.le_of_ble_eq_true rfl) dX10_valueAt_67 ⟨Nat.le_of_ble_eq_true rfl, Nat.le_of_ble_eq_true rfl⟩ ?_
    refine lv_lstore (lv' := [(7, .long v1), (0, .ref (ad 0)), (1, .int x1), (2, .long x2), (4, .long x4), (6, .int x6), (9, .int x9)]) hx hb dX10_valueAt_70 hl (by decide) rfl (fun ls hl => ?_)
    refine lv_iinc (v := (x9 + (-1))) (lv' := [(9, .int (x9 + (-1))), (7, .long v1), (0, .ref (ad 0)), (1, .int x1), (2, .long x2), (4, .long x4), (6, .int x6)]) hx hb dX10_valueAt_72 hl (k := 6) rfl rfl (by decide) rfl (fun ls hl => ?_)
    refine lv_goto (tgt := 7) hx hb dX10_valueAt_75 (by decide) ?_
    exact hk_7 x1 x2 x4 x6 v1 (x9 + (-1)) _ _ _ (lv_sub hl [2, 3, 4, 5, 6, 1, 0] rfl) hP hS hf
  have w_19 : ∀ (k_7 : Int32 → Int64 → Int64 → Int32 → Int64 → Int32 → Option Int64) (hk_7 : ∀ (x1 : Int32) (x2 : Int64) (x4 : Int64) (x6 : Int32) (x7 : Int64) (x9 : Int32), ∀ (H : Heap) (locs : List Loc) (ls : Array Slot), lv_has ls 10 [(0, .ref (ad 0)), (1, .int x1), (2, .long x2), (4, .long x4), (6, .int x6), (7, .long x7), (9, .int x9)] → va_P D vwCl (cellsM ct ad S0) H → va_S F s.heap H locs → k_7 x1 x2 x4 x6 x7 x9 = some r → W p l e rm_X10_valueAt s m args below meth c H locs 0 0 Q (F0 m 7 ls [])), ∀ (x1 : Int32) (x2 : Int64) (x4 : Int64) (x6 : Int32) (x7 : Int64) (x9 : Int32) (y0 : Int32) (y1 : Int32), ∀ (H : Heap) (locs : List Loc) (ls : Array Slot), lv_has ls 10 [(0, .ref (ad 0)), (1, .int x1), (2, .long x2), (4, .long x4), (6, .int x6), (7, .long x7), (9, .int x9)] → va_P D vwCl (cellsM ct ad S0) H → va_S F s.heap H locs → n_X10_valueAt_19 k_7 S0 x1 x2 x4 x6 x7 x9 y0 y1 = some r → W p l e rm_X10_valueAt s m args below meth c H locs 0 0 Q (F0 m 19 ls [.int y1, .int y0]) := by
    intro k_7 hk_7 x1 x2 x4 x6 x7 x9 y0 y1 H locs ls hl hP hS hf
    refine lv_icmp_lt (tgt := 78) hx hb dX10_valueAt_19 (by decide) (fun c3 => ?_) (fun c3 => ?_)
    · have hf := sp1 c3 hf
      refine lv_lload hx hb dX10_valueAt_78 (lv_at hl 5 rfl) ?_
      cases hf
      subst hQ
      exact he_l C hP hS dX10_valueAt_80
    · have hf := sp0 c3 hf
      refine lv_lload hx hb dX10_valueAt_22 (lv_at hl 5 rfl) ?_
      refine lv_lload_n hx hb dX10_valueAt_24 rfl (lv_at hl 2 rfl) ?_
      refine lv_lmul hx hb dX10_valueAt_25 ?_
      refine lv_iload hx hb dX10_valueAt_26 (lv_at hl 4 rfl) ?_
      refine lv_if_eq (tgt := 51) hx hb dX10_valueAt_28 (by decide) (fun c4 => ?_) (fun c4 => ?_)
      · have hf := sp1 c4 hf
        refine lv_aload_n hx hb dX10_valueAt_51 rfl (lv_at hl 0 rfl) ?_
        refine gf_X10_11 C hK hP mw_5_173 dX10_valueAt_52 ?_
        refine lv_bipush (v := 7) hx hb dX10_valueAt_55 (by decide) ?_
        refine lv_iload_n hx hb dX10_valueAt_57 rfl (lv_at hl 1 rfl) ?_
        refine lv_imul hx hb dX10_valueAt_58 ?_
        refine lv_iload hx hb dX10_valueAt_59 (lv_at hl 6 rfl) ?_
        refine lv_iadd hx hb dX10_valueAt_61 ?_
        obtain ⟨c5, hf⟩ := spn hf
        refine al_M12 C hK hP c5 dX10_valueAt_62 ?_
        refine lv_i2l hx hb dX10_valueAt_63 rfl ?_
        exact w_64 _ hk_7 x1 x2 x4 x6 x9 (x7 * x2) (Int32.toInt64 (S0.1 12 (Int32.toNatClampNeg ((7 * x1) + x9)))) _ _ _ (lv_sub hl [0, 1, 2, 3, 4, 6] rfl) hP hS hf
      · have hf := sp0 c4 hf
        refine lv_iload hx hb dX10_valueAt_31 (lv_at hl 6 rfl) ?_
        refine lv_i2l hx hb dX10_valueAt_33 rfl ?_
        refine lv_aload_n hx hb dX10_valueAt_34 rfl (lv_at hl 0 rfl) ?_
        refine gf_X10_11 C hK hP mw_5_173 dX10_valueAt_35 ?_
        refine lv_bipush (v := 7) hx hb dX10_valueAt_38 (by decide) ?_
        refine lv_iload_n hx hb dX10_valueAt_40 rfl (lv_at hl 1 rfl) ?_
        refine lv_imul hx hb dX10_valueAt_41 ?_
        refine lv_iload hx hb dX10_valueAt_42 (lv_at hl 6 rfl) ?_
        refine lv_iadd hx hb dX10_valueAt_44 ?_
        obtain ⟨c6, hf⟩ := spn hf
        refine al_M12 C hK hP c6 dX10_valueAt_45 ?_
        refine lv_i2l hx hb dX10_valueAt_46 rfl ?_
        refine lv_lmul hx hb dX10_valueAt_47 ?_
        refine lv_goto (tgt := 64) hx hb dX10_valueAt_48 (by decide) ?_
        exact w_64 _ hk_7 x1 x2 x4 x6 x9 (x7 * x2) ((Int32.toInt64 x9) * (Int32.toInt64 (S0.1 12 (Int32.toNatClampNeg ((7 * x1) + x9))))) _ _ _ (lv_sub hl [0, 1, 2, 3, 4, 6] rfl) hP hS hf
  have w_7 : ∀ (x1 : Int32) (x2 : Int64) (x4 : Int64) (x6 : Int32) (x7 : Int64) (x9 : Int32), ∀ (H : Heap) (locs : List Loc) (ls : Array Slot), lv_has ls 10 [(0, .ref (ad 0)), (1, .int x1), (2, .long x2), (4, .long x4), (6, .int x6), (7, .long x7), (9, .int x9)] → va_P D vwCl (cellsM ct ad S0) H → va_S F s.heap H locs → n_X10_valueAt_7 S0 x1 x2 x4 x6 x7 x9 = some r → W p l e rm_X10_valueAt s m args below meth c H locs 0 0 Q (F0 m 7 ls []) := by
    have aux : ∀ (n : Nat), ∀ (x1 : Int32) (x2 : Int64) (x4 : Int64) (x6 : Int32) (x7 : Int64) (x9 : Int32), ∀ (H : Heap) (locs : List Loc) (ls : Array Slot), lv_has ls 10 [(0, .ref (ad 0)), (1, .int x1), (2, .long x2), (4, .long x4), (6, .int x6), (7, .long x7), (9, .int x9)] → va_P D vwCl (cellsM ct ad S0) H → va_S F s.heap H locs → itr (fun (q : Int32 × Int64 × Int64 × Int32 × Int64 × Int32) k => s_X10_valueAt_7  (fun (x1 : Int32) (x2 : Int64) (x4 : Int64) (x6 : Int32) (x7 : Int64) (x9 : Int32) => k (x1, x2, x4, x6, x7, x9)) S0 q.1 q.2.1 q.2.2.1 q.2.2.2.1 q.2.2.2.2.1 q.2.2.2.2.2) n (x1, x2, x4, x6, x7, x9) = some r → W p l e rm_X10_valueAt s m args below meth c H locs 0 0 Q (F0 m 7 ls []) := by
      intro n
      induction n with
      | zero => intro x1 x2 x4 x6 x7 x9 H locs ls hl hP hS hf; exact (itr_z hf).elim
      | succ n ih =>
      intro x1 x2 x4 x6 x7 x9 H locs ls hl hP hS hf
      have hk_7 := ih
      have hf : s_X10_valueAt_7  (fun (x1 : Int32) (x2 : Int64) (x4 : Int64) (x6 : Int32) (x7 : Int64) (x9 : Int32) => itr (fun (q : Int32 × Int64 × Int64 × Int32 × Int64 × Int32) k => s_X10_valueAt_7  (fun (x1 : Int32) (x2 : Int64) (x4 : Int64) (x6 : Int32) (x7 : Int64) (x9 : Int32) => k (x1, x2, x4, x6, x7, x9)) S0 q.1 q.2.1 q.2.2.1 q.2.2.2.1 q.2.2.2.2.1 q.2.2.2.2.2) n (x1, x2, x4, x6, x7, x9)) S0 x1 x2 x4 x6 x7 x9 = some r := hf
      refine lv_iload hx hb dX10_valueAt_7 (lv_at hl 6 rfl) ?_
      refine lv_iload hx hb dX10_valueAt_9 (lv_at hl 4 rfl) ?_
      refine lv_if_eq (tgt := 18) hx hb dX10_valueAt_11 (by decide) (fun c7 => ?_) (fun c7 => ?_)
      · have hf := sp1 c7 hf
        refine lv_iconst (v := 0) hx hb dX10_valueAt_18 (by decide) ?_
        exact w_19 _ hk_7 x1 x2 x4 x6 x7 x9 x9 0 _ _ _ (lv_sub hl [0, 1, 2, 3, 4, 5, 6] rfl) hP hS hf
      · have hf := sp0 c7 hf
        refine lv_iconst (v := 1) hx hb dX10_valueAt_14 (by decide) ?_
        refine lv_goto (tgt := 19) hx hb dX10_valueAt_15 (by decide) ?_
        exact w_19 _ hk_7 x1 x2 x4 x6 x7 x9 x9 1 _ _ _ (lv_sub hl [0, 1, 2, 3, 4, 5, 6] rfl) hP hS hf
    exact aux FU
  refine lv_lconst (v := 0) hx hb dX10_valueAt_0 (by decide) ?_
  refine lv_lstore (lv' := [(7, .long 0), (0, .ref (ad 0)), (1, .int p0), (2, .long p1), (4, .long p2), (6, .int p3)]) hx hb dX10_valueAt_1 hl (by decide) rfl (fun ls hl => ?_)
  refine lv_bipush (v := 6) hx hb dX10_valueAt_3 (by decide) ?_
  refine lv_istore (lv' := [(9, .int 6), (7, .long 0), (0, .ref (ad 0)), (1, .int p0), (2, .long p1), (4, .long p2), (6, .int p3)]) hx hb dX10_valueAt_5 hl (by decide) rfl (fun ls hl => ?_)
  exact w_7 p0 p1 p2 p3 0 6 _ _ _ (lv_sub hl [2, 3, 4, 5, 6, 1, 0] rfl) hP hS hf
theorem cp_X10_valueAt : CPv yX10_valueAt cX10_valueAt 10 (some .long) 4 := ⟨mw_7_31, mw_1_9, mw_7_30, ms_65, by decide +kernel⟩
def rm_X10_residueOf : Room := { frames := 2, cells := 0, slots := 0, locals := 62 }
set_option maxHeartbeats 4000000 in
set_option maxRecDepth 100000 in
theorem c_X10_residueOf (l : Launch) (D : va_G) (ct : Nat → ClassId) (ad : Nat → Nat) (F : Nat → Prop) (hG : Gd ad 18 F) (p0 : Int32) (p1 : Int32) (S0 : St)  (r : Int32) (hf : f_X10_residueOf p0 p1 S0 = some r) : MetH l yX10_residueOf cX10_residueOf 3 (some .char) rm_X10_residueOf D (tysW ct) F [.ref (ad 0), .int p0, .int p1] (some (.int r)) (cellsM ct ad S0) (cellsM ct ad S0) := by
  refine MetH.of RX10 (by decide) rfl (Nat.le_of_ble_eq_true rfl) ?_
  intro p e s m args below meth c C hK hP ls hl
  have hl : lv_has ls 3 [(0, .ref (ad 0)), (1, .int p0), (2, .int p1)] := hl
  obtain ⟨hx, hb, hr, hml, hown, htL, hlocks⟩ := id C
  have hS : va_S F s.heap s.heap [] := va_S.rf
  generalize hQ : MQ below (Hq D (cellsM ct ad S0) F (some (.int r))) args s 0 0 F = Q
  refine lv_aload_n hx hb dX10_residueOf_0 rfl (lv_at hl 0 rfl) ?_
  refine lv_iload_n hx hb dX10_residueOf_1 rfl (lv_at hl 1 rfl) ?_
  refine lv_iload_n hx hb dX10_residueOf_2 rfl (lv_at hl 2 rfl) ?_
  refine lv_i2l hx hb dX10_residueOf_3 rfl ?_
  refine lv_aload_n hx hb dX10_residueOf_4 rfl (lv_at hl 0 rfl) ?_
  refine gf_X10_18 C hK hP mw_5_180 dX10_residueOf_5 ?_
  refine lv_i2l hx hb dX10_residueOf_8 rfl ?_
  refine lv_iconst (v := 0) hx hb dX10_residueOf_9 (by decide) ?_
  obtain ⟨v2, h1, hf⟩ := b1_some hf
  refine hc_V (As := [.int p0, .long (Int32.toInt64 p1), .long (Int32.toInt64 (S0.1 0 18)), .int 0]) (rest := []) C hK (c_X10_valueAt l D ct ad F hG p0 (Int32.toInt64 p1) (Int32.toInt64 (S0.1 0 18)) 0 S0  v2 h1) hl.1 cp_X10_valueAt mw_7_28 (rc_X10 hK hP) hP hS ⟨rfl, rfl⟩ ⟨Nat.le_of_ble_eq_true rfl, Nat.le_of_ble_eq_true rfl⟩ rfl rfl (Nat.le_of_ble_eq_true rfl) dX10_residueOf_10 ⟨Nat.le_of_ble_eq_true rfl, Nat.le_of_ble_eq_true rfl⟩ (fun H locs hP hS => ?_)
  refine lv_lconst (v := 0) hx hb dX10_residueOf_13 (by decide) ?_
  refine W.lcmp hx hb dX10_residueOf_14 ?_
  refine lv_if_eq (tgt := 23) hx hb dX10_residueOf_15 (by decide) (fun c3 => ?_) (fun c3 => ?_)
  · have hf := sp1 c3 hf
    refine lv_aload_n hx hb dX10_residueOf_23 rfl (lv_at hl 0 rfl) ?_
    refine lv_iload_n hx hb dX10_residueOf_24 rfl (lv_at hl 1 rfl) ?_
    refine lv_iload_n hx hb dX10_residueOf_25 rfl (lv_at hl 2 rfl) ?_
    refine lv_i2l hx hb dX10_residueOf_26 rfl ?_
    refine lv_aload_n hx hb dX10_residueOf_27 rfl (lv_at hl 0 rfl) ?_
    refine gf_X10_18 C hK hP mw_5_180 dX10_residueOf_28 ?_
    refine lv_i2l hx hb dX10_residueOf_31 rfl ?_
    refine lv_iconst (v := 1) hx hb dX10_residueOf_32 (by decide) ?_
    obtain ⟨v5, h4, hf⟩ := b1_some hf
    refine hc_V (As := [.int p0, .long (Int32.toInt64 p1), .long (Int32.toInt64 (S0.1 0 18)), .int 1]) (rest := []) C hK (c_X10_valueAt l D ct ad F hG p0 (Int32.toInt64 p1) (Int32.toInt64 (S0.1 0 18)) 1 S0  v5 h4) hl.1 cp_X10_valueAt mw_7_28 (rc_X10 hK hP) hP hS ⟨rfl, rfl⟩ ⟨Nat.le_of_ble_eq_true rfl, Nat.le_of_ble_eq_true rfl⟩ rfl rfl (Nat.le_of_ble_eq_true rfl) dX10_residueOf_33 ⟨Nat.le_of_ble_eq_true rfl, Nat.le_of_ble_eq_true rfl⟩ (fun H locs hP hS => ?_)
    refine lv_lconst (v := 0) hx hb dX10_residueOf_36 (by decide) ?_
    refine W.lcmp hx hb dX10_residueOf_37 ?_
    refine lv_if_eq (tgt := 46) hx hb dX10_residueOf_38 (by decide) (fun c6 => ?_) (fun c6 => ?_)
    · have hf := sp1 c6 hf
      refine lv_bipush (v := 109) hx hb dX10_residueOf_46 (by decide) ?_
      cases hf
      subst hQ
      exact he_z C (by decide) hP hS dX10_residueOf_48
    · have hf := sp0 c6 hf
      refine lv_bipush (v := 115) hx hb dX10_residueOf_41 (by decide) ?_
      refine lv_goto (tgt := 48) hx hb dX10_residueOf_43 (by decide) ?_
      cases hf
      subst hQ
      exact he_z C (by decide) hP hS dX10_residueOf_48
  · have hf := sp0 c3 hf
    refine lv_bipush (v := 45) hx hb dX10_residueOf_18 (by decide) ?_
    refine lv_goto (tgt := 48) hx hb dX10_residueOf_20 (by decide) ?_
    cases hf
    subst hQ
    exact he_z C (by decide) hP hS dX10_residueOf_48
theorem cp_X10_residueOf : CPv yX10_residueOf cX10_residueOf 3 (some .char) 2 := ⟨mw_7_27, mw_1_9, mw_7_26, ms_64, by decide +kernel⟩
def rm_X10_residue : Room := { frames := 3, cells := 0, slots := 0, locals := 88 }
set_option maxHeartbeats 4000000 in
set_option maxRecDepth 100000 in
theorem c_X10_residue (l : Launch) (D : va_G) (ct : Nat → ClassId) (ad : Nat → Nat) (F : Nat → Prop) (hG : Gd ad 18 F) (p0 : Int32) (p1 : Int32) (S0 : St)  (r : Int32) (S' : St) (hf : f_X10_residue p0 p1 S0 = some (r, S')) : MetH l yX10_residue cX10_residue 3 (some .char) rm_X10_residue D (tysW ct) F [.ref (ad 0), .int p0, .int p1] (some (.int r)) (cellsM ct ad S0) (cellsM ct ad S') := by
  refine MetH.of RX10 (by decide) rfl (Nat.le_of_ble_eq_true rfl) ?_
  intro p e s m args below meth c C hK hP ls hl
  have hl : lv_has ls 3 [(0, .ref (ad 0)), (1, .int p0), (2, .int p1)] := hl
  obtain ⟨hx, hb, hr, hml, hown, htL, hlocks⟩ := id C
  have hS : va_S F s.heap s.heap [] := va_S.rf
  generalize hQ : MQ below (Hq D (cellsM ct ad S') F (some (.int r))) args s 0 0 F = Q
  refine lv_aload_n hx hb dX10_residue_0 rfl (lv_at hl 0 rfl) ?_
  refine lv_iload_n hx hb dX10_residue_1 rfl (lv_at hl 1 rfl) ?_
  obtain ⟨v2, S3, h1, hf⟩ := b2_some hf
  refine hc_V (As := [.int p0]) (rest := []) C hK (c_X10_noPolynomial l D ct ad F hG p0 S0  v2 S3 h1) hl.1 cp_X10_noPolynomial mw_6_235 (rc_X10 hK hP) hP hS ⟨rfl, rfl⟩ ⟨Nat.le_of_ble_eq_true rfl, Nat.le_of_ble_eq_true rfl⟩ rfl rfl (Nat.le_of_ble_eq_true rfl) dX10_residue_2 ⟨Nat.le_of_ble_eq_true rfl, Nat.le_of_ble_eq_true rfl⟩ (fun H locs hP hS => ?_)
  refine lv_if_ne (tgt := 29) hx hb dX10_residue_5 (by decide) (fun c4 => ?_) (fun c4 => ?_)
  · have hf := sp0 c4 hf
    refine lv_bipush (v := 45) hx hb dX10_residue_29 (by decide) ?_
    refine lv_goto (tgt := 40) hx hb dX10_residue_31 (by decide) ?_
    cases hf
    subst hQ
    exact he_z C (by decide) hP hS dX10_residue_40
  · have hf := sp1 c4 hf
    refine lv_aload_n hx hb dX10_residue_8 rfl (lv_at hl 0 rfl) ?_
    refine lv_iload_n hx hb dX10_residue_9 rfl (lv_at hl 2 rfl) ?_
    refine lv_i2l hx hb dX10_residue_10 rfl ?_
    refine lv_lconst (v := 0) hx hb dX10_residue_11 (by decide) ?_
    refine lv_aload_n hx hb dX10_residue_12 rfl (lv_at hl 0 rfl) ?_
    refine gf_X10_18 C hK hP mw_5_180 dX10_residue_13 ?_
    refine lv_iconst (v := 1) hx hb dX10_residue_16 (by decide) ?_
    refine lv_isub hx hb dX10_residue_17 ?_
    refine lv_i2l hx hb dX10_residue_18 rfl ?_
    obtain ⟨v5, h6, hf⟩ := b1_some hf
    refine pc_S (As := [.long (Int32.toInt64 p1), .long 0, .long (Int32.toInt64 ((S3.1 0 18) - 1))]) (rest := [.ref (ad 0)]) C (c_X10_isIn l (Int32.toInt64 p1) 0 (Int32.toInt64 ((S3.1 0 18) - 1)) v5 h6) hl.1 cp_X10_isIn mw_6_15 ⟨rfl, rfl⟩ ⟨Nat.le_of_ble_eq_true rfl, Nat.le_of_ble_eq_true rfl⟩ rfl rfl (Nat.le_of_ble_eq_true rfl) dX10_residue_19 ⟨Nat.le_of_ble_eq_true rfl, Nat.le_of_ble_eq_true rfl⟩ ?_
    refine lv_iconst (v := 2) hx hb dX10_residue_22 (by decide) ?_
    obtain ⟨v8, S9, h7, hf⟩ := b2_some hf
    refine hc_V (As := [.int v5, .int 2]) (rest := []) C hK (c_X10_no l D ct ad F hG v5 2 S3  v8 S9 h7) hl.1 cp_X10_no mw_6_21 (rc_X10 hK hP) hP hS ⟨rfl, rfl⟩ ⟨Nat.le_of_ble_eq_true rfl, Nat.le_of_ble_eq_true rfl⟩ rfl rfl (Nat.le_of_ble_eq_true rfl) dX10_residue_23 ⟨Nat.le_of_ble_eq_true rfl, Nat.le_of_ble_eq_true rfl⟩ (fun H locs hP hS => ?_)
    refine lv_if_eq (tgt := 34) hx hb dX10_residue_26 (by decide) (fun c10 => ?_) (fun c10 => ?_)
    · have hf := sp1 c10 hf
      refine lv_aload_n hx hb dX10_residue_34 rfl (lv_at hl 0 rfl) ?_
      refine lv_iload_n hx hb dX10_residue_35 rfl (lv_at hl 1 rfl) ?_
      refine lv_iload_n hx hb dX10_residue_36 rfl (lv_at hl 2 rfl) ?_
      obtain ⟨v12, h11, hf⟩ := b1_some hf
      refine hc_V (As := [.int p0, .int p1]) (rest := []) C hK (c_X10_residueOf l D ct ad F hG p0 p1 S9  v12 h11) hl.1 cp_X10_residueOf mw_7_24 (rc_X10 hK hP) hP hS ⟨rfl, rfl⟩ ⟨Nat.le_of_ble_eq_true rfl, Nat.le_of_ble_eq_true rfl⟩ rfl rfl (Nat.le_of_ble_eq_true rfl) dX10_residue_37 ⟨Nat.le_of_ble_eq_true rfl, Nat.le_of_ble_eq_true rfl⟩ (fun H locs hP hS => ?_)
      obtain ⟨c13, hf⟩ := spy hf
      cases hf
      subst hQ
      exact he_z C c13 hP hS dX10_residue_40
    · have hf := sp0 c10 hf
      refine lv_bipush (v := 45) hx hb dX10_residue_29 (by decide) ?_
      refine lv_goto (tgt := 40) hx hb dX10_residue_31 (by decide) ?_
      cases hf
      subst hQ
      exact he_z C (by decide) hP hS dX10_residue_40
theorem cp_X10_residue : CPv yX10_residue cX10_residue 3 (some .char) 2 := ⟨mw_7_23, mw_1_9, mw_7_21, mw_7_22, by decide +kernel⟩
def rm_X10_lift : Room := { frames := 7, cells := 0, slots := 0, locals := 221 }
set_option maxHeartbeats 4000000 in
set_option maxRecDepth 100000 in
theorem c_X10_lift (l : Launch) (D : va_G) (ct : Nat → ClassId) (ad : Nat → Nat) (F : Nat → Prop) (hG : Gd ad 18 F) (p0 : Int32) (p1 : Int32) (p2 : Int32) (S0 : St)  (r : Int32) (S' : St) (hf : f_X10_lift p0 p1 p2 S0 = some (r, S')) : MetH l yX10_lift cX10_lift 4 (some .int) rm_X10_lift D (tysW ct) F [.ref (ad 0), .int p0, .int p1, .int p2] (some (.int r)) (cellsM ct ad S0) (cellsM ct ad S') := by
  refine MetH.of RX10 (by decide) rfl (Nat.le_of_ble_eq_true rfl) ?_
  intro p e s m args below meth c C hK hP ls hl
  have hl : lv_has ls 4 [(0, .ref (ad 0)), (1, .int p0), (2, .int p1), (3, .int p2)] := hl
  obtain ⟨hx, hb, hr, hml, hown, htL, hlocks⟩ := id C
  have hS : va_S F s.heap s.heap [] := va_S.rf
  generalize hQ : MQ below (Hq D (cellsM ct ad S') F (some (.int r))) args s 0 0 F = Q
  have w_68 : ∀ (x1 : Int32) (x2 : Int32) (x3 : Int32) (y1 : Int32) (S : St), ∀ (H : Heap) (locs : List Loc) (ls : Array Slot), lv_has ls 4 [(0, .ref (ad 0)), (1, .int x1), (2, .int x2), (3, .int x3)] → va_P D vwCl (cellsM ct ad S) H → va_S F s.heap H locs → n_X10_lift_68 x1 x2 x3 y1 S = some (r, S') → W p l e rm_X10_lift s m args below meth c H locs 0 0 Q (F0 m 68 ls [.int y1, .ref (ad 0)]) := by
    intro  x1 x2 x3 y1 S H locs ls hl hP hS hf
    refine lv_iconst (v := 3) hx hb dX10_lift_68 (by decide) ?_
    obtain ⟨v2, S3, h1, hf⟩ := b2_some hf
    refine hc_V (As := [.int y1, .int 3]) (rest := []) C hK (c_X10_no l D ct ad F hG y1 3 S  v2 S3 h1) hl.1 cp_X10_no mw_6_21 (rc_X10 hK hP) hP hS ⟨rfl, rfl⟩ ⟨Nat.le_of_ble_eq_true rfl, Nat.le_of_ble_eq_true rfl⟩ rfl rfl (Nat.le_of_ble_eq_true rfl) dX10_lift_69 ⟨Nat.le_of_ble_eq_true rfl, Nat.le_of_ble_eq_true rfl⟩ (fun H locs hP hS => ?_)
    refine lv_if_ne (tgt := 83) hx hb dX10_lift_72 (by decide) (fun c4 => ?_) (fun c4 => ?_)
    · have hf := sp0 c4 hf
      refine lv_iconst (v := 0) hx hb dX10_lift_83 (by decide) ?_
      cases hf
      subst hQ
      exact he_i C hP hS dX10_lift_84
    · have hf := sp1 c4 hf
      refine lv_aload_n hx hb dX10_lift_75 rfl (lv_at hl 0 rfl) ?_
      refine lv_iconst (v := 4) hx hb dX10_lift_76 (by decide) ?_
      obtain ⟨v6, S7, h5, hf⟩ := b2_some hf
      refine hc_V (As := [.int 4]) (rest := []) C hK (c_X10_noRoom l D ct ad F hG 4 S3  v6 S7 h5) hl.1 cp_X10_noRoom mw_6_42 (rc_X10 hK hP) hP hS ⟨rfl, rfl⟩ ⟨Nat.le_of_ble_eq_true rfl, Nat.le_of_ble_eq_true rfl⟩ rfl rfl (Nat.le_of_ble_eq_true rfl) dX10_lift_77 ⟨Nat.le_of_ble_eq_true rfl, Nat.le_of_ble_eq_true rfl⟩ (fun H locs hP hS => ?_)
      refine lv_if_eq (tgt := 85) hx hb dX10_lift_80 (by decide) (fun c8 => ?_) (fun c8 => ?_)
      · have hf := sp1 c8 hf
        refine lv_aload_n hx hb dX10_lift_85 rfl (lv_at hl 0 rfl) ?_
        refine lv_iload_n hx hb dX10_lift_86 rfl (lv_at hl 1 rfl) ?_
        obtain ⟨S10, h9, hf⟩ := b1_some hf
        refine hc_V (As := [.int x1]) (rest := []) C hK (c_X10_keeps l D ct ad F hG x1 S7  S10 h9) hl.1 cp_X10_keeps mw_7_36 (rc_X10 hK hP) hP hS ⟨rfl, rfl⟩ ⟨Nat.le_of_ble_eq_true rfl, Nat.le_of_ble_eq_true rfl⟩ rfl rfl (Nat.le_of_ble_eq_true rfl) dX10_lift_87 ⟨Nat.le_of_ble_eq_true rfl, Nat.le_of_ble_eq_true rfl⟩ (fun H locs hP hS => ?_)
        refine lv_aload_n hx hb dX10_lift_90 rfl (lv_at hl 0 rfl) ?_
        refine lv_bipush (v := 7) hx hb dX10_lift_91 (by decide) ?_
        refine lv_iload_n hx hb dX10_lift_93 rfl (lv_at hl 2 rfl) ?_
        refine lv_iconst (v := 0) hx hb dX10_lift_94 (by decide) ?_
        refine lv_iload_n hx hb dX10_lift_95 rfl (lv_at hl 3 rfl) ?_
        obtain ⟨v12, S13, h11, hf⟩ := b2_some hf
        refine hc_V (As := [.int 7, .int x2, .int 0, .int x3]) (rest := []) C hK (c_X10_comes l D ct ad F hG 7 x2 0 x3 S10  v12 S13 h11) hl.1 cp_X10_comes mw_6_46 (rc_X10 hK hP) hP hS ⟨rfl, rfl⟩ ⟨Nat.le_of_ble_eq_true rfl, Nat.le_of_ble_eq_true rfl⟩ rfl rfl (Nat.le_of_ble_eq_true rfl) dX10_lift_96 ⟨Nat.le_of_ble_eq_true rfl, Nat.le_of_ble_eq_true rfl⟩ (fun H locs hP hS => ?_)
        cases hf
        subst hQ
        exact he_i C hP hS dX10_lift_99
      · have hf := sp0 c8 hf
        refine lv_iconst (v := 0) hx hb dX10_lift_83 (by decide) ?_
        cases hf
        subst hQ
        exact he_i C hP hS dX10_lift_84
  have w_44 : ∀ (x1 : Int32) (x2 : Int32) (x3 : Int32) (y1 : Int32) (S : St), ∀ (H : Heap) (locs : List Loc) (ls : Array Slot), lv_has ls 4 [(0, .ref (ad 0)), (1, .int x1), (2, .int x2), (3, .int x3)] → va_P D vwCl (cellsM ct ad S) H → va_S F s.heap H locs → n_X10_lift_44 x1 x2 x3 y1 S = some (r, S') → W p l e rm_X10_lift s m args below meth c H locs 0 0 Q (F0 m 44 ls [.int y1, .ref (ad 0)]) := by
    intro  x1 x2 x3 y1 S H locs ls hl hP hS hf
    refine lv_iconst (v := 2) hx hb dX10_lift_44 (by decide) ?_
    obtain ⟨v15, S16, h14, hf⟩ := b2_some hf
    refine hc_V (As := [.int y1, .int 2]) (rest := []) C hK (c_X10_no l D ct ad F hG y1 2 S  v15 S16 h14) hl.1 cp_X10_no mw_6_21 (rc_X10 hK hP) hP hS ⟨rfl, rfl⟩ ⟨Nat.le_of_ble_eq_true rfl, Nat.le_of_ble_eq_true rfl⟩ rfl rfl (Nat.le_of_ble_eq_true rfl) dX10_lift_45 ⟨Nat.le_of_ble_eq_true rfl, Nat.le_of_ble_eq_true rfl⟩ (fun H locs hP hS => ?_)
    refine lv_if_ne (tgt := 83) hx hb dX10_lift_48 (by decide) (fun c17 => ?_) (fun c17 => ?_)
    · have hf := sp0 c17 hf
      refine lv_iconst (v := 0) hx hb dX10_lift_83 (by decide) ?_
      cases hf
      subst hQ
      exact he_i C hP hS dX10_lift_84
    · have hf := sp1 c17 hf
      refine lv_aload_n hx hb dX10_lift_51 rfl (lv_at hl 0 rfl) ?_
      refine lv_aload_n hx hb dX10_lift_52 rfl (lv_at hl 0 rfl) ?_
      refine lv_iload_n hx hb dX10_lift_53 rfl (lv_at hl 1 rfl) ?_
      refine lv_iload_n hx hb dX10_lift_54 rfl (lv_at hl 2 rfl) ?_
      obtain ⟨v19, h18, hf⟩ := b1_some hf
      refine hc_V (As := [.int x1, .int x2]) (rest := [.ref (ad 0)]) C hK (c_X10_residueOf l D ct ad F hG x1 x2 S16  v19 h18) hl.1 cp_X10_residueOf mw_7_24 (rc_X10 hK hP) hP hS ⟨rfl, rfl⟩ ⟨Nat.le_of_ble_eq_true rfl, Nat.le_of_ble_eq_true rfl⟩ rfl rfl (Nat.le_of_ble_eq_true rfl) dX10_lift_55 ⟨Nat.le_of_ble_eq_true rfl, Nat.le_of_ble_eq_true rfl⟩ (fun H locs hP hS => ?_)
      refine lv_bipush (v := 115) hx hb dX10_lift_58 (by decide) ?_
      refine lv_icmp_ne (tgt := 67) hx hb dX10_lift_60 (by decide) (fun c20 => ?_) (fun c20 => ?_)
      · have hf := sp0 c20 hf
        refine lv_iconst (v := 0) hx hb dX10_lift_67 (by decide) ?_
        exact w_68 x1 x2 x3 0 S16 _ _ _ (lv_sub hl [0, 1, 2, 3] rfl) hP hS hf
      · have hf := sp1 c20 hf
        refine lv_iconst (v := 1) hx hb dX10_lift_63 (by decide) ?_
        refine lv_goto (tgt := 68) hx hb dX10_lift_64 (by decide) ?_
        exact w_68 x1 x2 x3 1 S16 _ _ _ (lv_sub hl [0, 1, 2, 3] rfl) hP hS hf
  refine lv_aload_n hx hb dX10_lift_0 rfl (lv_at hl 0 rfl) ?_
  refine lv_iload_n hx hb dX10_lift_1 rfl (lv_at hl 1 rfl) ?_
  obtain ⟨v22, S23, h21, hf⟩ := b2_some hf
  refine hc_V (As := [.int p0]) (rest := []) C hK (c_X10_noPolynomial l D ct ad F hG p0 S0  v22 S23 h21) hl.1 cp_X10_noPolynomial mw_6_235 (rc_X10 hK hP) hP hS ⟨rfl, rfl⟩ ⟨Nat.le_of_ble_eq_true rfl, Nat.le_of_ble_eq_true rfl⟩ rfl rfl (Nat.le_of_ble_eq_true rfl) dX10_lift_2 ⟨Nat.le_of_ble_eq_true rfl, Nat.le_of_ble_eq_true rfl⟩ (fun H locs hP hS => ?_)
  refine lv_if_ne (tgt := 83) hx hb dX10_lift_5 (by decide) (fun c24 => ?_) (fun c24 => ?_)
  · have hf := sp0 c24 hf
    refine lv_iconst (v := 0) hx hb dX10_lift_83 (by decide) ?_
    cases hf
    subst hQ
    exact he_i C hP hS dX10_lift_84
  · have hf := sp1 c24 hf
    refine lv_aload_n hx hb dX10_lift_8 rfl (lv_at hl 0 rfl) ?_
    refine lv_iload_n hx hb dX10_lift_9 rfl (lv_at hl 2 rfl) ?_
    refine lv_i2l hx hb dX10_lift_10 rfl ?_
    refine lv_lconst (v := 0) hx hb dX10_lift_11 (by decide) ?_
    refine lv_aload_n hx hb dX10_lift_12 rfl (lv_at hl 0 rfl) ?_
    refine gf_X10_18 C hK hP mw_5_180 dX10_lift_13 ?_
    refine lv_iconst (v := 1) hx hb dX10_lift_16 (by decide) ?_
    refine lv_isub hx hb dX10_lift_17 ?_
    refine lv_i2l hx hb dX10_lift_18 rfl ?_
    obtain ⟨v25, h26, hf⟩ := b1_some hf
    refine pc_S (As := [.long (Int32.toInt64 p1), .long 0, .long (Int32.toInt64 ((S23.1 0 18) - 1))]) (rest := [.ref (ad 0)]) C (c_X10_isIn l (Int32.toInt64 p1) 0 (Int32.toInt64 ((S23.1 0 18) - 1)) v25 h26) hl.1 cp_X10_isIn mw_6_15 ⟨rfl, rfl⟩ ⟨Nat.le_of_ble_eq_true rfl, Nat.le_of_ble_eq_true rfl⟩ rfl rfl (Nat.le_of_ble_eq_true rfl) dX10_lift_19 ⟨Nat.le_of_ble_eq_true rfl, Nat.le_of_ble_eq_true rfl⟩ ?_
    refine lv_if_eq (tgt := 43) hx hb dX10_lift_22 (by decide) (fun c27 => ?_) (fun c27 => ?_)
    · have hf := sp1 c27 hf
      refine lv_iconst (v := 0) hx hb dX10_lift_43 (by decide) ?_
      exact w_44 p0 p1 p2 0 S23 _ _ _ (lv_sub hl [0, 1, 2, 3] rfl) hP hS hf
    · have hf := sp0 c27 hf
      refine lv_iload_n hx hb dX10_lift_25 rfl (lv_at hl 3 rfl) ?_
      refine lv_i2l hx hb dX10_lift_26 rfl ?_
      refine lv_lconst (v := 1) hx hb dX10_lift_27 (by decide) ?_
      refine lv_aload_n hx hb dX10_lift_28 rfl (lv_at hl 0 rfl) ?_
      obtain ⟨v29, h28, hf⟩ := b1_some hf
      refine hc_V (As := []) (rest := [.long 1, .long (Int32.toInt64 p2), .ref (ad 0)]) C hK (c_X10_most l D ct ad F hG S23  v29 h28) hl.1 cp_X10_most mw_6_29 (rc_X10 hK hP) hP hS ⟨rfl, rfl⟩ ⟨Nat.le_of_ble_eq_true rfl, Nat.le_of_ble_eq_true rfl⟩ rfl rfl (Nat.le_of_ble_eq_true rfl) dX10_lift_29 ⟨Nat.le_of_ble_eq_true rfl, Nat.le_of_ble_eq_true rfl⟩ (fun H locs hP hS => ?_)
      refine lv_i2l hx hb dX10_lift_32 rfl ?_
      obtain ⟨v30, h31, hf⟩ := b1_some hf
      refine pc_S (As := [.long (Int32.toInt64 p2), .long 1, .long (Int32.toInt64 v29)]) (rest := [.ref (ad 0)]) C (c_X10_isIn l (Int32.toInt64 p2) 1 (Int32.toInt64 v29) v30 h31) hl.1 cp_X10_isIn mw_6_15 ⟨rfl, rfl⟩ ⟨Nat.le_of_ble_eq_true rfl, Nat.le_of_ble_eq_true rfl⟩ rfl rfl (Nat.le_of_ble_eq_true rfl) dX10_lift_33 ⟨Nat.le_of_ble_eq_true rfl, Nat.le_of_ble_eq_true rfl⟩ ?_
      refine lv_if_eq (tgt := 43) hx hb dX10_lift_36 (by decide) (fun c32 => ?_) (fun c32 => ?_)
      · have hf := sp1 c32 hf
        refine lv_iconst (v := 0) hx hb dX10_lift_43 (by decide) ?_
        exact w_44 p0 p1 p2 0 S23 _ _ _ (lv_sub hl [0, 1, 2, 3] rfl) hP hS hf
      · have hf := sp0 c32 hf
        refine lv_iconst (v := 1) hx hb dX10_lift_39 (by decide) ?_
        refine lv_goto (tgt := 44) hx hb dX10_lift_40 (by decide) ?_
        exact w_44 p0 p1 p2 1 S23 _ _ _ (lv_sub hl [0, 1, 2, 3] rfl) hP hS hf
theorem cp_X10_lift : CPv yX10_lift cX10_lift 4 (some .int) 3 := ⟨mw_7_35, mw_1_9, mw_7_33, mw_7_34, by decide +kernel⟩
def rm_X10_rootsModulo : Room := { frames := 2, cells := 0, slots := 0, locals := 62 }
set_option maxHeartbeats 4000000 in
set_option maxRecDepth 100000 in
theorem c_X10_rootsModulo (l : Launch) (D : va_G) (ct : Nat → ClassId) (ad : Nat → Nat) (F : Nat → Prop) (hG : Gd ad 18 F) (p0 : Int32) (p1 : Int32) (S0 : St)  (r : Int32) (S' : St) (hf : f_X10_rootsModulo p0 p1 S0 = some (r, S')) : MetH l yX10_rootsModulo cX10_rootsModulo 8 (some .int) rm_X10_rootsModulo D (tysW ct) F [.ref (ad 0), .int p0, .int p1] (some (.int r)) (cellsM ct ad S0) (cellsM ct ad S') := by
  refine MetH.of RX10 (by decide) rfl (Nat.le_of_ble_eq_true rfl) ?_
  intro p e s m args below meth c C hK hP ls hl
  have hl : lv_has ls 8 [(0, .ref (ad 0)), (1, .int p0), (2, .int p1)] := hl
  obtain ⟨hx, hb, hr, hml, hown, htL, hlocks⟩ := id C
  have hS : va_S F s.heap s.heap [] := va_S.rf
  generalize hQ : MQ below (Hq D (cellsM ct ad S') F (some (.int r))) args s 0 0 F = Q
  have w_77 : ∀ (x1 : Int32) (x3 : Int64) (x5 : Int32) (x6 : Int64) (S : St), ∀ (H : Heap) (locs : List Loc) (ls : Array Slot), lv_has ls 8 [(0, .ref (ad 0)), (1, .int x1), (3, .long x3), (5, .int x5), (6, .long x6)] → va_P D vwCl (cellsM ct ad S) H → va_S F s.heap H locs → n_X10_rootsModulo_77 x1 x3 x5 x6 S = some (r, S') → W p l e rm_X10_rootsModulo s m args below meth c H locs 0 0 Q (F0 m 77 ls []) := by
    have aux : ∀ (n : Nat), ∀ (x1 : Int32) (x3 : Int64) (x5 : Int32) (x6 : Int64) (S : St), ∀ (H : Heap) (locs : List Loc) (ls : Array Slot), lv_has ls 8 [(0, .ref (ad 0)), (1, .int x1), (3, .long x3), (5, .int x5), (6, .long x6)] → va_P D vwCl (cellsM ct ad S) H → va_S F s.heap H locs → itr (fun (q : Int32 × Int64 × Int32 × Int64 × St) k => s_X10_rootsModulo_77  (fun (x1 : Int32) (x3 : Int64) (x5 : Int32) (x6 : Int64) (S : St) => k (x1, x3, x5, x6, S)) q.1 q.2.1 q.2.2.1 q.2.2.2.1 q.2.2.2.2) n (x1, x3, x5, x6, S) = some (r, S') → W p l e rm_X10_rootsModulo s m args below meth c H locs 0 0 Q (F0 m 77 ls []) := by
      intro n
      induction n with
      | zero => intro x1 x3 x5 x6 S H locs ls hl hP hS hf; exact (itr_z hf).elim
      | succ n ih =>
      intro x1 x3 x5 x6 S H locs ls hl hP hS hf
      have hk_77 := ih
      have hf : s_X10_rootsModulo_77  (fun (x1 : Int32) (x3 : Int64) (x5 : Int32) (x6 : Int64) (S : St) => itr (fun (q : Int32 × Int64 × Int32 × Int64 × St) k => s_X10_rootsModulo_77  (fun (x1 : Int32) (x3 : Int64) (x5 : Int32) (x6 : Int64) (S : St) => k (x1, x3, x5, x6, S)) q.1 q.2.1 q.2.2.1 q.2.2.2.1 q.2.2.2.2) n (x1, x3, x5, x6, S)) x1 x3 x5 x6 S = some (r, S') := hf
      refine lv_lload hx hb dX10_rootsModulo_77 (lv_at hl 4 rfl) ?_
      refine lv_lload_n hx hb dX10_rootsModulo_79 rfl (lv_at hl 2 rfl) ?_
      refine W.lcmp hx hb dX10_rootsModulo_80 ?_
      refine lv_if_ge (tgt := 117) hx hb dX10_rootsModulo_81 (by decide) (fun c1 => ?_) (fun c1 => ?_)
      · have hf := sp1 c1 hf
        refine lv_iload hx hb dX10_rootsModulo_117 (lv_at hl 3 rfl) ?_
        cases hf
        subst hQ
        exact he_i C hP hS dX10_rootsModulo_119
      · have hf := sp0 c1 hf
        refine lv_iload hx hb dX10_rootsModulo_84 (lv_at hl 3 rfl) ?_
        refine lv_aload_n hx hb dX10_rootsModulo_86 rfl (lv_at hl 0 rfl) ?_
        refine lv_iload_n hx hb dX10_rootsModulo_87 rfl (lv_at hl 1 rfl) ?_
        refine lv_lload hx hb dX10_rootsModulo_88 (lv_at hl 4 rfl) ?_
        refine lv_lload_n hx hb dX10_rootsModulo_90 rfl (lv_at hl 2 rfl) ?_
        refine lv_iconst (v := 0) hx hb dX10_rootsModulo_91 (by decide) ?_
        obtain ⟨v3, h2, hf⟩ := b1_some hf
        refine hc_V (As := [.int x1, .long x6, .long x3, .int 0]) (rest := [.int x5]) C hK (c_X10_valueAt l D ct ad F hG x1 x6 x3 0 S  v3 h2) hl.1 cp_X10_valueAt mw_7_28 (rc_X10 hK hP) hP hS ⟨rfl, rfl⟩ ⟨Nat.le_of_ble_eq_true rfl, Nat.le_of_ble_eq_true rfl⟩ rfl rfl (Nat.le_of_ble_eq_true rfl) dX10_rootsModulo_92 ⟨Nat.le_of_ble_eq_true rfl, Nat.le_of_ble_eq_true rfl⟩ (fun H locs hP hS => ?_)
        refine lv_lconst (v := 0) hx hb dX10_rootsModulo_95 (by decide) ?_
        refine W.lcmp hx hb dX10_rootsModulo_96 ?_
        refine lv_if_ne (tgt := 104) hx hb dX10_rootsModulo_97 (by decide) (fun c4 => ?_) (fun c4 => ?_)
        · have hf := sp0 c4 hf
          refine lv_iconst (v := 0) hx hb dX10_rootsModulo_104 (by decide) ?_
          refine lv_iadd hx hb dX10_rootsModulo_105 ?_
          refine lv_istore (lv' := [(5, .int (x5 + 0)), (0, .ref (ad 0)), (1, .int x1), (3, .long x3), (6, .long x6)]) hx hb dX10_rootsModulo_106 hl (by decide) rfl (fun ls hl => ?_)
          refine lv_lload hx hb dX10_rootsModulo_108 (lv_at hl 4 rfl) ?_
          refine lv_lconst (v := 1) hx hb dX10_rootsModulo_110 (by decide) ?_
          refine lv_ladd hx hb dX10_rootsModulo_111 ?_
          refine lv_lstore (lv' := [(6, .long (x6 + 1)), (5, .int (x5 + 0)), (0, .ref (ad 0)), (1, .int x1), (3, .long x3)]) hx hb dX10_rootsModulo_112 hl (by decide) rfl (fun ls hl => ?_)
          refine lv_goto (tgt := 77) hx hb dX10_rootsModulo_114 (by decide) ?_
          exact hk_77 x1 x3 (x5 + 0) (x6 + 1) S _ _ _ (lv_sub hl [2, 3, 4, 1, 0] rfl) hP hS hf
        · have hf := sp1 c4 hf
          refine lv_iconst (v := 1) hx hb dX10_rootsModulo_100 (by decide) ?_
          refine lv_goto (tgt := 105) hx hb dX10_rootsModulo_101 (by decide) ?_
          refine lv_iadd hx hb dX10_rootsModulo_105 ?_
          refine lv_istore (lv' := [(5, .int (x5 + 1)), (0, .ref (ad 0)), (1, .int x1), (3, .long x3), (6, .long x6)]) hx hb dX10_rootsModulo_106 hl (by decide) rfl (fun ls hl => ?_)
          refine lv_lload hx hb dX10_rootsModulo_108 (lv_at hl 4 rfl) ?_
          refine lv_lconst (v := 1) hx hb dX10_rootsModulo_110 (by decide) ?_
          refine lv_ladd hx hb dX10_rootsModulo_111 ?_
          refine lv_lstore (lv' := [(6, .long (x6 + 1)), (5, .int (x5 + 1)), (0, .ref (ad 0)), (1, .int x1), (3, .long x3)]) hx hb dX10_rootsModulo_112 hl (by decide) rfl (fun ls hl => ?_)
          refine lv_goto (tgt := 77) hx hb dX10_rootsModulo_114 (by decide) ?_
          exact hk_77 x1 x3 (x5 + 1) (x6 + 1) S _ _ _ (lv_sub hl [2, 3, 4, 1, 0] rfl) hP hS hf
    exact aux FU
  have w_62 : ∀ (x1 : Int32) (x3 : Int64) (y1 : Int32) (S : St), ∀ (H : Heap) (locs : List Loc) (ls : Array Slot), lv_has ls 8 [(0, .ref (ad 0)), (1, .int x1), (3, .long x3)] → va_P D vwCl (cellsM ct ad S) H → va_S F s.heap H locs → n_X10_rootsModulo_62 x1 x3 y1 S = some (r, S') → W p l e rm_X10_rootsModulo s m args below meth c H locs 0 0 Q (F0 m 62 ls [.int y1, .ref (ad 0)]) := by
    intro  x1 x3 y1 S H locs ls hl hP hS hf
    refine lv_iconst (v := 2) hx hb dX10_rootsModulo_62 (by decide) ?_
    obtain ⟨v6, S7, h5, hf⟩ := b2_some hf
    refine hc_V (As := [.int y1, .int 2]) (rest := []) C hK (c_X10_no l D ct ad F hG y1 2 S  v6 S7 h5) hl.1 cp_X10_no mw_6_21 (rc_X10 hK hP) hP hS ⟨rfl, rfl⟩ ⟨Nat.le_of_ble_eq_true rfl, Nat.le_of_ble_eq_true rfl⟩ rfl rfl (Nat.le_of_ble_eq_true rfl) dX10_rootsModulo_63 ⟨Nat.le_of_ble_eq_true rfl, Nat.le_of_ble_eq_true rfl⟩ (fun H locs hP hS => ?_)
    refine lv_if_eq (tgt := 71) hx hb dX10_rootsModulo_66 (by decide) (fun c8 => ?_) (fun c8 => ?_)
    · have hf := sp1 c8 hf
      refine lv_iconst (v := 0) hx hb dX10_rootsModulo_71 (by decide) ?_
      refine lv_istore (lv' := [(5, .int 0), (0, .ref (ad 0)), (1, .int x1), (3, .long x3)]) hx hb dX10_rootsModulo_72 hl (by decide) rfl (fun ls hl => ?_)
      refine lv_lconst (v := 0) hx hb dX10_rootsModulo_74 (by decide) ?_
      refine lv_lstore (lv' := [(6, .long 0), (5, .int 0), (0, .ref (ad 0)), (1, .int x1), (3, .long x3)]) hx hb dX10_rootsModulo_75 hl (by decide) rfl (fun ls hl => ?_)
      exact w_77 x1 x3 0 0 S7 _ _ _ (lv_sub hl [2, 3, 4, 1, 0] rfl) hP hS hf
    · have hf := sp0 c8 hf
      refine lv_iconst (v := 0) hx hb dX10_rootsModulo_69 (by decide) ?_
      cases hf
      subst hQ
      exact he_i C hP hS dX10_rootsModulo_70
  have w_43 : ∀ (x1 : Int32) (x2 : Int32) (x3 : Int64) (S : St), ∀ (H : Heap) (locs : List Loc) (ls : Array Slot), lv_has ls 8 [(0, .ref (ad 0)), (1, .int x1), (2, .int x2), (3, .long x3)] → va_P D vwCl (cellsM ct ad S) H → va_S F s.heap H locs → n_X10_rootsModulo_43 x1 x2 x3 S = some (r, S') → W p l e rm_X10_rootsModulo s m args below meth c H locs 0 0 Q (F0 m 43 ls []) := by
    intro  x1 x2 x3 S H locs ls hl hP hS hf
    refine lv_aload_n hx hb dX10_rootsModulo_43 rfl (lv_at hl 0 rfl) ?_
    refine lv_iload_n hx hb dX10_rootsModulo_44 rfl (lv_at hl 2 rfl) ?_
    refine lv_iconst (v := 1) hx hb dX10_rootsModulo_45 (by decide) ?_
    refine lv_icmp_lt (tgt := 61) hx hb dX10_rootsModulo_46 (by decide) (fun c9 => ?_) (fun c9 => ?_)
    · have hf := sp1 c9 hf
      refine lv_iconst (v := 0) hx hb dX10_rootsModulo_61 (by decide) ?_
      exact w_62 x1 x3 0 S _ _ _ (lv_sub hl [0, 1, 3] rfl) hP hS hf
    · have hf := sp0 c9 hf
      refine lv_lload_n hx hb dX10_rootsModulo_49 rfl (lv_at hl 3 rfl) ?_
      refine lv_ldc2 (v := 10000) hx hb hown (htL _ mw_6_230) dX10_rootsModulo_50 ?_
      refine W.lcmp hx hb dX10_rootsModulo_53 ?_
      refine lv_if_gt (tgt := 61) hx hb dX10_rootsModulo_54 (by decide) (fun c10 => ?_) (fun c10 => ?_)
      · have hf := sp1 c10 hf
        refine lv_iconst (v := 0) hx hb dX10_rootsModulo_61 (by decide) ?_
        exact w_62 x1 x3 0 S _ _ _ (lv_sub hl [0, 1, 3] rfl) hP hS hf
      · have hf := sp0 c10 hf
        refine lv_iconst (v := 1) hx hb dX10_rootsModulo_57 (by decide) ?_
        refine lv_goto (tgt := 62) hx hb dX10_rootsModulo_58 (by decide) ?_
        exact w_62 x1 x3 1 S _ _ _ (lv_sub hl [0, 1, 3] rfl) hP hS hf
  have w_15 : ∀ (x1 : Int32) (x2 : Int32) (x3 : Int64) (x5 : Int32) (S : St), ∀ (H : Heap) (locs : List Loc) (ls : Array Slot), lv_has ls 8 [(0, .ref (ad 0)), (1, .int x1), (2, .int x2), (3, .long x3), (5, .int x5)] → va_P D vwCl (cellsM ct ad S) H → va_S F s.heap H locs → n_X10_rootsModulo_15 x1 x2 x3 x5 S = some (r, S') → W p l e rm_X10_rootsModulo s m args below meth c H locs 0 0 Q (F0 m 15 ls []) := by
    have aux : ∀ (n : Nat), ∀ (x1 : Int32) (x2 : Int32) (x3 : Int64) (x5 : Int32) (S : St), ∀ (H : Heap) (locs : List Loc) (ls : Array Slot), lv_has ls 8 [(0, .ref (ad 0)), (1, .int x1), (2, .int x2), (3, .long x3), (5, .int x5)] → va_P D vwCl (cellsM ct ad S) H → va_S F s.heap H locs → itr (fun (q : Int32 × Int32 × Int64 × Int32 × St) k => s_X10_rootsModulo_15  (fun (x1 : Int32) (x2 : Int32) (x3 : Int64) (x5 : Int32) (S : St) => k (x1, x2, x3, x5, S)) q.1 q.2.1 q.2.2.1 q.2.2.2.1 q.2.2.2.2) n (x1, x2, x3, x5, S) = some (r, S') → W p l e rm_X10_rootsModulo s m args below meth c H locs 0 0 Q (F0 m 15 ls []) := by
      intro n
      induction n with
      | zero => intro x1 x2 x3 x5 S H locs ls hl hP hS hf; exact (itr_z hf).elim
      | succ n ih =>
      intro x1 x2 x3 x5 S H locs ls hl hP hS hf
      have hk_15 := ih
      have hf : s_X10_rootsModulo_15  (fun (x1 : Int32) (x2 : Int32) (x3 : Int64) (x5 : Int32) (S : St) => itr (fun (q : Int32 × Int32 × Int64 × Int32 × St) k => s_X10_rootsModulo_15  (fun (x1 : Int32) (x2 : Int32) (x3 : Int64) (x5 : Int32) (S : St) => k (x1, x2, x3, x5, S)) q.1 q.2.1 q.2.2.1 q.2.2.2.1 q.2.2.2.2) n (x1, x2, x3, x5, S)) x1 x2 x3 x5 S = some (r, S') := hf
      refine lv_iload hx hb dX10_rootsModulo_15 (lv_at hl 4 rfl) ?_
      refine lv_iload_n hx hb dX10_rootsModulo_17 rfl (lv_at hl 2 rfl) ?_
      refine lv_icmp_ge (tgt := 43) hx hb dX10_rootsModulo_18 (by decide) (fun c11 => ?_) (fun c11 => ?_)
      · have hf := sp1 c11 hf
        exact w_43 x1 x2 x3 S _ _ _ (lv_sub hl [0, 1, 2, 3] rfl) hP hS hf
      · have hf := sp0 c11 hf
        refine lv_lload_n hx hb dX10_rootsModulo_21 rfl (lv_at hl 3 rfl) ?_
        refine lv_ldc2 (v := 10000) hx hb hown (htL _ mw_6_230) dX10_rootsModulo_22 ?_
        refine W.lcmp hx hb dX10_rootsModulo_25 ?_
        refine lv_if_gt (tgt := 43) hx hb dX10_rootsModulo_26 (by decide) (fun c12 => ?_) (fun c12 => ?_)
        · have hf := sp1 c12 hf
          exact w_43 x1 x2 x3 S _ _ _ (lv_sub hl [0, 1, 2, 3] rfl) hP hS hf
        · have hf := sp0 c12 hf
          refine lv_lload_n hx hb dX10_rootsModulo_29 rfl (lv_at hl 3 rfl) ?_
          refine lv_aload_n hx hb dX10_rootsModulo_30 rfl (lv_at hl 0 rfl) ?_
          refine gf_X10_18 C hK hP mw_5_180 dX10_rootsModulo_31 ?_
          refine lv_i2l hx hb dX10_rootsModulo_34 rfl ?_
          refine lv_lmul hx hb dX10_rootsModulo_35 ?_
          refine lv_lstore_n (lv' := [(3, .long (x3 * (Int32.toInt64 (S.1 0 18)))), (0, .ref (ad 0)), (1, .int x1), (2, .int x2), (5, .int x5)]) hx hb dX10_rootsModulo_36 rfl hl (by decide) rfl (fun ls hl => ?_)
          refine lv_iinc (v := (x5 + 1)) (lv' := [(5, .int (x5 + 1)), (3, .long (x3 * (Int32.toInt64 (S.1 0 18)))), (0, .ref (ad 0)), (1, .int x1), (2, .int x2)]) hx hb dX10_rootsModulo_37 hl (k := 4) rfl rfl (by decide) rfl (fun ls hl => ?_)
          refine lv_goto (tgt := 15) hx hb dX10_rootsModulo_40 (by decide) ?_
          exact hk_15 x1 x2 (x3 * (Int32.toInt64 (S.1 0 18))) (x5 + 1) S _ _ _ (lv_sub hl [2, 3, 4, 1, 0] rfl) hP hS hf
    exact aux FU
  refine lv_aload_n hx hb dX10_rootsModulo_0 rfl (lv_at hl 0 rfl) ?_
  refine lv_iload_n hx hb dX10_rootsModulo_1 rfl (lv_at hl 1 rfl) ?_
  obtain ⟨v14, S15, h13, hf⟩ := b2_some hf
  refine hc_V (As := [.int p0]) (rest := []) C hK (c_X10_noPolynomial l D ct ad F hG p0 S0  v14 S15 h13) hl.1 cp_X10_noPolynomial mw_6_235 (rc_X10 hK hP) hP hS ⟨rfl, rfl⟩ ⟨Nat.le_of_ble_eq_true rfl, Nat.le_of_ble_eq_true rfl⟩ rfl rfl (Nat.le_of_ble_eq_true rfl) dX10_rootsModulo_2 ⟨Nat.le_of_ble_eq_true rfl, Nat.le_of_ble_eq_true rfl⟩ (fun H locs hP hS => ?_)
  refine lv_if_eq (tgt := 10) hx hb dX10_rootsModulo_5 (by decide) (fun c16 => ?_) (fun c16 => ?_)
  · have hf := sp1 c16 hf
    refine lv_lconst (v := 1) hx hb dX10_rootsModulo_10 (by decide) ?_
    refine lv_lstore_n (lv' := [(3, .long 1), (0, .ref (ad 0)), (1, .int p0), (2, .int p1)]) hx hb dX10_rootsModulo_11 rfl hl (by decide) rfl (fun ls hl => ?_)
    refine lv_iconst (v := 0) hx hb dX10_rootsModulo_12 (by decide) ?_
    refine lv_istore (lv' := [(5, .int 0), (3, .long 1), (0, .ref (ad 0)), (1, .int p0), (2, .int p1)]) hx hb dX10_rootsModulo_13 hl (by decide) rfl (fun ls hl => ?_)
    exact w_15 p0 p1 1 0 S15 _ _ _ (lv_sub hl [2, 3, 4, 1, 0] rfl) hP hS hf
  · have hf := sp0 c16 hf
    refine lv_iconst (v := 0) hx hb dX10_rootsModulo_8 (by decide) ?_
    cases hf
    subst hQ
    exact he_i C hP hS dX10_rootsModulo_9
theorem cp_X10_rootsModulo : CPv yX10_rootsModulo cX10_rootsModulo 8 (some .int) 2 := ⟨mw_7_43, mw_1_9, mw_7_41, mw_7_42, by decide +kernel⟩
def rm_X10_symbol : Room := { frames := 4, cells := 0, slots := 0, locals := 125 }
set_option maxHeartbeats 4000000 in
set_option maxRecDepth 100000 in
theorem c_X10_symbol (l : Launch) (D : va_G) (ct : Nat → ClassId) (ad : Nat → Nat) (F : Nat → Prop) (hG : Gd ad 18 F) (p0 : Int32) (p1 : Int32) (p2 : Int32) (S0 : St)  (r : Int32) (S' : St) (hf : f_X10_symbol p0 p1 p2 S0 = some (r, S')) : MetH l yX10_symbol cX10_symbol 4 (some .int) rm_X10_symbol D (tysW ct) F [.ref (ad 0), .int p0, .int p1, .int p2] (some (.int r)) (cellsM ct ad S0) (cellsM ct ad S') := by
  refine MetH.of RX10 (by decide) rfl (Nat.le_of_ble_eq_true rfl) ?_
  intro p e s m args below meth c C hK hP ls hl
  have hl : lv_has ls 4 [(0, .ref (ad 0)), (1, .int p0), (2, .int p1), (3, .int p2)] := hl
  obtain ⟨hx, hb, hr, hml, hown, htL, hlocks⟩ := id C
  have hS : va_S F s.heap s.heap [] := va_S.rf
  generalize hQ : MQ below (Hq D (cellsM ct ad S') F (some (.int r))) args s 0 0 F = Q
  have w_45 : ∀ (x1 : Int32) (x2 : Int32) (x3 : Int32) (y1 : Int32) (S : St), ∀ (H : Heap) (locs : List Loc) (ls : Array Slot), lv_has ls 4 [(1, .int x1), (2, .int x2), (3, .int x3)] → va_P D vwCl (cellsM ct ad S) H → va_S F s.heap H locs → n_X10_symbol_45 x1 x2 x3 y1 S = some (r, S') → W p l e rm_X10_symbol s m args below meth c H locs 0 0 Q (F0 m 45 ls [.int y1, .ref (ad 0)]) := by
    intro  x1 x2 x3 y1 S H locs ls hl hP hS hf
    refine lv_iconst (v := 1) hx hb dX10_symbol_45 (by decide) ?_
    obtain ⟨v2, S3, h1, hf⟩ := b2_some hf
    refine hc_V (As := [.int y1, .int 1]) (rest := []) C hK (c_X10_no l D ct ad F hG y1 1 S  v2 S3 h1) hl.1 cp_X10_no mw_6_21 (rc_X10 hK hP) hP hS ⟨rfl, rfl⟩ ⟨Nat.le_of_ble_eq_true rfl, Nat.le_of_ble_eq_true rfl⟩ rfl rfl (Nat.le_of_ble_eq_true rfl) dX10_symbol_46 ⟨Nat.le_of_ble_eq_true rfl, Nat.le_of_ble_eq_true rfl⟩ (fun H locs hP hS => ?_)
    refine lv_if_eq (tgt := 56) hx hb dX10_symbol_49 (by decide) (fun c4 => ?_) (fun c4 => ?_)
    · have hf := sp1 c4 hf
      refine lv_iload_n hx hb dX10_symbol_56 rfl (lv_at hl 0 rfl) ?_
      refine lv_iload_n hx hb dX10_symbol_57 rfl (lv_at hl 1 rfl) ?_
      refine lv_iload_n hx hb dX10_symbol_58 rfl (lv_at hl 2 rfl) ?_
      obtain ⟨v5, h6, hf⟩ := b1_some hf
      refine pc_S (As := [.int x1, .int x2, .int x3]) (rest := []) C (c_X10_symbolAt l x1 x2 x3 v5 h6) hl.1 cp_X10_symbolAt mw_7_51 ⟨rfl, rfl⟩ ⟨Nat.le_of_ble_eq_true rfl, Nat.le_of_ble_eq_true rfl⟩ rfl rfl (Nat.le_of_ble_eq_true rfl) dX10_symbol_59 ⟨Nat.le_of_ble_eq_true rfl, Nat.le_of_ble_eq_true rfl⟩ ?_
      cases hf
      subst hQ
      exact he_i C hP hS dX10_symbol_62
    · have hf := sp0 c4 hf
      refine lv_iconst (v := 0) hx hb dX10_symbol_52 (by decide) ?_
      refine lv_goto (tgt := 62) hx hb dX10_symbol_53 (by decide) ?_
      cases hf
      subst hQ
      exact he_i C hP hS dX10_symbol_62
  refine lv_aload_n hx hb dX10_symbol_0 rfl (lv_at hl 0 rfl) ?_
  refine lv_iload_n hx hb dX10_symbol_1 rfl (lv_at hl 1 rfl) ?_
  obtain ⟨v7, h8, hf⟩ := b1_some hf
  refine pc_S (As := [.int p0]) (rest := [.ref (ad 0)]) C (c_X10_isTold l p0 v7 h8) hl.1 cp_X10_isTold mw_7_48 ⟨rfl, rfl⟩ ⟨Nat.le_of_ble_eq_true rfl, Nat.le_of_ble_eq_true rfl⟩ rfl rfl (Nat.le_of_ble_eq_true rfl) dX10_symbol_2 ⟨Nat.le_of_ble_eq_true rfl, Nat.le_of_ble_eq_true rfl⟩ ?_
  refine lv_if_eq (tgt := 44) hx hb dX10_symbol_5 (by decide) (fun c9 => ?_) (fun c9 => ?_)
  · have hf := sp1 c9 hf
    refine lv_iconst (v := 0) hx hb dX10_symbol_44 (by decide) ?_
    exact w_45 p0 p1 p2 0 S0 _ _ _ (lv_sub hl [1, 2, 3] rfl) hP hS hf
  · have hf := sp0 c9 hf
    refine lv_iload_n hx hb dX10_symbol_8 rfl (lv_at hl 2 rfl) ?_
    obtain ⟨v10, h11, hf⟩ := b1_some hf
    refine pc_S (As := [.int p1]) (rest := [.ref (ad 0)]) C (c_X10_isTold l p1 v10 h11) hl.1 cp_X10_isTold mw_7_48 ⟨rfl, rfl⟩ ⟨Nat.le_of_ble_eq_true rfl, Nat.le_of_ble_eq_true rfl⟩ rfl rfl (Nat.le_of_ble_eq_true rfl) dX10_symbol_9 ⟨Nat.le_of_ble_eq_true rfl, Nat.le_of_ble_eq_true rfl⟩ ?_
    refine lv_if_eq (tgt := 44) hx hb dX10_symbol_12 (by decide) (fun c12 => ?_) (fun c12 => ?_)
    · have hf := sp1 c12 hf
      refine lv_iconst (v := 0) hx hb dX10_symbol_44 (by decide) ?_
      exact w_45 p0 p1 p2 0 S0 _ _ _ (lv_sub hl [1, 2, 3] rfl) hP hS hf
    · have hf := sp0 c12 hf
      refine lv_iload_n hx hb dX10_symbol_15 rfl (lv_at hl 3 rfl) ?_
      refine lv_if_eq (tgt := 40) hx hb dX10_symbol_16 (by decide) (fun c13 => ?_) (fun c13 => ?_)
      · have hf := sp1 c13 hf
        refine lv_iconst (v := 1) hx hb dX10_symbol_40 (by decide) ?_
        refine lv_goto (tgt := 45) hx hb dX10_symbol_41 (by decide) ?_
        exact w_45 p0 p1 p2 1 S0 _ _ _ (lv_sub hl [1, 2, 3] rfl) hP hS hf
      · have hf := sp0 c13 hf
        refine lv_iload_n hx hb dX10_symbol_19 rfl (lv_at hl 3 rfl) ?_
        refine lv_i2l hx hb dX10_symbol_20 rfl ?_
        refine lv_ldc2 (v := 2) hx hb hown (htL _ mw_6_13) dX10_symbol_21 ?_
        refine lv_ldc2 (v := 10000) hx hb hown (htL _ mw_6_230) dX10_symbol_24 ?_
        obtain ⟨v14, h15, hf⟩ := b1_some hf
        refine pc_S (As := [.long (Int32.toInt64 p2), .long (2), .long (10000)]) (rest := [.ref (ad 0)]) C (c_X10_isIn l (Int32.toInt64 p2) (2) (10000) v14 h15) hl.1 cp_X10_isIn mw_6_15 ⟨rfl, rfl⟩ ⟨Nat.le_of_ble_eq_true rfl, Nat.le_of_ble_eq_true rfl⟩ rfl rfl (Nat.le_of_ble_eq_true rfl) dX10_symbol_27 ⟨Nat.le_of_ble_eq_true rfl, Nat.le_of_ble_eq_true rfl⟩ ?_
        refine lv_if_eq (tgt := 44) hx hb dX10_symbol_30 (by decide) (fun c16 => ?_) (fun c16 => ?_)
        · have hf := sp1 c16 hf
          refine lv_iconst (v := 0) hx hb dX10_symbol_44 (by decide) ?_
          exact w_45 p0 p1 p2 0 S0 _ _ _ (lv_sub hl [1, 2, 3] rfl) hP hS hf
        · have hf := sp0 c16 hf
          refine lv_iload_n hx hb dX10_symbol_33 rfl (lv_at hl 3 rfl) ?_
          obtain ⟨v17, h18, hf⟩ := b1_some hf
          refine pc_S (As := [.int p2]) (rest := [.ref (ad 0)]) C (c_X10_isPrime l p2 v17 h18) hl.1 cp_X10_isPrime mw_6_18 ⟨rfl, rfl⟩ ⟨Nat.le_of_ble_eq_true rfl, Nat.le_of_ble_eq_true rfl⟩ rfl rfl (Nat.le_of_ble_eq_true rfl) dX10_symbol_34 ⟨Nat.le_of_ble_eq_true rfl, Nat.le_of_ble_eq_true rfl⟩ ?_
          refine lv_if_eq (tgt := 44) hx hb dX10_symbol_37 (by decide) (fun c19 => ?_) (fun c19 => ?_)
          · have hf := sp1 c19 hf
            refine lv_iconst (v := 0) hx hb dX10_symbol_44 (by decide) ?_
            exact w_45 p0 p1 p2 0 S0 _ _ _ (lv_sub hl [1, 2, 3] rfl) hP hS hf
          · have hf := sp0 c19 hf
            refine lv_iconst (v := 1) hx hb dX10_symbol_40 (by decide) ?_
            refine lv_goto (tgt := 45) hx hb dX10_symbol_41 (by decide) ?_
            exact w_45 p0 p1 p2 1 S0 _ _ _ (lv_sub hl [1, 2, 3] rfl) hP hS hf
theorem cp_X10_symbol : CPv yX10_symbol cX10_symbol 4 (some .int) 3 := ⟨mw_7_47, mw_1_9, mw_7_45, mw_7_46, by decide +kernel⟩
def rm_X10_obstacle : Room := { frames := 4, cells := 0, slots := 0, locals := 125 }
set_option maxHeartbeats 4000000 in
set_option maxRecDepth 100000 in
theorem c_X10_obstacle (l : Launch) (D : va_G) (ct : Nat → ClassId) (ad : Nat → Nat) (F : Nat → Prop) (hG : Gd ad 18 F) (p0 : Int32) (p1 : Int32) (S0 : St)  (r : Int32) (S' : St) (hf : f_X10_obstacle p0 p1 S0 = some (r, S')) : MetH l yX10_obstacle cX10_obstacle 5 (some .int) rm_X10_obstacle D (tysW ct) F [.ref (ad 0), .int p0, .int p1] (some (.int r)) (cellsM ct ad S0) (cellsM ct ad S') := by
  refine MetH.of RX10 (by decide) rfl (Nat.le_of_ble_eq_true rfl) ?_
  intro p e s m args below meth c C hK hP ls hl
  have hl : lv_has ls 5 [(0, .ref (ad 0)), (1, .int p0), (2, .int p1)] := hl
  obtain ⟨hx, hb, hr, hml, hown, htL, hlocks⟩ := id C
  have hS : va_S F s.heap s.heap [] := va_S.rf
  generalize hQ : MQ below (Hq D (cellsM ct ad S') F (some (.int r))) args s 0 0 F = Q
  have w_71 : ∀ (k_31 : Int32 → Int32 → Int32 → St → Option (Int32 × St)) (hk_31 : ∀ (x1 : Int32) (x2 : Int32) (x3 : Int32) (S : St), ∀ (H : Heap) (locs : List Loc) (ls : Array Slot), lv_has ls 5 [(0, .ref (ad 0)), (1, .int x1), (2, .int x2), (3, .int x3)] → va_P D vwCl (cellsM ct ad S) H → va_S F s.heap H locs → k_31 x1 x2 x3 S = some (r, S') → W p l e rm_X10_obstacle s m args below meth c H locs 0 0 Q (F0 m 31 ls [])), ∀ (x1 : Int32) (x2 : Int32) (x3 : Int32) (y0 : Int32) (S : St), ∀ (H : Heap) (locs : List Loc) (ls : Array Slot), lv_has ls 5 [(0, .ref (ad 0)), (1, .int x1), (2, .int x2), (3, .int x3)] → va_P D vwCl (cellsM ct ad S) H → va_S F s.heap H locs → n_X10_obstacle_71 k_31 x1 x2 x3 y0 S = some (r, S') → W p l e rm_X10_obstacle s m args below meth c H locs 0 0 Q (F0 m 71 ls [.int y0]) := by
    intro k_31 hk_31 x1 x2 x3 y0 S H locs ls hl hP hS hf
    refine lv_istore (lv' := [(4, .int y0), (0, .ref (ad 0)), (1, .int x1), (2, .int x2), (3, .int x3)]) hx hb dX10_obstacle_71 hl (by decide) rfl (fun ls hl => ?_)
    refine lv_iload hx hb dX10_obstacle_73 (lv_at hl 0 rfl) ?_
    refine lv_if_eq (tgt := 90) hx hb dX10_obstacle_75 (by decide) (fun c1 => ?_) (fun c1 => ?_)
    · have hf := sp1 c1 hf
      refine lv_iinc (v := (x3 + 1)) (lv' := [(3, .int (x3 + 1)), (4, .int y0), (0, .ref (ad 0)), (1, .int x1), (2, .int x2)]) hx hb dX10_obstacle_90 hl (k := 4) rfl rfl (by decide) rfl (fun ls hl => ?_)
      refine lv_goto (tgt := 31) hx hb dX10_obstacle_93 (by decide) ?_
      exact hk_31 x1 x2 (x3 + 1) S _ _ _ (lv_sub hl [2, 3, 4, 0] rfl) hP hS hf
    · have hf := sp0 c1 hf
      refine lv_iload_n hx hb dX10_obstacle_78 rfl (lv_at hl 2 rfl) ?_
      refine lv_iload_n hx hb dX10_obstacle_79 rfl (lv_at hl 3 rfl) ?_
      refine lv_iload_n hx hb dX10_obstacle_80 rfl (lv_at hl 4 rfl) ?_
      obtain ⟨v2, h3, hf⟩ := b1_some hf
      refine pc_S (As := [.int x1, .int x2, .int x3]) (rest := []) C (c_X10_symbolAt l x1 x2 x3 v2 h3) hl.1 cp_X10_symbolAt mw_7_51 ⟨rfl, rfl⟩ ⟨Nat.le_of_ble_eq_true rfl, Nat.le_of_ble_eq_true rfl⟩ rfl rfl (Nat.le_of_ble_eq_true rfl) dX10_obstacle_81 ⟨Nat.le_of_ble_eq_true rfl, Nat.le_of_ble_eq_true rfl⟩ ?_
      refine lv_iconst (v := (-1)) hx hb dX10_obstacle_84 (by decide) ?_
      refine lv_icmp_ne (tgt := 90) hx hb dX10_obstacle_85 (by decide) (fun c4 => ?_) (fun c4 => ?_)
      · have hf := sp0 c4 hf
        refine lv_iinc (v := (x3 + 1)) (lv' := [(3, .int (x3 + 1)), (4, .int y0), (0, .ref (ad 0)), (1, .int x1), (2, .int x2)]) hx hb dX10_obstacle_90 hl (k := 4) rfl rfl (by decide) rfl (fun ls hl => ?_)
        refine lv_goto (tgt := 31) hx hb dX10_obstacle_93 (by decide) ?_
        exact hk_31 x1 x2 (x3 + 1) S _ _ _ (lv_sub hl [2, 3, 4, 0] rfl) hP hS hf
      · have hf := sp1 c4 hf
        refine lv_iload_n hx hb dX10_obstacle_88 rfl (lv_at hl 4 rfl) ?_
        cases hf
        subst hQ
        exact he_i C hP hS dX10_obstacle_89
  have w_31 : ∀ (x1 : Int32) (x2 : Int32) (x3 : Int32) (S : St), ∀ (H : Heap) (locs : List Loc) (ls : Array Slot), lv_has ls 5 [(0, .ref (ad 0)), (1, .int x1), (2, .int x2), (3, .int x3)] → va_P D vwCl (cellsM ct ad S) H → va_S F s.heap H locs → n_X10_obstacle_31 x1 x2 x3 S = some (r, S') → W p l e rm_X10_obstacle s m args below meth c H locs 0 0 Q (F0 m 31 ls []) := by
    have aux : ∀ (n : Nat), ∀ (x1 : Int32) (x2 : Int32) (x3 : Int32) (S : St), ∀ (H : Heap) (locs : List Loc) (ls : Array Slot), lv_has ls 5 [(0, .ref (ad 0)), (1, .int x1), (2, .int x2), (3, .int x3)] → va_P D vwCl (cellsM ct ad S) H → va_S F s.heap H locs → itr (fun (q : Int32 × Int32 × Int32 × St) k => s_X10_obstacle_31  (fun (x1 : Int32) (x2 : Int32) (x3 : Int32) (S : St) => k (x1, x2, x3, S)) q.1 q.2.1 q.2.2.1 q.2.2.2) n (x1, x2, x3, S) = some (r, S') → W p l e rm_X10_obstacle s m args below meth c H locs 0 0 Q (F0 m 31 ls []) := by
      intro n
      induction n with
      | zero => intro x1 x2 x3 S H locs ls hl hP hS hf; exact (itr_z hf).elim
      | succ n ih =>
      intro x1 x2 x3 S H locs ls hl hP hS hf
      have hk_31 := ih
      have hf : s_X10_obstacle_31  (fun (x1 : Int32) (x2 : Int32) (x3 : Int32) (S : St) => itr (fun (q : Int32 × Int32 × Int32 × St) k => s_X10_obstacle_31  (fun (x1 : Int32) (x2 : Int32) (x3 : Int32) (S : St) => k (x1, x2, x3, S)) q.1 q.2.1 q.2.2.1 q.2.2.2) n (x1, x2, x3, S)) x1 x2 x3 S = some (r, S') := hf
      refine lv_iload_n hx hb dX10_obstacle_31 rfl (lv_at hl 3 rfl) ?_
      refine lv_sipush (v := 10000) hx hb dX10_obstacle_32 (by decide) ?_
      refine lv_icmp_gt (tgt := 96) hx hb dX10_obstacle_35 (by decide) (fun c5 => ?_) (fun c5 => ?_)
      · have hf := sp1 c5 hf
        refine lv_aload_n hx hb dX10_obstacle_96 rfl (lv_at hl 0 rfl) ?_
        refine lv_iconst (v := 2) hx hb dX10_obstacle_97 (by decide) ?_
        refine pf_X10_17 C hK hP hG hS mw_5_179 dX10_obstacle_98 (fun H locs hP hS => ?_)
        refine lv_iconst (v := 0) hx hb dX10_obstacle_101 (by decide) ?_
        cases hf
        subst hQ
        exact he_i C hP hS dX10_obstacle_102
      · have hf := sp0 c5 hf
        refine lv_iload_n hx hb dX10_obstacle_38 rfl (lv_at hl 3 rfl) ?_
        refine lv_if_eq (tgt := 66) hx hb dX10_obstacle_39 (by decide) (fun c6 => ?_) (fun c6 => ?_)
        · have hf := sp1 c6 hf
          refine lv_iconst (v := 1) hx hb dX10_obstacle_66 (by decide) ?_
          refine lv_goto (tgt := 71) hx hb dX10_obstacle_67 (by decide) ?_
          exact w_71 _ hk_31 x1 x2 x3 1 S _ _ _ (lv_sub hl [0, 1, 2, 3] rfl) hP hS hf
        · have hf := sp0 c6 hf
          refine lv_iload_n hx hb dX10_obstacle_42 rfl (lv_at hl 3 rfl) ?_
          obtain ⟨v7, h8, hf⟩ := b1_some hf
          refine pc_S (As := [.int x3]) (rest := []) C (c_X10_isPrime l x3 v7 h8) hl.1 cp_X10_isPrime mw_6_18 ⟨rfl, rfl⟩ ⟨Nat.le_of_ble_eq_true rfl, Nat.le_of_ble_eq_true rfl⟩ rfl rfl (Nat.le_of_ble_eq_true rfl) dX10_obstacle_43 ⟨Nat.le_of_ble_eq_true rfl, Nat.le_of_ble_eq_true rfl⟩ ?_
          refine lv_if_eq (tgt := 70) hx hb dX10_obstacle_46 (by decide) (fun c9 => ?_) (fun c9 => ?_)
          · have hf := sp1 c9 hf
            refine lv_iconst (v := 0) hx hb dX10_obstacle_70 (by decide) ?_
            exact w_71 _ hk_31 x1 x2 x3 0 S _ _ _ (lv_sub hl [0, 1, 2, 3] rfl) hP hS hf
          · have hf := sp0 c9 hf
            refine lv_iload_n hx hb dX10_obstacle_49 rfl (lv_at hl 3 rfl) ?_
            refine lv_iconst (v := 2) hx hb dX10_obstacle_50 (by decide) ?_
            refine lv_icmp_eq (tgt := 66) hx hb dX10_obstacle_51 (by decide) (fun c10 => ?_) (fun c10 => ?_)
            · have hf := sp1 c10 hf
              refine lv_iconst (v := 1) hx hb dX10_obstacle_66 (by decide) ?_
              refine lv_goto (tgt := 71) hx hb dX10_obstacle_67 (by decide) ?_
              exact w_71 _ hk_31 x1 x2 x3 1 S _ _ _ (lv_sub hl [0, 1, 2, 3] rfl) hP hS hf
            · have hf := sp0 c10 hf
              refine lv_iload_n hx hb dX10_obstacle_54 rfl (lv_at hl 1 rfl) ?_
              refine lv_iload_n hx hb dX10_obstacle_55 rfl (lv_at hl 3 rfl) ?_
              obtain ⟨c11, hf⟩ := spn hf
              refine lv_irem hx hb dX10_obstacle_56 c11 ?_
              refine lv_if_eq (tgt := 66) hx hb dX10_obstacle_57 (by decide) (fun c12 => ?_) (fun c12 => ?_)
              · have hf := sp1 c12 hf
                refine lv_iconst (v := 1) hx hb dX10_obstacle_66 (by decide) ?_
                refine lv_goto (tgt := 71) hx hb dX10_obstacle_67 (by decide) ?_
                exact w_71 _ hk_31 x1 x2 x3 1 S _ _ _ (lv_sub hl [0, 1, 2, 3] rfl) hP hS hf
              · have hf := sp0 c12 hf
                refine lv_iload_n hx hb dX10_obstacle_60 rfl (lv_at hl 2 rfl) ?_
                refine lv_iload_n hx hb dX10_obstacle_61 rfl (lv_at hl 3 rfl) ?_
                obtain ⟨c13, hf⟩ := spn hf
                refine lv_irem hx hb dX10_obstacle_62 c13 ?_
                refine lv_if_ne (tgt := 70) hx hb dX10_obstacle_63 (by decide) (fun c14 => ?_) (fun c14 => ?_)
                · have hf := sp0 c14 hf
                  refine lv_iconst (v := 0) hx hb dX10_obstacle_70 (by decide) ?_
                  exact w_71 _ hk_31 x1 x2 x3 0 S _ _ _ (lv_sub hl [0, 1, 2, 3] rfl) hP hS hf
                · have hf := sp1 c14 hf
                  refine lv_iconst (v := 1) hx hb dX10_obstacle_66 (by decide) ?_
                  refine lv_goto (tgt := 71) hx hb dX10_obstacle_67 (by decide) ?_
                  exact w_71 _ hk_31 x1 x2 x3 1 S _ _ _ (lv_sub hl [0, 1, 2, 3] rfl) hP hS hf
    exact aux FU
  have w_20 : ∀ (x1 : Int32) (x2 : Int32) (y1 : Int32) (S : St), ∀ (H : Heap) (locs : List Loc) (ls : Array Slot), lv_has ls 5 [(0, .ref (ad 0)), (1, .int x1), (2, .int x2)] → va_P D vwCl (cellsM ct ad S) H → va_S F s.heap H locs → n_X10_obstacle_20 x1 x2 y1 S = some (r, S') → W p l e rm_X10_obstacle s m args below meth c H locs 0 0 Q (F0 m 20 ls [.int y1, .ref (ad 0)]) := by
    intro  x1 x2 y1 S H locs ls hl hP hS hf
    refine lv_iconst (v := 1) hx hb dX10_obstacle_20 (by decide) ?_
    obtain ⟨v16, S17, h15, hf⟩ := b2_some hf
    refine hc_V (As := [.int y1, .int 1]) (rest := []) C hK (c_X10_no l D ct ad F hG y1 1 S  v16 S17 h15) hl.1 cp_X10_no mw_6_21 (rc_X10 hK hP) hP hS ⟨rfl, rfl⟩ ⟨Nat.le_of_ble_eq_true rfl, Nat.le_of_ble_eq_true rfl⟩ rfl rfl (Nat.le_of_ble_eq_true rfl) dX10_obstacle_21 ⟨Nat.le_of_ble_eq_true rfl, Nat.le_of_ble_eq_true rfl⟩ (fun H locs hP hS => ?_)
    refine lv_if_eq (tgt := 29) hx hb dX10_obstacle_24 (by decide) (fun c18 => ?_) (fun c18 => ?_)
    · have hf := sp1 c18 hf
      refine lv_iconst (v := 0) hx hb dX10_obstacle_29 (by decide) ?_
      refine lv_istore_n (lv' := [(3, .int 0), (0, .ref (ad 0)), (1, .int x1), (2, .int x2)]) hx hb dX10_obstacle_30 rfl hl (by decide) rfl (fun ls hl => ?_)
      exact w_31 x1 x2 0 S17 _ _ _ (lv_sub hl [1, 2, 3, 0] rfl) hP hS hf
    · have hf := sp0 c18 hf
      refine lv_iconst (v := 0) hx hb dX10_obstacle_27 (by decide) ?_
      cases hf
      subst hQ
      exact he_i C hP hS dX10_obstacle_28
  refine lv_aload_n hx hb dX10_obstacle_0 rfl (lv_at hl 0 rfl) ?_
  refine lv_iload_n hx hb dX10_obstacle_1 rfl (lv_at hl 1 rfl) ?_
  obtain ⟨v19, h20, hf⟩ := b1_some hf
  refine pc_S (As := [.int p0]) (rest := [.ref (ad 0)]) C (c_X10_isTold l p0 v19 h20) hl.1 cp_X10_isTold mw_7_48 ⟨rfl, rfl⟩ ⟨Nat.le_of_ble_eq_true rfl, Nat.le_of_ble_eq_true rfl⟩ rfl rfl (Nat.le_of_ble_eq_true rfl) dX10_obstacle_2 ⟨Nat.le_of_ble_eq_true rfl, Nat.le_of_ble_eq_true rfl⟩ ?_
  refine lv_if_eq (tgt := 19) hx hb dX10_obstacle_5 (by decide) (fun c21 => ?_) (fun c21 => ?_)
  · have hf := sp1 c21 hf
    refine lv_iconst (v := 0) hx hb dX10_obstacle_19 (by decide) ?_
    exact w_20 p0 p1 0 S0 _ _ _ (lv_sub hl [0, 1, 2] rfl) hP hS hf
  · have hf := sp0 c21 hf
    refine lv_iload_n hx hb dX10_obstacle_8 rfl (lv_at hl 2 rfl) ?_
    obtain ⟨v22, h23, hf⟩ := b1_some hf
    refine pc_S (As := [.int p1]) (rest := [.ref (ad 0)]) C (c_X10_isTold l p1 v22 h23) hl.1 cp_X10_isTold mw_7_48 ⟨rfl, rfl⟩ ⟨Nat.le_of_ble_eq_true rfl, Nat.le_of_ble_eq_true rfl⟩ rfl rfl (Nat.le_of_ble_eq_true rfl) dX10_obstacle_9 ⟨Nat.le_of_ble_eq_true rfl, Nat.le_of_ble_eq_true rfl⟩ ?_
    refine lv_if_eq (tgt := 19) hx hb dX10_obstacle_12 (by decide) (fun c24 => ?_) (fun c24 => ?_)
    · have hf := sp1 c24 hf
      refine lv_iconst (v := 0) hx hb dX10_obstacle_19 (by decide) ?_
      exact w_20 p0 p1 0 S0 _ _ _ (lv_sub hl [0, 1, 2] rfl) hP hS hf
    · have hf := sp0 c24 hf
      refine lv_iconst (v := 1) hx hb dX10_obstacle_15 (by decide) ?_
      refine lv_goto (tgt := 20) hx hb dX10_obstacle_16 (by decide) ?_
      exact w_20 p0 p1 1 S0 _ _ _ (lv_sub hl [0, 1, 2] rfl) hP hS hf
theorem cp_X10_obstacle : CPv yX10_obstacle cX10_obstacle 5 (some .int) 2 := ⟨mw_7_63, mw_1_9, mw_7_61, mw_7_62, by decide +kernel⟩
def rm_X10_setSize : Room := { frames := 1, cells := 0, slots := 0, locals := 29 }
set_option maxHeartbeats 4000000 in
set_option maxRecDepth 100000 in
theorem c_X10_setSize (l : Launch) (D : va_G) (ct : Nat → ClassId) (ad : Nat → Nat) (F : Nat → Prop) (hG : Gd ad 18 F) (p0 : Int32) (S0 : St)  (r : Int32) (S' : St) (hf : f_X10_setSize p0 S0 = some (r, S')) : MetH l yX10_setSize cX10_setSize 4 (some .int) rm_X10_setSize D (tysW ct) F [.ref (ad 0), .int p0] (some (.int r)) (cellsM ct ad S0) (cellsM ct ad S') := by
  refine MetH.of RX10 (by decide) rfl (Nat.le_of_ble_eq_true rfl) ?_
  intro p e s m args below meth c C hK hP ls hl
  have hl : lv_has ls 4 [(0, .ref (ad 0)), (1, .int p0)] := hl
  obtain ⟨hx, hb, hr, hml, hown, htL, hlocks⟩ := id C
  have hS : va_S F s.heap s.heap [] := va_S.rf
  generalize hQ : MQ below (Hq D (cellsM ct ad S') F (some (.int r))) args s 0 0 F = Q
  have w_31 : ∀ (x2 : Int32) (x3 : Int32) (S : St), ∀ (H : Heap) (locs : List Loc) (ls : Array Slot), lv_has ls 4 [(0, .ref (ad 0)), (2, .int x2), (3, .int x3)] → va_P D vwCl (cellsM ct ad S) H → va_S F s.heap H locs → n_X10_setSize_31 x2 x3 S = some (r, S') → W p l e rm_X10_setSize s m args below meth c H locs 0 0 Q (F0 m 31 ls []) := by
    have aux : ∀ (n : Nat), ∀ (x2 : Int32) (x3 : Int32) (S : St), ∀ (H : Heap) (locs : List Loc) (ls : Array Slot), lv_has ls 4 [(0, .ref (ad 0)), (2, .int x2), (3, .int x3)] → va_P D vwCl (cellsM ct ad S) H → va_S F s.heap H locs → itr (fun (q : Int32 × Int32 × St) k => s_X10_setSize_31  (fun (x2 : Int32) (x3 : Int32) (S : St) => k (x2, x3, S)) q.1 q.2.1 q.2.2) n (x2, x3, S) = some (r, S') → W p l e rm_X10_setSize s m args below meth c H locs 0 0 Q (F0 m 31 ls []) := by
      intro n
      induction n with
      | zero => intro x2 x3 S H locs ls hl hP hS hf; exact (itr_z hf).elim
      | succ n ih =>
      intro x2 x3 S H locs ls hl hP hS hf
      have hk_31 := ih
      have hf : s_X10_setSize_31  (fun (x2 : Int32) (x3 : Int32) (S : St) => itr (fun (q : Int32 × Int32 × St) k => s_X10_setSize_31  (fun (x2 : Int32) (x3 : Int32) (S : St) => k (x2, x3, S)) q.1 q.2.1 q.2.2) n (x2, x3, S)) x2 x3 S = some (r, S') := hf
      refine lv_iload_n hx hb dX10_setSize_31 rfl (lv_at hl 2 rfl) ?_
      refine lv_bipush (v := 16) hx hb dX10_setSize_32 (by decide) ?_
      refine lv_icmp_ge (tgt := 50) hx hb dX10_setSize_34 (by decide) (fun c1 => ?_) (fun c1 => ?_)
      · have hf := sp1 c1 hf
        refine lv_iload_n hx hb dX10_setSize_50 rfl (lv_at hl 1 rfl) ?_
        cases hf
        subst hQ
        exact he_i C hP hS dX10_setSize_51
      · have hf := sp0 c1 hf
        refine lv_aload_n hx hb dX10_setSize_37 rfl (lv_at hl 0 rfl) ?_
        refine gf_X10_14 C hK hP mw_5_176 dX10_setSize_38 ?_
        refine lv_iload_n hx hb dX10_setSize_41 rfl (lv_at hl 2 rfl) ?_
        refine lv_iconst (v := 0) hx hb dX10_setSize_42 (by decide) ?_
        obtain ⟨c2, hf⟩ := spn hf
        refine as_M15 C hK hP hG hS c2 dX10_setSize_43 (fun H locs hP hS => ?_)
        refine lv_iinc (v := (x3 + 1)) (lv' := [(3, .int (x3 + 1)), (0, .ref (ad 0)), (2, .int x2)]) hx hb dX10_setSize_44 hl (k := 2) rfl rfl (by decide) rfl (fun ls hl => ?_)
        refine lv_goto (tgt := 31) hx hb dX10_setSize_47 (by decide) ?_
        exact hk_31 x2 (x3 + 1) (wI S 15 (Int32.toNatClampNeg x3) 0) _ _ _ (lv_sub hl [1, 2, 0] rfl) hP hS hf
    exact aux FU
  refine lv_aload_n hx hb dX10_setSize_0 rfl (lv_at hl 0 rfl) ?_
  refine lv_iload_n hx hb dX10_setSize_1 rfl (lv_at hl 1 rfl) ?_
  refine lv_i2l hx hb dX10_setSize_2 rfl ?_
  refine lv_lconst (v := 1) hx hb dX10_setSize_3 (by decide) ?_
  refine lv_ldc2 (v := 4) hx hb hown (htL _ mw_7_54) dX10_setSize_4 ?_
  obtain ⟨v3, h4, hf⟩ := b1_some hf
  refine pc_S (As := [.long (Int32.toInt64 p0), .long 1, .long (4)]) (rest := [.ref (ad 0)]) C (c_X10_isIn l (Int32.toInt64 p0) 1 (4) v3 h4) hl.1 cp_X10_isIn mw_6_15 ⟨rfl, rfl⟩ ⟨Nat.le_of_ble_eq_true rfl, Nat.le_of_ble_eq_true rfl⟩ rfl rfl (Nat.le_of_ble_eq_true rfl) dX10_setSize_7 ⟨Nat.le_of_ble_eq_true rfl, Nat.le_of_ble_eq_true rfl⟩ ?_
  refine lv_iconst (v := 1) hx hb dX10_setSize_10 (by decide) ?_
  obtain ⟨v6, S7, h5, hf⟩ := b2_some hf
  refine hc_V (As := [.int v3, .int 1]) (rest := []) C hK (c_X10_no l D ct ad F hG v3 1 S0  v6 S7 h5) hl.1 cp_X10_no mw_6_21 (rc_X10 hK hP) hP hS ⟨rfl, rfl⟩ ⟨Nat.le_of_ble_eq_true rfl, Nat.le_of_ble_eq_true rfl⟩ rfl rfl (Nat.le_of_ble_eq_true rfl) dX10_setSize_11 ⟨Nat.le_of_ble_eq_true rfl, Nat.le_of_ble_eq_true rfl⟩ (fun H locs hP hS => ?_)
  refine lv_if_eq (tgt := 19) hx hb dX10_setSize_14 (by decide) (fun c8 => ?_) (fun c8 => ?_)
  · have hf := sp1 c8 hf
    refine lv_aload_n hx hb dX10_setSize_19 rfl (lv_at hl 0 rfl) ?_
    refine gf_X10_22 C hK hP mw_5_184 dX10_setSize_20 ?_
    refine lv_istore_n (lv' := [(2, .int (S7.1 0 22)), (0, .ref (ad 0)), (1, .int p0)]) hx hb dX10_setSize_23 rfl hl (by decide) rfl (fun ls hl => ?_)
    refine lv_aload_n hx hb dX10_setSize_24 rfl (lv_at hl 1 rfl) ?_
    refine lv_iload_n hx hb dX10_setSize_25 rfl (lv_at hl 2 rfl) ?_
    refine pf_X10_22 C hK hP hG hS mw_5_184 dX10_setSize_26 (fun H locs hP hS => ?_)
    refine lv_iconst (v := 0) hx hb dX10_setSize_29 (by decide) ?_
    refine lv_istore_n (lv' := [(3, .int 0), (2, .int (S7.1 0 22)), (0, .ref (ad 0)), (1, .int p0)]) hx hb dX10_setSize_30 rfl hl (by decide) rfl (fun ls hl => ?_)
    exact w_31 (S7.1 0 22) 0 (wI S7 0 22 p0) _ _ _ (lv_sub hl [2, 1, 0] rfl) hP hS hf
  · have hf := sp0 c8 hf
    refine lv_iconst (v := 0) hx hb dX10_setSize_17 (by decide) ?_
    cases hf
    subst hQ
    exact he_i C hP hS dX10_setSize_18
theorem cp_X10_setSize : CPv yX10_setSize cX10_setSize 4 (some .int) 1 := ⟨mw_7_67, mw_1_9, mw_7_65, mw_7_66, by decide +kernel⟩
def rm_X10_setEntry : Room := { frames := 1, cells := 0, slots := 0, locals := 29 }
set_option maxHeartbeats 4000000 in
set_option maxRecDepth 100000 in
theorem c_X10_setEntry (l : Launch) (D : va_G) (ct : Nat → ClassId) (ad : Nat → Nat) (F : Nat → Prop) (hG : Gd ad 18 F) (p0 : Int32) (p1 : Int32) (p2 : Int32) (S0 : St)  (r : Int32) (S' : St) (hf : f_X10_setEntry p0 p1 p2 S0 = some (r, S')) : MetH l yX10_setEntry cX10_setEntry 5 (some .int) rm_X10_setEntry D (tysW ct) F [.ref (ad 0), .int p0, .int p1, .int p2] (some (.int r)) (cellsM ct ad S0) (cellsM ct ad S') := by
  refine MetH.of RX10 (by decide) rfl (Nat.le_of_ble_eq_true rfl) ?_
  intro p e s m args below meth c C hK hP ls hl
  have hl : lv_has ls 5 [(0, .ref (ad 0)), (1, .int p0), (2, .int p1), (3, .int p2)] := hl
  obtain ⟨hx, hb, hr, hml, hown, htL, hlocks⟩ := id C
  have hS : va_S F s.heap s.heap [] := va_S.rf
  generalize hQ : MQ below (Hq D (cellsM ct ad S') F (some (.int r))) args s 0 0 F = Q
  have w_38 : ∀ (x1 : Int32) (x2 : Int32) (x3 : Int32) (y1 : Int32) (S : St), ∀ (H : Heap) (locs : List Loc) (ls : Array Slot), lv_has ls 5 [(0, .ref (ad 0)), (1, .int x1), (2, .int x2), (3, .int x3)] → va_P D vwCl (cellsM ct ad S) H → va_S F s.heap H locs → n_X10_setEntry_38 x1 x2 x3 y1 S = some (r, S') → W p l e rm_X10_setEntry s m args below meth c H locs 0 0 Q (F0 m 38 ls [.int y1, .ref (ad 0)]) := by
    intro  x1 x2 x3 y1 S H locs ls hl hP hS hf
    refine lv_iconst (v := 1) hx hb dX10_setEntry_38 (by decide) ?_
    obtain ⟨v2, S3, h1, hf⟩ := b2_some hf
    refine hc_V (As := [.int y1, .int 1]) (rest := []) C hK (c_X10_no l D ct ad F hG y1 1 S  v2 S3 h1) hl.1 cp_X10_no mw_6_21 (rc_X10 hK hP) hP hS ⟨rfl, rfl⟩ ⟨Nat.le_of_ble_eq_true rfl, Nat.le_of_ble_eq_true rfl⟩ rfl rfl (Nat.le_of_ble_eq_true rfl) dX10_setEntry_39 ⟨Nat.le_of_ble_eq_true rfl, Nat.le_of_ble_eq_true rfl⟩ (fun H locs hP hS => ?_)
    refine lv_if_ne (tgt := 64) hx hb dX10_setEntry_42 (by decide) (fun c4 => ?_) (fun c4 => ?_)
    · have hf := sp0 c4 hf
      refine lv_iconst (v := 0) hx hb dX10_setEntry_64 (by decide) ?_
      cases hf
      subst hQ
      exact he_i C hP hS dX10_setEntry_65
    · have hf := sp1 c4 hf
      refine lv_aload_n hx hb dX10_setEntry_45 rfl (lv_at hl 0 rfl) ?_
      refine lv_iload_n hx hb dX10_setEntry_46 rfl (lv_at hl 3 rfl) ?_
      refine lv_i2l hx hb dX10_setEntry_47 rfl ?_
      refine lv_ldc2 (v := -999) hx hb hown (htL _ mw_7_72) dX10_setEntry_48 ?_
      refine lv_ldc2 (v := 999) hx hb hown (htL _ mw_7_73) dX10_setEntry_51 ?_
      obtain ⟨v5, h6, hf⟩ := b1_some hf
      refine pc_S (As := [.long (Int32.toInt64 x3), .long (-999), .long (999)]) (rest := [.ref (ad 0)]) C (c_X10_isIn l (Int32.toInt64 x3) (-999) (999) v5 h6) hl.1 cp_X10_isIn mw_6_15 ⟨rfl, rfl⟩ ⟨Nat.le_of_ble_eq_true rfl, Nat.le_of_ble_eq_true rfl⟩ rfl rfl (Nat.le_of_ble_eq_true rfl) dX10_setEntry_54 ⟨Nat.le_of_ble_eq_true rfl, Nat.le_of_ble_eq_true rfl⟩ ?_
      refine lv_iconst (v := 2) hx hb dX10_setEntry_57 (by decide) ?_
      obtain ⟨v8, S9, h7, hf⟩ := b2_some hf
      refine hc_V (As := [.int v5, .int 2]) (rest := []) C hK (c_X10_no l D ct ad F hG v5 2 S3  v8 S9 h7) hl.1 cp_X10_no mw_6_21 (rc_X10 hK hP) hP hS ⟨rfl, rfl⟩ ⟨Nat.le_of_ble_eq_true rfl, Nat.le_of_ble_eq_true rfl⟩ rfl rfl (Nat.le_of_ble_eq_true rfl) dX10_setEntry_58 ⟨Nat.le_of_ble_eq_true rfl, Nat.le_of_ble_eq_true rfl⟩ (fun H locs hP hS => ?_)
      refine lv_if_eq (tgt := 66) hx hb dX10_setEntry_61 (by decide) (fun c10 => ?_) (fun c10 => ?_)
      · have hf := sp1 c10 hf
        refine lv_aload_n hx hb dX10_setEntry_66 rfl (lv_at hl 0 rfl) ?_
        refine gf_X10_14 C hK hP mw_5_176 dX10_setEntry_67 ?_
        refine lv_iconst (v := 4) hx hb dX10_setEntry_70 (by decide) ?_
        refine lv_iload_n hx hb dX10_setEntry_71 rfl (lv_at hl 1 rfl) ?_
        refine lv_imul hx hb dX10_setEntry_72 ?_
        refine lv_iload_n hx hb dX10_setEntry_73 rfl (lv_at hl 2 rfl) ?_
        refine lv_iadd hx hb dX10_setEntry_74 ?_
        obtain ⟨c11, hf⟩ := spn hf
        refine al_M15 C hK hP c11 dX10_setEntry_75 ?_
        refine lv_istore (lv' := [(4, .int (S9.1 15 (Int32.toNatClampNeg ((4 * x1) + x2)))), (0, .ref (ad 0)), (1, .int x1), (2, .int x2), (3, .int x3)]) hx hb dX10_setEntry_76 hl (by decide) rfl (fun ls hl => ?_)
        refine lv_aload_n hx hb dX10_setEntry_78 rfl (lv_at hl 1 rfl) ?_
        refine gf_X10_14 C hK hP mw_5_176 dX10_setEntry_79 ?_
        refine lv_iconst (v := 4) hx hb dX10_setEntry_82 (by decide) ?_
        refine lv_iload_n hx hb dX10_setEntry_83 rfl (lv_at hl 2 rfl) ?_
        refine lv_imul hx hb dX10_setEntry_84 ?_
        refine lv_iload_n hx hb dX10_setEntry_85 rfl (lv_at hl 3 rfl) ?_
        refine lv_iadd hx hb dX10_setEntry_86 ?_
        refine lv_iload_n hx hb dX10_setEntry_87 rfl (lv_at hl 4 rfl) ?_
        obtain ⟨c12, hf⟩ := spn hf
        refine as_M15 C hK hP hG hS c12 dX10_setEntry_88 (fun H locs hP hS => ?_)
        refine lv_iload hx hb dX10_setEntry_89 (lv_at hl 0 rfl) ?_
        cases hf
        subst hQ
        exact he_i C hP hS dX10_setEntry_91
      · have hf := sp0 c10 hf
        refine lv_iconst (v := 0) hx hb dX10_setEntry_64 (by decide) ?_
        cases hf
        subst hQ
        exact he_i C hP hS dX10_setEntry_65
  refine lv_aload_n hx hb dX10_setEntry_0 rfl (lv_at hl 0 rfl) ?_
  refine lv_iload_n hx hb dX10_setEntry_1 rfl (lv_at hl 1 rfl) ?_
  refine lv_i2l hx hb dX10_setEntry_2 rfl ?_
  refine lv_lconst (v := 0) hx hb dX10_setEntry_3 (by decide) ?_
  refine lv_aload_n hx hb dX10_setEntry_4 rfl (lv_at hl 0 rfl) ?_
  refine gf_X10_22 C hK hP mw_5_184 dX10_setEntry_5 ?_
  refine lv_iconst (v := 1) hx hb dX10_setEntry_8 (by decide) ?_
  refine lv_isub hx hb dX10_setEntry_9 ?_
  refine lv_i2l hx hb dX10_setEntry_10 rfl ?_
  obtain ⟨v13, h14, hf⟩ := b1_some hf
  refine pc_S (As := [.long (Int32.toInt64 p0), .long 0, .long (Int32.toInt64 ((S0.1 0 22) - 1))]) (rest := [.ref (ad 0)]) C (c_X10_isIn l (Int32.toInt64 p0) 0 (Int32.toInt64 ((S0.1 0 22) - 1)) v13 h14) hl.1 cp_X10_isIn mw_6_15 ⟨rfl, rfl⟩ ⟨Nat.le_of_ble_eq_true rfl, Nat.le_of_ble_eq_true rfl⟩ rfl rfl (Nat.le_of_ble_eq_true rfl) dX10_setEntry_11 ⟨Nat.le_of_ble_eq_true rfl, Nat.le_of_ble_eq_true rfl⟩ ?_
  refine lv_if_eq (tgt := 37) hx hb dX10_setEntry_14 (by decide) (fun c15 => ?_) (fun c15 => ?_)
  · have hf := sp1 c15 hf
    refine lv_iconst (v := 0) hx hb dX10_setEntry_37 (by decide) ?_
    exact w_38 p0 p1 p2 0 S0 _ _ _ (lv_sub hl [0, 1, 2, 3] rfl) hP hS hf
  · have hf := sp0 c15 hf
    refine lv_iload_n hx hb dX10_setEntry_17 rfl (lv_at hl 2 rfl) ?_
    refine lv_i2l hx hb dX10_setEntry_18 rfl ?_
    refine lv_lconst (v := 0) hx hb dX10_setEntry_19 (by decide) ?_
    refine lv_aload_n hx hb dX10_setEntry_20 rfl (lv_at hl 0 rfl) ?_
    refine gf_X10_22 C hK hP mw_5_184 dX10_setEntry_21 ?_
    refine lv_iconst (v := 1) hx hb dX10_setEntry_24 (by decide) ?_
    refine lv_isub hx hb dX10_setEntry_25 ?_
    refine lv_i2l hx hb dX10_setEntry_26 rfl ?_
    obtain ⟨v16, h17, hf⟩ := b1_some hf
    refine pc_S (As := [.long (Int32.toInt64 p1), .long 0, .long (Int32.toInt64 ((S0.1 0 22) - 1))]) (rest := [.ref (ad 0)]) C (c_X10_isIn l (Int32.toInt64 p1) 0 (Int32.toInt64 ((S0.1 0 22) - 1)) v16 h17) hl.1 cp_X10_isIn mw_6_15 ⟨rfl, rfl⟩ ⟨Nat.le_of_ble_eq_true rfl, Nat.le_of_ble_eq_true rfl⟩ rfl rfl (Nat.le_of_ble_eq_true rfl) dX10_setEntry_27 ⟨Nat.le_of_ble_eq_true rfl, Nat.le_of_ble_eq_true rfl⟩ ?_
    refine lv_if_eq (tgt := 37) hx hb dX10_setEntry_30 (by decide) (fun c18 => ?_) (fun c18 => ?_)
    · have hf := sp1 c18 hf
      refine lv_iconst (v := 0) hx hb dX10_setEntry_37 (by decide) ?_
      exact w_38 p0 p1 p2 0 S0 _ _ _ (lv_sub hl [0, 1, 2, 3] rfl) hP hS hf
    · have hf := sp0 c18 hf
      refine lv_iconst (v := 1) hx hb dX10_setEntry_33 (by decide) ?_
      refine lv_goto (tgt := 38) hx hb dX10_setEntry_34 (by decide) ?_
      exact w_38 p0 p1 p2 1 S0 _ _ _ (lv_sub hl [0, 1, 2, 3] rfl) hP hS hf
theorem cp_X10_setEntry : CPv yX10_setEntry cX10_setEntry 5 (some .int) 3 := ⟨mw_7_71, mw_1_9, mw_7_69, mw_7_70, by decide +kernel⟩
def rm_X10_minor : Room := { frames := 1, cells := 0, slots := 0, locals := 27 }
set_option maxHeartbeats 4000000 in
set_option maxRecDepth 100000 in
theorem c_X10_minor (l : Launch) (D : va_G) (ct : Nat → ClassId) (ad : Nat → Nat) (F : Nat → Prop) (hG : Gd ad 18 F) (p0 : Int32) (p1 : Int32) (S0 : St)  (r : Int64) (hf : f_X10_minor p0 p1 S0 = some r) : MetH l yX10_minor cX10_minor 16 (some .long) rm_X10_minor D (tysW ct) F [.ref (ad 0), .int p0, .int p1] (some (.long r)) (cellsM ct ad S0) (cellsM ct ad S0) := by
  refine MetH.of RX10 (by decide) rfl (Nat.le_of_ble_eq_true rfl) ?_
  intro p e s m args below meth c C hK hP ls hl
  have hl : lv_has ls 16 [(0, .ref (ad 0)), (1, .int p0), (2, .int p1)] := hl
  obtain ⟨hx, hb, hr, hml, hown, htL, hlocks⟩ := id C
  have hS : va_S F s.heap s.heap [] := va_S.rf
  generalize hQ : MQ below (Hq D (cellsM ct ad S0) F (some (.long r))) args s 0 0 F = Q
  have w_353 : ∀ (k_11 : Int32 → Int32 → Int32 → Int64 → Int32 → Option Int64) (hk_11 : ∀ (x1 : Int32) (x2 : Int32) (x3 : Int32) (x4 : Int64) (x6 : Int32), ∀ (H : Heap) (locs : List Loc) (ls : Array Slot), lv_has ls 16 [(0, .ref (ad 0)), (1, .int x1), (2, .int x2), (3, .int x3), (4, .long x4), (6, .int x6)] → va_P D vwCl (cellsM ct ad S0) H → va_S F s.heap H locs → k_11 x1 x2 x3 x4 x6 = some r → W p l e rm_X10_minor s m args below meth c H locs 0 0 Q (F0 m 11 ls [])) (k_298 : Int32 → Int32 → Int32 → Int64 → Int32 → Int32 → Int32 → Int32 → Int32 → Int64 → Int32 → Option Int64) (hk_298 : ∀ (x1 : Int32) (x2 : Int32) (x3 : Int32) (x4 : Int64) (x6 : Int32) (x7 : Int32) (x8 : Int32) (x9 : Int32) (x10 : Int32) (x13 : Int64) (x15 : Int32), ∀ (H : Heap) (locs : List Loc) (ls : Array Slot), lv_has ls 16 [(0, .ref (ad 0)), (1, .int x1), (2, .int x2), (3, .int x3), (4, .long x4), (6, .int x6), (7, .int x7), (8, .int x8), (9, .int x9), (10, .int x10), (13, .long x13), (15, .int x15)] → va_P D vwCl (cellsM ct ad S0) H → va_S F s.heap H locs → k_298 x1 x2 x3 x4 x6 x7 x8 x9 x10 x13 x15 = some r → W p l e rm_X10_minor s m args below meth c H locs 0 0 Q (F0 m 298 ls [])), ∀ (x1 : Int32) (x2 : Int32) (x3 : Int32) (x4 : Int64) (x6 : Int32) (x7 : Int32) (x8 : Int32) (x9 : Int32) (x10 : Int32) (x15 : Int32) (y0 : Int64) (y2 : Int32) (y3 : Int32) (y4 : Int32), ∀ (H : Heap) (locs : List Loc) (ls : Array Slot), lv_has ls 16 [(0, .ref (ad 0)), (1, .int x1), (2, .int x2), (3, .int x3), (4, .long x4), (6, .int x6), (7, .int x7), (8, .int x8), (9, .int x9), (10, .int x10), (15, .int x15)] → va_P D vwCl (cellsM ct ad S0) H → va_S F s.heap H locs → n_X10_minor_353 k_11 k_298 S0 x1 x2 x3 x4 x6 x7 x8 x9 x10 x15 y0 y2 y3 y4 = some r → W p l e rm_X10_minor s m args below meth c H locs 0 0 Q (F0 m 353 ls [.int y4, .int y3, .int y2, .ref (ad 15), .long y0]) := by
    intro k_11 hk_11 k_298 hk_298 x1 x2 x3 x4 x6 x7 x8 x9 x10 x15 y0 y2 y3 y4 H locs ls hl hP hS hf
    obtain ⟨v1, h2, hf⟩ := b1_some hf
    refine pc_S (As := [.int y3, .int y4]) (rest := [.int y2, .ref (ad 15), .long y0]) C (c_X10_place l y3 y4 v1 h2) hl.1 cp_X10_place mw_7_86 ⟨rfl, rfl⟩ ⟨Nat.le_of_ble_eq_true rfl, Nat.le_of_ble_eq_true rfl⟩ rfl rfl (Nat.le_of_ble_eq_true rfl) dX10_minor_353 ⟨Nat.le_of_ble_eq_true rfl, Nat.le_of_ble_eq_true rfl⟩ ?_
    refine lv_iadd hx hb dX10_minor_356 ?_
    obtain ⟨c3, hf⟩ := spn hf
    refine al_M15 C hK hP c3 dX10_minor_357 ?_
    refine lv_i2l hx hb dX10_minor_358 rfl ?_
    refine lv_lmul hx hb dX10_minor_359 ?_
    refine lv_lstore (lv' := [(13, .long (y0 * (Int32.toInt64 (S0.1 15 (Int32.toNatClampNeg (y2 + v1)))))), (0, .ref (ad 0)), (1, .int x1), (2, .int x2), (3, .int x3), (4, .long x4), (6, .int x6), (7, .int x7), (8, .int x8), (9, .int x9), (10, .int x10), (15, .int x15)]) hx hb dX10_minor_360 hl (by decide) rfl (fun ls hl => ?_)
    refine lv_iinc (v := (x15 + 1)) (lv' := [(15, .int (x15 + 1)), (13, .long (y0 * (Int32.toInt64 (S0.1 15 (Int32.toNatClampNeg (y2 + v1)))))), (0, .ref (ad 0)), (1, .int x1), (2, .int x2), (3, .int x3), (4, .long x4), (6, .int x6), (7, .int x7), (8, .int x8), (9, .int x9), (10, .int x10)]) hx hb dX10_minor_362 hl (k := 11) rfl rfl (by decide) rfl (fun ls hl => ?_)
    refine lv_goto (tgt := 298) hx hb dX10_minor_365 (by decide) ?_
    exact hk_298 x1 x2 x3 x4 x6 x7 x8 x9 x10 (y0 * (Int32.toInt64 (S0.1 15 (Int32.toNatClampNeg (y2 + v1))))) (x15 + 1) _ _ _ (lv_sub hl [2, 3, 4, 5, 6, 7, 8, 9, 10, 11, 1, 0] rfl) hP hS hf
  have w_298 : ∀ (k_11 : Int32 → Int32 → Int32 → Int64 → Int32 → Option Int64) (hk_11 : ∀ (x1 : Int32) (x2 : Int32) (x3 : Int32) (x4 : Int64) (x6 : Int32), ∀ (H : Heap) (locs : List Loc) (ls : Array Slot), lv_has ls 16 [(0, .ref (ad 0)), (1, .int x1), (2, .int x2), (3, .int x3), (4, .long x4), (6, .int x6)] → va_P D vwCl (cellsM ct ad S0) H → va_S F s.heap H locs → k_11 x1 x2 x3 x4 x6 = some r → W p l e rm_X10_minor s m args below meth c H locs 0 0 Q (F0 m 11 ls [])), ∀ (x1 : Int32) (x2 : Int32) (x3 : Int32) (x4 : Int64) (x6 : Int32) (x7 : Int32) (x8 : Int32) (x9 : Int32) (x10 : Int32) (x13 : Int64) (x15 : Int32), ∀ (H : Heap) (locs : List Loc) (ls : Array Slot), lv_has ls 16 [(0, .ref (ad 0)), (1, .int x1), (2, .int x2), (3, .int x3), (4, .long x4), (6, .int x6), (7, .int x7), (8, .int x8), (9, .int x9), (10, .int x10), (13, .long x13), (15, .int x15)] → va_P D vwCl (cellsM ct ad S0) H → va_S F s.heap H locs → n_X10_minor_298 k_11 S0 x1 x2 x3 x4 x6 x7 x8 x9 x10 x13 x15 = some r → W p l e rm_X10_minor s m args below meth c H locs 0 0 Q (F0 m 298 ls []) := by
    intro k_11 hk_11
    have aux : ∀ (n : Nat), ∀ (x1 : Int32) (x2 : Int32) (x3 : Int32) (x4 : Int64) (x6 : Int32) (x7 : Int32) (x8 : Int32) (x9 : Int32) (x10 : Int32) (x13 : Int64) (x15 : Int32), ∀ (H : Heap) (locs : List Loc) (ls : Array Slot), lv_has ls 16 [(0, .ref (ad 0)), (1, .int x1), (2, .int x2), (3, .int x3), (4, .long x4), (6, .int x6), (7, .int x7), (8, .int x8), (9, .int x9), (10, .int x10), (13, .long x13), (15, .int x15)] → va_P D vwCl (cellsM ct ad S0) H → va_S F s.heap H locs → itr (fun (q : Int32 × Int32 × Int32 × Int64 × Int32 × Int32 × Int32 × Int32 × Int32 × Int64 × Int32) k => s_X10_minor_298 k_11 (fun (x1 : Int32) (x2 : Int32) (x3 : Int32) (x4 : Int64) (x6 : Int32) (x7 : Int32) (x8 : Int32) (x9 : Int32) (x10 : Int32) (x13 : Int64) (x15 : Int32) => k (x1, x2, x3, x4, x6, x7, x8, x9, x10, x13, x15)) S0 q.1 q.2.1 q.2.2.1 q.2.2.2.1 q.2.2.2.2.1 q.2.2.2.2.2.1 q.2.2.2.2.2.2.1 q.2.2.2.2.2.2.2.1 q.2.2.2.2.2.2.2.2.1 q.2.2.2.2.2.2.2.2.2.1 q.2.2.2.2.2.2.2.2.2.2) n (x1, x2, x3, x4, x6, x7, x8, x9, x10, x13, x15) = some r → W p l e rm_X10_minor s m args below meth c H locs 0 0 Q (F0 m 298 ls []) := by
      intro n
      induction n with
      | zero => intro x1 x2 x3 x4 x6 x7 x8 x9 x10 x13 x15 H locs ls hl hP hS hf; exact (itr_z hf).elim
      | succ n ih =>
      intro x1 x2 x3 x4 x6 x7 x8 x9 x10 x13 x15 H locs ls hl hP hS hf
      have hk_298 := ih
      have hf : s_X10_minor_298 k_11 (fun (x1 : Int32) (x2 : Int32) (x3 : Int32) (x4 : Int64) (x6 : Int32) (x7 : Int32) (x8 : Int32) (x9 : Int32) (x10 : Int32) (x13 : Int64) (x15 : Int32) => itr (fun (q : Int32 × Int32 × Int32 × Int64 × Int32 × Int32 × Int32 × Int32 × Int32 × Int64 × Int32) k => s_X10_minor_298 k_11 (fun (x1 : Int32) (x2 : Int32) (x3 : Int32) (x4 : Int64) (x6 : Int32) (x7 : Int32) (x8 : Int32) (x9 : Int32) (x10 : Int32) (x13 : Int64) (x15 : Int32) => k (x1, x2, x3, x4, x6, x7, x8, x9, x10, x13, x15)) S0 q.1 q.2.1 q.2.2.1 q.2.2.2.1 q.2.2.2.2.1 q.2.2.2.2.2.1 q.2.2.2.2.2.2.1 q.2.2.2.2.2.2.2.1 q.2.2.2.2.2.2.2.2.1 q.2.2.2.2.2.2.2.2.2.1 q.2.2.2.2.2.2.2.2.2.2) n (x1, x2, x3, x4, x6, x7, x8, x9, x10, x13, x15)) S0 x1 x2 x3 x4 x6 x7 x8 x9 x10 x13 x15 = some r := hf
      refine lv_iload hx hb dX10_minor_298 (lv_at hl 11 rfl) ?_
      refine lv_iload_n hx hb dX10_minor_300 rfl (lv_at hl 3 rfl) ?_
      refine lv_icmp_ge (tgt := 368) hx hb dX10_minor_301 (by decide) (fun c4 => ?_) (fun c4 => ?_)
      · have hf := sp1 c4 hf
        refine lv_lload hx hb dX10_minor_368 (lv_at hl 4 rfl) ?_
        refine lv_lload hx hb dX10_minor_370 (lv_at hl 10 rfl) ?_
        refine lv_ladd hx hb dX10_minor_372 ?_
        refine lv_lstore (lv' := [(4, .long (x4 + x13)), (0, .ref (ad 0)), (1, .int x1), (2, .int x2), (3, .int x3), (6, .int x6), (7, .int x7), (8, .int x8), (9, .int x9), (10, .int x10), (13, .long x13), (15, .int x15)]) hx hb dX10_minor_373 hl (by decide) rfl (fun ls hl => ?_)
        refine lv_iinc (v := (x6 + 1)) (lv' := [(6, .int (x6 + 1)), (4, .long (x4 + x13)), (0, .ref (ad 0)), (1, .int x1), (2, .int x2), (3, .int x3), (7, .int x7), (8, .int x8), (9, .int x9), (10, .int x10), (13, .long x13), (15, .int x15)]) hx hb dX10_minor_375 hl (k := 5) rfl rfl (by decide) rfl (fun ls hl => ?_)
        refine lv_goto (tgt := 11) hx hb dX10_minor_378 (by decide) ?_
        exact hk_11 x1 x2 x3 (x4 + x13) (x6 + 1) _ _ _ (lv_sub hl [2, 3, 4, 5, 1, 0] rfl) hP hS hf
      · have hf := sp0 c4 hf
        refine lv_lload hx hb dX10_minor_304 (lv_at hl 10 rfl) ?_
        refine lv_aload_n hx hb dX10_minor_306 rfl (lv_at hl 0 rfl) ?_
        refine gf_X10_14 C hK hP mw_5_176 dX10_minor_307 ?_
        refine lv_iconst (v := 4) hx hb dX10_minor_310 (by decide) ?_
        refine lv_iload_n hx hb dX10_minor_311 rfl (lv_at hl 1 rfl) ?_
        refine lv_iload hx hb dX10_minor_312 (lv_at hl 11 rfl) ?_
        obtain ⟨v5, h6, hf⟩ := b1_some hf
        refine pc_S (As := [.int x1, .int x15]) (rest := [.int 4, .ref (ad 15), .long x13]) C (c_X10_place l x1 x15 v5 h6) hl.1 cp_X10_place mw_7_86 ⟨rfl, rfl⟩ ⟨Nat.le_of_ble_eq_true rfl, Nat.le_of_ble_eq_true rfl⟩ rfl rfl (Nat.le_of_ble_eq_true rfl) dX10_minor_314 ⟨Nat.le_of_ble_eq_true rfl, Nat.le_of_ble_eq_true rfl⟩ ?_
        refine lv_imul hx hb dX10_minor_317 ?_
        refine lv_iload_n hx hb dX10_minor_318 rfl (lv_at hl 2 rfl) ?_
        refine lv_iload hx hb dX10_minor_319 (lv_at hl 11 rfl) ?_
        refine lv_if_ne (tgt := 329) hx hb dX10_minor_321 (by decide) (fun c7 => ?_) (fun c7 => ?_)
        · have hf := sp0 c7 hf
          refine lv_iload hx hb dX10_minor_329 (lv_at hl 11 rfl) ?_
          refine lv_iconst (v := 1) hx hb dX10_minor_331 (by decide) ?_
          refine lv_icmp_ne (tgt := 340) hx hb dX10_minor_332 (by decide) (fun c8 => ?_) (fun c8 => ?_)
          · have hf := sp0 c8 hf
            refine lv_iload hx hb dX10_minor_340 (lv_at hl 11 rfl) ?_
            refine lv_iconst (v := 2) hx hb dX10_minor_342 (by decide) ?_
            refine lv_icmp_ne (tgt := 351) hx hb dX10_minor_343 (by decide) (fun c9 => ?_) (fun c9 => ?_)
            · have hf := sp0 c9 hf
              refine lv_iload hx hb dX10_minor_351 (lv_at hl 9 rfl) ?_
              exact w_353 _ hk_11 _ hk_298 x1 x2 x3 x4 x6 x7 x8 x9 x10 x15 x13 (4 * v5) x2 x10 _ _ _ (lv_sub hl [0, 1, 2, 3, 4, 5, 6, 7, 8, 9, 11] rfl) hP hS hf
            · have hf := sp1 c9 hf
              refine lv_iload hx hb dX10_minor_346 (lv_at hl 8 rfl) ?_
              refine lv_goto (tgt := 353) hx hb dX10_minor_348 (by decide) ?_
              exact w_353 _ hk_11 _ hk_298 x1 x2 x3 x4 x6 x7 x8 x9 x10 x15 x13 (4 * v5) x2 x9 _ _ _ (lv_sub hl [0, 1, 2, 3, 4, 5, 6, 7, 8, 9, 11] rfl) hP hS hf
          · have hf := sp1 c8 hf
            refine lv_iload hx hb dX10_minor_335 (lv_at hl 7 rfl) ?_
            refine lv_goto (tgt := 353) hx hb dX10_minor_337 (by decide) ?_
            exact w_353 _ hk_11 _ hk_298 x1 x2 x3 x4 x6 x7 x8 x9 x10 x15 x13 (4 * v5) x2 x8 _ _ _ (lv_sub hl [0, 1, 2, 3, 4, 5, 6, 7, 8, 9, 11] rfl) hP hS hf
        · have hf := sp1 c7 hf
          refine lv_iload hx hb dX10_minor_324 (lv_at hl 6 rfl) ?_
          refine lv_goto (tgt := 353) hx hb dX10_minor_326 (by decide) ?_
          exact w_353 _ hk_11 _ hk_298 x1 x2 x3 x4 x6 x7 x8 x9 x10 x15 x13 (4 * v5) x2 x7 _ _ _ (lv_sub hl [0, 1, 2, 3, 4, 5, 6, 7, 8, 9, 11] rfl) hP hS hf
    exact aux FU
  have w_276 : ∀ (k_11 : Int32 → Int32 → Int32 → Int64 → Int32 → Option Int64) (hk_11 : ∀ (x1 : Int32) (x2 : Int32) (x3 : Int32) (x4 : Int64) (x6 : Int32), ∀ (H : Heap) (locs : List Loc) (ls : Array Slot), lv_has ls 16 [(0, .ref (ad 0)), (1, .int x1), (2, .int x2), (3, .int x3), (4, .long x4), (6, .int x6)] → va_P D vwCl (cellsM ct ad S0) H → va_S F s.heap H locs → k_11 x1 x2 x3 x4 x6 = some r → W p l e rm_X10_minor s m args below meth c H locs 0 0 Q (F0 m 11 ls [])), ∀ (x1 : Int32) (x2 : Int32) (x3 : Int32) (x4 : Int64) (x6 : Int32) (x7 : Int32) (x8 : Int32) (x9 : Int32) (x10 : Int32) (y0 : Int32) (y1 : Int32), ∀ (H : Heap) (locs : List Loc) (ls : Array Slot), lv_has ls 16 [(0, .ref (ad 0)), (1, .int x1), (2, .int x2), (3, .int x3), (4, .long x4), (6, .int x6), (7, .int x7), (8, .int x8), (9, .int x9), (10, .int x10)] → va_P D vwCl (cellsM ct ad S0) H → va_S F s.heap H locs → n_X10_minor_276 k_11 S0 x1 x2 x3 x4 x6 x7 x8 x9 x10 y0 y1 = some r → W p l e rm_X10_minor s m args below meth c H locs 0 0 Q (F0 m 276 ls [.int y1, .int y0]) := by
    intro k_11 hk_11 x1 x2 x3 x4 x6 x7 x8 x9 x10 y0 y1 H locs ls hl hP hS hf
    refine lv_iadd hx hb dX10_minor_276 ?_
    refine lv_istore (lv' := [(12, .int (y0 + y1)), (0, .ref (ad 0)), (1, .int x1), (2, .int x2), (3, .int x3), (4, .long x4), (6, .int x6), (7, .int x7), (8, .int x8), (9, .int x9), (10, .int x10)]) hx hb dX10_minor_277 hl (by decide) rfl (fun ls hl => ?_)
    refine lv_iload hx hb dX10_minor_279 (lv_at hl 0 rfl) ?_
    refine lv_iconst (v := 2) hx hb dX10_minor_281 (by decide) ?_
    refine lv_irem hx hb dX10_minor_282 (by decide) ?_
    refine lv_if_ne (tgt := 290) hx hb dX10_minor_283 (by decide) (fun c10 => ?_) (fun c10 => ?_)
    · have hf := sp0 c10 hf
      refine lv_ldc2 (v := -1) hx hb hown (htL _ mw_7_85) dX10_minor_290 ?_
      refine lv_lstore (lv' := [(13, .long (-1)), (12, .int (y0 + y1)), (0, .ref (ad 0)), (1, .int x1), (2, .int x2), (3, .int x3), (4, .long x4), (6, .int x6), (7, .int x7), (8, .int x8), (9, .int x9), (10, .int x10)]) hx hb dX10_minor_293 hl (by decide) rfl (fun ls hl => ?_)
      refine lv_iconst (v := 0) hx hb dX10_minor_295 (by decide) ?_
      refine lv_istore (lv' := [(15, .int 0), (13, .long (-1)), (12, .int (y0 + y1)), (0, .ref (ad 0)), (1, .int x1), (2, .int x2), (3, .int x3), (4, .long x4), (6, .int x6), (7, .int x7), (8, .int x8), (9, .int x9), (10, .int x10)]) hx hb dX10_minor_296 hl (by decide) rfl (fun ls hl => ?_)
      exact w_298 _ hk_11 x1 x2 x3 x4 x6 x7 x8 x9 x10 (-1) 0 _ _ _ (lv_sub hl [3, 4, 5, 6, 7, 8, 9, 10, 11, 12, 1, 0] rfl) hP hS hf
    · have hf := sp1 c10 hf
      refine lv_lconst (v := 1) hx hb dX10_minor_286 (by decide) ?_
      refine lv_goto (tgt := 293) hx hb dX10_minor_287 (by decide) ?_
      refine lv_lstore (lv' := [(13, .long 1), (12, .int (y0 + y1)), (0, .ref (ad 0)), (1, .int x1), (2, .int x2), (3, .int x3), (4, .long x4), (6, .int x6), (7, .int x7), (8, .int x8), (9, .int x9), (10, .int x10)]) hx hb dX10_minor_293 hl (by decide) rfl (fun ls hl => ?_)
      refine lv_iconst (v := 0) hx hb dX10_minor_295 (by decide) ?_
      refine lv_istore (lv' := [(15, .int 0), (13, .long 1), (12, .int (y0 + y1)), (0, .ref (ad 0)), (1, .int x1), (2, .int x2), (3, .int x3), (4, .long x4), (6, .int x6), (7, .int x7), (8, .int x8), (9, .int x9), (10, .int x10)]) hx hb dX10_minor_296 hl (by decide) rfl (fun ls hl => ?_)
      exact w_298 _ hk_11 x1 x2 x3 x4 x6 x7 x8 x9 x10 1 0 _ _ _ (lv_sub hl [3, 4, 5, 6, 7, 8, 9, 10, 11, 12, 1, 0] rfl) hP hS hf
  have w_263 : ∀ (k_11 : Int32 → Int32 → Int32 → Int64 → Int32 → Option Int64) (hk_11 : ∀ (x1 : Int32) (x2 : Int32) (x3 : Int32) (x4 : Int64) (x6 : Int32), ∀ (H : Heap) (locs : List Loc) (ls : Array Slot), lv_has ls 16 [(0, .ref (ad 0)), (1, .int x1), (2, .int x2), (3, .int x3), (4, .long x4), (6, .int x6)] → va_P D vwCl (cellsM ct ad S0) H → va_S F s.heap H locs → k_11 x1 x2 x3 x4 x6 = some r → W p l e rm_X10_minor s m args below meth c H locs 0 0 Q (F0 m 11 ls [])), ∀ (x1 : Int32) (x2 : Int32) (x3 : Int32) (x4 : Int64) (x6 : Int32) (x7 : Int32) (x8 : Int32) (x9 : Int32) (x10 : Int32) (y0 : Int32) (y1 : Int32), ∀ (H : Heap) (locs : List Loc) (ls : Array Slot), lv_has ls 16 [(0, .ref (ad 0)), (1, .int x1), (2, .int x2), (3, .int x3), (4, .long x4), (6, .int x6), (7, .int x7), (8, .int x8), (9, .int x9), (10, .int x10)] → va_P D vwCl (cellsM ct ad S0) H → va_S F s.heap H locs → n_X10_minor_263 k_11 S0 x1 x2 x3 x4 x6 x7 x8 x9 x10 y0 y1 = some r → W p l e rm_X10_minor s m args below meth c H locs 0 0 Q (F0 m 263 ls [.int y1, .int y0]) := by
    intro k_11 hk_11 x1 x2 x3 x4 x6 x7 x8 x9 x10 y0 y1 H locs ls hl hP hS hf
    refine lv_iadd hx hb dX10_minor_263 ?_
    refine lv_iload hx hb dX10_minor_264 (lv_at hl 8 rfl) ?_
    refine lv_iload hx hb dX10_minor_266 (lv_at hl 9 rfl) ?_
    refine lv_icmp_le (tgt := 275) hx hb dX10_minor_268 (by decide) (fun c11 => ?_) (fun c11 => ?_)
    · have hf := sp1 c11 hf
      refine lv_iconst (v := 0) hx hb dX10_minor_275 (by decide) ?_
      exact w_276 _ hk_11 x1 x2 x3 x4 x6 x7 x8 x9 x10 (y0 + y1) 0 _ _ _ (lv_sub hl [0, 1, 2, 3, 4, 5, 6, 7, 8, 9] rfl) hP hS hf
    · have hf := sp0 c11 hf
      refine lv_iconst (v := 1) hx hb dX10_minor_271 (by decide) ?_
      refine lv_goto (tgt := 276) hx hb dX10_minor_272 (by decide) ?_
      exact w_276 _ hk_11 x1 x2 x3 x4 x6 x7 x8 x9 x10 (y0 + y1) 1 _ _ _ (lv_sub hl [0, 1, 2, 3, 4, 5, 6, 7, 8, 9] rfl) hP hS hf
  have w_250 : ∀ (k_11 : Int32 → Int32 → Int32 → Int64 → Int32 → Option Int64) (hk_11 : ∀ (x1 : Int32) (x2 : Int32) (x3 : Int32) (x4 : Int64) (x6 : Int32), ∀ (H : Heap) (locs : List Loc) (ls : Array Slot), lv_has ls 16 [(0, .ref (ad 0)), (1, .int x1), (2, .int x2), (3, .int x3), (4, .long x4), (6, .int x6)] → va_P D vwCl (cellsM ct ad S0) H → va_S F s.heap H locs → k_11 x1 x2 x3 x4 x6 = some r → W p l e rm_X10_minor s m args below meth c H locs 0 0 Q (F0 m 11 ls [])), ∀ (x1 : Int32) (x2 : Int32) (x3 : Int32) (x4 : Int64) (x6 : Int32) (x7 : Int32) (x8 : Int32) (x9 : Int32) (x10 : Int32) (y0 : Int32) (y1 : Int32), ∀ (H : Heap) (locs : List Loc) (ls : Array Slot), lv_has ls 16 [(0, .ref (ad 0)), (1, .int x1), (2, .int x2), (3, .int x3), (4, .long x4), (6, .int x6), (7, .int x7), (8, .int x8), (9, .int x9), (10, .int x10)] → va_P D vwCl (cellsM ct ad S0) H → va_S F s.heap H locs → n_X10_minor_250 k_11 S0 x1 x2 x3 x4 x6 x7 x8 x9 x10 y0 y1 = some r → W p l e rm_X10_minor s m args below meth c H locs 0 0 Q (F0 m 250 ls [.int y1, .int y0]) := by
    intro k_11 hk_11 x1 x2 x3 x4 x6 x7 x8 x9 x10 y0 y1 H locs ls hl hP hS hf
    refine lv_iadd hx hb dX10_minor_250 ?_
    refine lv_iload hx hb dX10_minor_251 (lv_at hl 7 rfl) ?_
    refine lv_iload hx hb dX10_minor_253 (lv_at hl 9 rfl) ?_
    refine lv_icmp_le (tgt := 262) hx hb dX10_minor_255 (by decide) (fun c12 => ?_) (fun c12 => ?_)
    · have hf := sp1 c12 hf
      refine lv_iconst (v := 0) hx hb dX10_minor_262 (by decide) ?_
      exact w_263 _ hk_11 x1 x2 x3 x4 x6 x7 x8 x9 x10 (y0 + y1) 0 _ _ _ (lv_sub hl [0, 1, 2, 3, 4, 5, 6, 7, 8, 9] rfl) hP hS hf
    · have hf := sp0 c12 hf
      refine lv_iconst (v := 1) hx hb dX10_minor_258 (by decide) ?_
      refine lv_goto (tgt := 263) hx hb dX10_minor_259 (by decide) ?_
      exact w_263 _ hk_11 x1 x2 x3 x4 x6 x7 x8 x9 x10 (y0 + y1) 1 _ _ _ (lv_sub hl [0, 1, 2, 3, 4, 5, 6, 7, 8, 9] rfl) hP hS hf
  have w_237 : ∀ (k_11 : Int32 → Int32 → Int32 → Int64 → Int32 → Option Int64) (hk_11 : ∀ (x1 : Int32) (x2 : Int32) (x3 : Int32) (x4 : Int64) (x6 : Int32), ∀ (H : Heap) (locs : List Loc) (ls : Array Slot), lv_has ls 16 [(0, .ref (ad 0)), (1, .int x1), (2, .int x2), (3, .int x3), (4, .long x4), (6, .int x6)] → va_P D vwCl (cellsM ct ad S0) H → va_S F s.heap H locs → k_11 x1 x2 x3 x4 x6 = some r → W p l e rm_X10_minor s m args below meth c H locs 0 0 Q (F0 m 11 ls [])), ∀ (x1 : Int32) (x2 : Int32) (x3 : Int32) (x4 : Int64) (x6 : Int32) (x7 : Int32) (x8 : Int32) (x9 : Int32) (x10 : Int32) (y0 : Int32) (y1 : Int32), ∀ (H : Heap) (locs : List Loc) (ls : Array Slot), lv_has ls 16 [(0, .ref (ad 0)), (1, .int x1), (2, .int x2), (3, .int x3), (4, .long x4), (6, .int x6), (7, .int x7), (8, .int x8), (9, .int x9), (10, .int x10)] → va_P D vwCl (cellsM ct ad S0) H → va_S F s.heap H locs → n_X10_minor_237 k_11 S0 x1 x2 x3 x4 x6 x7 x8 x9 x10 y0 y1 = some r → W p l e rm_X10_minor s m args below meth c H locs 0 0 Q (F0 m 237 ls [.int y1, .int y0]) := by
    intro k_11 hk_11 x1 x2 x3 x4 x6 x7 x8 x9 x10 y0 y1 H locs ls hl hP hS hf
    refine lv_iadd hx hb dX10_minor_237 ?_
    refine lv_iload hx hb dX10_minor_238 (lv_at hl 7 rfl) ?_
    refine lv_iload hx hb dX10_minor_240 (lv_at hl 8 rfl) ?_
    refine lv_icmp_le (tgt := 249) hx hb dX10_minor_242 (by decide) (fun c13 => ?_) (fun c13 => ?_)
    · have hf := sp1 c13 hf
      refine lv_iconst (v := 0) hx hb dX10_minor_249 (by decide) ?_
      exact w_250 _ hk_11 x1 x2 x3 x4 x6 x7 x8 x9 x10 (y0 + y1) 0 _ _ _ (lv_sub hl [0, 1, 2, 3, 4, 5, 6, 7, 8, 9] rfl) hP hS hf
    · have hf := sp0 c13 hf
      refine lv_iconst (v := 1) hx hb dX10_minor_245 (by decide) ?_
      refine lv_goto (tgt := 250) hx hb dX10_minor_246 (by decide) ?_
      exact w_250 _ hk_11 x1 x2 x3 x4 x6 x7 x8 x9 x10 (y0 + y1) 1 _ _ _ (lv_sub hl [0, 1, 2, 3, 4, 5, 6, 7, 8, 9] rfl) hP hS hf
  have w_224 : ∀ (k_11 : Int32 → Int32 → Int32 → Int64 → Int32 → Option Int64) (hk_11 : ∀ (x1 : Int32) (x2 : Int32) (x3 : Int32) (x4 : Int64) (x6 : Int32), ∀ (H : Heap) (locs : List Loc) (ls : Array Slot), lv_has ls 16 [(0, .ref (ad 0)), (1, .int x1), (2, .int x2), (3, .int x3), (4, .long x4), (6, .int x6)] → va_P D vwCl (cellsM ct ad S0) H → va_S F s.heap H locs → k_11 x1 x2 x3 x4 x6 = some r → W p l e rm_X10_minor s m args below meth c H locs 0 0 Q (F0 m 11 ls [])), ∀ (x1 : Int32) (x2 : Int32) (x3 : Int32) (x4 : Int64) (x6 : Int32) (x7 : Int32) (x8 : Int32) (x9 : Int32) (x10 : Int32) (y0 : Int32) (y1 : Int32), ∀ (H : Heap) (locs : List Loc) (ls : Array Slot), lv_has ls 16 [(0, .ref (ad 0)), (1, .int x1), (2, .int x2), (3, .int x3), (4, .long x4), (6, .int x6), (7, .int x7), (8, .int x8), (9, .int x9), (10, .int x10)] → va_P D vwCl (cellsM ct ad S0) H → va_S F s.heap H locs → n_X10_minor_224 k_11 S0 x1 x2 x3 x4 x6 x7 x8 x9 x10 y0 y1 = some r → W p l e rm_X10_minor s m args below meth c H locs 0 0 Q (F0 m 224 ls [.int y1, .int y0]) := by
    intro k_11 hk_11 x1 x2 x3 x4 x6 x7 x8 x9 x10 y0 y1 H locs ls hl hP hS hf
    refine lv_iadd hx hb dX10_minor_224 ?_
    refine lv_iload hx hb dX10_minor_225 (lv_at hl 6 rfl) ?_
    refine lv_iload hx hb dX10_minor_227 (lv_at hl 9 rfl) ?_
    refine lv_icmp_le (tgt := 236) hx hb dX10_minor_229 (by decide) (fun c14 => ?_) (fun c14 => ?_)
    · have hf := sp1 c14 hf
      refine lv_iconst (v := 0) hx hb dX10_minor_236 (by decide) ?_
      exact w_237 _ hk_11 x1 x2 x3 x4 x6 x7 x8 x9 x10 (y0 + y1) 0 _ _ _ (lv_sub hl [0, 1, 2, 3, 4, 5, 6, 7, 8, 9] rfl) hP hS hf
    · have hf := sp0 c14 hf
      refine lv_iconst (v := 1) hx hb dX10_minor_232 (by decide) ?_
      refine lv_goto (tgt := 237) hx hb dX10_minor_233 (by decide) ?_
      exact w_237 _ hk_11 x1 x2 x3 x4 x6 x7 x8 x9 x10 (y0 + y1) 1 _ _ _ (lv_sub hl [0, 1, 2, 3, 4, 5, 6, 7, 8, 9] rfl) hP hS hf
  have w_212 : ∀ (k_11 : Int32 → Int32 → Int32 → Int64 → Int32 → Option Int64) (hk_11 : ∀ (x1 : Int32) (x2 : Int32) (x3 : Int32) (x4 : Int64) (x6 : Int32), ∀ (H : Heap) (locs : List Loc) (ls : Array Slot), lv_has ls 16 [(0, .ref (ad 0)), (1, .int x1), (2, .int x2), (3, .int x3), (4, .long x4), (6, .int x6)] → va_P D vwCl (cellsM ct ad S0) H → va_S F s.heap H locs → k_11 x1 x2 x3 x4 x6 = some r → W p l e rm_X10_minor s m args below meth c H locs 0 0 Q (F0 m 11 ls [])), ∀ (x1 : Int32) (x2 : Int32) (x3 : Int32) (x4 : Int64) (x6 : Int32) (x7 : Int32) (x8 : Int32) (x9 : Int32) (x10 : Int32) (y0 : Int32), ∀ (H : Heap) (locs : List Loc) (ls : Array Slot), lv_has ls 16 [(0, .ref (ad 0)), (1, .int x1), (2, .int x2), (3, .int x3), (4, .long x4), (6, .int x6), (7, .int x7), (8, .int x8), (9, .int x9), (10, .int x10)] → va_P D vwCl (cellsM ct ad S0) H → va_S F s.heap H locs → n_X10_minor_212 k_11 S0 x1 x2 x3 x4 x6 x7 x8 x9 x10 y0 = some r → W p l e rm_X10_minor s m args below meth c H locs 0 0 Q (F0 m 212 ls [.int y0]) := by
    intro k_11 hk_11 x1 x2 x3 x4 x6 x7 x8 x9 x10 y0 H locs ls hl hP hS hf
    refine lv_iload hx hb dX10_minor_212 (lv_at hl 6 rfl) ?_
    refine lv_iload hx hb dX10_minor_214 (lv_at hl 8 rfl) ?_
    refine lv_icmp_le (tgt := 223) hx hb dX10_minor_216 (by decide) (fun c15 => ?_) (fun c15 => ?_)
    · have hf := sp1 c15 hf
      refine lv_iconst (v := 0) hx hb dX10_minor_223 (by decide) ?_
      exact w_224 _ hk_11 x1 x2 x3 x4 x6 x7 x8 x9 x10 y0 0 _ _ _ (lv_sub hl [0, 1, 2, 3, 4, 5, 6, 7, 8, 9] rfl) hP hS hf
    · have hf := sp0 c15 hf
      refine lv_iconst (v := 1) hx hb dX10_minor_219 (by decide) ?_
      refine lv_goto (tgt := 224) hx hb dX10_minor_220 (by decide) ?_
      exact w_224 _ hk_11 x1 x2 x3 x4 x6 x7 x8 x9 x10 y0 1 _ _ _ (lv_sub hl [0, 1, 2, 3, 4, 5, 6, 7, 8, 9] rfl) hP hS hf
  have w_148 : ∀ (k_11 : Int32 → Int32 → Int32 → Int64 → Int32 → Option Int64) (hk_11 : ∀ (x1 : Int32) (x2 : Int32) (x3 : Int32) (x4 : Int64) (x6 : Int32), ∀ (H : Heap) (locs : List Loc) (ls : Array Slot), lv_has ls 16 [(0, .ref (ad 0)), (1, .int x1), (2, .int x2), (3, .int x3), (4, .long x4), (6, .int x6)] → va_P D vwCl (cellsM ct ad S0) H → va_S F s.heap H locs → k_11 x1 x2 x3 x4 x6 = some r → W p l e rm_X10_minor s m args below meth c H locs 0 0 Q (F0 m 11 ls [])), ∀ (x1 : Int32) (x2 : Int32) (x3 : Int32) (x4 : Int64) (x6 : Int32) (x7 : Int32) (x8 : Int32) (x9 : Int32) (x10 : Int32) (y0 : Int32), ∀ (H : Heap) (locs : List Loc) (ls : Array Slot), lv_has ls 16 [(0, .ref (ad 0)), (1, .int x1), (2, .int x2), (3, .int x3), (4, .long x4), (6, .int x6), (7, .int x7), (8, .int x8), (9, .int x9), (10, .int x10)] → va_P D vwCl (cellsM ct ad S0) H → va_S F s.heap H locs → n_X10_minor_148 k_11 S0 x1 x2 x3 x4 x6 x7 x8 x9 x10 y0 = some r → W p l e rm_X10_minor s m args below meth c H locs 0 0 Q (F0 m 148 ls [.int y0]) := by
    intro k_11 hk_11 x1 x2 x3 x4 x6 x7 x8 x9 x10 y0 H locs ls hl hP hS hf
    refine lv_istore (lv' := [(11, .int y0), (0, .ref (ad 0)), (1, .int x1), (2, .int x2), (3, .int x3), (4, .long x4), (6, .int x6), (7, .int x7), (8, .int x8), (9, .int x9), (10, .int x10)]) hx hb dX10_minor_148 hl (by decide) rfl (fun ls hl => ?_)
    refine lv_iload hx hb dX10_minor_150 (lv_at hl 0 rfl) ?_
    refine lv_if_eq (tgt := 375) hx hb dX10_minor_152 (by decide) (fun c16 => ?_) (fun c16 => ?_)
    · have hf := sp1 c16 hf
      refine lv_iinc (v := (x6 + 1)) (lv' := [(6, .int (x6 + 1)), (11, .int y0), (0, .ref (ad 0)), (1, .int x1), (2, .int x2), (3, .int x3), (4, .long x4), (7, .int x7), (8, .int x8), (9, .int x9), (10, .int x10)]) hx hb dX10_minor_375 hl (k := 6) rfl rfl (by decide) rfl (fun ls hl => ?_)
      refine lv_goto (tgt := 11) hx hb dX10_minor_378 (by decide) ?_
      exact hk_11 x1 x2 x3 x4 (x6 + 1) _ _ _ (lv_sub hl [2, 3, 4, 5, 6, 0] rfl) hP hS hf
    · have hf := sp0 c16 hf
      refine lv_iload hx hb dX10_minor_155 (lv_at hl 7 rfl) ?_
      refine lv_iload hx hb dX10_minor_157 (lv_at hl 8 rfl) ?_
      refine lv_icmp_eq (tgt := 375) hx hb dX10_minor_159 (by decide) (fun c17 => ?_) (fun c17 => ?_)
      · have hf := sp1 c17 hf
        refine lv_iinc (v := (x6 + 1)) (lv' := [(6, .int (x6 + 1)), (11, .int y0), (0, .ref (ad 0)), (1, .int x1), (2, .int x2), (3, .int x3), (4, .long x4), (7, .int x7), (8, .int x8), (9, .int x9), (10, .int x10)]) hx hb dX10_minor_375 hl (k := 6) rfl rfl (by decide) rfl (fun ls hl => ?_)
        refine lv_goto (tgt := 11) hx hb dX10_minor_378 (by decide) ?_
        exact hk_11 x1 x2 x3 x4 (x6 + 1) _ _ _ (lv_sub hl [2, 3, 4, 5, 6, 0] rfl) hP hS hf
      · have hf := sp0 c17 hf
        refine lv_iload hx hb dX10_minor_162 (lv_at hl 7 rfl) ?_
        refine lv_iload hx hb dX10_minor_164 (lv_at hl 9 rfl) ?_
        refine lv_icmp_eq (tgt := 375) hx hb dX10_minor_166 (by decide) (fun c18 => ?_) (fun c18 => ?_)
        · have hf := sp1 c18 hf
          refine lv_iinc (v := (x6 + 1)) (lv' := [(6, .int (x6 + 1)), (11, .int y0), (0, .ref (ad 0)), (1, .int x1), (2, .int x2), (3, .int x3), (4, .long x4), (7, .int x7), (8, .int x8), (9, .int x9), (10, .int x10)]) hx hb dX10_minor_375 hl (k := 6) rfl rfl (by decide) rfl (fun ls hl => ?_)
          refine lv_goto (tgt := 11) hx hb dX10_minor_378 (by decide) ?_
          exact hk_11 x1 x2 x3 x4 (x6 + 1) _ _ _ (lv_sub hl [2, 3, 4, 5, 6, 0] rfl) hP hS hf
        · have hf := sp0 c18 hf
          refine lv_iload hx hb dX10_minor_169 (lv_at hl 7 rfl) ?_
          refine lv_iload hx hb dX10_minor_171 (lv_at hl 10 rfl) ?_
          refine lv_icmp_eq (tgt := 375) hx hb dX10_minor_173 (by decide) (fun c19 => ?_) (fun c19 => ?_)
          · have hf := sp1 c19 hf
            refine lv_iinc (v := (x6 + 1)) (lv' := [(6, .int (x6 + 1)), (11, .int y0), (0, .ref (ad 0)), (1, .int x1), (2, .int x2), (3, .int x3), (4, .long x4), (7, .int x7), (8, .int x8), (9, .int x9), (10, .int x10)]) hx hb dX10_minor_375 hl (k := 6) rfl rfl (by decide) rfl (fun ls hl => ?_)
            refine lv_goto (tgt := 11) hx hb dX10_minor_378 (by decide) ?_
            exact hk_11 x1 x2 x3 x4 (x6 + 1) _ _ _ (lv_sub hl [2, 3, 4, 5, 6, 0] rfl) hP hS hf
          · have hf := sp0 c19 hf
            refine lv_iload hx hb dX10_minor_176 (lv_at hl 8 rfl) ?_
            refine lv_iload hx hb dX10_minor_178 (lv_at hl 9 rfl) ?_
            refine lv_icmp_eq (tgt := 375) hx hb dX10_minor_180 (by decide) (fun c20 => ?_) (fun c20 => ?_)
            · have hf := sp1 c20 hf
              refine lv_iinc (v := (x6 + 1)) (lv' := [(6, .int (x6 + 1)), (11, .int y0), (0, .ref (ad 0)), (1, .int x1), (2, .int x2), (3, .int x3), (4, .long x4), (7, .int x7), (8, .int x8), (9, .int x9), (10, .int x10)]) hx hb dX10_minor_375 hl (k := 6) rfl rfl (by decide) rfl (fun ls hl => ?_)
              refine lv_goto (tgt := 11) hx hb dX10_minor_378 (by decide) ?_
              exact hk_11 x1 x2 x3 x4 (x6 + 1) _ _ _ (lv_sub hl [2, 3, 4, 5, 6, 0] rfl) hP hS hf
            · have hf := sp0 c20 hf
              refine lv_iload hx hb dX10_minor_183 (lv_at hl 8 rfl) ?_
              refine lv_iload hx hb dX10_minor_185 (lv_at hl 10 rfl) ?_
              refine lv_icmp_eq (tgt := 375) hx hb dX10_minor_187 (by decide) (fun c21 => ?_) (fun c21 => ?_)
              · have hf := sp1 c21 hf
                refine lv_iinc (v := (x6 + 1)) (lv' := [(6, .int (x6 + 1)), (11, .int y0), (0, .ref (ad 0)), (1, .int x1), (2, .int x2), (3, .int x3), (4, .long x4), (7, .int x7), (8, .int x8), (9, .int x9), (10, .int x10)]) hx hb dX10_minor_375 hl (k := 6) rfl rfl (by decide) rfl (fun ls hl => ?_)
                refine lv_goto (tgt := 11) hx hb dX10_minor_378 (by decide) ?_
                exact hk_11 x1 x2 x3 x4 (x6 + 1) _ _ _ (lv_sub hl [2, 3, 4, 5, 6, 0] rfl) hP hS hf
              · have hf := sp0 c21 hf
                refine lv_iload hx hb dX10_minor_190 (lv_at hl 9 rfl) ?_
                refine lv_iload hx hb dX10_minor_192 (lv_at hl 10 rfl) ?_
                refine lv_icmp_ne (tgt := 200) hx hb dX10_minor_194 (by decide) (fun c22 => ?_) (fun c22 => ?_)
                · have hf := sp0 c22 hf
                  refine lv_iload hx hb dX10_minor_200 (lv_at hl 7 rfl) ?_
                  refine lv_iload hx hb dX10_minor_202 (lv_at hl 8 rfl) ?_
                  refine lv_icmp_le (tgt := 211) hx hb dX10_minor_204 (by decide) (fun c23 => ?_) (fun c23 => ?_)
                  · have hf := sp1 c23 hf
                    refine lv_iconst (v := 0) hx hb dX10_minor_211 (by decide) ?_
                    exact w_212 _ hk_11 x1 x2 x3 x4 x6 x7 x8 x9 x10 0 _ _ _ (lv_sub hl [1, 2, 3, 4, 5, 6, 7, 8, 9, 10] rfl) hP hS hf
                  · have hf := sp0 c23 hf
                    refine lv_iconst (v := 1) hx hb dX10_minor_207 (by decide) ?_
                    refine lv_goto (tgt := 212) hx hb dX10_minor_208 (by decide) ?_
                    exact w_212 _ hk_11 x1 x2 x3 x4 x6 x7 x8 x9 x10 1 _ _ _ (lv_sub hl [1, 2, 3, 4, 5, 6, 7, 8, 9, 10] rfl) hP hS hf
                · have hf := sp1 c22 hf
                  refine lv_goto (tgt := 375) hx hb dX10_minor_197 (by decide) ?_
                  refine lv_iinc (v := (x6 + 1)) (lv' := [(6, .int (x6 + 1)), (11, .int y0), (0, .ref (ad 0)), (1, .int x1), (2, .int x2), (3, .int x3), (4, .long x4), (7, .int x7), (8, .int x8), (9, .int x9), (10, .int x10)]) hx hb dX10_minor_375 hl (k := 6) rfl rfl (by decide) rfl (fun ls hl => ?_)
                  refine lv_goto (tgt := 11) hx hb dX10_minor_378 (by decide) ?_
                  exact hk_11 x1 x2 x3 x4 (x6 + 1) _ _ _ (lv_sub hl [2, 3, 4, 5, 6, 0] rfl) hP hS hf
  have w_118 : ∀ (k_11 : Int32 → Int32 → Int32 → Int64 → Int32 → Option Int64) (hk_11 : ∀ (x1 : Int32) (x2 : Int32) (x3 : Int32) (x4 : Int64) (x6 : Int32), ∀ (H : Heap) (locs : List Loc) (ls : Array Slot), lv_has ls 16 [(0, .ref (ad 0)), (1, .int x1), (2, .int x2), (3, .int x3), (4, .long x4), (6, .int x6)] → va_P D vwCl (cellsM ct ad S0) H → va_S F s.heap H locs → k_11 x1 x2 x3 x4 x6 = some r → W p l e rm_X10_minor s m args below meth c H locs 0 0 Q (F0 m 11 ls [])), ∀ (x1 : Int32) (x2 : Int32) (x3 : Int32) (x4 : Int64) (x6 : Int32) (x7 : Int32) (x8 : Int32) (x9 : Int32) (x10 : Int32), ∀ (H : Heap) (locs : List Loc) (ls : Array Slot), lv_has ls 16 [(0, .ref (ad 0)), (1, .int x1), (2, .int x2), (3, .int x3), (4, .long x4), (6, .int x6), (7, .int x7), (8, .int x8), (9, .int x9), (10, .int x10)] → va_P D vwCl (cellsM ct ad S0) H → va_S F s.heap H locs → n_X10_minor_118 k_11 S0 x1 x2 x3 x4 x6 x7 x8 x9 x10 = some r → W p l e rm_X10_minor s m args below meth c H locs 0 0 Q (F0 m 118 ls []) := by
    intro k_11 hk_11 x1 x2 x3 x4 x6 x7 x8 x9 x10 H locs ls hl hP hS hf
    refine lv_iload_n hx hb dX10_minor_118 rfl (lv_at hl 3 rfl) ?_
    refine lv_iconst (v := 3) hx hb dX10_minor_119 (by decide) ?_
    refine lv_icmp_lt (tgt := 143) hx hb dX10_minor_120 (by decide) (fun c24 => ?_) (fun c24 => ?_)
    · have hf := sp1 c24 hf
      refine lv_iconst (v := 1) hx hb dX10_minor_143 (by decide) ?_
      refine lv_goto (tgt := 148) hx hb dX10_minor_144 (by decide) ?_
      exact w_148 _ hk_11 x1 x2 x3 x4 x6 x7 x8 x9 x10 1 _ _ _ (lv_sub hl [0, 1, 2, 3, 4, 5, 6, 7, 8, 9] rfl) hP hS hf
    · have hf := sp0 c24 hf
      refine lv_iload_n hx hb dX10_minor_123 rfl (lv_at hl 3 rfl) ?_
      refine lv_iconst (v := 4) hx hb dX10_minor_124 (by decide) ?_
      refine lv_icmp_ge (tgt := 137) hx hb dX10_minor_125 (by decide) (fun c25 => ?_) (fun c25 => ?_)
      · have hf := sp1 c25 hf
        refine lv_iload hx hb dX10_minor_137 (lv_at hl 9 rfl) ?_
        refine lv_iload_n hx hb dX10_minor_139 rfl (lv_at hl 3 rfl) ?_
        refine lv_icmp_ge (tgt := 147) hx hb dX10_minor_140 (by decide) (fun c26 => ?_) (fun c26 => ?_)
        · have hf := sp1 c26 hf
          refine lv_iconst (v := 0) hx hb dX10_minor_147 (by decide) ?_
          exact w_148 _ hk_11 x1 x2 x3 x4 x6 x7 x8 x9 x10 0 _ _ _ (lv_sub hl [0, 1, 2, 3, 4, 5, 6, 7, 8, 9] rfl) hP hS hf
        · have hf := sp0 c26 hf
          refine lv_iconst (v := 1) hx hb dX10_minor_143 (by decide) ?_
          refine lv_goto (tgt := 148) hx hb dX10_minor_144 (by decide) ?_
          exact w_148 _ hk_11 x1 x2 x3 x4 x6 x7 x8 x9 x10 1 _ _ _ (lv_sub hl [0, 1, 2, 3, 4, 5, 6, 7, 8, 9] rfl) hP hS hf
      · have hf := sp0 c25 hf
        refine lv_iload hx hb dX10_minor_128 (lv_at hl 9 rfl) ?_
        refine lv_iconst (v := 3) hx hb dX10_minor_130 (by decide) ?_
        refine lv_icmp_ne (tgt := 147) hx hb dX10_minor_131 (by decide) (fun c27 => ?_) (fun c27 => ?_)
        · have hf := sp0 c27 hf
          refine lv_iconst (v := 0) hx hb dX10_minor_147 (by decide) ?_
          exact w_148 _ hk_11 x1 x2 x3 x4 x6 x7 x8 x9 x10 0 _ _ _ (lv_sub hl [0, 1, 2, 3, 4, 5, 6, 7, 8, 9] rfl) hP hS hf
        · have hf := sp1 c27 hf
          refine lv_goto (tgt := 143) hx hb dX10_minor_134 (by decide) ?_
          refine lv_iconst (v := 1) hx hb dX10_minor_143 (by decide) ?_
          refine lv_goto (tgt := 148) hx hb dX10_minor_144 (by decide) ?_
          exact w_148 _ hk_11 x1 x2 x3 x4 x6 x7 x8 x9 x10 1 _ _ _ (lv_sub hl [0, 1, 2, 3, 4, 5, 6, 7, 8, 9] rfl) hP hS hf
  have w_87 : ∀ (k_11 : Int32 → Int32 → Int32 → Int64 → Int32 → Option Int64) (hk_11 : ∀ (x1 : Int32) (x2 : Int32) (x3 : Int32) (x4 : Int64) (x6 : Int32), ∀ (H : Heap) (locs : List Loc) (ls : Array Slot), lv_has ls 16 [(0, .ref (ad 0)), (1, .int x1), (2, .int x2), (3, .int x3), (4, .long x4), (6, .int x6)] → va_P D vwCl (cellsM ct ad S0) H → va_S F s.heap H locs → k_11 x1 x2 x3 x4 x6 = some r → W p l e rm_X10_minor s m args below meth c H locs 0 0 Q (F0 m 11 ls [])), ∀ (x1 : Int32) (x2 : Int32) (x3 : Int32) (x4 : Int64) (x6 : Int32) (x7 : Int32) (x8 : Int32) (x9 : Int32) (x10 : Int32), ∀ (H : Heap) (locs : List Loc) (ls : Array Slot), lv_has ls 16 [(0, .ref (ad 0)), (1, .int x1), (2, .int x2), (3, .int x3), (4, .long x4), (6, .int x6), (7, .int x7), (8, .int x8), (9, .int x9), (10, .int x10)] → va_P D vwCl (cellsM ct ad S0) H → va_S F s.heap H locs → n_X10_minor_87 k_11 S0 x1 x2 x3 x4 x6 x7 x8 x9 x10 = some r → W p l e rm_X10_minor s m args below meth c H locs 0 0 Q (F0 m 87 ls []) := by
    intro k_11 hk_11 x1 x2 x3 x4 x6 x7 x8 x9 x10 H locs ls hl hP hS hf
    refine lv_iload_n hx hb dX10_minor_87 rfl (lv_at hl 3 rfl) ?_
    refine lv_iconst (v := 2) hx hb dX10_minor_88 (by decide) ?_
    refine lv_icmp_lt (tgt := 118) hx hb dX10_minor_89 (by decide) (fun c28 => ?_) (fun c28 => ?_)
    · have hf := sp1 c28 hf
      exact w_118 _ hk_11 x1 x2 x3 x4 x6 x7 x8 x9 x10 _ _ _ (lv_sub hl [0, 1, 2, 3, 4, 5, 6, 7, 8, 9] rfl) hP hS hf
    · have hf := sp0 c28 hf
      refine lv_iload_n hx hb dX10_minor_92 rfl (lv_at hl 3 rfl) ?_
      refine lv_iconst (v := 3) hx hb dX10_minor_93 (by decide) ?_
      refine lv_icmp_ge (tgt := 112) hx hb dX10_minor_94 (by decide) (fun c29 => ?_) (fun c29 => ?_)
      · have hf := sp1 c29 hf
        refine lv_iload hx hb dX10_minor_112 (lv_at hl 8 rfl) ?_
        refine lv_iload_n hx hb dX10_minor_114 rfl (lv_at hl 3 rfl) ?_
        refine lv_icmp_ge (tgt := 147) hx hb dX10_minor_115 (by decide) (fun c30 => ?_) (fun c30 => ?_)
        · have hf := sp1 c30 hf
          refine lv_iconst (v := 0) hx hb dX10_minor_147 (by decide) ?_
          exact w_148 _ hk_11 x1 x2 x3 x4 x6 x7 x8 x9 x10 0 _ _ _ (lv_sub hl [0, 1, 2, 3, 4, 5, 6, 7, 8, 9] rfl) hP hS hf
        · have hf := sp0 c30 hf
          exact w_118 _ hk_11 x1 x2 x3 x4 x6 x7 x8 x9 x10 _ _ _ (lv_sub hl [0, 1, 2, 3, 4, 5, 6, 7, 8, 9] rfl) hP hS hf
      · have hf := sp0 c29 hf
        refine lv_iload hx hb dX10_minor_97 (lv_at hl 8 rfl) ?_
        refine lv_iconst (v := 2) hx hb dX10_minor_99 (by decide) ?_
        refine lv_icmp_ne (tgt := 147) hx hb dX10_minor_100 (by decide) (fun c31 => ?_) (fun c31 => ?_)
        · have hf := sp0 c31 hf
          refine lv_iconst (v := 0) hx hb dX10_minor_147 (by decide) ?_
          exact w_148 _ hk_11 x1 x2 x3 x4 x6 x7 x8 x9 x10 0 _ _ _ (lv_sub hl [0, 1, 2, 3, 4, 5, 6, 7, 8, 9] rfl) hP hS hf
        · have hf := sp1 c31 hf
          refine lv_iload hx hb dX10_minor_103 (lv_at hl 9 rfl) ?_
          refine lv_iconst (v := 3) hx hb dX10_minor_105 (by decide) ?_
          refine lv_icmp_ne (tgt := 147) hx hb dX10_minor_106 (by decide) (fun c32 => ?_) (fun c32 => ?_)
          · have hf := sp0 c32 hf
            refine lv_iconst (v := 0) hx hb dX10_minor_147 (by decide) ?_
            exact w_148 _ hk_11 x1 x2 x3 x4 x6 x7 x8 x9 x10 0 _ _ _ (lv_sub hl [0, 1, 2, 3, 4, 5, 6, 7, 8, 9] rfl) hP hS hf
          · have hf := sp1 c32 hf
            refine lv_goto (tgt := 118) hx hb dX10_minor_109 (by decide) ?_
            exact w_118 _ hk_11 x1 x2 x3 x4 x6 x7 x8 x9 x10 _ _ _ (lv_sub hl [0, 1, 2, 3, 4, 5, 6, 7, 8, 9] rfl) hP hS hf
  have w_11 : ∀ (x1 : Int32) (x2 : Int32) (x3 : Int32) (x4 : Int64) (x6 : Int32), ∀ (H : Heap) (locs : List Loc) (ls : Array Slot), lv_has ls 16 [(0, .ref (ad 0)), (1, .int x1), (2, .int x2), (3, .int x3), (4, .long x4), (6, .int x6)] → va_P D vwCl (cellsM ct ad S0) H → va_S F s.heap H locs → n_X10_minor_11 S0 x1 x2 x3 x4 x6 = some r → W p l e rm_X10_minor s m args below meth c H locs 0 0 Q (F0 m 11 ls []) := by
    have aux : ∀ (n : Nat), ∀ (x1 : Int32) (x2 : Int32) (x3 : Int32) (x4 : Int64) (x6 : Int32), ∀ (H : Heap) (locs : List Loc) (ls : Array Slot), lv_has ls 16 [(0, .ref (ad 0)), (1, .int x1), (2, .int x2), (3, .int x3), (4, .long x4), (6, .int x6)] → va_P D vwCl (cellsM ct ad S0) H → va_S F s.heap H locs → itr (fun (q : Int32 × Int32 × Int32 × Int64 × Int32) k => s_X10_minor_11  (fun (x1 : Int32) (x2 : Int32) (x3 : Int32) (x4 : Int64) (x6 : Int32) => k (x1, x2, x3, x4, x6)) S0 q.1 q.2.1 q.2.2.1 q.2.2.2.1 q.2.2.2.2) n (x1, x2, x3, x4, x6) = some r → W p l e rm_X10_minor s m args below meth c H locs 0 0 Q (F0 m 11 ls []) := by
      intro n
      induction n with
      | zero => intro x1 x2 x3 x4 x6 H locs ls hl hP hS hf; exact (itr_z hf).elim
      | succ n ih =>
      intro x1 x2 x3 x4 x6 H locs ls hl hP hS hf
      have hk_11 := ih
      have hf : s_X10_minor_11  (fun (x1 : Int32) (x2 : Int32) (x3 : Int32) (x4 : Int64) (x6 : Int32) => itr (fun (q : Int32 × Int32 × Int32 × Int64 × Int32) k => s_X10_minor_11  (fun (x1 : Int32) (x2 : Int32) (x3 : Int32) (x4 : Int64) (x6 : Int32) => k (x1, x2, x3, x4, x6)) S0 q.1 q.2.1 q.2.2.1 q.2.2.2.1 q.2.2.2.2) n (x1, x2, x3, x4, x6)) S0 x1 x2 x3 x4 x6 = some r := hf
      refine lv_iload hx hb dX10_minor_11 (lv_at hl 5 rfl) ?_
      refine lv_sipush (v := 256) hx hb dX10_minor_13 (by decide) ?_
      refine lv_icmp_ge (tgt := 381) hx hb dX10_minor_16 (by decide) (fun c33 => ?_) (fun c33 => ?_)
      · have hf := sp1 c33 hf
        refine lv_lload hx hb dX10_minor_381 (lv_at hl 4 rfl) ?_
        cases hf
        subst hQ
        exact he_l C hP hS dX10_minor_383
      · have hf := sp0 c33 hf
        refine lv_iload hx hb dX10_minor_19 (lv_at hl 5 rfl) ?_
        refine lv_iconst (v := 4) hx hb dX10_minor_21 (by decide) ?_
        refine lv_irem hx hb dX10_minor_22 (by decide) ?_
        refine lv_istore (lv' := [(7, .int (rI x6 4)), (0, .ref (ad 0)), (1, .int x1), (2, .int x2), (3, .int x3), (4, .long x4), (6, .int x6)]) hx hb dX10_minor_23 hl (by decide) rfl (fun ls hl => ?_)
        refine lv_iload hx hb dX10_minor_25 (lv_at hl 6 rfl) ?_
        refine lv_iconst (v := 4) hx hb dX10_minor_27 (by decide) ?_
        refine lv_idiv hx hb dX10_minor_28 (by decide) ?_
        refine lv_iconst (v := 4) hx hb dX10_minor_29 (by decide) ?_
        refine lv_irem hx hb dX10_minor_30 (by decide) ?_
        refine lv_istore (lv' := [(8, .int (rI (x6 / 4) 4)), (7, .int (rI x6 4)), (0, .ref (ad 0)), (1, .int x1), (2, .int x2), (3, .int x3), (4, .long x4), (6, .int x6)]) hx hb dX10_minor_31 hl (by decide) rfl (fun ls hl => ?_)
        refine lv_iload hx hb dX10_minor_33 (lv_at hl 7 rfl) ?_
        refine lv_bipush (v := 16) hx hb dX10_minor_35 (by decide) ?_
        refine lv_idiv hx hb dX10_minor_37 (by decide) ?_
        refine lv_iconst (v := 4) hx hb dX10_minor_38 (by decide) ?_
        refine lv_irem hx hb dX10_minor_39 (by decide) ?_
        refine lv_istore (lv' := [(9, .int (rI (x6 / 16) 4)), (8, .int (rI (x6 / 4) 4)), (7, .int (rI x6 4)), (0, .ref (ad 0)), (1, .int x1), (2, .int x2), (3, .int x3), (4, .long x4), (6, .int x6)]) hx hb dX10_minor_40 hl (by decide) rfl (fun ls hl => ?_)
        refine lv_iload hx hb dX10_minor_42 (lv_at hl 8 rfl) ?_
        refine lv_bipush (v := 64) hx hb dX10_minor_44 (by decide) ?_
        refine lv_idiv hx hb dX10_minor_46 (by decide) ?_
        refine lv_istore (lv' := [(10, .int (x6 / 64)), (9, .int (rI (x6 / 16) 4)), (8, .int (rI (x6 / 4) 4)), (7, .int (rI x6 4)), (0, .ref (ad 0)), (1, .int x1), (2, .int x2), (3, .int x3), (4, .long x4), (6, .int x6)]) hx hb dX10_minor_47 hl (by decide) rfl (fun ls hl => ?_)
        refine lv_iload hx hb dX10_minor_49 (lv_at hl 3 rfl) ?_
        refine lv_iload_n hx hb dX10_minor_51 rfl (lv_at hl 7 rfl) ?_
        refine lv_icmp_ge (tgt := 147) hx hb dX10_minor_52 (by decide) (fun c34 => ?_) (fun c34 => ?_)
        · have hf := sp1 c34 hf
          refine lv_iconst (v := 0) hx hb dX10_minor_147 (by decide) ?_
          exact w_148 _ hk_11 x1 x2 x3 x4 x6 (rI x6 4) (rI (x6 / 4) 4) (rI (x6 / 16) 4) (x6 / 64) 0 _ _ _ (lv_sub hl [4, 5, 6, 7, 8, 9, 3, 2, 1, 0] rfl) hP hS hf
        · have hf := sp0 c34 hf
          refine lv_iload_n hx hb dX10_minor_55 rfl (lv_at hl 7 rfl) ?_
          refine lv_iconst (v := 2) hx hb dX10_minor_56 (by decide) ?_
          refine lv_icmp_ge (tgt := 81) hx hb dX10_minor_57 (by decide) (fun c35 => ?_) (fun c35 => ?_)
          · have hf := sp1 c35 hf
            refine lv_iload hx hb dX10_minor_81 (lv_at hl 2 rfl) ?_
            refine lv_iload_n hx hb dX10_minor_83 rfl (lv_at hl 7 rfl) ?_
            refine lv_icmp_ge (tgt := 147) hx hb dX10_minor_84 (by decide) (fun c36 => ?_) (fun c36 => ?_)
            · have hf := sp1 c36 hf
              refine lv_iconst (v := 0) hx hb dX10_minor_147 (by decide) ?_
              exact w_148 _ hk_11 x1 x2 x3 x4 x6 (rI x6 4) (rI (x6 / 4) 4) (rI (x6 / 16) 4) (x6 / 64) 0 _ _ _ (lv_sub hl [4, 5, 6, 7, 8, 9, 3, 2, 1, 0] rfl) hP hS hf
            · have hf := sp0 c36 hf
              exact w_87 _ hk_11 x1 x2 x3 x4 x6 (rI x6 4) (rI (x6 / 4) 4) (rI (x6 / 16) 4) (x6 / 64) _ _ _ (lv_sub hl [4, 5, 6, 7, 8, 9, 3, 2, 1, 0] rfl) hP hS hf
          · have hf := sp0 c35 hf
            refine lv_iload hx hb dX10_minor_60 (lv_at hl 2 rfl) ?_
            refine lv_iconst (v := 1) hx hb dX10_minor_62 (by decide) ?_
            refine lv_icmp_ne (tgt := 147) hx hb dX10_minor_63 (by decide) (fun c37 => ?_) (fun c37 => ?_)
            · have hf := sp0 c37 hf
              refine lv_iconst (v := 0) hx hb dX10_minor_147 (by decide) ?_
              exact w_148 _ hk_11 x1 x2 x3 x4 x6 (rI x6 4) (rI (x6 / 4) 4) (rI (x6 / 16) 4) (x6 / 64) 0 _ _ _ (lv_sub hl [4, 5, 6, 7, 8, 9, 3, 2, 1, 0] rfl) hP hS hf
            · have hf := sp1 c37 hf
              refine lv_iload hx hb dX10_minor_66 (lv_at hl 1 rfl) ?_
              refine lv_iconst (v := 2) hx hb dX10_minor_68 (by decide) ?_
              refine lv_icmp_ne (tgt := 147) hx hb dX10_minor_69 (by decide) (fun c38 => ?_) (fun c38 => ?_)
              · have hf := sp0 c38 hf
                refine lv_iconst (v := 0) hx hb dX10_minor_147 (by decide) ?_
                exact w_148 _ hk_11 x1 x2 x3 x4 x6 (rI x6 4) (rI (x6 / 4) 4) (rI (x6 / 16) 4) (x6 / 64) 0 _ _ _ (lv_sub hl [4, 5, 6, 7, 8, 9, 3, 2, 1, 0] rfl) hP hS hf
              · have hf := sp1 c38 hf
                refine lv_iload hx hb dX10_minor_72 (lv_at hl 0 rfl) ?_
                refine lv_iconst (v := 3) hx hb dX10_minor_74 (by decide) ?_
                refine lv_icmp_ne (tgt := 147) hx hb dX10_minor_75 (by decide) (fun c39 => ?_) (fun c39 => ?_)
                · have hf := sp0 c39 hf
                  refine lv_iconst (v := 0) hx hb dX10_minor_147 (by decide) ?_
                  exact w_148 _ hk_11 x1 x2 x3 x4 x6 (rI x6 4) (rI (x6 / 4) 4) (rI (x6 / 16) 4) (x6 / 64) 0 _ _ _ (lv_sub hl [4, 5, 6, 7, 8, 9, 3, 2, 1, 0] rfl) hP hS hf
                · have hf := sp1 c39 hf
                  refine lv_goto (tgt := 87) hx hb dX10_minor_78 (by decide) ?_
                  exact w_87 _ hk_11 x1 x2 x3 x4 x6 (rI x6 4) (rI (x6 / 4) 4) (rI (x6 / 16) 4) (x6 / 64) _ _ _ (lv_sub hl [4, 5, 6, 7, 8, 9, 3, 2, 1, 0] rfl) hP hS hf
    exact aux FU
  refine lv_iload_n hx hb dX10_minor_0 rfl (lv_at hl 1 rfl) ?_
  obtain ⟨v40, h41, hf⟩ := b1_some hf
  refine pc_S (As := [.int p0]) (rest := []) C (c_X10_bits l p0 v40 h41) hl.1 cp_X10_bits mw_7_82 ⟨rfl, rfl⟩ ⟨Nat.le_of_ble_eq_true rfl, Nat.le_of_ble_eq_true rfl⟩ rfl rfl (Nat.le_of_ble_eq_true rfl) dX10_minor_1 ⟨Nat.le_of_ble_eq_true rfl, Nat.le_of_ble_eq_true rfl⟩ ?_
  refine lv_istore_n (lv' := [(3, .int v40), (0, .ref (ad 0)), (1, .int p0), (2, .int p1)]) hx hb dX10_minor_4 rfl hl (by decide) rfl (fun ls hl => ?_)
  refine lv_lconst (v := 0) hx hb dX10_minor_5 (by decide) ?_
  refine lv_lstore (lv' := [(4, .long 0), (3, .int v40), (0, .ref (ad 0)), (1, .int p0), (2, .int p1)]) hx hb dX10_minor_6 hl (by decide) rfl (fun ls hl => ?_)
  refine lv_iconst (v := 0) hx hb dX10_minor_8 (by decide) ?_
  refine lv_istore (lv' := [(6, .int 0), (4, .long 0), (3, .int v40), (0, .ref (ad 0)), (1, .int p0), (2, .int p1)]) hx hb dX10_minor_9 hl (by decide) rfl (fun ls hl => ?_)
  exact w_11 p0 p1 v40 0 0 _ _ _ (lv_sub hl [3, 4, 5, 2, 1, 0] rfl) hP hS hf
theorem cp_X10_minor : CPv yX10_minor cX10_minor 16 (some .long) 2 := ⟨mw_7_81, mw_1_9, mw_7_80, ms_67, by decide +kernel⟩
def rm_X10_least : Room := { frames := 2, cells := 0, slots := 0, locals := 66 }
set_option maxHeartbeats 4000000 in
set_option maxRecDepth 100000 in
theorem c_X10_least (l : Launch) (D : va_G) (ct : Nat → ClassId) (ad : Nat → Nat) (F : Nat → Prop) (hG : Gd ad 18 F) (p0 : Int32) (S0 : St)  (r : Int32) (hf : f_X10_least p0 S0 = some r) : MetH l yX10_least cX10_least 7 (some .int) rm_X10_least D (tysW ct) F [.ref (ad 0), .int p0] (some (.int r)) (cellsM ct ad S0) (cellsM ct ad S0) := by
  refine MetH.of RX10 (by decide) rfl (Nat.le_of_ble_eq_true rfl) ?_
  intro p e s m args below meth c C hK hP ls hl
  have hl : lv_has ls 7 [(0, .ref (ad 0)), (1, .int p0)] := hl
  obtain ⟨hx, hb, hr, hml, hown, htL, hlocks⟩ := id C
  have hS : va_S F s.heap s.heap [] := va_S.rf
  generalize hQ : MQ below (Hq D (cellsM ct ad S0) F (some (.int r))) args s 0 0 F = Q
  have w_91 : ∀ (k_12 : Int32 → Int32 → Int32 → Option Int32) (hk_12 : ∀ (x1 : Int32) (x2 : Int32) (x3 : Int32), ∀ (H : Heap) (locs : List Loc) (ls : Array Slot), lv_has ls 7 [(0, .ref (ad 0)), (1, .int x1), (2, .int x2), (3, .int x3)] → va_P D vwCl (cellsM ct ad S0) H → va_S F s.heap H locs → k_12 x1 x2 x3 = some r → W p l e rm_X10_least s m args below meth c H locs 0 0 Q (F0 m 12 ls [])) (k_29 : Int32 → Int32 → Int32 → Int32 → Option Int32) (hk_29 : ∀ (x1 : Int32) (x2 : Int32) (x3 : Int32) (x4 : Int32), ∀ (H : Heap) (locs : List Loc) (ls : Array Slot), lv_has ls 7 [(0, .ref (ad 0)), (1, .int x1), (2, .int x2), (3, .int x3), (4, .int x4)] → va_P D vwCl (cellsM ct ad S0) H → va_S F s.heap H locs → k_29 x1 x2 x3 x4 = some r → W p l e rm_X10_least s m args below meth c H locs 0 0 Q (F0 m 29 ls [])), ∀ (x1 : Int32) (x3 : Int32) (x4 : Int32) (x5 : Int64), ∀ (H : Heap) (locs : List Loc) (ls : Array Slot), lv_has ls 7 [(0, .ref (ad 0)), (1, .int x1), (3, .int x3), (4, .int x4), (5, .long x5)] → va_P D vwCl (cellsM ct ad S0) H → va_S F s.heap H locs → n_X10_least_91 k_12 k_29 S0 x1 x3 x4 x5 = some r → W p l e rm_X10_least s m args below meth c H locs 0 0 Q (F0 m 91 ls []) := by
    intro k_12 hk_12 k_29 hk_29 x1 x3 x4 x5 H locs ls hl hP hS hf
    refine lv_aload_n hx hb dX10_least_91 rfl (lv_at hl 0 rfl) ?_
    refine lv_lload hx hb dX10_least_92 (lv_at hl 4 rfl) ?_
    obtain ⟨v2, h1, hf⟩ := b1_some hf
    refine hc_V (As := [.long x5]) (rest := []) C hK (c_X10_valuationOf l D ct ad F hG x5 S0  v2 h1) hl.1 cp_X10_valuationOf mw_6_58 (rc_X10 hK hP) hP hS ⟨rfl, rfl⟩ ⟨Nat.le_of_ble_eq_true rfl, Nat.le_of_ble_eq_true rfl⟩ rfl rfl (Nat.le_of_ble_eq_true rfl) dX10_least_94 ⟨Nat.le_of_ble_eq_true rfl, Nat.le_of_ble_eq_true rfl⟩ (fun H locs hP hS => ?_)
    refine lv_istore_n (lv' := [(2, .int v2), (0, .ref (ad 0)), (1, .int x1), (3, .int x3), (4, .int x4), (5, .long x5)]) hx hb dX10_least_97 rfl hl (by decide) rfl (fun ls hl => ?_)
    refine lv_iinc (v := (x4 + 1)) (lv' := [(4, .int (x4 + 1)), (2, .int v2), (0, .ref (ad 0)), (1, .int x1), (3, .int x3), (5, .long x5)]) hx hb dX10_least_98 hl (k := 4) rfl rfl (by decide) rfl (fun ls hl => ?_)
    refine lv_goto (tgt := 29) hx hb dX10_least_101 (by decide) ?_
    exact hk_29 x1 v2 x3 (x4 + 1) _ _ _ (lv_sub hl [2, 3, 1, 4, 0] rfl) hP hS hf
  have w_29 : ∀ (k_12 : Int32 → Int32 → Int32 → Option Int32) (hk_12 : ∀ (x1 : Int32) (x2 : Int32) (x3 : Int32), ∀ (H : Heap) (locs : List Loc) (ls : Array Slot), lv_has ls 7 [(0, .ref (ad 0)), (1, .int x1), (2, .int x2), (3, .int x3)] → va_P D vwCl (cellsM ct ad S0) H → va_S F s.heap H locs → k_12 x1 x2 x3 = some r → W p l e rm_X10_least s m args below meth c H locs 0 0 Q (F0 m 12 ls [])), ∀ (x1 : Int32) (x2 : Int32) (x3 : Int32) (x4 : Int32), ∀ (H : Heap) (locs : List Loc) (ls : Array Slot), lv_has ls 7 [(0, .ref (ad 0)), (1, .int x1), (2, .int x2), (3, .int x3), (4, .int x4)] → va_P D vwCl (cellsM ct ad S0) H → va_S F s.heap H locs → n_X10_least_29 k_12 S0 x1 x2 x3 x4 = some r → W p l e rm_X10_least s m args below meth c H locs 0 0 Q (F0 m 29 ls []) := by
    intro k_12 hk_12
    have aux : ∀ (n : Nat), ∀ (x1 : Int32) (x2 : Int32) (x3 : Int32) (x4 : Int32), ∀ (H : Heap) (locs : List Loc) (ls : Array Slot), lv_has ls 7 [(0, .ref (ad 0)), (1, .int x1), (2, .int x2), (3, .int x3), (4, .int x4)] → va_P D vwCl (cellsM ct ad S0) H → va_S F s.heap H locs → itr (fun (q : Int32 × Int32 × Int32 × Int32) k => s_X10_least_29 k_12 (fun (x1 : Int32) (x2 : Int32) (x3 : Int32) (x4 : Int32) => k (x1, x2, x3, x4)) S0 q.1 q.2.1 q.2.2.1 q.2.2.2) n (x1, x2, x3, x4) = some r → W p l e rm_X10_least s m args below meth c H locs 0 0 Q (F0 m 29 ls []) := by
      intro n
      induction n with
      | zero => intro x1 x2 x3 x4 H locs ls hl hP hS hf; exact (itr_z hf).elim
      | succ n ih =>
      intro x1 x2 x3 x4 H locs ls hl hP hS hf
      have hk_29 := ih
      have hf : s_X10_least_29 k_12 (fun (x1 : Int32) (x2 : Int32) (x3 : Int32) (x4 : Int32) => itr (fun (q : Int32 × Int32 × Int32 × Int32) k => s_X10_least_29 k_12 (fun (x1 : Int32) (x2 : Int32) (x3 : Int32) (x4 : Int32) => k (x1, x2, x3, x4)) S0 q.1 q.2.1 q.2.2.1 q.2.2.2) n (x1, x2, x3, x4)) S0 x1 x2 x3 x4 = some r := hf
      refine lv_iload hx hb dX10_least_29 (lv_at hl 4 rfl) ?_
      refine lv_iconst (v := 1) hx hb dX10_least_31 (by decide) ?_
      refine lv_aload_n hx hb dX10_least_32 rfl (lv_at hl 0 rfl) ?_
      refine gf_X10_22 C hK hP mw_5_184 dX10_least_33 ?_
      refine lv_ishl hx hb dX10_least_36 ?_
      refine lv_icmp_ge (tgt := 104) hx hb dX10_least_37 (by decide) (fun c3 => ?_) (fun c3 => ?_)
      · have hf := sp1 c3 hf
        refine lv_iinc (v := (x3 + 1)) (lv' := [(3, .int (x3 + 1)), (0, .ref (ad 0)), (1, .int x1), (2, .int x2), (4, .int x4)]) hx hb dX10_least_104 hl (k := 3) rfl rfl (by decide) rfl (fun ls hl => ?_)
        refine lv_goto (tgt := 12) hx hb dX10_least_107 (by decide) ?_
        exact hk_12 x1 x2 (x3 + 1) _ _ _ (lv_sub hl [1, 2, 3, 0] rfl) hP hS hf
      · have hf := sp0 c3 hf
        refine lv_iload_n hx hb dX10_least_40 rfl (lv_at hl 3 rfl) ?_
        obtain ⟨v4, h5, hf⟩ := b1_some hf
        refine pc_S (As := [.int x3]) (rest := []) C (c_X10_bits l x3 v4 h5) hl.1 cp_X10_bits mw_7_82 ⟨rfl, rfl⟩ ⟨Nat.le_of_ble_eq_true rfl, Nat.le_of_ble_eq_true rfl⟩ rfl rfl (Nat.le_of_ble_eq_true rfl) dX10_least_41 ⟨Nat.le_of_ble_eq_true rfl, Nat.le_of_ble_eq_true rfl⟩ ?_
        refine lv_iload_n hx hb dX10_least_44 rfl (lv_at hl 1 rfl) ?_
        refine lv_icmp_ne (tgt := 98) hx hb dX10_least_45 (by decide) (fun c6 => ?_) (fun c6 => ?_)
        · have hf := sp0 c6 hf
          refine lv_iinc (v := (x4 + 1)) (lv' := [(4, .int (x4 + 1)), (0, .ref (ad 0)), (1, .int x1), (2, .int x2), (3, .int x3)]) hx hb dX10_least_98 hl (k := 4) rfl rfl (by decide) rfl (fun ls hl => ?_)
          refine lv_goto (tgt := 29) hx hb dX10_least_101 (by decide) ?_
          exact hk_29 x1 x2 x3 (x4 + 1) _ _ _ (lv_sub hl [1, 2, 3, 4, 0] rfl) hP hS hf
        · have hf := sp1 c6 hf
          refine lv_iload hx hb dX10_least_48 (lv_at hl 4 rfl) ?_
          obtain ⟨v7, h8, hf⟩ := b1_some hf
          refine pc_S (As := [.int x4]) (rest := []) C (c_X10_bits l x4 v7 h8) hl.1 cp_X10_bits mw_7_82 ⟨rfl, rfl⟩ ⟨Nat.le_of_ble_eq_true rfl, Nat.le_of_ble_eq_true rfl⟩ rfl rfl (Nat.le_of_ble_eq_true rfl) dX10_least_50 ⟨Nat.le_of_ble_eq_true rfl, Nat.le_of_ble_eq_true rfl⟩ ?_
          refine lv_iload_n hx hb dX10_least_53 rfl (lv_at hl 1 rfl) ?_
          refine lv_icmp_eq (tgt := 60) hx hb dX10_least_54 (by decide) (fun c9 => ?_) (fun c9 => ?_)
          · have hf := sp1 c9 hf
            refine lv_aload_n hx hb dX10_least_60 rfl (lv_at hl 0 rfl) ?_
            refine lv_iload_n hx hb dX10_least_61 rfl (lv_at hl 3 rfl) ?_
            refine lv_iload hx hb dX10_least_62 (lv_at hl 4 rfl) ?_
            obtain ⟨v11, h10, hf⟩ := b1_some hf
            refine hc_V (As := [.int x3, .int x4]) (rest := []) C hK (c_X10_minor l D ct ad F hG x3 x4 S0  v11 h10) hl.1 cp_X10_minor mw_7_78 (rc_X10 hK hP) hP hS ⟨rfl, rfl⟩ ⟨Nat.le_of_ble_eq_true rfl, Nat.le_of_ble_eq_true rfl⟩ rfl rfl (Nat.le_of_ble_eq_true rfl) dX10_least_64 ⟨Nat.le_of_ble_eq_true rfl, Nat.le_of_ble_eq_true rfl⟩ (fun H locs hP hS => ?_)
            refine lv_lstore (lv' := [(5, .long v11), (0, .ref (ad 0)), (1, .int x1), (2, .int x2), (3, .int x3), (4, .int x4)]) hx hb dX10_least_67 hl (by decide) rfl (fun ls hl => ?_)
            refine lv_lload hx hb dX10_least_69 (lv_at hl 0 rfl) ?_
            refine lv_lconst (v := 0) hx hb dX10_least_71 (by decide) ?_
            refine W.lcmp hx hb dX10_least_72 ?_
            refine lv_if_eq (tgt := 98) hx hb dX10_least_73 (by decide) (fun c12 => ?_) (fun c12 => ?_)
            · have hf := sp1 c12 hf
              refine lv_iinc (v := (x4 + 1)) (lv' := [(4, .int (x4 + 1)), (5, .long v11), (0, .ref (ad 0)), (1, .int x1), (2, .int x2), (3, .int x3)]) hx hb dX10_least_98 hl (k := 5) rfl rfl (by decide) rfl (fun ls hl => ?_)
              refine lv_goto (tgt := 29) hx hb dX10_least_101 (by decide) ?_
              exact hk_29 x1 x2 x3 (x4 + 1) _ _ _ (lv_sub hl [2, 3, 4, 5, 0] rfl) hP hS hf
            · have hf := sp0 c12 hf
              refine lv_iload_n hx hb dX10_least_76 rfl (lv_at hl 3 rfl) ?_
              refine lv_iconst (v := (-1)) hx hb dX10_least_77 (by decide) ?_
              refine lv_icmp_eq (tgt := 91) hx hb dX10_least_78 (by decide) (fun c13 => ?_) (fun c13 => ?_)
              · have hf := sp1 c13 hf
                exact w_91 _ hk_12 _ hk_29 x1 x3 x4 v11 _ _ _ (lv_sub hl [1, 2, 4, 5, 0] rfl) hP hS hf
              · have hf := sp0 c13 hf
                refine lv_aload_n hx hb dX10_least_81 rfl (lv_at hl 1 rfl) ?_
                refine lv_lload hx hb dX10_least_82 (lv_at hl 0 rfl) ?_
                obtain ⟨v15, h14, hf⟩ := b1_some hf
                refine hc_V (As := [.long v11]) (rest := []) C hK (c_X10_valuationOf l D ct ad F hG v11 S0  v15 h14) hl.1 cp_X10_valuationOf mw_6_58 (rc_X10 hK hP) hP hS ⟨rfl, rfl⟩ ⟨Nat.le_of_ble_eq_true rfl, Nat.le_of_ble_eq_true rfl⟩ rfl rfl (Nat.le_of_ble_eq_true rfl) dX10_least_84 ⟨Nat.le_of_ble_eq_true rfl, Nat.le_of_ble_eq_true rfl⟩ (fun H locs hP hS => ?_)
                refine lv_iload_n hx hb dX10_least_87 rfl (lv_at hl 3 rfl) ?_
                refine lv_icmp_ge (tgt := 98) hx hb dX10_least_88 (by decide) (fun c16 => ?_) (fun c16 => ?_)
                · have hf := sp1 c16 hf
                  refine lv_iinc (v := (x4 + 1)) (lv' := [(4, .int (x4 + 1)), (5, .long v11), (0, .ref (ad 0)), (1, .int x1), (2, .int x2), (3, .int x3)]) hx hb dX10_least_98 hl (k := 5) rfl rfl (by decide) rfl (fun ls hl => ?_)
                  refine lv_goto (tgt := 29) hx hb dX10_least_101 (by decide) ?_
                  exact hk_29 x1 x2 x3 (x4 + 1) _ _ _ (lv_sub hl [2, 3, 4, 5, 0] rfl) hP hS hf
                · have hf := sp0 c16 hf
                  exact w_91 _ hk_12 _ hk_29 x1 x3 x4 v11 _ _ _ (lv_sub hl [1, 2, 4, 5, 0] rfl) hP hS hf
          · have hf := sp0 c9 hf
            refine lv_goto (tgt := 98) hx hb dX10_least_57 (by decide) ?_
            refine lv_iinc (v := (x4 + 1)) (lv' := [(4, .int (x4 + 1)), (0, .ref (ad 0)), (1, .int x1), (2, .int x2), (3, .int x3)]) hx hb dX10_least_98 hl (k := 4) rfl rfl (by decide) rfl (fun ls hl => ?_)
            refine lv_goto (tgt := 29) hx hb dX10_least_101 (by decide) ?_
            exact hk_29 x1 x2 x3 (x4 + 1) _ _ _ (lv_sub hl [1, 2, 3, 4, 0] rfl) hP hS hf
    exact aux FU
  have w_12 : ∀ (x1 : Int32) (x2 : Int32) (x3 : Int32), ∀ (H : Heap) (locs : List Loc) (ls : Array Slot), lv_has ls 7 [(0, .ref (ad 0)), (1, .int x1), (2, .int x2), (3, .int x3)] → va_P D vwCl (cellsM ct ad S0) H → va_S F s.heap H locs → n_X10_least_12 S0 x1 x2 x3 = some r → W p l e rm_X10_least s m args below meth c H locs 0 0 Q (F0 m 12 ls []) := by
    have aux : ∀ (n : Nat), ∀ (x1 : Int32) (x2 : Int32) (x3 : Int32), ∀ (H : Heap) (locs : List Loc) (ls : Array Slot), lv_has ls 7 [(0, .ref (ad 0)), (1, .int x1), (2, .int x2), (3, .int x3)] → va_P D vwCl (cellsM ct ad S0) H → va_S F s.heap H locs → itr (fun (q : Int32 × Int32 × Int32) k => s_X10_least_12  (fun (x1 : Int32) (x2 : Int32) (x3 : Int32) => k (x1, x2, x3)) S0 q.1 q.2.1 q.2.2) n (x1, x2, x3) = some r → W p l e rm_X10_least s m args below meth c H locs 0 0 Q (F0 m 12 ls []) := by
      intro n
      induction n with
      | zero => intro x1 x2 x3 H locs ls hl hP hS hf; exact (itr_z hf).elim
      | succ n ih =>
      intro x1 x2 x3 H locs ls hl hP hS hf
      have hk_12 := ih
      have hf : s_X10_least_12  (fun (x1 : Int32) (x2 : Int32) (x3 : Int32) => itr (fun (q : Int32 × Int32 × Int32) k => s_X10_least_12  (fun (x1 : Int32) (x2 : Int32) (x3 : Int32) => k (x1, x2, x3)) S0 q.1 q.2.1 q.2.2) n (x1, x2, x3)) S0 x1 x2 x3 = some r := hf
      refine lv_iload_n hx hb dX10_least_12 rfl (lv_at hl 3 rfl) ?_
      refine lv_iconst (v := 1) hx hb dX10_least_13 (by decide) ?_
      refine lv_aload_n hx hb dX10_least_14 rfl (lv_at hl 0 rfl) ?_
      refine gf_X10_22 C hK hP mw_5_184 dX10_least_15 ?_
      refine lv_ishl hx hb dX10_least_18 ?_
      refine lv_icmp_ge (tgt := 110) hx hb dX10_least_19 (by decide) (fun c17 => ?_) (fun c17 => ?_)
      · have hf := sp1 c17 hf
        refine lv_iload_n hx hb dX10_least_110 rfl (lv_at hl 2 rfl) ?_
        cases hf
        subst hQ
        exact he_i C hP hS dX10_least_111
      · have hf := sp0 c17 hf
        refine lv_iload_n hx hb dX10_least_22 rfl (lv_at hl 1 rfl) ?_
        refine lv_if_le (tgt := 110) hx hb dX10_least_23 (by decide) (fun c18 => ?_) (fun c18 => ?_)
        · have hf := sp1 c18 hf
          refine lv_iload_n hx hb dX10_least_110 rfl (lv_at hl 2 rfl) ?_
          cases hf
          subst hQ
          exact he_i C hP hS dX10_least_111
        · have hf := sp0 c18 hf
          refine lv_iconst (v := 1) hx hb dX10_least_26 (by decide) ?_
          refine lv_istore (lv' := [(4, .int 1), (0, .ref (ad 0)), (1, .int x1), (2, .int x2), (3, .int x3)]) hx hb dX10_least_27 hl (by decide) rfl (fun ls hl => ?_)
          exact w_29 _ hk_12 x1 x2 x3 1 _ _ _ (lv_sub hl [1, 2, 3, 4, 0] rfl) hP hS hf
    exact aux FU
  refine lv_iload_n hx hb dX10_least_0 rfl (lv_at hl 1 rfl) ?_
  refine lv_if_ne (tgt := 8) hx hb dX10_least_1 (by decide) (fun c19 => ?_) (fun c19 => ?_)
  · have hf := sp0 c19 hf
    refine lv_iconst (v := (-1)) hx hb dX10_least_8 (by decide) ?_
    refine lv_istore_n (lv' := [(2, .int (-1)), (0, .ref (ad 0)), (1, .int p0)]) hx hb dX10_least_9 rfl hl (by decide) rfl (fun ls hl => ?_)
    refine lv_iconst (v := 1) hx hb dX10_least_10 (by decide) ?_
    refine lv_istore_n (lv' := [(3, .int 1), (2, .int (-1)), (0, .ref (ad 0)), (1, .int p0)]) hx hb dX10_least_11 rfl hl (by decide) rfl (fun ls hl => ?_)
    exact w_12 p0 (-1) 1 _ _ _ (lv_sub hl [2, 3, 1, 0] rfl) hP hS hf
  · have hf := sp1 c19 hf
    refine lv_iconst (v := 0) hx hb dX10_least_4 (by decide) ?_
    refine lv_goto (tgt := 9) hx hb dX10_least_5 (by decide) ?_
    refine lv_istore_n (lv' := [(2, .int 0), (0, .ref (ad 0)), (1, .int p0)]) hx hb dX10_least_9 rfl hl (by decide) rfl (fun ls hl => ?_)
    refine lv_iconst (v := 1) hx hb dX10_least_10 (by decide) ?_
    refine lv_istore_n (lv' := [(3, .int 1), (2, .int 0), (0, .ref (ad 0)), (1, .int p0)]) hx hb dX10_least_11 rfl hl (by decide) rfl (fun ls hl => ?_)
    exact w_12 p0 0 1 _ _ _ (lv_sub hl [2, 3, 1, 0] rfl) hP hS hf
theorem cp_X10_least : CPv yX10_least cX10_least 7 (some .int) 1 := ⟨mw_7_100, mw_1_9, mw_7_99, ms_69, by decide +kernel⟩
def rm_X10_determinant : Room := { frames := 2, cells := 0, slots := 0, locals := 66 }
set_option maxHeartbeats 4000000 in
set_option maxRecDepth 100000 in
theorem c_X10_determinant (l : Launch) (D : va_G) (ct : Nat → ClassId) (ad : Nat → Nat) (F : Nat → Prop) (hG : Gd ad 18 F)  (S0 : St)  (r : Int64) (hf : f_X10_determinant  S0 = some r) : MetH l yX10_determinant cX10_determinant 1 (some .long) rm_X10_determinant D (tysW ct) F [.ref (ad 0)] (some (.long r)) (cellsM ct ad S0) (cellsM ct ad S0) := by
  refine MetH.of RX10 (by decide) rfl (Nat.le_of_ble_eq_true rfl) ?_
  intro p e s m args below meth c C hK hP ls hl
  have hl : lv_has ls 1 [(0, .ref (ad 0))] := hl
  obtain ⟨hx, hb, hr, hml, hown, htL, hlocks⟩ := id C
  have hS : va_S F s.heap s.heap [] := va_S.rf
  generalize hQ : MQ below (Hq D (cellsM ct ad S0) F (some (.long r))) args s 0 0 F = Q
  refine lv_aload_n hx hb dX10_determinant_0 rfl (lv_at hl 0 rfl) ?_
  refine lv_iconst (v := 1) hx hb dX10_determinant_1 (by decide) ?_
  refine lv_aload_n hx hb dX10_determinant_2 rfl (lv_at hl 0 rfl) ?_
  refine gf_X10_22 C hK hP mw_5_184 dX10_determinant_3 ?_
  refine lv_ishl hx hb dX10_determinant_6 ?_
  refine lv_iconst (v := 1) hx hb dX10_determinant_7 (by decide) ?_
  refine lv_isub hx hb dX10_determinant_8 ?_
  refine lv_iconst (v := 1) hx hb dX10_determinant_9 (by decide) ?_
  refine lv_aload_n hx hb dX10_determinant_10 rfl (lv_at hl 0 rfl) ?_
  refine gf_X10_22 C hK hP mw_5_184 dX10_determinant_11 ?_
  refine lv_ishl hx hb dX10_determinant_14 ?_
  refine lv_iconst (v := 1) hx hb dX10_determinant_15 (by decide) ?_
  refine lv_isub hx hb dX10_determinant_16 ?_
  obtain ⟨v2, h1, hf⟩ := b1_some hf
  refine hc_V (As := [.int ((1 <<< ((S0.1 0 22) &&& 31)) - 1), .int ((1 <<< ((S0.1 0 22) &&& 31)) - 1)]) (rest := []) C hK (c_X10_minor l D ct ad F hG ((1 <<< ((S0.1 0 22) &&& 31)) - 1) ((1 <<< ((S0.1 0 22) &&& 31)) - 1) S0  v2 h1) hl.1 cp_X10_minor mw_7_78 (rc_X10 hK hP) hP hS ⟨rfl, rfl⟩ ⟨Nat.le_of_ble_eq_true rfl, Nat.le_of_ble_eq_true rfl⟩ rfl rfl (Nat.le_of_ble_eq_true rfl) dX10_determinant_17 ⟨Nat.le_of_ble_eq_true rfl, Nat.le_of_ble_eq_true rfl⟩ (fun H locs hP hS => ?_)
  cases hf
  subst hQ
  exact he_l C hP hS dX10_determinant_20
theorem cp_X10_determinant : CPv yX10_determinant cX10_determinant 1 (some .long) 0 := ⟨mw_7_77, mw_1_9, mw_7_75, mw_7_76, by decide +kernel⟩
def rm_X10_rankOf : Room := { frames := 3, cells := 0, slots := 0, locals := 96 }
set_option maxHeartbeats 4000000 in
set_option maxRecDepth 100000 in
theorem c_X10_rankOf (l : Launch) (D : va_G) (ct : Nat → ClassId) (ad : Nat → Nat) (F : Nat → Prop) (hG : Gd ad 18 F)  (S0 : St)  (r : Int32) (hf : f_X10_rankOf  S0 = some r) : MetH l yX10_rankOf cX10_rankOf 2 (some .int) rm_X10_rankOf D (tysW ct) F [.ref (ad 0)] (some (.int r)) (cellsM ct ad S0) (cellsM ct ad S0) := by
  refine MetH.of RX10 (by decide) rfl (Nat.le_of_ble_eq_true rfl) ?_
  intro p e s m args below meth c C hK hP ls hl
  have hl : lv_has ls 2 [(0, .ref (ad 0))] := hl
  obtain ⟨hx, hb, hr, hml, hown, htL, hlocks⟩ := id C
  have hS : va_S F s.heap s.heap [] := va_S.rf
  generalize hQ : MQ below (Hq D (cellsM ct ad S0) F (some (.int r))) args s 0 0 F = Q
  have w_2 : ∀ (x1 : Int32), ∀ (H : Heap) (locs : List Loc) (ls : Array Slot), lv_has ls 2 [(0, .ref (ad 0)), (1, .int x1)] → va_P D vwCl (cellsM ct ad S0) H → va_S F s.heap H locs → n_X10_rankOf_2 S0 x1 = some r → W p l e rm_X10_rankOf s m args below meth c H locs 0 0 Q (F0 m 2 ls []) := by
    have aux : ∀ (n : Nat), ∀ (x1 : Int32), ∀ (H : Heap) (locs : List Loc) (ls : Array Slot), lv_has ls 2 [(0, .ref (ad 0)), (1, .int x1)] → va_P D vwCl (cellsM ct ad S0) H → va_S F s.heap H locs → itr (fun (q : Int32) k => s_X10_rankOf_2  (fun (x1 : Int32) => k (x1)) S0 q) n (x1) = some r → W p l e rm_X10_rankOf s m args below meth c H locs 0 0 Q (F0 m 2 ls []) := by
      intro n
      induction n with
      | zero => intro x1 H locs ls hl hP hS hf; exact (itr_z hf).elim
      | succ n ih =>
      intro x1 H locs ls hl hP hS hf
      have hk_2 := ih
      have hf : s_X10_rankOf_2  (fun (x1 : Int32) => itr (fun (q : Int32) k => s_X10_rankOf_2  (fun (x1 : Int32) => k (x1)) S0 q) n (x1)) S0 x1 = some r := hf
      refine lv_iload_n hx hb dX10_rankOf_2 rfl (lv_at hl 1 rfl) ?_
      refine lv_aload_n hx hb dX10_rankOf_3 rfl (lv_at hl 0 rfl) ?_
      refine gf_X10_22 C hK hP mw_5_184 dX10_rankOf_4 ?_
      refine lv_icmp_ge (tgt := 27) hx hb dX10_rankOf_7 (by decide) (fun c1 => ?_) (fun c1 => ?_)
      · have hf := sp1 c1 hf
        refine lv_iload_n hx hb dX10_rankOf_27 rfl (lv_at hl 1 rfl) ?_
        cases hf
        subst hQ
        exact he_i C hP hS dX10_rankOf_28
      · have hf := sp0 c1 hf
        refine lv_aload_n hx hb dX10_rankOf_10 rfl (lv_at hl 0 rfl) ?_
        refine lv_iload_n hx hb dX10_rankOf_11 rfl (lv_at hl 1 rfl) ?_
        refine lv_iconst (v := 1) hx hb dX10_rankOf_12 (by decide) ?_
        refine lv_iadd hx hb dX10_rankOf_13 ?_
        obtain ⟨v3, h2, hf⟩ := b1_some hf
        refine hc_V (As := [.int (x1 + 1)]) (rest := []) C hK (c_X10_least l D ct ad F hG (x1 + 1) S0  v3 h2) hl.1 cp_X10_least mw_7_97 (rc_X10 hK hP) hP hS ⟨rfl, rfl⟩ ⟨Nat.le_of_ble_eq_true rfl, Nat.le_of_ble_eq_true rfl⟩ rfl rfl (Nat.le_of_ble_eq_true rfl) dX10_rankOf_14 ⟨Nat.le_of_ble_eq_true rfl, Nat.le_of_ble_eq_true rfl⟩ (fun H locs hP hS => ?_)
        refine lv_iconst (v := (-1)) hx hb dX10_rankOf_17 (by decide) ?_
        refine lv_icmp_eq (tgt := 27) hx hb dX10_rankOf_18 (by decide) (fun c4 => ?_) (fun c4 => ?_)
        · have hf := sp1 c4 hf
          refine lv_iload_n hx hb dX10_rankOf_27 rfl (lv_at hl 1 rfl) ?_
          cases hf
          subst hQ
          exact he_i C hP hS dX10_rankOf_28
        · have hf := sp0 c4 hf
          refine lv_iinc (v := (x1 + 1)) (lv' := [(1, .int (x1 + 1)), (0, .ref (ad 0))]) hx hb dX10_rankOf_21 hl (k := 1) rfl rfl (by decide) rfl (fun ls hl => ?_)
          refine lv_goto (tgt := 2) hx hb dX10_rankOf_24 (by decide) ?_
          exact hk_2 (x1 + 1) _ _ _ (lv_sub hl [1, 0] rfl) hP hS hf
    exact aux FU
  refine lv_iconst (v := 0) hx hb dX10_rankOf_0 (by decide) ?_
  refine lv_istore_n (lv' := [(1, .int 0), (0, .ref (ad 0))]) hx hb dX10_rankOf_1 rfl hl (by decide) rfl (fun ls hl => ?_)
  exact w_2 0 _ _ _ (lv_sub hl [1, 0] rfl) hP hS hf
theorem cp_X10_rankOf : CPv yX10_rankOf cX10_rankOf 2 (some .int) 0 := ⟨mw_7_96, mw_1_9, mw_7_95, ms_68, by decide +kernel⟩
def rm_X10_rank : Room := { frames := 4, cells := 0, slots := 0, locals := 121 }
set_option maxHeartbeats 4000000 in
set_option maxRecDepth 100000 in
theorem c_X10_rank (l : Launch) (D : va_G) (ct : Nat → ClassId) (ad : Nat → Nat) (F : Nat → Prop) (hG : Gd ad 18 F)  (S0 : St)  (r : Int32) (hf : f_X10_rank  S0 = some r) : MetH l yX10_rank cX10_rank 1 (some .int) rm_X10_rank D (tysW ct) F [.ref (ad 0)] (some (.int r)) (cellsM ct ad S0) (cellsM ct ad S0) := by
  refine MetH.of RX10 (by decide) rfl (Nat.le_of_ble_eq_true rfl) ?_
  intro p e s m args below meth c C hK hP ls hl
  have hl : lv_has ls 1 [(0, .ref (ad 0))] := hl
  obtain ⟨hx, hb, hr, hml, hown, htL, hlocks⟩ := id C
  have hS : va_S F s.heap s.heap [] := va_S.rf
  generalize hQ : MQ below (Hq D (cellsM ct ad S0) F (some (.int r))) args s 0 0 F = Q
  refine lv_aload_n hx hb dX10_rank_0 rfl (lv_at hl 0 rfl) ?_
  obtain ⟨v2, h1, hf⟩ := b1_some hf
  refine hc_V (As := []) (rest := []) C hK (c_X10_rankOf l D ct ad F hG S0  v2 h1) hl.1 cp_X10_rankOf mw_7_93 (rc_X10 hK hP) hP hS ⟨rfl, rfl⟩ ⟨Nat.le_of_ble_eq_true rfl, Nat.le_of_ble_eq_true rfl⟩ rfl rfl (Nat.le_of_ble_eq_true rfl) dX10_rank_1 ⟨Nat.le_of_ble_eq_true rfl, Nat.le_of_ble_eq_true rfl⟩ (fun H locs hP hS => ?_)
  cases hf
  subst hQ
  exact he_i C hP hS dX10_rank_4
theorem cp_X10_rank : CPv yX10_rank cX10_rank 1 (some .int) 0 := ⟨mw_7_92, mw_1_9, mw_7_90, mw_7_91, by decide +kernel⟩
def rm_X10_shape : Room := { frames := 4, cells := 0, slots := 0, locals := 121 }
set_option maxHeartbeats 4000000 in
set_option maxRecDepth 100000 in
theorem c_X10_shape (l : Launch) (D : va_G) (ct : Nat → ClassId) (ad : Nat → Nat) (F : Nat → Prop) (hG : Gd ad 18 F) (p0 : Int32) (S0 : St)  (r : Int32) (S' : St) (hf : f_X10_shape p0 S0 = some (r, S')) : MetH l yX10_shape cX10_shape 2 (some .int) rm_X10_shape D (tysW ct) F [.ref (ad 0), .int p0] (some (.int r)) (cellsM ct ad S0) (cellsM ct ad S') := by
  refine MetH.of RX10 (by decide) rfl (Nat.le_of_ble_eq_true rfl) ?_
  intro p e s m args below meth c C hK hP ls hl
  have hl : lv_has ls 2 [(0, .ref (ad 0)), (1, .int p0)] := hl
  obtain ⟨hx, hb, hr, hml, hown, htL, hlocks⟩ := id C
  have hS : va_S F s.heap s.heap [] := va_S.rf
  generalize hQ : MQ below (Hq D (cellsM ct ad S') F (some (.int r))) args s 0 0 F = Q
  refine lv_aload_n hx hb dX10_shape_0 rfl (lv_at hl 0 rfl) ?_
  refine lv_iload_n hx hb dX10_shape_1 rfl (lv_at hl 1 rfl) ?_
  refine lv_i2l hx hb dX10_shape_2 rfl ?_
  refine lv_lconst (v := 0) hx hb dX10_shape_3 (by decide) ?_
  refine lv_aload_n hx hb dX10_shape_4 rfl (lv_at hl 0 rfl) ?_
  obtain ⟨v2, h1, hf⟩ := b1_some hf
  refine hc_V (As := []) (rest := [.long 0, .long (Int32.toInt64 p0), .ref (ad 0)]) C hK (c_X10_rankOf l D ct ad F hG S0  v2 h1) hl.1 cp_X10_rankOf mw_7_93 (rc_X10 hK hP) hP hS ⟨rfl, rfl⟩ ⟨Nat.le_of_ble_eq_true rfl, Nat.le_of_ble_eq_true rfl⟩ rfl rfl (Nat.le_of_ble_eq_true rfl) dX10_shape_5 ⟨Nat.le_of_ble_eq_true rfl, Nat.le_of_ble_eq_true rfl⟩ (fun H locs hP hS => ?_)
  refine lv_iconst (v := 1) hx hb dX10_shape_8 (by decide) ?_
  refine lv_isub hx hb dX10_shape_9 ?_
  refine lv_i2l hx hb dX10_shape_10 rfl ?_
  obtain ⟨v3, h4, hf⟩ := b1_some hf
  refine pc_S (As := [.long (Int32.toInt64 p0), .long 0, .long (Int32.toInt64 (v2 - 1))]) (rest := [.ref (ad 0)]) C (c_X10_isIn l (Int32.toInt64 p0) 0 (Int32.toInt64 (v2 - 1)) v3 h4) hl.1 cp_X10_isIn mw_6_15 ⟨rfl, rfl⟩ ⟨Nat.le_of_ble_eq_true rfl, Nat.le_of_ble_eq_true rfl⟩ rfl rfl (Nat.le_of_ble_eq_true rfl) dX10_shape_11 ⟨Nat.le_of_ble_eq_true rfl, Nat.le_of_ble_eq_true rfl⟩ ?_
  refine lv_iconst (v := 1) hx hb dX10_shape_14 (by decide) ?_
  obtain ⟨v6, S7, h5, hf⟩ := b2_some hf
  refine hc_V (As := [.int v3, .int 1]) (rest := []) C hK (c_X10_no l D ct ad F hG v3 1 S0  v6 S7 h5) hl.1 cp_X10_no mw_6_21 (rc_X10 hK hP) hP hS ⟨rfl, rfl⟩ ⟨Nat.le_of_ble_eq_true rfl, Nat.le_of_ble_eq_true rfl⟩ rfl rfl (Nat.le_of_ble_eq_true rfl) dX10_shape_15 ⟨Nat.le_of_ble_eq_true rfl, Nat.le_of_ble_eq_true rfl⟩ (fun H locs hP hS => ?_)
  refine lv_if_eq (tgt := 25) hx hb dX10_shape_18 (by decide) (fun c8 => ?_) (fun c8 => ?_)
  · have hf := sp1 c8 hf
    refine lv_aload_n hx hb dX10_shape_25 rfl (lv_at hl 0 rfl) ?_
    refine lv_iload_n hx hb dX10_shape_26 rfl (lv_at hl 1 rfl) ?_
    refine lv_iconst (v := 1) hx hb dX10_shape_27 (by decide) ?_
    refine lv_iadd hx hb dX10_shape_28 ?_
    obtain ⟨v10, h9, hf⟩ := b1_some hf
    refine hc_V (As := [.int (p0 + 1)]) (rest := []) C hK (c_X10_least l D ct ad F hG (p0 + 1) S7  v10 h9) hl.1 cp_X10_least mw_7_97 (rc_X10 hK hP) hP hS ⟨rfl, rfl⟩ ⟨Nat.le_of_ble_eq_true rfl, Nat.le_of_ble_eq_true rfl⟩ rfl rfl (Nat.le_of_ble_eq_true rfl) dX10_shape_29 ⟨Nat.le_of_ble_eq_true rfl, Nat.le_of_ble_eq_true rfl⟩ (fun H locs hP hS => ?_)
    refine lv_aload_n hx hb dX10_shape_32 rfl (lv_at hl 0 rfl) ?_
    refine lv_iload_n hx hb dX10_shape_33 rfl (lv_at hl 1 rfl) ?_
    obtain ⟨v12, h11, hf⟩ := b1_some hf
    refine hc_V (As := [.int p0]) (rest := [.int v10]) C hK (c_X10_least l D ct ad F hG p0 S7  v12 h11) hl.1 cp_X10_least mw_7_97 (rc_X10 hK hP) hP hS ⟨rfl, rfl⟩ ⟨Nat.le_of_ble_eq_true rfl, Nat.le_of_ble_eq_true rfl⟩ rfl rfl (Nat.le_of_ble_eq_true rfl) dX10_shape_34 ⟨Nat.le_of_ble_eq_true rfl, Nat.le_of_ble_eq_true rfl⟩ (fun H locs hP hS => ?_)
    refine lv_isub hx hb dX10_shape_37 ?_
    cases hf
    subst hQ
    exact he_i C hP hS dX10_shape_38
  · have hf := sp0 c8 hf
    refine lv_iconst (v := 0) hx hb dX10_shape_21 (by decide) ?_
    refine lv_goto (tgt := 38) hx hb dX10_shape_22 (by decide) ?_
    cases hf
    subst hQ
    exact he_i C hP hS dX10_shape_38
theorem cp_X10_shape : CPv yX10_shape cX10_shape 2 (some .int) 1 := ⟨mw_7_104, mw_1_9, mw_7_102, mw_7_103, by decide +kernel⟩
def rm_X10_value : Room := { frames := 1, cells := 0, slots := 0, locals := 29 }
set_option maxHeartbeats 4000000 in
set_option maxRecDepth 100000 in
theorem c_X10_value (l : Launch) (D : va_G) (ct : Nat → ClassId) (ad : Nat → Nat) (F : Nat → Prop) (hG : Gd ad 18 F) (p0 : Int32) (S0 : St)  (r : Int32) (S' : St) (hf : f_X10_value p0 S0 = some (r, S')) : MetH l yX10_value cX10_value 2 (some .int) rm_X10_value D (tysW ct) F [.ref (ad 0), .int p0] (some (.int r)) (cellsM ct ad S0) (cellsM ct ad S') := by
  refine MetH.of RX10 (by decide) rfl (Nat.le_of_ble_eq_true rfl) ?_
  intro p e s m args below meth c C hK hP ls hl
  have hl : lv_has ls 2 [(0, .ref (ad 0)), (1, .int p0)] := hl
  obtain ⟨hx, hb, hr, hml, hown, htL, hlocks⟩ := id C
  have hS : va_S F s.heap s.heap [] := va_S.rf
  generalize hQ : MQ below (Hq D (cellsM ct ad S') F (some (.int r))) args s 0 0 F = Q
  have w_34 : ∀ (x1 : Int32) (y1 : Int32) (S : St), ∀ (H : Heap) (locs : List Loc) (ls : Array Slot), lv_has ls 2 [(0, .ref (ad 0)), (1, .int x1)] → va_P D vwCl (cellsM ct ad S) H → va_S F s.heap H locs → n_X10_value_34 x1 y1 S = some (r, S') → W p l e rm_X10_value s m args below meth c H locs 0 0 Q (F0 m 34 ls [.int y1, .ref (ad 0)]) := by
    intro  x1 y1 S H locs ls hl hP hS hf
    refine lv_iconst (v := 2) hx hb dX10_value_34 (by decide) ?_
    obtain ⟨v2, S3, h1, hf⟩ := b2_some hf
    refine hc_V (As := [.int y1, .int 2]) (rest := []) C hK (c_X10_no l D ct ad F hG y1 2 S  v2 S3 h1) hl.1 cp_X10_no mw_6_21 (rc_X10 hK hP) hP hS ⟨rfl, rfl⟩ ⟨Nat.le_of_ble_eq_true rfl, Nat.le_of_ble_eq_true rfl⟩ rfl rfl (Nat.le_of_ble_eq_true rfl) dX10_value_35 ⟨Nat.le_of_ble_eq_true rfl, Nat.le_of_ble_eq_true rfl⟩ (fun H locs hP hS => ?_)
    refine lv_if_eq (tgt := 43) hx hb dX10_value_38 (by decide) (fun c4 => ?_) (fun c4 => ?_)
    · have hf := sp1 c4 hf
      refine lv_aload_n hx hb dX10_value_43 rfl (lv_at hl 0 rfl) ?_
      refine gf_X10_13 C hK hP mw_5_175 dX10_value_44 ?_
      refine lv_aload_n hx hb dX10_value_47 rfl (lv_at hl 0 rfl) ?_
      refine gf_X10_21 C hK hP mw_5_183 dX10_value_48 ?_
      refine lv_iload_n hx hb dX10_value_51 rfl (lv_at hl 1 rfl) ?_
      obtain ⟨c5, hf⟩ := spn hf
      refine as_M14 C hK hP hG hS c5 dX10_value_52 (fun H locs hP hS => ?_)
      refine lv_aload_n hx hb dX10_value_53 rfl (lv_at hl 0 rfl) ?_
      refine lv_dup hx hb dX10_value_54 rfl ?_
      refine gf_X10_21 C hK hP mw_5_183 dX10_value_55 ?_
      refine lv_iconst (v := 1) hx hb dX10_value_58 (by decide) ?_
      refine lv_iadd hx hb dX10_value_59 ?_
      refine lv_dup_x1 hx hb dX10_value_60 rfl rfl ?_
      refine pf_X10_21 C hK hP hG hS mw_5_183 dX10_value_61 (fun H locs hP hS => ?_)
      cases hf
      subst hQ
      exact he_i C hP hS dX10_value_64
    · have hf := sp0 c4 hf
      refine lv_iconst (v := 0) hx hb dX10_value_41 (by decide) ?_
      cases hf
      subst hQ
      exact he_i C hP hS dX10_value_42
  refine lv_aload_n hx hb dX10_value_0 rfl (lv_at hl 0 rfl) ?_
  refine lv_iload_n hx hb dX10_value_1 rfl (lv_at hl 1 rfl) ?_
  refine lv_i2l hx hb dX10_value_2 rfl ?_
  refine lv_ldc2 (v := -10000) hx hb hown (htL _ mw_6_229) dX10_value_3 ?_
  refine lv_ldc2 (v := 10000) hx hb hown (htL _ mw_6_230) dX10_value_6 ?_
  obtain ⟨v6, h7, hf⟩ := b1_some hf
  refine pc_S (As := [.long (Int32.toInt64 p0), .long (-10000), .long (10000)]) (rest := [.ref (ad 0)]) C (c_X10_isIn l (Int32.toInt64 p0) (-10000) (10000) v6 h7) hl.1 cp_X10_isIn mw_6_15 ⟨rfl, rfl⟩ ⟨Nat.le_of_ble_eq_true rfl, Nat.le_of_ble_eq_true rfl⟩ rfl rfl (Nat.le_of_ble_eq_true rfl) dX10_value_9 ⟨Nat.le_of_ble_eq_true rfl, Nat.le_of_ble_eq_true rfl⟩ ?_
  refine lv_iconst (v := 1) hx hb dX10_value_12 (by decide) ?_
  obtain ⟨v9, S10, h8, hf⟩ := b2_some hf
  refine hc_V (As := [.int v6, .int 1]) (rest := []) C hK (c_X10_no l D ct ad F hG v6 1 S0  v9 S10 h8) hl.1 cp_X10_no mw_6_21 (rc_X10 hK hP) hP hS ⟨rfl, rfl⟩ ⟨Nat.le_of_ble_eq_true rfl, Nat.le_of_ble_eq_true rfl⟩ rfl rfl (Nat.le_of_ble_eq_true rfl) dX10_value_13 ⟨Nat.le_of_ble_eq_true rfl, Nat.le_of_ble_eq_true rfl⟩ (fun H locs hP hS => ?_)
  refine lv_if_ne (tgt := 41) hx hb dX10_value_16 (by decide) (fun c11 => ?_) (fun c11 => ?_)
  · have hf := sp0 c11 hf
    refine lv_iconst (v := 0) hx hb dX10_value_41 (by decide) ?_
    cases hf
    subst hQ
    exact he_i C hP hS dX10_value_42
  · have hf := sp1 c11 hf
    refine lv_aload_n hx hb dX10_value_19 rfl (lv_at hl 0 rfl) ?_
    refine lv_aload_n hx hb dX10_value_20 rfl (lv_at hl 0 rfl) ?_
    refine gf_X10_21 C hK hP mw_5_183 dX10_value_21 ?_
    refine lv_bipush (v := 12) hx hb dX10_value_24 (by decide) ?_
    refine lv_icmp_ge (tgt := 33) hx hb dX10_value_26 (by decide) (fun c12 => ?_) (fun c12 => ?_)
    · have hf := sp1 c12 hf
      refine lv_iconst (v := 0) hx hb dX10_value_33 (by decide) ?_
      exact w_34 p0 0 S10 _ _ _ (lv_sub hl [0, 1] rfl) hP hS hf
    · have hf := sp0 c12 hf
      refine lv_iconst (v := 1) hx hb dX10_value_29 (by decide) ?_
      refine lv_goto (tgt := 34) hx hb dX10_value_30 (by decide) ?_
      exact w_34 p0 1 S10 _ _ _ (lv_sub hl [0, 1] rfl) hP hS hf
theorem cp_X10_value : CPv yX10_value cX10_value 2 (some .int) 1 := ⟨mw_7_108, mw_1_9, mw_7_106, mw_7_107, by decide +kernel⟩
def rm_X10_difference : Room := { frames := 1, cells := 0, slots := 0, locals := 29 }
set_option maxHeartbeats 4000000 in
set_option maxRecDepth 100000 in
theorem c_X10_difference (l : Launch) (D : va_G) (ct : Nat → ClassId) (ad : Nat → Nat) (F : Nat → Prop) (hG : Gd ad 18 F) (p0 : Int32) (S0 : St)  (r : Int32) (S' : St) (hf : f_X10_difference p0 S0 = some (r, S')) : MetH l yX10_difference cX10_difference 4 (some .int) rm_X10_difference D (tysW ct) F [.ref (ad 0), .int p0] (some (.int r)) (cellsM ct ad S0) (cellsM ct ad S') := by
  refine MetH.of RX10 (by decide) rfl (Nat.le_of_ble_eq_true rfl) ?_
  intro p e s m args below meth c C hK hP ls hl
  have hl : lv_has ls 4 [(0, .ref (ad 0)), (1, .int p0)] := hl
  obtain ⟨hx, hb, hr, hml, hown, htL, hlocks⟩ := id C
  have hS : va_S F s.heap s.heap [] := va_S.rf
  generalize hQ : MQ below (Hq D (cellsM ct ad S') F (some (.int r))) args s 0 0 F = Q
  have w_27 : ∀ (x1 : Int32) (x2 : Int32) (x3 : Int32) (S : St), ∀ (H : Heap) (locs : List Loc) (ls : Array Slot), lv_has ls 4 [(0, .ref (ad 0)), (1, .int x1), (2, .int x2), (3, .int x3)] → va_P D vwCl (cellsM ct ad S) H → va_S F s.heap H locs → n_X10_difference_27 x1 x2 x3 S = some (r, S') → W p l e rm_X10_difference s m args below meth c H locs 0 0 Q (F0 m 27 ls []) := by
    have aux : ∀ (n : Nat), ∀ (x1 : Int32) (x2 : Int32) (x3 : Int32) (S : St), ∀ (H : Heap) (locs : List Loc) (ls : Array Slot), lv_has ls 4 [(0, .ref (ad 0)), (1, .int x1), (2, .int x2), (3, .int x3)] → va_P D vwCl (cellsM ct ad S) H → va_S F s.heap H locs → itr (fun (q : Int32 × Int32 × Int32 × St) k => s_X10_difference_27  (fun (x1 : Int32) (x2 : Int32) (x3 : Int32) (S : St) => k (x1, x2, x3, S)) q.1 q.2.1 q.2.2.1 q.2.2.2) n (x1, x2, x3, S) = some (r, S') → W p l e rm_X10_difference s m args below meth c H locs 0 0 Q (F0 m 27 ls []) := by
      intro n
      induction n with
      | zero => intro x1 x2 x3 S H locs ls hl hP hS hf; exact (itr_z hf).elim
      | succ n ih =>
      intro x1 x2 x3 S H locs ls hl hP hS hf
      have hk_27 := ih
      have hf : s_X10_difference_27  (fun (x1 : Int32) (x2 : Int32) (x3 : Int32) (S : St) => itr (fun (q : Int32 × Int32 × Int32 × St) k => s_X10_difference_27  (fun (x1 : Int32) (x2 : Int32) (x3 : Int32) (S : St) => k (x1, x2, x3, S)) q.1 q.2.1 q.2.2.1 q.2.2.2) n (x1, x2, x3, S)) x1 x2 x3 S = some (r, S') := hf
      refine lv_iload_n hx hb dX10_difference_27 rfl (lv_at hl 3 rfl) ?_
      refine lv_iload_n hx hb dX10_difference_28 rfl (lv_at hl 1 rfl) ?_
      refine lv_icmp_gt (tgt := 67) hx hb dX10_difference_29 (by decide) (fun c1 => ?_) (fun c1 => ?_)
      · have hf := sp1 c1 hf
        refine lv_iload_n hx hb dX10_difference_67 rfl (lv_at hl 2 rfl) ?_
        cases hf
        subst hQ
        exact he_i C hP hS dX10_difference_68
      · have hf := sp0 c1 hf
        refine lv_iload_n hx hb dX10_difference_32 rfl (lv_at hl 2 rfl) ?_
        refine lv_aload_n hx hb dX10_difference_33 rfl (lv_at hl 0 rfl) ?_
        refine gf_X10_13 C hK hP mw_5_175 dX10_difference_34 ?_
        refine lv_iload_n hx hb dX10_difference_37 rfl (lv_at hl 3 rfl) ?_
        obtain ⟨c2, hf⟩ := spn hf
        refine al_M14 C hK hP c2 dX10_difference_38 ?_
        refine lv_iload_n hx hb dX10_difference_39 rfl (lv_at hl 1 rfl) ?_
        refine lv_iload_n hx hb dX10_difference_40 rfl (lv_at hl 3 rfl) ?_
        obtain ⟨v3, h4, hf⟩ := b1_some hf
        refine pc_S (As := [.int x1, .int x3]) (rest := [.int (S.1 14 (Int32.toNatClampNeg x3)), .int x2]) C (c_X10_choose l x1 x3 v3 h4) hl.1 cp_X10_choose mw_6_129 ⟨rfl, rfl⟩ ⟨Nat.le_of_ble_eq_true rfl, Nat.le_of_ble_eq_true rfl⟩ rfl rfl (Nat.le_of_ble_eq_true rfl) dX10_difference_41 ⟨Nat.le_of_ble_eq_true rfl, Nat.le_of_ble_eq_true rfl⟩ ?_
        refine lv_imul hx hb dX10_difference_44 ?_
        refine lv_iload_n hx hb dX10_difference_45 rfl (lv_at hl 1 rfl) ?_
        refine lv_iload_n hx hb dX10_difference_46 rfl (lv_at hl 3 rfl) ?_
        refine lv_isub hx hb dX10_difference_47 ?_
        refine lv_iconst (v := 2) hx hb dX10_difference_48 (by decide) ?_
        refine lv_irem hx hb dX10_difference_49 (by decide) ?_
        refine lv_if_ne (tgt := 57) hx hb dX10_difference_50 (by decide) (fun c5 => ?_) (fun c5 => ?_)
        · have hf := sp0 c5 hf
          refine lv_iconst (v := (-1)) hx hb dX10_difference_57 (by decide) ?_
          refine lv_imul hx hb dX10_difference_58 ?_
          refine lv_iadd hx hb dX10_difference_59 ?_
          refine lv_istore_n (lv' := [(2, .int (x2 + (((S.1 14 (Int32.toNatClampNeg x3)) * v3) * (-1)))), (0, .ref (ad 0)), (1, .int x1), (3, .int x3)]) hx hb dX10_difference_60 rfl hl (by decide) rfl (fun ls hl => ?_)
          refine lv_iinc (v := (x3 + 1)) (lv' := [(3, .int (x3 + 1)), (2, .int (x2 + (((S.1 14 (Int32.toNatClampNeg x3)) * v3) * (-1)))), (0, .ref (ad 0)), (1, .int x1)]) hx hb dX10_difference_61 hl (k := 3) rfl rfl (by decide) rfl (fun ls hl => ?_)
          refine lv_goto (tgt := 27) hx hb dX10_difference_64 (by decide) ?_
          exact hk_27 x1 (x2 + (((S.1 14 (Int32.toNatClampNeg x3)) * v3) * (-1))) (x3 + 1) S _ _ _ (lv_sub hl [2, 3, 1, 0] rfl) hP hS hf
        · have hf := sp1 c5 hf
          refine lv_iconst (v := 1) hx hb dX10_difference_53 (by decide) ?_
          refine lv_goto (tgt := 58) hx hb dX10_difference_54 (by decide) ?_
          refine lv_imul hx hb dX10_difference_58 ?_
          refine lv_iadd hx hb dX10_difference_59 ?_
          refine lv_istore_n (lv' := [(2, .int (x2 + (((S.1 14 (Int32.toNatClampNeg x3)) * v3) * 1))), (0, .ref (ad 0)), (1, .int x1), (3, .int x3)]) hx hb dX10_difference_60 rfl hl (by decide) rfl (fun ls hl => ?_)
          refine lv_iinc (v := (x3 + 1)) (lv' := [(3, .int (x3 + 1)), (2, .int (x2 + (((S.1 14 (Int32.toNatClampNeg x3)) * v3) * 1))), (0, .ref (ad 0)), (1, .int x1)]) hx hb dX10_difference_61 hl (k := 3) rfl rfl (by decide) rfl (fun ls hl => ?_)
          refine lv_goto (tgt := 27) hx hb dX10_difference_64 (by decide) ?_
          exact hk_27 x1 (x2 + (((S.1 14 (Int32.toNatClampNeg x3)) * v3) * 1)) (x3 + 1) S _ _ _ (lv_sub hl [2, 3, 1, 0] rfl) hP hS hf
    exact aux FU
  refine lv_aload_n hx hb dX10_difference_0 rfl (lv_at hl 0 rfl) ?_
  refine lv_iload_n hx hb dX10_difference_1 rfl (lv_at hl 1 rfl) ?_
  refine lv_i2l hx hb dX10_difference_2 rfl ?_
  refine lv_lconst (v := 0) hx hb dX10_difference_3 (by decide) ?_
  refine lv_aload_n hx hb dX10_difference_4 rfl (lv_at hl 0 rfl) ?_
  refine gf_X10_21 C hK hP mw_5_183 dX10_difference_5 ?_
  refine lv_iconst (v := 1) hx hb dX10_difference_8 (by decide) ?_
  refine lv_isub hx hb dX10_difference_9 ?_
  refine lv_i2l hx hb dX10_difference_10 rfl ?_
  obtain ⟨v6, h7, hf⟩ := b1_some hf
  refine pc_S (As := [.long (Int32.toInt64 p0), .long 0, .long (Int32.toInt64 ((S0.1 0 21) - 1))]) (rest := [.ref (ad 0)]) C (c_X10_isIn l (Int32.toInt64 p0) 0 (Int32.toInt64 ((S0.1 0 21) - 1)) v6 h7) hl.1 cp_X10_isIn mw_6_15 ⟨rfl, rfl⟩ ⟨Nat.le_of_ble_eq_true rfl, Nat.le_of_ble_eq_true rfl⟩ rfl rfl (Nat.le_of_ble_eq_true rfl) dX10_difference_11 ⟨Nat.le_of_ble_eq_true rfl, Nat.le_of_ble_eq_true rfl⟩ ?_
  refine lv_iconst (v := 1) hx hb dX10_difference_14 (by decide) ?_
  obtain ⟨v9, S10, h8, hf⟩ := b2_some hf
  refine hc_V (As := [.int v6, .int 1]) (rest := []) C hK (c_X10_no l D ct ad F hG v6 1 S0  v9 S10 h8) hl.1 cp_X10_no mw_6_21 (rc_X10 hK hP) hP hS ⟨rfl, rfl⟩ ⟨Nat.le_of_ble_eq_true rfl, Nat.le_of_ble_eq_true rfl⟩ rfl rfl (Nat.le_of_ble_eq_true rfl) dX10_difference_15 ⟨Nat.le_of_ble_eq_true rfl, Nat.le_of_ble_eq_true rfl⟩ (fun H locs hP hS => ?_)
  refine lv_if_eq (tgt := 23) hx hb dX10_difference_18 (by decide) (fun c11 => ?_) (fun c11 => ?_)
  · have hf := sp1 c11 hf
    refine lv_iconst (v := 0) hx hb dX10_difference_23 (by decide) ?_
    refine lv_istore_n (lv' := [(2, .int 0), (0, .ref (ad 0)), (1, .int p0)]) hx hb dX10_difference_24 rfl hl (by decide) rfl (fun ls hl => ?_)
    refine lv_iconst (v := 0) hx hb dX10_difference_25 (by decide) ?_
    refine lv_istore_n (lv' := [(3, .int 0), (2, .int 0), (0, .ref (ad 0)), (1, .int p0)]) hx hb dX10_difference_26 rfl hl (by decide) rfl (fun ls hl => ?_)
    exact w_27 p0 0 0 S10 _ _ _ (lv_sub hl [2, 3, 1, 0] rfl) hP hS hf
  · have hf := sp0 c11 hf
    refine lv_iconst (v := 0) hx hb dX10_difference_21 (by decide) ?_
    cases hf
    subst hQ
    exact he_i C hP hS dX10_difference_22
theorem cp_X10_difference : CPv yX10_difference cX10_difference 4 (some .int) 1 := ⟨mw_7_112, mw_1_9, mw_7_110, mw_7_111, by decide +kernel⟩
def rm_X10_at : Room := { frames := 7, cells := 0, slots := 0, locals := 221 }
set_option maxHeartbeats 4000000 in
set_option maxRecDepth 100000 in
theorem c_X10_at (l : Launch) (D : va_G) (ct : Nat → ClassId) (ad : Nat → Nat) (F : Nat → Prop) (hG : Gd ad 18 F) (p0 : Int32) (S0 : St)  (r : Int32) (S' : St) (hf : f_X10_at p0 S0 = some (r, S')) : MetH l yX10_at cX10_at 3 (some .int) rm_X10_at D (tysW ct) F [.ref (ad 0), .int p0] (some (.int r)) (cellsM ct ad S0) (cellsM ct ad S') := by
  refine MetH.of RX10 (by decide) rfl (Nat.le_of_ble_eq_true rfl) ?_
  intro p e s m args below meth c C hK hP ls hl
  have hl : lv_has ls 3 [(0, .ref (ad 0)), (1, .int p0)] := hl
  obtain ⟨hx, hb, hr, hml, hown, htL, hlocks⟩ := id C
  have hS : va_S F s.heap s.heap [] := va_S.rf
  generalize hQ : MQ below (Hq D (cellsM ct ad S') F (some (.int r))) args s 0 0 F = Q
  have w_54 : ∀ (x1 : Int32) (x2 : Int32) (S : St), ∀ (H : Heap) (locs : List Loc) (ls : Array Slot), lv_has ls 3 [(0, .ref (ad 0)), (1, .int x1), (2, .int x2)] → va_P D vwCl (cellsM ct ad S) H → va_S F s.heap H locs → n_X10_at_54 x1 x2 S = some (r, S') → W p l e rm_X10_at s m args below meth c H locs 0 0 Q (F0 m 54 ls []) := by
    have aux : ∀ (n : Nat), ∀ (x1 : Int32) (x2 : Int32) (S : St), ∀ (H : Heap) (locs : List Loc) (ls : Array Slot), lv_has ls 3 [(0, .ref (ad 0)), (1, .int x1), (2, .int x2)] → va_P D vwCl (cellsM ct ad S) H → va_S F s.heap H locs → itr (fun (q : Int32 × Int32 × St) k => s_X10_at_54  (fun (x1 : Int32) (x2 : Int32) (S : St) => k (x1, x2, S)) q.1 q.2.1 q.2.2) n (x1, x2, S) = some (r, S') → W p l e rm_X10_at s m args below meth c H locs 0 0 Q (F0 m 54 ls []) := by
      intro n
      induction n with
      | zero => intro x1 x2 S H locs ls hl hP hS hf; exact (itr_z hf).elim
      | succ n ih =>
      intro x1 x2 S H locs ls hl hP hS hf
      have hk_54 := ih
      have hf : s_X10_at_54  (fun (x1 : Int32) (x2 : Int32) (S : St) => itr (fun (q : Int32 × Int32 × St) k => s_X10_at_54  (fun (x1 : Int32) (x2 : Int32) (S : St) => k (x1, x2, S)) q.1 q.2.1 q.2.2) n (x1, x2, S)) x1 x2 S = some (r, S') := hf
      refine lv_iload_n hx hb dX10_at_54 rfl (lv_at hl 2 rfl) ?_
      refine lv_bipush (v := 12) hx hb dX10_at_55 (by decide) ?_
      refine lv_icmp_ge (tgt := 86) hx hb dX10_at_57 (by decide) (fun c1 => ?_) (fun c1 => ?_)
      · have hf := sp1 c1 hf
        refine lv_aload_n hx hb dX10_at_86 rfl (lv_at hl 0 rfl) ?_
        refine gf_X10_6 C hK hP mw_5_168 dX10_at_87 ?_
        refine lv_aload_n hx hb dX10_at_90 rfl (lv_at hl 0 rfl) ?_
        refine gf_X10_19 C hK hP mw_5_181 dX10_at_91 ?_
        refine lv_aload_n hx hb dX10_at_94 rfl (lv_at hl 0 rfl) ?_
        refine gf_X10_21 C hK hP mw_5_183 dX10_at_95 ?_
        obtain ⟨c2, hf⟩ := spn hf
        refine as_M7 C hK hP hG hS c2 dX10_at_98 (fun H locs hP hS => ?_)
        refine lv_aload_n hx hb dX10_at_99 rfl (lv_at hl 0 rfl) ?_
        refine lv_bipush (v := 8) hx hb dX10_at_100 (by decide) ?_
        refine lv_iload_n hx hb dX10_at_102 rfl (lv_at hl 1 rfl) ?_
        refine lv_iconst (v := 0) hx hb dX10_at_103 (by decide) ?_
        refine lv_iconst (v := 0) hx hb dX10_at_104 (by decide) ?_
        obtain ⟨v4, S5, h3, hf⟩ := b2_some hf
        refine hc_V (As := [.int 8, .int x1, .int 0, .int 0]) (rest := []) C hK (c_X10_comes l D ct ad F hG 8 x1 0 0 (wI S 7 (Int32.toNatClampNeg (S.1 0 19)) (S.1 0 21))  v4 S5 h3) hl.1 cp_X10_comes mw_6_46 (rc_X10 hK hP) hP hS ⟨rfl, rfl⟩ ⟨Nat.le_of_ble_eq_true rfl, Nat.le_of_ble_eq_true rfl⟩ rfl rfl (Nat.le_of_ble_eq_true rfl) dX10_at_105 ⟨Nat.le_of_ble_eq_true rfl, Nat.le_of_ble_eq_true rfl⟩ (fun H locs hP hS => ?_)
        cases hf
        subst hQ
        exact he_i C hP hS dX10_at_108
      · have hf := sp0 c1 hf
        refine lv_aload_n hx hb dX10_at_60 rfl (lv_at hl 0 rfl) ?_
        refine gf_X10_9 C hK hP mw_5_171 dX10_at_61 ?_
        refine lv_bipush (v := 12) hx hb dX10_at_64 (by decide) ?_
        refine lv_aload_n hx hb dX10_at_66 rfl (lv_at hl 0 rfl) ?_
        refine gf_X10_19 C hK hP mw_5_181 dX10_at_67 ?_
        refine lv_imul hx hb dX10_at_70 ?_
        refine lv_iload_n hx hb dX10_at_71 rfl (lv_at hl 2 rfl) ?_
        refine lv_iadd hx hb dX10_at_72 ?_
        refine lv_aload_n hx hb dX10_at_73 rfl (lv_at hl 0 rfl) ?_
        refine gf_X10_13 C hK hP mw_5_175 dX10_at_74 ?_
        refine lv_iload_n hx hb dX10_at_77 rfl (lv_at hl 2 rfl) ?_
        obtain ⟨c6, hf⟩ := spn hf
        refine al_M14 C hK hP c6 dX10_at_78 ?_
        obtain ⟨c7, hf⟩ := spn hf
        refine as_M10 C hK hP hG hS c7 dX10_at_79 (fun H locs hP hS => ?_)
        refine lv_iinc (v := (x2 + 1)) (lv' := [(2, .int (x2 + 1)), (0, .ref (ad 0)), (1, .int x1)]) hx hb dX10_at_80 hl (k := 2) rfl rfl (by decide) rfl (fun ls hl => ?_)
        refine lv_goto (tgt := 54) hx hb dX10_at_83 (by decide) ?_
        exact hk_54 x1 (x2 + 1) (wI S 10 (Int32.toNatClampNeg ((12 * (S.1 0 19)) + x2)) (S.1 14 (Int32.toNatClampNeg x2))) _ _ _ (lv_sub hl [1, 2, 0] rfl) hP hS hf
    exact aux FU
  have w_35 : ∀ (x1 : Int32) (y1 : Int32) (S : St), ∀ (H : Heap) (locs : List Loc) (ls : Array Slot), lv_has ls 3 [(0, .ref (ad 0)), (1, .int x1)] → va_P D vwCl (cellsM ct ad S) H → va_S F s.heap H locs → n_X10_at_35 x1 y1 S = some (r, S') → W p l e rm_X10_at s m args below meth c H locs 0 0 Q (F0 m 35 ls [.int y1, .ref (ad 0)]) := by
    intro  x1 y1 S H locs ls hl hP hS hf
    refine lv_iconst (v := 2) hx hb dX10_at_35 (by decide) ?_
    obtain ⟨v9, S10, h8, hf⟩ := b2_some hf
    refine hc_V (As := [.int y1, .int 2]) (rest := []) C hK (c_X10_no l D ct ad F hG y1 2 S  v9 S10 h8) hl.1 cp_X10_no mw_6_21 (rc_X10 hK hP) hP hS ⟨rfl, rfl⟩ ⟨Nat.le_of_ble_eq_true rfl, Nat.le_of_ble_eq_true rfl⟩ rfl rfl (Nat.le_of_ble_eq_true rfl) dX10_at_36 ⟨Nat.le_of_ble_eq_true rfl, Nat.le_of_ble_eq_true rfl⟩ (fun H locs hP hS => ?_)
    refine lv_if_ne (tgt := 50) hx hb dX10_at_39 (by decide) (fun c11 => ?_) (fun c11 => ?_)
    · have hf := sp0 c11 hf
      refine lv_iconst (v := 0) hx hb dX10_at_50 (by decide) ?_
      cases hf
      subst hQ
      exact he_i C hP hS dX10_at_51
    · have hf := sp1 c11 hf
      refine lv_aload_n hx hb dX10_at_42 rfl (lv_at hl 0 rfl) ?_
      refine lv_iconst (v := 3) hx hb dX10_at_43 (by decide) ?_
      obtain ⟨v13, S14, h12, hf⟩ := b2_some hf
      refine hc_V (As := [.int 3]) (rest := []) C hK (c_X10_noRoom l D ct ad F hG 3 S10  v13 S14 h12) hl.1 cp_X10_noRoom mw_6_42 (rc_X10 hK hP) hP hS ⟨rfl, rfl⟩ ⟨Nat.le_of_ble_eq_true rfl, Nat.le_of_ble_eq_true rfl⟩ rfl rfl (Nat.le_of_ble_eq_true rfl) dX10_at_44 ⟨Nat.le_of_ble_eq_true rfl, Nat.le_of_ble_eq_true rfl⟩ (fun H locs hP hS => ?_)
      refine lv_if_eq (tgt := 52) hx hb dX10_at_47 (by decide) (fun c15 => ?_) (fun c15 => ?_)
      · have hf := sp1 c15 hf
        refine lv_iconst (v := 0) hx hb dX10_at_52 (by decide) ?_
        refine lv_istore_n (lv' := [(2, .int 0), (0, .ref (ad 0)), (1, .int x1)]) hx hb dX10_at_53 rfl hl (by decide) rfl (fun ls hl => ?_)
        exact w_54 x1 0 S14 _ _ _ (lv_sub hl [1, 2, 0] rfl) hP hS hf
      · have hf := sp0 c15 hf
        refine lv_iconst (v := 0) hx hb dX10_at_50 (by decide) ?_
        cases hf
        subst hQ
        exact he_i C hP hS dX10_at_51
  refine lv_aload_n hx hb dX10_at_0 rfl (lv_at hl 0 rfl) ?_
  refine lv_iload_n hx hb dX10_at_1 rfl (lv_at hl 1 rfl) ?_
  obtain ⟨v17, S18, h16, hf⟩ := b2_some hf
  refine hc_V (As := [.int p0]) (rest := []) C hK (c_X10_noNumber l D ct ad F hG p0 S0  v17 S18 h16) hl.1 cp_X10_noNumber mw_6_160 (rc_X10 hK hP) hP hS ⟨rfl, rfl⟩ ⟨Nat.le_of_ble_eq_true rfl, Nat.le_of_ble_eq_true rfl⟩ rfl rfl (Nat.le_of_ble_eq_true rfl) dX10_at_2 ⟨Nat.le_of_ble_eq_true rfl, Nat.le_of_ble_eq_true rfl⟩ (fun H locs hP hS => ?_)
  refine lv_if_ne (tgt := 50) hx hb dX10_at_5 (by decide) (fun c19 => ?_) (fun c19 => ?_)
  · have hf := sp0 c19 hf
    refine lv_iconst (v := 0) hx hb dX10_at_50 (by decide) ?_
    cases hf
    subst hQ
    exact he_i C hP hS dX10_at_51
  · have hf := sp1 c19 hf
    refine lv_aload_n hx hb dX10_at_8 rfl (lv_at hl 0 rfl) ?_
    refine lv_aload_n hx hb dX10_at_9 rfl (lv_at hl 0 rfl) ?_
    refine gf_X10_0 C hK hP mw_5_162 dX10_at_10 ?_
    refine lv_iload_n hx hb dX10_at_13 rfl (lv_at hl 1 rfl) ?_
    obtain ⟨c20, hf⟩ := spn hf
    refine al_M1 C hK hP c20 dX10_at_14 ?_
    refine lv_if_lt (tgt := 34) hx hb dX10_at_15 (by decide) (fun c21 => ?_) (fun c21 => ?_)
    · have hf := sp1 c21 hf
      refine lv_iconst (v := 0) hx hb dX10_at_34 (by decide) ?_
      exact w_35 p0 0 S18 _ _ _ (lv_sub hl [0, 1] rfl) hP hS hf
    · have hf := sp0 c21 hf
      refine lv_aload_n hx hb dX10_at_18 rfl (lv_at hl 0 rfl) ?_
      refine lv_iload_n hx hb dX10_at_19 rfl (lv_at hl 1 rfl) ?_
      refine lv_aload_n hx hb dX10_at_20 rfl (lv_at hl 0 rfl) ?_
      refine gf_X10_21 C hK hP mw_5_183 dX10_at_21 ?_
      obtain ⟨v23, h22, hf⟩ := b1_some hf
      refine hc_V (As := [.int p0, .int (S18.1 0 21)]) (rest := [.ref (ad 0)]) C hK (c_X10_known l D ct ad F hG p0 (S18.1 0 21) S18  v23 h22) hl.1 cp_X10_known mw_6_121 (rc_X10 hK hP) hP hS ⟨rfl, rfl⟩ ⟨Nat.le_of_ble_eq_true rfl, Nat.le_of_ble_eq_true rfl⟩ rfl rfl (Nat.le_of_ble_eq_true rfl) dX10_at_24 ⟨Nat.le_of_ble_eq_true rfl, Nat.le_of_ble_eq_true rfl⟩ (fun H locs hP hS => ?_)
      refine lv_if_le (tgt := 34) hx hb dX10_at_27 (by decide) (fun c24 => ?_) (fun c24 => ?_)
      · have hf := sp1 c24 hf
        refine lv_iconst (v := 0) hx hb dX10_at_34 (by decide) ?_
        exact w_35 p0 0 S18 _ _ _ (lv_sub hl [0, 1] rfl) hP hS hf
      · have hf := sp0 c24 hf
        refine lv_iconst (v := 1) hx hb dX10_at_30 (by decide) ?_
        refine lv_goto (tgt := 35) hx hb dX10_at_31 (by decide) ?_
        exact w_35 p0 1 S18 _ _ _ (lv_sub hl [0, 1] rfl) hP hS hf
theorem cp_X10_at : CPv yX10_at cX10_at 3 (some .int) 1 := ⟨mw_7_116, mw_1_9, mw_7_114, mw_7_115, by decide +kernel⟩
def rm_X10_isSound : Room := { frames := 0, cells := 0, slots := 0, locals := 0 }
set_option maxHeartbeats 4000000 in
set_option maxRecDepth 100000 in
theorem c_X10_isSound (l : Launch) (D : va_G) (ct : Nat → ClassId) (ad : Nat → Nat) (F : Nat → Prop) (hG : Gd ad 18 F)  (S0 : St)  (r : Int32) (hf : f_X10_isSound  S0 = some r) : MetH l yX10_isSound cX10_isSound 1 (some .boolean) rm_X10_isSound D (tysW ct) F [.ref (ad 0)] (some (.int r)) (cellsM ct ad S0) (cellsM ct ad S0) := by
  refine MetH.of RX10 (by decide) rfl (Nat.le_of_ble_eq_true rfl) ?_
  intro p e s m args below meth c C hK hP ls hl
  have hl : lv_has ls 1 [(0, .ref (ad 0))] := hl
  obtain ⟨hx, hb, hr, hml, hown, htL, hlocks⟩ := id C
  have hS : va_S F s.heap s.heap [] := va_S.rf
  generalize hQ : MQ below (Hq D (cellsM ct ad S0) F (some (.int r))) args s 0 0 F = Q
  refine lv_iconst (v := 1) hx hb dX10_isSound_0 (by decide) ?_
  cases hf
  subst hQ
  exact he_z C (by decide) hP hS dX10_isSound_1
theorem cp_X10_isSound : CPv yX10_isSound cX10_isSound 1 (some .boolean) 0 := ⟨mw_7_128, mw_1_9, mw_7_126, mw_7_127, by decide +kernel⟩
