def rm_J6_bitCount_0f7a4 : Room := { frames := 0, cells := 0, slots := 0, locals := 0 }
set_option maxHeartbeats 4000000 in
set_option maxRecDepth 100000 in
theorem c_J6_bitCount_0f7a4 (l : Launch) (p0 : Int32) (r : Int32) (hf : f_J6_bitCount_0f7a4 p0 = some r) : MetP l yJ6_bitCount_0f7a4 cJ6_bitCount_0f7a4 1 (some .int) rm_J6_bitCount_0f7a4 [.int p0] (some (.int r)) := by
  refine MetP.of RJ6 (by decide) rfl (Nat.le_of_ble_eq_true rfl) ?_
  intro p e s m args below meth c C ls hl
  have hl : lv_has ls 1 [(0, .int p0)] := hl
  obtain ⟨hx, hb, hr, hml, hown, htL, hlocks⟩ := id C
  generalize hQ : MQ below (Pq (some (.int r))) args s 0 0 (fun _ => False) = Q
  refine lv_iload_n hx hb dJ6_bitCount_0f7a4_0 rfl (lv_at hl 0 rfl) ?_
  refine lv_iload_n hx hb dJ6_bitCount_0f7a4_1 rfl (lv_at hl 0 rfl) ?_
  refine lv_iconst (v := 1) hx hb dJ6_bitCount_0f7a4_2 (by decide) ?_
  refine lv_iushr hx hb dJ6_bitCount_0f7a4_3 rfl ?_
  refine lv_ldcw (v := 1431655765) hx hb hown (htL _ mw_2_2) dJ6_bitCount_0f7a4_4 ?_
  refine lv_iand hx hb dJ6_bitCount_0f7a4_7 ?_
  refine lv_isub hx hb dJ6_bitCount_0f7a4_8 ?_
  refine lv_istore_n (lv' := [(0, .int (p0 - ((uS p0 1) &&& (1431655765))))]) hx hb dJ6_bitCount_0f7a4_9 rfl hl (by decide) rfl (fun ls hl => ?_)
  refine lv_iload_n hx hb dJ6_bitCount_0f7a4_10 rfl (lv_at hl 0 rfl) ?_
  refine lv_ldcw (v := 858993459) hx hb hown (htL _ mw_2_3) dJ6_bitCount_0f7a4_11 ?_
  refine lv_iand hx hb dJ6_bitCount_0f7a4_14 ?_
  refine lv_iload_n hx hb dJ6_bitCount_0f7a4_15 rfl (lv_at hl 0 rfl) ?_
  refine lv_iconst (v := 2) hx hb dJ6_bitCount_0f7a4_16 (by decide) ?_
  refine lv_iushr hx hb dJ6_bitCount_0f7a4_17 rfl ?_
  refine lv_ldcw (v := 858993459) hx hb hown (htL _ mw_2_3) dJ6_bitCount_0f7a4_18 ?_
  refine lv_iand hx hb dJ6_bitCount_0f7a4_21 ?_
  refine lv_iadd hx hb dJ6_bitCount_0f7a4_22 ?_
  refine lv_istore_n (lv' := [(0, .int (((p0 - ((uS p0 1) &&& (1431655765))) &&& (858993459)) + ((uS (p0 - ((uS p0 1) &&& (1431655765))) 2) &&& (858993459))))]) hx hb dJ6_bitCount_0f7a4_23 rfl hl (by decide) rfl (fun ls hl => ?_)
  refine lv_iload_n hx hb dJ6_bitCount_0f7a4_24 rfl (lv_at hl 0 rfl) ?_
  refine lv_iload_n hx hb dJ6_bitCount_0f7a4_25 rfl (lv_at hl 0 rfl) ?_
  refine lv_iconst (v := 4) hx hb dJ6_bitCount_0f7a4_26 (by decide) ?_
  refine lv_iushr hx hb dJ6_bitCount_0f7a4_27 rfl ?_
  refine lv_iadd hx hb dJ6_bitCount_0f7a4_28 ?_
  refine lv_ldcw (v := 252645135) hx hb hown (htL _ mw_2_4) dJ6_bitCount_0f7a4_29 ?_
  refine lv_iand hx hb dJ6_bitCount_0f7a4_32 ?_
  refine lv_istore_n (lv' := [(0, .int (((((p0 - ((uS p0 1) &&& (1431655765))) &&& (858993459)) + ((uS (p0 - ((uS p0 1) &&& (1431655765))) 2) &&& (858993459))) + (uS (((p0 - ((uS p0 1) &&& (1431655765))) &&& (858993459)) + ((uS (p0 - ((uS p0 1) &&& (1431655765))) 2) &&& (858993459))) 4)) &&& (252645135)))]) hx hb dJ6_bitCount_0f7a4_33 rfl hl (by decide) rfl (fun ls hl => ?_)
  refine lv_iload_n hx hb dJ6_bitCount_0f7a4_34 rfl (lv_at hl 0 rfl) ?_
  refine lv_iload_n hx hb dJ6_bitCount_0f7a4_35 rfl (lv_at hl 0 rfl) ?_
  refine lv_bipush (v := 8) hx hb dJ6_bitCount_0f7a4_36 (by decide) ?_
  refine lv_iushr hx hb dJ6_bitCount_0f7a4_38 rfl ?_
  refine lv_iadd hx hb dJ6_bitCount_0f7a4_39 ?_
  refine lv_istore_n (lv' := [(0, .int ((((((p0 - ((uS p0 1) &&& (1431655765))) &&& (858993459)) + ((uS (p0 - ((uS p0 1) &&& (1431655765))) 2) &&& (858993459))) + (uS (((p0 - ((uS p0 1) &&& (1431655765))) &&& (858993459)) + ((uS (p0 - ((uS p0 1) &&& (1431655765))) 2) &&& (858993459))) 4)) &&& (252645135)) + (uS (((((p0 - ((uS p0 1) &&& (1431655765))) &&& (858993459)) + ((uS (p0 - ((uS p0 1) &&& (1431655765))) 2) &&& (858993459))) + (uS (((p0 - ((uS p0 1) &&& (1431655765))) &&& (858993459)) + ((uS (p0 - ((uS p0 1) &&& (1431655765))) 2) &&& (858993459))) 4)) &&& (252645135)) 8)))]) hx hb dJ6_bitCount_0f7a4_40 rfl hl (by decide) rfl (fun ls hl => ?_)
  refine lv_iload_n hx hb dJ6_bitCount_0f7a4_41 rfl (lv_at hl 0 rfl) ?_
  refine lv_iload_n hx hb dJ6_bitCount_0f7a4_42 rfl (lv_at hl 0 rfl) ?_
  refine lv_bipush (v := 16) hx hb dJ6_bitCount_0f7a4_43 (by decide) ?_
  refine lv_iushr hx hb dJ6_bitCount_0f7a4_45 rfl ?_
  refine lv_iadd hx hb dJ6_bitCount_0f7a4_46 ?_
  refine lv_istore_n (lv' := [(0, .int (((((((p0 - ((uS p0 1) &&& (1431655765))) &&& (858993459)) + ((uS (p0 - ((uS p0 1) &&& (1431655765))) 2) &&& (858993459))) + (uS (((p0 - ((uS p0 1) &&& (1431655765))) &&& (858993459)) + ((uS (p0 - ((uS p0 1) &&& (1431655765))) 2) &&& (858993459))) 4)) &&& (252645135)) + (uS (((((p0 - ((uS p0 1) &&& (1431655765))) &&& (858993459)) + ((uS (p0 - ((uS p0 1) &&& (1431655765))) 2) &&& (858993459))) + (uS (((p0 - ((uS p0 1) &&& (1431655765))) &&& (858993459)) + ((uS (p0 - ((uS p0 1) &&& (1431655765))) 2) &&& (858993459))) 4)) &&& (252645135)) 8)) + (uS ((((((p0 - ((uS p0 1) &&& (1431655765))) &&& (858993459)) + ((uS (p0 - ((uS p0 1) &&& (1431655765))) 2) &&& (858993459))) + (uS (((p0 - ((uS p0 1) &&& (1431655765))) &&& (858993459)) + ((uS (p0 - ((uS p0 1) &&& (1431655765))) 2) &&& (858993459))) 4)) &&& (252645135)) + (uS (((((p0 - ((uS p0 1) &&& (1431655765))) &&& (858993459)) + ((uS (p0 - ((uS p0 1) &&& (1431655765))) 2) &&& (858993459))) + (uS (((p0 - ((uS p0 1) &&& (1431655765))) &&& (858993459)) + ((uS (p0 - ((uS p0 1) &&& (1431655765))) 2) &&& (858993459))) 4)) &&& (252645135)) 8)) 16)))]) hx hb dJ6_bitCount_0f7a4_47 rfl hl (by decide) rfl (fun ls hl => ?_)
  refine lv_iload_n hx hb dJ6_bitCount_0f7a4_48 rfl (lv_at hl 0 rfl) ?_
  refine lv_bipush (v := 63) hx hb dJ6_bitCount_0f7a4_49 (by decide) ?_
  refine lv_iand hx hb dJ6_bitCount_0f7a4_51 ?_
  subst hQ
  exact pe_i C hf dJ6_bitCount_0f7a4_52
theorem cp_J6_bitCount_0f7a4 : CPs yJ6_bitCount_0f7a4 cJ6_bitCount_0f7a4 1 (some .int) 1 := ⟨mw_2_1, mw_1_24, mw_2_0, by decide +kernel⟩
def rm_X1_lastOf : Room := { frames := 0, cells := 0, slots := 0, locals := 0 }
set_option maxHeartbeats 4000000 in
set_option maxRecDepth 100000 in
theorem c_X1_lastOf (l : Launch) (p0 : Int32) (r : Int32) (hf : f_X1_lastOf p0 = some r) : MetP l yX1_lastOf cX1_lastOf 3 (some .int) rm_X1_lastOf [.int p0] (some (.int r)) := by
  refine MetP.of RX1 (by decide) rfl (Nat.le_of_ble_eq_true rfl) ?_
  intro p e s m args below meth c C ls hl
  have hl : lv_has ls 3 [(0, .int p0)] := hl
  obtain ⟨hx, hb, hr, hml, hown, htL, hlocks⟩ := id C
  generalize hQ : MQ below (Pq (some (.int r))) args s 0 0 (fun _ => False) = Q
  have w_4 : ∀ (x0 : Int32) (x1 : Int32) (x2 : Int32) (ls : Array Slot), lv_has ls 3 [(0, .int x0), (1, .int x1), (2, .int x2)] → n_X1_lastOf_4 x0 x1 x2 = some r → W p l e rm_X1_lastOf s m args below meth c s.heap [] 0 0 Q (F0 m 4 ls []) := by
    skip
    have aux : ∀ (n : Nat) (x0 : Int32) (x1 : Int32) (x2 : Int32) (ls : Array Slot), lv_has ls 3 [(0, .int x0), (1, .int x1), (2, .int x2)] → itr (fun (q : Int32 × Int32 × Int32) k => s_X1_lastOf_4  (fun (x0 : Int32) (x1 : Int32) (x2 : Int32) => k (x0, x1, x2)) q.1 q.2.1 q.2.2) n (x0, x1, x2) = some r → W p l e rm_X1_lastOf s m args below meth c s.heap [] 0 0 Q (F0 m 4 ls []) := by
      intro n
      induction n with
      | zero => intro x0 x1 x2 ls hl hf; exact (itr_z hf).elim
      | succ n ih =>
      intro x0 x1 x2 ls hl hf
      have hk_4 := ih
      have hf : s_X1_lastOf_4  (fun (x0 : Int32) (x1 : Int32) (x2 : Int32) => itr (fun (q : Int32 × Int32 × Int32) k => s_X1_lastOf_4  (fun (x0 : Int32) (x1 : Int32) (x2 : Int32) => k (x0, x1, x2)) q.1 q.2.1 q.2.2) n (x0, x1, x2)) x0 x1 x2 = some r := hf
      refine lv_iload_n hx hb dX1_lastOf_4 rfl (lv_at hl 2 rfl) ?_
      refine lv_iconst (v := 4) hx hb dX1_lastOf_5 (by decide) ?_
      refine lv_icmp_ge (tgt := 30) hx hb dX1_lastOf_6 (by decide) (fun c1 => ?_) (fun c1 => ?_)
      · have hf := sp1 c1 hf
        refine lv_iload_n hx hb dX1_lastOf_30 rfl (lv_at hl 1 rfl) ?_
        subst hQ
        exact pe_i C hf dX1_lastOf_31
      · have hf := sp0 c1 hf
        refine lv_iload_n hx hb dX1_lastOf_9 rfl (lv_at hl 0 rfl) ?_
        refine lv_iload_n hx hb dX1_lastOf_10 rfl (lv_at hl 2 rfl) ?_
        refine lv_ishr hx hb dX1_lastOf_11 ?_
        refine lv_iconst (v := 1) hx hb dX1_lastOf_12 (by decide) ?_
        refine lv_iand hx hb dX1_lastOf_13 ?_
        refine lv_iconst (v := 1) hx hb dX1_lastOf_14 (by decide) ?_
        refine lv_icmp_ne (tgt := 22) hx hb dX1_lastOf_15 (by decide) (fun c2 => ?_) (fun c2 => ?_)
        · have hf := sp0 c2 hf
          refine lv_iload_n hx hb dX1_lastOf_22 rfl (lv_at hl 1 rfl) ?_
          refine lv_istore_n (lv' := [(1, .int x1), (0, .int x0), (2, .int x2)]) hx hb dX1_lastOf_23 rfl hl (by decide) rfl (fun ls hl => ?_)
          refine lv_iinc (v := (x2 + 1)) (lv' := [(2, .int (x2 + 1)), (1, .int x1), (0, .int x0)]) hx hb dX1_lastOf_24 hl (k := 2) rfl rfl (by decide) rfl (fun ls hl => ?_)
          refine lv_goto (tgt := 4) hx hb dX1_lastOf_27 (by decide) ?_
          exact hk_4 x0 x1 (x2 + 1) _ (lv_sub hl [2, 1, 0] rfl) hf
        · have hf := sp1 c2 hf
          refine lv_iload_n hx hb dX1_lastOf_18 rfl (lv_at hl 2 rfl) ?_
          refine lv_goto (tgt := 23) hx hb dX1_lastOf_19 (by decide) ?_
          refine lv_istore_n (lv' := [(1, .int x2), (0, .int x0), (2, .int x2)]) hx hb dX1_lastOf_23 rfl hl (by decide) rfl (fun ls hl => ?_)
          refine lv_iinc (v := (x2 + 1)) (lv' := [(2, .int (x2 + 1)), (1, .int x2), (0, .int x0)]) hx hb dX1_lastOf_24 hl (k := 2) rfl rfl (by decide) rfl (fun ls hl => ?_)
          refine lv_goto (tgt := 4) hx hb dX1_lastOf_27 (by decide) ?_
          exact hk_4 x0 x2 (x2 + 1) _ (lv_sub hl [2, 1, 0] rfl) hf
    exact aux FU
  refine lv_iconst (v := 0) hx hb dX1_lastOf_0 (by decide) ?_
  refine lv_istore_n (lv' := [(1, .int 0), (0, .int p0)]) hx hb dX1_lastOf_1 rfl hl (by decide) rfl (fun ls hl => ?_)
  refine lv_iconst (v := 0) hx hb dX1_lastOf_2 (by decide) ?_
  refine lv_istore_n (lv' := [(2, .int 0), (1, .int 0), (0, .int p0)]) hx hb dX1_lastOf_3 rfl hl (by decide) rfl (fun ls hl => ?_)
  exact w_4 p0 0 0 _ (lv_sub hl [2, 1, 0] rfl) hf
theorem cp_X1_lastOf : CPs yX1_lastOf cX1_lastOf 3 (some .int) 1 := ⟨mw_2_7, mw_1_8, mw_2_6, by decide +kernel⟩
def rm_X8_rest : Room := { frames := 0, cells := 0, slots := 0, locals := 0 }
set_option maxHeartbeats 4000000 in
set_option maxRecDepth 100000 in
theorem c_X8_rest (l : Launch) (p0 : Int64) (p1 : Int64) (r : Int64) (hf : f_X8_rest p0 p1 = some r) : MetP l yX8_rest cX8_rest 6 (some .long) rm_X8_rest [.long p0, .long p1] (some (.long r)) := by
  refine MetP.of RX8 (by decide) rfl (Nat.le_of_ble_eq_true rfl) ?_
  intro p e s m args below meth c C ls hl
  have hl : lv_has ls 6 [(0, .long p0), (2, .long p1)] := hl
  obtain ⟨hx, hb, hr, hml, hown, htL, hlocks⟩ := id C
  generalize hQ : MQ below (Pq (some (.long r))) args s 0 0 (fun _ => False) = Q
  refine lv_lload_n hx hb dX8_rest_0 rfl (lv_at hl 1 rfl) ?_
  refine lv_lconst (v := 0) hx hb dX8_rest_1 (by decide) ?_
  refine W.lcmp hx hb dX8_rest_2 ?_
  refine lv_if_gt (tgt := 8) hx hb dX8_rest_3 (by decide) (fun c1 => ?_) (fun c1 => ?_)
  · have hf := sp1 c1 hf
    refine lv_lload_n hx hb dX8_rest_8 rfl (lv_at hl 0 rfl) ?_
    refine lv_lload_n hx hb dX8_rest_9 rfl (lv_at hl 1 rfl) ?_
    obtain ⟨c2, hf⟩ := spn hf
    refine lv_lrem hx hb dX8_rest_10 c2 ?_
    refine lv_lstore (lv' := [(4, .long (rL p0 p1)), (0, .long p0), (2, .long p1)]) hx hb dX8_rest_11 hl (by decide) rfl (fun ls hl => ?_)
    refine lv_lload hx hb dX8_rest_13 (lv_at hl 0 rfl) ?_
    refine lv_lconst (v := 0) hx hb dX8_rest_15 (by decide) ?_
    refine W.lcmp hx hb dX8_rest_16 ?_
    refine lv_if_ge (tgt := 27) hx hb dX8_rest_17 (by decide) (fun c3 => ?_) (fun c3 => ?_)
    · have hf := sp1 c3 hf
      refine lv_lload hx hb dX8_rest_27 (lv_at hl 0 rfl) ?_
      subst hQ
      exact pe_l C hf dX8_rest_29
    · have hf := sp0 c3 hf
      refine lv_lload hx hb dX8_rest_20 (lv_at hl 0 rfl) ?_
      refine lv_lload_n hx hb dX8_rest_22 rfl (lv_at hl 2 rfl) ?_
      refine lv_ladd hx hb dX8_rest_23 ?_
      refine lv_goto (tgt := 29) hx hb dX8_rest_24 (by decide) ?_
      subst hQ
      exact pe_l C hf dX8_rest_29
  · have hf := sp0 c1 hf
    refine lv_lconst (v := 0) hx hb dX8_rest_6 (by decide) ?_
    subst hQ
    exact pe_l C hf dX8_rest_7
theorem cp_X8_rest : CPs yX8_rest cX8_rest 6 (some .long) 2 := ⟨mw_2_77, mw_1_10, mw_2_76, by decide +kernel⟩
def rm_X8_part : Room := { frames := 0, cells := 0, slots := 0, locals := 0 }
set_option maxHeartbeats 4000000 in
set_option maxRecDepth 100000 in
theorem c_X8_part (l : Launch) (p0 : Int64) (p1 : Int64) (r : Int64) (hf : f_X8_part p0 p1 = some r) : MetP l yX8_part cX8_part 4 (some .long) rm_X8_part [.long p0, .long p1] (some (.long r)) := by
  refine MetP.of RX8 (by decide) rfl (Nat.le_of_ble_eq_true rfl) ?_
  intro p e s m args below meth c C ls hl
  have hl : lv_has ls 4 [(0, .long p0), (2, .long p1)] := hl
  obtain ⟨hx, hb, hr, hml, hown, htL, hlocks⟩ := id C
  generalize hQ : MQ below (Pq (some (.long r))) args s 0 0 (fun _ => False) = Q
  refine lv_lload_n hx hb dX8_part_0 rfl (lv_at hl 1 rfl) ?_
  refine lv_lconst (v := 0) hx hb dX8_part_1 (by decide) ?_
  refine W.lcmp hx hb dX8_part_2 ?_
  refine lv_if_eq (tgt := 12) hx hb dX8_part_3 (by decide) (fun c1 => ?_) (fun c1 => ?_)
  · have hf := sp1 c1 hf
    refine lv_lconst (v := 0) hx hb dX8_part_12 (by decide) ?_
    subst hQ
    exact pe_l C hf dX8_part_13
  · have hf := sp0 c1 hf
    refine lv_lload_n hx hb dX8_part_6 rfl (lv_at hl 0 rfl) ?_
    refine lv_lload_n hx hb dX8_part_7 rfl (lv_at hl 1 rfl) ?_
    obtain ⟨c2, hf⟩ := spn hf
    refine lv_ldiv hx hb dX8_part_8 c2 ?_
    refine lv_goto (tgt := 13) hx hb dX8_part_9 (by decide) ?_
    subst hQ
    exact pe_l C hf dX8_part_13
theorem cp_X8_part : CPs yX8_part cX8_part 4 (some .long) 2 := ⟨mw_2_92, mw_1_10, mw_2_91, by decide +kernel⟩
def rm_X8_factorCount : Room := { frames := 1, cells := 0, slots := 0, locals := 29 }
set_option maxHeartbeats 4000000 in
set_option maxRecDepth 100000 in
theorem c_X8_factorCount (l : Launch) (p0 : Int64) (p1 : Int32) (r : Int32) (hf : f_X8_factorCount p0 p1 = some r) : MetP l yX8_factorCount cX8_factorCount 6 (some .int) rm_X8_factorCount [.long p0, .int p1] (some (.int r)) := by
  refine MetP.of RX8 (by decide) rfl (Nat.le_of_ble_eq_true rfl) ?_
  intro p e s m args below meth c C ls hl
  have hl : lv_has ls 6 [(0, .long p0), (2, .int p1)] := hl
  obtain ⟨hx, hb, hr, hml, hown, htL, hlocks⟩ := id C
  generalize hQ : MQ below (Pq (some (.int r))) args s 0 0 (fun _ => False) = Q
  have w_5 : ∀ (x2 : Int32) (x3 : Int64) (x5 : Int32) (ls : Array Slot), lv_has ls 6 [(2, .int x2), (3, .long x3), (5, .int x5)] → n_X8_factorCount_5 x2 x3 x5 = some r → W p l e rm_X8_factorCount s m args below meth c s.heap [] 0 0 Q (F0 m 5 ls []) := by
    skip
    have aux : ∀ (n : Nat) (x2 : Int32) (x3 : Int64) (x5 : Int32) (ls : Array Slot), lv_has ls 6 [(2, .int x2), (3, .long x3), (5, .int x5)] → itr (fun (q : Int32 × Int64 × Int32) k => s_X8_factorCount_5  (fun (x2 : Int32) (x3 : Int64) (x5 : Int32) => k (x2, x3, x5)) q.1 q.2.1 q.2.2) n (x2, x3, x5) = some r → W p l e rm_X8_factorCount s m args below meth c s.heap [] 0 0 Q (F0 m 5 ls []) := by
      intro n
      induction n with
      | zero => intro x2 x3 x5 ls hl hf; exact (itr_z hf).elim
      | succ n ih =>
      intro x2 x3 x5 ls hl hf
      have hk_5 := ih
      have hf : s_X8_factorCount_5  (fun (x2 : Int32) (x3 : Int64) (x5 : Int32) => itr (fun (q : Int32 × Int64 × Int32) k => s_X8_factorCount_5  (fun (x2 : Int32) (x3 : Int64) (x5 : Int32) => k (x2, x3, x5)) q.1 q.2.1 q.2.2) n (x2, x3, x5)) x2 x3 x5 = some r := hf
      refine lv_iload hx hb dX8_factorCount_5 (lv_at hl 2 rfl) ?_
      refine lv_bipush (v := 64) hx hb dX8_factorCount_7 (by decide) ?_
      refine lv_icmp_ge (tgt := 42) hx hb dX8_factorCount_9 (by decide) (fun c1 => ?_) (fun c1 => ?_)
      · have hf := sp1 c1 hf
        refine lv_iload hx hb dX8_factorCount_42 (lv_at hl 2 rfl) ?_
        subst hQ
        exact pe_i C hf dX8_factorCount_44
      · have hf := sp0 c1 hf
        refine lv_lload_n hx hb dX8_factorCount_12 rfl (lv_at hl 1 rfl) ?_
        refine lv_lconst (v := 0) hx hb dX8_factorCount_13 (by decide) ?_
        refine W.lcmp hx hb dX8_factorCount_14 ?_
        refine lv_if_eq (tgt := 42) hx hb dX8_factorCount_15 (by decide) (fun c2 => ?_) (fun c2 => ?_)
        · have hf := sp1 c2 hf
          refine lv_iload hx hb dX8_factorCount_42 (lv_at hl 2 rfl) ?_
          subst hQ
          exact pe_i C hf dX8_factorCount_44
        · have hf := sp0 c2 hf
          refine lv_lload_n hx hb dX8_factorCount_18 rfl (lv_at hl 1 rfl) ?_
          refine lv_iload_n hx hb dX8_factorCount_19 rfl (lv_at hl 0 rfl) ?_
          refine lv_i2l hx hb dX8_factorCount_20 rfl ?_
          obtain ⟨v3, h4, hf⟩ := b1_some hf
          refine pc_S (As := [.long x3, .long (Int32.toInt64 x2)]) (rest := []) C (c_X8_rest l x3 (Int32.toInt64 x2) v3 h4) hl.1 cp_X8_rest mw_2_75 ⟨rfl, rfl⟩ ⟨Nat.le_of_ble_eq_true rfl, Nat.le_of_ble_eq_true rfl⟩ rfl rfl (Nat.le_of_ble_eq_true rfl) dX8_factorCount_21 ⟨Nat.le_of_ble_eq_true rfl, Nat.le_of_ble_eq_true rfl⟩ ?_
          refine lv_lconst (v := 0) hx hb dX8_factorCount_24 (by decide) ?_
          refine W.lcmp hx hb dX8_factorCount_25 ?_
          refine lv_if_ne (tgt := 42) hx hb dX8_factorCount_26 (by decide) (fun c5 => ?_) (fun c5 => ?_)
          · have hf := sp0 c5 hf
            refine lv_iload hx hb dX8_factorCount_42 (lv_at hl 2 rfl) ?_
            subst hQ
            exact pe_i C hf dX8_factorCount_44
          · have hf := sp1 c5 hf
            refine lv_lload_n hx hb dX8_factorCount_29 rfl (lv_at hl 1 rfl) ?_
            refine lv_iload_n hx hb dX8_factorCount_30 rfl (lv_at hl 0 rfl) ?_
            refine lv_i2l hx hb dX8_factorCount_31 rfl ?_
            obtain ⟨v6, h7, hf⟩ := b1_some hf
            refine pc_S (As := [.long x3, .long (Int32.toInt64 x2)]) (rest := []) C (c_X8_part l x3 (Int32.toInt64 x2) v6 h7) hl.1 cp_X8_part mw_2_90 ⟨rfl, rfl⟩ ⟨Nat.le_of_ble_eq_true rfl, Nat.le_of_ble_eq_true rfl⟩ rfl rfl (Nat.le_of_ble_eq_true rfl) dX8_factorCount_32 ⟨Nat.le_of_ble_eq_true rfl, Nat.le_of_ble_eq_true rfl⟩ ?_
            refine lv_lstore_n (lv' := [(3, .long v6), (2, .int x2), (5, .int x5)]) hx hb dX8_factorCount_35 rfl hl (by decide) rfl (fun ls hl => ?_)
            refine lv_iinc (v := (x5 + 1)) (lv' := [(5, .int (x5 + 1)), (3, .long v6), (2, .int x2)]) hx hb dX8_factorCount_36 hl (k := 2) rfl rfl (by decide) rfl (fun ls hl => ?_)
            refine lv_goto (tgt := 5) hx hb dX8_factorCount_39 (by decide) ?_
            exact hk_5 x2 v6 (x5 + 1) _ (lv_sub hl [2, 1, 0] rfl) hf
    exact aux FU
  refine lv_lload_n hx hb dX8_factorCount_0 rfl (lv_at hl 0 rfl) ?_
  refine lv_lstore_n (lv' := [(3, .long p0), (0, .long p0), (2, .int p1)]) hx hb dX8_factorCount_1 rfl hl (by decide) rfl (fun ls hl => ?_)
  refine lv_iconst (v := 0) hx hb dX8_factorCount_2 (by decide) ?_
  refine lv_istore (lv' := [(5, .int 0), (3, .long p0), (0, .long p0), (2, .int p1)]) hx hb dX8_factorCount_3 hl (by decide) rfl (fun ls hl => ?_)
  exact w_5 p1 p0 0 _ (lv_sub hl [3, 1, 0] rfl) hf
theorem cp_X8_factorCount : CPs yX8_factorCount cX8_factorCount 6 (some .int) 2 := ⟨mw_2_89, mw_1_10, mw_2_88, by decide +kernel⟩
def rm_X8_greatestCommon : Room := { frames := 1, cells := 0, slots := 0, locals := 40 }
set_option maxHeartbeats 4000000 in
set_option maxRecDepth 100000 in
theorem c_X8_greatestCommon (l : Launch) (p0 : Int64) (p1 : Int64) (r : Int64) (hf : f_X8_greatestCommon p0 p1 = some r) : MetP l yX8_greatestCommon cX8_greatestCommon 11 (some .long) rm_X8_greatestCommon [.long p0, .long p1] (some (.long r)) := by
  refine MetP.of RX8 (by decide) rfl (Nat.le_of_ble_eq_true rfl) ?_
  intro p e s m args below meth c C ls hl
  have hl : lv_has ls 11 [(0, .long p0), (2, .long p1)] := hl
  obtain ⟨hx, hb, hr, hml, hown, htL, hlocks⟩ := id C
  generalize hQ : MQ below (Pq (some (.long r))) args s 0 0 (fun _ => False) = Q
  have w_15 : ∀ (x4 : Int64) (x6 : Int64) (x8 : Int32) (ls : Array Slot), lv_has ls 11 [(4, .long x4), (6, .long x6), (8, .int x8)] → n_X8_greatestCommon_15 x4 x6 x8 = some r → W p l e rm_X8_greatestCommon s m args below meth c s.heap [] 0 0 Q (F0 m 15 ls []) := by
    skip
    have aux : ∀ (n : Nat) (x4 : Int64) (x6 : Int64) (x8 : Int32) (ls : Array Slot), lv_has ls 11 [(4, .long x4), (6, .long x6), (8, .int x8)] → itr (fun (q : Int64 × Int64 × Int32) k => s_X8_greatestCommon_15  (fun (x4 : Int64) (x6 : Int64) (x8 : Int32) => k (x4, x6, x8)) q.1 q.2.1 q.2.2) n (x4, x6, x8) = some r → W p l e rm_X8_greatestCommon s m args below meth c s.heap [] 0 0 Q (F0 m 15 ls []) := by
      intro n
      induction n with
      | zero => intro x4 x6 x8 ls hl hf; exact (itr_z hf).elim
      | succ n ih =>
      intro x4 x6 x8 ls hl hf
      have hk_15 := ih
      have hf : s_X8_greatestCommon_15  (fun (x4 : Int64) (x6 : Int64) (x8 : Int32) => itr (fun (q : Int64 × Int64 × Int32) k => s_X8_greatestCommon_15  (fun (x4 : Int64) (x6 : Int64) (x8 : Int32) => k (x4, x6, x8)) q.1 q.2.1 q.2.2) n (x4, x6, x8)) x4 x6 x8 = some r := hf
      refine lv_iload hx hb dX8_greatestCommon_15 (lv_at hl 2 rfl) ?_
      refine lv_bipush (v := 100) hx hb dX8_greatestCommon_17 (by decide) ?_
      refine lv_icmp_ge (tgt := 52) hx hb dX8_greatestCommon_19 (by decide) (fun c1 => ?_) (fun c1 => ?_)
      · have hf := sp1 c1 hf
        refine lv_lload hx hb dX8_greatestCommon_52 (lv_at hl 0 rfl) ?_
        subst hQ
        exact pe_l C hf dX8_greatestCommon_54
      · have hf := sp0 c1 hf
        refine lv_lload hx hb dX8_greatestCommon_22 (lv_at hl 1 rfl) ?_
        refine lv_lconst (v := 0) hx hb dX8_greatestCommon_24 (by decide) ?_
        refine W.lcmp hx hb dX8_greatestCommon_25 ?_
        refine lv_if_eq (tgt := 52) hx hb dX8_greatestCommon_26 (by decide) (fun c2 => ?_) (fun c2 => ?_)
        · have hf := sp1 c2 hf
          refine lv_lload hx hb dX8_greatestCommon_52 (lv_at hl 0 rfl) ?_
          subst hQ
          exact pe_l C hf dX8_greatestCommon_54
        · have hf := sp0 c2 hf
          refine lv_lload hx hb dX8_greatestCommon_29 (lv_at hl 0 rfl) ?_
          refine lv_lload hx hb dX8_greatestCommon_31 (lv_at hl 1 rfl) ?_
          obtain ⟨v3, h4, hf⟩ := b1_some hf
          refine pc_S (As := [.long x4, .long x6]) (rest := []) C (c_X8_rest l x4 x6 v3 h4) hl.1 cp_X8_rest mw_2_75 ⟨rfl, rfl⟩ ⟨Nat.le_of_ble_eq_true rfl, Nat.le_of_ble_eq_true rfl⟩ rfl rfl (Nat.le_of_ble_eq_true rfl) dX8_greatestCommon_33 ⟨Nat.le_of_ble_eq_true rfl, Nat.le_of_ble_eq_true rfl⟩ ?_
          refine lv_lstore (lv' := [(9, .long v3), (4, .long x4), (6, .long x6), (8, .int x8)]) hx hb dX8_greatestCommon_36 hl (by decide) rfl (fun ls hl => ?_)
          refine lv_lload hx hb dX8_greatestCommon_38 (lv_at hl 2 rfl) ?_
          refine lv_lstore (lv' := [(4, .long x6), (9, .long v3), (6, .long x6), (8, .int x8)]) hx hb dX8_greatestCommon_40 hl (by decide) rfl (fun ls hl => ?_)
          refine lv_lload hx hb dX8_greatestCommon_42 (lv_at hl 1 rfl) ?_
          refine lv_lstore (lv' := [(6, .long v3), (4, .long x6), (9, .long v3), (8, .int x8)]) hx hb dX8_greatestCommon_44 hl (by decide) rfl (fun ls hl => ?_)
          refine lv_iinc (v := (x8 + 1)) (lv' := [(8, .int (x8 + 1)), (6, .long v3), (4, .long x6), (9, .long v3)]) hx hb dX8_greatestCommon_46 hl (k := 3) rfl rfl (by decide) rfl (fun ls hl => ?_)
          refine lv_goto (tgt := 15) hx hb dX8_greatestCommon_49 (by decide) ?_
          exact hk_15 x6 v3 (x8 + 1) _ (lv_sub hl [2, 1, 0] rfl) hf
    exact aux FU
  refine lv_lload_n hx hb dX8_greatestCommon_0 rfl (lv_at hl 0 rfl) ?_
  refine va_mabs_long (ls := _) hx hb (hml.trans hl.1.symm) hown (htL _ mw_4_106) (htL _ mw_4_101) (htL _ mw_1_17) (htL _ mw_4_102) (Nat.le_of_ble_eq_true rfl) (Nat.le_of_ble_eq_true rfl) (Nat.le_of_ble_eq_true rfl) (Nat.le_of_ble_eq_true rfl) dX8_greatestCommon_1 ?_
  refine lv_lstore (lv' := [(4, .long (abL p0)), (0, .long p0), (2, .long p1)]) hx hb dX8_greatestCommon_4 hl (by decide) rfl (fun ls hl => ?_)
  refine lv_lload_n hx hb dX8_greatestCommon_6 rfl (lv_at hl 2 rfl) ?_
  refine va_mabs_long (ls := _) hx hb (hml.trans hl.1.symm) hown (htL _ mw_4_106) (htL _ mw_4_101) (htL _ mw_1_17) (htL _ mw_4_102) (Nat.le_of_ble_eq_true rfl) (Nat.le_of_ble_eq_true rfl) (Nat.le_of_ble_eq_true rfl) (Nat.le_of_ble_eq_true rfl) dX8_greatestCommon_7 ?_
  refine lv_lstore (lv' := [(6, .long (abL p1)), (4, .long (abL p0)), (0, .long p0), (2, .long p1)]) hx hb dX8_greatestCommon_10 hl (by decide) rfl (fun ls hl => ?_)
  refine lv_iconst (v := 0) hx hb dX8_greatestCommon_12 (by decide) ?_
  refine lv_istore (lv' := [(8, .int 0), (6, .long (abL p1)), (4, .long (abL p0)), (0, .long p0), (2, .long p1)]) hx hb dX8_greatestCommon_13 hl (by decide) rfl (fun ls hl => ?_)
  exact w_15 (abL p0) (abL p1) 0 _ (lv_sub hl [2, 1, 0] rfl) hf
theorem cp_X8_greatestCommon : CPs yX8_greatestCommon cX8_greatestCommon 11 (some .long) 2 := ⟨mw_4_105, mw_1_10, mw_4_104, by decide +kernel⟩
def rm_X8_withoutFactors : Room := { frames := 1, cells := 0, slots := 0, locals := 29 }
set_option maxHeartbeats 4000000 in
set_option maxRecDepth 100000 in
theorem c_X8_withoutFactors (l : Launch) (p0 : Int64) (p1 : Int32) (r : Int64) (hf : f_X8_withoutFactors p0 p1 = some r) : MetP l yX8_withoutFactors cX8_withoutFactors 6 (some .long) rm_X8_withoutFactors [.long p0, .int p1] (some (.long r)) := by
  refine MetP.of RX8 (by decide) rfl (Nat.le_of_ble_eq_true rfl) ?_
  intro p e s m args below meth c C ls hl
  have hl : lv_has ls 6 [(0, .long p0), (2, .int p1)] := hl
  obtain ⟨hx, hb, hr, hml, hown, htL, hlocks⟩ := id C
  generalize hQ : MQ below (Pq (some (.long r))) args s 0 0 (fun _ => False) = Q
  have w_5 : ∀ (x2 : Int32) (x3 : Int64) (x5 : Int32) (ls : Array Slot), lv_has ls 6 [(2, .int x2), (3, .long x3), (5, .int x5)] → n_X8_withoutFactors_5 x2 x3 x5 = some r → W p l e rm_X8_withoutFactors s m args below meth c s.heap [] 0 0 Q (F0 m 5 ls []) := by
    skip
    have aux : ∀ (n : Nat) (x2 : Int32) (x3 : Int64) (x5 : Int32) (ls : Array Slot), lv_has ls 6 [(2, .int x2), (3, .long x3), (5, .int x5)] → itr (fun (q : Int32 × Int64 × Int32) k => s_X8_withoutFactors_5  (fun (x2 : Int32) (x3 : Int64) (x5 : Int32) => k (x2, x3, x5)) q.1 q.2.1 q.2.2) n (x2, x3, x5) = some r → W p l e rm_X8_withoutFactors s m args below meth c s.heap [] 0 0 Q (F0 m 5 ls []) := by
      intro n
      induction n with
      | zero => intro x2 x3 x5 ls hl hf; exact (itr_z hf).elim
      | succ n ih =>
      intro x2 x3 x5 ls hl hf
      have hk_5 := ih
      have hf : s_X8_withoutFactors_5  (fun (x2 : Int32) (x3 : Int64) (x5 : Int32) => itr (fun (q : Int32 × Int64 × Int32) k => s_X8_withoutFactors_5  (fun (x2 : Int32) (x3 : Int64) (x5 : Int32) => k (x2, x3, x5)) q.1 q.2.1 q.2.2) n (x2, x3, x5)) x2 x3 x5 = some r := hf
      refine lv_iload hx hb dX8_withoutFactors_5 (lv_at hl 2 rfl) ?_
      refine lv_bipush (v := 64) hx hb dX8_withoutFactors_7 (by decide) ?_
      refine lv_icmp_ge (tgt := 42) hx hb dX8_withoutFactors_9 (by decide) (fun c1 => ?_) (fun c1 => ?_)
      · have hf := sp1 c1 hf
        refine lv_lload_n hx hb dX8_withoutFactors_42 rfl (lv_at hl 1 rfl) ?_
        subst hQ
        exact pe_l C hf dX8_withoutFactors_43
      · have hf := sp0 c1 hf
        refine lv_lload_n hx hb dX8_withoutFactors_12 rfl (lv_at hl 1 rfl) ?_
        refine lv_lconst (v := 0) hx hb dX8_withoutFactors_13 (by decide) ?_
        refine W.lcmp hx hb dX8_withoutFactors_14 ?_
        refine lv_if_eq (tgt := 42) hx hb dX8_withoutFactors_15 (by decide) (fun c2 => ?_) (fun c2 => ?_)
        · have hf := sp1 c2 hf
          refine lv_lload_n hx hb dX8_withoutFactors_42 rfl (lv_at hl 1 rfl) ?_
          subst hQ
          exact pe_l C hf dX8_withoutFactors_43
        · have hf := sp0 c2 hf
          refine lv_lload_n hx hb dX8_withoutFactors_18 rfl (lv_at hl 1 rfl) ?_
          refine lv_iload_n hx hb dX8_withoutFactors_19 rfl (lv_at hl 0 rfl) ?_
          refine lv_i2l hx hb dX8_withoutFactors_20 rfl ?_
          obtain ⟨v3, h4, hf⟩ := b1_some hf
          refine pc_S (As := [.long x3, .long (Int32.toInt64 x2)]) (rest := []) C (c_X8_rest l x3 (Int32.toInt64 x2) v3 h4) hl.1 cp_X8_rest mw_2_75 ⟨rfl, rfl⟩ ⟨Nat.le_of_ble_eq_true rfl, Nat.le_of_ble_eq_true rfl⟩ rfl rfl (Nat.le_of_ble_eq_true rfl) dX8_withoutFactors_21 ⟨Nat.le_of_ble_eq_true rfl, Nat.le_of_ble_eq_true rfl⟩ ?_
          refine lv_lconst (v := 0) hx hb dX8_withoutFactors_24 (by decide) ?_
          refine W.lcmp hx hb dX8_withoutFactors_25 ?_
          refine lv_if_ne (tgt := 42) hx hb dX8_withoutFactors_26 (by decide) (fun c5 => ?_) (fun c5 => ?_)
          · have hf := sp0 c5 hf
            refine lv_lload_n hx hb dX8_withoutFactors_42 rfl (lv_at hl 1 rfl) ?_
            subst hQ
            exact pe_l C hf dX8_withoutFactors_43
          · have hf := sp1 c5 hf
            refine lv_lload_n hx hb dX8_withoutFactors_29 rfl (lv_at hl 1 rfl) ?_
            refine lv_iload_n hx hb dX8_withoutFactors_30 rfl (lv_at hl 0 rfl) ?_
            refine lv_i2l hx hb dX8_withoutFactors_31 rfl ?_
            obtain ⟨v6, h7, hf⟩ := b1_some hf
            refine pc_S (As := [.long x3, .long (Int32.toInt64 x2)]) (rest := []) C (c_X8_part l x3 (Int32.toInt64 x2) v6 h7) hl.1 cp_X8_part mw_2_90 ⟨rfl, rfl⟩ ⟨Nat.le_of_ble_eq_true rfl, Nat.le_of_ble_eq_true rfl⟩ rfl rfl (Nat.le_of_ble_eq_true rfl) dX8_withoutFactors_32 ⟨Nat.le_of_ble_eq_true rfl, Nat.le_of_ble_eq_true rfl⟩ ?_
            refine lv_lstore_n (lv' := [(3, .long v6), (2, .int x2), (5, .int x5)]) hx hb dX8_withoutFactors_35 rfl hl (by decide) rfl (fun ls hl => ?_)
            refine lv_iinc (v := (x5 + 1)) (lv' := [(5, .int (x5 + 1)), (3, .long v6), (2, .int x2)]) hx hb dX8_withoutFactors_36 hl (k := 2) rfl rfl (by decide) rfl (fun ls hl => ?_)
            refine lv_goto (tgt := 5) hx hb dX8_withoutFactors_39 (by decide) ?_
            exact hk_5 x2 v6 (x5 + 1) _ (lv_sub hl [2, 1, 0] rfl) hf
    exact aux FU
  refine lv_lload_n hx hb dX8_withoutFactors_0 rfl (lv_at hl 0 rfl) ?_
  refine lv_lstore_n (lv' := [(3, .long p0), (0, .long p0), (2, .int p1)]) hx hb dX8_withoutFactors_1 rfl hl (by decide) rfl (fun ls hl => ?_)
  refine lv_iconst (v := 0) hx hb dX8_withoutFactors_2 (by decide) ?_
  refine lv_istore (lv' := [(5, .int 0), (3, .long p0), (0, .long p0), (2, .int p1)]) hx hb dX8_withoutFactors_3 hl (by decide) rfl (fun ls hl => ?_)
  exact w_5 p1 p0 0 _ (lv_sub hl [3, 1, 0] rfl) hf
theorem cp_X8_withoutFactors : CPs yX8_withoutFactors cX8_withoutFactors 6 (some .long) 2 := ⟨mw_2_95, mw_1_10, mw_2_94, by decide +kernel⟩
def rm_X8_inverseModulo : Room := { frames := 1, cells := 0, slots := 0, locals := 29 }
set_option maxHeartbeats 4000000 in
set_option maxRecDepth 100000 in
theorem c_X8_inverseModulo (l : Launch) (p0 : Int64) (p1 : Int64) (r : Int64) (hf : f_X8_inverseModulo p0 p1 = some r) : MetP l yX8_inverseModulo cX8_inverseModulo 19 (some .long) rm_X8_inverseModulo [.long p0, .long p1] (some (.long r)) := by
  refine MetP.of RX8 (by decide) rfl (Nat.le_of_ble_eq_true rfl) ?_
  intro p e s m args below meth c C ls hl
  have hl : lv_has ls 19 [(0, .long p0), (2, .long p1)] := hl
  obtain ⟨hx, hb, hr, hml, hown, htL, hlocks⟩ := id C
  generalize hQ : MQ below (Pq (some (.long r))) args s 0 0 (fun _ => False) = Q
  have w_84 : ∀ (x2 : Int64) (x8 : Int64) (ls : Array Slot), lv_has ls 19 [(2, .long x2), (8, .long x8)] → n_X8_inverseModulo_84 x2 x8 = some r → W p l e rm_X8_inverseModulo s m args below meth c s.heap [] 0 0 Q (F0 m 84 ls []) := by
    intro x2 x8 ls hl hf
    refine lv_lload hx hb dX8_inverseModulo_84 (lv_at hl 1 rfl) ?_
    refine lv_lload_n hx hb dX8_inverseModulo_86 rfl (lv_at hl 0 rfl) ?_
    obtain ⟨v1, h2, hf⟩ := b1_some hf
    refine pc_S (As := [.long x8, .long x2]) (rest := []) C (c_X8_rest l x8 x2 v1 h2) hl.1 cp_X8_rest mw_2_75 ⟨rfl, rfl⟩ ⟨Nat.le_of_ble_eq_true rfl, Nat.le_of_ble_eq_true rfl⟩ rfl rfl (Nat.le_of_ble_eq_true rfl) dX8_inverseModulo_87 ⟨Nat.le_of_ble_eq_true rfl, Nat.le_of_ble_eq_true rfl⟩ ?_
    subst hQ
    exact pe_l C hf dX8_inverseModulo_90
  have w_19 : ∀ (x2 : Int64) (x4 : Int64) (x6 : Int64) (x8 : Int64) (x10 : Int64) (x12 : Int32) (ls : Array Slot), lv_has ls 19 [(2, .long x2), (4, .long x4), (6, .long x6), (8, .long x8), (10, .long x10), (12, .int x12)] → n_X8_inverseModulo_19 x2 x4 x6 x8 x10 x12 = some r → W p l e rm_X8_inverseModulo s m args below meth c s.heap [] 0 0 Q (F0 m 19 ls []) := by
    skip
    have aux : ∀ (n : Nat) (x2 : Int64) (x4 : Int64) (x6 : Int64) (x8 : Int64) (x10 : Int64) (x12 : Int32) (ls : Array Slot), lv_has ls 19 [(2, .long x2), (4, .long x4), (6, .long x6), (8, .long x8), (10, .long x10), (12, .int x12)] → itr (fun (q : Int64 × Int64 × Int64 × Int64 × Int64 × Int32) k => s_X8_inverseModulo_19  (fun (x2 : Int64) (x4 : Int64) (x6 : Int64) (x8 : Int64) (x10 : Int64) (x12 : Int32) => k (x2, x4, x6, x8, x10, x12)) q.1 q.2.1 q.2.2.1 q.2.2.2.1 q.2.2.2.2.1 q.2.2.2.2.2) n (x2, x4, x6, x8, x10, x12) = some r → W p l e rm_X8_inverseModulo s m args below meth c s.heap [] 0 0 Q (F0 m 19 ls []) := by
      intro n
      induction n with
      | zero => intro x2 x4 x6 x8 x10 x12 ls hl hf; exact (itr_z hf).elim
      | succ n ih =>
      intro x2 x4 x6 x8 x10 x12 ls hl hf
      have hk_19 := ih
      have hf : s_X8_inverseModulo_19  (fun (x2 : Int64) (x4 : Int64) (x6 : Int64) (x8 : Int64) (x10 : Int64) (x12 : Int32) => itr (fun (q : Int64 × Int64 × Int64 × Int64 × Int64 × Int32) k => s_X8_inverseModulo_19  (fun (x2 : Int64) (x4 : Int64) (x6 : Int64) (x8 : Int64) (x10 : Int64) (x12 : Int32) => k (x2, x4, x6, x8, x10, x12)) q.1 q.2.1 q.2.2.1 q.2.2.2.1 q.2.2.2.2.1 q.2.2.2.2.2) n (x2, x4, x6, x8, x10, x12)) x2 x4 x6 x8 x10 x12 = some r := hf
      refine lv_iload hx hb dX8_inverseModulo_19 (lv_at hl 5 rfl) ?_
      refine lv_bipush (v := 100) hx hb dX8_inverseModulo_21 (by decide) ?_
      refine lv_icmp_ge (tgt := 84) hx hb dX8_inverseModulo_23 (by decide) (fun c3 => ?_) (fun c3 => ?_)
      · have hf := sp1 c3 hf
        exact w_84 x2 x8 _ (lv_sub hl [0, 3] rfl) hf
      · have hf := sp0 c3 hf
        refine lv_lload hx hb dX8_inverseModulo_26 (lv_at hl 2 rfl) ?_
        refine lv_lconst (v := 0) hx hb dX8_inverseModulo_28 (by decide) ?_
        refine W.lcmp hx hb dX8_inverseModulo_29 ?_
        refine lv_if_eq (tgt := 84) hx hb dX8_inverseModulo_30 (by decide) (fun c4 => ?_) (fun c4 => ?_)
        · have hf := sp1 c4 hf
          exact w_84 x2 x8 _ (lv_sub hl [0, 3] rfl) hf
        · have hf := sp0 c4 hf
          refine lv_lload hx hb dX8_inverseModulo_33 (lv_at hl 1 rfl) ?_
          refine lv_lload hx hb dX8_inverseModulo_35 (lv_at hl 2 rfl) ?_
          obtain ⟨v5, h6, hf⟩ := b1_some hf
          refine pc_S (As := [.long x4, .long x6]) (rest := []) C (c_X8_part l x4 x6 v5 h6) hl.1 cp_X8_part mw_2_90 ⟨rfl, rfl⟩ ⟨Nat.le_of_ble_eq_true rfl, Nat.le_of_ble_eq_true rfl⟩ rfl rfl (Nat.le_of_ble_eq_true rfl) dX8_inverseModulo_37 ⟨Nat.le_of_ble_eq_true rfl, Nat.le_of_ble_eq_true rfl⟩ ?_
          refine lv_lstore (lv' := [(13, .long v5), (2, .long x2), (4, .long x4), (6, .long x6), (8, .long x8), (10, .long x10), (12, .int x12)]) hx hb dX8_inverseModulo_40 hl (by decide) rfl (fun ls hl => ?_)
          refine lv_lload hx hb dX8_inverseModulo_42 (lv_at hl 2 rfl) ?_
          refine lv_lload hx hb dX8_inverseModulo_44 (lv_at hl 0 rfl) ?_
          refine lv_lload hx hb dX8_inverseModulo_46 (lv_at hl 3 rfl) ?_
          refine lv_lmul hx hb dX8_inverseModulo_48 ?_
          refine lv_lsub hx hb dX8_inverseModulo_49 ?_
          refine lv_lstore (lv' := [(15, .long (x4 - (v5 * x6))), (13, .long v5), (2, .long x2), (4, .long x4), (6, .long x6), (8, .long x8), (10, .long x10), (12, .int x12)]) hx hb dX8_inverseModulo_50 hl (by decide) rfl (fun ls hl => ?_)
          refine lv_lload hx hb dX8_inverseModulo_52 (lv_at hl 5 rfl) ?_
          refine lv_lload hx hb dX8_inverseModulo_54 (lv_at hl 1 rfl) ?_
          refine lv_lload hx hb dX8_inverseModulo_56 (lv_at hl 6 rfl) ?_
          refine lv_lmul hx hb dX8_inverseModulo_58 ?_
          refine lv_lsub hx hb dX8_inverseModulo_59 ?_
          refine lv_lstore (lv' := [(17, .long (x8 - (v5 * x10))), (15, .long (x4 - (v5 * x6))), (13, .long v5), (2, .long x2), (4, .long x4), (6, .long x6), (8, .long x8), (10, .long x10), (12, .int x12)]) hx hb dX8_inverseModulo_60 hl (by decide) rfl (fun ls hl => ?_)
          refine lv_lload hx hb dX8_inverseModulo_62 (lv_at hl 5 rfl) ?_
          refine lv_lstore (lv' := [(4, .long x6), (17, .long (x8 - (v5 * x10))), (15, .long (x4 - (v5 * x6))), (13, .long v5), (2, .long x2), (6, .long x6), (8, .long x8), (10, .long x10), (12, .int x12)]) hx hb dX8_inverseModulo_64 hl (by decide) rfl (fun ls hl => ?_)
          refine lv_lload hx hb dX8_inverseModulo_66 (lv_at hl 7 rfl) ?_
          refine lv_lstore (lv' := [(8, .long x10), (4, .long x6), (17, .long (x8 - (v5 * x10))), (15, .long (x4 - (v5 * x6))), (13, .long v5), (2, .long x2), (6, .long x6), (10, .long x10), (12, .int x12)]) hx hb dX8_inverseModulo_68 hl (by decide) rfl (fun ls hl => ?_)
          refine lv_lload hx hb dX8_inverseModulo_70 (lv_at hl 3 rfl) ?_
          refine lv_lstore (lv' := [(6, .long (x4 - (v5 * x6))), (8, .long x10), (4, .long x6), (17, .long (x8 - (v5 * x10))), (15, .long (x4 - (v5 * x6))), (13, .long v5), (2, .long x2), (10, .long x10), (12, .int x12)]) hx hb dX8_inverseModulo_72 hl (by decide) rfl (fun ls hl => ?_)
          refine lv_lload hx hb dX8_inverseModulo_74 (lv_at hl 3 rfl) ?_
          refine lv_lstore (lv' := [(10, .long (x8 - (v5 * x10))), (6, .long (x4 - (v5 * x6))), (8, .long x10), (4, .long x6), (17, .long (x8 - (v5 * x10))), (15, .long (x4 - (v5 * x6))), (13, .long v5), (2, .long x2), (12, .int x12)]) hx hb dX8_inverseModulo_76 hl (by decide) rfl (fun ls hl => ?_)
          refine lv_iinc (v := (x12 + 1)) (lv' := [(12, .int (x12 + 1)), (10, .long (x8 - (v5 * x10))), (6, .long (x4 - (v5 * x6))), (8, .long x10), (4, .long x6), (17, .long (x8 - (v5 * x10))), (15, .long (x4 - (v5 * x6))), (13, .long v5), (2, .long x2)]) hx hb dX8_inverseModulo_78 hl (k := 8) rfl rfl (by decide) rfl (fun ls hl => ?_)
          refine lv_goto (tgt := 19) hx hb dX8_inverseModulo_81 (by decide) ?_
          exact hk_19 x2 x6 (x4 - (v5 * x6)) x10 (x8 - (v5 * x10)) (x12 + 1) _ (lv_sub hl [8, 4, 2, 3, 1, 0] rfl) hf
    exact aux FU
  refine lv_lload_n hx hb dX8_inverseModulo_0 rfl (lv_at hl 1 rfl) ?_
  refine lv_lstore (lv' := [(4, .long p1), (0, .long p0), (2, .long p1)]) hx hb dX8_inverseModulo_1 hl (by decide) rfl (fun ls hl => ?_)
  refine lv_lload_n hx hb dX8_inverseModulo_3 rfl (lv_at hl 1 rfl) ?_
  refine lv_lload_n hx hb dX8_inverseModulo_4 rfl (lv_at hl 2 rfl) ?_
  obtain ⟨v7, h8, hf⟩ := b1_some hf
  refine pc_S (As := [.long p0, .long p1]) (rest := []) C (c_X8_rest l p0 p1 v7 h8) hl.1 cp_X8_rest mw_2_75 ⟨rfl, rfl⟩ ⟨Nat.le_of_ble_eq_true rfl, Nat.le_of_ble_eq_true rfl⟩ rfl rfl (Nat.le_of_ble_eq_true rfl) dX8_inverseModulo_5 ⟨Nat.le_of_ble_eq_true rfl, Nat.le_of_ble_eq_true rfl⟩ ?_
  refine lv_lstore (lv' := [(6, .long v7), (4, .long p1), (0, .long p0), (2, .long p1)]) hx hb dX8_inverseModulo_8 hl (by decide) rfl (fun ls hl => ?_)
  refine lv_lconst (v := 0) hx hb dX8_inverseModulo_10 (by decide) ?_
  refine lv_lstore (lv' := [(8, .long 0), (6, .long v7), (4, .long p1), (0, .long p0), (2, .long p1)]) hx hb dX8_inverseModulo_11 hl (by decide) rfl (fun ls hl => ?_)
  refine lv_lconst (v := 1) hx hb dX8_inverseModulo_13 (by decide) ?_
  refine lv_lstore (lv' := [(10, .long 1), (8, .long 0), (6, .long v7), (4, .long p1), (0, .long p0), (2, .long p1)]) hx hb dX8_inverseModulo_14 hl (by decide) rfl (fun ls hl => ?_)
  refine lv_iconst (v := 0) hx hb dX8_inverseModulo_16 (by decide) ?_
  refine lv_istore (lv' := [(12, .int 0), (10, .long 1), (8, .long 0), (6, .long v7), (4, .long p1), (0, .long p0), (2, .long p1)]) hx hb dX8_inverseModulo_17 hl (by decide) rfl (fun ls hl => ?_)
  exact w_19 p1 p1 v7 0 1 0 _ (lv_sub hl [6, 4, 3, 2, 1, 0] rfl) hf
theorem cp_X8_inverseModulo : CPs yX8_inverseModulo cX8_inverseModulo 19 (some .long) 2 := ⟨mw_3_52, mw_1_10, mw_3_51, by decide +kernel⟩
def rm_X8_timesModulo : Room := { frames := 1, cells := 0, slots := 0, locals := 29 }
set_option maxHeartbeats 4000000 in
set_option maxRecDepth 100000 in
theorem c_X8_timesModulo (l : Launch) (p0 : Int64) (p1 : Int64) (p2 : Int64) (r : Int64) (hf : f_X8_timesModulo p0 p1 p2 = some r) : MetP l yX8_timesModulo cX8_timesModulo 6 (some .long) rm_X8_timesModulo [.long p0, .long p1, .long p2] (some (.long r)) := by
  refine MetP.of RX8 (by decide) rfl (Nat.le_of_ble_eq_true rfl) ?_
  intro p e s m args below meth c C ls hl
  have hl : lv_has ls 6 [(0, .long p0), (2, .long p1), (4, .long p2)] := hl
  obtain ⟨hx, hb, hr, hml, hown, htL, hlocks⟩ := id C
  generalize hQ : MQ below (Pq (some (.long r))) args s 0 0 (fun _ => False) = Q
  refine lv_lload_n hx hb dX8_timesModulo_0 rfl (lv_at hl 0 rfl) ?_
  refine lv_lload hx hb dX8_timesModulo_1 (lv_at hl 2 rfl) ?_
  obtain ⟨v1, h2, hf⟩ := b1_some hf
  refine pc_S (As := [.long p0, .long p2]) (rest := []) C (c_X8_rest l p0 p2 v1 h2) hl.1 cp_X8_rest mw_2_75 ⟨rfl, rfl⟩ ⟨Nat.le_of_ble_eq_true rfl, Nat.le_of_ble_eq_true rfl⟩ rfl rfl (Nat.le_of_ble_eq_true rfl) dX8_timesModulo_3 ⟨Nat.le_of_ble_eq_true rfl, Nat.le_of_ble_eq_true rfl⟩ ?_
  refine lv_lload_n hx hb dX8_timesModulo_6 rfl (lv_at hl 1 rfl) ?_
  refine lv_lload hx hb dX8_timesModulo_7 (lv_at hl 2 rfl) ?_
  obtain ⟨v3, h4, hf⟩ := b1_some hf
  refine pc_S (As := [.long p1, .long p2]) (rest := [.long v1]) C (c_X8_rest l p1 p2 v3 h4) hl.1 cp_X8_rest mw_2_75 ⟨rfl, rfl⟩ ⟨Nat.le_of_ble_eq_true rfl, Nat.le_of_ble_eq_true rfl⟩ rfl rfl (Nat.le_of_ble_eq_true rfl) dX8_timesModulo_9 ⟨Nat.le_of_ble_eq_true rfl, Nat.le_of_ble_eq_true rfl⟩ ?_
  refine lv_lmul hx hb dX8_timesModulo_12 ?_
  refine lv_lload hx hb dX8_timesModulo_13 (lv_at hl 2 rfl) ?_
  obtain ⟨v5, h6, hf⟩ := b1_some hf
  refine pc_S (As := [.long (v1 * v3), .long p2]) (rest := []) C (c_X8_rest l (v1 * v3) p2 v5 h6) hl.1 cp_X8_rest mw_2_75 ⟨rfl, rfl⟩ ⟨Nat.le_of_ble_eq_true rfl, Nat.le_of_ble_eq_true rfl⟩ rfl rfl (Nat.le_of_ble_eq_true rfl) dX8_timesModulo_15 ⟨Nat.le_of_ble_eq_true rfl, Nat.le_of_ble_eq_true rfl⟩ ?_
  subst hQ
  exact pe_l C hf dX8_timesModulo_18
theorem cp_X8_timesModulo : CPs yX8_timesModulo cX8_timesModulo 6 (some .long) 3 := ⟨mw_2_74, mw_1_10, mw_2_73, by decide +kernel⟩
def rm_X8_powerModulo : Room := { frames := 2, cells := 0, slots := 0, locals := 58 }
set_option maxHeartbeats 4000000 in
set_option maxRecDepth 100000 in
theorem c_X8_powerModulo (l : Launch) (p0 : Int64) (p1 : Int64) (p2 : Int64) (r : Int64) (hf : f_X8_powerModulo p0 p1 p2 = some r) : MetP l yX8_powerModulo cX8_powerModulo 12 (some .long) rm_X8_powerModulo [.long p0, .long p1, .long p2] (some (.long r)) := by
  refine MetP.of RX8 (by decide) rfl (Nat.le_of_ble_eq_true rfl) ?_
  intro p e s m args below meth c C ls hl
  have hl : lv_has ls 12 [(0, .long p0), (2, .long p1), (4, .long p2)] := hl
  obtain ⟨hx, hb, hr, hml, hown, htL, hlocks⟩ := id C
  generalize hQ : MQ below (Pq (some (.long r))) args s 0 0 (fun _ => False) = Q
  have w_46 : ∀ (k_19 : Int64 → Int64 → Int64 → Int64 → Option Int64) (hk_19 : ∀ (x4 : Int64) (x6 : Int64) (x8 : Int64) (x10 : Int64) (ls : Array Slot), lv_has ls 12 [(4, .long x4), (6, .long x6), (8, .long x8), (10, .long x10)] → k_19 x4 x6 x8 x10 = some r → W p l e rm_X8_powerModulo s m args below meth c s.heap [] 0 0 Q (F0 m 19 ls [])) (x4 : Int64) (x6 : Int64) (x8 : Int64) (x10 : Int64) (ls : Array Slot), lv_has ls 12 [(4, .long x4), (6, .long x6), (8, .long x8), (10, .long x10)] → n_X8_powerModulo_46 k_19 x4 x6 x8 x10 = some r → W p l e rm_X8_powerModulo s m args below meth c s.heap [] 0 0 Q (F0 m 46 ls []) := by
    intro k_19 hk_19 x4 x6 x8 x10 ls hl hf
    refine lv_lload hx hb dX8_powerModulo_46 (lv_at hl 2 rfl) ?_
    refine lv_lload hx hb dX8_powerModulo_48 (lv_at hl 2 rfl) ?_
    refine lv_lload hx hb dX8_powerModulo_50 (lv_at hl 0 rfl) ?_
    obtain ⟨v1, h2, hf⟩ := b1_some hf
    refine pc_S (As := [.long x8, .long x8, .long x4]) (rest := []) C (c_X8_timesModulo l x8 x8 x4 v1 h2) hl.1 cp_X8_timesModulo mw_3_77 ⟨rfl, rfl⟩ ⟨Nat.le_of_ble_eq_true rfl, Nat.le_of_ble_eq_true rfl⟩ rfl rfl (Nat.le_of_ble_eq_true rfl) dX8_powerModulo_52 ⟨Nat.le_of_ble_eq_true rfl, Nat.le_of_ble_eq_true rfl⟩ ?_
    refine lv_lstore (lv' := [(8, .long v1), (4, .long x4), (6, .long x6), (10, .long x10)]) hx hb dX8_powerModulo_55 hl (by decide) rfl (fun ls hl => ?_)
    refine lv_lload hx hb dX8_powerModulo_57 (lv_at hl 3 rfl) ?_
    refine lv_iconst (v := 1) hx hb dX8_powerModulo_59 (by decide) ?_
    refine lv_lshr hx hb dX8_powerModulo_60 rfl ?_
    refine lv_lstore (lv' := [(10, .long (x10 >>> (Int32.toInt64 1 &&& 63))), (8, .long v1), (4, .long x4), (6, .long x6)]) hx hb dX8_powerModulo_61 hl (by decide) rfl (fun ls hl => ?_)
    refine lv_goto (tgt := 19) hx hb dX8_powerModulo_63 (by decide) ?_
    exact hk_19 x4 x6 v1 (x10 >>> (Int32.toInt64 1 &&& 63)) _ (lv_sub hl [2, 3, 1, 0] rfl) hf
  have w_19 : ∀ (x4 : Int64) (x6 : Int64) (x8 : Int64) (x10 : Int64) (ls : Array Slot), lv_has ls 12 [(4, .long x4), (6, .long x6), (8, .long x8), (10, .long x10)] → n_X8_powerModulo_19 x4 x6 x8 x10 = some r → W p l e rm_X8_powerModulo s m args below meth c s.heap [] 0 0 Q (F0 m 19 ls []) := by
    skip
    have aux : ∀ (n : Nat) (x4 : Int64) (x6 : Int64) (x8 : Int64) (x10 : Int64) (ls : Array Slot), lv_has ls 12 [(4, .long x4), (6, .long x6), (8, .long x8), (10, .long x10)] → itr (fun (q : Int64 × Int64 × Int64 × Int64) k => s_X8_powerModulo_19  (fun (x4 : Int64) (x6 : Int64) (x8 : Int64) (x10 : Int64) => k (x4, x6, x8, x10)) q.1 q.2.1 q.2.2.1 q.2.2.2) n (x4, x6, x8, x10) = some r → W p l e rm_X8_powerModulo s m args below meth c s.heap [] 0 0 Q (F0 m 19 ls []) := by
      intro n
      induction n with
      | zero => intro x4 x6 x8 x10 ls hl hf; exact (itr_z hf).elim
      | succ n ih =>
      intro x4 x6 x8 x10 ls hl hf
      have hk_19 := ih
      have hf : s_X8_powerModulo_19  (fun (x4 : Int64) (x6 : Int64) (x8 : Int64) (x10 : Int64) => itr (fun (q : Int64 × Int64 × Int64 × Int64) k => s_X8_powerModulo_19  (fun (x4 : Int64) (x6 : Int64) (x8 : Int64) (x10 : Int64) => k (x4, x6, x8, x10)) q.1 q.2.1 q.2.2.1 q.2.2.2) n (x4, x6, x8, x10)) x4 x6 x8 x10 = some r := hf
      refine lv_lload hx hb dX8_powerModulo_19 (lv_at hl 3 rfl) ?_
      refine lv_lconst (v := 0) hx hb dX8_powerModulo_21 (by decide) ?_
      refine W.lcmp hx hb dX8_powerModulo_22 ?_
      refine lv_if_le (tgt := 66) hx hb dX8_powerModulo_23 (by decide) (fun c3 => ?_) (fun c3 => ?_)
      · have hf := sp1 c3 hf
        refine lv_lload hx hb dX8_powerModulo_66 (lv_at hl 1 rfl) ?_
        subst hQ
        exact pe_l C hf dX8_powerModulo_68
      · have hf := sp0 c3 hf
        refine lv_lload hx hb dX8_powerModulo_26 (lv_at hl 3 rfl) ?_
        refine lv_lconst (v := 1) hx hb dX8_powerModulo_28 (by decide) ?_
        refine lv_land hx hb dX8_powerModulo_29 ?_
        refine lv_lconst (v := 1) hx hb dX8_powerModulo_30 (by decide) ?_
        refine W.lcmp hx hb dX8_powerModulo_31 ?_
        refine lv_if_ne (tgt := 46) hx hb dX8_powerModulo_32 (by decide) (fun c4 => ?_) (fun c4 => ?_)
        · have hf := sp0 c4 hf
          exact w_46 _ hk_19 x4 x6 x8 x10 _ (lv_sub hl [0, 1, 2, 3] rfl) hf
        · have hf := sp1 c4 hf
          refine lv_lload hx hb dX8_powerModulo_35 (lv_at hl 1 rfl) ?_
          refine lv_lload hx hb dX8_powerModulo_37 (lv_at hl 2 rfl) ?_
          refine lv_lload hx hb dX8_powerModulo_39 (lv_at hl 0 rfl) ?_
          obtain ⟨v5, h6, hf⟩ := b1_some hf
          refine pc_S (As := [.long x6, .long x8, .long x4]) (rest := []) C (c_X8_timesModulo l x6 x8 x4 v5 h6) hl.1 cp_X8_timesModulo mw_3_77 ⟨rfl, rfl⟩ ⟨Nat.le_of_ble_eq_true rfl, Nat.le_of_ble_eq_true rfl⟩ rfl rfl (Nat.le_of_ble_eq_true rfl) dX8_powerModulo_41 ⟨Nat.le_of_ble_eq_true rfl, Nat.le_of_ble_eq_true rfl⟩ ?_
          refine lv_lstore (lv' := [(6, .long v5), (4, .long x4), (8, .long x8), (10, .long x10)]) hx hb dX8_powerModulo_44 hl (by decide) rfl (fun ls hl => ?_)
          exact w_46 _ hk_19 x4 v5 x8 x10 _ (lv_sub hl [1, 0, 2, 3] rfl) hf
    exact aux FU
  refine lv_lconst (v := 1) hx hb dX8_powerModulo_0 (by decide) ?_
  refine lv_lload hx hb dX8_powerModulo_1 (lv_at hl 2 rfl) ?_
  obtain ⟨v7, h8, hf⟩ := b1_some hf
  refine pc_S (As := [.long 1, .long p2]) (rest := []) C (c_X8_rest l 1 p2 v7 h8) hl.1 cp_X8_rest mw_2_75 ⟨rfl, rfl⟩ ⟨Nat.le_of_ble_eq_true rfl, Nat.le_of_ble_eq_true rfl⟩ rfl rfl (Nat.le_of_ble_eq_true rfl) dX8_powerModulo_3 ⟨Nat.le_of_ble_eq_true rfl, Nat.le_of_ble_eq_true rfl⟩ ?_
  refine lv_lstore (lv' := [(6, .long v7), (0, .long p0), (2, .long p1), (4, .long p2)]) hx hb dX8_powerModulo_6 hl (by decide) rfl (fun ls hl => ?_)
  refine lv_lload_n hx hb dX8_powerModulo_8 rfl (lv_at hl 1 rfl) ?_
  refine lv_lload hx hb dX8_powerModulo_9 (lv_at hl 3 rfl) ?_
  obtain ⟨v9, h10, hf⟩ := b1_some hf
  refine pc_S (As := [.long p0, .long p2]) (rest := []) C (c_X8_rest l p0 p2 v9 h10) hl.1 cp_X8_rest mw_2_75 ⟨rfl, rfl⟩ ⟨Nat.le_of_ble_eq_true rfl, Nat.le_of_ble_eq_true rfl⟩ rfl rfl (Nat.le_of_ble_eq_true rfl) dX8_powerModulo_11 ⟨Nat.le_of_ble_eq_true rfl, Nat.le_of_ble_eq_true rfl⟩ ?_
  refine lv_lstore (lv' := [(8, .long v9), (6, .long v7), (0, .long p0), (2, .long p1), (4, .long p2)]) hx hb dX8_powerModulo_14 hl (by decide) rfl (fun ls hl => ?_)
  refine lv_lload_n hx hb dX8_powerModulo_16 rfl (lv_at hl 3 rfl) ?_
  refine lv_lstore (lv' := [(10, .long p1), (8, .long v9), (6, .long v7), (0, .long p0), (2, .long p1), (4, .long p2)]) hx hb dX8_powerModulo_17 hl (by decide) rfl (fun ls hl => ?_)
  exact w_19 p2 v7 v9 p1 _ (lv_sub hl [5, 2, 1, 0] rfl) hf
theorem cp_X8_powerModulo : CPs yX8_powerModulo cX8_powerModulo 12 (some .long) 3 := ⟨mw_3_76, mw_1_10, mw_3_75, by decide +kernel⟩
def rm_X7_isMinusAtTwo : Room := { frames := 2, cells := 0, slots := 0, locals := 58 }
set_option maxHeartbeats 4000000 in
set_option maxRecDepth 100000 in
theorem c_X7_isMinusAtTwo (l : Launch) (p0 : Int32) (p1 : Int32) (r : Int32) (hf : f_X7_isMinusAtTwo p0 p1 = some r) : MetP l yX7_isMinusAtTwo cX7_isMinusAtTwo 10 (some .boolean) rm_X7_isMinusAtTwo [.int p0, .int p1] (some (.int r)) := by
  refine MetP.of RX7 (by decide) rfl (Nat.le_of_ble_eq_true rfl) ?_
  intro p e s m args below meth c C ls hl
  have hl : lv_has ls 10 [(0, .int p0), (1, .int p1)] := hl
  obtain ⟨hx, hb, hr, hml, hown, htL, hlocks⟩ := id C
  generalize hQ : MQ below (Pq (some (.int r))) args s 0 0 (fun _ => False) = Q
  refine lv_iload_n hx hb dX7_isMinusAtTwo_0 rfl (lv_at hl 0 rfl) ?_
  refine lv_i2l hx hb dX7_isMinusAtTwo_1 rfl ?_
  refine lv_iconst (v := 2) hx hb dX7_isMinusAtTwo_2 (by decide) ?_
  obtain ⟨v1, h2, hf⟩ := b1_some hf
  refine pc_S (As := [.long (Int32.toInt64 p0), .int 2]) (rest := []) C (c_X8_factorCount l (Int32.toInt64 p0) 2 v1 h2) hl.1 cp_X8_factorCount mw_5_34 ⟨rfl, rfl⟩ ⟨Nat.le_of_ble_eq_true rfl, Nat.le_of_ble_eq_true rfl⟩ rfl rfl (Nat.le_of_ble_eq_true rfl) dX7_isMinusAtTwo_3 ⟨Nat.le_of_ble_eq_true rfl, Nat.le_of_ble_eq_true rfl⟩ ?_
  refine lv_istore_n (lv' := [(2, .int v1), (0, .int p0), (1, .int p1)]) hx hb dX7_isMinusAtTwo_6 rfl hl (by decide) rfl (fun ls hl => ?_)
  refine lv_iload_n hx hb dX7_isMinusAtTwo_7 rfl (lv_at hl 2 rfl) ?_
  refine lv_i2l hx hb dX7_isMinusAtTwo_8 rfl ?_
  refine lv_iconst (v := 2) hx hb dX7_isMinusAtTwo_9 (by decide) ?_
  obtain ⟨v3, h4, hf⟩ := b1_some hf
  refine pc_S (As := [.long (Int32.toInt64 p1), .int 2]) (rest := []) C (c_X8_factorCount l (Int32.toInt64 p1) 2 v3 h4) hl.1 cp_X8_factorCount mw_5_34 ⟨rfl, rfl⟩ ⟨Nat.le_of_ble_eq_true rfl, Nat.le_of_ble_eq_true rfl⟩ rfl rfl (Nat.le_of_ble_eq_true rfl) dX7_isMinusAtTwo_10 ⟨Nat.le_of_ble_eq_true rfl, Nat.le_of_ble_eq_true rfl⟩ ?_
  refine lv_istore_n (lv' := [(3, .int v3), (2, .int v1), (0, .int p0), (1, .int p1)]) hx hb dX7_isMinusAtTwo_13 rfl hl (by decide) rfl (fun ls hl => ?_)
  refine lv_iload_n hx hb dX7_isMinusAtTwo_14 rfl (lv_at hl 2 rfl) ?_
  refine lv_i2l hx hb dX7_isMinusAtTwo_15 rfl ?_
  refine lv_iconst (v := 2) hx hb dX7_isMinusAtTwo_16 (by decide) ?_
  obtain ⟨v5, h6, hf⟩ := b1_some hf
  refine pc_S (As := [.long (Int32.toInt64 p0), .int 2]) (rest := []) C (c_X8_withoutFactors l (Int32.toInt64 p0) 2 v5 h6) hl.1 cp_X8_withoutFactors mw_5_35 ⟨rfl, rfl⟩ ⟨Nat.le_of_ble_eq_true rfl, Nat.le_of_ble_eq_true rfl⟩ rfl rfl (Nat.le_of_ble_eq_true rfl) dX7_isMinusAtTwo_17 ⟨Nat.le_of_ble_eq_true rfl, Nat.le_of_ble_eq_true rfl⟩ ?_
  refine lv_lstore (lv' := [(4, .long v5), (3, .int v3), (2, .int v1), (0, .int p0), (1, .int p1)]) hx hb dX7_isMinusAtTwo_20 hl (by decide) rfl (fun ls hl => ?_)
  refine lv_iload_n hx hb dX7_isMinusAtTwo_22 rfl (lv_at hl 4 rfl) ?_
  refine lv_i2l hx hb dX7_isMinusAtTwo_23 rfl ?_
  refine lv_iconst (v := 2) hx hb dX7_isMinusAtTwo_24 (by decide) ?_
  obtain ⟨v7, h8, hf⟩ := b1_some hf
  refine pc_S (As := [.long (Int32.toInt64 p1), .int 2]) (rest := []) C (c_X8_withoutFactors l (Int32.toInt64 p1) 2 v7 h8) hl.1 cp_X8_withoutFactors mw_5_35 ⟨rfl, rfl⟩ ⟨Nat.le_of_ble_eq_true rfl, Nat.le_of_ble_eq_true rfl⟩ rfl rfl (Nat.le_of_ble_eq_true rfl) dX7_isMinusAtTwo_25 ⟨Nat.le_of_ble_eq_true rfl, Nat.le_of_ble_eq_true rfl⟩ ?_
  refine lv_lstore (lv' := [(6, .long v7), (4, .long v5), (3, .int v3), (2, .int v1), (0, .int p0), (1, .int p1)]) hx hb dX7_isMinusAtTwo_28 hl (by decide) rfl (fun ls hl => ?_)
  refine lv_lload hx hb dX7_isMinusAtTwo_30 (lv_at hl 1 rfl) ?_
  refine lv_lconst (v := 1) hx hb dX7_isMinusAtTwo_32 (by decide) ?_
  refine lv_lsub hx hb dX7_isMinusAtTwo_33 ?_
  refine lv_ldc2 (v := 2) hx hb hown (htL _ mw_5_36) dX7_isMinusAtTwo_34 ?_
  refine lv_ldiv hx hb dX7_isMinusAtTwo_37 (by decide) ?_
  refine lv_lload hx hb dX7_isMinusAtTwo_38 (lv_at hl 0 rfl) ?_
  refine lv_lconst (v := 1) hx hb dX7_isMinusAtTwo_40 (by decide) ?_
  refine lv_lsub hx hb dX7_isMinusAtTwo_41 ?_
  refine lv_ldc2 (v := 2) hx hb hown (htL _ mw_5_36) dX7_isMinusAtTwo_42 ?_
  refine lv_ldiv hx hb dX7_isMinusAtTwo_45 (by decide) ?_
  refine lv_lmul hx hb dX7_isMinusAtTwo_46 ?_
  refine lv_iload_n hx hb dX7_isMinusAtTwo_47 rfl (lv_at hl 3 rfl) ?_
  refine lv_i2l hx hb dX7_isMinusAtTwo_48 rfl ?_
  refine lv_lload hx hb dX7_isMinusAtTwo_49 (lv_at hl 0 rfl) ?_
  refine lv_lload hx hb dX7_isMinusAtTwo_51 (lv_at hl 0 rfl) ?_
  refine lv_lmul hx hb dX7_isMinusAtTwo_53 ?_
  refine lv_lconst (v := 1) hx hb dX7_isMinusAtTwo_54 (by decide) ?_
  refine lv_lsub hx hb dX7_isMinusAtTwo_55 ?_
  refine lv_ldc2 (v := 8) hx hb hown (htL _ mw_5_37) dX7_isMinusAtTwo_56 ?_
  refine lv_ldiv hx hb dX7_isMinusAtTwo_59 (by decide) ?_
  refine lv_lmul hx hb dX7_isMinusAtTwo_60 ?_
  refine lv_ladd hx hb dX7_isMinusAtTwo_61 ?_
  refine lv_iload_n hx hb dX7_isMinusAtTwo_62 rfl (lv_at hl 2 rfl) ?_
  refine lv_i2l hx hb dX7_isMinusAtTwo_63 rfl ?_
  refine lv_lload hx hb dX7_isMinusAtTwo_64 (lv_at hl 1 rfl) ?_
  refine lv_lload hx hb dX7_isMinusAtTwo_66 (lv_at hl 1 rfl) ?_
  refine lv_lmul hx hb dX7_isMinusAtTwo_68 ?_
  refine lv_lconst (v := 1) hx hb dX7_isMinusAtTwo_69 (by decide) ?_
  refine lv_lsub hx hb dX7_isMinusAtTwo_70 ?_
  refine lv_ldc2 (v := 8) hx hb hown (htL _ mw_5_37) dX7_isMinusAtTwo_71 ?_
  refine lv_ldiv hx hb dX7_isMinusAtTwo_74 (by decide) ?_
  refine lv_lmul hx hb dX7_isMinusAtTwo_75 ?_
  refine lv_ladd hx hb dX7_isMinusAtTwo_76 ?_
  refine lv_lstore (lv' := [(8, .long (((((v5 - 1) / (2)) * ((v7 - 1) / (2))) + ((Int32.toInt64 v1) * (((v7 * v7) - 1) / (8)))) + ((Int32.toInt64 v3) * (((v5 * v5) - 1) / (8))))), (6, .long v7), (4, .long v5), (3, .int v3), (2, .int v1), (0, .int p0), (1, .int p1)]) hx hb dX7_isMinusAtTwo_77 hl (by decide) rfl (fun ls hl => ?_)
  refine lv_lload hx hb dX7_isMinusAtTwo_79 (lv_at hl 0 rfl) ?_
  refine lv_lconst (v := 1) hx hb dX7_isMinusAtTwo_81 (by decide) ?_
  refine lv_land hx hb dX7_isMinusAtTwo_82 ?_
  refine lv_lconst (v := 1) hx hb dX7_isMinusAtTwo_83 (by decide) ?_
  refine W.lcmp hx hb dX7_isMinusAtTwo_84 ?_
  refine lv_if_ne (tgt := 92) hx hb dX7_isMinusAtTwo_85 (by decide) (fun c9 => ?_) (fun c9 => ?_)
  · have hf := sp0 c9 hf
    refine lv_iconst (v := 0) hx hb dX7_isMinusAtTwo_92 (by decide) ?_
    subst hQ
    exact pe_z C (by decide) hf dX7_isMinusAtTwo_93
  · have hf := sp1 c9 hf
    refine lv_iconst (v := 1) hx hb dX7_isMinusAtTwo_88 (by decide) ?_
    refine lv_goto (tgt := 93) hx hb dX7_isMinusAtTwo_89 (by decide) ?_
    subst hQ
    exact pe_z C (by decide) hf dX7_isMinusAtTwo_93
theorem cp_X7_isMinusAtTwo : CPs yX7_isMinusAtTwo cX7_isMinusAtTwo 10 (some .boolean) 2 := ⟨mw_5_33, mw_1_23, mw_5_32, by decide +kernel⟩
def rm_X7_isSquareModulo : Room := { frames := 3, cells := 0, slots := 0, locals := 93 }
set_option maxHeartbeats 4000000 in
set_option maxRecDepth 100000 in
theorem c_X7_isSquareModulo (l : Launch) (p0 : Int64) (p1 : Int32) (r : Int32) (hf : f_X7_isSquareModulo p0 p1 = some r) : MetP l yX7_isSquareModulo cX7_isSquareModulo 3 (some .boolean) rm_X7_isSquareModulo [.long p0, .int p1] (some (.int r)) := by
  refine MetP.of RX7 (by decide) rfl (Nat.le_of_ble_eq_true rfl) ?_
  intro p e s m args below meth c C ls hl
  have hl : lv_has ls 3 [(0, .long p0), (2, .int p1)] := hl
  obtain ⟨hx, hb, hr, hml, hown, htL, hlocks⟩ := id C
  generalize hQ : MQ below (Pq (some (.int r))) args s 0 0 (fun _ => False) = Q
  refine lv_lload_n hx hb dX7_isSquareModulo_0 rfl (lv_at hl 0 rfl) ?_
  refine lv_iload_n hx hb dX7_isSquareModulo_1 rfl (lv_at hl 1 rfl) ?_
  refine lv_iconst (v := 1) hx hb dX7_isSquareModulo_2 (by decide) ?_
  refine lv_isub hx hb dX7_isSquareModulo_3 ?_
  refine lv_iconst (v := 2) hx hb dX7_isSquareModulo_4 (by decide) ?_
  refine lv_idiv hx hb dX7_isSquareModulo_5 (by decide) ?_
  refine lv_i2l hx hb dX7_isSquareModulo_6 rfl ?_
  refine lv_iload_n hx hb dX7_isSquareModulo_7 rfl (lv_at hl 1 rfl) ?_
  refine lv_i2l hx hb dX7_isSquareModulo_8 rfl ?_
  obtain ⟨v1, h2, hf⟩ := b1_some hf
  refine pc_S (As := [.long p0, .long (Int32.toInt64 ((p1 - 1) / 2)), .long (Int32.toInt64 p1)]) (rest := []) C (c_X8_powerModulo l p0 (Int32.toInt64 ((p1 - 1) / 2)) (Int32.toInt64 p1) v1 h2) hl.1 cp_X8_powerModulo mw_5_44 ⟨rfl, rfl⟩ ⟨Nat.le_of_ble_eq_true rfl, Nat.le_of_ble_eq_true rfl⟩ rfl rfl (Nat.le_of_ble_eq_true rfl) dX7_isSquareModulo_9 ⟨Nat.le_of_ble_eq_true rfl, Nat.le_of_ble_eq_true rfl⟩ ?_
  refine lv_lconst (v := 1) hx hb dX7_isSquareModulo_12 (by decide) ?_
  refine W.lcmp hx hb dX7_isSquareModulo_13 ?_
  refine lv_if_ne (tgt := 21) hx hb dX7_isSquareModulo_14 (by decide) (fun c3 => ?_) (fun c3 => ?_)
  · have hf := sp0 c3 hf
    refine lv_iconst (v := 0) hx hb dX7_isSquareModulo_21 (by decide) ?_
    subst hQ
    exact pe_z C (by decide) hf dX7_isSquareModulo_22
  · have hf := sp1 c3 hf
    refine lv_iconst (v := 1) hx hb dX7_isSquareModulo_17 (by decide) ?_
    refine lv_goto (tgt := 22) hx hb dX7_isSquareModulo_18 (by decide) ?_
    subst hQ
    exact pe_z C (by decide) hf dX7_isSquareModulo_22
theorem cp_X7_isSquareModulo : CPs yX7_isSquareModulo cX7_isSquareModulo 3 (some .boolean) 2 := ⟨mw_5_43, mw_1_23, mw_5_42, by decide +kernel⟩
def rm_X7_isMinusAtOdd : Room := { frames := 4, cells := 0, slots := 0, locals := 119 }
set_option maxHeartbeats 4000000 in
set_option maxRecDepth 100000 in
theorem c_X7_isMinusAtOdd (l : Launch) (p0 : Int32) (p1 : Int32) (p2 : Int32) (r : Int32) (hf : f_X7_isMinusAtOdd p0 p1 p2 = some r) : MetP l yX7_isMinusAtOdd cX7_isMinusAtOdd 6 (some .boolean) rm_X7_isMinusAtOdd [.int p0, .int p1, .int p2] (some (.int r)) := by
  refine MetP.of RX7 (by decide) rfl (Nat.le_of_ble_eq_true rfl) ?_
  intro p e s m args below meth c C ls hl
  have hl : lv_has ls 6 [(0, .int p0), (1, .int p1), (2, .int p2)] := hl
  obtain ⟨hx, hb, hr, hml, hown, htL, hlocks⟩ := id C
  generalize hQ : MQ below (Pq (some (.int r))) args s 0 0 (fun _ => False) = Q
  have w_71 : ∀ (x1 : Int32) (x2 : Int32) (x3 : Int32) (x5 : Int32) (ls : Array Slot), lv_has ls 6 [(1, .int x1), (2, .int x2), (3, .int x3), (5, .int x5)] → n_X7_isMinusAtOdd_71 x1 x2 x3 x5 = some r → W p l e rm_X7_isMinusAtOdd s m args below meth c s.heap [] 0 0 Q (F0 m 71 ls []) := by
    intro x1 x2 x3 x5 ls hl hf
    refine lv_iload_n hx hb dX7_isMinusAtOdd_71 rfl (lv_at hl 2 rfl) ?_
    refine lv_iconst (v := 1) hx hb dX7_isMinusAtOdd_72 (by decide) ?_
    refine lv_iand hx hb dX7_isMinusAtOdd_73 ?_
    refine lv_iconst (v := 1) hx hb dX7_isMinusAtOdd_74 (by decide) ?_
    refine lv_icmp_ne (tgt := 103) hx hb dX7_isMinusAtOdd_75 (by decide) (fun c1 => ?_) (fun c1 => ?_)
    · have hf := sp0 c1 hf
      refine lv_iload hx hb dX7_isMinusAtOdd_103 (lv_at hl 3 rfl) ?_
      obtain ⟨c2, hf⟩ := spy hf
      subst hQ
      exact pe_z C c2 hf dX7_isMinusAtOdd_105
    · have hf := sp1 c1 hf
      refine lv_iload_n hx hb dX7_isMinusAtOdd_78 rfl (lv_at hl 0 rfl) ?_
      refine lv_i2l hx hb dX7_isMinusAtOdd_79 rfl ?_
      refine lv_iload_n hx hb dX7_isMinusAtOdd_80 rfl (lv_at hl 1 rfl) ?_
      obtain ⟨v3, h4, hf⟩ := b1_some hf
      refine pc_S (As := [.long (Int32.toInt64 x1), .int x2]) (rest := []) C (c_X8_withoutFactors l (Int32.toInt64 x1) x2 v3 h4) hl.1 cp_X8_withoutFactors mw_5_35 ⟨rfl, rfl⟩ ⟨Nat.le_of_ble_eq_true rfl, Nat.le_of_ble_eq_true rfl⟩ rfl rfl (Nat.le_of_ble_eq_true rfl) dX7_isMinusAtOdd_81 ⟨Nat.le_of_ble_eq_true rfl, Nat.le_of_ble_eq_true rfl⟩ ?_
      refine lv_iload_n hx hb dX7_isMinusAtOdd_84 rfl (lv_at hl 1 rfl) ?_
      obtain ⟨v5, h6, hf⟩ := b1_some hf
      refine pc_S (As := [.long v3, .int x2]) (rest := []) C (c_X7_isSquareModulo l v3 x2 v5 h6) hl.1 cp_X7_isSquareModulo mw_5_41 ⟨rfl, rfl⟩ ⟨Nat.le_of_ble_eq_true rfl, Nat.le_of_ble_eq_true rfl⟩ rfl rfl (Nat.le_of_ble_eq_true rfl) dX7_isMinusAtOdd_85 ⟨Nat.le_of_ble_eq_true rfl, Nat.le_of_ble_eq_true rfl⟩ ?_
      refine lv_if_ne (tgt := 103) hx hb dX7_isMinusAtOdd_88 (by decide) (fun c7 => ?_) (fun c7 => ?_)
      · have hf := sp0 c7 hf
        refine lv_iload hx hb dX7_isMinusAtOdd_103 (lv_at hl 3 rfl) ?_
        obtain ⟨c8, hf⟩ := spy hf
        subst hQ
        exact pe_z C c8 hf dX7_isMinusAtOdd_105
      · have hf := sp1 c7 hf
        refine lv_iload hx hb dX7_isMinusAtOdd_91 (lv_at hl 3 rfl) ?_
        refine lv_if_ne (tgt := 100) hx hb dX7_isMinusAtOdd_93 (by decide) (fun c9 => ?_) (fun c9 => ?_)
        · have hf := sp0 c9 hf
          refine lv_iconst (v := 0) hx hb dX7_isMinusAtOdd_100 (by decide) ?_
          refine lv_istore (lv' := [(5, .int 0), (1, .int x1), (2, .int x2), (3, .int x3)]) hx hb dX7_isMinusAtOdd_101 hl (by decide) rfl (fun ls hl => ?_)
          refine lv_iload hx hb dX7_isMinusAtOdd_103 (lv_at hl 0 rfl) ?_
          subst hQ
          exact pe_z C (by decide) hf dX7_isMinusAtOdd_105
        · have hf := sp1 c9 hf
          refine lv_iconst (v := 1) hx hb dX7_isMinusAtOdd_96 (by decide) ?_
          refine lv_goto (tgt := 101) hx hb dX7_isMinusAtOdd_97 (by decide) ?_
          refine lv_istore (lv' := [(5, .int 1), (1, .int x1), (2, .int x2), (3, .int x3)]) hx hb dX7_isMinusAtOdd_101 hl (by decide) rfl (fun ls hl => ?_)
          refine lv_iload hx hb dX7_isMinusAtOdd_103 (lv_at hl 0 rfl) ?_
          subst hQ
          exact pe_z C (by decide) hf dX7_isMinusAtOdd_105
  have w_36 : ∀ (x0 : Int32) (x1 : Int32) (x2 : Int32) (x3 : Int32) (x4 : Int32) (y0 : Int32) (ls : Array Slot), lv_has ls 6 [(0, .int x0), (1, .int x1), (2, .int x2), (3, .int x3), (4, .int x4)] → n_X7_isMinusAtOdd_36 x0 x1 x2 x3 x4 y0 = some r → W p l e rm_X7_isMinusAtOdd s m args below meth c s.heap [] 0 0 Q (F0 m 36 ls [.int y0]) := by
    intro x0 x1 x2 x3 x4 y0 ls hl hf
    refine lv_istore (lv' := [(5, .int y0), (0, .int x0), (1, .int x1), (2, .int x2), (3, .int x3), (4, .int x4)]) hx hb dX7_isMinusAtOdd_36 hl (by decide) rfl (fun ls hl => ?_)
    refine lv_iload hx hb dX7_isMinusAtOdd_38 (lv_at hl 5 rfl) ?_
    refine lv_iconst (v := 1) hx hb dX7_isMinusAtOdd_40 (by decide) ?_
    refine lv_iand hx hb dX7_isMinusAtOdd_41 ?_
    refine lv_iconst (v := 1) hx hb dX7_isMinusAtOdd_42 (by decide) ?_
    refine lv_icmp_ne (tgt := 71) hx hb dX7_isMinusAtOdd_43 (by decide) (fun c10 => ?_) (fun c10 => ?_)
    · have hf := sp0 c10 hf
      exact w_71 x1 x2 x3 y0 _ (lv_sub hl [2, 3, 4, 0] rfl) hf
    · have hf := sp1 c10 hf
      refine lv_iload_n hx hb dX7_isMinusAtOdd_46 rfl (lv_at hl 1 rfl) ?_
      refine lv_i2l hx hb dX7_isMinusAtOdd_47 rfl ?_
      refine lv_iload_n hx hb dX7_isMinusAtOdd_48 rfl (lv_at hl 3 rfl) ?_
      obtain ⟨v11, h12, hf⟩ := b1_some hf
      refine pc_S (As := [.long (Int32.toInt64 x0), .int x2]) (rest := []) C (c_X8_withoutFactors l (Int32.toInt64 x0) x2 v11 h12) hl.1 cp_X8_withoutFactors mw_5_35 ⟨rfl, rfl⟩ ⟨Nat.le_of_ble_eq_true rfl, Nat.le_of_ble_eq_true rfl⟩ rfl rfl (Nat.le_of_ble_eq_true rfl) dX7_isMinusAtOdd_49 ⟨Nat.le_of_ble_eq_true rfl, Nat.le_of_ble_eq_true rfl⟩ ?_
      refine lv_iload_n hx hb dX7_isMinusAtOdd_52 rfl (lv_at hl 3 rfl) ?_
      obtain ⟨v13, h14, hf⟩ := b1_some hf
      refine pc_S (As := [.long v11, .int x2]) (rest := []) C (c_X7_isSquareModulo l v11 x2 v13 h14) hl.1 cp_X7_isSquareModulo mw_5_41 ⟨rfl, rfl⟩ ⟨Nat.le_of_ble_eq_true rfl, Nat.le_of_ble_eq_true rfl⟩ rfl rfl (Nat.le_of_ble_eq_true rfl) dX7_isMinusAtOdd_53 ⟨Nat.le_of_ble_eq_true rfl, Nat.le_of_ble_eq_true rfl⟩ ?_
      refine lv_if_ne (tgt := 71) hx hb dX7_isMinusAtOdd_56 (by decide) (fun c15 => ?_) (fun c15 => ?_)
      · have hf := sp0 c15 hf
        exact w_71 x1 x2 x3 y0 _ (lv_sub hl [2, 3, 4, 0] rfl) hf
      · have hf := sp1 c15 hf
        refine lv_iload hx hb dX7_isMinusAtOdd_59 (lv_at hl 0 rfl) ?_
        refine lv_if_ne (tgt := 68) hx hb dX7_isMinusAtOdd_61 (by decide) (fun c16 => ?_) (fun c16 => ?_)
        · have hf := sp0 c16 hf
          refine lv_iconst (v := 0) hx hb dX7_isMinusAtOdd_68 (by decide) ?_
          refine lv_istore (lv' := [(5, .int 0), (0, .int x0), (1, .int x1), (2, .int x2), (3, .int x3), (4, .int x4)]) hx hb dX7_isMinusAtOdd_69 hl (by decide) rfl (fun ls hl => ?_)
          exact w_71 x1 x2 x3 0 _ (lv_sub hl [2, 3, 4, 0] rfl) hf
        · have hf := sp1 c16 hf
          refine lv_iconst (v := 1) hx hb dX7_isMinusAtOdd_64 (by decide) ?_
          refine lv_goto (tgt := 69) hx hb dX7_isMinusAtOdd_65 (by decide) ?_
          refine lv_istore (lv' := [(5, .int 1), (0, .int x0), (1, .int x1), (2, .int x2), (3, .int x3), (4, .int x4)]) hx hb dX7_isMinusAtOdd_69 hl (by decide) rfl (fun ls hl => ?_)
          exact w_71 x1 x2 x3 1 _ (lv_sub hl [2, 3, 4, 0] rfl) hf
  refine lv_iload_n hx hb dX7_isMinusAtOdd_0 rfl (lv_at hl 0 rfl) ?_
  refine lv_i2l hx hb dX7_isMinusAtOdd_1 rfl ?_
  refine lv_iload_n hx hb dX7_isMinusAtOdd_2 rfl (lv_at hl 2 rfl) ?_
  obtain ⟨v17, h18, hf⟩ := b1_some hf
  refine pc_S (As := [.long (Int32.toInt64 p0), .int p2]) (rest := []) C (c_X8_factorCount l (Int32.toInt64 p0) p2 v17 h18) hl.1 cp_X8_factorCount mw_5_34 ⟨rfl, rfl⟩ ⟨Nat.le_of_ble_eq_true rfl, Nat.le_of_ble_eq_true rfl⟩ rfl rfl (Nat.le_of_ble_eq_true rfl) dX7_isMinusAtOdd_3 ⟨Nat.le_of_ble_eq_true rfl, Nat.le_of_ble_eq_true rfl⟩ ?_
  refine lv_istore_n (lv' := [(3, .int v17), (0, .int p0), (1, .int p1), (2, .int p2)]) hx hb dX7_isMinusAtOdd_6 rfl hl (by decide) rfl (fun ls hl => ?_)
  refine lv_iload_n hx hb dX7_isMinusAtOdd_7 rfl (lv_at hl 2 rfl) ?_
  refine lv_i2l hx hb dX7_isMinusAtOdd_8 rfl ?_
  refine lv_iload_n hx hb dX7_isMinusAtOdd_9 rfl (lv_at hl 3 rfl) ?_
  obtain ⟨v19, h20, hf⟩ := b1_some hf
  refine pc_S (As := [.long (Int32.toInt64 p1), .int p2]) (rest := []) C (c_X8_factorCount l (Int32.toInt64 p1) p2 v19 h20) hl.1 cp_X8_factorCount mw_5_34 ⟨rfl, rfl⟩ ⟨Nat.le_of_ble_eq_true rfl, Nat.le_of_ble_eq_true rfl⟩ rfl rfl (Nat.le_of_ble_eq_true rfl) dX7_isMinusAtOdd_10 ⟨Nat.le_of_ble_eq_true rfl, Nat.le_of_ble_eq_true rfl⟩ ?_
  refine lv_istore (lv' := [(4, .int v19), (3, .int v17), (0, .int p0), (1, .int p1), (2, .int p2)]) hx hb dX7_isMinusAtOdd_13 hl (by decide) rfl (fun ls hl => ?_)
  refine lv_iload_n hx hb dX7_isMinusAtOdd_15 rfl (lv_at hl 1 rfl) ?_
  refine lv_iload hx hb dX7_isMinusAtOdd_16 (lv_at hl 0 rfl) ?_
  refine lv_iand hx hb dX7_isMinusAtOdd_18 ?_
  refine lv_iload_n hx hb dX7_isMinusAtOdd_19 rfl (lv_at hl 4 rfl) ?_
  refine lv_iconst (v := 1) hx hb dX7_isMinusAtOdd_20 (by decide) ?_
  refine lv_isub hx hb dX7_isMinusAtOdd_21 ?_
  refine lv_iconst (v := 2) hx hb dX7_isMinusAtOdd_22 (by decide) ?_
  refine lv_idiv hx hb dX7_isMinusAtOdd_23 (by decide) ?_
  refine lv_iand hx hb dX7_isMinusAtOdd_24 ?_
  refine lv_iconst (v := 1) hx hb dX7_isMinusAtOdd_25 (by decide) ?_
  refine lv_iand hx hb dX7_isMinusAtOdd_26 ?_
  refine lv_iconst (v := 1) hx hb dX7_isMinusAtOdd_27 (by decide) ?_
  refine lv_icmp_ne (tgt := 35) hx hb dX7_isMinusAtOdd_28 (by decide) (fun c21 => ?_) (fun c21 => ?_)
  · have hf := sp0 c21 hf
    refine lv_iconst (v := 0) hx hb dX7_isMinusAtOdd_35 (by decide) ?_
    exact w_36 p0 p1 p2 v17 v19 0 _ (lv_sub hl [2, 3, 4, 1, 0] rfl) hf
  · have hf := sp1 c21 hf
    refine lv_iconst (v := 1) hx hb dX7_isMinusAtOdd_31 (by decide) ?_
    refine lv_goto (tgt := 36) hx hb dX7_isMinusAtOdd_32 (by decide) ?_
    exact w_36 p0 p1 p2 v17 v19 1 _ (lv_sub hl [2, 3, 4, 1, 0] rfl) hf
theorem cp_X7_isMinusAtOdd : CPs yX7_isMinusAtOdd cX7_isMinusAtOdd 6 (some .boolean) 3 := ⟨mw_5_40, mw_1_23, mw_5_39, by decide +kernel⟩
def rm_X7_signAt : Room := { frames := 5, cells := 0, slots := 0, locals := 148 }
set_option maxHeartbeats 4000000 in
set_option maxRecDepth 100000 in
theorem c_X7_signAt (l : Launch) (p0 : Int32) (p1 : Int32) (p2 : Int32) (r : Int32) (hf : f_X7_signAt p0 p1 p2 = some r) : MetP l yX7_signAt cX7_signAt 4 (some .int) rm_X7_signAt [.int p0, .int p1, .int p2] (some (.int r)) := by
  refine MetP.of RX7 (by decide) rfl (Nat.le_of_ble_eq_true rfl) ?_
  intro p e s m args below meth c C ls hl
  have hl : lv_has ls 4 [(0, .int p0), (1, .int p1), (2, .int p2)] := hl
  obtain ⟨hx, hb, hr, hml, hown, htL, hlocks⟩ := id C
  generalize hQ : MQ below (Pq (some (.int r))) args s 0 0 (fun _ => False) = Q
  have w_37 : ∀ (y0 : Int32) (ls : Array Slot), lv_has ls 4 [] → n_X7_signAt_37 y0 = some r → W p l e rm_X7_signAt s m args below meth c s.heap [] 0 0 Q (F0 m 37 ls [.int y0]) := by
    intro y0 ls hl hf
    refine lv_istore_n (lv' := [(3, .int y0)]) hx hb dX7_signAt_37 rfl hl (by decide) rfl (fun ls hl => ?_)
    refine lv_iload_n hx hb dX7_signAt_38 rfl (lv_at hl 0 rfl) ?_
    refine lv_if_eq (tgt := 46) hx hb dX7_signAt_39 (by decide) (fun c1 => ?_) (fun c1 => ?_)
    · have hf := sp1 c1 hf
      refine lv_iconst (v := 1) hx hb dX7_signAt_46 (by decide) ?_
      subst hQ
      exact pe_i C hf dX7_signAt_47
    · have hf := sp0 c1 hf
      refine lv_iconst (v := (-1)) hx hb dX7_signAt_42 (by decide) ?_
      refine lv_goto (tgt := 47) hx hb dX7_signAt_43 (by decide) ?_
      subst hQ
      exact pe_i C hf dX7_signAt_47
  refine lv_iload_n hx hb dX7_signAt_0 rfl (lv_at hl 2 rfl) ?_
  refine lv_if_ne (tgt := 18) hx hb dX7_signAt_1 (by decide) (fun c2 => ?_) (fun c2 => ?_)
  · have hf := sp0 c2 hf
    refine lv_iload_n hx hb dX7_signAt_18 rfl (lv_at hl 2 rfl) ?_
    refine lv_iconst (v := 2) hx hb dX7_signAt_19 (by decide) ?_
    refine lv_icmp_ne (tgt := 31) hx hb dX7_signAt_20 (by decide) (fun c3 => ?_) (fun c3 => ?_)
    · have hf := sp0 c3 hf
      refine lv_iload_n hx hb dX7_signAt_31 rfl (lv_at hl 0 rfl) ?_
      refine lv_iload_n hx hb dX7_signAt_32 rfl (lv_at hl 1 rfl) ?_
      refine lv_iload_n hx hb dX7_signAt_33 rfl (lv_at hl 2 rfl) ?_
      obtain ⟨v4, h5, hf⟩ := b1_some hf
      refine pc_S (As := [.int p0, .int p1, .int p2]) (rest := []) C (c_X7_isMinusAtOdd l p0 p1 p2 v4 h5) hl.1 cp_X7_isMinusAtOdd mw_5_38 ⟨rfl, rfl⟩ ⟨Nat.le_of_ble_eq_true rfl, Nat.le_of_ble_eq_true rfl⟩ rfl rfl (Nat.le_of_ble_eq_true rfl) dX7_signAt_34 ⟨Nat.le_of_ble_eq_true rfl, Nat.le_of_ble_eq_true rfl⟩ ?_
      exact w_37 v4 _ (lv_sub hl [] rfl) hf
    · have hf := sp1 c3 hf
      refine lv_iload_n hx hb dX7_signAt_23 rfl (lv_at hl 0 rfl) ?_
      refine lv_iload_n hx hb dX7_signAt_24 rfl (lv_at hl 1 rfl) ?_
      obtain ⟨v6, h7, hf⟩ := b1_some hf
      refine pc_S (As := [.int p0, .int p1]) (rest := []) C (c_X7_isMinusAtTwo l p0 p1 v6 h7) hl.1 cp_X7_isMinusAtTwo mw_5_31 ⟨rfl, rfl⟩ ⟨Nat.le_of_ble_eq_true rfl, Nat.le_of_ble_eq_true rfl⟩ rfl rfl (Nat.le_of_ble_eq_true rfl) dX7_signAt_25 ⟨Nat.le_of_ble_eq_true rfl, Nat.le_of_ble_eq_true rfl⟩ ?_
      refine lv_goto (tgt := 37) hx hb dX7_signAt_28 (by decide) ?_
      exact w_37 v6 _ (lv_sub hl [] rfl) hf
  · have hf := sp1 c2 hf
    refine lv_iload_n hx hb dX7_signAt_4 rfl (lv_at hl 0 rfl) ?_
    refine lv_if_ge (tgt := 16) hx hb dX7_signAt_5 (by decide) (fun c8 => ?_) (fun c8 => ?_)
    · have hf := sp1 c8 hf
      refine lv_iconst (v := 1) hx hb dX7_signAt_16 (by decide) ?_
      subst hQ
      exact pe_i C hf dX7_signAt_17
    · have hf := sp0 c8 hf
      refine lv_iload_n hx hb dX7_signAt_8 rfl (lv_at hl 1 rfl) ?_
      refine lv_if_ge (tgt := 16) hx hb dX7_signAt_9 (by decide) (fun c9 => ?_) (fun c9 => ?_)
      · have hf := sp1 c9 hf
        refine lv_iconst (v := 1) hx hb dX7_signAt_16 (by decide) ?_
        subst hQ
        exact pe_i C hf dX7_signAt_17
      · have hf := sp0 c9 hf
        refine lv_iconst (v := (-1)) hx hb dX7_signAt_12 (by decide) ?_
        refine lv_goto (tgt := 17) hx hb dX7_signAt_13 (by decide) ?_
        subst hQ
        exact pe_i C hf dX7_signAt_17
theorem cp_X7_signAt : CPs yX7_signAt cX7_signAt 4 (some .int) 3 := ⟨mw_5_30, mw_1_23, mw_5_29, by decide +kernel⟩
def rm_X8_isPrime : Room := { frames := 1, cells := 0, slots := 0, locals := 29 }
set_option maxHeartbeats 4000000 in
set_option maxRecDepth 100000 in
theorem c_X8_isPrime (l : Launch) (p0 : Int32) (r : Int32) (hf : f_X8_isPrime p0 = some r) : MetP l yX8_isPrime cX8_isPrime 2 (some .boolean) rm_X8_isPrime [.int p0] (some (.int r)) := by
  refine MetP.of RX8 (by decide) rfl (Nat.le_of_ble_eq_true rfl) ?_
  intro p e s m args below meth c C ls hl
  have hl : lv_has ls 2 [(0, .int p0)] := hl
  obtain ⟨hx, hb, hr, hml, hown, htL, hlocks⟩ := id C
  generalize hQ : MQ below (Pq (some (.int r))) args s 0 0 (fun _ => False) = Q
  have w_9 : ∀ (x0 : Int32) (x1 : Int32) (ls : Array Slot), lv_has ls 2 [(0, .int x0), (1, .int x1)] → n_X8_isPrime_9 x0 x1 = some r → W p l e rm_X8_isPrime s m args below meth c s.heap [] 0 0 Q (F0 m 9 ls []) := by
    skip
    have aux : ∀ (n : Nat) (x0 : Int32) (x1 : Int32) (ls : Array Slot), lv_has ls 2 [(0, .int x0), (1, .int x1)] → itr (fun (q : Int32 × Int32) k => s_X8_isPrime_9  (fun (x0 : Int32) (x1 : Int32) => k (x0, x1)) q.1 q.2) n (x0, x1) = some r → W p l e rm_X8_isPrime s m args below meth c s.heap [] 0 0 Q (F0 m 9 ls []) := by
      intro n
      induction n with
      | zero => intro x0 x1 ls hl hf; exact (itr_z hf).elim
      | succ n ih =>
      intro x0 x1 ls hl hf
      have hk_9 := ih
      have hf : s_X8_isPrime_9  (fun (x0 : Int32) (x1 : Int32) => itr (fun (q : Int32 × Int32) k => s_X8_isPrime_9  (fun (x0 : Int32) (x1 : Int32) => k (x0, x1)) q.1 q.2) n (x0, x1)) x0 x1 = some r := hf
      refine lv_iload_n hx hb dX8_isPrime_9 rfl (lv_at hl 1 rfl) ?_
      refine lv_i2l hx hb dX8_isPrime_10 rfl ?_
      refine lv_iload_n hx hb dX8_isPrime_11 rfl (lv_at hl 1 rfl) ?_
      refine lv_i2l hx hb dX8_isPrime_12 rfl ?_
      refine lv_lmul hx hb dX8_isPrime_13 ?_
      refine lv_iload_n hx hb dX8_isPrime_14 rfl (lv_at hl 0 rfl) ?_
      refine lv_i2l hx hb dX8_isPrime_15 rfl ?_
      refine W.lcmp hx hb dX8_isPrime_16 ?_
      refine lv_if_gt (tgt := 40) hx hb dX8_isPrime_17 (by decide) (fun c1 => ?_) (fun c1 => ?_)
      · have hf := sp1 c1 hf
        refine lv_iconst (v := 1) hx hb dX8_isPrime_40 (by decide) ?_
        subst hQ
        exact pe_z C (by decide) hf dX8_isPrime_41
      · have hf := sp0 c1 hf
        refine lv_iload_n hx hb dX8_isPrime_20 rfl (lv_at hl 0 rfl) ?_
        refine lv_i2l hx hb dX8_isPrime_21 rfl ?_
        refine lv_iload_n hx hb dX8_isPrime_22 rfl (lv_at hl 1 rfl) ?_
        refine lv_i2l hx hb dX8_isPrime_23 rfl ?_
        obtain ⟨v2, h3, hf⟩ := b1_some hf
        refine pc_S (As := [.long (Int32.toInt64 x0), .long (Int32.toInt64 x1)]) (rest := []) C (c_X8_rest l (Int32.toInt64 x0) (Int32.toInt64 x1) v2 h3) hl.1 cp_X8_rest mw_2_75 ⟨rfl, rfl⟩ ⟨Nat.le_of_ble_eq_true rfl, Nat.le_of_ble_eq_true rfl⟩ rfl rfl (Nat.le_of_ble_eq_true rfl) dX8_isPrime_24 ⟨Nat.le_of_ble_eq_true rfl, Nat.le_of_ble_eq_true rfl⟩ ?_
        refine lv_lconst (v := 0) hx hb dX8_isPrime_27 (by decide) ?_
        refine W.lcmp hx hb dX8_isPrime_28 ?_
        refine lv_if_ne (tgt := 34) hx hb dX8_isPrime_29 (by decide) (fun c4 => ?_) (fun c4 => ?_)
        · have hf := sp0 c4 hf
          refine lv_iinc (v := (x1 + 1)) (lv' := [(1, .int (x1 + 1)), (0, .int x0)]) hx hb dX8_isPrime_34 hl (k := 1) rfl rfl (by decide) rfl (fun ls hl => ?_)
          refine lv_goto (tgt := 9) hx hb dX8_isPrime_37 (by decide) ?_
          exact hk_9 x0 (x1 + 1) _ (lv_sub hl [1, 0] rfl) hf
        · have hf := sp1 c4 hf
          refine lv_iconst (v := 0) hx hb dX8_isPrime_32 (by decide) ?_
          subst hQ
          exact pe_z C (by decide) hf dX8_isPrime_33
    exact aux FU
  refine lv_iload_n hx hb dX8_isPrime_0 rfl (lv_at hl 0 rfl) ?_
  refine lv_iconst (v := 2) hx hb dX8_isPrime_1 (by decide) ?_
  refine lv_icmp_ge (tgt := 7) hx hb dX8_isPrime_2 (by decide) (fun c5 => ?_) (fun c5 => ?_)
  · have hf := sp1 c5 hf
    refine lv_iconst (v := 2) hx hb dX8_isPrime_7 (by decide) ?_
    refine lv_istore_n (lv' := [(1, .int 2), (0, .int p0)]) hx hb dX8_isPrime_8 rfl hl (by decide) rfl (fun ls hl => ?_)
    exact w_9 p0 2 _ (lv_sub hl [1, 0] rfl) hf
  · have hf := sp0 c5 hf
    refine lv_iconst (v := 0) hx hb dX8_isPrime_5 (by decide) ?_
    subst hQ
    exact pe_z C (by decide) hf dX8_isPrime_6
theorem cp_X8_isPrime : CPs yX8_isPrime cX8_isPrime 2 (some .boolean) 1 := ⟨mw_2_146, mw_1_10, mw_2_145, by decide +kernel⟩
def rm_X7_firstMinus : Room := { frames := 6, cells := 0, slots := 0, locals := 175 }
set_option maxHeartbeats 4000000 in
set_option maxRecDepth 100000 in
theorem c_X7_firstMinus (l : Launch) (p0 : Int32) (p1 : Int32) (p2 : Int32) (r : Int32) (hf : f_X7_firstMinus p0 p1 p2 = some r) : MetP l yX7_firstMinus cX7_firstMinus 5 (some .int) rm_X7_firstMinus [.int p0, .int p1, .int p2] (some (.int r)) := by
  refine MetP.of RX7 (by decide) rfl (Nat.le_of_ble_eq_true rfl) ?_
  intro p e s m args below meth c C ls hl
  have hl : lv_has ls 5 [(0, .int p0), (1, .int p1), (2, .int p2)] := hl
  obtain ⟨hx, hb, hr, hml, hown, htL, hlocks⟩ := id C
  generalize hQ : MQ below (Pq (some (.int r))) args s 0 0 (fun _ => False) = Q
  have w_63 : ∀ (k_2 : Int32 → Int32 → Int32 → Int32 → Option Int32) (hk_2 : ∀ (x0 : Int32) (x1 : Int32) (x2 : Int32) (x3 : Int32) (ls : Array Slot), lv_has ls 5 [(0, .int x0), (1, .int x1), (2, .int x2), (3, .int x3)] → k_2 x0 x1 x2 x3 = some r → W p l e rm_X7_firstMinus s m args below meth c s.heap [] 0 0 Q (F0 m 2 ls [])) (x0 : Int32) (x1 : Int32) (x2 : Int32) (x3 : Int32) (ls : Array Slot), lv_has ls 5 [(0, .int x0), (1, .int x1), (2, .int x2), (3, .int x3)] → n_X7_firstMinus_63 k_2 x0 x1 x2 x3 = some r → W p l e rm_X7_firstMinus s m args below meth c s.heap [] 0 0 Q (F0 m 63 ls []) := by
    intro k_2 hk_2 x0 x1 x2 x3 ls hl hf
    refine lv_iload_n hx hb dX7_firstMinus_63 rfl (lv_at hl 0 rfl) ?_
    refine lv_iload_n hx hb dX7_firstMinus_64 rfl (lv_at hl 1 rfl) ?_
    refine lv_iload_n hx hb dX7_firstMinus_65 rfl (lv_at hl 3 rfl) ?_
    obtain ⟨v1, h2, hf⟩ := b1_some hf
    refine pc_S (As := [.int x0, .int x1, .int x3]) (rest := []) C (c_X7_signAt l x0 x1 x3 v1 h2) hl.1 cp_X7_signAt mw_5_57 ⟨rfl, rfl⟩ ⟨Nat.le_of_ble_eq_true rfl, Nat.le_of_ble_eq_true rfl⟩ rfl rfl (Nat.le_of_ble_eq_true rfl) dX7_firstMinus_66 ⟨Nat.le_of_ble_eq_true rfl, Nat.le_of_ble_eq_true rfl⟩ ?_
    refine lv_iconst (v := (-1)) hx hb dX7_firstMinus_69 (by decide) ?_
    refine lv_icmp_ne (tgt := 75) hx hb dX7_firstMinus_70 (by decide) (fun c3 => ?_) (fun c3 => ?_)
    · have hf := sp0 c3 hf
      refine lv_iinc (v := (x3 + 1)) (lv' := [(3, .int (x3 + 1)), (0, .int x0), (1, .int x1), (2, .int x2)]) hx hb dX7_firstMinus_75 hl (k := 3) rfl rfl (by decide) rfl (fun ls hl => ?_)
      refine lv_goto (tgt := 2) hx hb dX7_firstMinus_78 (by decide) ?_
      exact hk_2 x0 x1 x2 (x3 + 1) _ (lv_sub hl [1, 2, 3, 0] rfl) hf
    · have hf := sp1 c3 hf
      refine lv_iload_n hx hb dX7_firstMinus_73 rfl (lv_at hl 3 rfl) ?_
      subst hQ
      exact pe_i C hf dX7_firstMinus_74
  have w_45 : ∀ (k_2 : Int32 → Int32 → Int32 → Int32 → Option Int32) (hk_2 : ∀ (x0 : Int32) (x1 : Int32) (x2 : Int32) (x3 : Int32) (ls : Array Slot), lv_has ls 5 [(0, .int x0), (1, .int x1), (2, .int x2), (3, .int x3)] → k_2 x0 x1 x2 x3 = some r → W p l e rm_X7_firstMinus s m args below meth c s.heap [] 0 0 Q (F0 m 2 ls [])) (x0 : Int32) (x1 : Int32) (x2 : Int32) (x3 : Int32) (y0 : Int32) (ls : Array Slot), lv_has ls 5 [(0, .int x0), (1, .int x1), (2, .int x2), (3, .int x3)] → n_X7_firstMinus_45 k_2 x0 x1 x2 x3 y0 = some r → W p l e rm_X7_firstMinus s m args below meth c s.heap [] 0 0 Q (F0 m 45 ls [.int y0]) := by
    intro k_2 hk_2 x0 x1 x2 x3 y0 ls hl hf
    refine lv_istore (lv' := [(4, .int y0), (0, .int x0), (1, .int x1), (2, .int x2), (3, .int x3)]) hx hb dX7_firstMinus_45 hl (by decide) rfl (fun ls hl => ?_)
    refine lv_iload hx hb dX7_firstMinus_47 (lv_at hl 0 rfl) ?_
    refine lv_if_eq (tgt := 75) hx hb dX7_firstMinus_49 (by decide) (fun c4 => ?_) (fun c4 => ?_)
    · have hf := sp1 c4 hf
      refine lv_iinc (v := (x3 + 1)) (lv' := [(3, .int (x3 + 1)), (4, .int y0), (0, .int x0), (1, .int x1), (2, .int x2)]) hx hb dX7_firstMinus_75 hl (k := 4) rfl rfl (by decide) rfl (fun ls hl => ?_)
      refine lv_goto (tgt := 2) hx hb dX7_firstMinus_78 (by decide) ?_
      exact hk_2 x0 x1 x2 (x3 + 1) _ (lv_sub hl [2, 3, 4, 0] rfl) hf
    · have hf := sp0 c4 hf
      refine lv_iload_n hx hb dX7_firstMinus_52 rfl (lv_at hl 4 rfl) ?_
      refine lv_if_eq (tgt := 63) hx hb dX7_firstMinus_53 (by decide) (fun c5 => ?_) (fun c5 => ?_)
      · have hf := sp1 c5 hf
        exact w_63 _ hk_2 x0 x1 x2 x3 _ (lv_sub hl [1, 2, 3, 4] rfl) hf
      · have hf := sp0 c5 hf
        refine lv_iload_n hx hb dX7_firstMinus_56 rfl (lv_at hl 4 rfl) ?_
        obtain ⟨v6, h7, hf⟩ := b1_some hf
        refine pc_S (As := [.int x3]) (rest := []) C (c_X8_isPrime l x3 v6 h7) hl.1 cp_X8_isPrime mw_5_56 ⟨rfl, rfl⟩ ⟨Nat.le_of_ble_eq_true rfl, Nat.le_of_ble_eq_true rfl⟩ rfl rfl (Nat.le_of_ble_eq_true rfl) dX7_firstMinus_57 ⟨Nat.le_of_ble_eq_true rfl, Nat.le_of_ble_eq_true rfl⟩ ?_
        refine lv_if_eq (tgt := 75) hx hb dX7_firstMinus_60 (by decide) (fun c8 => ?_) (fun c8 => ?_)
        · have hf := sp1 c8 hf
          refine lv_iinc (v := (x3 + 1)) (lv' := [(3, .int (x3 + 1)), (4, .int y0), (0, .int x0), (1, .int x1), (2, .int x2)]) hx hb dX7_firstMinus_75 hl (k := 4) rfl rfl (by decide) rfl (fun ls hl => ?_)
          refine lv_goto (tgt := 2) hx hb dX7_firstMinus_78 (by decide) ?_
          exact hk_2 x0 x1 x2 (x3 + 1) _ (lv_sub hl [2, 3, 4, 0] rfl) hf
        · have hf := sp0 c8 hf
          exact w_63 _ hk_2 x0 x1 x2 x3 _ (lv_sub hl [1, 2, 3, 4] rfl) hf
  have w_2 : ∀ (x0 : Int32) (x1 : Int32) (x2 : Int32) (x3 : Int32) (ls : Array Slot), lv_has ls 5 [(0, .int x0), (1, .int x1), (2, .int x2), (3, .int x3)] → n_X7_firstMinus_2 x0 x1 x2 x3 = some r → W p l e rm_X7_firstMinus s m args below meth c s.heap [] 0 0 Q (F0 m 2 ls []) := by
    skip
    have aux : ∀ (n : Nat) (x0 : Int32) (x1 : Int32) (x2 : Int32) (x3 : Int32) (ls : Array Slot), lv_has ls 5 [(0, .int x0), (1, .int x1), (2, .int x2), (3, .int x3)] → itr (fun (q : Int32 × Int32 × Int32 × Int32) k => s_X7_firstMinus_2  (fun (x0 : Int32) (x1 : Int32) (x2 : Int32) (x3 : Int32) => k (x0, x1, x2, x3)) q.1 q.2.1 q.2.2.1 q.2.2.2) n (x0, x1, x2, x3) = some r → W p l e rm_X7_firstMinus s m args below meth c s.heap [] 0 0 Q (F0 m 2 ls []) := by
      intro n
      induction n with
      | zero => intro x0 x1 x2 x3 ls hl hf; exact (itr_z hf).elim
      | succ n ih =>
      intro x0 x1 x2 x3 ls hl hf
      have hk_2 := ih
      have hf : s_X7_firstMinus_2  (fun (x0 : Int32) (x1 : Int32) (x2 : Int32) (x3 : Int32) => itr (fun (q : Int32 × Int32 × Int32 × Int32) k => s_X7_firstMinus_2  (fun (x0 : Int32) (x1 : Int32) (x2 : Int32) (x3 : Int32) => k (x0, x1, x2, x3)) q.1 q.2.1 q.2.2.1 q.2.2.2) n (x0, x1, x2, x3)) x0 x1 x2 x3 = some r := hf
      refine lv_iload_n hx hb dX7_firstMinus_2 rfl (lv_at hl 3 rfl) ?_
      refine lv_iload_n hx hb dX7_firstMinus_3 rfl (lv_at hl 2 rfl) ?_
      refine lv_icmp_gt (tgt := 81) hx hb dX7_firstMinus_4 (by decide) (fun c9 => ?_) (fun c9 => ?_)
      · have hf := sp1 c9 hf
        refine lv_iconst (v := (-1)) hx hb dX7_firstMinus_81 (by decide) ?_
        subst hQ
        exact pe_i C hf dX7_firstMinus_82
      · have hf := sp0 c9 hf
        refine lv_iload_n hx hb dX7_firstMinus_7 rfl (lv_at hl 3 rfl) ?_
        refine lv_if_eq (tgt := 40) hx hb dX7_firstMinus_8 (by decide) (fun c10 => ?_) (fun c10 => ?_)
        · have hf := sp1 c10 hf
          refine lv_iconst (v := 1) hx hb dX7_firstMinus_40 (by decide) ?_
          refine lv_goto (tgt := 45) hx hb dX7_firstMinus_41 (by decide) ?_
          exact w_45 _ hk_2 x0 x1 x2 x3 1 _ (lv_sub hl [0, 1, 2, 3] rfl) hf
        · have hf := sp0 c10 hf
          refine lv_iload_n hx hb dX7_firstMinus_11 rfl (lv_at hl 3 rfl) ?_
          refine lv_iconst (v := 2) hx hb dX7_firstMinus_12 (by decide) ?_
          refine lv_icmp_eq (tgt := 40) hx hb dX7_firstMinus_13 (by decide) (fun c11 => ?_) (fun c11 => ?_)
          · have hf := sp1 c11 hf
            refine lv_iconst (v := 1) hx hb dX7_firstMinus_40 (by decide) ?_
            refine lv_goto (tgt := 45) hx hb dX7_firstMinus_41 (by decide) ?_
            exact w_45 _ hk_2 x0 x1 x2 x3 1 _ (lv_sub hl [0, 1, 2, 3] rfl) hf
          · have hf := sp0 c11 hf
            refine lv_iload_n hx hb dX7_firstMinus_16 rfl (lv_at hl 0 rfl) ?_
            refine lv_i2l hx hb dX7_firstMinus_17 rfl ?_
            refine lv_iload_n hx hb dX7_firstMinus_18 rfl (lv_at hl 3 rfl) ?_
            refine lv_i2l hx hb dX7_firstMinus_19 rfl ?_
            obtain ⟨v12, h13, hf⟩ := b1_some hf
            refine pc_S (As := [.long (Int32.toInt64 x0), .long (Int32.toInt64 x3)]) (rest := []) C (c_X8_rest l (Int32.toInt64 x0) (Int32.toInt64 x3) v12 h13) hl.1 cp_X8_rest mw_5_55 ⟨rfl, rfl⟩ ⟨Nat.le_of_ble_eq_true rfl, Nat.le_of_ble_eq_true rfl⟩ rfl rfl (Nat.le_of_ble_eq_true rfl) dX7_firstMinus_20 ⟨Nat.le_of_ble_eq_true rfl, Nat.le_of_ble_eq_true rfl⟩ ?_
            refine lv_lconst (v := 0) hx hb dX7_firstMinus_23 (by decide) ?_
            refine W.lcmp hx hb dX7_firstMinus_24 ?_
            refine lv_if_eq (tgt := 40) hx hb dX7_firstMinus_25 (by decide) (fun c14 => ?_) (fun c14 => ?_)
            · have hf := sp1 c14 hf
              refine lv_iconst (v := 1) hx hb dX7_firstMinus_40 (by decide) ?_
              refine lv_goto (tgt := 45) hx hb dX7_firstMinus_41 (by decide) ?_
              exact w_45 _ hk_2 x0 x1 x2 x3 1 _ (lv_sub hl [0, 1, 2, 3] rfl) hf
            · have hf := sp0 c14 hf
              refine lv_iload_n hx hb dX7_firstMinus_28 rfl (lv_at hl 1 rfl) ?_
              refine lv_i2l hx hb dX7_firstMinus_29 rfl ?_
              refine lv_iload_n hx hb dX7_firstMinus_30 rfl (lv_at hl 3 rfl) ?_
              refine lv_i2l hx hb dX7_firstMinus_31 rfl ?_
              obtain ⟨v15, h16, hf⟩ := b1_some hf
              refine pc_S (As := [.long (Int32.toInt64 x1), .long (Int32.toInt64 x3)]) (rest := []) C (c_X8_rest l (Int32.toInt64 x1) (Int32.toInt64 x3) v15 h16) hl.1 cp_X8_rest mw_5_55 ⟨rfl, rfl⟩ ⟨Nat.le_of_ble_eq_true rfl, Nat.le_of_ble_eq_true rfl⟩ rfl rfl (Nat.le_of_ble_eq_true rfl) dX7_firstMinus_32 ⟨Nat.le_of_ble_eq_true rfl, Nat.le_of_ble_eq_true rfl⟩ ?_
              refine lv_lconst (v := 0) hx hb dX7_firstMinus_35 (by decide) ?_
              refine W.lcmp hx hb dX7_firstMinus_36 ?_
              refine lv_if_ne (tgt := 44) hx hb dX7_firstMinus_37 (by decide) (fun c17 => ?_) (fun c17 => ?_)
              · have hf := sp0 c17 hf
                refine lv_iconst (v := 0) hx hb dX7_firstMinus_44 (by decide) ?_
                exact w_45 _ hk_2 x0 x1 x2 x3 0 _ (lv_sub hl [0, 1, 2, 3] rfl) hf
              · have hf := sp1 c17 hf
                refine lv_iconst (v := 1) hx hb dX7_firstMinus_40 (by decide) ?_
                refine lv_goto (tgt := 45) hx hb dX7_firstMinus_41 (by decide) ?_
                exact w_45 _ hk_2 x0 x1 x2 x3 1 _ (lv_sub hl [0, 1, 2, 3] rfl) hf
    exact aux FU
  refine lv_iconst (v := 0) hx hb dX7_firstMinus_0 (by decide) ?_
  refine lv_istore_n (lv' := [(3, .int 0), (0, .int p0), (1, .int p1), (2, .int p2)]) hx hb dX7_firstMinus_1 rfl hl (by decide) rfl (fun ls hl => ?_)
  exact w_2 p0 p1 p2 0 _ (lv_sub hl [1, 2, 3, 0] rfl) hf
theorem cp_X7_firstMinus : CPs yX7_firstMinus cX7_firstMinus 5 (some .int) 3 := ⟨mw_5_54, mw_1_23, mw_5_53, by decide +kernel⟩
def rm_X10_isIn : Room := { frames := 0, cells := 0, slots := 0, locals := 0 }
set_option maxHeartbeats 4000000 in
set_option maxRecDepth 100000 in
theorem c_X10_isIn (l : Launch) (p0 : Int64) (p1 : Int64) (p2 : Int64) (r : Int32) (hf : f_X10_isIn p0 p1 p2 = some r) : MetP l yX10_isIn cX10_isIn 6 (some .boolean) rm_X10_isIn [.long p0, .long p1, .long p2] (some (.int r)) := by
  refine MetP.of RX10 (by decide) rfl (Nat.le_of_ble_eq_true rfl) ?_
  intro p e s m args below meth c C ls hl
  have hl : lv_has ls 6 [(0, .long p0), (2, .long p1), (4, .long p2)] := hl
  obtain ⟨hx, hb, hr, hml, hown, htL, hlocks⟩ := id C
  generalize hQ : MQ below (Pq (some (.int r))) args s 0 0 (fun _ => False) = Q
  refine lv_lload_n hx hb dX10_isIn_0 rfl (lv_at hl 0 rfl) ?_
  refine lv_lload_n hx hb dX10_isIn_1 rfl (lv_at hl 1 rfl) ?_
  refine W.lcmp hx hb dX10_isIn_2 ?_
  refine lv_if_lt (tgt := 17) hx hb dX10_isIn_3 (by decide) (fun c1 => ?_) (fun c1 => ?_)
  · have hf := sp1 c1 hf
    refine lv_iconst (v := 0) hx hb dX10_isIn_17 (by decide) ?_
    subst hQ
    exact pe_z C (by decide) hf dX10_isIn_18
  · have hf := sp0 c1 hf
    refine lv_lload_n hx hb dX10_isIn_6 rfl (lv_at hl 0 rfl) ?_
    refine lv_lload hx hb dX10_isIn_7 (lv_at hl 2 rfl) ?_
    refine W.lcmp hx hb dX10_isIn_9 ?_
    refine lv_if_gt (tgt := 17) hx hb dX10_isIn_10 (by decide) (fun c2 => ?_) (fun c2 => ?_)
    · have hf := sp1 c2 hf
      refine lv_iconst (v := 0) hx hb dX10_isIn_17 (by decide) ?_
      subst hQ
      exact pe_z C (by decide) hf dX10_isIn_18
    · have hf := sp0 c2 hf
      refine lv_iconst (v := 1) hx hb dX10_isIn_13 (by decide) ?_
      refine lv_goto (tgt := 18) hx hb dX10_isIn_14 (by decide) ?_
      subst hQ
      exact pe_z C (by decide) hf dX10_isIn_18
theorem cp_X10_isIn : CPs yX10_isIn cX10_isIn 6 (some .boolean) 3 := ⟨mw_6_17, mw_1_9, mw_6_16, by decide +kernel⟩
def rm_X10_whole : Room := { frames := 0, cells := 0, slots := 0, locals := 0 }
set_option maxHeartbeats 4000000 in
set_option maxRecDepth 100000 in
theorem c_X10_whole (l : Launch) (p0 : Int64) (p1 : Int64) (r : Int64) (hf : f_X10_whole p0 p1 = some r) : MetP l yX10_whole cX10_whole 6 (some .long) rm_X10_whole [.long p0, .long p1] (some (.long r)) := by
  refine MetP.of RX10 (by decide) rfl (Nat.le_of_ble_eq_true rfl) ?_
  intro p e s m args below meth c C ls hl
  have hl : lv_has ls 6 [(0, .long p0), (2, .long p1)] := hl
  obtain ⟨hx, hb, hr, hml, hown, htL, hlocks⟩ := id C
  generalize hQ : MQ below (Pq (some (.long r))) args s 0 0 (fun _ => False) = Q
  refine lv_lload_n hx hb dX10_whole_0 rfl (lv_at hl 0 rfl) ?_
  refine lv_lload_n hx hb dX10_whole_1 rfl (lv_at hl 1 rfl) ?_
  obtain ⟨c1, hf⟩ := spn hf
  refine lv_lrem hx hb dX10_whole_2 c1 ?_
  refine lv_lstore (lv' := [(4, .long (rL p0 p1)), (0, .long p0), (2, .long p1)]) hx hb dX10_whole_3 hl (by decide) rfl (fun ls hl => ?_)
  refine lv_lload hx hb dX10_whole_5 (lv_at hl 0 rfl) ?_
  refine lv_lconst (v := 0) hx hb dX10_whole_7 (by decide) ?_
  refine W.lcmp hx hb dX10_whole_8 ?_
  refine lv_if_ge (tgt := 19) hx hb dX10_whole_9 (by decide) (fun c2 => ?_) (fun c2 => ?_)
  · have hf := sp1 c2 hf
    refine lv_lload hx hb dX10_whole_19 (lv_at hl 0 rfl) ?_
    subst hQ
    exact pe_l C hf dX10_whole_21
  · have hf := sp0 c2 hf
    refine lv_lload hx hb dX10_whole_12 (lv_at hl 0 rfl) ?_
    refine lv_lload_n hx hb dX10_whole_14 rfl (lv_at hl 2 rfl) ?_
    refine lv_ladd hx hb dX10_whole_15 ?_
    refine lv_goto (tgt := 21) hx hb dX10_whole_16 (by decide) ?_
    subst hQ
    exact pe_l C hf dX10_whole_21
theorem cp_X10_whole : CPs yX10_whole cX10_whole 6 (some .long) 2 := ⟨mw_6_73, mw_1_9, mw_6_72, by decide +kernel⟩
def rm_X10_raised : Room := { frames := 1, cells := 0, slots := 0, locals := 29 }
set_option maxHeartbeats 4000000 in
set_option maxRecDepth 100000 in
theorem c_X10_raised (l : Launch) (p0 : Int64) (p1 : Int64) (p2 : Int64) (r : Int64) (hf : f_X10_raised p0 p1 p2 = some r) : MetP l yX10_raised cX10_raised 12 (some .long) rm_X10_raised [.long p0, .long p1, .long p2] (some (.long r)) := by
  refine MetP.of RX10 (by decide) rfl (Nat.le_of_ble_eq_true rfl) ?_
  intro p e s m args below meth c C ls hl
  have hl : lv_has ls 12 [(0, .long p0), (2, .long p1), (4, .long p2)] := hl
  obtain ⟨hx, hb, hr, hml, hown, htL, hlocks⟩ := id C
  generalize hQ : MQ below (Pq (some (.long r))) args s 0 0 (fun _ => False) = Q
  have w_45 : ∀ (k_17 : Int64 → Int64 → Int64 → Int64 → Option Int64) (hk_17 : ∀ (x4 : Int64) (x6 : Int64) (x8 : Int64) (x10 : Int64) (ls : Array Slot), lv_has ls 12 [(4, .long x4), (6, .long x6), (8, .long x8), (10, .long x10)] → k_17 x4 x6 x8 x10 = some r → W p l e rm_X10_raised s m args below meth c s.heap [] 0 0 Q (F0 m 17 ls [])) (x4 : Int64) (x6 : Int64) (x8 : Int64) (x10 : Int64) (ls : Array Slot), lv_has ls 12 [(4, .long x4), (6, .long x6), (8, .long x8), (10, .long x10)] → n_X10_raised_45 k_17 x4 x6 x8 x10 = some r → W p l e rm_X10_raised s m args below meth c s.heap [] 0 0 Q (F0 m 45 ls []) := by
    intro k_17 hk_17 x4 x6 x8 x10 ls hl hf
    refine lv_lload hx hb dX10_raised_45 (lv_at hl 2 rfl) ?_
    refine lv_lload hx hb dX10_raised_47 (lv_at hl 2 rfl) ?_
    refine lv_lmul hx hb dX10_raised_49 ?_
    refine lv_lload hx hb dX10_raised_50 (lv_at hl 0 rfl) ?_
    obtain ⟨c1, hf⟩ := spn hf
    refine lv_lrem hx hb dX10_raised_52 c1 ?_
    refine lv_lstore (lv' := [(8, .long (rL (x8 * x8) x4)), (4, .long x4), (6, .long x6), (10, .long x10)]) hx hb dX10_raised_53 hl (by decide) rfl (fun ls hl => ?_)
    refine lv_lload hx hb dX10_raised_55 (lv_at hl 3 rfl) ?_
    refine lv_ldc2 (v := 2) hx hb hown (htL _ mw_6_13) dX10_raised_57 ?_
    refine lv_ldiv hx hb dX10_raised_60 (by decide) ?_
    refine lv_lstore (lv' := [(10, .long (x10 / (2))), (8, .long (rL (x8 * x8) x4)), (4, .long x4), (6, .long x6)]) hx hb dX10_raised_61 hl (by decide) rfl (fun ls hl => ?_)
    refine lv_goto (tgt := 17) hx hb dX10_raised_63 (by decide) ?_
    exact hk_17 x4 x6 (rL (x8 * x8) x4) (x10 / (2)) _ (lv_sub hl [2, 3, 1, 0] rfl) hf
  have w_17 : ∀ (x4 : Int64) (x6 : Int64) (x8 : Int64) (x10 : Int64) (ls : Array Slot), lv_has ls 12 [(4, .long x4), (6, .long x6), (8, .long x8), (10, .long x10)] → n_X10_raised_17 x4 x6 x8 x10 = some r → W p l e rm_X10_raised s m args below meth c s.heap [] 0 0 Q (F0 m 17 ls []) := by
    skip
    have aux : ∀ (n : Nat) (x4 : Int64) (x6 : Int64) (x8 : Int64) (x10 : Int64) (ls : Array Slot), lv_has ls 12 [(4, .long x4), (6, .long x6), (8, .long x8), (10, .long x10)] → itr (fun (q : Int64 × Int64 × Int64 × Int64) k => s_X10_raised_17  (fun (x4 : Int64) (x6 : Int64) (x8 : Int64) (x10 : Int64) => k (x4, x6, x8, x10)) q.1 q.2.1 q.2.2.1 q.2.2.2) n (x4, x6, x8, x10) = some r → W p l e rm_X10_raised s m args below meth c s.heap [] 0 0 Q (F0 m 17 ls []) := by
      intro n
      induction n with
      | zero => intro x4 x6 x8 x10 ls hl hf; exact (itr_z hf).elim
      | succ n ih =>
      intro x4 x6 x8 x10 ls hl hf
      have hk_17 := ih
      have hf : s_X10_raised_17  (fun (x4 : Int64) (x6 : Int64) (x8 : Int64) (x10 : Int64) => itr (fun (q : Int64 × Int64 × Int64 × Int64) k => s_X10_raised_17  (fun (x4 : Int64) (x6 : Int64) (x8 : Int64) (x10 : Int64) => k (x4, x6, x8, x10)) q.1 q.2.1 q.2.2.1 q.2.2.2) n (x4, x6, x8, x10)) x4 x6 x8 x10 = some r := hf
      refine lv_lload hx hb dX10_raised_17 (lv_at hl 3 rfl) ?_
      refine lv_lconst (v := 0) hx hb dX10_raised_19 (by decide) ?_
      refine W.lcmp hx hb dX10_raised_20 ?_
      refine lv_if_le (tgt := 66) hx hb dX10_raised_21 (by decide) (fun c2 => ?_) (fun c2 => ?_)
      · have hf := sp1 c2 hf
        refine lv_lload hx hb dX10_raised_66 (lv_at hl 1 rfl) ?_
        subst hQ
        exact pe_l C hf dX10_raised_68
      · have hf := sp0 c2 hf
        refine lv_lload hx hb dX10_raised_24 (lv_at hl 3 rfl) ?_
        refine lv_ldc2 (v := 2) hx hb hown (htL _ mw_6_13) dX10_raised_26 ?_
        refine lv_lrem hx hb dX10_raised_29 (by decide) ?_
        refine lv_lconst (v := 1) hx hb dX10_raised_30 (by decide) ?_
        refine W.lcmp hx hb dX10_raised_31 ?_
        refine lv_if_ne (tgt := 45) hx hb dX10_raised_32 (by decide) (fun c3 => ?_) (fun c3 => ?_)
        · have hf := sp0 c3 hf
          exact w_45 _ hk_17 x4 x6 x8 x10 _ (lv_sub hl [0, 1, 2, 3] rfl) hf
        · have hf := sp1 c3 hf
          refine lv_lload hx hb dX10_raised_35 (lv_at hl 1 rfl) ?_
          refine lv_lload hx hb dX10_raised_37 (lv_at hl 2 rfl) ?_
          refine lv_lmul hx hb dX10_raised_39 ?_
          refine lv_lload hx hb dX10_raised_40 (lv_at hl 0 rfl) ?_
          obtain ⟨c4, hf⟩ := spn hf
          refine lv_lrem hx hb dX10_raised_42 c4 ?_
          refine lv_lstore (lv' := [(6, .long (rL (x6 * x8) x4)), (4, .long x4), (8, .long x8), (10, .long x10)]) hx hb dX10_raised_43 hl (by decide) rfl (fun ls hl => ?_)
          exact w_45 _ hk_17 x4 (rL (x6 * x8) x4) x8 x10 _ (lv_sub hl [1, 0, 2, 3] rfl) hf
    exact aux FU
  refine lv_lconst (v := 1) hx hb dX10_raised_0 (by decide) ?_
  refine lv_lload hx hb dX10_raised_1 (lv_at hl 2 rfl) ?_
  obtain ⟨c5, hf⟩ := spn hf
  refine lv_lrem hx hb dX10_raised_3 c5 ?_
  refine lv_lstore (lv' := [(6, .long (rL 1 p2)), (0, .long p0), (2, .long p1), (4, .long p2)]) hx hb dX10_raised_4 hl (by decide) rfl (fun ls hl => ?_)
  refine lv_lload_n hx hb dX10_raised_6 rfl (lv_at hl 1 rfl) ?_
  refine lv_lload hx hb dX10_raised_7 (lv_at hl 3 rfl) ?_
  obtain ⟨v6, h7, hf⟩ := b1_some hf
  refine pc_S (As := [.long p0, .long p2]) (rest := []) C (c_X10_whole l p0 p2 v6 h7) hl.1 cp_X10_whole mw_6_71 ⟨rfl, rfl⟩ ⟨Nat.le_of_ble_eq_true rfl, Nat.le_of_ble_eq_true rfl⟩ rfl rfl (Nat.le_of_ble_eq_true rfl) dX10_raised_9 ⟨Nat.le_of_ble_eq_true rfl, Nat.le_of_ble_eq_true rfl⟩ ?_
  refine lv_lstore (lv' := [(8, .long v6), (6, .long (rL 1 p2)), (0, .long p0), (2, .long p1), (4, .long p2)]) hx hb dX10_raised_12 hl (by decide) rfl (fun ls hl => ?_)
  refine lv_lload_n hx hb dX10_raised_14 rfl (lv_at hl 3 rfl) ?_
  refine lv_lstore (lv' := [(10, .long p1), (8, .long v6), (6, .long (rL 1 p2)), (0, .long p0), (2, .long p1), (4, .long p2)]) hx hb dX10_raised_15 hl (by decide) rfl (fun ls hl => ?_)
  exact w_17 p2 (rL 1 p2) v6 p1 _ (lv_sub hl [5, 2, 1, 0] rfl) hf
theorem cp_X10_raised : CPs yX10_raised cX10_raised 12 (some .long) 3 := ⟨mw_6_80, mw_1_9, mw_6_79, by decide +kernel⟩
def rm_X10_isPrime : Room := { frames := 0, cells := 0, slots := 0, locals := 0 }
set_option maxHeartbeats 4000000 in
set_option maxRecDepth 100000 in
theorem c_X10_isPrime (l : Launch) (p0 : Int32) (r : Int32) (hf : f_X10_isPrime p0 = some r) : MetP l yX10_isPrime cX10_isPrime 2 (some .boolean) rm_X10_isPrime [.int p0] (some (.int r)) := by
  refine MetP.of RX10 (by decide) rfl (Nat.le_of_ble_eq_true rfl) ?_
  intro p e s m args below meth c C ls hl
  have hl : lv_has ls 2 [(0, .int p0)] := hl
  obtain ⟨hx, hb, hr, hml, hown, htL, hlocks⟩ := id C
  generalize hQ : MQ below (Pq (some (.int r))) args s 0 0 (fun _ => False) = Q
  have w_9 : ∀ (x0 : Int32) (x1 : Int32) (ls : Array Slot), lv_has ls 2 [(0, .int x0), (1, .int x1)] → n_X10_isPrime_9 x0 x1 = some r → W p l e rm_X10_isPrime s m args below meth c s.heap [] 0 0 Q (F0 m 9 ls []) := by
    skip
    have aux : ∀ (n : Nat) (x0 : Int32) (x1 : Int32) (ls : Array Slot), lv_has ls 2 [(0, .int x0), (1, .int x1)] → itr (fun (q : Int32 × Int32) k => s_X10_isPrime_9  (fun (x0 : Int32) (x1 : Int32) => k (x0, x1)) q.1 q.2) n (x0, x1) = some r → W p l e rm_X10_isPrime s m args below meth c s.heap [] 0 0 Q (F0 m 9 ls []) := by
      intro n
      induction n with
      | zero => intro x0 x1 ls hl hf; exact (itr_z hf).elim
      | succ n ih =>
      intro x0 x1 ls hl hf
      have hk_9 := ih
      have hf : s_X10_isPrime_9  (fun (x0 : Int32) (x1 : Int32) => itr (fun (q : Int32 × Int32) k => s_X10_isPrime_9  (fun (x0 : Int32) (x1 : Int32) => k (x0, x1)) q.1 q.2) n (x0, x1)) x0 x1 = some r := hf
      refine lv_iload_n hx hb dX10_isPrime_9 rfl (lv_at hl 1 rfl) ?_
      refine lv_iload_n hx hb dX10_isPrime_10 rfl (lv_at hl 1 rfl) ?_
      refine lv_imul hx hb dX10_isPrime_11 ?_
      refine lv_iload_n hx hb dX10_isPrime_12 rfl (lv_at hl 0 rfl) ?_
      refine lv_icmp_gt (tgt := 30) hx hb dX10_isPrime_13 (by decide) (fun c1 => ?_) (fun c1 => ?_)
      · have hf := sp1 c1 hf
        refine lv_iconst (v := 1) hx hb dX10_isPrime_30 (by decide) ?_
        subst hQ
        exact pe_z C (by decide) hf dX10_isPrime_31
      · have hf := sp0 c1 hf
        refine lv_iload_n hx hb dX10_isPrime_16 rfl (lv_at hl 0 rfl) ?_
        refine lv_iload_n hx hb dX10_isPrime_17 rfl (lv_at hl 1 rfl) ?_
        obtain ⟨c2, hf⟩ := spn hf
        refine lv_irem hx hb dX10_isPrime_18 c2 ?_
        refine lv_if_ne (tgt := 24) hx hb dX10_isPrime_19 (by decide) (fun c3 => ?_) (fun c3 => ?_)
        · have hf := sp0 c3 hf
          refine lv_iinc (v := (x1 + 1)) (lv' := [(1, .int (x1 + 1)), (0, .int x0)]) hx hb dX10_isPrime_24 hl (k := 1) rfl rfl (by decide) rfl (fun ls hl => ?_)
          refine lv_goto (tgt := 9) hx hb dX10_isPrime_27 (by decide) ?_
          exact hk_9 x0 (x1 + 1) _ (lv_sub hl [1, 0] rfl) hf
        · have hf := sp1 c3 hf
          refine lv_iconst (v := 0) hx hb dX10_isPrime_22 (by decide) ?_
          subst hQ
          exact pe_z C (by decide) hf dX10_isPrime_23
    exact aux FU
  refine lv_iload_n hx hb dX10_isPrime_0 rfl (lv_at hl 0 rfl) ?_
  refine lv_iconst (v := 2) hx hb dX10_isPrime_1 (by decide) ?_
  refine lv_icmp_ge (tgt := 7) hx hb dX10_isPrime_2 (by decide) (fun c4 => ?_) (fun c4 => ?_)
  · have hf := sp1 c4 hf
    refine lv_iconst (v := 2) hx hb dX10_isPrime_7 (by decide) ?_
    refine lv_istore_n (lv' := [(1, .int 2), (0, .int p0)]) hx hb dX10_isPrime_8 rfl hl (by decide) rfl (fun ls hl => ?_)
    exact w_9 p0 2 _ (lv_sub hl [1, 0] rfl) hf
  · have hf := sp0 c4 hf
    refine lv_iconst (v := 0) hx hb dX10_isPrime_5 (by decide) ?_
    subst hQ
    exact pe_z C (by decide) hf dX10_isPrime_6
theorem cp_X10_isPrime : CPs yX10_isPrime cX10_isPrime 2 (some .boolean) 1 := ⟨mw_6_20, mw_1_9, mw_6_19, by decide +kernel⟩
def rm_X10_choose : Room := { frames := 0, cells := 0, slots := 0, locals := 0 }
set_option maxHeartbeats 4000000 in
set_option maxRecDepth 100000 in
theorem c_X10_choose (l : Launch) (p0 : Int32) (p1 : Int32) (r : Int32) (hf : f_X10_choose p0 p1 = some r) : MetP l yX10_choose cX10_choose 5 (some .int) rm_X10_choose [.int p0, .int p1] (some (.int r)) := by
  refine MetP.of RX10 (by decide) rfl (Nat.le_of_ble_eq_true rfl) ?_
  intro p e s m args below meth c C ls hl
  have hl : lv_has ls 5 [(0, .int p0), (1, .int p1)] := hl
  obtain ⟨hx, hb, hr, hml, hown, htL, hlocks⟩ := id C
  generalize hQ : MQ below (Pq (some (.int r))) args s 0 0 (fun _ => False) = Q
  have w_5 : ∀ (x0 : Int32) (x1 : Int32) (x2 : Int64) (x4 : Int32) (ls : Array Slot), lv_has ls 5 [(0, .int x0), (1, .int x1), (2, .long x2), (4, .int x4)] → n_X10_choose_5 x0 x1 x2 x4 = some r → W p l e rm_X10_choose s m args below meth c s.heap [] 0 0 Q (F0 m 5 ls []) := by
    skip
    have aux : ∀ (n : Nat) (x0 : Int32) (x1 : Int32) (x2 : Int64) (x4 : Int32) (ls : Array Slot), lv_has ls 5 [(0, .int x0), (1, .int x1), (2, .long x2), (4, .int x4)] → itr (fun (q : Int32 × Int32 × Int64 × Int32) k => s_X10_choose_5  (fun (x0 : Int32) (x1 : Int32) (x2 : Int64) (x4 : Int32) => k (x0, x1, x2, x4)) q.1 q.2.1 q.2.2.1 q.2.2.2) n (x0, x1, x2, x4) = some r → W p l e rm_X10_choose s m args below meth c s.heap [] 0 0 Q (F0 m 5 ls []) := by
      intro n
      induction n with
      | zero => intro x0 x1 x2 x4 ls hl hf; exact (itr_z hf).elim
      | succ n ih =>
      intro x0 x1 x2 x4 ls hl hf
      have hk_5 := ih
      have hf : s_X10_choose_5  (fun (x0 : Int32) (x1 : Int32) (x2 : Int64) (x4 : Int32) => itr (fun (q : Int32 × Int32 × Int64 × Int32) k => s_X10_choose_5  (fun (x0 : Int32) (x1 : Int32) (x2 : Int64) (x4 : Int32) => k (x0, x1, x2, x4)) q.1 q.2.1 q.2.2.1 q.2.2.2) n (x0, x1, x2, x4)) x0 x1 x2 x4 = some r := hf
      refine lv_iload hx hb dX10_choose_5 (lv_at hl 3 rfl) ?_
      refine lv_iload_n hx hb dX10_choose_7 rfl (lv_at hl 1 rfl) ?_
      refine lv_icmp_gt (tgt := 31) hx hb dX10_choose_8 (by decide) (fun c1 => ?_) (fun c1 => ?_)
      · have hf := sp1 c1 hf
        refine lv_lload_n hx hb dX10_choose_31 rfl (lv_at hl 2 rfl) ?_
        refine lv_l2i hx hb dX10_choose_32 rfl ?_
        subst hQ
        exact pe_i C hf dX10_choose_33
      · have hf := sp0 c1 hf
        refine lv_lload_n hx hb dX10_choose_11 rfl (lv_at hl 2 rfl) ?_
        refine lv_iload_n hx hb dX10_choose_12 rfl (lv_at hl 0 rfl) ?_
        refine lv_iload_n hx hb dX10_choose_13 rfl (lv_at hl 1 rfl) ?_
        refine lv_isub hx hb dX10_choose_14 ?_
        refine lv_iload hx hb dX10_choose_15 (lv_at hl 3 rfl) ?_
        refine lv_iadd hx hb dX10_choose_17 ?_
        refine lv_i2l hx hb dX10_choose_18 rfl ?_
        refine lv_lmul hx hb dX10_choose_19 ?_
        refine lv_iload hx hb dX10_choose_20 (lv_at hl 3 rfl) ?_
        refine lv_i2l hx hb dX10_choose_22 rfl ?_
        obtain ⟨c2, hf⟩ := spn hf
        refine lv_ldiv hx hb dX10_choose_23 c2 ?_
        refine lv_lstore_n (lv' := [(2, .long ((x2 * (Int32.toInt64 ((x0 - x1) + x4))) / (Int32.toInt64 x4))), (0, .int x0), (1, .int x1), (4, .int x4)]) hx hb dX10_choose_24 rfl hl (by decide) rfl (fun ls hl => ?_)
        refine lv_iinc (v := (x4 + 1)) (lv' := [(4, .int (x4 + 1)), (2, .long ((x2 * (Int32.toInt64 ((x0 - x1) + x4))) / (Int32.toInt64 x4))), (0, .int x0), (1, .int x1)]) hx hb dX10_choose_25 hl (k := 3) rfl rfl (by decide) rfl (fun ls hl => ?_)
        refine lv_goto (tgt := 5) hx hb dX10_choose_28 (by decide) ?_
        exact hk_5 x0 x1 ((x2 * (Int32.toInt64 ((x0 - x1) + x4))) / (Int32.toInt64 x4)) (x4 + 1) _ (lv_sub hl [2, 3, 1, 0] rfl) hf
    exact aux FU
  refine lv_lconst (v := 1) hx hb dX10_choose_0 (by decide) ?_
  refine lv_lstore_n (lv' := [(2, .long 1), (0, .int p0), (1, .int p1)]) hx hb dX10_choose_1 rfl hl (by decide) rfl (fun ls hl => ?_)
  refine lv_iconst (v := 1) hx hb dX10_choose_2 (by decide) ?_
  refine lv_istore (lv' := [(4, .int 1), (2, .long 1), (0, .int p0), (1, .int p1)]) hx hb dX10_choose_3 hl (by decide) rfl (fun ls hl => ?_)
  exact w_5 p0 p1 1 1 _ (lv_sub hl [2, 3, 1, 0] rfl) hf
theorem cp_X10_choose : CPs yX10_choose cX10_choose 5 (some .int) 2 := ⟨mw_6_131, mw_1_9, mw_6_130, by decide +kernel⟩
def rm_X10_common : Room := { frames := 0, cells := 0, slots := 0, locals := 0 }
set_option maxHeartbeats 4000000 in
set_option maxRecDepth 100000 in
theorem c_X10_common (l : Launch) (p0 : Int64) (p1 : Int64) (r : Int64) (hf : f_X10_common p0 p1 = some r) : MetP l yX10_common cX10_common 10 (some .long) rm_X10_common [.long p0, .long p1] (some (.long r)) := by
  refine MetP.of RX10 (by decide) rfl (Nat.le_of_ble_eq_true rfl) ?_
  intro p e s m args below meth c C ls hl
  have hl : lv_has ls 10 [(0, .long p0), (2, .long p1)] := hl
  obtain ⟨hx, hb, hr, hml, hown, htL, hlocks⟩ := id C
  generalize hQ : MQ below (Pq (some (.long r))) args s 0 0 (fun _ => False) = Q
  have w_17 : ∀ (x4 : Int64) (x6 : Int64) (ls : Array Slot), lv_has ls 10 [(4, .long x4), (6, .long x6)] → n_X10_common_17 x4 x6 = some r → W p l e rm_X10_common s m args below meth c s.heap [] 0 0 Q (F0 m 17 ls []) := by
    skip
    have aux : ∀ (n : Nat) (x4 : Int64) (x6 : Int64) (ls : Array Slot), lv_has ls 10 [(4, .long x4), (6, .long x6)] → itr (fun (q : Int64 × Int64) k => s_X10_common_17  (fun (x4 : Int64) (x6 : Int64) => k (x4, x6)) q.1 q.2) n (x4, x6) = some r → W p l e rm_X10_common s m args below meth c s.heap [] 0 0 Q (F0 m 17 ls []) := by
      intro n
      induction n with
      | zero => intro x4 x6 ls hl hf; exact (itr_z hf).elim
      | succ n ih =>
      intro x4 x6 ls hl hf
      have hk_17 := ih
      have hf : s_X10_common_17  (fun (x4 : Int64) (x6 : Int64) => itr (fun (q : Int64 × Int64) k => s_X10_common_17  (fun (x4 : Int64) (x6 : Int64) => k (x4, x6)) q.1 q.2) n (x4, x6)) x4 x6 = some r := hf
      refine lv_lload hx hb dX10_common_17 (lv_at hl 1 rfl) ?_
      refine lv_lconst (v := 0) hx hb dX10_common_19 (by decide) ?_
      refine W.lcmp hx hb dX10_common_20 ?_
      refine lv_if_eq (tgt := 42) hx hb dX10_common_21 (by decide) (fun c1 => ?_) (fun c1 => ?_)
      · have hf := sp1 c1 hf
        refine lv_lload hx hb dX10_common_42 (lv_at hl 0 rfl) ?_
        subst hQ
        exact pe_l C hf dX10_common_44
      · have hf := sp0 c1 hf
        refine lv_lload hx hb dX10_common_24 (lv_at hl 0 rfl) ?_
        refine lv_lload hx hb dX10_common_26 (lv_at hl 1 rfl) ?_
        obtain ⟨c2, hf⟩ := spn hf
        refine lv_lrem hx hb dX10_common_28 c2 ?_
        refine lv_lstore (lv' := [(8, .long (rL x4 x6)), (4, .long x4), (6, .long x6)]) hx hb dX10_common_29 hl (by decide) rfl (fun ls hl => ?_)
        refine lv_lload hx hb dX10_common_31 (lv_at hl 2 rfl) ?_
        refine lv_lstore (lv' := [(4, .long x6), (8, .long (rL x4 x6)), (6, .long x6)]) hx hb dX10_common_33 hl (by decide) rfl (fun ls hl => ?_)
        refine lv_lload hx hb dX10_common_35 (lv_at hl 1 rfl) ?_
        refine lv_lstore (lv' := [(6, .long (rL x4 x6)), (4, .long x6), (8, .long (rL x4 x6))]) hx hb dX10_common_37 hl (by decide) rfl (fun ls hl => ?_)
        refine lv_goto (tgt := 17) hx hb dX10_common_39 (by decide) ?_
        exact hk_17 x6 (rL x4 x6) _ (lv_sub hl [1, 0] rfl) hf
    exact aux FU
  refine lv_lload_n hx hb dX10_common_0 rfl (lv_at hl 0 rfl) ?_
  refine lv_lconst (v := 0) hx hb dX10_common_1 (by decide) ?_
  refine W.lcmp hx hb dX10_common_2 ?_
  refine lv_if_ge (tgt := 11) hx hb dX10_common_3 (by decide) (fun c3 => ?_) (fun c3 => ?_)
  · have hf := sp1 c3 hf
    refine lv_lload_n hx hb dX10_common_11 rfl (lv_at hl 0 rfl) ?_
    refine lv_lstore (lv' := [(4, .long p0), (0, .long p0), (2, .long p1)]) hx hb dX10_common_12 hl (by decide) rfl (fun ls hl => ?_)
    refine lv_lload_n hx hb dX10_common_14 rfl (lv_at hl 2 rfl) ?_
    refine lv_lstore (lv' := [(6, .long p1), (4, .long p0), (0, .long p0), (2, .long p1)]) hx hb dX10_common_15 hl (by decide) rfl (fun ls hl => ?_)
    exact w_17 p0 p1 _ (lv_sub hl [1, 0] rfl) hf
  · have hf := sp0 c3 hf
    refine lv_lload_n hx hb dX10_common_6 rfl (lv_at hl 0 rfl) ?_
    refine lv_lneg hx hb dX10_common_7 ?_
    refine lv_goto (tgt := 12) hx hb dX10_common_8 (by decide) ?_
    refine lv_lstore (lv' := [(4, .long (-p0)), (0, .long p0), (2, .long p1)]) hx hb dX10_common_12 hl (by decide) rfl (fun ls hl => ?_)
    refine lv_lload_n hx hb dX10_common_14 rfl (lv_at hl 2 rfl) ?_
    refine lv_lstore (lv' := [(6, .long p1), (4, .long (-p0)), (0, .long p0), (2, .long p1)]) hx hb dX10_common_15 hl (by decide) rfl (fun ls hl => ?_)
    exact w_17 (-p0) p1 _ (lv_sub hl [1, 0] rfl) hf
theorem cp_X10_common : CPs yX10_common cX10_common 10 (some .long) 2 := ⟨mw_6_215, mw_1_9, mw_6_214, by decide +kernel⟩
def rm_X10_residueSymbol : Room := { frames := 2, cells := 0, slots := 0, locals := 64 }
set_option maxHeartbeats 4000000 in
set_option maxRecDepth 100000 in
theorem c_X10_residueSymbol (l : Launch) (p0 : Int64) (p1 : Int32) (r : Int32) (hf : f_X10_residueSymbol p0 p1 = some r) : MetP l yX10_residueSymbol cX10_residueSymbol 3 (some .int) rm_X10_residueSymbol [.long p0, .int p1] (some (.int r)) := by
  refine MetP.of RX10 (by decide) rfl (Nat.le_of_ble_eq_true rfl) ?_
  intro p e s m args below meth c C ls hl
  have hl : lv_has ls 3 [(0, .long p0), (2, .int p1)] := hl
  obtain ⟨hx, hb, hr, hml, hown, htL, hlocks⟩ := id C
  generalize hQ : MQ below (Pq (some (.int r))) args s 0 0 (fun _ => False) = Q
  refine lv_lload_n hx hb dX10_residueSymbol_0 rfl (lv_at hl 0 rfl) ?_
  refine lv_iload_n hx hb dX10_residueSymbol_1 rfl (lv_at hl 1 rfl) ?_
  refine lv_iconst (v := 1) hx hb dX10_residueSymbol_2 (by decide) ?_
  refine lv_isub hx hb dX10_residueSymbol_3 ?_
  refine lv_iconst (v := 2) hx hb dX10_residueSymbol_4 (by decide) ?_
  refine lv_idiv hx hb dX10_residueSymbol_5 (by decide) ?_
  refine lv_i2l hx hb dX10_residueSymbol_6 rfl ?_
  refine lv_iload_n hx hb dX10_residueSymbol_7 rfl (lv_at hl 1 rfl) ?_
  refine lv_i2l hx hb dX10_residueSymbol_8 rfl ?_
  obtain ⟨v1, h2, hf⟩ := b1_some hf
  refine pc_S (As := [.long p0, .long (Int32.toInt64 ((p1 - 1) / 2)), .long (Int32.toInt64 p1)]) (rest := []) C (c_X10_raised l p0 (Int32.toInt64 ((p1 - 1) / 2)) (Int32.toInt64 p1) v1 h2) hl.1 cp_X10_raised mw_6_78 ⟨rfl, rfl⟩ ⟨Nat.le_of_ble_eq_true rfl, Nat.le_of_ble_eq_true rfl⟩ rfl rfl (Nat.le_of_ble_eq_true rfl) dX10_residueSymbol_9 ⟨Nat.le_of_ble_eq_true rfl, Nat.le_of_ble_eq_true rfl⟩ ?_
  refine lv_lconst (v := 1) hx hb dX10_residueSymbol_12 (by decide) ?_
  refine W.lcmp hx hb dX10_residueSymbol_13 ?_
  refine lv_if_ne (tgt := 21) hx hb dX10_residueSymbol_14 (by decide) (fun c3 => ?_) (fun c3 => ?_)
  · have hf := sp0 c3 hf
    refine lv_iconst (v := (-1)) hx hb dX10_residueSymbol_21 (by decide) ?_
    subst hQ
    exact pe_i C hf dX10_residueSymbol_22
  · have hf := sp1 c3 hf
    refine lv_iconst (v := 1) hx hb dX10_residueSymbol_17 (by decide) ?_
    refine lv_goto (tgt := 22) hx hb dX10_residueSymbol_18 (by decide) ?_
    subst hQ
    exact pe_i C hf dX10_residueSymbol_22
theorem cp_X10_residueSymbol : CPs yX10_residueSymbol cX10_residueSymbol 3 (some .int) 2 := ⟨mw_7_59, mw_1_9, mw_7_58, by decide +kernel⟩
def rm_X10_symbolAt : Room := { frames := 3, cells := 0, slots := 0, locals := 90 }
set_option maxHeartbeats 4000000 in
set_option maxRecDepth 100000 in
theorem c_X10_symbolAt (l : Launch) (p0 : Int32) (p1 : Int32) (p2 : Int32) (r : Int32) (hf : f_X10_symbolAt p0 p1 p2 = some r) : MetP l yX10_symbolAt cX10_symbolAt 12 (some .int) rm_X10_symbolAt [.int p0, .int p1, .int p2] (some (.int r)) := by
  refine MetP.of RX10 (by decide) rfl (Nat.le_of_ble_eq_true rfl) ?_
  intro p e s m args below meth c C ls hl
  have hl : lv_has ls 12 [(0, .int p0), (1, .int p1), (2, .int p2)] := hl
  obtain ⟨hx, hb, hr, hml, hown, htL, hlocks⟩ := id C
  generalize hQ : MQ below (Pq (some (.int r))) args s 0 0 (fun _ => False) = Q
  have w_176 : ∀ (y0 : Int32) (y1 : Int32) (y2 : Int32) (ls : Array Slot), lv_has ls 12 [] → n_X10_symbolAt_176 y0 y1 y2 = some r → W p l e rm_X10_symbolAt s m args below meth c s.heap [] 0 0 Q (F0 m 176 ls [.int y2, .int y1, .int y0]) := by
    intro y0 y1 y2 ls hl hf
    refine lv_imul hx hb dX10_symbolAt_176 ?_
    refine lv_iadd hx hb dX10_symbolAt_177 ?_
    refine lv_istore (lv' := [(11, .int (y0 + (y1 * y2)))]) hx hb dX10_symbolAt_178 hl (by decide) rfl (fun ls hl => ?_)
    refine lv_iload hx hb dX10_symbolAt_180 (lv_at hl 0 rfl) ?_
    refine lv_iconst (v := 2) hx hb dX10_symbolAt_182 (by decide) ?_
    refine lv_irem hx hb dX10_symbolAt_183 (by decide) ?_
    refine lv_if_ne (tgt := 191) hx hb dX10_symbolAt_184 (by decide) (fun c1 => ?_) (fun c1 => ?_)
    · have hf := sp0 c1 hf
      refine lv_iconst (v := (-1)) hx hb dX10_symbolAt_191 (by decide) ?_
      subst hQ
      exact pe_i C hf dX10_symbolAt_192
    · have hf := sp1 c1 hf
      refine lv_iconst (v := 1) hx hb dX10_symbolAt_187 (by decide) ?_
      refine lv_goto (tgt := 192) hx hb dX10_symbolAt_188 (by decide) ?_
      subst hQ
      exact pe_i C hf dX10_symbolAt_192
  have w_149 : ∀ (x4 : Int32) (x7 : Int64) (y0 : Int32) (y1 : Int32) (y2 : Int32) (ls : Array Slot), lv_has ls 12 [(4, .int x4), (7, .long x7)] → n_X10_symbolAt_149 x4 x7 y0 y1 y2 = some r → W p l e rm_X10_symbolAt s m args below meth c s.heap [] 0 0 Q (F0 m 149 ls [.int y2, .int y1, .int y0]) := by
    intro x4 x7 y0 y1 y2 ls hl hf
    refine lv_imul hx hb dX10_symbolAt_149 ?_
    refine lv_iadd hx hb dX10_symbolAt_150 ?_
    refine lv_iload hx hb dX10_symbolAt_151 (lv_at hl 0 rfl) ?_
    refine lv_lload hx hb dX10_symbolAt_153 (lv_at hl 1 rfl) ?_
    refine lv_ldc2 (v := 3) hx hb hown (htL _ mw_7_55) dX10_symbolAt_155 ?_
    refine W.lcmp hx hb dX10_symbolAt_158 ?_
    refine lv_if_eq (tgt := 171) hx hb dX10_symbolAt_159 (by decide) (fun c2 => ?_) (fun c2 => ?_)
    · have hf := sp1 c2 hf
      refine lv_iconst (v := 1) hx hb dX10_symbolAt_171 (by decide) ?_
      refine lv_goto (tgt := 176) hx hb dX10_symbolAt_172 (by decide) ?_
      exact w_176 (y0 + (y1 * y2)) x4 1 _ (lv_sub hl [] rfl) hf
    · have hf := sp0 c2 hf
      refine lv_lload hx hb dX10_symbolAt_162 (lv_at hl 1 rfl) ?_
      refine lv_ldc2 (v := 5) hx hb hown (htL _ mw_7_56) dX10_symbolAt_164 ?_
      refine W.lcmp hx hb dX10_symbolAt_167 ?_
      refine lv_if_ne (tgt := 175) hx hb dX10_symbolAt_168 (by decide) (fun c3 => ?_) (fun c3 => ?_)
      · have hf := sp0 c3 hf
        refine lv_iconst (v := 0) hx hb dX10_symbolAt_175 (by decide) ?_
        exact w_176 (y0 + (y1 * y2)) x4 0 _ (lv_sub hl [] rfl) hf
      · have hf := sp1 c3 hf
        refine lv_iconst (v := 1) hx hb dX10_symbolAt_171 (by decide) ?_
        refine lv_goto (tgt := 176) hx hb dX10_symbolAt_172 (by decide) ?_
        exact w_176 (y0 + (y1 * y2)) x4 1 _ (lv_sub hl [] rfl) hf
  have w_125 : ∀ (x3 : Int32) (x4 : Int32) (x7 : Int64) (x9 : Int64) (y0 : Int32) (ls : Array Slot), lv_has ls 12 [(3, .int x3), (4, .int x4), (7, .long x7), (9, .long x9)] → n_X10_symbolAt_125 x3 x4 x7 x9 y0 = some r → W p l e rm_X10_symbolAt s m args below meth c s.heap [] 0 0 Q (F0 m 125 ls [.int y0]) := by
    intro x3 x4 x7 x9 y0 ls hl hf
    refine lv_iload_n hx hb dX10_symbolAt_125 rfl (lv_at hl 0 rfl) ?_
    refine lv_lload hx hb dX10_symbolAt_126 (lv_at hl 3 rfl) ?_
    refine lv_ldc2 (v := 3) hx hb hown (htL _ mw_7_55) dX10_symbolAt_128 ?_
    refine W.lcmp hx hb dX10_symbolAt_131 ?_
    refine lv_if_eq (tgt := 144) hx hb dX10_symbolAt_132 (by decide) (fun c4 => ?_) (fun c4 => ?_)
    · have hf := sp1 c4 hf
      refine lv_iconst (v := 1) hx hb dX10_symbolAt_144 (by decide) ?_
      refine lv_goto (tgt := 149) hx hb dX10_symbolAt_145 (by decide) ?_
      exact w_149 x4 x7 y0 x3 1 _ (lv_sub hl [1, 2] rfl) hf
    · have hf := sp0 c4 hf
      refine lv_lload hx hb dX10_symbolAt_135 (lv_at hl 3 rfl) ?_
      refine lv_ldc2 (v := 5) hx hb hown (htL _ mw_7_56) dX10_symbolAt_137 ?_
      refine W.lcmp hx hb dX10_symbolAt_140 ?_
      refine lv_if_ne (tgt := 148) hx hb dX10_symbolAt_141 (by decide) (fun c5 => ?_) (fun c5 => ?_)
      · have hf := sp0 c5 hf
        refine lv_iconst (v := 0) hx hb dX10_symbolAt_148 (by decide) ?_
        exact w_149 x4 x7 y0 x3 0 _ (lv_sub hl [1, 2] rfl) hf
      · have hf := sp1 c5 hf
        refine lv_iconst (v := 1) hx hb dX10_symbolAt_144 (by decide) ?_
        refine lv_goto (tgt := 149) hx hb dX10_symbolAt_145 (by decide) ?_
        exact w_149 x4 x7 y0 x3 1 _ (lv_sub hl [1, 2] rfl) hf
  have w_237 : ∀ (x2 : Int32) (x3 : Int32) (x6 : Int32) (x7 : Int32) (ls : Array Slot), lv_has ls 12 [(2, .int x2), (3, .int x3), (6, .int x6), (7, .int x7)] → n_X10_symbolAt_237 x2 x3 x6 x7 = some r → W p l e rm_X10_symbolAt s m args below meth c s.heap [] 0 0 Q (F0 m 237 ls []) := by
    intro x2 x3 x6 x7 ls hl hf
    refine lv_iload_n hx hb dX10_symbolAt_237 rfl (lv_at hl 1 rfl) ?_
    refine lv_iconst (v := 2) hx hb dX10_symbolAt_238 (by decide) ?_
    refine lv_irem hx hb dX10_symbolAt_239 (by decide) ?_
    refine lv_iconst (v := 1) hx hb dX10_symbolAt_240 (by decide) ?_
    refine lv_icmp_ne (tgt := 256) hx hb dX10_symbolAt_241 (by decide) (fun c6 => ?_) (fun c6 => ?_)
    · have hf := sp0 c6 hf
      refine lv_iload hx hb dX10_symbolAt_256 (lv_at hl 3 rfl) ?_
      subst hQ
      exact pe_i C hf dX10_symbolAt_258
    · have hf := sp1 c6 hf
      refine lv_iload hx hb dX10_symbolAt_244 (lv_at hl 3 rfl) ?_
      refine lv_iload hx hb dX10_symbolAt_246 (lv_at hl 2 rfl) ?_
      refine lv_i2l hx hb dX10_symbolAt_248 rfl ?_
      refine lv_iload_n hx hb dX10_symbolAt_249 rfl (lv_at hl 0 rfl) ?_
      obtain ⟨v7, h8, hf⟩ := b1_some hf
      refine pc_S (As := [.long (Int32.toInt64 x6), .int x2]) (rest := [.int x7]) C (c_X10_residueSymbol l (Int32.toInt64 x6) x2 v7 h8) hl.1 cp_X10_residueSymbol mw_7_57 ⟨rfl, rfl⟩ ⟨Nat.le_of_ble_eq_true rfl, Nat.le_of_ble_eq_true rfl⟩ rfl rfl (Nat.le_of_ble_eq_true rfl) dX10_symbolAt_250 ⟨Nat.le_of_ble_eq_true rfl, Nat.le_of_ble_eq_true rfl⟩ ?_
      refine lv_imul hx hb dX10_symbolAt_253 ?_
      refine lv_istore (lv' := [(7, .int (x7 * v7)), (2, .int x2), (3, .int x3), (6, .int x6)]) hx hb dX10_symbolAt_254 hl (by decide) rfl (fun ls hl => ?_)
      refine lv_iload hx hb dX10_symbolAt_256 (lv_at hl 0 rfl) ?_
      subst hQ
      exact pe_i C hf dX10_symbolAt_258
  have w_215 : ∀ (x2 : Int32) (x3 : Int32) (x4 : Int32) (x5 : Int32) (x6 : Int32) (y0 : Int32) (ls : Array Slot), lv_has ls 12 [(2, .int x2), (3, .int x3), (4, .int x4), (5, .int x5), (6, .int x6)] → n_X10_symbolAt_215 x2 x3 x4 x5 x6 y0 = some r → W p l e rm_X10_symbolAt s m args below meth c s.heap [] 0 0 Q (F0 m 215 ls [.int y0]) := by
    intro x2 x3 x4 x5 x6 y0 ls hl hf
    refine lv_istore (lv' := [(7, .int y0), (2, .int x2), (3, .int x3), (4, .int x4), (5, .int x5), (6, .int x6)]) hx hb dX10_symbolAt_215 hl (by decide) rfl (fun ls hl => ?_)
    refine lv_iload hx hb dX10_symbolAt_217 (lv_at hl 3 rfl) ?_
    refine lv_iconst (v := 2) hx hb dX10_symbolAt_219 (by decide) ?_
    refine lv_irem hx hb dX10_symbolAt_220 (by decide) ?_
    refine lv_iconst (v := 1) hx hb dX10_symbolAt_221 (by decide) ?_
    refine lv_icmp_ne (tgt := 237) hx hb dX10_symbolAt_222 (by decide) (fun c9 => ?_) (fun c9 => ?_)
    · have hf := sp0 c9 hf
      exact w_237 x2 x3 x6 y0 _ (lv_sub hl [1, 2, 5, 0] rfl) hf
    · have hf := sp1 c9 hf
      refine lv_iload hx hb dX10_symbolAt_225 (lv_at hl 0 rfl) ?_
      refine lv_iload hx hb dX10_symbolAt_227 (lv_at hl 4 rfl) ?_
      refine lv_i2l hx hb dX10_symbolAt_229 rfl ?_
      refine lv_iload_n hx hb dX10_symbolAt_230 rfl (lv_at hl 1 rfl) ?_
      obtain ⟨v10, h11, hf⟩ := b1_some hf
      refine pc_S (As := [.long (Int32.toInt64 x5), .int x2]) (rest := [.int y0]) C (c_X10_residueSymbol l (Int32.toInt64 x5) x2 v10 h11) hl.1 cp_X10_residueSymbol mw_7_57 ⟨rfl, rfl⟩ ⟨Nat.le_of_ble_eq_true rfl, Nat.le_of_ble_eq_true rfl⟩ rfl rfl (Nat.le_of_ble_eq_true rfl) dX10_symbolAt_231 ⟨Nat.le_of_ble_eq_true rfl, Nat.le_of_ble_eq_true rfl⟩ ?_
      refine lv_imul hx hb dX10_symbolAt_234 ?_
      refine lv_istore (lv' := [(7, .int (y0 * v10)), (2, .int x2), (3, .int x3), (4, .int x4), (5, .int x5), (6, .int x6)]) hx hb dX10_symbolAt_235 hl (by decide) rfl (fun ls hl => ?_)
      exact w_237 x2 x3 x6 (y0 * v10) _ (lv_sub hl [1, 2, 5, 0] rfl) hf
  have w_48 : ∀ (x2 : Int32) (x3 : Int32) (x4 : Int32) (x5 : Int32) (x6 : Int32) (ls : Array Slot), lv_has ls 12 [(2, .int x2), (3, .int x3), (4, .int x4), (5, .int x5), (6, .int x6)] → n_X10_symbolAt_48 x2 x3 x4 x5 x6 = some r → W p l e rm_X10_symbolAt s m args below meth c s.heap [] 0 0 Q (F0 m 48 ls []) := by
    skip
    have aux : ∀ (n : Nat) (x2 : Int32) (x3 : Int32) (x4 : Int32) (x5 : Int32) (x6 : Int32) (ls : Array Slot), lv_has ls 12 [(2, .int x2), (3, .int x3), (4, .int x4), (5, .int x5), (6, .int x6)] → itr (fun (q : Int32 × Int32 × Int32 × Int32 × Int32) k => s_X10_symbolAt_48  (fun (x2 : Int32) (x3 : Int32) (x4 : Int32) (x5 : Int32) (x6 : Int32) => k (x2, x3, x4, x5, x6)) q.1 q.2.1 q.2.2.1 q.2.2.2.1 q.2.2.2.2) n (x2, x3, x4, x5, x6) = some r → W p l e rm_X10_symbolAt s m args below meth c s.heap [] 0 0 Q (F0 m 48 ls []) := by
      intro n
      induction n with
      | zero => intro x2 x3 x4 x5 x6 ls hl hf; exact (itr_z hf).elim
      | succ n ih =>
      intro x2 x3 x4 x5 x6 ls hl hf
      have hk_48 := ih
      have hf : s_X10_symbolAt_48  (fun (x2 : Int32) (x3 : Int32) (x4 : Int32) (x5 : Int32) (x6 : Int32) => itr (fun (q : Int32 × Int32 × Int32 × Int32 × Int32) k => s_X10_symbolAt_48  (fun (x2 : Int32) (x3 : Int32) (x4 : Int32) (x5 : Int32) (x6 : Int32) => k (x2, x3, x4, x5, x6)) q.1 q.2.1 q.2.2.1 q.2.2.2.1 q.2.2.2.2) n (x2, x3, x4, x5, x6)) x2 x3 x4 x5 x6 = some r := hf
      refine lv_iload hx hb dX10_symbolAt_48 (lv_at hl 4 rfl) ?_
      refine lv_iload_n hx hb dX10_symbolAt_50 rfl (lv_at hl 0 rfl) ?_
      obtain ⟨c12, hf⟩ := spn hf
      refine lv_irem hx hb dX10_symbolAt_51 c12 ?_
      refine lv_if_ne (tgt := 67) hx hb dX10_symbolAt_52 (by decide) (fun c13 => ?_) (fun c13 => ?_)
      · have hf := sp0 c13 hf
        refine lv_iload_n hx hb dX10_symbolAt_67 rfl (lv_at hl 0 rfl) ?_
        refine lv_iconst (v := 2) hx hb dX10_symbolAt_68 (by decide) ?_
        refine lv_icmp_ne (tgt := 193) hx hb dX10_symbolAt_69 (by decide) (fun c14 => ?_) (fun c14 => ?_)
        · have hf := sp0 c14 hf
          refine lv_iload_n hx hb dX10_symbolAt_193 rfl (lv_at hl 1 rfl) ?_
          refine lv_iload hx hb dX10_symbolAt_194 (lv_at hl 2 rfl) ?_
          refine lv_imul hx hb dX10_symbolAt_196 ?_
          refine lv_iconst (v := 2) hx hb dX10_symbolAt_197 (by decide) ?_
          refine lv_irem hx hb dX10_symbolAt_198 (by decide) ?_
          refine lv_iconst (v := 1) hx hb dX10_symbolAt_199 (by decide) ?_
          refine lv_icmp_ne (tgt := 214) hx hb dX10_symbolAt_200 (by decide) (fun c15 => ?_) (fun c15 => ?_)
          · have hf := sp0 c15 hf
            refine lv_iconst (v := 1) hx hb dX10_symbolAt_214 (by decide) ?_
            exact w_215 x2 x3 x4 x5 x6 1 _ (lv_sub hl [0, 1, 2, 3, 4] rfl) hf
          · have hf := sp1 c15 hf
            refine lv_iload_n hx hb dX10_symbolAt_203 rfl (lv_at hl 0 rfl) ?_
            refine lv_iconst (v := 4) hx hb dX10_symbolAt_204 (by decide) ?_
            refine lv_irem hx hb dX10_symbolAt_205 (by decide) ?_
            refine lv_iconst (v := 3) hx hb dX10_symbolAt_206 (by decide) ?_
            refine lv_icmp_ne (tgt := 214) hx hb dX10_symbolAt_207 (by decide) (fun c16 => ?_) (fun c16 => ?_)
            · have hf := sp0 c16 hf
              refine lv_iconst (v := 1) hx hb dX10_symbolAt_214 (by decide) ?_
              exact w_215 x2 x3 x4 x5 x6 1 _ (lv_sub hl [0, 1, 2, 3, 4] rfl) hf
            · have hf := sp1 c16 hf
              refine lv_iconst (v := (-1)) hx hb dX10_symbolAt_210 (by decide) ?_
              refine lv_goto (tgt := 215) hx hb dX10_symbolAt_211 (by decide) ?_
              exact w_215 x2 x3 x4 x5 x6 (-1) _ (lv_sub hl [0, 1, 2, 3, 4] rfl) hf
        · have hf := sp1 c14 hf
          refine lv_iload hx hb dX10_symbolAt_72 (lv_at hl 3 rfl) ?_
          refine lv_i2l hx hb dX10_symbolAt_74 rfl ?_
          refine lv_ldc2 (v := 8) hx hb hown (htL _ mw_6_168) dX10_symbolAt_75 ?_
          obtain ⟨v17, h18, hf⟩ := b1_some hf
          refine pc_S (As := [.long (Int32.toInt64 x5), .long (8)]) (rest := []) C (c_X10_whole l (Int32.toInt64 x5) (8) v17 h18) hl.1 cp_X10_whole mw_6_71 ⟨rfl, rfl⟩ ⟨Nat.le_of_ble_eq_true rfl, Nat.le_of_ble_eq_true rfl⟩ rfl rfl (Nat.le_of_ble_eq_true rfl) dX10_symbolAt_78 ⟨Nat.le_of_ble_eq_true rfl, Nat.le_of_ble_eq_true rfl⟩ ?_
          refine lv_lstore (lv' := [(7, .long v17), (2, .int x2), (3, .int x3), (4, .int x4), (5, .int x5), (6, .int x6)]) hx hb dX10_symbolAt_81 hl (by decide) rfl (fun ls hl => ?_)
          refine lv_iload hx hb dX10_symbolAt_83 (lv_at hl 5 rfl) ?_
          refine lv_i2l hx hb dX10_symbolAt_85 rfl ?_
          refine lv_ldc2 (v := 8) hx hb hown (htL _ mw_6_168) dX10_symbolAt_86 ?_
          obtain ⟨v19, h20, hf⟩ := b1_some hf
          refine pc_S (As := [.long (Int32.toInt64 x6), .long (8)]) (rest := []) C (c_X10_whole l (Int32.toInt64 x6) (8) v19 h20) hl.1 cp_X10_whole mw_6_71 ⟨rfl, rfl⟩ ⟨Nat.le_of_ble_eq_true rfl, Nat.le_of_ble_eq_true rfl⟩ rfl rfl (Nat.le_of_ble_eq_true rfl) dX10_symbolAt_89 ⟨Nat.le_of_ble_eq_true rfl, Nat.le_of_ble_eq_true rfl⟩ ?_
          refine lv_lstore (lv' := [(9, .long v19), (7, .long v17), (2, .int x2), (3, .int x3), (4, .int x4), (5, .int x5), (6, .int x6)]) hx hb dX10_symbolAt_92 hl (by decide) rfl (fun ls hl => ?_)
          refine lv_lload hx hb dX10_symbolAt_94 (lv_at hl 1 rfl) ?_
          refine lv_ldc2 (v := 4) hx hb hown (htL _ mw_7_54) dX10_symbolAt_96 ?_
          refine lv_lrem hx hb dX10_symbolAt_99 (by decide) ?_
          refine lv_ldc2 (v := 3) hx hb hown (htL _ mw_7_55) dX10_symbolAt_100 ?_
          refine W.lcmp hx hb dX10_symbolAt_103 ?_
          refine lv_if_ne (tgt := 124) hx hb dX10_symbolAt_104 (by decide) (fun c21 => ?_) (fun c21 => ?_)
          · have hf := sp0 c21 hf
            refine lv_iconst (v := 0) hx hb dX10_symbolAt_124 (by decide) ?_
            exact w_125 x3 x4 v17 v19 0 _ (lv_sub hl [3, 4, 1, 0] rfl) hf
          · have hf := sp1 c21 hf
            refine lv_lload hx hb dX10_symbolAt_107 (lv_at hl 0 rfl) ?_
            refine lv_ldc2 (v := 4) hx hb hown (htL _ mw_7_54) dX10_symbolAt_109 ?_
            refine lv_lrem hx hb dX10_symbolAt_112 (by decide) ?_
            refine lv_ldc2 (v := 3) hx hb hown (htL _ mw_7_55) dX10_symbolAt_113 ?_
            refine W.lcmp hx hb dX10_symbolAt_116 ?_
            refine lv_if_ne (tgt := 124) hx hb dX10_symbolAt_117 (by decide) (fun c22 => ?_) (fun c22 => ?_)
            · have hf := sp0 c22 hf
              refine lv_iconst (v := 0) hx hb dX10_symbolAt_124 (by decide) ?_
              exact w_125 x3 x4 v17 v19 0 _ (lv_sub hl [3, 4, 1, 0] rfl) hf
            · have hf := sp1 c22 hf
              refine lv_iconst (v := 1) hx hb dX10_symbolAt_120 (by decide) ?_
              refine lv_goto (tgt := 125) hx hb dX10_symbolAt_121 (by decide) ?_
              exact w_125 x3 x4 v17 v19 1 _ (lv_sub hl [3, 4, 1, 0] rfl) hf
      · have hf := sp1 c13 hf
        refine lv_iinc (v := (x4 + 1)) (lv' := [(4, .int (x4 + 1)), (2, .int x2), (3, .int x3), (5, .int x5), (6, .int x6)]) hx hb dX10_symbolAt_55 hl (k := 2) rfl rfl (by decide) rfl (fun ls hl => ?_)
        refine lv_iload hx hb dX10_symbolAt_58 (lv_at hl 4 rfl) ?_
        refine lv_iload_n hx hb dX10_symbolAt_60 rfl (lv_at hl 1 rfl) ?_
        obtain ⟨c23, hf⟩ := spn hf
        refine lv_idiv hx hb dX10_symbolAt_61 c23 ?_
        refine lv_istore (lv' := [(6, .int (x6 / x2)), (4, .int (x4 + 1)), (2, .int x2), (3, .int x3), (5, .int x5)]) hx hb dX10_symbolAt_62 hl (by decide) rfl (fun ls hl => ?_)
        refine lv_goto (tgt := 48) hx hb dX10_symbolAt_64 (by decide) ?_
        exact hk_48 x2 x3 (x4 + 1) x5 (x6 / x2) _ (lv_sub hl [2, 3, 1, 4, 0] rfl) hf
    exact aux FU
  have w_29 : ∀ (x2 : Int32) (x3 : Int32) (x4 : Int32) (x5 : Int32) (x6 : Int32) (ls : Array Slot), lv_has ls 12 [(2, .int x2), (3, .int x3), (4, .int x4), (5, .int x5), (6, .int x6)] → n_X10_symbolAt_29 x2 x3 x4 x5 x6 = some r → W p l e rm_X10_symbolAt s m args below meth c s.heap [] 0 0 Q (F0 m 29 ls []) := by
    skip
    have aux : ∀ (n : Nat) (x2 : Int32) (x3 : Int32) (x4 : Int32) (x5 : Int32) (x6 : Int32) (ls : Array Slot), lv_has ls 12 [(2, .int x2), (3, .int x3), (4, .int x4), (5, .int x5), (6, .int x6)] → itr (fun (q : Int32 × Int32 × Int32 × Int32 × Int32) k => s_X10_symbolAt_29  (fun (x2 : Int32) (x3 : Int32) (x4 : Int32) (x5 : Int32) (x6 : Int32) => k (x2, x3, x4, x5, x6)) q.1 q.2.1 q.2.2.1 q.2.2.2.1 q.2.2.2.2) n (x2, x3, x4, x5, x6) = some r → W p l e rm_X10_symbolAt s m args below meth c s.heap [] 0 0 Q (F0 m 29 ls []) := by
      intro n
      induction n with
      | zero => intro x2 x3 x4 x5 x6 ls hl hf; exact (itr_z hf).elim
      | succ n ih =>
      intro x2 x3 x4 x5 x6 ls hl hf
      have hk_29 := ih
      have hf : s_X10_symbolAt_29  (fun (x2 : Int32) (x3 : Int32) (x4 : Int32) (x5 : Int32) (x6 : Int32) => itr (fun (q : Int32 × Int32 × Int32 × Int32 × Int32) k => s_X10_symbolAt_29  (fun (x2 : Int32) (x3 : Int32) (x4 : Int32) (x5 : Int32) (x6 : Int32) => k (x2, x3, x4, x5, x6)) q.1 q.2.1 q.2.2.1 q.2.2.2.1 q.2.2.2.2) n (x2, x3, x4, x5, x6)) x2 x3 x4 x5 x6 = some r := hf
      refine lv_iload hx hb dX10_symbolAt_29 (lv_at hl 3 rfl) ?_
      refine lv_iload_n hx hb dX10_symbolAt_31 rfl (lv_at hl 0 rfl) ?_
      obtain ⟨c24, hf⟩ := spn hf
      refine lv_irem hx hb dX10_symbolAt_32 c24 ?_
      refine lv_if_ne (tgt := 48) hx hb dX10_symbolAt_33 (by decide) (fun c25 => ?_) (fun c25 => ?_)
      · have hf := sp0 c25 hf
        exact w_48 x2 x3 x4 x5 x6 _ (lv_sub hl [0, 1, 2, 3, 4] rfl) hf
      · have hf := sp1 c25 hf
        refine lv_iinc (v := (x3 + 1)) (lv' := [(3, .int (x3 + 1)), (2, .int x2), (4, .int x4), (5, .int x5), (6, .int x6)]) hx hb dX10_symbolAt_36 hl (k := 1) rfl rfl (by decide) rfl (fun ls hl => ?_)
        refine lv_iload hx hb dX10_symbolAt_39 (lv_at hl 3 rfl) ?_
        refine lv_iload_n hx hb dX10_symbolAt_41 rfl (lv_at hl 1 rfl) ?_
        obtain ⟨c26, hf⟩ := spn hf
        refine lv_idiv hx hb dX10_symbolAt_42 c26 ?_
        refine lv_istore (lv' := [(5, .int (x5 / x2)), (3, .int (x3 + 1)), (2, .int x2), (4, .int x4), (6, .int x6)]) hx hb dX10_symbolAt_43 hl (by decide) rfl (fun ls hl => ?_)
        refine lv_goto (tgt := 29) hx hb dX10_symbolAt_45 (by decide) ?_
        exact hk_29 x2 (x3 + 1) x4 (x5 / x2) x6 _ (lv_sub hl [2, 1, 3, 0, 4] rfl) hf
    exact aux FU
  refine lv_iload_n hx hb dX10_symbolAt_0 rfl (lv_at hl 2 rfl) ?_
  refine lv_if_ne (tgt := 18) hx hb dX10_symbolAt_1 (by decide) (fun c27 => ?_) (fun c27 => ?_)
  · have hf := sp0 c27 hf
    refine lv_iconst (v := 0) hx hb dX10_symbolAt_18 (by decide) ?_
    refine lv_istore_n (lv' := [(3, .int 0), (0, .int p0), (1, .int p1), (2, .int p2)]) hx hb dX10_symbolAt_19 rfl hl (by decide) rfl (fun ls hl => ?_)
    refine lv_iconst (v := 0) hx hb dX10_symbolAt_20 (by decide) ?_
    refine lv_istore (lv' := [(4, .int 0), (3, .int 0), (0, .int p0), (1, .int p1), (2, .int p2)]) hx hb dX10_symbolAt_21 hl (by decide) rfl (fun ls hl => ?_)
    refine lv_iload_n hx hb dX10_symbolAt_23 rfl (lv_at hl 2 rfl) ?_
    refine lv_istore (lv' := [(5, .int p0), (4, .int 0), (3, .int 0), (0, .int p0), (1, .int p1), (2, .int p2)]) hx hb dX10_symbolAt_24 hl (by decide) rfl (fun ls hl => ?_)
    refine lv_iload_n hx hb dX10_symbolAt_26 rfl (lv_at hl 4 rfl) ?_
    refine lv_istore (lv' := [(6, .int p1), (5, .int p0), (4, .int 0), (3, .int 0), (0, .int p0), (1, .int p1), (2, .int p2)]) hx hb dX10_symbolAt_27 hl (by decide) rfl (fun ls hl => ?_)
    exact w_29 p2 0 0 p0 p1 _ (lv_sub hl [6, 3, 2, 1, 0] rfl) hf
  · have hf := sp1 c27 hf
    refine lv_iload_n hx hb dX10_symbolAt_4 rfl (lv_at hl 0 rfl) ?_
    refine lv_if_ge (tgt := 16) hx hb dX10_symbolAt_5 (by decide) (fun c28 => ?_) (fun c28 => ?_)
    · have hf := sp1 c28 hf
      refine lv_iconst (v := 1) hx hb dX10_symbolAt_16 (by decide) ?_
      subst hQ
      exact pe_i C hf dX10_symbolAt_17
    · have hf := sp0 c28 hf
      refine lv_iload_n hx hb dX10_symbolAt_8 rfl (lv_at hl 1 rfl) ?_
      refine lv_if_ge (tgt := 16) hx hb dX10_symbolAt_9 (by decide) (fun c29 => ?_) (fun c29 => ?_)
      · have hf := sp1 c29 hf
        refine lv_iconst (v := 1) hx hb dX10_symbolAt_16 (by decide) ?_
        subst hQ
        exact pe_i C hf dX10_symbolAt_17
      · have hf := sp0 c29 hf
        refine lv_iconst (v := (-1)) hx hb dX10_symbolAt_12 (by decide) ?_
        refine lv_goto (tgt := 17) hx hb dX10_symbolAt_13 (by decide) ?_
        subst hQ
        exact pe_i C hf dX10_symbolAt_17
theorem cp_X10_symbolAt : CPs yX10_symbolAt cX10_symbolAt 12 (some .int) 3 := ⟨mw_7_53, mw_1_9, mw_7_52, by decide +kernel⟩
def rm_X10_isTold : Room := { frames := 1, cells := 0, slots := 0, locals := 29 }
set_option maxHeartbeats 4000000 in
set_option maxRecDepth 100000 in
theorem c_X10_isTold (l : Launch) (p0 : Int32) (r : Int32) (hf : f_X10_isTold p0 = some r) : MetP l yX10_isTold cX10_isTold 1 (some .boolean) rm_X10_isTold [.int p0] (some (.int r)) := by
  refine MetP.of RX10 (by decide) rfl (Nat.le_of_ble_eq_true rfl) ?_
  intro p e s m args below meth c C ls hl
  have hl : lv_has ls 1 [(0, .int p0)] := hl
  obtain ⟨hx, hb, hr, hml, hown, htL, hlocks⟩ := id C
  generalize hQ : MQ below (Pq (some (.int r))) args s 0 0 (fun _ => False) = Q
  refine lv_iload_n hx hb dX10_isTold_0 rfl (lv_at hl 0 rfl) ?_
  refine lv_i2l hx hb dX10_isTold_1 rfl ?_
  refine lv_ldc2 (v := -10000) hx hb hown (htL _ mw_6_229) dX10_isTold_2 ?_
  refine lv_ldc2 (v := 10000) hx hb hown (htL _ mw_6_230) dX10_isTold_5 ?_
  obtain ⟨v1, h2, hf⟩ := b1_some hf
  refine pc_S (As := [.long (Int32.toInt64 p0), .long (-10000), .long (10000)]) (rest := []) C (c_X10_isIn l (Int32.toInt64 p0) (-10000) (10000) v1 h2) hl.1 cp_X10_isIn mw_6_15 ⟨rfl, rfl⟩ ⟨Nat.le_of_ble_eq_true rfl, Nat.le_of_ble_eq_true rfl⟩ rfl rfl (Nat.le_of_ble_eq_true rfl) dX10_isTold_8 ⟨Nat.le_of_ble_eq_true rfl, Nat.le_of_ble_eq_true rfl⟩ ?_
  refine lv_if_eq (tgt := 22) hx hb dX10_isTold_11 (by decide) (fun c3 => ?_) (fun c3 => ?_)
  · have hf := sp1 c3 hf
    refine lv_iconst (v := 0) hx hb dX10_isTold_22 (by decide) ?_
    subst hQ
    exact pe_z C (by decide) hf dX10_isTold_23
  · have hf := sp0 c3 hf
    refine lv_iload_n hx hb dX10_isTold_14 rfl (lv_at hl 0 rfl) ?_
    refine lv_if_eq (tgt := 22) hx hb dX10_isTold_15 (by decide) (fun c4 => ?_) (fun c4 => ?_)
    · have hf := sp1 c4 hf
      refine lv_iconst (v := 0) hx hb dX10_isTold_22 (by decide) ?_
      subst hQ
      exact pe_z C (by decide) hf dX10_isTold_23
    · have hf := sp0 c4 hf
      refine lv_iconst (v := 1) hx hb dX10_isTold_18 (by decide) ?_
      refine lv_goto (tgt := 23) hx hb dX10_isTold_19 (by decide) ?_
      subst hQ
      exact pe_z C (by decide) hf dX10_isTold_23
theorem cp_X10_isTold : CPs yX10_isTold cX10_isTold 1 (some .boolean) 1 := ⟨mw_7_50, mw_1_9, mw_7_49, by decide +kernel⟩
def rm_X10_bits : Room := { frames := 0, cells := 0, slots := 0, locals := 0 }
set_option maxHeartbeats 4000000 in
set_option maxRecDepth 100000 in
theorem c_X10_bits (l : Launch) (p0 : Int32) (r : Int32) (hf : f_X10_bits p0 = some r) : MetP l yX10_bits cX10_bits 3 (some .int) rm_X10_bits [.int p0] (some (.int r)) := by
  refine MetP.of RX10 (by decide) rfl (Nat.le_of_ble_eq_true rfl) ?_
  intro p e s m args below meth c C ls hl
  have hl : lv_has ls 3 [(0, .int p0)] := hl
  obtain ⟨hx, hb, hr, hml, hown, htL, hlocks⟩ := id C
  generalize hQ : MQ below (Pq (some (.int r))) args s 0 0 (fun _ => False) = Q
  have w_4 : ∀ (x1 : Int32) (x2 : Int32) (ls : Array Slot), lv_has ls 3 [(1, .int x1), (2, .int x2)] → n_X10_bits_4 x1 x2 = some r → W p l e rm_X10_bits s m args below meth c s.heap [] 0 0 Q (F0 m 4 ls []) := by
    skip
    have aux : ∀ (n : Nat) (x1 : Int32) (x2 : Int32) (ls : Array Slot), lv_has ls 3 [(1, .int x1), (2, .int x2)] → itr (fun (q : Int32 × Int32) k => s_X10_bits_4  (fun (x1 : Int32) (x2 : Int32) => k (x1, x2)) q.1 q.2) n (x1, x2) = some r → W p l e rm_X10_bits s m args below meth c s.heap [] 0 0 Q (F0 m 4 ls []) := by
      intro n
      induction n with
      | zero => intro x1 x2 ls hl hf; exact (itr_z hf).elim
      | succ n ih =>
      intro x1 x2 ls hl hf
      have hk_4 := ih
      have hf : s_X10_bits_4  (fun (x1 : Int32) (x2 : Int32) => itr (fun (q : Int32 × Int32) k => s_X10_bits_4  (fun (x1 : Int32) (x2 : Int32) => k (x1, x2)) q.1 q.2) n (x1, x2)) x1 x2 = some r := hf
      refine lv_iload_n hx hb dX10_bits_4 rfl (lv_at hl 1 rfl) ?_
      refine lv_if_le (tgt := 21) hx hb dX10_bits_5 (by decide) (fun c1 => ?_) (fun c1 => ?_)
      · have hf := sp1 c1 hf
        refine lv_iload_n hx hb dX10_bits_21 rfl (lv_at hl 0 rfl) ?_
        subst hQ
        exact pe_i C hf dX10_bits_22
      · have hf := sp0 c1 hf
        refine lv_iload_n hx hb dX10_bits_8 rfl (lv_at hl 0 rfl) ?_
        refine lv_iload_n hx hb dX10_bits_9 rfl (lv_at hl 1 rfl) ?_
        refine lv_iconst (v := 2) hx hb dX10_bits_10 (by decide) ?_
        refine lv_irem hx hb dX10_bits_11 (by decide) ?_
        refine lv_iadd hx hb dX10_bits_12 ?_
        refine lv_istore_n (lv' := [(1, .int (x1 + (rI x2 2))), (2, .int x2)]) hx hb dX10_bits_13 rfl hl (by decide) rfl (fun ls hl => ?_)
        refine lv_iload_n hx hb dX10_bits_14 rfl (lv_at hl 1 rfl) ?_
        refine lv_iconst (v := 2) hx hb dX10_bits_15 (by decide) ?_
        refine lv_idiv hx hb dX10_bits_16 (by decide) ?_
        refine lv_istore_n (lv' := [(2, .int (x2 / 2)), (1, .int (x1 + (rI x2 2)))]) hx hb dX10_bits_17 rfl hl (by decide) rfl (fun ls hl => ?_)
        refine lv_goto (tgt := 4) hx hb dX10_bits_18 (by decide) ?_
        exact hk_4 (x1 + (rI x2 2)) (x2 / 2) _ (lv_sub hl [1, 0] rfl) hf
    exact aux FU
  refine lv_iconst (v := 0) hx hb dX10_bits_0 (by decide) ?_
  refine lv_istore_n (lv' := [(1, .int 0), (0, .int p0)]) hx hb dX10_bits_1 rfl hl (by decide) rfl (fun ls hl => ?_)
  refine lv_iload_n hx hb dX10_bits_2 rfl (lv_at hl 1 rfl) ?_
  refine lv_istore_n (lv' := [(2, .int p0), (1, .int 0), (0, .int p0)]) hx hb dX10_bits_3 rfl hl (by decide) rfl (fun ls hl => ?_)
  exact w_4 0 p0 _ (lv_sub hl [1, 0] rfl) hf
theorem cp_X10_bits : CPs yX10_bits cX10_bits 3 (some .int) 1 := ⟨mw_7_84, mw_1_9, mw_7_83, by decide +kernel⟩
def rm_X10_place : Room := { frames := 0, cells := 0, slots := 0, locals := 0 }
set_option maxHeartbeats 4000000 in
set_option maxRecDepth 100000 in
theorem c_X10_place (l : Launch) (p0 : Int32) (p1 : Int32) (r : Int32) (hf : f_X10_place p0 p1 = some r) : MetP l yX10_place cX10_place 4 (some .int) rm_X10_place [.int p0, .int p1] (some (.int r)) := by
  refine MetP.of RX10 (by decide) rfl (Nat.le_of_ble_eq_true rfl) ?_
  intro p e s m args below meth c C ls hl
  have hl : lv_has ls 4 [(0, .int p0), (1, .int p1)] := hl
  obtain ⟨hx, hb, hr, hml, hown, htL, hlocks⟩ := id C
  generalize hQ : MQ below (Pq (some (.int r))) args s 0 0 (fun _ => False) = Q
  have w_4 : ∀ (x0 : Int32) (x2 : Int32) (x3 : Int32) (ls : Array Slot), lv_has ls 4 [(0, .int x0), (2, .int x2), (3, .int x3)] → n_X10_place_4 x0 x2 x3 = some r → W p l e rm_X10_place s m args below meth c s.heap [] 0 0 Q (F0 m 4 ls []) := by
    skip
    have aux : ∀ (n : Nat) (x0 : Int32) (x2 : Int32) (x3 : Int32) (ls : Array Slot), lv_has ls 4 [(0, .int x0), (2, .int x2), (3, .int x3)] → itr (fun (q : Int32 × Int32 × Int32) k => s_X10_place_4  (fun (x0 : Int32) (x2 : Int32) (x3 : Int32) => k (x0, x2, x3)) q.1 q.2.1 q.2.2) n (x0, x2, x3) = some r → W p l e rm_X10_place s m args below meth c s.heap [] 0 0 Q (F0 m 4 ls []) := by
      intro n
      induction n with
      | zero => intro x0 x2 x3 ls hl hf; exact (itr_z hf).elim
      | succ n ih =>
      intro x0 x2 x3 ls hl hf
      have hk_4 := ih
      have hf : s_X10_place_4  (fun (x0 : Int32) (x2 : Int32) (x3 : Int32) => itr (fun (q : Int32 × Int32 × Int32) k => s_X10_place_4  (fun (x0 : Int32) (x2 : Int32) (x3 : Int32) => k (x0, x2, x3)) q.1 q.2.1 q.2.2) n (x0, x2, x3)) x0 x2 x3 = some r := hf
      refine lv_iload_n hx hb dX10_place_4 rfl (lv_at hl 2 rfl) ?_
      refine lv_iconst (v := 4) hx hb dX10_place_5 (by decide) ?_
      refine lv_icmp_ge (tgt := 33) hx hb dX10_place_6 (by decide) (fun c1 => ?_) (fun c1 => ?_)
      · have hf := sp1 c1 hf
        refine lv_iconst (v := 0) hx hb dX10_place_33 (by decide) ?_
        subst hQ
        exact pe_i C hf dX10_place_34
      · have hf := sp0 c1 hf
        refine lv_iload_n hx hb dX10_place_9 rfl (lv_at hl 0 rfl) ?_
        refine lv_iload_n hx hb dX10_place_10 rfl (lv_at hl 2 rfl) ?_
        refine lv_ishr hx hb dX10_place_11 ?_
        refine lv_iconst (v := 1) hx hb dX10_place_12 (by decide) ?_
        refine lv_iand hx hb dX10_place_13 ?_
        refine lv_iconst (v := 1) hx hb dX10_place_14 (by decide) ?_
        refine lv_icmp_ne (tgt := 27) hx hb dX10_place_15 (by decide) (fun c2 => ?_) (fun c2 => ?_)
        · have hf := sp0 c2 hf
          refine lv_iinc (v := (x3 + 1)) (lv' := [(3, .int (x3 + 1)), (0, .int x0), (2, .int x2)]) hx hb dX10_place_27 hl (k := 2) rfl rfl (by decide) rfl (fun ls hl => ?_)
          refine lv_goto (tgt := 4) hx hb dX10_place_30 (by decide) ?_
          exact hk_4 x0 x2 (x3 + 1) _ (lv_sub hl [1, 2, 0] rfl) hf
        · have hf := sp1 c2 hf
          refine lv_iload_n hx hb dX10_place_18 rfl (lv_at hl 1 rfl) ?_
          refine lv_iinc (v := (x2 + (-1))) (lv' := [(2, .int (x2 + (-1))), (0, .int x0), (3, .int x3)]) hx hb dX10_place_19 hl (k := 1) rfl rfl (by decide) rfl (fun ls hl => ?_)
          refine lv_if_ne (tgt := 27) hx hb dX10_place_22 (by decide) (fun c3 => ?_) (fun c3 => ?_)
          · have hf := sp0 c3 hf
            refine lv_iinc (v := (x3 + 1)) (lv' := [(3, .int (x3 + 1)), (2, .int (x2 + (-1))), (0, .int x0)]) hx hb dX10_place_27 hl (k := 2) rfl rfl (by decide) rfl (fun ls hl => ?_)
            refine lv_goto (tgt := 4) hx hb dX10_place_30 (by decide) ?_
            exact hk_4 x0 (x2 + (-1)) (x3 + 1) _ (lv_sub hl [2, 1, 0] rfl) hf
          · have hf := sp1 c3 hf
            refine lv_iload_n hx hb dX10_place_25 rfl (lv_at hl 2 rfl) ?_
            subst hQ
            exact pe_i C hf dX10_place_26
    exact aux FU
  refine lv_iload_n hx hb dX10_place_0 rfl (lv_at hl 1 rfl) ?_
  refine lv_istore_n (lv' := [(2, .int p1), (0, .int p0), (1, .int p1)]) hx hb dX10_place_1 rfl hl (by decide) rfl (fun ls hl => ?_)
  refine lv_iconst (v := 0) hx hb dX10_place_2 (by decide) ?_
  refine lv_istore_n (lv' := [(3, .int 0), (2, .int p1), (0, .int p0), (1, .int p1)]) hx hb dX10_place_3 rfl hl (by decide) rfl (fun ls hl => ?_)
  exact w_4 p0 p1 0 _ (lv_sub hl [2, 1, 0] rfl) hf
theorem cp_X10_place : CPs yX10_place cX10_place 4 (some .int) 2 := ⟨mw_7_88, mw_1_9, mw_7_87, by decide +kernel⟩
