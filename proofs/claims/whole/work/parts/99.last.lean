def f_X8_rest (p0 : Int64) (p1 : Int64) : Option Int64 := (if (0 : Int32) < (lg_cmp p1 0) then (if p1 = (0 : Int64) then none else (if (0 : Int32) ≤ (lg_cmp (rL p0 p1) 0) then (some (rL p0 p1)) else (some ((rL p0 p1) + p1)))) else (some 0))
def f_X8_part (p0 : Int64) (p1 : Int64) : Option Int64 := (if (lg_cmp p1 0) = (0 : Int32) then (some 0) else (if p1 = (0 : Int64) then none else (some (p0 / p1))))
def f_X8_timesModulo (p0 : Int64) (p1 : Int64) (p2 : Int64) : Option Int64 := (b1 (f_X8_rest p0 p2) fun v1 => (b1 (f_X8_rest p1 p2) fun v3 => (b1 (f_X8_rest (v1 * v3) p2) fun v5 => (some v5))))
def n_X8_powerModulo_46 (k_19 : Int64 → Int64 → Int64 → Int64 → Option Int64) (x4 : Int64) (x6 : Int64) (x8 : Int64) (x10 : Int64) : Option Int64 := (b1 (f_X8_timesModulo x8 x8 x4) fun v1 => (k_19 x4 x6 v1 (x10 >>> (Int32.toInt64 1 &&& 63))))
def s_X8_powerModulo_19  (k_19 : Int64 → Int64 → Int64 → Int64 → Option Int64) (x4 : Int64) (x6 : Int64) (x8 : Int64) (x10 : Int64) : Option Int64 := (if (lg_cmp x10 0) ≤ (0 : Int32) then (some x6) else (if (lg_cmp (x10 &&& 1) 1) = (0 : Int32) then (b1 (f_X8_timesModulo x6 x8 x4) fun v5 => (n_X8_powerModulo_46 k_19 x4 v5 x8 x10)) else (n_X8_powerModulo_46 k_19 x4 x6 x8 x10)))
def n_X8_powerModulo_19  (x4 : Int64) (x6 : Int64) (x8 : Int64) (x10 : Int64) : Option Int64 := itr (fun (q : Int64 × Int64 × Int64 × Int64) k => s_X8_powerModulo_19  (fun (x4 : Int64) (x6 : Int64) (x8 : Int64) (x10 : Int64) => k (x4, x6, x8, x10)) q.1 q.2.1 q.2.2.1 q.2.2.2) FU (x4, x6, x8, x10)
def f_X8_powerModulo (p0 : Int64) (p1 : Int64) (p2 : Int64) : Option Int64 := (b1 (f_X8_rest 1 p2) fun v7 => (b1 (f_X8_rest p0 p2) fun v9 => (n_X8_powerModulo_19 p2 v7 v9 p1)))
def s_X8_isPrime_9  (k_9 : Int32 → Int32 → Option Int32) (x0 : Int32) (x1 : Int32) : Option Int32 := (if (0 : Int32) < (lg_cmp ((Int32.toInt64 x1) * (Int32.toInt64 x1)) (Int32.toInt64 x0)) then (some 1) else (b1 (f_X8_rest (Int32.toInt64 x0) (Int32.toInt64 x1)) fun v2 => (if (lg_cmp v2 0) = (0 : Int32) then (some 0) else (k_9 x0 (x1 + 1)))))
def n_X8_isPrime_9  (x0 : Int32) (x1 : Int32) : Option Int32 := itr (fun (q : Int32 × Int32) k => s_X8_isPrime_9  (fun (x0 : Int32) (x1 : Int32) => k (x0, x1)) q.1 q.2) FU (x0, x1)
def f_X8_isPrime (p0 : Int32) : Option Int32 := (if 2 ≤ (p0 : Int32) then (n_X8_isPrime_9 p0 2) else (some 0))
def n_X8_inverseModulo_84  (x2 : Int64) (x8 : Int64) : Option Int64 := (b1 (f_X8_rest x8 x2) fun v1 => (some v1))
def s_X8_inverseModulo_19  (k_19 : Int64 → Int64 → Int64 → Int64 → Int64 → Int32 → Option Int64) (x2 : Int64) (x4 : Int64) (x6 : Int64) (x8 : Int64) (x10 : Int64) (x12 : Int32) : Option Int64 := (if 100 ≤ (x12 : Int32) then (n_X8_inverseModulo_84 x2 x8) else (if (lg_cmp x6 0) = (0 : Int32) then (n_X8_inverseModulo_84 x2 x8) else (b1 (f_X8_part x4 x6) fun v5 => (k_19 x2 x6 (x4 - (v5 * x6)) x10 (x8 - (v5 * x10)) (x12 + 1)))))
def n_X8_inverseModulo_19  (x2 : Int64) (x4 : Int64) (x6 : Int64) (x8 : Int64) (x10 : Int64) (x12 : Int32) : Option Int64 := itr (fun (q : Int64 × Int64 × Int64 × Int64 × Int64 × Int32) k => s_X8_inverseModulo_19  (fun (x2 : Int64) (x4 : Int64) (x6 : Int64) (x8 : Int64) (x10 : Int64) (x12 : Int32) => k (x2, x4, x6, x8, x10, x12)) q.1 q.2.1 q.2.2.1 q.2.2.2.1 q.2.2.2.2.1 q.2.2.2.2.2) FU (x2, x4, x6, x8, x10, x12)
def f_X8_inverseModulo (p0 : Int64) (p1 : Int64) : Option Int64 := (b1 (f_X8_rest p0 p1) fun v7 => (n_X8_inverseModulo_19 p1 p1 v7 0 1 0))
def s_X8_greatestCommon_15  (k_15 : Int64 → Int64 → Int32 → Option Int64) (x4 : Int64) (x6 : Int64) (x8 : Int32) : Option Int64 := (if 100 ≤ (x8 : Int32) then (some x4) else (if (lg_cmp x6 0) = (0 : Int32) then (some x4) else (b1 (f_X8_rest x4 x6) fun v3 => (k_15 x6 v3 (x8 + 1)))))
def n_X8_greatestCommon_15  (x4 : Int64) (x6 : Int64) (x8 : Int32) : Option Int64 := itr (fun (q : Int64 × Int64 × Int32) k => s_X8_greatestCommon_15  (fun (x4 : Int64) (x6 : Int64) (x8 : Int32) => k (x4, x6, x8)) q.1 q.2.1 q.2.2) FU (x4, x6, x8)
def f_X8_greatestCommon (p0 : Int64) (p1 : Int64) : Option Int64 := (n_X8_greatestCommon_15 (abL p0) (abL p1) 0)
def s_X8_factorCount_5  (k_5 : Int32 → Int64 → Int32 → Option Int32) (x2 : Int32) (x3 : Int64) (x5 : Int32) : Option Int32 := (if 64 ≤ (x5 : Int32) then (some x5) else (if (lg_cmp x3 0) = (0 : Int32) then (some x5) else (b1 (f_X8_rest x3 (Int32.toInt64 x2)) fun v3 => (if (lg_cmp v3 0) = (0 : Int32) then (b1 (f_X8_part x3 (Int32.toInt64 x2)) fun v6 => (k_5 x2 v6 (x5 + 1))) else (some x5)))))
def n_X8_factorCount_5  (x2 : Int32) (x3 : Int64) (x5 : Int32) : Option Int32 := itr (fun (q : Int32 × Int64 × Int32) k => s_X8_factorCount_5  (fun (x2 : Int32) (x3 : Int64) (x5 : Int32) => k (x2, x3, x5)) q.1 q.2.1 q.2.2) FU (x2, x3, x5)
def f_X8_factorCount (p0 : Int64) (p1 : Int32) : Option Int32 := (n_X8_factorCount_5 p1 p0 0)
def s_X8_withoutFactors_5  (k_5 : Int32 → Int64 → Int32 → Option Int64) (x2 : Int32) (x3 : Int64) (x5 : Int32) : Option Int64 := (if 64 ≤ (x5 : Int32) then (some x3) else (if (lg_cmp x3 0) = (0 : Int32) then (some x3) else (b1 (f_X8_rest x3 (Int32.toInt64 x2)) fun v3 => (if (lg_cmp v3 0) = (0 : Int32) then (b1 (f_X8_part x3 (Int32.toInt64 x2)) fun v6 => (k_5 x2 v6 (x5 + 1))) else (some x3)))))
def n_X8_withoutFactors_5  (x2 : Int32) (x3 : Int64) (x5 : Int32) : Option Int64 := itr (fun (q : Int32 × Int64 × Int32) k => s_X8_withoutFactors_5  (fun (x2 : Int32) (x3 : Int64) (x5 : Int32) => k (x2, x3, x5)) q.1 q.2.1 q.2.2) FU (x2, x3, x5)
def f_X8_withoutFactors (p0 : Int64) (p1 : Int32) : Option Int64 := (n_X8_withoutFactors_5 p1 p0 0)
def rm_X8_rest : Room := { frames := 0, cells := 0, slots := 0, locals := 0 }
set_option maxHeartbeats 4000000 in
set_option maxRecDepth 100000 in
theorem c_X8_rest (l : Launch) (p0 : Int64) (p1 : Int64) (r : Int64) (hf : f_X8_rest p0 p1 = some r) : MetP l yX8_rest cX8_rest 6 (some .long) rm_X8_rest [.long p0, .long p1] (some (.long r)) := by
  refine MetP.of RX8 (by decide) rfl (Nat.le_of_ble_eq_true rfl) ?_
  intro p e s m args below meth c C ls hl
  have hl : lv_has ls 6 [(0, .long p0), (2, .long p1)] := hl
  obtain ⟨hx, hb, hr, hml, hown, htL, hlocks⟩ := id C
  generalize hQ : MQ below (Pq (some (.long r))) args s 0 0 (fun _ => False) = Q
  refine lv_lload_n hx hb dX8_rest_0 rfl (lv_at hl 1 rfl) ?_
  refine lv_lconst (v := 0) hx hb dX8_rest_1 (by decide) ?_
  refine W.lcmp hx hb dX8_rest_2 ?_
  refine lv_if_gt (tgt := 8) hx hb dX8_rest_3 (by decide) (fun c1 => ?_) (fun c1 => ?_)
  · have hf := sp1 c1 hf
    refine lv_lload_n hx hb dX8_rest_8 rfl (lv_at hl 0 rfl) ?_
    refine lv_lload_n hx hb dX8_rest_9 rfl (lv_at hl 1 rfl) ?_
    obtain ⟨c2, hf⟩ := spn hf
    refine lv_lrem hx hb dX8_rest_10 c2 ?_
    refine lv_lstore (lv' := [(4, .long (rL p0 p1)), (0, .long p0), (2, .long p1)]) hx hb dX8_rest_11 hl (by decide) rfl (fun ls hl => ?_)
    refine lv_lload hx hb dX8_rest_13 (lv_at hl 0 rfl) ?_
    refine lv_lconst (v := 0) hx hb dX8_rest_15 (by decide) ?_
    refine W.lcmp hx hb dX8_rest_16 ?_
    refine lv_if_ge (tgt := 27) hx hb dX8_rest_17 (by decide) (fun c3 => ?_) (fun c3 => ?_)
    · have hf := sp1 c3 hf
      refine lv_lload hx hb dX8_rest_27 (lv_at hl 0 rfl) ?_
      subst hQ
      exact pe_l C hf dX8_rest_29
    · have hf := sp0 c3 hf
      refine lv_lload hx hb dX8_rest_20 (lv_at hl 0 rfl) ?_
      refine lv_lload_n hx hb dX8_rest_22 rfl (lv_at hl 2 rfl) ?_
      refine lv_ladd hx hb dX8_rest_23 ?_
      refine lv_goto (tgt := 29) hx hb dX8_rest_24 (by decide) ?_
      subst hQ
      exact pe_l C hf dX8_rest_29
  · have hf := sp0 c1 hf
    refine lv_lconst (v := 0) hx hb dX8_rest_6 (by decide) ?_
    subst hQ
    exact pe_l C hf dX8_rest_7
theorem cp_X8_rest : CPs yX8_rest cX8_rest 6 (some .long) 2 := ⟨mw_2_77, mw_1_10, mw_2_76, by decide +kernel⟩
def rm_X8_part : Room := { frames := 0, cells := 0, slots := 0, locals := 0 }
set_option maxHeartbeats 4000000 in
set_option maxRecDepth 100000 in
theorem c_X8_part (l : Launch) (p0 : Int64) (p1 : Int64) (r : Int64) (hf : f_X8_part p0 p1 = some r) : MetP l yX8_part cX8_part 4 (some .long) rm_X8_part [.long p0, .long p1] (some (.long r)) := by
  refine MetP.of RX8 (by decide) rfl (Nat.le_of_ble_eq_true rfl) ?_
  intro p e s m args below meth c C ls hl
  have hl : lv_has ls 4 [(0, .long p0), (2, .long p1)] := hl
  obtain ⟨hx, hb, hr, hml, hown, htL, hlocks⟩ := id C
  generalize hQ : MQ below (Pq (some (.long r))) args s 0 0 (fun _ => False) = Q
  refine lv_lload_n hx hb dX8_part_0 rfl (lv_at hl 1 rfl) ?_
  refine lv_lconst (v := 0) hx hb dX8_part_1 (by decide) ?_
  refine W.lcmp hx hb dX8_part_2 ?_
  refine lv_if_eq (tgt := 12) hx hb dX8_part_3 (by decide) (fun c1 => ?_) (fun c1 => ?_)
  · have hf := sp1 c1 hf
    refine lv_lconst (v := 0) hx hb dX8_part_12 (by decide) ?_
    subst hQ
    exact pe_l C hf dX8_part_13
  · have hf := sp0 c1 hf
    refine lv_lload_n hx hb dX8_part_6 rfl (lv_at hl 0 rfl) ?_
    refine lv_lload_n hx hb dX8_part_7 rfl (lv_at hl 1 rfl) ?_
    obtain ⟨c2, hf⟩ := spn hf
    refine lv_ldiv hx hb dX8_part_8 c2 ?_
    refine lv_goto (tgt := 13) hx hb dX8_part_9 (by decide) ?_
    subst hQ
    exact pe_l C hf dX8_part_13
theorem cp_X8_part : CPs yX8_part cX8_part 4 (some .long) 2 := ⟨mw_2_92, mw_1_10, mw_2_91, by decide +kernel⟩
def rm_X8_timesModulo : Room := { frames := 1, cells := 0, slots := 0, locals := 25 }
set_option maxHeartbeats 4000000 in
set_option maxRecDepth 100000 in
theorem c_X8_timesModulo (l : Launch) (p0 : Int64) (p1 : Int64) (p2 : Int64) (r : Int64) (hf : f_X8_timesModulo p0 p1 p2 = some r) : MetP l yX8_timesModulo cX8_timesModulo 6 (some .long) rm_X8_timesModulo [.long p0, .long p1, .long p2] (some (.long r)) := by
  refine MetP.of RX8 (by decide) rfl (Nat.le_of_ble_eq_true rfl) ?_
  intro p e s m args below meth c C ls hl
  have hl : lv_has ls 6 [(0, .long p0), (2, .long p1), (4, .long p2)] := hl
  obtain ⟨hx, hb, hr, hml, hown, htL, hlocks⟩ := id C
  generalize hQ : MQ below (Pq (some (.long r))) args s 0 0 (fun _ => False) = Q
  refine lv_lload_n hx hb dX8_timesModulo_0 rfl (lv_at hl 0 rfl) ?_
  refine lv_lload hx hb dX8_timesModulo_1 (lv_at hl 2 rfl) ?_
  obtain ⟨v1, h2, hf⟩ := b1_some hf
  refine pc_S (As := [.long p0, .long p2]) (rest := []) C (c_X8_rest l p0 p2 v1 h2) hl.1 cp_X8_rest mw_2_75 ⟨rfl, rfl⟩ ⟨Nat.le_of_ble_eq_true rfl, Nat.le_of_ble_eq_true rfl⟩ rfl rfl (Nat.le_of_ble_eq_true rfl) dX8_timesModulo_3 ⟨Nat.le_of_ble_eq_true rfl, Nat.le_of_ble_eq_true rfl⟩ ?_
  refine lv_lload_n hx hb dX8_timesModulo_6 rfl (lv_at hl 1 rfl) ?_
  refine lv_lload hx hb dX8_timesModulo_7 (lv_at hl 2 rfl) ?_
  obtain ⟨v3, h4, hf⟩ := b1_some hf
  refine pc_S (As := [.long p1, .long p2]) (rest := [.long v1]) C (c_X8_rest l p1 p2 v3 h4) hl.1 cp_X8_rest mw_2_75 ⟨rfl, rfl⟩ ⟨Nat.le_of_ble_eq_true rfl, Nat.le_of_ble_eq_true rfl⟩ rfl rfl (Nat.le_of_ble_eq_true rfl) dX8_timesModulo_9 ⟨Nat.le_of_ble_eq_true rfl, Nat.le_of_ble_eq_true rfl⟩ ?_
  refine lv_lmul hx hb dX8_timesModulo_12 ?_
  refine lv_lload hx hb dX8_timesModulo_13 (lv_at hl 2 rfl) ?_
  obtain ⟨v5, h6, hf⟩ := b1_some hf
  refine pc_S (As := [.long (v1 * v3), .long p2]) (rest := []) C (c_X8_rest l (v1 * v3) p2 v5 h6) hl.1 cp_X8_rest mw_2_75 ⟨rfl, rfl⟩ ⟨Nat.le_of_ble_eq_true rfl, Nat.le_of_ble_eq_true rfl⟩ rfl rfl (Nat.le_of_ble_eq_true rfl) dX8_timesModulo_15 ⟨Nat.le_of_ble_eq_true rfl, Nat.le_of_ble_eq_true rfl⟩ ?_
  subst hQ
  exact pe_l C hf dX8_timesModulo_18
theorem cp_X8_timesModulo : CPs yX8_timesModulo cX8_timesModulo 6 (some .long) 3 := ⟨mw_2_74, mw_1_10, mw_2_73, by decide +kernel⟩
def rm_X8_powerModulo : Room := { frames := 2, cells := 0, slots := 0, locals := 50 }
set_option maxHeartbeats 4000000 in
set_option maxRecDepth 100000 in
theorem c_X8_powerModulo (l : Launch) (p0 : Int64) (p1 : Int64) (p2 : Int64) (r : Int64) (hf : f_X8_powerModulo p0 p1 p2 = some r) : MetP l yX8_powerModulo cX8_powerModulo 12 (some .long) rm_X8_powerModulo [.long p0, .long p1, .long p2] (some (.long r)) := by
  refine MetP.of RX8 (by decide) rfl (Nat.le_of_ble_eq_true rfl) ?_
  intro p e s m args below meth c C ls hl
  have hl : lv_has ls 12 [(0, .long p0), (2, .long p1), (4, .long p2)] := hl
  obtain ⟨hx, hb, hr, hml, hown, htL, hlocks⟩ := id C
  generalize hQ : MQ below (Pq (some (.long r))) args s 0 0 (fun _ => False) = Q
  have w_46 : ∀ (k_19 : Int64 → Int64 → Int64 → Int64 → Option Int64) (hk_19 : ∀ (x4 : Int64) (x6 : Int64) (x8 : Int64) (x10 : Int64) (ls : Array Slot), lv_has ls 12 [(4, .long x4), (6, .long x6), (8, .long x8), (10, .long x10)] → k_19 x4 x6 x8 x10 = some r → W p l e rm_X8_powerModulo s m args below meth c s.heap [] 0 0 Q (F0 m 19 ls [])) (x4 : Int64) (x6 : Int64) (x8 : Int64) (x10 : Int64) (ls : Array Slot), lv_has ls 12 [(4, .long x4), (6, .long x6), (8, .long x8), (10, .long x10)] → n_X8_powerModulo_46 k_19 x4 x6 x8 x10 = some r → W p l e rm_X8_powerModulo s m args below meth c s.heap [] 0 0 Q (F0 m 46 ls []) := by
    intro k_19 hk_19 x4 x6 x8 x10 ls hl hf
    refine lv_lload hx hb dX8_powerModulo_46 (lv_at hl 2 rfl) ?_
    refine lv_lload hx hb dX8_powerModulo_48 (lv_at hl 2 rfl) ?_
    refine lv_lload hx hb dX8_powerModulo_50 (lv_at hl 0 rfl) ?_
    obtain ⟨v1, h2, hf⟩ := b1_some hf
    refine pc_S (As := [.long x8, .long x8, .long x4]) (rest := []) C (c_X8_timesModulo l x8 x8 x4 v1 h2) hl.1 cp_X8_timesModulo mw_3_77 ⟨rfl, rfl⟩ ⟨Nat.le_of_ble_eq_true rfl, Nat.le_of_ble_eq_true rfl⟩ rfl rfl (Nat.le_of_ble_eq_true rfl) dX8_powerModulo_52 ⟨Nat.le_of_ble_eq_true rfl, Nat.le_of_ble_eq_true rfl⟩ ?_
    refine lv_lstore (lv' := [(8, .long v1), (4, .long x4), (6, .long x6), (10, .long x10)]) hx hb dX8_powerModulo_55 hl (by decide) rfl (fun ls hl => ?_)
    refine lv_lload hx hb dX8_powerModulo_57 (lv_at hl 3 rfl) ?_
    refine lv_iconst (v := 1) hx hb dX8_powerModulo_59 (by decide) ?_
    refine lv_lshr hx hb dX8_powerModulo_60 rfl ?_
    refine lv_lstore (lv' := [(10, .long (x10 >>> (Int32.toInt64 1 &&& 63))), (8, .long v1), (4, .long x4), (6, .long x6)]) hx hb dX8_powerModulo_61 hl (by decide) rfl (fun ls hl => ?_)
    refine lv_goto (tgt := 19) hx hb dX8_powerModulo_63 (by decide) ?_
    exact hk_19 x4 x6 v1 (x10 >>> (Int32.toInt64 1 &&& 63)) _ (lv_sub hl [2, 3, 1, 0] rfl) hf
  have w_19 : ∀ (x4 : Int64) (x6 : Int64) (x8 : Int64) (x10 : Int64) (ls : Array Slot), lv_has ls 12 [(4, .long x4), (6, .long x6), (8, .long x8), (10, .long x10)] → n_X8_powerModulo_19 x4 x6 x8 x10 = some r → W p l e rm_X8_powerModulo s m args below meth c s.heap [] 0 0 Q (F0 m 19 ls []) := by
    skip
    have aux : ∀ (n : Nat) (x4 : Int64) (x6 : Int64) (x8 : Int64) (x10 : Int64) (ls : Array Slot), lv_has ls 12 [(4, .long x4), (6, .long x6), (8, .long x8), (10, .long x10)] → itr (fun (q : Int64 × Int64 × Int64 × Int64) k => s_X8_powerModulo_19  (fun (x4 : Int64) (x6 : Int64) (x8 : Int64) (x10 : Int64) => k (x4, x6, x8, x10)) q.1 q.2.1 q.2.2.1 q.2.2.2) n (x4, x6, x8, x10) = some r → W p l e rm_X8_powerModulo s m args below meth c s.heap [] 0 0 Q (F0 m 19 ls []) := by
      intro n
      induction n with
      | zero => intro x4 x6 x8 x10 ls hl hf; exact (itr_z hf).elim
      | succ n ih =>
      intro x4 x6 x8 x10 ls hl hf
      have hk_19 := ih
      have hf : s_X8_powerModulo_19  (fun (x4 : Int64) (x6 : Int64) (x8 : Int64) (x10 : Int64) => itr (fun (q : Int64 × Int64 × Int64 × Int64) k => s_X8_powerModulo_19  (fun (x4 : Int64) (x6 : Int64) (x8 : Int64) (x10 : Int64) => k (x4, x6, x8, x10)) q.1 q.2.1 q.2.2.1 q.2.2.2) n (x4, x6, x8, x10)) x4 x6 x8 x10 = some r := hf
      refine lv_lload hx hb dX8_powerModulo_19 (lv_at hl 3 rfl) ?_
      refine lv_lconst (v := 0) hx hb dX8_powerModulo_21 (by decide) ?_
      refine W.lcmp hx hb dX8_powerModulo_22 ?_
      refine lv_if_le (tgt := 66) hx hb dX8_powerModulo_23 (by decide) (fun c3 => ?_) (fun c3 => ?_)
      · have hf := sp1 c3 hf
        refine lv_lload hx hb dX8_powerModulo_66 (lv_at hl 1 rfl) ?_
        subst hQ
        exact pe_l C hf dX8_powerModulo_68
      · have hf := sp0 c3 hf
        refine lv_lload hx hb dX8_powerModulo_26 (lv_at hl 3 rfl) ?_
        refine lv_lconst (v := 1) hx hb dX8_powerModulo_28 (by decide) ?_
        refine lv_land hx hb dX8_powerModulo_29 ?_
        refine lv_lconst (v := 1) hx hb dX8_powerModulo_30 (by decide) ?_
        refine W.lcmp hx hb dX8_powerModulo_31 ?_
        refine lv_if_ne (tgt := 46) hx hb dX8_powerModulo_32 (by decide) (fun c4 => ?_) (fun c4 => ?_)
        · have hf := sp0 c4 hf
          exact w_46 _ hk_19 x4 x6 x8 x10 _ (lv_sub hl [0, 1, 2, 3] rfl) hf
        · have hf := sp1 c4 hf
          refine lv_lload hx hb dX8_powerModulo_35 (lv_at hl 1 rfl) ?_
          refine lv_lload hx hb dX8_powerModulo_37 (lv_at hl 2 rfl) ?_
          refine lv_lload hx hb dX8_powerModulo_39 (lv_at hl 0 rfl) ?_
          obtain ⟨v5, h6, hf⟩ := b1_some hf
          refine pc_S (As := [.long x6, .long x8, .long x4]) (rest := []) C (c_X8_timesModulo l x6 x8 x4 v5 h6) hl.1 cp_X8_timesModulo mw_3_77 ⟨rfl, rfl⟩ ⟨Nat.le_of_ble_eq_true rfl, Nat.le_of_ble_eq_true rfl⟩ rfl rfl (Nat.le_of_ble_eq_true rfl) dX8_powerModulo_41 ⟨Nat.le_of_ble_eq_true rfl, Nat.le_of_ble_eq_true rfl⟩ ?_
          refine lv_lstore (lv' := [(6, .long v5), (4, .long x4), (8, .long x8), (10, .long x10)]) hx hb dX8_powerModulo_44 hl (by decide) rfl (fun ls hl => ?_)
          exact w_46 _ hk_19 x4 v5 x8 x10 _ (lv_sub hl [1, 0, 2, 3] rfl) hf
    exact aux FU
  refine lv_lconst (v := 1) hx hb dX8_powerModulo_0 (by decide) ?_
  refine lv_lload hx hb dX8_powerModulo_1 (lv_at hl 2 rfl) ?_
  obtain ⟨v7, h8, hf⟩ := b1_some hf
  refine pc_S (As := [.long 1, .long p2]) (rest := []) C (c_X8_rest l 1 p2 v7 h8) hl.1 cp_X8_rest mw_2_75 ⟨rfl, rfl⟩ ⟨Nat.le_of_ble_eq_true rfl, Nat.le_of_ble_eq_true rfl⟩ rfl rfl (Nat.le_of_ble_eq_true rfl) dX8_powerModulo_3 ⟨Nat.le_of_ble_eq_true rfl, Nat.le_of_ble_eq_true rfl⟩ ?_
  refine lv_lstore (lv' := [(6, .long v7), (0, .long p0), (2, .long p1), (4, .long p2)]) hx hb dX8_powerModulo_6 hl (by decide) rfl (fun ls hl => ?_)
  refine lv_lload_n hx hb dX8_powerModulo_8 rfl (lv_at hl 1 rfl) ?_
  refine lv_lload hx hb dX8_powerModulo_9 (lv_at hl 3 rfl) ?_
  obtain ⟨v9, h10, hf⟩ := b1_some hf
  refine pc_S (As := [.long p0, .long p2]) (rest := []) C (c_X8_rest l p0 p2 v9 h10) hl.1 cp_X8_rest mw_2_75 ⟨rfl, rfl⟩ ⟨Nat.le_of_ble_eq_true rfl, Nat.le_of_ble_eq_true rfl⟩ rfl rfl (Nat.le_of_ble_eq_true rfl) dX8_powerModulo_11 ⟨Nat.le_of_ble_eq_true rfl, Nat.le_of_ble_eq_true rfl⟩ ?_
  refine lv_lstore (lv' := [(8, .long v9), (6, .long v7), (0, .long p0), (2, .long p1), (4, .long p2)]) hx hb dX8_powerModulo_14 hl (by decide) rfl (fun ls hl => ?_)
  refine lv_lload_n hx hb dX8_powerModulo_16 rfl (lv_at hl 3 rfl) ?_
  refine lv_lstore (lv' := [(10, .long p1), (8, .long v9), (6, .long v7), (0, .long p0), (2, .long p1), (4, .long p2)]) hx hb dX8_powerModulo_17 hl (by decide) rfl (fun ls hl => ?_)
  exact w_19 p2 v7 v9 p1 _ (lv_sub hl [5, 2, 1, 0] rfl) hf
theorem cp_X8_powerModulo : CPs yX8_powerModulo cX8_powerModulo 12 (some .long) 3 := ⟨mw_3_76, mw_1_10, mw_3_75, by decide +kernel⟩
def rm_X8_isPrime : Room := { frames := 1, cells := 0, slots := 0, locals := 25 }
set_option maxHeartbeats 4000000 in
set_option maxRecDepth 100000 in
theorem c_X8_isPrime (l : Launch) (p0 : Int32) (r : Int32) (hf : f_X8_isPrime p0 = some r) : MetP l yX8_isPrime cX8_isPrime 2 (some .boolean) rm_X8_isPrime [.int p0] (some (.int r)) := by
  refine MetP.of RX8 (by decide) rfl (Nat.le_of_ble_eq_true rfl) ?_
  intro p e s m args below meth c C ls hl
  have hl : lv_has ls 2 [(0, .int p0)] := hl
  obtain ⟨hx, hb, hr, hml, hown, htL, hlocks⟩ := id C
  generalize hQ : MQ below (Pq (some (.int r))) args s 0 0 (fun _ => False) = Q
  have w_9 : ∀ (x0 : Int32) (x1 : Int32) (ls : Array Slot), lv_has ls 2 [(0, .int x0), (1, .int x1)] → n_X8_isPrime_9 x0 x1 = some r → W p l e rm_X8_isPrime s m args below meth c s.heap [] 0 0 Q (F0 m 9 ls []) := by
    skip
    have aux : ∀ (n : Nat) (x0 : Int32) (x1 : Int32) (ls : Array Slot), lv_has ls 2 [(0, .int x0), (1, .int x1)] → itr (fun (q : Int32 × Int32) k => s_X8_isPrime_9  (fun (x0 : Int32) (x1 : Int32) => k (x0, x1)) q.1 q.2) n (x0, x1) = some r → W p l e rm_X8_isPrime s m args below meth c s.heap [] 0 0 Q (F0 m 9 ls []) := by
      intro n
      induction n with
      | zero => intro x0 x1 ls hl hf; exact (itr_z hf).elim
      | succ n ih =>
      intro x0 x1 ls hl hf
      have hk_9 := ih
      have hf : s_X8_isPrime_9  (fun (x0 : Int32) (x1 : Int32) => itr (fun (q : Int32 × Int32) k => s_X8_isPrime_9  (fun (x0 : Int32) (x1 : Int32) => k (x0, x1)) q.1 q.2) n (x0, x1)) x0 x1 = some r := hf
      refine lv_iload_n hx hb dX8_isPrime_9 rfl (lv_at hl 1 rfl) ?_
      refine lv_i2l hx hb dX8_isPrime_10 rfl ?_
      refine lv_iload_n hx hb dX8_isPrime_11 rfl (lv_at hl 1 rfl) ?_
      refine lv_i2l hx hb dX8_isPrime_12 rfl ?_
      refine lv_lmul hx hb dX8_isPrime_13 ?_
      refine lv_iload_n hx hb dX8_isPrime_14 rfl (lv_at hl 0 rfl) ?_
      refine lv_i2l hx hb dX8_isPrime_15 rfl ?_
      refine W.lcmp hx hb dX8_isPrime_16 ?_
      refine lv_if_gt (tgt := 40) hx hb dX8_isPrime_17 (by decide) (fun c1 => ?_) (fun c1 => ?_)
      · have hf := sp1 c1 hf
        refine lv_iconst (v := 1) hx hb dX8_isPrime_40 (by decide) ?_
        subst hQ
        exact pe_z C (by decide) hf dX8_isPrime_41
      · have hf := sp0 c1 hf
        refine lv_iload_n hx hb dX8_isPrime_20 rfl (lv_at hl 0 rfl) ?_
        refine lv_i2l hx hb dX8_isPrime_21 rfl ?_
        refine lv_iload_n hx hb dX8_isPrime_22 rfl (lv_at hl 1 rfl) ?_
        refine lv_i2l hx hb dX8_isPrime_23 rfl ?_
        obtain ⟨v2, h3, hf⟩ := b1_some hf
        refine pc_S (As := [.long (Int32.toInt64 x0), .long (Int32.toInt64 x1)]) (rest := []) C (c_X8_rest l (Int32.toInt64 x0) (Int32.toInt64 x1) v2 h3) hl.1 cp_X8_rest mw_2_75 ⟨rfl, rfl⟩ ⟨Nat.le_of_ble_eq_true rfl, Nat.le_of_ble_eq_true rfl⟩ rfl rfl (Nat.le_of_ble_eq_true rfl) dX8_isPrime_24 ⟨Nat.le_of_ble_eq_true rfl, Nat.le_of_ble_eq_true rfl⟩ ?_
        refine lv_lconst (v := 0) hx hb dX8_isPrime_27 (by decide) ?_
        refine W.lcmp hx hb dX8_isPrime_28 ?_
        refine lv_if_ne (tgt := 34) hx hb dX8_isPrime_29 (by decide) (fun c4 => ?_) (fun c4 => ?_)
        · have hf := sp0 c4 hf
          refine lv_iinc (v := (x1 + 1)) (lv' := [(1, .int (x1 + 1)), (0, .int x0)]) hx hb dX8_isPrime_34 hl (k := 1) rfl rfl (by decide) rfl (fun ls hl => ?_)
          refine lv_goto (tgt := 9) hx hb dX8_isPrime_37 (by decide) ?_
          exact hk_9 x0 (x1 + 1) _ (lv_sub hl [1, 0] rfl) hf
        · have hf := sp1 c4 hf
          refine lv_iconst (v := 0) hx hb dX8_isPrime_32 (by decide) ?_
          subst hQ
          exact pe_z C (by decide) hf dX8_isPrime_33
    exact aux FU
  refine lv_iload_n hx hb dX8_isPrime_0 rfl (lv_at hl 0 rfl) ?_
  refine lv_iconst (v := 2) hx hb dX8_isPrime_1 (by decide) ?_
  refine lv_icmp_ge (tgt := 7) hx hb dX8_isPrime_2 (by decide) (fun c5 => ?_) (fun c5 => ?_)
  · have hf := sp1 c5 hf
    refine lv_iconst (v := 2) hx hb dX8_isPrime_7 (by decide) ?_
    refine lv_istore_n (lv' := [(1, .int 2), (0, .int p0)]) hx hb dX8_isPrime_8 rfl hl (by decide) rfl (fun ls hl => ?_)
    exact w_9 p0 2 _ (lv_sub hl [1, 0] rfl) hf
  · have hf := sp0 c5 hf
    refine lv_iconst (v := 0) hx hb dX8_isPrime_5 (by decide) ?_
    subst hQ
    exact pe_z C (by decide) hf dX8_isPrime_6
theorem cp_X8_isPrime : CPs yX8_isPrime cX8_isPrime 2 (some .boolean) 1 := ⟨mw_2_146, mw_1_10, mw_2_145, by decide +kernel⟩
def rm_X8_inverseModulo : Room := { frames := 1, cells := 0, slots := 0, locals := 25 }
set_option maxHeartbeats 4000000 in
set_option maxRecDepth 100000 in
theorem c_X8_inverseModulo (l : Launch) (p0 : Int64) (p1 : Int64) (r : Int64) (hf : f_X8_inverseModulo p0 p1 = some r) : MetP l yX8_inverseModulo cX8_inverseModulo 19 (some .long) rm_X8_inverseModulo [.long p0, .long p1] (some (.long r)) := by
  refine MetP.of RX8 (by decide) rfl (Nat.le_of_ble_eq_true rfl) ?_
  intro p e s m args below meth c C ls hl
  have hl : lv_has ls 19 [(0, .long p0), (2, .long p1)] := hl
  obtain ⟨hx, hb, hr, hml, hown, htL, hlocks⟩ := id C
  generalize hQ : MQ below (Pq (some (.long r))) args s 0 0 (fun _ => False) = Q
  have w_84 : ∀ (x2 : Int64) (x8 : Int64) (ls : Array Slot), lv_has ls 19 [(2, .long x2), (8, .long x8)] → n_X8_inverseModulo_84 x2 x8 = some r → W p l e rm_X8_inverseModulo s m args below meth c s.heap [] 0 0 Q (F0 m 84 ls []) := by
    intro x2 x8 ls hl hf
    refine lv_lload hx hb dX8_inverseModulo_84 (lv_at hl 1 rfl) ?_
    refine lv_lload_n hx hb dX8_inverseModulo_86 rfl (lv_at hl 0 rfl) ?_
    obtain ⟨v1, h2, hf⟩ := b1_some hf
    refine pc_S (As := [.long x8, .long x2]) (rest := []) C (c_X8_rest l x8 x2 v1 h2) hl.1 cp_X8_rest mw_2_75 ⟨rfl, rfl⟩ ⟨Nat.le_of_ble_eq_true rfl, Nat.le_of_ble_eq_true rfl⟩ rfl rfl (Nat.le_of_ble_eq_true rfl) dX8_inverseModulo_87 ⟨Nat.le_of_ble_eq_true rfl, Nat.le_of_ble_eq_true rfl⟩ ?_
    subst hQ
    exact pe_l C hf dX8_inverseModulo_90
  have w_19 : ∀ (x2 : Int64) (x4 : Int64) (x6 : Int64) (x8 : Int64) (x10 : Int64) (x12 : Int32) (ls : Array Slot), lv_has ls 19 [(2, .long x2), (4, .long x4), (6, .long x6), (8, .long x8), (10, .long x10), (12, .int x12)] → n_X8_inverseModulo_19 x2 x4 x6 x8 x10 x12 = some r → W p l e rm_X8_inverseModulo s m args below meth c s.heap [] 0 0 Q (F0 m 19 ls []) := by
    skip
    have aux : ∀ (n : Nat) (x2 : Int64) (x4 : Int64) (x6 : Int64) (x8 : Int64) (x10 : Int64) (x12 : Int32) (ls : Array Slot), lv_has ls 19 [(2, .long x2), (4, .long x4), (6, .long x6), (8, .long x8), (10, .long x10), (12, .int x12)] → itr (fun (q : Int64 × Int64 × Int64 × Int64 × Int64 × Int32) k => s_X8_inverseModulo_19  (fun (x2 : Int64) (x4 : Int64) (x6 : Int64) (x8 : Int64) (x10 : Int64) (x12 : Int32) => k (x2, x4, x6, x8, x10, x12)) q.1 q.2.1 q.2.2.1 q.2.2.2.1 q.2.2.2.2.1 q.2.2.2.2.2) n (x2, x4, x6, x8, x10, x12) = some r → W p l e rm_X8_inverseModulo s m args below meth c s.heap [] 0 0 Q (F0 m 19 ls []) := by
      intro n
      induction n with
      | zero => intro x2 x4 x6 x8 x10 x12 ls hl hf; exact (itr_z hf).elim
      | succ n ih =>
      intro x2 x4 x6 x8 x10 x12 ls hl hf
      have hk_19 := ih
      have hf : s_X8_inverseModulo_19  (fun (x2 : Int64) (x4 : Int64) (x6 : Int64) (x8 : Int64) (x10 : Int64) (x12 : Int32) => itr (fun (q : Int64 × Int64 × Int64 × Int64 × Int64 × Int32) k => s_X8_inverseModulo_19  (fun (x2 : Int64) (x4 : Int64) (x6 : Int64) (x8 : Int64) (x10 : Int64) (x12 : Int32) => k (x2, x4, x6, x8, x10, x12)) q.1 q.2.1 q.2.2.1 q.2.2.2.1 q.2.2.2.2.1 q.2.2.2.2.2) n (x2, x4, x6, x8, x10, x12)) x2 x4 x6 x8 x10 x12 = some r := hf
      refine lv_iload hx hb dX8_inverseModulo_19 (lv_at hl 5 rfl) ?_
      refine lv_bipush (v := 100) hx hb dX8_inverseModulo_21 (by decide) ?_
      refine lv_icmp_ge (tgt := 84) hx hb dX8_inverseModulo_23 (by decide) (fun c3 => ?_) (fun c3 => ?_)
      · have hf := sp1 c3 hf
        exact w_84 x2 x8 _ (lv_sub hl [0, 3] rfl) hf
      · have hf := sp0 c3 hf
        refine lv_lload hx hb dX8_inverseModulo_26 (lv_at hl 2 rfl) ?_
        refine lv_lconst (v := 0) hx hb dX8_inverseModulo_28 (by decide) ?_
        refine W.lcmp hx hb dX8_inverseModulo_29 ?_
        refine lv_if_eq (tgt := 84) hx hb dX8_inverseModulo_30 (by decide) (fun c4 => ?_) (fun c4 => ?_)
        · have hf := sp1 c4 hf
          exact w_84 x2 x8 _ (lv_sub hl [0, 3] rfl) hf
        · have hf := sp0 c4 hf
          refine lv_lload hx hb dX8_inverseModulo_33 (lv_at hl 1 rfl) ?_
          refine lv_lload hx hb dX8_inverseModulo_35 (lv_at hl 2 rfl) ?_
          obtain ⟨v5, h6, hf⟩ := b1_some hf
          refine pc_S (As := [.long x4, .long x6]) (rest := []) C (c_X8_part l x4 x6 v5 h6) hl.1 cp_X8_part mw_2_90 ⟨rfl, rfl⟩ ⟨Nat.le_of_ble_eq_true rfl, Nat.le_of_ble_eq_true rfl⟩ rfl rfl (Nat.le_of_ble_eq_true rfl) dX8_inverseModulo_37 ⟨Nat.le_of_ble_eq_true rfl, Nat.le_of_ble_eq_true rfl⟩ ?_
          refine lv_lstore (lv' := [(13, .long v5), (2, .long x2), (4, .long x4), (6, .long x6), (8, .long x8), (10, .long x10), (12, .int x12)]) hx hb dX8_inverseModulo_40 hl (by decide) rfl (fun ls hl => ?_)
          refine lv_lload hx hb dX8_inverseModulo_42 (lv_at hl 2 rfl) ?_
          refine lv_lload hx hb dX8_inverseModulo_44 (lv_at hl 0 rfl) ?_
          refine lv_lload hx hb dX8_inverseModulo_46 (lv_at hl 3 rfl) ?_
          refine lv_lmul hx hb dX8_inverseModulo_48 ?_
          refine lv_lsub hx hb dX8_inverseModulo_49 ?_
          refine lv_lstore (lv' := [(15, .long (x4 - (v5 * x6))), (13, .long v5), (2, .long x2), (4, .long x4), (6, .long x6), (8, .long x8), (10, .long x10), (12, .int x12)]) hx hb dX8_inverseModulo_50 hl (by decide) rfl (fun ls hl => ?_)
          refine lv_lload hx hb dX8_inverseModulo_52 (lv_at hl 5 rfl) ?_
          refine lv_lload hx hb dX8_inverseModulo_54 (lv_at hl 1 rfl) ?_
          refine lv_lload hx hb dX8_inverseModulo_56 (lv_at hl 6 rfl) ?_
          refine lv_lmul hx hb dX8_inverseModulo_58 ?_
          refine lv_lsub hx hb dX8_inverseModulo_59 ?_
          refine lv_lstore (lv' := [(17, .long (x8 - (v5 * x10))), (15, .long (x4 - (v5 * x6))), (13, .long v5), (2, .long x2), (4, .long x4), (6, .long x6), (8, .long x8), (10, .long x10), (12, .int x12)]) hx hb dX8_inverseModulo_60 hl (by decide) rfl (fun ls hl => ?_)
          refine lv_lload hx hb dX8_inverseModulo_62 (lv_at hl 5 rfl) ?_
          refine lv_lstore (lv' := [(4, .long x6), (17, .long (x8 - (v5 * x10))), (15, .long (x4 - (v5 * x6))), (13, .long v5), (2, .long x2), (6, .long x6), (8, .long x8), (10, .long x10), (12, .int x12)]) hx hb dX8_inverseModulo_64 hl (by decide) rfl (fun ls hl => ?_)
          refine lv_lload hx hb dX8_inverseModulo_66 (lv_at hl 7 rfl) ?_
          refine lv_lstore (lv' := [(8, .long x10), (4, .long x6), (17, .long (x8 - (v5 * x10))), (15, .long (x4 - (v5 * x6))), (13, .long v5), (2, .long x2), (6, .long x6), (10, .long x10), (12, .int x12)]) hx hb dX8_inverseModulo_68 hl (by decide) rfl (fun ls hl => ?_)
          refine lv_lload hx hb dX8_inverseModulo_70 (lv_at hl 3 rfl) ?_
          refine lv_lstore (lv' := [(6, .long (x4 - (v5 * x6))), (8, .long x10), (4, .long x6), (17, .long (x8 - (v5 * x10))), (15, .long (x4 - (v5 * x6))), (13, .long v5), (2, .long x2), (10, .long x10), (12, .int x12)]) hx hb dX8_inverseModulo_72 hl (by decide) rfl (fun ls hl => ?_)
          refine lv_lload hx hb dX8_inverseModulo_74 (lv_at hl 3 rfl) ?_
          refine lv_lstore (lv' := [(10, .long (x8 - (v5 * x10))), (6, .long (x4 - (v5 * x6))), (8, .long x10), (4, .long x6), (17, .long (x8 - (v5 * x10))), (15, .long (x4 - (v5 * x6))), (13, .long v5), (2, .long x2), (12, .int x12)]) hx hb dX8_inverseModulo_76 hl (by decide) rfl (fun ls hl => ?_)
          refine lv_iinc (v := (x12 + 1)) (lv' := [(12, .int (x12 + 1)), (10, .long (x8 - (v5 * x10))), (6, .long (x4 - (v5 * x6))), (8, .long x10), (4, .long x6), (17, .long (x8 - (v5 * x10))), (15, .long (x4 - (v5 * x6))), (13, .long v5), (2, .long x2)]) hx hb dX8_inverseModulo_78 hl (k := 8) rfl rfl (by decide) rfl (fun ls hl => ?_)
          refine lv_goto (tgt := 19) hx hb dX8_inverseModulo_81 (by decide) ?_
          exact hk_19 x2 x6 (x4 - (v5 * x6)) x10 (x8 - (v5 * x10)) (x12 + 1) _ (lv_sub hl [8, 4, 2, 3, 1, 0] rfl) hf
    exact aux FU
  refine lv_lload_n hx hb dX8_inverseModulo_0 rfl (lv_at hl 1 rfl) ?_
  refine lv_lstore (lv' := [(4, .long p1), (0, .long p0), (2, .long p1)]) hx hb dX8_inverseModulo_1 hl (by decide) rfl (fun ls hl => ?_)
  refine lv_lload_n hx hb dX8_inverseModulo_3 rfl (lv_at hl 1 rfl) ?_
  refine lv_lload_n hx hb dX8_inverseModulo_4 rfl (lv_at hl 2 rfl) ?_
  obtain ⟨v7, h8, hf⟩ := b1_some hf
  refine pc_S (As := [.long p0, .long p1]) (rest := []) C (c_X8_rest l p0 p1 v7 h8) hl.1 cp_X8_rest mw_2_75 ⟨rfl, rfl⟩ ⟨Nat.le_of_ble_eq_true rfl, Nat.le_of_ble_eq_true rfl⟩ rfl rfl (Nat.le_of_ble_eq_true rfl) dX8_inverseModulo_5 ⟨Nat.le_of_ble_eq_true rfl, Nat.le_of_ble_eq_true rfl⟩ ?_
  refine lv_lstore (lv' := [(6, .long v7), (4, .long p1), (0, .long p0), (2, .long p1)]) hx hb dX8_inverseModulo_8 hl (by decide) rfl (fun ls hl => ?_)
  refine lv_lconst (v := 0) hx hb dX8_inverseModulo_10 (by decide) ?_
  refine lv_lstore (lv' := [(8, .long 0), (6, .long v7), (4, .long p1), (0, .long p0), (2, .long p1)]) hx hb dX8_inverseModulo_11 hl (by decide) rfl (fun ls hl => ?_)
  refine lv_lconst (v := 1) hx hb dX8_inverseModulo_13 (by decide) ?_
  refine lv_lstore (lv' := [(10, .long 1), (8, .long 0), (6, .long v7), (4, .long p1), (0, .long p0), (2, .long p1)]) hx hb dX8_inverseModulo_14 hl (by decide) rfl (fun ls hl => ?_)
  refine lv_iconst (v := 0) hx hb dX8_inverseModulo_16 (by decide) ?_
  refine lv_istore (lv' := [(12, .int 0), (10, .long 1), (8, .long 0), (6, .long v7), (4, .long p1), (0, .long p0), (2, .long p1)]) hx hb dX8_inverseModulo_17 hl (by decide) rfl (fun ls hl => ?_)
  exact w_19 p1 p1 v7 0 1 0 _ (lv_sub hl [6, 4, 3, 2, 1, 0] rfl) hf
theorem cp_X8_inverseModulo : CPs yX8_inverseModulo cX8_inverseModulo 19 (some .long) 2 := ⟨mw_3_52, mw_1_10, mw_3_51, by decide +kernel⟩
def rm_X8_greatestCommon : Room := { frames := 1, cells := 0, slots := 0, locals := 40 }
set_option maxHeartbeats 4000000 in
set_option maxRecDepth 100000 in
theorem c_X8_greatestCommon (l : Launch) (p0 : Int64) (p1 : Int64) (r : Int64) (hf : f_X8_greatestCommon p0 p1 = some r) : MetP l yX8_greatestCommon cX8_greatestCommon 11 (some .long) rm_X8_greatestCommon [.long p0, .long p1] (some (.long r)) := by
  refine MetP.of RX8 (by decide) rfl (Nat.le_of_ble_eq_true rfl) ?_
  intro p e s m args below meth c C ls hl
  have hl : lv_has ls 11 [(0, .long p0), (2, .long p1)] := hl
  obtain ⟨hx, hb, hr, hml, hown, htL, hlocks⟩ := id C
  generalize hQ : MQ below (Pq (some (.long r))) args s 0 0 (fun _ => False) = Q
  have w_15 : ∀ (x4 : Int64) (x6 : Int64) (x8 : Int32) (ls : Array Slot), lv_has ls 11 [(4, .long x4), (6, .long x6), (8, .int x8)] → n_X8_greatestCommon_15 x4 x6 x8 = some r → W p l e rm_X8_greatestCommon s m args below meth c s.heap [] 0 0 Q (F0 m 15 ls []) := by
    skip
    have aux : ∀ (n : Nat) (x4 : Int64) (x6 : Int64) (x8 : Int32) (ls : Array Slot), lv_has ls 11 [(4, .long x4), (6, .long x6), (8, .int x8)] → itr (fun (q : Int64 × Int64 × Int32) k => s_X8_greatestCommon_15  (fun (x4 : Int64) (x6 : Int64) (x8 : Int32) => k (x4, x6, x8)) q.1 q.2.1 q.2.2) n (x4, x6, x8) = some r → W p l e rm_X8_greatestCommon s m args below meth c s.heap [] 0 0 Q (F0 m 15 ls []) := by
      intro n
      induction n with
      | zero => intro x4 x6 x8 ls hl hf; exact (itr_z hf).elim
      | succ n ih =>
      intro x4 x6 x8 ls hl hf
      have hk_15 := ih
      have hf : s_X8_greatestCommon_15  (fun (x4 : Int64) (x6 : Int64) (x8 : Int32) => itr (fun (q : Int64 × Int64 × Int32) k => s_X8_greatestCommon_15  (fun (x4 : Int64) (x6 : Int64) (x8 : Int32) => k (x4, x6, x8)) q.1 q.2.1 q.2.2) n (x4, x6, x8)) x4 x6 x8 = some r := hf
      refine lv_iload hx hb dX8_greatestCommon_15 (lv_at hl 2 rfl) ?_
      refine lv_bipush (v := 100) hx hb dX8_greatestCommon_17 (by decide) ?_
      refine lv_icmp_ge (tgt := 52) hx hb dX8_greatestCommon_19 (by decide) (fun c1 => ?_) (fun c1 => ?_)
      · have hf := sp1 c1 hf
        refine lv_lload hx hb dX8_greatestCommon_52 (lv_at hl 0 rfl) ?_
        subst hQ
        exact pe_l C hf dX8_greatestCommon_54
      · have hf := sp0 c1 hf
        refine lv_lload hx hb dX8_greatestCommon_22 (lv_at hl 1 rfl) ?_
        refine lv_lconst (v := 0) hx hb dX8_greatestCommon_24 (by decide) ?_
        refine W.lcmp hx hb dX8_greatestCommon_25 ?_
        refine lv_if_eq (tgt := 52) hx hb dX8_greatestCommon_26 (by decide) (fun c2 => ?_) (fun c2 => ?_)
        · have hf := sp1 c2 hf
          refine lv_lload hx hb dX8_greatestCommon_52 (lv_at hl 0 rfl) ?_
          subst hQ
          exact pe_l C hf dX8_greatestCommon_54
        · have hf := sp0 c2 hf
          refine lv_lload hx hb dX8_greatestCommon_29 (lv_at hl 0 rfl) ?_
          refine lv_lload hx hb dX8_greatestCommon_31 (lv_at hl 1 rfl) ?_
          obtain ⟨v3, h4, hf⟩ := b1_some hf
          refine pc_S (As := [.long x4, .long x6]) (rest := []) C (c_X8_rest l x4 x6 v3 h4) hl.1 cp_X8_rest mw_2_75 ⟨rfl, rfl⟩ ⟨Nat.le_of_ble_eq_true rfl, Nat.le_of_ble_eq_true rfl⟩ rfl rfl (Nat.le_of_ble_eq_true rfl) dX8_greatestCommon_33 ⟨Nat.le_of_ble_eq_true rfl, Nat.le_of_ble_eq_true rfl⟩ ?_
          refine lv_lstore (lv' := [(9, .long v3), (4, .long x4), (6, .long x6), (8, .int x8)]) hx hb dX8_greatestCommon_36 hl (by decide) rfl (fun ls hl => ?_)
          refine lv_lload hx hb dX8_greatestCommon_38 (lv_at hl 2 rfl) ?_
          refine lv_lstore (lv' := [(4, .long x6), (9, .long v3), (6, .long x6), (8, .int x8)]) hx hb dX8_greatestCommon_40 hl (by decide) rfl (fun ls hl => ?_)
          refine lv_lload hx hb dX8_greatestCommon_42 (lv_at hl 1 rfl) ?_
          refine lv_lstore (lv' := [(6, .long v3), (4, .long x6), (9, .long v3), (8, .int x8)]) hx hb dX8_greatestCommon_44 hl (by decide) rfl (fun ls hl => ?_)
          refine lv_iinc (v := (x8 + 1)) (lv' := [(8, .int (x8 + 1)), (6, .long v3), (4, .long x6), (9, .long v3)]) hx hb dX8_greatestCommon_46 hl (k := 3) rfl rfl (by decide) rfl (fun ls hl => ?_)
          refine lv_goto (tgt := 15) hx hb dX8_greatestCommon_49 (by decide) ?_
          exact hk_15 x6 v3 (x8 + 1) _ (lv_sub hl [2, 1, 0] rfl) hf
    exact aux FU
  refine lv_lload_n hx hb dX8_greatestCommon_0 rfl (lv_at hl 0 rfl) ?_
  refine va_mabs_long (ls := _) hx hb (hml.trans hl.1.symm) hown (htL _ mw_4_106) (htL _ mw_4_101) (htL _ mw_1_17) (htL _ mw_4_102) (Nat.le_of_ble_eq_true rfl) (Nat.le_of_ble_eq_true rfl) (Nat.le_of_ble_eq_true rfl) (Nat.le_of_ble_eq_true rfl) dX8_greatestCommon_1 ?_
  refine lv_lstore (lv' := [(4, .long (abL p0)), (0, .long p0), (2, .long p1)]) hx hb dX8_greatestCommon_4 hl (by decide) rfl (fun ls hl => ?_)
  refine lv_lload_n hx hb dX8_greatestCommon_6 rfl (lv_at hl 2 rfl) ?_
  refine va_mabs_long (ls := _) hx hb (hml.trans hl.1.symm) hown (htL _ mw_4_106) (htL _ mw_4_101) (htL _ mw_1_17) (htL _ mw_4_102) (Nat.le_of_ble_eq_true rfl) (Nat.le_of_ble_eq_true rfl) (Nat.le_of_ble_eq_true rfl) (Nat.le_of_ble_eq_true rfl) dX8_greatestCommon_7 ?_
  refine lv_lstore (lv' := [(6, .long (abL p1)), (4, .long (abL p0)), (0, .long p0), (2, .long p1)]) hx hb dX8_greatestCommon_10 hl (by decide) rfl (fun ls hl => ?_)
  refine lv_iconst (v := 0) hx hb dX8_greatestCommon_12 (by decide) ?_
  refine lv_istore (lv' := [(8, .int 0), (6, .long (abL p1)), (4, .long (abL p0)), (0, .long p0), (2, .long p1)]) hx hb dX8_greatestCommon_13 hl (by decide) rfl (fun ls hl => ?_)
  exact w_15 (abL p0) (abL p1) 0 _ (lv_sub hl [2, 1, 0] rfl) hf
theorem cp_X8_greatestCommon : CPs yX8_greatestCommon cX8_greatestCommon 11 (some .long) 2 := ⟨mw_4_105, mw_1_10, mw_4_104, by decide +kernel⟩
def rm_X8_factorCount : Room := { frames := 1, cells := 0, slots := 0, locals := 25 }
set_option maxHeartbeats 4000000 in
set_option maxRecDepth 100000 in
theorem c_X8_factorCount (l : Launch) (p0 : Int64) (p1 : Int32) (r : Int32) (hf : f_X8_factorCount p0 p1 = some r) : MetP l yX8_factorCount cX8_factorCount 6 (some .int) rm_X8_factorCount [.long p0, .int p1] (some (.int r)) := by
  refine MetP.of RX8 (by decide) rfl (Nat.le_of_ble_eq_true rfl) ?_
  intro p e s m args below meth c C ls hl
  have hl : lv_has ls 6 [(0, .long p0), (2, .int p1)] := hl
  obtain ⟨hx, hb, hr, hml, hown, htL, hlocks⟩ := id C
  generalize hQ : MQ below (Pq (some (.int r))) args s 0 0 (fun _ => False) = Q
  have w_5 : ∀ (x2 : Int32) (x3 : Int64) (x5 : Int32) (ls : Array Slot), lv_has ls 6 [(2, .int x2), (3, .long x3), (5, .int x5)] → n_X8_factorCount_5 x2 x3 x5 = some r → W p l e rm_X8_factorCount s m args below meth c s.heap [] 0 0 Q (F0 m 5 ls []) := by
    skip
    have aux : ∀ (n : Nat) (x2 : Int32) (x3 : Int64) (x5 : Int32) (ls : Array Slot), lv_has ls 6 [(2, .int x2), (3, .long x3), (5, .int x5)] → itr (fun (q : Int32 × Int64 × Int32) k => s_X8_factorCount_5  (fun (x2 : Int32) (x3 : Int64) (x5 : Int32) => k (x2, x3, x5)) q.1 q.2.1 q.2.2) n (x2, x3, x5) = some r → W p l e rm_X8_factorCount s m args below meth c s.heap [] 0 0 Q (F0 m 5 ls []) := by
      intro n
      induction n with
      | zero => intro x2 x3 x5 ls hl hf; exact (itr_z hf).elim
      | succ n ih =>
      intro x2 x3 x5 ls hl hf
      have hk_5 := ih
      have hf : s_X8_factorCount_5  (fun (x2 : Int32) (x3 : Int64) (x5 : Int32) => itr (fun (q : Int32 × Int64 × Int32) k => s_X8_factorCount_5  (fun (x2 : Int32) (x3 : Int64) (x5 : Int32) => k (x2, x3, x5)) q.1 q.2.1 q.2.2) n (x2, x3, x5)) x2 x3 x5 = some r := hf
      refine lv_iload hx hb dX8_factorCount_5 (lv_at hl 2 rfl) ?_
      refine lv_bipush (v := 64) hx hb dX8_factorCount_7 (by decide) ?_
      refine lv_icmp_ge (tgt := 42) hx hb dX8_factorCount_9 (by decide) (fun c1 => ?_) (fun c1 => ?_)
      · have hf := sp1 c1 hf
        refine lv_iload hx hb dX8_factorCount_42 (lv_at hl 2 rfl) ?_
        subst hQ
        exact pe_i C hf dX8_factorCount_44
      · have hf := sp0 c1 hf
        refine lv_lload_n hx hb dX8_factorCount_12 rfl (lv_at hl 1 rfl) ?_
        refine lv_lconst (v := 0) hx hb dX8_factorCount_13 (by decide) ?_
        refine W.lcmp hx hb dX8_factorCount_14 ?_
        refine lv_if_eq (tgt := 42) hx hb dX8_factorCount_15 (by decide) (fun c2 => ?_) (fun c2 => ?_)
        · have hf := sp1 c2 hf
          refine lv_iload hx hb dX8_factorCount_42 (lv_at hl 2 rfl) ?_
          subst hQ
          exact pe_i C hf dX8_factorCount_44
        · have hf := sp0 c2 hf
          refine lv_lload_n hx hb dX8_factorCount_18 rfl (lv_at hl 1 rfl) ?_
          refine lv_iload_n hx hb dX8_factorCount_19 rfl (lv_at hl 0 rfl) ?_
          refine lv_i2l hx hb dX8_factorCount_20 rfl ?_
          obtain ⟨v3, h4, hf⟩ := b1_some hf
          refine pc_S (As := [.long x3, .long (Int32.toInt64 x2)]) (rest := []) C (c_X8_rest l x3 (Int32.toInt64 x2) v3 h4) hl.1 cp_X8_rest mw_2_75 ⟨rfl, rfl⟩ ⟨Nat.le_of_ble_eq_true rfl, Nat.le_of_ble_eq_true rfl⟩ rfl rfl (Nat.le_of_ble_eq_true rfl) dX8_factorCount_21 ⟨Nat.le_of_ble_eq_true rfl, Nat.le_of_ble_eq_true rfl⟩ ?_
          refine lv_lconst (v := 0) hx hb dX8_factorCount_24 (by decide) ?_
          refine W.lcmp hx hb dX8_factorCount_25 ?_
          refine lv_if_ne (tgt := 42) hx hb dX8_factorCount_26 (by decide) (fun c5 => ?_) (fun c5 => ?_)
          · have hf := sp0 c5 hf
            refine lv_iload hx hb dX8_factorCount_42 (lv_at hl 2 rfl) ?_
            subst hQ
            exact pe_i C hf dX8_factorCount_44
          · have hf := sp1 c5 hf
            refine lv_lload_n hx hb dX8_factorCount_29 rfl (lv_at hl 1 rfl) ?_
            refine lv_iload_n hx hb dX8_factorCount_30 rfl (lv_at hl 0 rfl) ?_
            refine lv_i2l hx hb dX8_factorCount_31 rfl ?_
            obtain ⟨v6, h7, hf⟩ := b1_some hf
            refine pc_S (As := [.long x3, .long (Int32.toInt64 x2)]) (rest := []) C (c_X8_part l x3 (Int32.toInt64 x2) v6 h7) hl.1 cp_X8_part mw_2_90 ⟨rfl, rfl⟩ ⟨Nat.le_of_ble_eq_true rfl, Nat.le_of_ble_eq_true rfl⟩ rfl rfl (Nat.le_of_ble_eq_true rfl) dX8_factorCount_32 ⟨Nat.le_of_ble_eq_true rfl, Nat.le_of_ble_eq_true rfl⟩ ?_
            refine lv_lstore_n (lv' := [(3, .long v6), (2, .int x2), (5, .int x5)]) hx hb dX8_factorCount_35 rfl hl (by decide) rfl (fun ls hl => ?_)
            refine lv_iinc (v := (x5 + 1)) (lv' := [(5, .int (x5 + 1)), (3, .long v6), (2, .int x2)]) hx hb dX8_factorCount_36 hl (k := 2) rfl rfl (by decide) rfl (fun ls hl => ?_)
            refine lv_goto (tgt := 5) hx hb dX8_factorCount_39 (by decide) ?_
            exact hk_5 x2 v6 (x5 + 1) _ (lv_sub hl [2, 1, 0] rfl) hf
    exact aux FU
  refine lv_lload_n hx hb dX8_factorCount_0 rfl (lv_at hl 0 rfl) ?_
  refine lv_lstore_n (lv' := [(3, .long p0), (0, .long p0), (2, .int p1)]) hx hb dX8_factorCount_1 rfl hl (by decide) rfl (fun ls hl => ?_)
  refine lv_iconst (v := 0) hx hb dX8_factorCount_2 (by decide) ?_
  refine lv_istore (lv' := [(5, .int 0), (3, .long p0), (0, .long p0), (2, .int p1)]) hx hb dX8_factorCount_3 hl (by decide) rfl (fun ls hl => ?_)
  exact w_5 p1 p0 0 _ (lv_sub hl [3, 1, 0] rfl) hf
theorem cp_X8_factorCount : CPs yX8_factorCount cX8_factorCount 6 (some .int) 2 := ⟨mw_2_89, mw_1_10, mw_2_88, by decide +kernel⟩
def rm_X8_withoutFactors : Room := { frames := 1, cells := 0, slots := 0, locals := 25 }
set_option maxHeartbeats 4000000 in
set_option maxRecDepth 100000 in
theorem c_X8_withoutFactors (l : Launch) (p0 : Int64) (p1 : Int32) (r : Int64) (hf : f_X8_withoutFactors p0 p1 = some r) : MetP l yX8_withoutFactors cX8_withoutFactors 6 (some .long) rm_X8_withoutFactors [.long p0, .int p1] (some (.long r)) := by
  refine MetP.of RX8 (by decide) rfl (Nat.le_of_ble_eq_true rfl) ?_
  intro p e s m args below meth c C ls hl
  have hl : lv_has ls 6 [(0, .long p0), (2, .int p1)] := hl
  obtain ⟨hx, hb, hr, hml, hown, htL, hlocks⟩ := id C
  generalize hQ : MQ below (Pq (some (.long r))) args s 0 0 (fun _ => False) = Q
  have w_5 : ∀ (x2 : Int32) (x3 : Int64) (x5 : Int32) (ls : Array Slot), lv_has ls 6 [(2, .int x2), (3, .long x3), (5, .int x5)] → n_X8_withoutFactors_5 x2 x3 x5 = some r → W p l e rm_X8_withoutFactors s m args below meth c s.heap [] 0 0 Q (F0 m 5 ls []) := by
    skip
    have aux : ∀ (n : Nat) (x2 : Int32) (x3 : Int64) (x5 : Int32) (ls : Array Slot), lv_has ls 6 [(2, .int x2), (3, .long x3), (5, .int x5)] → itr (fun (q : Int32 × Int64 × Int32) k => s_X8_withoutFactors_5  (fun (x2 : Int32) (x3 : Int64) (x5 : Int32) => k (x2, x3, x5)) q.1 q.2.1 q.2.2) n (x2, x3, x5) = some r → W p l e rm_X8_withoutFactors s m args below meth c s.heap [] 0 0 Q (F0 m 5 ls []) := by
      intro n
      induction n with
      | zero => intro x2 x3 x5 ls hl hf; exact (itr_z hf).elim
      | succ n ih =>
      intro x2 x3 x5 ls hl hf
      have hk_5 := ih
      have hf : s_X8_withoutFactors_5  (fun (x2 : Int32) (x3 : Int64) (x5 : Int32) => itr (fun (q : Int32 × Int64 × Int32) k => s_X8_withoutFactors_5  (fun (x2 : Int32) (x3 : Int64) (x5 : Int32) => k (x2, x3, x5)) q.1 q.2.1 q.2.2) n (x2, x3, x5)) x2 x3 x5 = some r := hf
      refine lv_iload hx hb dX8_withoutFactors_5 (lv_at hl 2 rfl) ?_
      refine lv_bipush (v := 64) hx hb dX8_withoutFactors_7 (by decide) ?_
      refine lv_icmp_ge (tgt := 42) hx hb dX8_withoutFactors_9 (by decide) (fun c1 => ?_) (fun c1 => ?_)
      · have hf := sp1 c1 hf
        refine lv_lload_n hx hb dX8_withoutFactors_42 rfl (lv_at hl 1 rfl) ?_
        subst hQ
        exact pe_l C hf dX8_withoutFactors_43
      · have hf := sp0 c1 hf
        refine lv_lload_n hx hb dX8_withoutFactors_12 rfl (lv_at hl 1 rfl) ?_
        refine lv_lconst (v := 0) hx hb dX8_withoutFactors_13 (by decide) ?_
        refine W.lcmp hx hb dX8_withoutFactors_14 ?_
        refine lv_if_eq (tgt := 42) hx hb dX8_withoutFactors_15 (by decide) (fun c2 => ?_) (fun c2 => ?_)
        · have hf := sp1 c2 hf
          refine lv_lload_n hx hb dX8_withoutFactors_42 rfl (lv_at hl 1 rfl) ?_
          subst hQ
          exact pe_l C hf dX8_withoutFactors_43
        · have hf := sp0 c2 hf
          refine lv_lload_n hx hb dX8_withoutFactors_18 rfl (lv_at hl 1 rfl) ?_
          refine lv_iload_n hx hb dX8_withoutFactors_19 rfl (lv_at hl 0 rfl) ?_
          refine lv_i2l hx hb dX8_withoutFactors_20 rfl ?_
          obtain ⟨v3, h4, hf⟩ := b1_some hf
          refine pc_S (As := [.long x3, .long (Int32.toInt64 x2)]) (rest := []) C (c_X8_rest l x3 (Int32.toInt64 x2) v3 h4) hl.1 cp_X8_rest mw_2_75 ⟨rfl, rfl⟩ ⟨Nat.le_of_ble_eq_true rfl, Nat.le_of_ble_eq_true rfl⟩ rfl rfl (Nat.le_of_ble_eq_true rfl) dX8_withoutFactors_21 ⟨Nat.le_of_ble_eq_true rfl, Nat.le_of_ble_eq_true rfl⟩ ?_
          refine lv_lconst (v := 0) hx hb dX8_withoutFactors_24 (by decide) ?_
          refine W.lcmp hx hb dX8_withoutFactors_25 ?_
          refine lv_if_ne (tgt := 42) hx hb dX8_withoutFactors_26 (by decide) (fun c5 => ?_) (fun c5 => ?_)
          · have hf := sp0 c5 hf
            refine lv_lload_n hx hb dX8_withoutFactors_42 rfl (lv_at hl 1 rfl) ?_
            subst hQ
            exact pe_l C hf dX8_withoutFactors_43
          · have hf := sp1 c5 hf
            refine lv_lload_n hx hb dX8_withoutFactors_29 rfl (lv_at hl 1 rfl) ?_
            refine lv_iload_n hx hb dX8_withoutFactors_30 rfl (lv_at hl 0 rfl) ?_
            refine lv_i2l hx hb dX8_withoutFactors_31 rfl ?_
            obtain ⟨v6, h7, hf⟩ := b1_some hf
            refine pc_S (As := [.long x3, .long (Int32.toInt64 x2)]) (rest := []) C (c_X8_part l x3 (Int32.toInt64 x2) v6 h7) hl.1 cp_X8_part mw_2_90 ⟨rfl, rfl⟩ ⟨Nat.le_of_ble_eq_true rfl, Nat.le_of_ble_eq_true rfl⟩ rfl rfl (Nat.le_of_ble_eq_true rfl) dX8_withoutFactors_32 ⟨Nat.le_of_ble_eq_true rfl, Nat.le_of_ble_eq_true rfl⟩ ?_
            refine lv_lstore_n (lv' := [(3, .long v6), (2, .int x2), (5, .int x5)]) hx hb dX8_withoutFactors_35 rfl hl (by decide) rfl (fun ls hl => ?_)
            refine lv_iinc (v := (x5 + 1)) (lv' := [(5, .int (x5 + 1)), (3, .long v6), (2, .int x2)]) hx hb dX8_withoutFactors_36 hl (k := 2) rfl rfl (by decide) rfl (fun ls hl => ?_)
            refine lv_goto (tgt := 5) hx hb dX8_withoutFactors_39 (by decide) ?_
            exact hk_5 x2 v6 (x5 + 1) _ (lv_sub hl [2, 1, 0] rfl) hf
    exact aux FU
  refine lv_lload_n hx hb dX8_withoutFactors_0 rfl (lv_at hl 0 rfl) ?_
  refine lv_lstore_n (lv' := [(3, .long p0), (0, .long p0), (2, .int p1)]) hx hb dX8_withoutFactors_1 rfl hl (by decide) rfl (fun ls hl => ?_)
  refine lv_iconst (v := 0) hx hb dX8_withoutFactors_2 (by decide) ?_
  refine lv_istore (lv' := [(5, .int 0), (3, .long p0), (0, .long p0), (2, .int p1)]) hx hb dX8_withoutFactors_3 hl (by decide) rfl (fun ls hl => ?_)
  exact w_5 p1 p0 0 _ (lv_sub hl [3, 1, 0] rfl) hf
theorem cp_X8_withoutFactors : CPs yX8_withoutFactors cX8_withoutFactors 6 (some .long) 2 := ⟨mw_2_95, mw_1_10, mw_2_94, by decide +kernel⟩
