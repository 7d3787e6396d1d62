/-! the cases of the law's switch -/
set_option maxHeartbeats 4000000 in
theorem ca_setPrime {p : Program} {l : Launch} {e : Env} {s : State} {m : MethodId} {below : List Frame} {meth : Method} {c : Code} {D : va_G} {ct : Nat → ClassId} {ad am : Nat → Nat} {ao ao2 b L : Nat} {xs : Nat → Int32} (hl0 : l.stackTraces = false) (C : Cx p c cL_law meth s m #[Value.ref b] RL (some .boolean) 9) (hX : va_X b L xs s s.heap) (hbl : b < s.heap.size) (hK : va_K D vwCl (tysW ct) s) (hXf : Xf (fun q => s.heap.size ≤ q) s) (hNc : Nc6 s) (hD : Ld ad am ao ao2 s) {S T : St} {g : Nat → Int64} {gd : Nat → UInt64} {H : Heap} {locs : List Loc} (hw : Lw D ct ad am ao ao2 s S T g gd H locs) (hRel : Rel S T) {x5 : Int32} (hin : ∀ j : Int32, 0 ≤ j → j ≤ 4 → vp_in (x5 + j) L) {cells slots : Nat} (hroom : cells + 1 ≤ room_1.cells ∧ slots + 6 ≤ room_1.slots) {Q : State → Prop}
    (next : ∀ (S' T' : St) (g' : Nat → Int64) (gd' : Nat → UInt64) (H' : Heap) (locs' : List Loc) (ls' : Array Slot), Rel S' T' → Lw D ct ad am ao ao2 s S' T' g' gd' H' locs' → lv_has ls' 9 [(0, .ref b), (1, .ref (ad 0)), (2, .ref (am 0)), (3, .ref ao), (4, .ref ao2), (5, .int x5)] → W p l e room_1 s m #[Value.ref b] below meth c H' locs' (cells + 1) (slots + 6) Q (F0 m 2555 ls' [])) {ls : Array Slot} (hl : lv_has ls 9 [(0, .ref b), (1, .ref (ad 0)), (2, .ref (am 0)), (3, .ref ao), (4, .ref ao2), (5, .int x5)]) : W p l e room_1 s m #[Value.ref b] below meth c H locs cells slots Q (F0 m 216 ls []) := by
  obtain ⟨hx, hb, hr, hml, hown, htL, hlocks⟩ := id C
  have hbA : ¬ (fun q : Nat => s.heap.size ≤ q) b := Nat.not_le.mpr hbl
  obtain ⟨f1, f2, f3, f4⟩ := hD.fl
  obtain ⟨S', T', v, k, g', hM, hfm, hft, hRel, hans⟩ := wr_setPrime l hl0 D ct ad ao hD.1 hD.2.2.1 (xs (x5 + 1).toNatClampNeg) hRel g
  refine lv_aload_n hx hb dL_law_216 rfl (lv_at hl 1 rfl) ?_
  refine lv_aload_n hx hb dL_law_217 rfl (lv_at hl 0 rfl) ?_
  refine lv_iload hx hb dL_law_218 (lv_at hl 5 rfl) ?_
  refine lv_iconst (v := 1) hx hb dL_law_220 (by decide) ?_
  refine lv_iadd hx hb dL_law_221 ?_
  refine va_sld hx hb hX hbl hbA hw.2.2.2.2 (hin 1 (by decide) (by decide)) dL_law_222 ?_
  refine lv_aload_n hx hb dL_law_223 rfl (lv_at hl 3 rfl) ?_
  refine hc_W (n := 3) C hK hXf hNc hM hl.1 mw_2_137 mw_1_0 mw_2_136 mw_2_135 (by decide +kernel) hw.1 hw.2.2.1 hw.2.2.2.2 f1 ⟨rfl, rfl⟩ ⟨Nat.le_of_ble_eq_true rfl, Nat.le_of_ble_eq_true rfl⟩ rfl rfl (Nat.le_of_ble_eq_true rfl) dL_law_224 hroom (fun H1 locs1 hP1 hO1 hS1 hz1 hk1 => ?_)
  have hw := hw.wrap hD hP1 hO1 hS1 hk1
  refine lv_istore (lv' := [(6, .int k), (0, .ref b), (1, .ref (ad 0)), (2, .ref (am 0)), (3, .ref ao), (4, .ref ao2), (5, .int x5)]) hx hb dL_law_227 hl (by decide) rfl (fun ls hl => ?_)
  refine lv_aload_n hx hb dL_law_229 rfl (lv_at hl 3 rfl) ?_
  refine lv_aload_n hx hb dL_law_230 rfl (lv_at hl 1 rfl) ?_
  refine lv_iload hx hb dL_law_231 (lv_at hl 6 rfl) ?_
  refine lv_iconst (v := 1) hx hb dL_law_233 (by decide) ?_
  refine lv_iadd hx hb dL_law_234 ?_
  refine va_sld hx hb hX hbl hbA hw.2.2.2.2 (hin 1 (by decide) (by decide)) dL_law_235 ?_
  refine hc_VF (n := 1) (As := [.int (xs (x5 + 1).toNatClampNeg)]) (rest := []) C hK (c_X10_setPrime l D ct am (FM am) hD.2.1 (xs (x5 + 1).toNatClampNeg) T v T' hfm) hl.1 cp_X10_setPrime mw_6_9 (rc_X10 hK hw.2.1) hw.2.1 hw.2.2.2.2 f3 ⟨rfl, rfl⟩ ⟨Nat.le_of_ble_eq_true rfl, Nat.le_of_ble_eq_true rfl⟩ rfl rfl (Nat.le_of_ble_eq_true rfl) dL_law_236 ⟨hroom.1, hroom.2⟩ (fun H1 locs1 hP1 hS1 hz1 hk1 => ?_)
  have hw := hw.model hD hP1 hS1 hk1
  refine lv_istore (lv' := [(7, .int v), (6, .int k), (0, .ref b), (1, .ref (ad 0)), (2, .ref (am 0)), (3, .ref ao), (4, .ref ao2), (5, .int x5)]) hx hb dL_law_239 hl (by decide) rfl (fun ls hl => ?_)
  refine lv_aload_n hx hb dL_law_241 rfl (lv_at hl 4 rfl) ?_
  refine hc_VF (n := 0) (As := []) (rest := []) C hK (c_X10_thrown l D ct am (FM am) hD.2.1 T' k hft) hl.1 cp_X10_thrown mw_6_5 (rc_X10 hK hw.2.1) hw.2.1 hw.2.2.2.2 f3 ⟨rfl, rfl⟩ ⟨Nat.le_of_ble_eq_true rfl, Nat.le_of_ble_eq_true rfl⟩ rfl rfl (Nat.le_of_ble_eq_true rfl) dL_law_242 ⟨hroom.1, hroom.2⟩ (fun H1 locs1 hP1 hS1 hz1 hk1 => ?_)
  have hw := hw.model hD hP1 hS1 hk1
  refine lv_iload hx hb dL_law_245 (lv_at hl 1 rfl) ?_
  refine lv_icmp_eq (tgt := 252) hx hb dL_law_247 (by decide) (fun _ => ?_) (fun q => absurd rfl q)
  refine lv_iload hx hb dL_law_252 (lv_at hl 1 rfl) ?_
  refine lv_if_ne (tgt := 269) hx hb dL_law_254 (by decide) (fun c1 => ?_) (fun c1 => ?_)
  · refine lv_goto (tgt := 2555) hx hb dL_law_269 (by decide) ?_
    exact next _ _ _ _ _ _ _ hRel hw (lv_sub hl [2, 3, 4, 5, 6, 7] rfl)
  · refine lv_aload_n hx hb dL_law_257 rfl (lv_at hl 5 rfl) ?_
    refine lv_iconst (v := 0) hx hb dL_law_258 (by decide) ?_
    refine va_lald hx hb hK hw.2.2.1 0 1 rfl rfl (by unfold vp_in; decide) dL_law_259 ?_
    refine lv_iload hx hb dL_law_260 (lv_at hl 0 rfl) ?_
    refine lv_i2l hx hb dL_law_262 rfl ?_
    refine W.lcmp hx hb dL_law_263 ?_
    rw [show g' (Int32.toNatClampNeg 0) = Int32.toInt64 v from hans c1]
    refine lv_if_eq (tgt := 269) hx hb dL_law_264 (by decide) (fun _ => ?_) (fun q => absurd (lgc_self _) q)
    refine lv_goto (tgt := 2555) hx hb dL_law_269 (by decide) ?_
    exact next _ _ _ _ _ _ _ hRel hw (lv_sub hl [2, 3, 4, 5, 6, 7] rfl)
set_option maxHeartbeats 4000000 in
theorem ca_reach {p : Program} {l : Launch} {e : Env} {s : State} {m : MethodId} {below : List Frame} {meth : Method} {c : Code} {D : va_G} {ct : Nat → ClassId} {ad am : Nat → Nat} {ao ao2 b L : Nat} {xs : Nat → Int32} (hl0 : l.stackTraces = false) (C : Cx p c cL_law meth s m #[Value.ref b] RL (some .boolean) 9) (hX : va_X b L xs s s.heap) (hbl : b < s.heap.size) (hK : va_K D vwCl (tysW ct) s) (hXf : Xf (fun q => s.heap.size ≤ q) s) (hNc : Nc6 s) (hD : Ld ad am ao ao2 s) {S T : St} {g : Nat → Int64} {gd : Nat → UInt64} {H : Heap} {locs : List Loc} (hw : Lw D ct ad am ao ao2 s S T g gd H locs) (hRel : Rel S T) {x5 : Int32} (hin : ∀ j : Int32, 0 ≤ j → j ≤ 4 → vp_in (x5 + j) L) {cells slots : Nat} (hroom : cells + 1 ≤ room_1.cells ∧ slots + 6 ≤ room_1.slots) {Q : State → Prop}
    (next : ∀ (S' T' : St) (g' : Nat → Int64) (gd' : Nat → UInt64) (H' : Heap) (locs' : List Loc) (ls' : Array Slot), Rel S' T' → Lw D ct ad am ao ao2 s S' T' g' gd' H' locs' → lv_has ls' 9 [(0, .ref b), (1, .ref (ad 0)), (2, .ref (am 0)), (3, .ref ao), (4, .ref ao2), (5, .int x5)] → W p l e room_1 s m #[Value.ref b] below meth c H' locs' (cells + 1) (slots + 6) Q (F0 m 2555 ls' [])) {ls : Array Slot} (hl : lv_has ls 9 [(0, .ref b), (1, .ref (ad 0)), (2, .ref (am 0)), (3, .ref ao), (4, .ref ao2), (5, .int x5)]) : W p l e room_1 s m #[Value.ref b] below meth c H locs cells slots Q (F0 m 272 ls []) := by
  obtain ⟨hx, hb, hr, hml, hown, htL, hlocks⟩ := id C
  have hbA : ¬ (fun q : Nat => s.heap.size ≤ q) b := Nat.not_le.mpr hbl
  obtain ⟨f1, f2, f3, f4⟩ := hD.fl
  obtain ⟨v, e1, e2⟩ := T_reach hRel
  refine W.widen (k := cells + 1) (n := slots + 6) (by omega) (by omega) ?_
  refine lv_aload_n hx hb dL_law_272 rfl (lv_at hl 1 rfl) ?_
  refine hc_VF (n := 0) (As := []) (rest := []) C hK (c_X9_reach l D ct ad (FC ad) hD.1 S v e1) hl.1 cp_X9_reach mw_1_219 (rc_X9 hK hw.1) hw.1 hw.2.2.2.2 f4 ⟨rfl, rfl⟩ ⟨Nat.le_of_ble_eq_true rfl, Nat.le_of_ble_eq_true rfl⟩ rfl rfl (Nat.le_of_ble_eq_true rfl) dL_law_273 hroom (fun H1 locs1 hP1 hS1 hz1 hk1 => ?_)
  have hw := hw.classC hD hP1 hS1 hk1
  refine lv_aload_n hx hb dL_law_276 rfl (lv_at hl 2 rfl) ?_
  refine hc_VF (n := 0) (As := []) (rest := [.int v]) C hK (c_X10_reach l D ct am (FM am) hD.2.1 T v e2) hl.1 cp_X10_reach mw_6_25 (rc_X10 hK hw.2.1) hw.2.1 hw.2.2.2.2 f3 ⟨rfl, rfl⟩ ⟨Nat.le_of_ble_eq_true rfl, Nat.le_of_ble_eq_true rfl⟩ rfl rfl (Nat.le_of_ble_eq_true rfl) dL_law_277 hroom (fun H1 locs1 hP1 hS1 hz1 hk1 => ?_)
  have hw := hw.model hD hP1 hS1 hk1
  refine lv_icmp_eq (tgt := 2555) hx hb dL_law_280 (by decide) (fun _ => ?_) (fun q => absurd rfl q)
  exact next _ _ _ _ _ _ _ hRel hw (lv_sub hl [0, 1, 2, 3, 4, 5] rfl)
set_option maxHeartbeats 4000000 in
theorem ca_give {p : Program} {l : Launch} {e : Env} {s : State} {m : MethodId} {below : List Frame} {meth : Method} {c : Code} {D : va_G} {ct : Nat → ClassId} {ad am : Nat → Nat} {ao ao2 b L : Nat} {xs : Nat → Int32} (hl0 : l.stackTraces = false) (C : Cx p c cL_law meth s m #[Value.ref b] RL (some .boolean) 9) (hX : va_X b L xs s s.heap) (hbl : b < s.heap.size) (hK : va_K D vwCl (tysW ct) s) (hXf : Xf (fun q => s.heap.size ≤ q) s) (hNc : Nc6 s) (hD : Ld ad am ao ao2 s) {S T : St} {g : Nat → Int64} {gd : Nat → UInt64} {H : Heap} {locs : List Loc} (hw : Lw D ct ad am ao ao2 s S T g gd H locs) (hRel : Rel S T) {x5 : Int32} (hin : ∀ j : Int32, 0 ≤ j → j ≤ 4 → vp_in (x5 + j) L) {cells slots : Nat} (hroom : cells + 1 ≤ room_1.cells ∧ slots + 6 ≤ room_1.slots) {Q : State → Prop}
    (next : ∀ (S' T' : St) (g' : Nat → Int64) (gd' : Nat → UInt64) (H' : Heap) (locs' : List Loc) (ls' : Array Slot), Rel S' T' → Lw D ct ad am ao ao2 s S' T' g' gd' H' locs' → lv_has ls' 9 [(0, .ref b), (1, .ref (ad 0)), (2, .ref (am 0)), (3, .ref ao), (4, .ref ao2), (5, .int x5)] → W p l e room_1 s m #[Value.ref b] below meth c H' locs' (cells + 1) (slots + 6) Q (F0 m 2555 ls' [])) {ls : Array Slot} (hl : lv_has ls 9 [(0, .ref b), (1, .ref (ad 0)), (2, .ref (am 0)), (3, .ref ao), (4, .ref ao2), (5, .int x5)]) : W p l e room_1 s m #[Value.ref b] below meth c H locs cells slots Q (F0 m 285 ls []) := by
  obtain ⟨hx, hb, hr, hml, hown, htL, hlocks⟩ := id C
  have hbA : ¬ (fun q : Nat => s.heap.size ≤ q) b := Nat.not_le.mpr hbl
  obtain ⟨f1, f2, f3, f4⟩ := hD.fl
  obtain ⟨S', T', v, k, g', hM, hfm, hft, hRel, hans⟩ := wr_give l hl0 D ct ad ao hD.1 hD.2.2.1 (xs (x5 + 1).toNatClampNeg) (xs (x5 + 2).toNatClampNeg) (xs (x5 + 3).toNatClampNeg) hRel g
  refine lv_aload_n hx hb dL_law_285 rfl (lv_at hl 1 rfl) ?_
  refine lv_aload_n hx hb dL_law_286 rfl (lv_at hl 0 rfl) ?_
  refine lv_iload hx hb dL_law_287 (lv_at hl 5 rfl) ?_
  refine lv_iconst (v := 1) hx hb dL_law_289 (by decide) ?_
  refine lv_iadd hx hb dL_law_290 ?_
  refine va_sld hx hb hX hbl hbA hw.2.2.2.2 (hin 1 (by decide) (by decide)) dL_law_291 ?_
  refine lv_aload_n hx hb dL_law_292 rfl (lv_at hl 0 rfl) ?_
  refine lv_iload hx hb dL_law_293 (lv_at hl 5 rfl) ?_
  refine lv_iconst (v := 2) hx hb dL_law_295 (by decide) ?_
  refine lv_iadd hx hb dL_law_296 ?_
  refine va_sld hx hb hX hbl hbA hw.2.2.2.2 (hin 2 (by decide) (by decide)) dL_law_297 ?_
  refine lv_aload_n hx hb dL_law_298 rfl (lv_at hl 0 rfl) ?_
  refine lv_iload hx hb dL_law_299 (lv_at hl 5 rfl) ?_
  refine lv_iconst (v := 3) hx hb dL_law_301 (by decide) ?_
  refine lv_iadd hx hb dL_law_302 ?_
  refine va_sld hx hb hX hbl hbA hw.2.2.2.2 (hin 3 (by decide) (by decide)) dL_law_303 ?_
  refine lv_aload_n hx hb dL_law_304 rfl (lv_at hl 3 rfl) ?_
  refine hc_W (n := 5) C hK hXf hNc hM hl.1 mw_2_238 mw_1_0 mw_2_237 mw_2_236 (by decide +kernel) hw.1 hw.2.2.1 hw.2.2.2.2 f1 ⟨rfl, rfl⟩ ⟨Nat.le_of_ble_eq_true rfl, Nat.le_of_ble_eq_true rfl⟩ rfl rfl (Nat.le_of_ble_eq_true rfl) dL_law_305 hroom (fun H1 locs1 hP1 hO1 hS1 hz1 hk1 => ?_)
  have hw := hw.wrap hD hP1 hO1 hS1 hk1
  refine lv_istore (lv' := [(6, .int k), (0, .ref b), (1, .ref (ad 0)), (2, .ref (am 0)), (3, .ref ao), (4, .ref ao2), (5, .int x5)]) hx hb dL_law_308 hl (by decide) rfl (fun ls hl => ?_)
  refine lv_aload_n hx hb dL_law_310 rfl (lv_at hl 3 rfl) ?_
  refine lv_aload_n hx hb dL_law_311 rfl (lv_at hl 1 rfl) ?_
  refine lv_iload hx hb dL_law_312 (lv_at hl 6 rfl) ?_
  refine lv_iconst (v := 1) hx hb dL_law_314 (by decide) ?_
  refine lv_iadd hx hb dL_law_315 ?_
  refine va_sld hx hb hX hbl hbA hw.2.2.2.2 (hin 1 (by decide) (by decide)) dL_law_316 ?_
  refine lv_aload_n hx hb dL_law_317 rfl (lv_at hl 1 rfl) ?_
  refine lv_iload hx hb dL_law_318 (lv_at hl 6 rfl) ?_
  refine lv_iconst (v := 2) hx hb dL_law_320 (by decide) ?_
  refine lv_iadd hx hb dL_law_321 ?_
  refine va_sld hx hb hX hbl hbA hw.2.2.2.2 (hin 2 (by decide) (by decide)) dL_law_322 ?_
  refine lv_aload_n hx hb dL_law_323 rfl (lv_at hl 1 rfl) ?_
  refine lv_iload hx hb dL_law_324 (lv_at hl 6 rfl) ?_
  refine lv_iconst (v := 3) hx hb dL_law_326 (by decide) ?_
  refine lv_iadd hx hb dL_law_327 ?_
  refine va_sld hx hb hX hbl hbA hw.2.2.2.2 (hin 3 (by decide) (by decide)) dL_law_328 ?_
  refine hc_VF (n := 3) (As := [.int (xs (x5 + 1).toNatClampNeg), .int (xs (x5 + 2).toNatClampNeg), .int (xs (x5 + 3).toNatClampNeg)]) (rest := []) C hK (c_X10_give l D ct am (FM am) hD.2.1 (xs (x5 + 1).toNatClampNeg) (xs (x5 + 2).toNatClampNeg) (xs (x5 + 3).toNatClampNeg) T v T' hfm) hl.1 cp_X10_give mw_6_34 (rc_X10 hK hw.2.1) hw.2.1 hw.2.2.2.2 f3 ⟨rfl, rfl⟩ ⟨Nat.le_of_ble_eq_true rfl, Nat.le_of_ble_eq_true rfl⟩ rfl rfl (Nat.le_of_ble_eq_true rfl) dL_law_329 ⟨hroom.1, hroom.2⟩ (fun H1 locs1 hP1 hS1 hz1 hk1 => ?_)
  have hw := hw.model hD hP1 hS1 hk1
  refine lv_istore (lv' := [(7, .int v), (6, .int k), (0, .ref b), (1, .ref (ad 0)), (2, .ref (am 0)), (3, .ref ao), (4, .ref ao2), (5, .int x5)]) hx hb dL_law_332 hl (by decide) rfl (fun ls hl => ?_)
  refine lv_aload_n hx hb dL_law_334 rfl (lv_at hl 4 rfl) ?_
  refine hc_VF (n := 0) (As := []) (rest := []) C hK (c_X10_thrown l D ct am (FM am) hD.2.1 T' k hft) hl.1 cp_X10_thrown mw_6_5 (rc_X10 hK hw.2.1) hw.2.1 hw.2.2.2.2 f3 ⟨rfl, rfl⟩ ⟨Nat.le_of_ble_eq_true rfl, Nat.le_of_ble_eq_true rfl⟩ rfl rfl (Nat.le_of_ble_eq_true rfl) dL_law_335 ⟨hroom.1, hroom.2⟩ (fun H1 locs1 hP1 hS1 hz1 hk1 => ?_)
  have hw := hw.model hD hP1 hS1 hk1
  refine lv_iload hx hb dL_law_338 (lv_at hl 1 rfl) ?_
  refine lv_icmp_eq (tgt := 345) hx hb dL_law_340 (by decide) (fun _ => ?_) (fun q => absurd rfl q)
  refine lv_iload hx hb dL_law_345 (lv_at hl 1 rfl) ?_
  refine lv_if_ne (tgt := 362) hx hb dL_law_347 (by decide) (fun c1 => ?_) (fun c1 => ?_)
  · refine lv_goto (tgt := 2555) hx hb dL_law_362 (by decide) ?_
    exact next _ _ _ _ _ _ _ hRel hw (lv_sub hl [2, 3, 4, 5, 6, 7] rfl)
  · refine lv_aload_n hx hb dL_law_350 rfl (lv_at hl 5 rfl) ?_
    refine lv_iconst (v := 0) hx hb dL_law_351 (by decide) ?_
    refine va_lald hx hb hK hw.2.2.1 0 1 rfl rfl (by unfold vp_in; decide) dL_law_352 ?_
    refine lv_iload hx hb dL_law_353 (lv_at hl 0 rfl) ?_
    refine lv_i2l hx hb dL_law_355 rfl ?_
    refine W.lcmp hx hb dL_law_356 ?_
    rw [show g' (Int32.toNatClampNeg 0) = Int32.toInt64 v from hans c1]
    refine lv_if_eq (tgt := 362) hx hb dL_law_357 (by decide) (fun _ => ?_) (fun q => absurd (lgc_self _) q)
    refine lv_goto (tgt := 2555) hx hb dL_law_362 (by decide) ?_
    exact next _ _ _ _ _ _ _ hRel hw (lv_sub hl [2, 3, 4, 5, 6, 7] rfl)
set_option maxHeartbeats 4000000 in
theorem ca_add {p : Program} {l : Launch} {e : Env} {s : State} {m : MethodId} {below : List Frame} {meth : Method} {c : Code} {D : va_G} {ct : Nat → ClassId} {ad am : Nat → Nat} {ao ao2 b L : Nat} {xs : Nat → Int32} (hl0 : l.stackTraces = false) (C : Cx p c cL_law meth s m #[Value.ref b] RL (some .boolean) 9) (hX : va_X b L xs s s.heap) (hbl : b < s.heap.size) (hK : va_K D vwCl (tysW ct) s) (hXf : Xf (fun q => s.heap.size ≤ q) s) (hNc : Nc6 s) (hD : Ld ad am ao ao2 s) {S T : St} {g : Nat → Int64} {gd : Nat → UInt64} {H : Heap} {locs : List Loc} (hw : Lw D ct ad am ao ao2 s S T g gd H locs) (hRel : Rel S T) {x5 : Int32} (hin : ∀ j : Int32, 0 ≤ j → j ≤ 4 → vp_in (x5 + j) L) {cells slots : Nat} (hroom : cells + 1 ≤ room_1.cells ∧ slots + 6 ≤ room_1.slots) {Q : State → Prop}
    (next : ∀ (S' T' : St) (g' : Nat → Int64) (gd' : Nat → UInt64) (H' : Heap) (locs' : List Loc) (ls' : Array Slot), Rel S' T' → Lw D ct ad am ao ao2 s S' T' g' gd' H' locs' → lv_has ls' 9 [(0, .ref b), (1, .ref (ad 0)), (2, .ref (am 0)), (3, .ref ao), (4, .ref ao2), (5, .int x5)] → W p l e room_1 s m #[Value.ref b] below meth c H' locs' (cells + 1) (slots + 6) Q (F0 m 2555 ls' [])) {ls : Array Slot} (hl : lv_has ls 9 [(0, .ref b), (1, .ref (ad 0)), (2, .ref (am 0)), (3, .ref ao), (4, .ref ao2), (5, .int x5)]) : W p l e room_1 s m #[Value.ref b] below meth c H locs cells slots Q (F0 m 365 ls []) := by
  obtain ⟨hx, hb, hr, hml, hown, htL, hlocks⟩ := id C
  have hbA : ¬ (fun q : Nat => s.heap.size ≤ q) b := Nat.not_le.mpr hbl
  obtain ⟨f1, f2, f3, f4⟩ := hD.fl
  obtain ⟨S', T', v, k, g', hM, hfm, hft, hRel, hans⟩ := wr_add l hl0 D ct ad ao hD.1 hD.2.2.1 (xs (x5 + 1).toNatClampNeg) (xs (x5 + 2).toNatClampNeg) hRel g
  refine lv_aload_n hx hb dL_law_365 rfl (lv_at hl 1 rfl) ?_
  refine lv_aload_n hx hb dL_law_366 rfl (lv_at hl 0 rfl) ?_
  refine lv_iload hx hb dL_law_367 (lv_at hl 5 rfl) ?_
  refine lv_iconst (v := 1) hx hb dL_law_369 (by decide) ?_
  refine lv_iadd hx hb dL_law_370 ?_
  refine va_sld hx hb hX hbl hbA hw.2.2.2.2 (hin 1 (by decide) (by decide)) dL_law_371 ?_
  refine lv_aload_n hx hb dL_law_372 rfl (lv_at hl 0 rfl) ?_
  refine lv_iload hx hb dL_law_373 (lv_at hl 5 rfl) ?_
  refine lv_iconst (v := 2) hx hb dL_law_375 (by decide) ?_
  refine lv_iadd hx hb dL_law_376 ?_
  refine va_sld hx hb hX hbl hbA hw.2.2.2.2 (hin 2 (by decide) (by decide)) dL_law_377 ?_
  refine lv_aload_n hx hb dL_law_378 rfl (lv_at hl 3 rfl) ?_
  refine hc_W (n := 4) C hK hXf hNc hM hl.1 mw_3_119 mw_1_0 mw_3_118 mw_3_117 (by decide +kernel) hw.1 hw.2.2.1 hw.2.2.2.2 f1 ⟨rfl, rfl⟩ ⟨Nat.le_of_ble_eq_true rfl, Nat.le_of_ble_eq_true rfl⟩ rfl rfl (Nat.le_of_ble_eq_true rfl) dL_law_379 hroom (fun H1 locs1 hP1 hO1 hS1 hz1 hk1 => ?_)
  have hw := hw.wrap hD hP1 hO1 hS1 hk1
  refine lv_istore (lv' := [(6, .int k), (0, .ref b), (1, .ref (ad 0)), (2, .ref (am 0)), (3, .ref ao), (4, .ref ao2), (5, .int x5)]) hx hb dL_law_382 hl (by decide) rfl (fun ls hl => ?_)
  refine lv_aload_n hx hb dL_law_384 rfl (lv_at hl 3 rfl) ?_
  refine lv_aload_n hx hb dL_law_385 rfl (lv_at hl 1 rfl) ?_
  refine lv_iload hx hb dL_law_386 (lv_at hl 6 rfl) ?_
  refine lv_iconst (v := 1) hx hb dL_law_388 (by decide) ?_
  refine lv_iadd hx hb dL_law_389 ?_
  refine va_sld hx hb hX hbl hbA hw.2.2.2.2 (hin 1 (by decide) (by decide)) dL_law_390 ?_
  refine lv_aload_n hx hb dL_law_391 rfl (lv_at hl 1 rfl) ?_
  refine lv_iload hx hb dL_law_392 (lv_at hl 6 rfl) ?_
  refine lv_iconst (v := 2) hx hb dL_law_394 (by decide) ?_
  refine lv_iadd hx hb dL_law_395 ?_
  refine va_sld hx hb hX hbl hbA hw.2.2.2.2 (hin 2 (by decide) (by decide)) dL_law_396 ?_
  refine hc_VF (n := 2) (As := [.int (xs (x5 + 1).toNatClampNeg), .int (xs (x5 + 2).toNatClampNeg)]) (rest := []) C hK (c_X10_add l D ct am (FM am) hD.2.1 (xs (x5 + 1).toNatClampNeg) (xs (x5 + 2).toNatClampNeg) T v T' hfm) hl.1 cp_X10_add mw_6_136 (rc_X10 hK hw.2.1) hw.2.1 hw.2.2.2.2 f3 ⟨rfl, rfl⟩ ⟨Nat.le_of_ble_eq_true rfl, Nat.le_of_ble_eq_true rfl⟩ rfl rfl (Nat.le_of_ble_eq_true rfl) dL_law_397 ⟨hroom.1, hroom.2⟩ (fun H1 locs1 hP1 hS1 hz1 hk1 => ?_)
  have hw := hw.model hD hP1 hS1 hk1
  refine lv_istore (lv' := [(7, .int v), (6, .int k), (0, .ref b), (1, .ref (ad 0)), (2, .ref (am 0)), (3, .ref ao), (4, .ref ao2), (5, .int x5)]) hx hb dL_law_400 hl (by decide) rfl (fun ls hl => ?_)
  refine lv_aload_n hx hb dL_law_402 rfl (lv_at hl 4 rfl) ?_
  refine hc_VF (n := 0) (As := []) (rest := []) C hK (c_X10_thrown l D ct am (FM am) hD.2.1 T' k hft) hl.1 cp_X10_thrown mw_6_5 (rc_X10 hK hw.2.1) hw.2.1 hw.2.2.2.2 f3 ⟨rfl, rfl⟩ ⟨Nat.le_of_ble_eq_true rfl, Nat.le_of_ble_eq_true rfl⟩ rfl rfl (Nat.le_of_ble_eq_true rfl) dL_law_403 ⟨hroom.1, hroom.2⟩ (fun H1 locs1 hP1 hS1 hz1 hk1 => ?_)
  have hw := hw.model hD hP1 hS1 hk1
  refine lv_iload hx hb dL_law_406 (lv_at hl 1 rfl) ?_
  refine lv_icmp_eq (tgt := 413) hx hb dL_law_408 (by decide) (fun _ => ?_) (fun q => absurd rfl q)
  refine lv_iload hx hb dL_law_413 (lv_at hl 1 rfl) ?_
  refine lv_if_ne (tgt := 430) hx hb dL_law_415 (by decide) (fun c1 => ?_) (fun c1 => ?_)
  · refine lv_goto (tgt := 2555) hx hb dL_law_430 (by decide) ?_
    exact next _ _ _ _ _ _ _ hRel hw (lv_sub hl [2, 3, 4, 5, 6, 7] rfl)
  · refine lv_aload_n hx hb dL_law_418 rfl (lv_at hl 5 rfl) ?_
    refine lv_iconst (v := 0) hx hb dL_law_419 (by decide) ?_
    refine va_lald hx hb hK hw.2.2.1 0 1 rfl rfl (by unfold vp_in; decide) dL_law_420 ?_
    refine lv_iload hx hb dL_law_421 (lv_at hl 0 rfl) ?_
    refine lv_i2l hx hb dL_law_423 rfl ?_
    refine W.lcmp hx hb dL_law_424 ?_
    rw [show g' (Int32.toNatClampNeg 0) = Int32.toInt64 v from hans c1]
    refine lv_if_eq (tgt := 430) hx hb dL_law_425 (by decide) (fun _ => ?_) (fun q => absurd (lgc_self _) q)
    refine lv_goto (tgt := 2555) hx hb dL_law_430 (by decide) ?_
    exact next _ _ _ _ _ _ _ hRel hw (lv_sub hl [2, 3, 4, 5, 6, 7] rfl)
set_option maxHeartbeats 4000000 in
theorem ca_subtract {p : Program} {l : Launch} {e : Env} {s : State} {m : MethodId} {below : List Frame} {meth : Method} {c : Code} {D : va_G} {ct : Nat → ClassId} {ad am : Nat → Nat} {ao ao2 b L : Nat} {xs : Nat → Int32} (hl0 : l.stackTraces = false) (C : Cx p c cL_law meth s m #[Value.ref b] RL (some .boolean) 9) (hX : va_X b L xs s s.heap) (hbl : b < s.heap.size) (hK : va_K D vwCl (tysW ct) s) (hXf : Xf (fun q => s.heap.size ≤ q) s) (hNc : Nc6 s) (hD : Ld ad am ao ao2 s) {S T : St} {g : Nat → Int64} {gd : Nat → UInt64} {H : Heap} {locs : List Loc} (hw : Lw D ct ad am ao ao2 s S T g gd H locs) (hRel : Rel S T) {x5 : Int32} (hin : ∀ j : Int32, 0 ≤ j → j ≤ 4 → vp_in (x5 + j) L) {cells slots : Nat} (hroom : cells + 1 ≤ room_1.cells ∧ slots + 6 ≤ room_1.slots) {Q : State → Prop}
    (next : ∀ (S' T' : St) (g' : Nat → Int64) (gd' : Nat → UInt64) (H' : Heap) (locs' : List Loc) (ls' : Array Slot), Rel S' T' → Lw D ct ad am ao ao2 s S' T' g' gd' H' locs' → lv_has ls' 9 [(0, .ref b), (1, .ref (ad 0)), (2, .ref (am 0)), (3, .ref ao), (4, .ref ao2), (5, .int x5)] → W p l e room_1 s m #[Value.ref b] below meth c H' locs' (cells + 1) (slots + 6) Q (F0 m 2555 ls' [])) {ls : Array Slot} (hl : lv_has ls 9 [(0, .ref b), (1, .ref (ad 0)), (2, .ref (am 0)), (3, .ref ao), (4, .ref ao2), (5, .int x5)]) : W p l e room_1 s m #[Value.ref b] below meth c H locs cells slots Q (F0 m 433 ls []) := by
  obtain ⟨hx, hb, hr, hml, hown, htL, hlocks⟩ := id C
  have hbA : ¬ (fun q : Nat => s.heap.size ≤ q) b := Nat.not_le.mpr hbl
  obtain ⟨f1, f2, f3, f4⟩ := hD.fl
  obtain ⟨S', T', v, k, g', hM, hfm, hft, hRel, hans⟩ := wr_subtract l hl0 D ct ad ao hD.1 hD.2.2.1 (xs (x5 + 1).toNatClampNeg) (xs (x5 + 2).toNatClampNeg) hRel g
  refine lv_aload_n hx hb dL_law_433 rfl (lv_at hl 1 rfl) ?_
  refine lv_aload_n hx hb dL_law_434 rfl (lv_at hl 0 rfl) ?_
  refine lv_iload hx hb dL_law_435 (lv_at hl 5 rfl) ?_
  refine lv_iconst (v := 1) hx hb dL_law_437 (by decide) ?_
  refine lv_iadd hx hb dL_law_438 ?_
  refine va_sld hx hb hX hbl hbA hw.2.2.2.2 (hin 1 (by decide) (by decide)) dL_law_439 ?_
  refine lv_aload_n hx hb dL_law_440 rfl (lv_at hl 0 rfl) ?_
  refine lv_iload hx hb dL_law_441 (lv_at hl 5 rfl) ?_
  refine lv_iconst (v := 2) hx hb dL_law_443 (by decide) ?_
  refine lv_iadd hx hb dL_law_444 ?_
  refine va_sld hx hb hX hbl hbA hw.2.2.2.2 (hin 2 (by decide) (by decide)) dL_law_445 ?_
  refine lv_aload_n hx hb dL_law_446 rfl (lv_at hl 3 rfl) ?_
  refine hc_W (n := 4) C hK hXf hNc hM hl.1 mw_3_171 mw_1_0 mw_3_170 mw_3_169 (by decide +kernel) hw.1 hw.2.2.1 hw.2.2.2.2 f1 ⟨rfl, rfl⟩ ⟨Nat.le_of_ble_eq_true rfl, Nat.le_of_ble_eq_true rfl⟩ rfl rfl (Nat.le_of_ble_eq_true rfl) dL_law_447 hroom (fun H1 locs1 hP1 hO1 hS1 hz1 hk1 => ?_)
  have hw := hw.wrap hD hP1 hO1 hS1 hk1
  refine lv_istore (lv' := [(6, .int k), (0, .ref b), (1, .ref (ad 0)), (2, .ref (am 0)), (3, .ref ao), (4, .ref ao2), (5, .int x5)]) hx hb dL_law_450 hl (by decide) rfl (fun ls hl => ?_)
  refine lv_aload_n hx hb dL_law_452 rfl (lv_at hl 3 rfl) ?_
  refine lv_aload_n hx hb dL_law_453 rfl (lv_at hl 1 rfl) ?_
  refine lv_iload hx hb dL_law_454 (lv_at hl 6 rfl) ?_
  refine lv_iconst (v := 1) hx hb dL_law_456 (by decide) ?_
  refine lv_iadd hx hb dL_law_457 ?_
  refine va_sld hx hb hX hbl hbA hw.2.2.2.2 (hin 1 (by decide) (by decide)) dL_law_458 ?_
  refine lv_aload_n hx hb dL_law_459 rfl (lv_at hl 1 rfl) ?_
  refine lv_iload hx hb dL_law_460 (lv_at hl 6 rfl) ?_
  refine lv_iconst (v := 2) hx hb dL_law_462 (by decide) ?_
  refine lv_iadd hx hb dL_law_463 ?_
  refine va_sld hx hb hX hbl hbA hw.2.2.2.2 (hin 2 (by decide) (by decide)) dL_law_464 ?_
  refine hc_VF (n := 2) (As := [.int (xs (x5 + 1).toNatClampNeg), .int (xs (x5 + 2).toNatClampNeg)]) (rest := []) C hK (c_X10_subtract l D ct am (FM am) hD.2.1 (xs (x5 + 1).toNatClampNeg) (xs (x5 + 2).toNatClampNeg) T v T' hfm) hl.1 cp_X10_subtract mw_6_144 (rc_X10 hK hw.2.1) hw.2.1 hw.2.2.2.2 f3 ⟨rfl, rfl⟩ ⟨Nat.le_of_ble_eq_true rfl, Nat.le_of_ble_eq_true rfl⟩ rfl rfl (Nat.le_of_ble_eq_true rfl) dL_law_465 ⟨hroom.1, hroom.2⟩ (fun H1 locs1 hP1 hS1 hz1 hk1 => ?_)
  have hw := hw.model hD hP1 hS1 hk1
  refine lv_istore (lv' := [(7, .int v), (6, .int k), (0, .ref b), (1, .ref (ad 0)), (2, .ref (am 0)), (3, .ref ao), (4, .ref ao2), (5, .int x5)]) hx hb dL_law_468 hl (by decide) rfl (fun ls hl => ?_)
  refine lv_aload_n hx hb dL_law_470 rfl (lv_at hl 4 rfl) ?_
  refine hc_VF (n := 0) (As := []) (rest := []) C hK (c_X10_thrown l D ct am (FM am) hD.2.1 T' k hft) hl.1 cp_X10_thrown mw_6_5 (rc_X10 hK hw.2.1) hw.2.1 hw.2.2.2.2 f3 ⟨rfl, rfl⟩ ⟨Nat.le_of_ble_eq_true rfl, Nat.le_of_ble_eq_true rfl⟩ rfl rfl (Nat.le_of_ble_eq_true rfl) dL_law_471 ⟨hroom.1, hroom.2⟩ (fun H1 locs1 hP1 hS1 hz1 hk1 => ?_)
  have hw := hw.model hD hP1 hS1 hk1
  refine lv_iload hx hb dL_law_474 (lv_at hl 1 rfl) ?_
  refine lv_icmp_eq (tgt := 481) hx hb dL_law_476 (by decide) (fun _ => ?_) (fun q => absurd rfl q)
  refine lv_iload hx hb dL_law_481 (lv_at hl 1 rfl) ?_
  refine lv_if_ne (tgt := 498) hx hb dL_law_483 (by decide) (fun c1 => ?_) (fun c1 => ?_)
  · refine lv_goto (tgt := 2555) hx hb dL_law_498 (by decide) ?_
    exact next _ _ _ _ _ _ _ hRel hw (lv_sub hl [2, 3, 4, 5, 6, 7] rfl)
  · refine lv_aload_n hx hb dL_law_486 rfl (lv_at hl 5 rfl) ?_
    refine lv_iconst (v := 0) hx hb dL_law_487 (by decide) ?_
    refine va_lald hx hb hK hw.2.2.1 0 1 rfl rfl (by unfold vp_in; decide) dL_law_488 ?_
    refine lv_iload hx hb dL_law_489 (lv_at hl 0 rfl) ?_
    refine lv_i2l hx hb dL_law_491 rfl ?_
    refine W.lcmp hx hb dL_law_492 ?_
    rw [show g' (Int32.toNatClampNeg 0) = Int32.toInt64 v from hans c1]
    refine lv_if_eq (tgt := 498) hx hb dL_law_493 (by decide) (fun _ => ?_) (fun q => absurd (lgc_self _) q)
    refine lv_goto (tgt := 2555) hx hb dL_law_498 (by decide) ?_
    exact next _ _ _ _ _ _ _ hRel hw (lv_sub hl [2, 3, 4, 5, 6, 7] rfl)
set_option maxHeartbeats 4000000 in
theorem ca_multiply {p : Program} {l : Launch} {e : Env} {s : State} {m : MethodId} {below : List Frame} {meth : Method} {c : Code} {D : va_G} {ct : Nat → ClassId} {ad am : Nat → Nat} {ao ao2 b L : Nat} {xs : Nat → Int32} (hl0 : l.stackTraces = false) (C : Cx p c cL_law meth s m #[Value.ref b] RL (some .boolean) 9) (hX : va_X b L xs s s.heap) (hbl : b < s.heap.size) (hK : va_K D vwCl (tysW ct) s) (hXf : Xf (fun q => s.heap.size ≤ q) s) (hNc : Nc6 s) (hD : Ld ad am ao ao2 s) {S T : St} {g : Nat → Int64} {gd : Nat → UInt64} {H : Heap} {locs : List Loc} (hw : Lw D ct ad am ao ao2 s S T g gd H locs) (hRel : Rel S T) {x5 : Int32} (hin : ∀ j : Int32, 0 ≤ j → j ≤ 4 → vp_in (x5 + j) L) {cells slots : Nat} (hroom : cells + 1 ≤ room_1.cells ∧ slots + 6 ≤ room_1.slots) {Q : State → Prop}
    (next : ∀ (S' T' : St) (g' : Nat → Int64) (gd' : Nat → UInt64) (H' : Heap) (locs' : List Loc) (ls' : Array Slot), Rel S' T' → Lw D ct ad am ao ao2 s S' T' g' gd' H' locs' → lv_has ls' 9 [(0, .ref b), (1, .ref (ad 0)), (2, .ref (am 0)), (3, .ref ao), (4, .ref ao2), (5, .int x5)] → W p l e room_1 s m #[Value.ref b] below meth c H' locs' (cells + 1) (slots + 6) Q (F0 m 2555 ls' [])) {ls : Array Slot} (hl : lv_has ls 9 [(0, .ref b), (1, .ref (ad 0)), (2, .ref (am 0)), (3, .ref ao), (4, .ref ao2), (5, .int x5)]) : W p l e room_1 s m #[Value.ref b] below meth c H locs cells slots Q (F0 m 501 ls []) := by
  obtain ⟨hx, hb, hr, hml, hown, htL, hlocks⟩ := id C
  have hbA : ¬ (fun q : Nat => s.heap.size ≤ q) b := Nat.not_le.mpr hbl
  obtain ⟨f1, f2, f3, f4⟩ := hD.fl
  obtain ⟨S', T', v, k, g', hM, hfm, hft, hRel, hans⟩ := wr_multiply l hl0 D ct ad ao hD.1 hD.2.2.1 (xs (x5 + 1).toNatClampNeg) (xs (x5 + 2).toNatClampNeg) hRel g
  refine lv_aload_n hx hb dL_law_501 rfl (lv_at hl 1 rfl) ?_
  refine lv_aload_n hx hb dL_law_502 rfl (lv_at hl 0 rfl) ?_
  refine lv_iload hx hb dL_law_503 (lv_at hl 5 rfl) ?_
  refine lv_iconst (v := 1) hx hb dL_law_505 (by decide) ?_
  refine lv_iadd hx hb dL_law_506 ?_
  refine va_sld hx hb hX hbl hbA hw.2.2.2.2 (hin 1 (by decide) (by decide)) dL_law_507 ?_
  refine lv_aload_n hx hb dL_law_508 rfl (lv_at hl 0 rfl) ?_
  refine lv_iload hx hb dL_law_509 (lv_at hl 5 rfl) ?_
  refine lv_iconst (v := 2) hx hb dL_law_511 (by decide) ?_
  refine lv_iadd hx hb dL_law_512 ?_
  refine va_sld hx hb hX hbl hbA hw.2.2.2.2 (hin 2 (by decide) (by decide)) dL_law_513 ?_
  refine lv_aload_n hx hb dL_law_514 rfl (lv_at hl 3 rfl) ?_
  refine hc_W (n := 4) C hK hXf hNc hM hl.1 mw_3_178 mw_1_0 mw_3_177 mw_3_176 (by decide +kernel) hw.1 hw.2.2.1 hw.2.2.2.2 f1 ⟨rfl, rfl⟩ ⟨Nat.le_of_ble_eq_true rfl, Nat.le_of_ble_eq_true rfl⟩ rfl rfl (Nat.le_of_ble_eq_true rfl) dL_law_515 hroom (fun H1 locs1 hP1 hO1 hS1 hz1 hk1 => ?_)
  have hw := hw.wrap hD hP1 hO1 hS1 hk1
  refine lv_istore (lv' := [(6, .int k), (0, .ref b), (1, .ref (ad 0)), (2, .ref (am 0)), (3, .ref ao), (4, .ref ao2), (5, .int x5)]) hx hb dL_law_518 hl (by decide) rfl (fun ls hl => ?_)
  refine lv_aload_n hx hb dL_law_520 rfl (lv_at hl 3 rfl) ?_
  refine lv_aload_n hx hb dL_law_521 rfl (lv_at hl 1 rfl) ?_
  refine lv_iload hx hb dL_law_522 (lv_at hl 6 rfl) ?_
  refine lv_iconst (v := 1) hx hb dL_law_524 (by decide) ?_
  refine lv_iadd hx hb dL_law_525 ?_
  refine va_sld hx hb hX hbl hbA hw.2.2.2.2 (hin 1 (by decide) (by decide)) dL_law_526 ?_
  refine lv_aload_n hx hb dL_law_527 rfl (lv_at hl 1 rfl) ?_
  refine lv_iload hx hb dL_law_528 (lv_at hl 6 rfl) ?_
  refine lv_iconst (v := 2) hx hb dL_law_530 (by decide) ?_
  refine lv_iadd hx hb dL_law_531 ?_
  refine va_sld hx hb hX hbl hbA hw.2.2.2.2 (hin 2 (by decide) (by decide)) dL_law_532 ?_
  refine hc_VF (n := 2) (As := [.int (xs (x5 + 1).toNatClampNeg), .int (xs (x5 + 2).toNatClampNeg)]) (rest := []) C hK (c_X10_multiply l D ct am (FM am) hD.2.1 (xs (x5 + 1).toNatClampNeg) (xs (x5 + 2).toNatClampNeg) T v T' hfm) hl.1 cp_X10_multiply mw_6_148 (rc_X10 hK hw.2.1) hw.2.1 hw.2.2.2.2 f3 ⟨rfl, rfl⟩ ⟨Nat.le_of_ble_eq_true rfl, Nat.le_of_ble_eq_true rfl⟩ rfl rfl (Nat.le_of_ble_eq_true rfl) dL_law_533 ⟨hroom.1, hroom.2⟩ (fun H1 locs1 hP1 hS1 hz1 hk1 => ?_)
  have hw := hw.model hD hP1 hS1 hk1
  refine lv_istore (lv' := [(7, .int v), (6, .int k), (0, .ref b), (1, .ref (ad 0)), (2, .ref (am 0)), (3, .ref ao), (4, .ref ao2), (5, .int x5)]) hx hb dL_law_536 hl (by decide) rfl (fun ls hl => ?_)
  refine lv_aload_n hx hb dL_law_538 rfl (lv_at hl 4 rfl) ?_
  refine hc_VF (n := 0) (As := []) (rest := []) C hK (c_X10_thrown l D ct am (FM am) hD.2.1 T' k hft) hl.1 cp_X10_thrown mw_6_5 (rc_X10 hK hw.2.1) hw.2.1 hw.2.2.2.2 f3 ⟨rfl, rfl⟩ ⟨Nat.le_of_ble_eq_true rfl, Nat.le_of_ble_eq_true rfl⟩ rfl rfl (Nat.le_of_ble_eq_true rfl) dL_law_539 ⟨hroom.1, hroom.2⟩ (fun H1 locs1 hP1 hS1 hz1 hk1 => ?_)
  have hw := hw.model hD hP1 hS1 hk1
  refine lv_iload hx hb dL_law_542 (lv_at hl 1 rfl) ?_
  refine lv_icmp_eq (tgt := 549) hx hb dL_law_544 (by decide) (fun _ => ?_) (fun q => absurd rfl q)
  refine lv_iload hx hb dL_law_549 (lv_at hl 1 rfl) ?_
  refine lv_if_ne (tgt := 566) hx hb dL_law_551 (by decide) (fun c1 => ?_) (fun c1 => ?_)
  · refine lv_goto (tgt := 2555) hx hb dL_law_566 (by decide) ?_
    exact next _ _ _ _ _ _ _ hRel hw (lv_sub hl [2, 3, 4, 5, 6, 7] rfl)
  · refine lv_aload_n hx hb dL_law_554 rfl (lv_at hl 5 rfl) ?_
    refine lv_iconst (v := 0) hx hb dL_law_555 (by decide) ?_
    refine va_lald hx hb hK hw.2.2.1 0 1 rfl rfl (by unfold vp_in; decide) dL_law_556 ?_
    refine lv_iload hx hb dL_law_557 (lv_at hl 0 rfl) ?_
    refine lv_i2l hx hb dL_law_559 rfl ?_
    refine W.lcmp hx hb dL_law_560 ?_
    rw [show g' (Int32.toNatClampNeg 0) = Int32.toInt64 v from hans c1]
    refine lv_if_eq (tgt := 566) hx hb dL_law_561 (by decide) (fun _ => ?_) (fun q => absurd (lgc_self _) q)
    refine lv_goto (tgt := 2555) hx hb dL_law_566 (by decide) ?_
    exact next _ _ _ _ _ _ _ hRel hw (lv_sub hl [2, 3, 4, 5, 6, 7] rfl)
set_option maxHeartbeats 4000000 in
theorem ca_divide {p : Program} {l : Launch} {e : Env} {s : State} {m : MethodId} {below : List Frame} {meth : Method} {c : Code} {D : va_G} {ct : Nat → ClassId} {ad am : Nat → Nat} {ao ao2 b L : Nat} {xs : Nat → Int32} (hl0 : l.stackTraces = false) (C : Cx p c cL_law meth s m #[Value.ref b] RL (some .boolean) 9) (hX : va_X b L xs s s.heap) (hbl : b < s.heap.size) (hK : va_K D vwCl (tysW ct) s) (hXf : Xf (fun q => s.heap.size ≤ q) s) (hNc : Nc6 s) (hD : Ld ad am ao ao2 s) {S T : St} {g : Nat → Int64} {gd : Nat → UInt64} {H : Heap} {locs : List Loc} (hw : Lw D ct ad am ao ao2 s S T g gd H locs) (hRel : Rel S T) {x5 : Int32} (hin : ∀ j : Int32, 0 ≤ j → j ≤ 4 → vp_in (x5 + j) L) {cells slots : Nat} (hroom : cells + 1 ≤ room_1.cells ∧ slots + 6 ≤ room_1.slots) {Q : State → Prop}
    (next : ∀ (S' T' : St) (g' : Nat → Int64) (gd' : Nat → UInt64) (H' : Heap) (locs' : List Loc) (ls' : Array Slot), Rel S' T' → Lw D ct ad am ao ao2 s S' T' g' gd' H' locs' → lv_has ls' 9 [(0, .ref b), (1, .ref (ad 0)), (2, .ref (am 0)), (3, .ref ao), (4, .ref ao2), (5, .int x5)] → W p l e room_1 s m #[Value.ref b] below meth c H' locs' (cells + 1) (slots + 6) Q (F0 m 2555 ls' [])) {ls : Array Slot} (hl : lv_has ls 9 [(0, .ref b), (1, .ref (ad 0)), (2, .ref (am 0)), (3, .ref ao), (4, .ref ao2), (5, .int x5)]) : W p l e room_1 s m #[Value.ref b] below meth c H locs cells slots Q (F0 m 569 ls []) := by
  obtain ⟨hx, hb, hr, hml, hown, htL, hlocks⟩ := id C
  have hbA : ¬ (fun q : Nat => s.heap.size ≤ q) b := Nat.not_le.mpr hbl
  obtain ⟨f1, f2, f3, f4⟩ := hD.fl
  obtain ⟨S', T', v, k, g', hM, hfm, hft, hRel, hans⟩ := wr_divide l hl0 D ct ad ao hD.1 hD.2.2.1 (xs (x5 + 1).toNatClampNeg) (xs (x5 + 2).toNatClampNeg) hRel g
  refine lv_aload_n hx hb dL_law_569 rfl (lv_at hl 1 rfl) ?_
  refine lv_aload_n hx hb dL_law_570 rfl (lv_at hl 0 rfl) ?_
  refine lv_iload hx hb dL_law_571 (lv_at hl 5 rfl) ?_
  refine lv_iconst (v := 1) hx hb dL_law_573 (by decide) ?_
  refine lv_iadd hx hb dL_law_574 ?_
  refine va_sld hx hb hX hbl hbA hw.2.2.2.2 (hin 1 (by decide) (by decide)) dL_law_575 ?_
  refine lv_aload_n hx hb dL_law_576 rfl (lv_at hl 0 rfl) ?_
  refine lv_iload hx hb dL_law_577 (lv_at hl 5 rfl) ?_
  refine lv_iconst (v := 2) hx hb dL_law_579 (by decide) ?_
  refine lv_iadd hx hb dL_law_580 ?_
  refine va_sld hx hb hX hbl hbA hw.2.2.2.2 (hin 2 (by decide) (by decide)) dL_law_581 ?_
  refine lv_aload_n hx hb dL_law_582 rfl (lv_at hl 3 rfl) ?_
  refine hc_W (n := 4) C hK hXf hNc hM hl.1 mw_3_203 mw_1_0 mw_3_202 mw_3_201 (by decide +kernel) hw.1 hw.2.2.1 hw.2.2.2.2 f1 ⟨rfl, rfl⟩ ⟨Nat.le_of_ble_eq_true rfl, Nat.le_of_ble_eq_true rfl⟩ rfl rfl (Nat.le_of_ble_eq_true rfl) dL_law_583 hroom (fun H1 locs1 hP1 hO1 hS1 hz1 hk1 => ?_)
  have hw := hw.wrap hD hP1 hO1 hS1 hk1
  refine lv_istore (lv' := [(6, .int k), (0, .ref b), (1, .ref (ad 0)), (2, .ref (am 0)), (3, .ref ao), (4, .ref ao2), (5, .int x5)]) hx hb dL_law_586 hl (by decide) rfl (fun ls hl => ?_)
  refine lv_aload_n hx hb dL_law_588 rfl (lv_at hl 3 rfl) ?_
  refine lv_aload_n hx hb dL_law_589 rfl (lv_at hl 1 rfl) ?_
  refine lv_iload hx hb dL_law_590 (lv_at hl 6 rfl) ?_
  refine lv_iconst (v := 1) hx hb dL_law_592 (by decide) ?_
  refine lv_iadd hx hb dL_law_593 ?_
  refine va_sld hx hb hX hbl hbA hw.2.2.2.2 (hin 1 (by decide) (by decide)) dL_law_594 ?_
  refine lv_aload_n hx hb dL_law_595 rfl (lv_at hl 1 rfl) ?_
  refine lv_iload hx hb dL_law_596 (lv_at hl 6 rfl) ?_
  refine lv_iconst (v := 2) hx hb dL_law_598 (by decide) ?_
  refine lv_iadd hx hb dL_law_599 ?_
  refine va_sld hx hb hX hbl hbA hw.2.2.2.2 (hin 2 (by decide) (by decide)) dL_law_600 ?_
  refine hc_VF (n := 2) (As := [.int (xs (x5 + 1).toNatClampNeg), .int (xs (x5 + 2).toNatClampNeg)]) (rest := []) C hK (c_X10_divide l D ct am (FM am) hD.2.1 (xs (x5 + 1).toNatClampNeg) (xs (x5 + 2).toNatClampNeg) T v T' hfm) hl.1 cp_X10_divide mw_6_152 (rc_X10 hK hw.2.1) hw.2.1 hw.2.2.2.2 f3 ⟨rfl, rfl⟩ ⟨Nat.le_of_ble_eq_true rfl, Nat.le_of_ble_eq_true rfl⟩ rfl rfl (Nat.le_of_ble_eq_true rfl) dL_law_601 ⟨hroom.1, hroom.2⟩ (fun H1 locs1 hP1 hS1 hz1 hk1 => ?_)
  have hw := hw.model hD hP1 hS1 hk1
  refine lv_istore (lv' := [(7, .int v), (6, .int k), (0, .ref b), (1, .ref (ad 0)), (2, .ref (am 0)), (3, .ref ao), (4, .ref ao2), (5, .int x5)]) hx hb dL_law_604 hl (by decide) rfl (fun ls hl => ?_)
  refine lv_aload_n hx hb dL_law_606 rfl (lv_at hl 4 rfl) ?_
  refine hc_VF (n := 0) (As := []) (rest := []) C hK (c_X10_thrown l D ct am (FM am) hD.2.1 T' k hft) hl.1 cp_X10_thrown mw_6_5 (rc_X10 hK hw.2.1) hw.2.1 hw.2.2.2.2 f3 ⟨rfl, rfl⟩ ⟨Nat.le_of_ble_eq_true rfl, Nat.le_of_ble_eq_true rfl⟩ rfl rfl (Nat.le_of_ble_eq_true rfl) dL_law_607 ⟨hroom.1, hroom.2⟩ (fun H1 locs1 hP1 hS1 hz1 hk1 => ?_)
  have hw := hw.model hD hP1 hS1 hk1
  refine lv_iload hx hb dL_law_610 (lv_at hl 1 rfl) ?_
  refine lv_icmp_eq (tgt := 617) hx hb dL_law_612 (by decide) (fun _ => ?_) (fun q => absurd rfl q)
  refine lv_iload hx hb dL_law_617 (lv_at hl 1 rfl) ?_
  refine lv_if_ne (tgt := 634) hx hb dL_law_619 (by decide) (fun c1 => ?_) (fun c1 => ?_)
  · refine lv_goto (tgt := 2555) hx hb dL_law_634 (by decide) ?_
    exact next _ _ _ _ _ _ _ hRel hw (lv_sub hl [2, 3, 4, 5, 6, 7] rfl)
  · refine lv_aload_n hx hb dL_law_622 rfl (lv_at hl 5 rfl) ?_
    refine lv_iconst (v := 0) hx hb dL_law_623 (by decide) ?_
    refine va_lald hx hb hK hw.2.2.1 0 1 rfl rfl (by unfold vp_in; decide) dL_law_624 ?_
    refine lv_iload hx hb dL_law_625 (lv_at hl 0 rfl) ?_
    refine lv_i2l hx hb dL_law_627 rfl ?_
    refine W.lcmp hx hb dL_law_628 ?_
    rw [show g' (Int32.toNatClampNeg 0) = Int32.toInt64 v from hans c1]
    refine lv_if_eq (tgt := 634) hx hb dL_law_629 (by decide) (fun _ => ?_) (fun q => absurd (lgc_self _) q)
    refine lv_goto (tgt := 2555) hx hb dL_law_634 (by decide) ?_
    exact next _ _ _ _ _ _ _ hRel hw (lv_sub hl [2, 3, 4, 5, 6, 7] rfl)
set_option maxHeartbeats 4000000 in
theorem ca_root {p : Program} {l : Launch} {e : Env} {s : State} {m : MethodId} {below : List Frame} {meth : Method} {c : Code} {D : va_G} {ct : Nat → ClassId} {ad am : Nat → Nat} {ao ao2 b L : Nat} {xs : Nat → Int32} (hl0 : l.stackTraces = false) (C : Cx p c cL_law meth s m #[Value.ref b] RL (some .boolean) 9) (hX : va_X b L xs s s.heap) (hbl : b < s.heap.size) (hK : va_K D vwCl (tysW ct) s) (hXf : Xf (fun q => s.heap.size ≤ q) s) (hNc : Nc6 s) (hD : Ld ad am ao ao2 s) {S T : St} {g : Nat → Int64} {gd : Nat → UInt64} {H : Heap} {locs : List Loc} (hw : Lw D ct ad am ao ao2 s S T g gd H locs) (hRel : Rel S T) {x5 : Int32} (hin : ∀ j : Int32, 0 ≤ j → j ≤ 4 → vp_in (x5 + j) L) {cells slots : Nat} (hroom : cells + 1 ≤ room_1.cells ∧ slots + 6 ≤ room_1.slots) {Q : State → Prop}
    (next : ∀ (S' T' : St) (g' : Nat → Int64) (gd' : Nat → UInt64) (H' : Heap) (locs' : List Loc) (ls' : Array Slot), Rel S' T' → Lw D ct ad am ao ao2 s S' T' g' gd' H' locs' → lv_has ls' 9 [(0, .ref b), (1, .ref (ad 0)), (2, .ref (am 0)), (3, .ref ao), (4, .ref ao2), (5, .int x5)] → W p l e room_1 s m #[Value.ref b] below meth c H' locs' (cells + 1) (slots + 6) Q (F0 m 2555 ls' [])) {ls : Array Slot} (hl : lv_has ls 9 [(0, .ref b), (1, .ref (ad 0)), (2, .ref (am 0)), (3, .ref ao), (4, .ref ao2), (5, .int x5)]) : W p l e room_1 s m #[Value.ref b] below meth c H locs cells slots Q (F0 m 637 ls []) := by
  obtain ⟨hx, hb, hr, hml, hown, htL, hlocks⟩ := id C
  have hbA : ¬ (fun q : Nat => s.heap.size ≤ q) b := Nat.not_le.mpr hbl
  obtain ⟨f1, f2, f3, f4⟩ := hD.fl
  obtain ⟨S', T', v, k, g', hM, hfm, hft, hRel, hans⟩ := wr_root l hl0 D ct ad ao hD.1 hD.2.2.1 (xs (x5 + 1).toNatClampNeg) hRel g
  refine lv_aload_n hx hb dL_law_637 rfl (lv_at hl 1 rfl) ?_
  refine lv_aload_n hx hb dL_law_638 rfl (lv_at hl 0 rfl) ?_
  refine lv_iload hx hb dL_law_639 (lv_at hl 5 rfl) ?_
  refine lv_iconst (v := 1) hx hb dL_law_641 (by decide) ?_
  refine lv_iadd hx hb dL_law_642 ?_
  refine va_sld hx hb hX hbl hbA hw.2.2.2.2 (hin 1 (by decide) (by decide)) dL_law_643 ?_
  refine lv_aload_n hx hb dL_law_644 rfl (lv_at hl 3 rfl) ?_
  refine hc_W (n := 3) C hK hXf hNc hM hl.1 mw_3_212 mw_1_0 mw_3_211 mw_3_210 (by decide +kernel) hw.1 hw.2.2.1 hw.2.2.2.2 f1 ⟨rfl, rfl⟩ ⟨Nat.le_of_ble_eq_true rfl, Nat.le_of_ble_eq_true rfl⟩ rfl rfl (Nat.le_of_ble_eq_true rfl) dL_law_645 hroom (fun H1 locs1 hP1 hO1 hS1 hz1 hk1 => ?_)
  have hw := hw.wrap hD hP1 hO1 hS1 hk1
  refine lv_istore (lv' := [(6, .int k), (0, .ref b), (1, .ref (ad 0)), (2, .ref (am 0)), (3, .ref ao), (4, .ref ao2), (5, .int x5)]) hx hb dL_law_648 hl (by decide) rfl (fun ls hl => ?_)
  refine lv_aload_n hx hb dL_law_650 rfl (lv_at hl 3 rfl) ?_
  refine lv_aload_n hx hb dL_law_651 rfl (lv_at hl 1 rfl) ?_
  refine lv_iload hx hb dL_law_652 (lv_at hl 6 rfl) ?_
  refine lv_iconst (v := 1) hx hb dL_law_654 (by decide) ?_
  refine lv_iadd hx hb dL_law_655 ?_
  refine va_sld hx hb hX hbl hbA hw.2.2.2.2 (hin 1 (by decide) (by decide)) dL_law_656 ?_
  refine hc_VF (n := 1) (As := [.int (xs (x5 + 1).toNatClampNeg)]) (rest := []) C hK (c_X10_root l D ct am (FM am) hD.2.1 (xs (x5 + 1).toNatClampNeg) T v T' hfm) hl.1 cp_X10_root mw_6_156 (rc_X10 hK hw.2.1) hw.2.1 hw.2.2.2.2 f3 ⟨rfl, rfl⟩ ⟨Nat.le_of_ble_eq_true rfl, Nat.le_of_ble_eq_true rfl⟩ rfl rfl (Nat.le_of_ble_eq_true rfl) dL_law_657 ⟨hroom.1, hroom.2⟩ (fun H1 locs1 hP1 hS1 hz1 hk1 => ?_)
  have hw := hw.model hD hP1 hS1 hk1
  refine lv_istore (lv' := [(7, .int v), (6, .int k), (0, .ref b), (1, .ref (ad 0)), (2, .ref (am 0)), (3, .ref ao), (4, .ref ao2), (5, .int x5)]) hx hb dL_law_660 hl (by decide) rfl (fun ls hl => ?_)
  refine lv_aload_n hx hb dL_law_662 rfl (lv_at hl 4 rfl) ?_
  refine hc_VF (n := 0) (As := []) (rest := []) C hK (c_X10_thrown l D ct am (FM am) hD.2.1 T' k hft) hl.1 cp_X10_thrown mw_6_5 (rc_X10 hK hw.2.1) hw.2.1 hw.2.2.2.2 f3 ⟨rfl, rfl⟩ ⟨Nat.le_of_ble_eq_true rfl, Nat.le_of_ble_eq_true rfl⟩ rfl rfl (Nat.le_of_ble_eq_true rfl) dL_law_663 ⟨hroom.1, hroom.2⟩ (fun H1 locs1 hP1 hS1 hz1 hk1 => ?_)
  have hw := hw.model hD hP1 hS1 hk1
  refine lv_iload hx hb dL_law_666 (lv_at hl 1 rfl) ?_
  refine lv_icmp_eq (tgt := 673) hx hb dL_law_668 (by decide) (fun _ => ?_) (fun q => absurd rfl q)
  refine lv_iload hx hb dL_law_673 (lv_at hl 1 rfl) ?_
  refine lv_if_ne (tgt := 690) hx hb dL_law_675 (by decide) (fun c1 => ?_) (fun c1 => ?_)
  · refine lv_goto (tgt := 2555) hx hb dL_law_690 (by decide) ?_
    exact next _ _ _ _ _ _ _ hRel hw (lv_sub hl [2, 3, 4, 5, 6, 7] rfl)
  · refine lv_aload_n hx hb dL_law_678 rfl (lv_at hl 5 rfl) ?_
    refine lv_iconst (v := 0) hx hb dL_law_679 (by decide) ?_
    refine va_lald hx hb hK hw.2.2.1 0 1 rfl rfl (by unfold vp_in; decide) dL_law_680 ?_
    refine lv_iload hx hb dL_law_681 (lv_at hl 0 rfl) ?_
    refine lv_i2l hx hb dL_law_683 rfl ?_
    refine W.lcmp hx hb dL_law_684 ?_
    rw [show g' (Int32.toNatClampNeg 0) = Int32.toInt64 v from hans c1]
    refine lv_if_eq (tgt := 690) hx hb dL_law_685 (by decide) (fun _ => ?_) (fun q => absurd (lgc_self _) q)
    refine lv_goto (tgt := 2555) hx hb dL_law_690 (by decide) ?_
    exact next _ _ _ _ _ _ _ hRel hw (lv_sub hl [2, 3, 4, 5, 6, 7] rfl)
set_option maxHeartbeats 4000000 in
theorem ca_unity {p : Program} {l : Launch} {e : Env} {s : State} {m : MethodId} {below : List Frame} {meth : Method} {c : Code} {D : va_G} {ct : Nat → ClassId} {ad am : Nat → Nat} {ao ao2 b L : Nat} {xs : Nat → Int32} (hl0 : l.stackTraces = false) (C : Cx p c cL_law meth s m #[Value.ref b] RL (some .boolean) 9) (hX : va_X b L xs s s.heap) (hbl : b < s.heap.size) (hK : va_K D vwCl (tysW ct) s) (hXf : Xf (fun q => s.heap.size ≤ q) s) (hNc : Nc6 s) (hD : Ld ad am ao ao2 s) {S T : St} {g : Nat → Int64} {gd : Nat → UInt64} {H : Heap} {locs : List Loc} (hw : Lw D ct ad am ao ao2 s S T g gd H locs) (hRel : Rel S T) {x5 : Int32} (hin : ∀ j : Int32, 0 ≤ j → j ≤ 4 → vp_in (x5 + j) L) {cells slots : Nat} (hroom : cells + 1 ≤ room_1.cells ∧ slots + 6 ≤ room_1.slots) {Q : State → Prop}
    (next : ∀ (S' T' : St) (g' : Nat → Int64) (gd' : Nat → UInt64) (H' : Heap) (locs' : List Loc) (ls' : Array Slot), Rel S' T' → Lw D ct ad am ao ao2 s S' T' g' gd' H' locs' → lv_has ls' 9 [(0, .ref b), (1, .ref (ad 0)), (2, .ref (am 0)), (3, .ref ao), (4, .ref ao2), (5, .int x5)] → W p l e room_1 s m #[Value.ref b] below meth c H' locs' (cells + 1) (slots + 6) Q (F0 m 2555 ls' [])) {ls : Array Slot} (hl : lv_has ls 9 [(0, .ref b), (1, .ref (ad 0)), (2, .ref (am 0)), (3, .ref ao), (4, .ref ao2), (5, .int x5)]) : W p l e room_1 s m #[Value.ref b] below meth c H locs cells slots Q (F0 m 693 ls []) := by
  obtain ⟨hx, hb, hr, hml, hown, htL, hlocks⟩ := id C
  have hbA : ¬ (fun q : Nat => s.heap.size ≤ q) b := Nat.not_le.mpr hbl
  obtain ⟨f1, f2, f3, f4⟩ := hD.fl
  obtain ⟨S', T', v, k, g', hM, hfm, hft, hRel, hans⟩ := wr_unity l hl0 D ct ad ao hD.1 hD.2.2.1 (xs (x5 + 1).toNatClampNeg) hRel g
  refine lv_aload_n hx hb dL_law_693 rfl (lv_at hl 1 rfl) ?_
  refine lv_aload_n hx hb dL_law_694 rfl (lv_at hl 0 rfl) ?_
  refine lv_iload hx hb dL_law_695 (lv_at hl 5 rfl) ?_
  refine lv_iconst (v := 1) hx hb dL_law_697 (by decide) ?_
  refine lv_iadd hx hb dL_law_698 ?_
  refine va_sld hx hb hX hbl hbA hw.2.2.2.2 (hin 1 (by decide) (by decide)) dL_law_699 ?_
  refine lv_aload_n hx hb dL_law_700 rfl (lv_at hl 3 rfl) ?_
  refine hc_W (n := 3) C hK hXf hNc hM hl.1 mw_3_225 mw_1_0 mw_3_224 mw_3_223 (by decide +kernel) hw.1 hw.2.2.1 hw.2.2.2.2 f1 ⟨rfl, rfl⟩ ⟨Nat.le_of_ble_eq_true rfl, Nat.le_of_ble_eq_true rfl⟩ rfl rfl (Nat.le_of_ble_eq_true rfl) dL_law_701 hroom (fun H1 locs1 hP1 hO1 hS1 hz1 hk1 => ?_)
  have hw := hw.wrap hD hP1 hO1 hS1 hk1
  refine lv_istore (lv' := [(6, .int k), (0, .ref b), (1, .ref (ad 0)), (2, .ref (am 0)), (3, .ref ao), (4, .ref ao2), (5, .int x5)]) hx hb dL_law_704 hl (by decide) rfl (fun ls hl => ?_)
  refine lv_aload_n hx hb dL_law_706 rfl (lv_at hl 3 rfl) ?_
  refine lv_aload_n hx hb dL_law_707 rfl (lv_at hl 1 rfl) ?_
  refine lv_iload hx hb dL_law_708 (lv_at hl 6 rfl) ?_
  refine lv_iconst (v := 1) hx hb dL_law_710 (by decide) ?_
  refine lv_iadd hx hb dL_law_711 ?_
  refine va_sld hx hb hX hbl hbA hw.2.2.2.2 (hin 1 (by decide) (by decide)) dL_law_712 ?_
  refine hc_VF (n := 1) (As := [.int (xs (x5 + 1).toNatClampNeg)]) (rest := []) C hK (c_X10_unity l D ct am (FM am) hD.2.1 (xs (x5 + 1).toNatClampNeg) T v T' hfm) hl.1 cp_X10_unity mw_6_169 (rc_X10 hK hw.2.1) hw.2.1 hw.2.2.2.2 f3 ⟨rfl, rfl⟩ ⟨Nat.le_of_ble_eq_true rfl, Nat.le_of_ble_eq_true rfl⟩ rfl rfl (Nat.le_of_ble_eq_true rfl) dL_law_713 ⟨hroom.1, hroom.2⟩ (fun H1 locs1 hP1 hS1 hz1 hk1 => ?_)
  have hw := hw.model hD hP1 hS1 hk1
  refine lv_istore (lv' := [(7, .int v), (6, .int k), (0, .ref b), (1, .ref (ad 0)), (2, .ref (am 0)), (3, .ref ao), (4, .ref ao2), (5, .int x5)]) hx hb dL_law_716 hl (by decide) rfl (fun ls hl => ?_)
  refine lv_aload_n hx hb dL_law_718 rfl (lv_at hl 4 rfl) ?_
  refine hc_VF (n := 0) (As := []) (rest := []) C hK (c_X10_thrown l D ct am (FM am) hD.2.1 T' k hft) hl.1 cp_X10_thrown mw_6_5 (rc_X10 hK hw.2.1) hw.2.1 hw.2.2.2.2 f3 ⟨rfl, rfl⟩ ⟨Nat.le_of_ble_eq_true rfl, Nat.le_of_ble_eq_true rfl⟩ rfl rfl (Nat.le_of_ble_eq_true rfl) dL_law_719 ⟨hroom.1, hroom.2⟩ (fun H1 locs1 hP1 hS1 hz1 hk1 => ?_)
  have hw := hw.model hD hP1 hS1 hk1
  refine lv_iload hx hb dL_law_722 (lv_at hl 1 rfl) ?_
  refine lv_icmp_eq (tgt := 729) hx hb dL_law_724 (by decide) (fun _ => ?_) (fun q => absurd rfl q)
  refine lv_iload hx hb dL_law_729 (lv_at hl 1 rfl) ?_
  refine lv_if_ne (tgt := 746) hx hb dL_law_731 (by decide) (fun c1 => ?_) (fun c1 => ?_)
  · refine lv_goto (tgt := 2555) hx hb dL_law_746 (by decide) ?_
    exact next _ _ _ _ _ _ _ hRel hw (lv_sub hl [2, 3, 4, 5, 6, 7] rfl)
  · refine lv_aload_n hx hb dL_law_734 rfl (lv_at hl 5 rfl) ?_
    refine lv_iconst (v := 0) hx hb dL_law_735 (by decide) ?_
    refine va_lald hx hb hK hw.2.2.1 0 1 rfl rfl (by unfold vp_in; decide) dL_law_736 ?_
    refine lv_iload hx hb dL_law_737 (lv_at hl 0 rfl) ?_
    refine lv_i2l hx hb dL_law_739 rfl ?_
    refine W.lcmp hx hb dL_law_740 ?_
    rw [show g' (Int32.toNatClampNeg 0) = Int32.toInt64 v from hans c1]
    refine lv_if_eq (tgt := 746) hx hb dL_law_741 (by decide) (fun _ => ?_) (fun q => absurd (lgc_self _) q)
    refine lv_goto (tgt := 2555) hx hb dL_law_746 (by decide) ?_
    exact next _ _ _ _ _ _ _ hRel hw (lv_sub hl [2, 3, 4, 5, 6, 7] rfl)
set_option maxHeartbeats 4000000 in
theorem ca_precision {p : Program} {l : Launch} {e : Env} {s : State} {m : MethodId} {below : List Frame} {meth : Method} {c : Code} {D : va_G} {ct : Nat → ClassId} {ad am : Nat → Nat} {ao ao2 b L : Nat} {xs : Nat → Int32} (hl0 : l.stackTraces = false) (C : Cx p c cL_law meth s m #[Value.ref b] RL (some .boolean) 9) (hX : va_X b L xs s s.heap) (hbl : b < s.heap.size) (hK : va_K D vwCl (tysW ct) s) (hXf : Xf (fun q => s.heap.size ≤ q) s) (hNc : Nc6 s) (hD : Ld ad am ao ao2 s) {S T : St} {g : Nat → Int64} {gd : Nat → UInt64} {H : Heap} {locs : List Loc} (hw : Lw D ct ad am ao ao2 s S T g gd H locs) (hRel : Rel S T) {x5 : Int32} (hin : ∀ j : Int32, 0 ≤ j → j ≤ 4 → vp_in (x5 + j) L) {cells slots : Nat} (hroom : cells + 1 ≤ room_1.cells ∧ slots + 6 ≤ room_1.slots) {Q : State → Prop}
    (next : ∀ (S' T' : St) (g' : Nat → Int64) (gd' : Nat → UInt64) (H' : Heap) (locs' : List Loc) (ls' : Array Slot), Rel S' T' → Lw D ct ad am ao ao2 s S' T' g' gd' H' locs' → lv_has ls' 9 [(0, .ref b), (1, .ref (ad 0)), (2, .ref (am 0)), (3, .ref ao), (4, .ref ao2), (5, .int x5)] → W p l e room_1 s m #[Value.ref b] below meth c H' locs' (cells + 1) (slots + 6) Q (F0 m 2555 ls' [])) {ls : Array Slot} (hl : lv_has ls 9 [(0, .ref b), (1, .ref (ad 0)), (2, .ref (am 0)), (3, .ref ao), (4, .ref ao2), (5, .int x5)]) : W p l e room_1 s m #[Value.ref b] below meth c H locs cells slots Q (F0 m 749 ls []) := by
  obtain ⟨hx, hb, hr, hml, hown, htL, hlocks⟩ := id C
  have hbA : ¬ (fun q : Nat => s.heap.size ≤ q) b := Nat.not_le.mpr hbl
  obtain ⟨f1, f2, f3, f4⟩ := hD.fl
  obtain ⟨S', T', v, k, g', hM, hfm, hft, hRel, hans⟩ := wr_precision l hl0 D ct ad ao hD.1 hD.2.2.1 (xs (x5 + 1).toNatClampNeg) hRel g
  refine lv_aload_n hx hb dL_law_749 rfl (lv_at hl 1 rfl) ?_
  refine lv_aload_n hx hb dL_law_750 rfl (lv_at hl 0 rfl) ?_
  refine lv_iload hx hb dL_law_751 (lv_at hl 5 rfl) ?_
  refine lv_iconst (v := 1) hx hb dL_law_753 (by decide) ?_
  refine lv_iadd hx hb dL_law_754 ?_
  refine va_sld hx hb hX hbl hbA hw.2.2.2.2 (hin 1 (by decide) (by decide)) dL_law_755 ?_
  refine lv_aload_n hx hb dL_law_756 rfl (lv_at hl 3 rfl) ?_
  refine hc_W (n := 3) C hK hXf hNc hM hl.1 mw_3_233 mw_1_0 mw_3_232 mw_3_231 (by decide +kernel) hw.1 hw.2.2.1 hw.2.2.2.2 f1 ⟨rfl, rfl⟩ ⟨Nat.le_of_ble_eq_true rfl, Nat.le_of_ble_eq_true rfl⟩ rfl rfl (Nat.le_of_ble_eq_true rfl) dL_law_757 hroom (fun H1 locs1 hP1 hO1 hS1 hz1 hk1 => ?_)
  have hw := hw.wrap hD hP1 hO1 hS1 hk1
  refine lv_istore (lv' := [(6, .int k), (0, .ref b), (1, .ref (ad 0)), (2, .ref (am 0)), (3, .ref ao), (4, .ref ao2), (5, .int x5)]) hx hb dL_law_760 hl (by decide) rfl (fun ls hl => ?_)
  refine lv_aload_n hx hb dL_law_762 rfl (lv_at hl 3 rfl) ?_
  refine lv_aload_n hx hb dL_law_763 rfl (lv_at hl 1 rfl) ?_
  refine lv_iload hx hb dL_law_764 (lv_at hl 6 rfl) ?_
  refine lv_iconst (v := 1) hx hb dL_law_766 (by decide) ?_
  refine lv_iadd hx hb dL_law_767 ?_
  refine va_sld hx hb hX hbl hbA hw.2.2.2.2 (hin 1 (by decide) (by decide)) dL_law_768 ?_
  refine hc_VF (n := 1) (As := [.int (xs (x5 + 1).toNatClampNeg)]) (rest := []) C hK (c_X10_precision l D ct am (FM am) hD.2.1 (xs (x5 + 1).toNatClampNeg) T v T' hfm) hl.1 cp_X10_precision mw_6_173 (rc_X10 hK hw.2.1) hw.2.1 hw.2.2.2.2 f3 ⟨rfl, rfl⟩ ⟨Nat.le_of_ble_eq_true rfl, Nat.le_of_ble_eq_true rfl⟩ rfl rfl (Nat.le_of_ble_eq_true rfl) dL_law_769 ⟨hroom.1, hroom.2⟩ (fun H1 locs1 hP1 hS1 hz1 hk1 => ?_)
  have hw := hw.model hD hP1 hS1 hk1
  refine lv_istore (lv' := [(7, .int v), (6, .int k), (0, .ref b), (1, .ref (ad 0)), (2, .ref (am 0)), (3, .ref ao), (4, .ref ao2), (5, .int x5)]) hx hb dL_law_772 hl (by decide) rfl (fun ls hl => ?_)
  refine lv_aload_n hx hb dL_law_774 rfl (lv_at hl 4 rfl) ?_
  refine hc_VF (n := 0) (As := []) (rest := []) C hK (c_X10_thrown l D ct am (FM am) hD.2.1 T' k hft) hl.1 cp_X10_thrown mw_6_5 (rc_X10 hK hw.2.1) hw.2.1 hw.2.2.2.2 f3 ⟨rfl, rfl⟩ ⟨Nat.le_of_ble_eq_true rfl, Nat.le_of_ble_eq_true rfl⟩ rfl rfl (Nat.le_of_ble_eq_true rfl) dL_law_775 ⟨hroom.1, hroom.2⟩ (fun H1 locs1 hP1 hS1 hz1 hk1 => ?_)
  have hw := hw.model hD hP1 hS1 hk1
  refine lv_iload hx hb dL_law_778 (lv_at hl 1 rfl) ?_
  refine lv_icmp_eq (tgt := 785) hx hb dL_law_780 (by decide) (fun _ => ?_) (fun q => absurd rfl q)
  refine lv_iload hx hb dL_law_785 (lv_at hl 1 rfl) ?_
  refine lv_if_ne (tgt := 802) hx hb dL_law_787 (by decide) (fun c1 => ?_) (fun c1 => ?_)
  · refine lv_goto (tgt := 2555) hx hb dL_law_802 (by decide) ?_
    exact next _ _ _ _ _ _ _ hRel hw (lv_sub hl [2, 3, 4, 5, 6, 7] rfl)
  · refine lv_aload_n hx hb dL_law_790 rfl (lv_at hl 5 rfl) ?_
    refine lv_iconst (v := 0) hx hb dL_law_791 (by decide) ?_
    refine va_lald hx hb hK hw.2.2.1 0 1 rfl rfl (by unfold vp_in; decide) dL_law_792 ?_
    refine lv_iload hx hb dL_law_793 (lv_at hl 0 rfl) ?_
    refine lv_i2l hx hb dL_law_795 rfl ?_
    refine W.lcmp hx hb dL_law_796 ?_
    rw [show g' (Int32.toNatClampNeg 0) = Int32.toInt64 v from hans c1]
    refine lv_if_eq (tgt := 802) hx hb dL_law_797 (by decide) (fun _ => ?_) (fun q => absurd (lgc_self _) q)
    refine lv_goto (tgt := 2555) hx hb dL_law_802 (by decide) ?_
    exact next _ _ _ _ _ _ _ hRel hw (lv_sub hl [2, 3, 4, 5, 6, 7] rfl)
set_option maxHeartbeats 4000000 in
theorem ca_valuation {p : Program} {l : Launch} {e : Env} {s : State} {m : MethodId} {below : List Frame} {meth : Method} {c : Code} {D : va_G} {ct : Nat → ClassId} {ad am : Nat → Nat} {ao ao2 b L : Nat} {xs : Nat → Int32} (hl0 : l.stackTraces = false) (C : Cx p c cL_law meth s m #[Value.ref b] RL (some .boolean) 9) (hX : va_X b L xs s s.heap) (hbl : b < s.heap.size) (hK : va_K D vwCl (tysW ct) s) (hXf : Xf (fun q => s.heap.size ≤ q) s) (hNc : Nc6 s) (hD : Ld ad am ao ao2 s) {S T : St} {g : Nat → Int64} {gd : Nat → UInt64} {H : Heap} {locs : List Loc} (hw : Lw D ct ad am ao ao2 s S T g gd H locs) (hRel : Rel S T) {x5 : Int32} (hin : ∀ j : Int32, 0 ≤ j → j ≤ 4 → vp_in (x5 + j) L) {cells slots : Nat} (hroom : cells + 1 ≤ room_1.cells ∧ slots + 6 ≤ room_1.slots) {Q : State → Prop}
    (next : ∀ (S' T' : St) (g' : Nat → Int64) (gd' : Nat → UInt64) (H' : Heap) (locs' : List Loc) (ls' : Array Slot), Rel S' T' → Lw D ct ad am ao ao2 s S' T' g' gd' H' locs' → lv_has ls' 9 [(0, .ref b), (1, .ref (ad 0)), (2, .ref (am 0)), (3, .ref ao), (4, .ref ao2), (5, .int x5)] → W p l e room_1 s m #[Value.ref b] below meth c H' locs' (cells + 1) (slots + 6) Q (F0 m 2555 ls' [])) {ls : Array Slot} (hl : lv_has ls 9 [(0, .ref b), (1, .ref (ad 0)), (2, .ref (am 0)), (3, .ref ao), (4, .ref ao2), (5, .int x5)]) : W p l e room_1 s m #[Value.ref b] below meth c H locs cells slots Q (F0 m 805 ls []) := by
  obtain ⟨hx, hb, hr, hml, hown, htL, hlocks⟩ := id C
  have hbA : ¬ (fun q : Nat => s.heap.size ≤ q) b := Nat.not_le.mpr hbl
  obtain ⟨f1, f2, f3, f4⟩ := hD.fl
  obtain ⟨S', T', v, k, g', hM, hfm, hft, hRel, hans⟩ := wr_valuation l hl0 D ct ad ao hD.1 hD.2.2.1 (xs (x5 + 1).toNatClampNeg) hRel g
  refine lv_aload_n hx hb dL_law_805 rfl (lv_at hl 1 rfl) ?_
  refine lv_aload_n hx hb dL_law_806 rfl (lv_at hl 0 rfl) ?_
  refine lv_iload hx hb dL_law_807 (lv_at hl 5 rfl) ?_
  refine lv_iconst (v := 1) hx hb dL_law_809 (by decide) ?_
  refine lv_iadd hx hb dL_law_810 ?_
  refine va_sld hx hb hX hbl hbA hw.2.2.2.2 (hin 1 (by decide) (by decide)) dL_law_811 ?_
  refine lv_aload_n hx hb dL_law_812 rfl (lv_at hl 3 rfl) ?_
  refine hc_W (n := 3) C hK hXf hNc hM hl.1 mw_4_0 mw_1_0 mw_3_239 mw_3_238 (by decide +kernel) hw.1 hw.2.2.1 hw.2.2.2.2 f1 ⟨rfl, rfl⟩ ⟨Nat.le_of_ble_eq_true rfl, Nat.le_of_ble_eq_true rfl⟩ rfl rfl (Nat.le_of_ble_eq_true rfl) dL_law_813 hroom (fun H1 locs1 hP1 hO1 hS1 hz1 hk1 => ?_)
  have hw := hw.wrap hD hP1 hO1 hS1 hk1
  refine lv_istore (lv' := [(6, .int k), (0, .ref b), (1, .ref (ad 0)), (2, .ref (am 0)), (3, .ref ao), (4, .ref ao2), (5, .int x5)]) hx hb dL_law_816 hl (by decide) rfl (fun ls hl => ?_)
  refine lv_aload_n hx hb dL_law_818 rfl (lv_at hl 3 rfl) ?_
  refine lv_aload_n hx hb dL_law_819 rfl (lv_at hl 1 rfl) ?_
  refine lv_iload hx hb dL_law_820 (lv_at hl 6 rfl) ?_
  refine lv_iconst (v := 1) hx hb dL_law_822 (by decide) ?_
  refine lv_iadd hx hb dL_law_823 ?_
  refine va_sld hx hb hX hbl hbA hw.2.2.2.2 (hin 1 (by decide) (by decide)) dL_law_824 ?_
  refine hc_VF (n := 1) (As := [.int (xs (x5 + 1).toNatClampNeg)]) (rest := []) C hK (c_X10_valuation l D ct am (FM am) hD.2.1 (xs (x5 + 1).toNatClampNeg) T v T' hfm) hl.1 cp_X10_valuation mw_6_177 (rc_X10 hK hw.2.1) hw.2.1 hw.2.2.2.2 f3 ⟨rfl, rfl⟩ ⟨Nat.le_of_ble_eq_true rfl, Nat.le_of_ble_eq_true rfl⟩ rfl rfl (Nat.le_of_ble_eq_true rfl) dL_law_825 ⟨hroom.1, hroom.2⟩ (fun H1 locs1 hP1 hS1 hz1 hk1 => ?_)
  have hw := hw.model hD hP1 hS1 hk1
  refine lv_istore (lv' := [(7, .int v), (6, .int k), (0, .ref b), (1, .ref (ad 0)), (2, .ref (am 0)), (3, .ref ao), (4, .ref ao2), (5, .int x5)]) hx hb dL_law_828 hl (by decide) rfl (fun ls hl => ?_)
  refine lv_aload_n hx hb dL_law_830 rfl (lv_at hl 4 rfl) ?_
  refine hc_VF (n := 0) (As := []) (rest := []) C hK (c_X10_thrown l D ct am (FM am) hD.2.1 T' k hft) hl.1 cp_X10_thrown mw_6_5 (rc_X10 hK hw.2.1) hw.2.1 hw.2.2.2.2 f3 ⟨rfl, rfl⟩ ⟨Nat.le_of_ble_eq_true rfl, Nat.le_of_ble_eq_true rfl⟩ rfl rfl (Nat.le_of_ble_eq_true rfl) dL_law_831 ⟨hroom.1, hroom.2⟩ (fun H1 locs1 hP1 hS1 hz1 hk1 => ?_)
  have hw := hw.model hD hP1 hS1 hk1
  refine lv_iload hx hb dL_law_834 (lv_at hl 1 rfl) ?_
  refine lv_icmp_eq (tgt := 841) hx hb dL_law_836 (by decide) (fun _ => ?_) (fun q => absurd rfl q)
  refine lv_iload hx hb dL_law_841 (lv_at hl 1 rfl) ?_
  refine lv_if_ne (tgt := 858) hx hb dL_law_843 (by decide) (fun c1 => ?_) (fun c1 => ?_)
  · refine lv_goto (tgt := 2555) hx hb dL_law_858 (by decide) ?_
    exact next _ _ _ _ _ _ _ hRel hw (lv_sub hl [2, 3, 4, 5, 6, 7] rfl)
  · refine lv_aload_n hx hb dL_law_846 rfl (lv_at hl 5 rfl) ?_
    refine lv_iconst (v := 0) hx hb dL_law_847 (by decide) ?_
    refine va_lald hx hb hK hw.2.2.1 0 1 rfl rfl (by unfold vp_in; decide) dL_law_848 ?_
    refine lv_iload hx hb dL_law_849 (lv_at hl 0 rfl) ?_
    refine lv_i2l hx hb dL_law_851 rfl ?_
    refine W.lcmp hx hb dL_law_852 ?_
    rw [show g' (Int32.toNatClampNeg 0) = Int32.toInt64 v from hans c1]
    refine lv_if_eq (tgt := 858) hx hb dL_law_853 (by decide) (fun _ => ?_) (fun q => absurd (lgc_self _) q)
    refine lv_goto (tgt := 2555) hx hb dL_law_858 (by decide) ?_
    exact next _ _ _ _ _ _ _ hRel hw (lv_sub hl [2, 3, 4, 5, 6, 7] rfl)
set_option maxHeartbeats 4000000 in
theorem ca_digit {p : Program} {l : Launch} {e : Env} {s : State} {m : MethodId} {below : List Frame} {meth : Method} {c : Code} {D : va_G} {ct : Nat → ClassId} {ad am : Nat → Nat} {ao ao2 b L : Nat} {xs : Nat → Int32} (hl0 : l.stackTraces = false) (C : Cx p c cL_law meth s m #[Value.ref b] RL (some .boolean) 9) (hX : va_X b L xs s s.heap) (hbl : b < s.heap.size) (hK : va_K D vwCl (tysW ct) s) (hXf : Xf (fun q => s.heap.size ≤ q) s) (hNc : Nc6 s) (hD : Ld ad am ao ao2 s) {S T : St} {g : Nat → Int64} {gd : Nat → UInt64} {H : Heap} {locs : List Loc} (hw : Lw D ct ad am ao ao2 s S T g gd H locs) (hRel : Rel S T) {x5 : Int32} (hin : ∀ j : Int32, 0 ≤ j → j ≤ 4 → vp_in (x5 + j) L) {cells slots : Nat} (hroom : cells + 1 ≤ room_1.cells ∧ slots + 6 ≤ room_1.slots) {Q : State → Prop}
    (next : ∀ (S' T' : St) (g' : Nat → Int64) (gd' : Nat → UInt64) (H' : Heap) (locs' : List Loc) (ls' : Array Slot), Rel S' T' → Lw D ct ad am ao ao2 s S' T' g' gd' H' locs' → lv_has ls' 9 [(0, .ref b), (1, .ref (ad 0)), (2, .ref (am 0)), (3, .ref ao), (4, .ref ao2), (5, .int x5)] → W p l e room_1 s m #[Value.ref b] below meth c H' locs' (cells + 1) (slots + 6) Q (F0 m 2555 ls' [])) {ls : Array Slot} (hl : lv_has ls 9 [(0, .ref b), (1, .ref (ad 0)), (2, .ref (am 0)), (3, .ref ao), (4, .ref ao2), (5, .int x5)]) : W p l e room_1 s m #[Value.ref b] below meth c H locs cells slots Q (F0 m 861 ls []) := by
  obtain ⟨hx, hb, hr, hml, hown, htL, hlocks⟩ := id C
  have hbA : ¬ (fun q : Nat => s.heap.size ≤ q) b := Nat.not_le.mpr hbl
  obtain ⟨f1, f2, f3, f4⟩ := hD.fl
  obtain ⟨S', T', v, k, g', hM, hfm, hft, hRel, hans⟩ := wr_digit l hl0 D ct ad ao hD.1 hD.2.2.1 (xs (x5 + 1).toNatClampNeg) (xs (x5 + 2).toNatClampNeg) hRel g
  refine lv_aload_n hx hb dL_law_861 rfl (lv_at hl 1 rfl) ?_
  refine lv_aload_n hx hb dL_law_862 rfl (lv_at hl 0 rfl) ?_
  refine lv_iload hx hb dL_law_863 (lv_at hl 5 rfl) ?_
  refine lv_iconst (v := 1) hx hb dL_law_865 (by decide) ?_
  refine lv_iadd hx hb dL_law_866 ?_
  refine va_sld hx hb hX hbl hbA hw.2.2.2.2 (hin 1 (by decide) (by decide)) dL_law_867 ?_
  refine lv_aload_n hx hb dL_law_868 rfl (lv_at hl 0 rfl) ?_
  refine lv_iload hx hb dL_law_869 (lv_at hl 5 rfl) ?_
  refine lv_iconst (v := 2) hx hb dL_law_871 (by decide) ?_
  refine lv_iadd hx hb dL_law_872 ?_
  refine va_sld hx hb hX hbl hbA hw.2.2.2.2 (hin 2 (by decide) (by decide)) dL_law_873 ?_
  refine lv_aload_n hx hb dL_law_874 rfl (lv_at hl 3 rfl) ?_
  refine hc_W (n := 4) C hK hXf hNc hM hl.1 mw_4_7 mw_1_0 mw_4_6 mw_4_5 (by decide +kernel) hw.1 hw.2.2.1 hw.2.2.2.2 f1 ⟨rfl, rfl⟩ ⟨Nat.le_of_ble_eq_true rfl, Nat.le_of_ble_eq_true rfl⟩ rfl rfl (Nat.le_of_ble_eq_true rfl) dL_law_875 hroom (fun H1 locs1 hP1 hO1 hS1 hz1 hk1 => ?_)
  have hw := hw.wrap hD hP1 hO1 hS1 hk1
  refine lv_istore (lv' := [(6, .int k), (0, .ref b), (1, .ref (ad 0)), (2, .ref (am 0)), (3, .ref ao), (4, .ref ao2), (5, .int x5)]) hx hb dL_law_878 hl (by decide) rfl (fun ls hl => ?_)
  refine lv_aload_n hx hb dL_law_880 rfl (lv_at hl 3 rfl) ?_
  refine lv_aload_n hx hb dL_law_881 rfl (lv_at hl 1 rfl) ?_
  refine lv_iload hx hb dL_law_882 (lv_at hl 6 rfl) ?_
  refine lv_iconst (v := 1) hx hb dL_law_884 (by decide) ?_
  refine lv_iadd hx hb dL_law_885 ?_
  refine va_sld hx hb hX hbl hbA hw.2.2.2.2 (hin 1 (by decide) (by decide)) dL_law_886 ?_
  refine lv_aload_n hx hb dL_law_887 rfl (lv_at hl 1 rfl) ?_
  refine lv_iload hx hb dL_law_888 (lv_at hl 6 rfl) ?_
  refine lv_iconst (v := 2) hx hb dL_law_890 (by decide) ?_
  refine lv_iadd hx hb dL_law_891 ?_
  refine va_sld hx hb hX hbl hbA hw.2.2.2.2 (hin 2 (by decide) (by decide)) dL_law_892 ?_
  refine hc_VF (n := 2) (As := [.int (xs (x5 + 1).toNatClampNeg), .int (xs (x5 + 2).toNatClampNeg)]) (rest := []) C hK (c_X10_digit l D ct am (FM am) hD.2.1 (xs (x5 + 1).toNatClampNeg) (xs (x5 + 2).toNatClampNeg) T v T' hfm) hl.1 cp_X10_digit mw_6_181 (rc_X10 hK hw.2.1) hw.2.1 hw.2.2.2.2 f3 ⟨rfl, rfl⟩ ⟨Nat.le_of_ble_eq_true rfl, Nat.le_of_ble_eq_true rfl⟩ rfl rfl (Nat.le_of_ble_eq_true rfl) dL_law_893 ⟨hroom.1, hroom.2⟩ (fun H1 locs1 hP1 hS1 hz1 hk1 => ?_)
  have hw := hw.model hD hP1 hS1 hk1
  refine lv_istore (lv' := [(7, .int v), (6, .int k), (0, .ref b), (1, .ref (ad 0)), (2, .ref (am 0)), (3, .ref ao), (4, .ref ao2), (5, .int x5)]) hx hb dL_law_896 hl (by decide) rfl (fun ls hl => ?_)
  refine lv_aload_n hx hb dL_law_898 rfl (lv_at hl 4 rfl) ?_
  refine hc_VF (n := 0) (As := []) (rest := []) C hK (c_X10_thrown l D ct am (FM am) hD.2.1 T' k hft) hl.1 cp_X10_thrown mw_6_5 (rc_X10 hK hw.2.1) hw.2.1 hw.2.2.2.2 f3 ⟨rfl, rfl⟩ ⟨Nat.le_of_ble_eq_true rfl, Nat.le_of_ble_eq_true rfl⟩ rfl rfl (Nat.le_of_ble_eq_true rfl) dL_law_899 ⟨hroom.1, hroom.2⟩ (fun H1 locs1 hP1 hS1 hz1 hk1 => ?_)
  have hw := hw.model hD hP1 hS1 hk1
  refine lv_iload hx hb dL_law_902 (lv_at hl 1 rfl) ?_
  refine lv_icmp_eq (tgt := 909) hx hb dL_law_904 (by decide) (fun _ => ?_) (fun q => absurd rfl q)
  refine lv_iload hx hb dL_law_909 (lv_at hl 1 rfl) ?_
  refine lv_if_ne (tgt := 926) hx hb dL_law_911 (by decide) (fun c1 => ?_) (fun c1 => ?_)
  · refine lv_goto (tgt := 2555) hx hb dL_law_926 (by decide) ?_
    exact next _ _ _ _ _ _ _ hRel hw (lv_sub hl [2, 3, 4, 5, 6, 7] rfl)
  · refine lv_aload_n hx hb dL_law_914 rfl (lv_at hl 5 rfl) ?_
    refine lv_iconst (v := 0) hx hb dL_law_915 (by decide) ?_
    refine va_lald hx hb hK hw.2.2.1 0 1 rfl rfl (by unfold vp_in; decide) dL_law_916 ?_
    refine lv_iload hx hb dL_law_917 (lv_at hl 0 rfl) ?_
    refine lv_i2l hx hb dL_law_919 rfl ?_
    refine W.lcmp hx hb dL_law_920 ?_
    rw [show g' (Int32.toNatClampNeg 0) = Int32.toInt64 v from hans c1]
    refine lv_if_eq (tgt := 926) hx hb dL_law_921 (by decide) (fun _ => ?_) (fun q => absurd (lgc_self _) q)
    refine lv_goto (tgt := 2555) hx hb dL_law_926 (by decide) ?_
    exact next _ _ _ _ _ _ _ hRel hw (lv_sub hl [2, 3, 4, 5, 6, 7] rfl)
set_option maxHeartbeats 4000000 in
theorem ca_refine {p : Program} {l : Launch} {e : Env} {s : State} {m : MethodId} {below : List Frame} {meth : Method} {c : Code} {D : va_G} {ct : Nat → ClassId} {ad am : Nat → Nat} {ao ao2 b L : Nat} {xs : Nat → Int32} (hl0 : l.stackTraces = false) (C : Cx p c cL_law meth s m #[Value.ref b] RL (some .boolean) 9) (hX : va_X b L xs s s.heap) (hbl : b < s.heap.size) (hK : va_K D vwCl (tysW ct) s) (hXf : Xf (fun q => s.heap.size ≤ q) s) (hNc : Nc6 s) (hD : Ld ad am ao ao2 s) {S T : St} {g : Nat → Int64} {gd : Nat → UInt64} {H : Heap} {locs : List Loc} (hw : Lw D ct ad am ao ao2 s S T g gd H locs) (hRel : Rel S T) {x5 : Int32} (hin : ∀ j : Int32, 0 ≤ j → j ≤ 4 → vp_in (x5 + j) L) {cells slots : Nat} (hroom : cells + 1 ≤ room_1.cells ∧ slots + 6 ≤ room_1.slots) {Q : State → Prop}
    (next : ∀ (S' T' : St) (g' : Nat → Int64) (gd' : Nat → UInt64) (H' : Heap) (locs' : List Loc) (ls' : Array Slot), Rel S' T' → Lw D ct ad am ao ao2 s S' T' g' gd' H' locs' → lv_has ls' 9 [(0, .ref b), (1, .ref (ad 0)), (2, .ref (am 0)), (3, .ref ao), (4, .ref ao2), (5, .int x5)] → W p l e room_1 s m #[Value.ref b] below meth c H' locs' (cells + 1) (slots + 6) Q (F0 m 2555 ls' [])) {ls : Array Slot} (hl : lv_has ls 9 [(0, .ref b), (1, .ref (ad 0)), (2, .ref (am 0)), (3, .ref ao), (4, .ref ao2), (5, .int x5)]) : W p l e room_1 s m #[Value.ref b] below meth c H locs cells slots Q (F0 m 929 ls []) := by
  obtain ⟨hx, hb, hr, hml, hown, htL, hlocks⟩ := id C
  have hbA : ¬ (fun q : Nat => s.heap.size ≤ q) b := Nat.not_le.mpr hbl
  obtain ⟨f1, f2, f3, f4⟩ := hD.fl
  obtain ⟨S', T', v, k, g', hM, hfm, hft, hRel, hans⟩ := wr_refine l hl0 D ct ad ao hD.1 hD.2.2.1 (xs (x5 + 1).toNatClampNeg) (xs (x5 + 2).toNatClampNeg) hRel g
  refine lv_aload_n hx hb dL_law_929 rfl (lv_at hl 1 rfl) ?_
  refine lv_aload_n hx hb dL_law_930 rfl (lv_at hl 0 rfl) ?_
  refine lv_iload hx hb dL_law_931 (lv_at hl 5 rfl) ?_
  refine lv_iconst (v := 1) hx hb dL_law_933 (by decide) ?_
  refine lv_iadd hx hb dL_law_934 ?_
  refine va_sld hx hb hX hbl hbA hw.2.2.2.2 (hin 1 (by decide) (by decide)) dL_law_935 ?_
  refine lv_aload_n hx hb dL_law_936 rfl (lv_at hl 0 rfl) ?_
  refine lv_iload hx hb dL_law_937 (lv_at hl 5 rfl) ?_
  refine lv_iconst (v := 2) hx hb dL_law_939 (by decide) ?_
  refine lv_iadd hx hb dL_law_940 ?_
  refine va_sld hx hb hX hbl hbA hw.2.2.2.2 (hin 2 (by decide) (by decide)) dL_law_941 ?_
  refine lv_aload_n hx hb dL_law_942 rfl (lv_at hl 3 rfl) ?_
  refine hc_W (n := 4) C hK hXf hNc hM hl.1 mw_4_35 mw_1_0 mw_4_34 mw_4_33 (by decide +kernel) hw.1 hw.2.2.1 hw.2.2.2.2 f1 ⟨rfl, rfl⟩ ⟨Nat.le_of_ble_eq_true rfl, Nat.le_of_ble_eq_true rfl⟩ rfl rfl (Nat.le_of_ble_eq_true rfl) dL_law_943 hroom (fun H1 locs1 hP1 hO1 hS1 hz1 hk1 => ?_)
  have hw := hw.wrap hD hP1 hO1 hS1 hk1
  refine lv_istore (lv' := [(6, .int k), (0, .ref b), (1, .ref (ad 0)), (2, .ref (am 0)), (3, .ref ao), (4, .ref ao2), (5, .int x5)]) hx hb dL_law_946 hl (by decide) rfl (fun ls hl => ?_)
  refine lv_aload_n hx hb dL_law_948 rfl (lv_at hl 3 rfl) ?_
  refine lv_aload_n hx hb dL_law_949 rfl (lv_at hl 1 rfl) ?_
  refine lv_iload hx hb dL_law_950 (lv_at hl 6 rfl) ?_
  refine lv_iconst (v := 1) hx hb dL_law_952 (by decide) ?_
  refine lv_iadd hx hb dL_law_953 ?_
  refine va_sld hx hb hX hbl hbA hw.2.2.2.2 (hin 1 (by decide) (by decide)) dL_law_954 ?_
  refine lv_aload_n hx hb dL_law_955 rfl (lv_at hl 1 rfl) ?_
  refine lv_iload hx hb dL_law_956 (lv_at hl 6 rfl) ?_
  refine lv_iconst (v := 2) hx hb dL_law_958 (by decide) ?_
  refine lv_iadd hx hb dL_law_959 ?_
  refine va_sld hx hb hX hbl hbA hw.2.2.2.2 (hin 2 (by decide) (by decide)) dL_law_960 ?_
  refine hc_VF (n := 2) (As := [.int (xs (x5 + 1).toNatClampNeg), .int (xs (x5 + 2).toNatClampNeg)]) (rest := []) C hK (c_X10_refine l D ct am (FM am) hD.2.1 (xs (x5 + 1).toNatClampNeg) (xs (x5 + 2).toNatClampNeg) T v T' hfm) hl.1 cp_X10_refine mw_6_185 (rc_X10 hK hw.2.1) hw.2.1 hw.2.2.2.2 f3 ⟨rfl, rfl⟩ ⟨Nat.le_of_ble_eq_true rfl, Nat.le_of_ble_eq_true rfl⟩ rfl rfl (Nat.le_of_ble_eq_true rfl) dL_law_961 ⟨hroom.1, hroom.2⟩ (fun H1 locs1 hP1 hS1 hz1 hk1 => ?_)
  have hw := hw.model hD hP1 hS1 hk1
  refine lv_istore (lv' := [(7, .int v), (6, .int k), (0, .ref b), (1, .ref (ad 0)), (2, .ref (am 0)), (3, .ref ao), (4, .ref ao2), (5, .int x5)]) hx hb dL_law_964 hl (by decide) rfl (fun ls hl => ?_)
  refine lv_aload_n hx hb dL_law_966 rfl (lv_at hl 4 rfl) ?_
  refine hc_VF (n := 0) (As := []) (rest := []) C hK (c_X10_thrown l D ct am (FM am) hD.2.1 T' k hft) hl.1 cp_X10_thrown mw_6_5 (rc_X10 hK hw.2.1) hw.2.1 hw.2.2.2.2 f3 ⟨rfl, rfl⟩ ⟨Nat.le_of_ble_eq_true rfl, Nat.le_of_ble_eq_true rfl⟩ rfl rfl (Nat.le_of_ble_eq_true rfl) dL_law_967 ⟨hroom.1, hroom.2⟩ (fun H1 locs1 hP1 hS1 hz1 hk1 => ?_)
  have hw := hw.model hD hP1 hS1 hk1
  refine lv_iload hx hb dL_law_970 (lv_at hl 1 rfl) ?_
  refine lv_icmp_eq (tgt := 977) hx hb dL_law_972 (by decide) (fun _ => ?_) (fun q => absurd rfl q)
  refine lv_iload hx hb dL_law_977 (lv_at hl 1 rfl) ?_
  refine lv_if_ne (tgt := 994) hx hb dL_law_979 (by decide) (fun c1 => ?_) (fun c1 => ?_)
  · refine lv_goto (tgt := 2555) hx hb dL_law_994 (by decide) ?_
    exact next _ _ _ _ _ _ _ hRel hw (lv_sub hl [2, 3, 4, 5, 6, 7] rfl)
  · refine lv_aload_n hx hb dL_law_982 rfl (lv_at hl 5 rfl) ?_
    refine lv_iconst (v := 0) hx hb dL_law_983 (by decide) ?_
    refine va_lald hx hb hK hw.2.2.1 0 1 rfl rfl (by unfold vp_in; decide) dL_law_984 ?_
    refine lv_iload hx hb dL_law_985 (lv_at hl 0 rfl) ?_
    refine lv_i2l hx hb dL_law_987 rfl ?_
    refine W.lcmp hx hb dL_law_988 ?_
    rw [show g' (Int32.toNatClampNeg 0) = Int32.toInt64 v from hans c1]
    refine lv_if_eq (tgt := 994) hx hb dL_law_989 (by decide) (fun _ => ?_) (fun q => absurd (lgc_self _) q)
    refine lv_goto (tgt := 2555) hx hb dL_law_994 (by decide) ?_
    exact next _ _ _ _ _ _ _ hRel hw (lv_sub hl [2, 3, 4, 5, 6, 7] rfl)
set_option maxHeartbeats 4000000 in
theorem ca_like {p : Program} {l : Launch} {e : Env} {s : State} {m : MethodId} {below : List Frame} {meth : Method} {c : Code} {D : va_G} {ct : Nat → ClassId} {ad am : Nat → Nat} {ao ao2 b L : Nat} {xs : Nat → Int32} (hl0 : l.stackTraces = false) (C : Cx p c cL_law meth s m #[Value.ref b] RL (some .boolean) 9) (hX : va_X b L xs s s.heap) (hbl : b < s.heap.size) (hK : va_K D vwCl (tysW ct) s) (hXf : Xf (fun q => s.heap.size ≤ q) s) (hNc : Nc6 s) (hD : Ld ad am ao ao2 s) {S T : St} {g : Nat → Int64} {gd : Nat → UInt64} {H : Heap} {locs : List Loc} (hw : Lw D ct ad am ao ao2 s S T g gd H locs) (hRel : Rel S T) {x5 : Int32} (hin : ∀ j : Int32, 0 ≤ j → j ≤ 4 → vp_in (x5 + j) L) {cells slots : Nat} (hroom : cells + 1 ≤ room_1.cells ∧ slots + 6 ≤ room_1.slots) {Q : State → Prop}
    (next : ∀ (S' T' : St) (g' : Nat → Int64) (gd' : Nat → UInt64) (H' : Heap) (locs' : List Loc) (ls' : Array Slot), Rel S' T' → Lw D ct ad am ao ao2 s S' T' g' gd' H' locs' → lv_has ls' 9 [(0, .ref b), (1, .ref (ad 0)), (2, .ref (am 0)), (3, .ref ao), (4, .ref ao2), (5, .int x5)] → W p l e room_1 s m #[Value.ref b] below meth c H' locs' (cells + 1) (slots + 6) Q (F0 m 2555 ls' [])) {ls : Array Slot} (hl : lv_has ls 9 [(0, .ref b), (1, .ref (ad 0)), (2, .ref (am 0)), (3, .ref ao), (4, .ref ao2), (5, .int x5)]) : W p l e room_1 s m #[Value.ref b] below meth c H locs cells slots Q (F0 m 997 ls []) := by
  obtain ⟨hx, hb, hr, hml, hown, htL, hlocks⟩ := id C
  have hbA : ¬ (fun q : Nat => s.heap.size ≤ q) b := Nat.not_le.mpr hbl
  obtain ⟨f1, f2, f3, f4⟩ := hD.fl
  obtain ⟨S', T', v, k, g', hM, hfm, hft, hRel, hans⟩ := wr_like l hl0 D ct ad ao hD.1 hD.2.2.1 (xs (x5 + 1).toNatClampNeg) hRel g
  refine lv_aload_n hx hb dL_law_997 rfl (lv_at hl 1 rfl) ?_
  refine lv_aload_n hx hb dL_law_998 rfl (lv_at hl 0 rfl) ?_
  refine lv_iload hx hb dL_law_999 (lv_at hl 5 rfl) ?_
  refine lv_iconst (v := 1) hx hb dL_law_1001 (by decide) ?_
  refine lv_iadd hx hb dL_law_1002 ?_
  refine va_sld hx hb hX hbl hbA hw.2.2.2.2 (hin 1 (by decide) (by decide)) dL_law_1003 ?_
  refine lv_aload_n hx hb dL_law_1004 rfl (lv_at hl 3 rfl) ?_
  refine hc_W (n := 3) C hK hXf hNc hM hl.1 mw_4_55 mw_1_0 mw_4_54 mw_4_53 (by decide +kernel) hw.1 hw.2.2.1 hw.2.2.2.2 f1 ⟨rfl, rfl⟩ ⟨Nat.le_of_ble_eq_true rfl, Nat.le_of_ble_eq_true rfl⟩ rfl rfl (Nat.le_of_ble_eq_true rfl) dL_law_1005 hroom (fun H1 locs1 hP1 hO1 hS1 hz1 hk1 => ?_)
  have hw := hw.wrap hD hP1 hO1 hS1 hk1
  refine lv_istore (lv' := [(6, .int k), (0, .ref b), (1, .ref (ad 0)), (2, .ref (am 0)), (3, .ref ao), (4, .ref ao2), (5, .int x5)]) hx hb dL_law_1008 hl (by decide) rfl (fun ls hl => ?_)
  refine lv_aload_n hx hb dL_law_1010 rfl (lv_at hl 3 rfl) ?_
  refine lv_aload_n hx hb dL_law_1011 rfl (lv_at hl 1 rfl) ?_
  refine lv_iload hx hb dL_law_1012 (lv_at hl 6 rfl) ?_
  refine lv_iconst (v := 1) hx hb dL_law_1014 (by decide) ?_
  refine lv_iadd hx hb dL_law_1015 ?_
  refine va_sld hx hb hX hbl hbA hw.2.2.2.2 (hin 1 (by decide) (by decide)) dL_law_1016 ?_
  refine hc_VF (n := 1) (As := [.int (xs (x5 + 1).toNatClampNeg)]) (rest := []) C hK (c_X10_like l D ct am (FM am) hD.2.1 (xs (x5 + 1).toNatClampNeg) T v T' hfm) hl.1 cp_X10_like mw_6_193 (rc_X10 hK hw.2.1) hw.2.1 hw.2.2.2.2 f3 ⟨rfl, rfl⟩ ⟨Nat.le_of_ble_eq_true rfl, Nat.le_of_ble_eq_true rfl⟩ rfl rfl (Nat.le_of_ble_eq_true rfl) dL_law_1017 ⟨hroom.1, hroom.2⟩ (fun H1 locs1 hP1 hS1 hz1 hk1 => ?_)
  have hw := hw.model hD hP1 hS1 hk1
  refine lv_istore (lv' := [(7, .int v), (6, .int k), (0, .ref b), (1, .ref (ad 0)), (2, .ref (am 0)), (3, .ref ao), (4, .ref ao2), (5, .int x5)]) hx hb dL_law_1020 hl (by decide) rfl (fun ls hl => ?_)
  refine lv_aload_n hx hb dL_law_1022 rfl (lv_at hl 4 rfl) ?_
  refine hc_VF (n := 0) (As := []) (rest := []) C hK (c_X10_thrown l D ct am (FM am) hD.2.1 T' k hft) hl.1 cp_X10_thrown mw_6_5 (rc_X10 hK hw.2.1) hw.2.1 hw.2.2.2.2 f3 ⟨rfl, rfl⟩ ⟨Nat.le_of_ble_eq_true rfl, Nat.le_of_ble_eq_true rfl⟩ rfl rfl (Nat.le_of_ble_eq_true rfl) dL_law_1023 ⟨hroom.1, hroom.2⟩ (fun H1 locs1 hP1 hS1 hz1 hk1 => ?_)
  have hw := hw.model hD hP1 hS1 hk1
  refine lv_iload hx hb dL_law_1026 (lv_at hl 1 rfl) ?_
  refine lv_icmp_eq (tgt := 1033) hx hb dL_law_1028 (by decide) (fun _ => ?_) (fun q => absurd rfl q)
  refine lv_iload hx hb dL_law_1033 (lv_at hl 1 rfl) ?_
  refine lv_if_ne (tgt := 1050) hx hb dL_law_1035 (by decide) (fun c1 => ?_) (fun c1 => ?_)
  · refine lv_goto (tgt := 2555) hx hb dL_law_1050 (by decide) ?_
    exact next _ _ _ _ _ _ _ hRel hw (lv_sub hl [2, 3, 4, 5, 6, 7] rfl)
  · refine lv_aload_n hx hb dL_law_1038 rfl (lv_at hl 5 rfl) ?_
    refine lv_iconst (v := 0) hx hb dL_law_1039 (by decide) ?_
    refine va_lald hx hb hK hw.2.2.1 0 1 rfl rfl (by unfold vp_in; decide) dL_law_1040 ?_
    refine lv_iload hx hb dL_law_1041 (lv_at hl 0 rfl) ?_
    refine lv_i2l hx hb dL_law_1043 rfl ?_
    refine W.lcmp hx hb dL_law_1044 ?_
    rw [show g' (Int32.toNatClampNeg 0) = Int32.toInt64 v from hans c1]
    refine lv_if_eq (tgt := 1050) hx hb dL_law_1045 (by decide) (fun _ => ?_) (fun q => absurd (lgc_self _) q)
    refine lv_goto (tgt := 2555) hx hb dL_law_1050 (by decide) ?_
    exact next _ _ _ _ _ _ _ hRel hw (lv_sub hl [2, 3, 4, 5, 6, 7] rfl)
set_option maxHeartbeats 4000000 in
theorem ca_agree {p : Program} {l : Launch} {e : Env} {s : State} {m : MethodId} {below : List Frame} {meth : Method} {c : Code} {D : va_G} {ct : Nat → ClassId} {ad am : Nat → Nat} {ao ao2 b L : Nat} {xs : Nat → Int32} (hl0 : l.stackTraces = false) (C : Cx p c cL_law meth s m #[Value.ref b] RL (some .boolean) 9) (hX : va_X b L xs s s.heap) (hbl : b < s.heap.size) (hK : va_K D vwCl (tysW ct) s) (hXf : Xf (fun q => s.heap.size ≤ q) s) (hNc : Nc6 s) (hD : Ld ad am ao ao2 s) {S T : St} {g : Nat → Int64} {gd : Nat → UInt64} {H : Heap} {locs : List Loc} (hw : Lw D ct ad am ao ao2 s S T g gd H locs) (hRel : Rel S T) {x5 : Int32} (hin : ∀ j : Int32, 0 ≤ j → j ≤ 4 → vp_in (x5 + j) L) {cells slots : Nat} (hroom : cells + 1 ≤ room_1.cells ∧ slots + 6 ≤ room_1.slots) {Q : State → Prop}
    (next : ∀ (S' T' : St) (g' : Nat → Int64) (gd' : Nat → UInt64) (H' : Heap) (locs' : List Loc) (ls' : Array Slot), Rel S' T' → Lw D ct ad am ao ao2 s S' T' g' gd' H' locs' → lv_has ls' 9 [(0, .ref b), (1, .ref (ad 0)), (2, .ref (am 0)), (3, .ref ao), (4, .ref ao2), (5, .int x5)] → W p l e room_1 s m #[Value.ref b] below meth c H' locs' (cells + 1) (slots + 6) Q (F0 m 2555 ls' [])) {ls : Array Slot} (hl : lv_has ls 9 [(0, .ref b), (1, .ref (ad 0)), (2, .ref (am 0)), (3, .ref ao), (4, .ref ao2), (5, .int x5)]) : W p l e room_1 s m #[Value.ref b] below meth c H locs cells slots Q (F0 m 1053 ls []) := by
  obtain ⟨hx, hb, hr, hml, hown, htL, hlocks⟩ := id C
  have hbA : ¬ (fun q : Nat => s.heap.size ≤ q) b := Nat.not_le.mpr hbl
  obtain ⟨f1, f2, f3, f4⟩ := hD.fl
  obtain ⟨S', T', v, k, g', hM, hfm, hft, hRel, hans⟩ := wr_agree l hl0 D ct ad ao hD.1 hD.2.2.1 (xs (x5 + 1).toNatClampNeg) (xs (x5 + 2).toNatClampNeg) hRel g
  refine lv_aload_n hx hb dL_law_1053 rfl (lv_at hl 1 rfl) ?_
  refine lv_aload_n hx hb dL_law_1054 rfl (lv_at hl 0 rfl) ?_
  refine lv_iload hx hb dL_law_1055 (lv_at hl 5 rfl) ?_
  refine lv_iconst (v := 1) hx hb dL_law_1057 (by decide) ?_
  refine lv_iadd hx hb dL_law_1058 ?_
  refine va_sld hx hb hX hbl hbA hw.2.2.2.2 (hin 1 (by decide) (by decide)) dL_law_1059 ?_
  refine lv_aload_n hx hb dL_law_1060 rfl (lv_at hl 0 rfl) ?_
  refine lv_iload hx hb dL_law_1061 (lv_at hl 5 rfl) ?_
  refine lv_iconst (v := 2) hx hb dL_law_1063 (by decide) ?_
  refine lv_iadd hx hb dL_law_1064 ?_
  refine va_sld hx hb hX hbl hbA hw.2.2.2.2 (hin 2 (by decide) (by decide)) dL_law_1065 ?_
  refine lv_aload_n hx hb dL_law_1066 rfl (lv_at hl 3 rfl) ?_
  refine hc_W (n := 4) C hK hXf hNc hM hl.1 mw_4_70 mw_1_0 mw_4_69 mw_4_68 (by decide +kernel) hw.1 hw.2.2.1 hw.2.2.2.2 f1 ⟨rfl, rfl⟩ ⟨Nat.le_of_ble_eq_true rfl, Nat.le_of_ble_eq_true rfl⟩ rfl rfl (Nat.le_of_ble_eq_true rfl) dL_law_1067 hroom (fun H1 locs1 hP1 hO1 hS1 hz1 hk1 => ?_)
  have hw := hw.wrap hD hP1 hO1 hS1 hk1
  refine lv_istore (lv' := [(6, .int k), (0, .ref b), (1, .ref (ad 0)), (2, .ref (am 0)), (3, .ref ao), (4, .ref ao2), (5, .int x5)]) hx hb dL_law_1070 hl (by decide) rfl (fun ls hl => ?_)
  refine lv_aload_n hx hb dL_law_1072 rfl (lv_at hl 3 rfl) ?_
  refine lv_aload_n hx hb dL_law_1073 rfl (lv_at hl 1 rfl) ?_
  refine lv_iload hx hb dL_law_1074 (lv_at hl 6 rfl) ?_
  refine lv_iconst (v := 1) hx hb dL_law_1076 (by decide) ?_
  refine lv_iadd hx hb dL_law_1077 ?_
  refine va_sld hx hb hX hbl hbA hw.2.2.2.2 (hin 1 (by decide) (by decide)) dL_law_1078 ?_
  refine lv_aload_n hx hb dL_law_1079 rfl (lv_at hl 1 rfl) ?_
  refine lv_iload hx hb dL_law_1080 (lv_at hl 6 rfl) ?_
  refine lv_iconst (v := 2) hx hb dL_law_1082 (by decide) ?_
  refine lv_iadd hx hb dL_law_1083 ?_
  refine va_sld hx hb hX hbl hbA hw.2.2.2.2 (hin 2 (by decide) (by decide)) dL_law_1084 ?_
  refine hc_VF (n := 2) (As := [.int (xs (x5 + 1).toNatClampNeg), .int (xs (x5 + 2).toNatClampNeg)]) (rest := []) C hK (c_X10_agree l D ct am (FM am) hD.2.1 (xs (x5 + 1).toNatClampNeg) (xs (x5 + 2).toNatClampNeg) T v T' hfm) hl.1 cp_X10_agree mw_6_197 (rc_X10 hK hw.2.1) hw.2.1 hw.2.2.2.2 f3 ⟨rfl, rfl⟩ ⟨Nat.le_of_ble_eq_true rfl, Nat.le_of_ble_eq_true rfl⟩ rfl rfl (Nat.le_of_ble_eq_true rfl) dL_law_1085 ⟨hroom.1, hroom.2⟩ (fun H1 locs1 hP1 hS1 hz1 hk1 => ?_)
  have hw := hw.model hD hP1 hS1 hk1
  refine lv_istore (lv' := [(7, .int v), (6, .int k), (0, .ref b), (1, .ref (ad 0)), (2, .ref (am 0)), (3, .ref ao), (4, .ref ao2), (5, .int x5)]) hx hb dL_law_1088 hl (by decide) rfl (fun ls hl => ?_)
  refine lv_aload_n hx hb dL_law_1090 rfl (lv_at hl 4 rfl) ?_
  refine hc_VF (n := 0) (As := []) (rest := []) C hK (c_X10_thrown l D ct am (FM am) hD.2.1 T' k hft) hl.1 cp_X10_thrown mw_6_5 (rc_X10 hK hw.2.1) hw.2.1 hw.2.2.2.2 f3 ⟨rfl, rfl⟩ ⟨Nat.le_of_ble_eq_true rfl, Nat.le_of_ble_eq_true rfl⟩ rfl rfl (Nat.le_of_ble_eq_true rfl) dL_law_1091 ⟨hroom.1, hroom.2⟩ (fun H1 locs1 hP1 hS1 hz1 hk1 => ?_)
  have hw := hw.model hD hP1 hS1 hk1
  refine lv_iload hx hb dL_law_1094 (lv_at hl 1 rfl) ?_
  refine lv_icmp_eq (tgt := 1101) hx hb dL_law_1096 (by decide) (fun _ => ?_) (fun q => absurd rfl q)
  refine lv_iload hx hb dL_law_1101 (lv_at hl 1 rfl) ?_
  refine lv_if_ne (tgt := 1125) hx hb dL_law_1103 (by decide) (fun c1 => ?_) (fun c1 => ?_)
  · refine lv_goto (tgt := 2555) hx hb dL_law_1125 (by decide) ?_
    exact next _ _ _ _ _ _ _ hRel hw (lv_sub hl [2, 3, 4, 5, 6, 7] rfl)
  · refine lv_aload_n hx hb dL_law_1106 rfl (lv_at hl 5 rfl) ?_
    refine lv_iconst (v := 0) hx hb dL_law_1107 (by decide) ?_
    refine va_lald hx hb hK hw.2.2.1 0 1 rfl rfl (by unfold vp_in; decide) dL_law_1108 ?_
    refine lv_iload hx hb dL_law_1109 (lv_at hl 0 rfl) ?_
    have ha := hans c1
    refine lv_if_eq (tgt := 1118) hx hb dL_law_1111 (by decide) (fun c2 => ?_) (fun c2 => ?_)
    · refine lv_lconst (v := 0) hx hb dL_law_1118 (by decide) ?_
      refine W.lcmp hx hb dL_law_1119 ?_
      rw [show g' (Int32.toNatClampNeg 0) = 0 from ha.trans (if_pos c2)]
      refine lv_if_eq (tgt := 1125) hx hb dL_law_1120 (by decide) (fun _ => ?_) (fun q => absurd (by decide) q)
      refine lv_goto (tgt := 2555) hx hb dL_law_1125 (by decide) ?_
      exact next _ _ _ _ _ _ _ hRel hw (lv_sub hl [2, 3, 4, 5, 6, 7] rfl)
    · refine lv_lconst (v := 1) hx hb dL_law_1114 (by decide) ?_
      refine lv_goto (tgt := 1119) hx hb dL_law_1115 (by decide) ?_
      refine W.lcmp hx hb dL_law_1119 ?_
      rw [show g' (Int32.toNatClampNeg 0) = 1 from ha.trans (if_neg c2)]
      refine lv_if_eq (tgt := 1125) hx hb dL_law_1120 (by decide) (fun _ => ?_) (fun q => absurd (by decide) q)
      refine lv_goto (tgt := 2555) hx hb dL_law_1125 (by decide) ?_
      exact next _ _ _ _ _ _ _ hRel hw (lv_sub hl [2, 3, 4, 5, 6, 7] rfl)
set_option maxHeartbeats 4000000 in
theorem ca_numerator {p : Program} {l : Launch} {e : Env} {s : State} {m : MethodId} {below : List Frame} {meth : Method} {c : Code} {D : va_G} {ct : Nat → ClassId} {ad am : Nat → Nat} {ao ao2 b L : Nat} {xs : Nat → Int32} (hl0 : l.stackTraces = false) (C : Cx p c cL_law meth s m #[Value.ref b] RL (some .boolean) 9) (hX : va_X b L xs s s.heap) (hbl : b < s.heap.size) (hK : va_K D vwCl (tysW ct) s) (hXf : Xf (fun q => s.heap.size ≤ q) s) (hNc : Nc6 s) (hD : Ld ad am ao ao2 s) {S T : St} {g : Nat → Int64} {gd : Nat → UInt64} {H : Heap} {locs : List Loc} (hw : Lw D ct ad am ao ao2 s S T g gd H locs) (hRel : Rel S T) {x5 : Int32} (hin : ∀ j : Int32, 0 ≤ j → j ≤ 4 → vp_in (x5 + j) L) {cells slots : Nat} (hroom : cells + 1 ≤ room_1.cells ∧ slots + 6 ≤ room_1.slots) {Q : State → Prop}
    (next : ∀ (S' T' : St) (g' : Nat → Int64) (gd' : Nat → UInt64) (H' : Heap) (locs' : List Loc) (ls' : Array Slot), Rel S' T' → Lw D ct ad am ao ao2 s S' T' g' gd' H' locs' → lv_has ls' 9 [(0, .ref b), (1, .ref (ad 0)), (2, .ref (am 0)), (3, .ref ao), (4, .ref ao2), (5, .int x5)] → W p l e room_1 s m #[Value.ref b] below meth c H' locs' (cells + 1) (slots + 6) Q (F0 m 2555 ls' [])) {ls : Array Slot} (hl : lv_has ls 9 [(0, .ref b), (1, .ref (ad 0)), (2, .ref (am 0)), (3, .ref ao), (4, .ref ao2), (5, .int x5)]) : W p l e room_1 s m #[Value.ref b] below meth c H locs cells slots Q (F0 m 1128 ls []) := by
  obtain ⟨hx, hb, hr, hml, hown, htL, hlocks⟩ := id C
  have hbA : ¬ (fun q : Nat => s.heap.size ≤ q) b := Nat.not_le.mpr hbl
  obtain ⟨f1, f2, f3, f4⟩ := hD.fl
  obtain ⟨S', T', v, k, g', hM, hfm, hft, hRel, hans⟩ := wr_numerator l hl0 D ct ad ao hD.1 hD.2.2.1 (xs (x5 + 1).toNatClampNeg) hRel g
  refine lv_aload_n hx hb dL_law_1128 rfl (lv_at hl 1 rfl) ?_
  refine lv_aload_n hx hb dL_law_1129 rfl (lv_at hl 0 rfl) ?_
  refine lv_iload hx hb dL_law_1130 (lv_at hl 5 rfl) ?_
  refine lv_iconst (v := 1) hx hb dL_law_1132 (by decide) ?_
  refine lv_iadd hx hb dL_law_1133 ?_
  refine va_sld hx hb hX hbl hbA hw.2.2.2.2 (hin 1 (by decide) (by decide)) dL_law_1134 ?_
  refine lv_aload_n hx hb dL_law_1135 rfl (lv_at hl 3 rfl) ?_
  refine hc_W (n := 3) C hK hXf hNc hM hl.1 mw_4_78 mw_1_0 mw_4_77 mw_4_76 (by decide +kernel) hw.1 hw.2.2.1 hw.2.2.2.2 f1 ⟨rfl, rfl⟩ ⟨Nat.le_of_ble_eq_true rfl, Nat.le_of_ble_eq_true rfl⟩ rfl rfl (Nat.le_of_ble_eq_true rfl) dL_law_1136 hroom (fun H1 locs1 hP1 hO1 hS1 hz1 hk1 => ?_)
  have hw := hw.wrap hD hP1 hO1 hS1 hk1
  refine lv_istore (lv' := [(6, .int k), (0, .ref b), (1, .ref (ad 0)), (2, .ref (am 0)), (3, .ref ao), (4, .ref ao2), (5, .int x5)]) hx hb dL_law_1139 hl (by decide) rfl (fun ls hl => ?_)
  refine lv_aload_n hx hb dL_law_1141 rfl (lv_at hl 3 rfl) ?_
  refine lv_aload_n hx hb dL_law_1142 rfl (lv_at hl 1 rfl) ?_
  refine lv_iload hx hb dL_law_1143 (lv_at hl 6 rfl) ?_
  refine lv_iconst (v := 1) hx hb dL_law_1145 (by decide) ?_
  refine lv_iadd hx hb dL_law_1146 ?_
  refine va_sld hx hb hX hbl hbA hw.2.2.2.2 (hin 1 (by decide) (by decide)) dL_law_1147 ?_
  refine hc_VF (n := 1) (As := [.int (xs (x5 + 1).toNatClampNeg)]) (rest := []) C hK (c_X10_numerator l D ct am (FM am) hD.2.1 (xs (x5 + 1).toNatClampNeg) T v T' hfm) hl.1 cp_X10_numerator mw_6_201 (rc_X10 hK hw.2.1) hw.2.1 hw.2.2.2.2 f3 ⟨rfl, rfl⟩ ⟨Nat.le_of_ble_eq_true rfl, Nat.le_of_ble_eq_true rfl⟩ rfl rfl (Nat.le_of_ble_eq_true rfl) dL_law_1148 ⟨hroom.1, hroom.2⟩ (fun H1 locs1 hP1 hS1 hz1 hk1 => ?_)
  have hw := hw.model hD hP1 hS1 hk1
  refine lv_istore (lv' := [(7, .int v), (6, .int k), (0, .ref b), (1, .ref (ad 0)), (2, .ref (am 0)), (3, .ref ao), (4, .ref ao2), (5, .int x5)]) hx hb dL_law_1151 hl (by decide) rfl (fun ls hl => ?_)
  refine lv_aload_n hx hb dL_law_1153 rfl (lv_at hl 4 rfl) ?_
  refine hc_VF (n := 0) (As := []) (rest := []) C hK (c_X10_thrown l D ct am (FM am) hD.2.1 T' k hft) hl.1 cp_X10_thrown mw_6_5 (rc_X10 hK hw.2.1) hw.2.1 hw.2.2.2.2 f3 ⟨rfl, rfl⟩ ⟨Nat.le_of_ble_eq_true rfl, Nat.le_of_ble_eq_true rfl⟩ rfl rfl (Nat.le_of_ble_eq_true rfl) dL_law_1154 ⟨hroom.1, hroom.2⟩ (fun H1 locs1 hP1 hS1 hz1 hk1 => ?_)
  have hw := hw.model hD hP1 hS1 hk1
  refine lv_iload hx hb dL_law_1157 (lv_at hl 1 rfl) ?_
  refine lv_icmp_eq (tgt := 1164) hx hb dL_law_1159 (by decide) (fun _ => ?_) (fun q => absurd rfl q)
  refine lv_iload hx hb dL_law_1164 (lv_at hl 1 rfl) ?_
  refine lv_if_ne (tgt := 1181) hx hb dL_law_1166 (by decide) (fun c1 => ?_) (fun c1 => ?_)
  · refine lv_goto (tgt := 2555) hx hb dL_law_1181 (by decide) ?_
    exact next _ _ _ _ _ _ _ hRel hw (lv_sub hl [2, 3, 4, 5, 6, 7] rfl)
  · refine lv_aload_n hx hb dL_law_1169 rfl (lv_at hl 5 rfl) ?_
    refine lv_iconst (v := 0) hx hb dL_law_1170 (by decide) ?_
    refine va_lald hx hb hK hw.2.2.1 0 1 rfl rfl (by unfold vp_in; decide) dL_law_1171 ?_
    refine lv_iload hx hb dL_law_1172 (lv_at hl 0 rfl) ?_
    refine lv_i2l hx hb dL_law_1174 rfl ?_
    refine W.lcmp hx hb dL_law_1175 ?_
    rw [show g' (Int32.toNatClampNeg 0) = Int32.toInt64 v from hans c1]
    refine lv_if_eq (tgt := 1181) hx hb dL_law_1176 (by decide) (fun _ => ?_) (fun q => absurd (lgc_self _) q)
    refine lv_goto (tgt := 2555) hx hb dL_law_1181 (by decide) ?_
    exact next _ _ _ _ _ _ _ hRel hw (lv_sub hl [2, 3, 4, 5, 6, 7] rfl)
set_option maxHeartbeats 4000000 in
theorem ca_denominator {p : Program} {l : Launch} {e : Env} {s : State} {m : MethodId} {below : List Frame} {meth : Method} {c : Code} {D : va_G} {ct : Nat → ClassId} {ad am : Nat → Nat} {ao ao2 b L : Nat} {xs : Nat → Int32} (hl0 : l.stackTraces = false) (C : Cx p c cL_law meth s m #[Value.ref b] RL (some .boolean) 9) (hX : va_X b L xs s s.heap) (hbl : b < s.heap.size) (hK : va_K D vwCl (tysW ct) s) (hXf : Xf (fun q => s.heap.size ≤ q) s) (hNc : Nc6 s) (hD : Ld ad am ao ao2 s) {S T : St} {g : Nat → Int64} {gd : Nat → UInt64} {H : Heap} {locs : List Loc} (hw : Lw D ct ad am ao ao2 s S T g gd H locs) (hRel : Rel S T) {x5 : Int32} (hin : ∀ j : Int32, 0 ≤ j → j ≤ 4 → vp_in (x5 + j) L) {cells slots : Nat} (hroom : cells + 1 ≤ room_1.cells ∧ slots + 6 ≤ room_1.slots) {Q : State → Prop}
    (next : ∀ (S' T' : St) (g' : Nat → Int64) (gd' : Nat → UInt64) (H' : Heap) (locs' : List Loc) (ls' : Array Slot), Rel S' T' → Lw D ct ad am ao ao2 s S' T' g' gd' H' locs' → lv_has ls' 9 [(0, .ref b), (1, .ref (ad 0)), (2, .ref (am 0)), (3, .ref ao), (4, .ref ao2), (5, .int x5)] → W p l e room_1 s m #[Value.ref b] below meth c H' locs' (cells + 1) (slots + 6) Q (F0 m 2555 ls' [])) {ls : Array Slot} (hl : lv_has ls 9 [(0, .ref b), (1, .ref (ad 0)), (2, .ref (am 0)), (3, .ref ao), (4, .ref ao2), (5, .int x5)]) : W p l e room_1 s m #[Value.ref b] below meth c H locs cells slots Q (F0 m 1184 ls []) := by
  obtain ⟨hx, hb, hr, hml, hown, htL, hlocks⟩ := id C
  have hbA : ¬ (fun q : Nat => s.heap.size ≤ q) b := Nat.not_le.mpr hbl
  obtain ⟨f1, f2, f3, f4⟩ := hD.fl
  obtain ⟨S', T', v, k, g', hM, hfm, hft, hRel, hans⟩ := wr_denominator l hl0 D ct ad ao hD.1 hD.2.2.1 (xs (x5 + 1).toNatClampNeg) hRel g
  refine lv_aload_n hx hb dL_law_1184 rfl (lv_at hl 1 rfl) ?_
  refine lv_aload_n hx hb dL_law_1185 rfl (lv_at hl 0 rfl) ?_
  refine lv_iload hx hb dL_law_1186 (lv_at hl 5 rfl) ?_
  refine lv_iconst (v := 1) hx hb dL_law_1188 (by decide) ?_
  refine lv_iadd hx hb dL_law_1189 ?_
  refine va_sld hx hb hX hbl hbA hw.2.2.2.2 (hin 1 (by decide) (by decide)) dL_law_1190 ?_
  refine lv_aload_n hx hb dL_law_1191 rfl (lv_at hl 3 rfl) ?_
  refine hc_W (n := 3) C hK hXf hNc hM hl.1 mw_4_114 mw_1_0 mw_4_113 mw_4_112 (by decide +kernel) hw.1 hw.2.2.1 hw.2.2.2.2 f1 ⟨rfl, rfl⟩ ⟨Nat.le_of_ble_eq_true rfl, Nat.le_of_ble_eq_true rfl⟩ rfl rfl (Nat.le_of_ble_eq_true rfl) dL_law_1192 hroom (fun H1 locs1 hP1 hO1 hS1 hz1 hk1 => ?_)
  have hw := hw.wrap hD hP1 hO1 hS1 hk1
  refine lv_istore (lv' := [(6, .int k), (0, .ref b), (1, .ref (ad 0)), (2, .ref (am 0)), (3, .ref ao), (4, .ref ao2), (5, .int x5)]) hx hb dL_law_1195 hl (by decide) rfl (fun ls hl => ?_)
  refine lv_aload_n hx hb dL_law_1197 rfl (lv_at hl 3 rfl) ?_
  refine lv_aload_n hx hb dL_law_1198 rfl (lv_at hl 1 rfl) ?_
  refine lv_iload hx hb dL_law_1199 (lv_at hl 6 rfl) ?_
  refine lv_iconst (v := 1) hx hb dL_law_1201 (by decide) ?_
  refine lv_iadd hx hb dL_law_1202 ?_
  refine va_sld hx hb hX hbl hbA hw.2.2.2.2 (hin 1 (by decide) (by decide)) dL_law_1203 ?_
  refine hc_VF (n := 1) (As := [.int (xs (x5 + 1).toNatClampNeg)]) (rest := []) C hK (c_X10_denominator l D ct am (FM am) hD.2.1 (xs (x5 + 1).toNatClampNeg) T v T' hfm) hl.1 cp_X10_denominator mw_6_216 (rc_X10 hK hw.2.1) hw.2.1 hw.2.2.2.2 f3 ⟨rfl, rfl⟩ ⟨Nat.le_of_ble_eq_true rfl, Nat.le_of_ble_eq_true rfl⟩ rfl rfl (Nat.le_of_ble_eq_true rfl) dL_law_1204 ⟨hroom.1, hroom.2⟩ (fun H1 locs1 hP1 hS1 hz1 hk1 => ?_)
  have hw := hw.model hD hP1 hS1 hk1
  refine lv_istore (lv' := [(7, .int v), (6, .int k), (0, .ref b), (1, .ref (ad 0)), (2, .ref (am 0)), (3, .ref ao), (4, .ref ao2), (5, .int x5)]) hx hb dL_law_1207 hl (by decide) rfl (fun ls hl => ?_)
  refine lv_aload_n hx hb dL_law_1209 rfl (lv_at hl 4 rfl) ?_
  refine hc_VF (n := 0) (As := []) (rest := []) C hK (c_X10_thrown l D ct am (FM am) hD.2.1 T' k hft) hl.1 cp_X10_thrown mw_6_5 (rc_X10 hK hw.2.1) hw.2.1 hw.2.2.2.2 f3 ⟨rfl, rfl⟩ ⟨Nat.le_of_ble_eq_true rfl, Nat.le_of_ble_eq_true rfl⟩ rfl rfl (Nat.le_of_ble_eq_true rfl) dL_law_1210 ⟨hroom.1, hroom.2⟩ (fun H1 locs1 hP1 hS1 hz1 hk1 => ?_)
  have hw := hw.model hD hP1 hS1 hk1
  refine lv_iload hx hb dL_law_1213 (lv_at hl 1 rfl) ?_
  refine lv_icmp_eq (tgt := 1220) hx hb dL_law_1215 (by decide) (fun _ => ?_) (fun q => absurd rfl q)
  refine lv_iload hx hb dL_law_1220 (lv_at hl 1 rfl) ?_
  refine lv_if_ne (tgt := 1237) hx hb dL_law_1222 (by decide) (fun c1 => ?_) (fun c1 => ?_)
  · refine lv_goto (tgt := 2555) hx hb dL_law_1237 (by decide) ?_
    exact next _ _ _ _ _ _ _ hRel hw (lv_sub hl [2, 3, 4, 5, 6, 7] rfl)
  · refine lv_aload_n hx hb dL_law_1225 rfl (lv_at hl 5 rfl) ?_
    refine lv_iconst (v := 0) hx hb dL_law_1226 (by decide) ?_
    refine va_lald hx hb hK hw.2.2.1 0 1 rfl rfl (by unfold vp_in; decide) dL_law_1227 ?_
    refine lv_iload hx hb dL_law_1228 (lv_at hl 0 rfl) ?_
    refine lv_i2l hx hb dL_law_1230 rfl ?_
    refine W.lcmp hx hb dL_law_1231 ?_
    rw [show g' (Int32.toNatClampNeg 0) = Int32.toInt64 v from hans c1]
    refine lv_if_eq (tgt := 1237) hx hb dL_law_1232 (by decide) (fun _ => ?_) (fun q => absurd (lgc_self _) q)
    refine lv_goto (tgt := 2555) hx hb dL_law_1237 (by decide) ?_
    exact next _ _ _ _ _ _ _ hRel hw (lv_sub hl [2, 3, 4, 5, 6, 7] rfl)
set_option maxHeartbeats 4000000 in
theorem ca_distance {p : Program} {l : Launch} {e : Env} {s : State} {m : MethodId} {below : List Frame} {meth : Method} {c : Code} {D : va_G} {ct : Nat → ClassId} {ad am : Nat → Nat} {ao ao2 b L : Nat} {xs : Nat → Int32} (hl0 : l.stackTraces = false) (C : Cx p c cL_law meth s m #[Value.ref b] RL (some .boolean) 9) (hX : va_X b L xs s s.heap) (hbl : b < s.heap.size) (hK : va_K D vwCl (tysW ct) s) (hXf : Xf (fun q => s.heap.size ≤ q) s) (hNc : Nc6 s) (hD : Ld ad am ao ao2 s) {S T : St} {g : Nat → Int64} {gd : Nat → UInt64} {H : Heap} {locs : List Loc} (hw : Lw D ct ad am ao ao2 s S T g gd H locs) (hRel : Rel S T) {x5 : Int32} (hin : ∀ j : Int32, 0 ≤ j → j ≤ 4 → vp_in (x5 + j) L) {cells slots : Nat} (hroom : cells + 1 ≤ room_1.cells ∧ slots + 6 ≤ room_1.slots) {Q : State → Prop}
    (next : ∀ (S' T' : St) (g' : Nat → Int64) (gd' : Nat → UInt64) (H' : Heap) (locs' : List Loc) (ls' : Array Slot), Rel S' T' → Lw D ct ad am ao ao2 s S' T' g' gd' H' locs' → lv_has ls' 9 [(0, .ref b), (1, .ref (ad 0)), (2, .ref (am 0)), (3, .ref ao), (4, .ref ao2), (5, .int x5)] → W p l e room_1 s m #[Value.ref b] below meth c H' locs' (cells + 1) (slots + 6) Q (F0 m 2555 ls' [])) {ls : Array Slot} (hl : lv_has ls 9 [(0, .ref b), (1, .ref (ad 0)), (2, .ref (am 0)), (3, .ref ao), (4, .ref ao2), (5, .int x5)]) : W p l e room_1 s m #[Value.ref b] below meth c H locs cells slots Q (F0 m 1240 ls []) := by
  obtain ⟨hx, hb, hr, hml, hown, htL, hlocks⟩ := id C
  have hbA : ¬ (fun q : Nat => s.heap.size ≤ q) b := Nat.not_le.mpr hbl
  obtain ⟨f1, f2, f3, f4⟩ := hD.fl
  obtain ⟨S', T', v, k, g', hM, hfm, hft, hRel, hans⟩ := wr_distance l hl0 D ct ad ao hD.1 hD.2.2.1 (xs (x5 + 1).toNatClampNeg) (xs (x5 + 2).toNatClampNeg) (xs (x5 + 3).toNatClampNeg) (xs (x5 + 4).toNatClampNeg) hRel g
  refine lv_aload_n hx hb dL_law_1240 rfl (lv_at hl 1 rfl) ?_
  refine lv_aload_n hx hb dL_law_1241 rfl (lv_at hl 0 rfl) ?_
  refine lv_iload hx hb dL_law_1242 (lv_at hl 5 rfl) ?_
  refine lv_iconst (v := 1) hx hb dL_law_1244 (by decide) ?_
  refine lv_iadd hx hb dL_law_1245 ?_
  refine va_sld hx hb hX hbl hbA hw.2.2.2.2 (hin 1 (by decide) (by decide)) dL_law_1246 ?_
  refine lv_aload_n hx hb dL_law_1247 rfl (lv_at hl 0 rfl) ?_
  refine lv_iload hx hb dL_law_1248 (lv_at hl 5 rfl) ?_
  refine lv_iconst (v := 2) hx hb dL_law_1250 (by decide) ?_
  refine lv_iadd hx hb dL_law_1251 ?_
  refine va_sld hx hb hX hbl hbA hw.2.2.2.2 (hin 2 (by decide) (by decide)) dL_law_1252 ?_
  refine lv_aload_n hx hb dL_law_1253 rfl (lv_at hl 0 rfl) ?_
  refine lv_iload hx hb dL_law_1254 (lv_at hl 5 rfl) ?_
  refine lv_iconst (v := 3) hx hb dL_law_1256 (by decide) ?_
  refine lv_iadd hx hb dL_law_1257 ?_
  refine va_sld hx hb hX hbl hbA hw.2.2.2.2 (hin 3 (by decide) (by decide)) dL_law_1258 ?_
  refine lv_aload_n hx hb dL_law_1259 rfl (lv_at hl 0 rfl) ?_
  refine lv_iload hx hb dL_law_1260 (lv_at hl 5 rfl) ?_
  refine lv_iconst (v := 4) hx hb dL_law_1262 (by decide) ?_
  refine lv_iadd hx hb dL_law_1263 ?_
  refine va_sld hx hb hX hbl hbA hw.2.2.2.2 (hin 4 (by decide) (by decide)) dL_law_1264 ?_
  refine lv_aload_n hx hb dL_law_1265 rfl (lv_at hl 3 rfl) ?_
  refine hc_W (n := 6) C hK hXf hNc hM hl.1 mw_4_121 mw_1_0 mw_4_120 mw_4_119 (by decide +kernel) hw.1 hw.2.2.1 hw.2.2.2.2 f1 ⟨rfl, rfl⟩ ⟨Nat.le_of_ble_eq_true rfl, Nat.le_of_ble_eq_true rfl⟩ rfl rfl (Nat.le_of_ble_eq_true rfl) dL_law_1266 hroom (fun H1 locs1 hP1 hO1 hS1 hz1 hk1 => ?_)
  have hw := hw.wrap hD hP1 hO1 hS1 hk1
  refine lv_istore (lv' := [(6, .int k), (0, .ref b), (1, .ref (ad 0)), (2, .ref (am 0)), (3, .ref ao), (4, .ref ao2), (5, .int x5)]) hx hb dL_law_1269 hl (by decide) rfl (fun ls hl => ?_)
  refine lv_aload_n hx hb dL_law_1271 rfl (lv_at hl 3 rfl) ?_
  refine lv_aload_n hx hb dL_law_1272 rfl (lv_at hl 1 rfl) ?_
  refine lv_iload hx hb dL_law_1273 (lv_at hl 6 rfl) ?_
  refine lv_iconst (v := 1) hx hb dL_law_1275 (by decide) ?_
  refine lv_iadd hx hb dL_law_1276 ?_
  refine va_sld hx hb hX hbl hbA hw.2.2.2.2 (hin 1 (by decide) (by decide)) dL_law_1277 ?_
  refine lv_aload_n hx hb dL_law_1278 rfl (lv_at hl 1 rfl) ?_
  refine lv_iload hx hb dL_law_1279 (lv_at hl 6 rfl) ?_
  refine lv_iconst (v := 2) hx hb dL_law_1281 (by decide) ?_
  refine lv_iadd hx hb dL_law_1282 ?_
  refine va_sld hx hb hX hbl hbA hw.2.2.2.2 (hin 2 (by decide) (by decide)) dL_law_1283 ?_
  refine lv_aload_n hx hb dL_law_1284 rfl (lv_at hl 1 rfl) ?_
  refine lv_iload hx hb dL_law_1285 (lv_at hl 6 rfl) ?_
  refine lv_iconst (v := 3) hx hb dL_law_1287 (by decide) ?_
  refine lv_iadd hx hb dL_law_1288 ?_
  refine va_sld hx hb hX hbl hbA hw.2.2.2.2 (hin 3 (by decide) (by decide)) dL_law_1289 ?_
  refine lv_aload_n hx hb dL_law_1290 rfl (lv_at hl 1 rfl) ?_
  refine lv_iload hx hb dL_law_1291 (lv_at hl 6 rfl) ?_
  refine lv_iconst (v := 4) hx hb dL_law_1293 (by decide) ?_
  refine lv_iadd hx hb dL_law_1294 ?_
  refine va_sld hx hb hX hbl hbA hw.2.2.2.2 (hin 4 (by decide) (by decide)) dL_law_1295 ?_
  refine hc_VF (n := 4) (As := [.int (xs (x5 + 1).toNatClampNeg), .int (xs (x5 + 2).toNatClampNeg), .int (xs (x5 + 3).toNatClampNeg), .int (xs (x5 + 4).toNatClampNeg)]) (rest := []) C hK (c_X10_distance l D ct am (FM am) hD.2.1 (xs (x5 + 1).toNatClampNeg) (xs (x5 + 2).toNatClampNeg) (xs (x5 + 3).toNatClampNeg) (xs (x5 + 4).toNatClampNeg) T v T' hfm) hl.1 cp_X10_distance mw_6_220 (rc_X10 hK hw.2.1) hw.2.1 hw.2.2.2.2 f3 ⟨rfl, rfl⟩ ⟨Nat.le_of_ble_eq_true rfl, Nat.le_of_ble_eq_true rfl⟩ rfl rfl (Nat.le_of_ble_eq_true rfl) dL_law_1296 ⟨hroom.1, hroom.2⟩ (fun H1 locs1 hP1 hS1 hz1 hk1 => ?_)
  have hw := hw.model hD hP1 hS1 hk1
  refine lv_istore (lv' := [(7, .int v), (6, .int k), (0, .ref b), (1, .ref (ad 0)), (2, .ref (am 0)), (3, .ref ao), (4, .ref ao2), (5, .int x5)]) hx hb dL_law_1299 hl (by decide) rfl (fun ls hl => ?_)
  refine lv_aload_n hx hb dL_law_1301 rfl (lv_at hl 4 rfl) ?_
  refine hc_VF (n := 0) (As := []) (rest := []) C hK (c_X10_thrown l D ct am (FM am) hD.2.1 T' k hft) hl.1 cp_X10_thrown mw_6_5 (rc_X10 hK hw.2.1) hw.2.1 hw.2.2.2.2 f3 ⟨rfl, rfl⟩ ⟨Nat.le_of_ble_eq_true rfl, Nat.le_of_ble_eq_true rfl⟩ rfl rfl (Nat.le_of_ble_eq_true rfl) dL_law_1302 ⟨hroom.1, hroom.2⟩ (fun H1 locs1 hP1 hS1 hz1 hk1 => ?_)
  have hw := hw.model hD hP1 hS1 hk1
  refine lv_iload hx hb dL_law_1305 (lv_at hl 1 rfl) ?_
  refine lv_icmp_eq (tgt := 1312) hx hb dL_law_1307 (by decide) (fun _ => ?_) (fun q => absurd rfl q)
  refine lv_iload hx hb dL_law_1312 (lv_at hl 1 rfl) ?_
  refine lv_if_ne (tgt := 1329) hx hb dL_law_1314 (by decide) (fun c1 => ?_) (fun c1 => ?_)
  · refine lv_goto (tgt := 2555) hx hb dL_law_1329 (by decide) ?_
    exact next _ _ _ _ _ _ _ hRel hw (lv_sub hl [2, 3, 4, 5, 6, 7] rfl)
  · refine lv_aload_n hx hb dL_law_1317 rfl (lv_at hl 5 rfl) ?_
    refine lv_iconst (v := 0) hx hb dL_law_1318 (by decide) ?_
    refine va_lald hx hb hK hw.2.2.1 0 1 rfl rfl (by unfold vp_in; decide) dL_law_1319 ?_
    refine lv_iload hx hb dL_law_1320 (lv_at hl 0 rfl) ?_
    refine lv_i2l hx hb dL_law_1322 rfl ?_
    refine W.lcmp hx hb dL_law_1323 ?_
    rw [show g' (Int32.toNatClampNeg 0) = Int32.toInt64 v from hans c1]
    refine lv_if_eq (tgt := 1329) hx hb dL_law_1324 (by decide) (fun _ => ?_) (fun q => absurd (lgc_self _) q)
    refine lv_goto (tgt := 2555) hx hb dL_law_1329 (by decide) ?_
    exact next _ _ _ _ _ _ _ hRel hw (lv_sub hl [2, 3, 4, 5, 6, 7] rfl)
set_option maxHeartbeats 4000000 in
theorem ca_begin {p : Program} {l : Launch} {e : Env} {s : State} {m : MethodId} {below : List Frame} {meth : Method} {c : Code} {D : va_G} {ct : Nat → ClassId} {ad am : Nat → Nat} {ao ao2 b L : Nat} {xs : Nat → Int32} (hl0 : l.stackTraces = false) (C : Cx p c cL_law meth s m #[Value.ref b] RL (some .boolean) 9) (hX : va_X b L xs s s.heap) (hbl : b < s.heap.size) (hK : va_K D vwCl (tysW ct) s) (hXf : Xf (fun q => s.heap.size ≤ q) s) (hNc : Nc6 s) (hD : Ld ad am ao ao2 s) {S T : St} {g : Nat → Int64} {gd : Nat → UInt64} {H : Heap} {locs : List Loc} (hw : Lw D ct ad am ao ao2 s S T g gd H locs) (hRel : Rel S T) {x5 : Int32} (hin : ∀ j : Int32, 0 ≤ j → j ≤ 4 → vp_in (x5 + j) L) {cells slots : Nat} (hroom : cells + 1 ≤ room_1.cells ∧ slots + 6 ≤ room_1.slots) {Q : State → Prop}
    (next : ∀ (S' T' : St) (g' : Nat → Int64) (gd' : Nat → UInt64) (H' : Heap) (locs' : List Loc) (ls' : Array Slot), Rel S' T' → Lw D ct ad am ao ao2 s S' T' g' gd' H' locs' → lv_has ls' 9 [(0, .ref b), (1, .ref (ad 0)), (2, .ref (am 0)), (3, .ref ao), (4, .ref ao2), (5, .int x5)] → W p l e room_1 s m #[Value.ref b] below meth c H' locs' (cells + 1) (slots + 6) Q (F0 m 2555 ls' [])) {ls : Array Slot} (hl : lv_has ls 9 [(0, .ref b), (1, .ref (ad 0)), (2, .ref (am 0)), (3, .ref ao), (4, .ref ao2), (5, .int x5)]) : W p l e room_1 s m #[Value.ref b] below meth c H locs cells slots Q (F0 m 1332 ls []) := by
  obtain ⟨hx, hb, hr, hml, hown, htL, hlocks⟩ := id C
  have hbA : ¬ (fun q : Nat => s.heap.size ≤ q) b := Nat.not_le.mpr hbl
  obtain ⟨f1, f2, f3, f4⟩ := hD.fl
  obtain ⟨S', T', v, k, g', hM, hfm, hft, hRel, hans⟩ := wr_begin l hl0 D ct ad ao hD.1 hD.2.2.1 (xs (x5 + 1).toNatClampNeg) hRel g
  refine lv_aload_n hx hb dL_law_1332 rfl (lv_at hl 1 rfl) ?_
  refine lv_aload_n hx hb dL_law_1333 rfl (lv_at hl 0 rfl) ?_
  refine lv_iload hx hb dL_law_1334 (lv_at hl 5 rfl) ?_
  refine lv_iconst (v := 1) hx hb dL_law_1336 (by decide) ?_
  refine lv_iadd hx hb dL_law_1337 ?_
  refine va_sld hx hb hX hbl hbA hw.2.2.2.2 (hin 1 (by decide) (by decide)) dL_law_1338 ?_
  refine lv_aload_n hx hb dL_law_1339 rfl (lv_at hl 3 rfl) ?_
  refine hc_W (n := 3) C hK hXf hNc hM hl.1 mw_4_129 mw_1_0 mw_4_128 mw_4_127 (by decide +kernel) hw.1 hw.2.2.1 hw.2.2.2.2 f1 ⟨rfl, rfl⟩ ⟨Nat.le_of_ble_eq_true rfl, Nat.le_of_ble_eq_true rfl⟩ rfl rfl (Nat.le_of_ble_eq_true rfl) dL_law_1340 hroom (fun H1 locs1 hP1 hO1 hS1 hz1 hk1 => ?_)
  have hw := hw.wrap hD hP1 hO1 hS1 hk1
  refine lv_istore (lv' := [(6, .int k), (0, .ref b), (1, .ref (ad 0)), (2, .ref (am 0)), (3, .ref ao), (4, .ref ao2), (5, .int x5)]) hx hb dL_law_1343 hl (by decide) rfl (fun ls hl => ?_)
  refine lv_aload_n hx hb dL_law_1345 rfl (lv_at hl 3 rfl) ?_
  refine lv_aload_n hx hb dL_law_1346 rfl (lv_at hl 1 rfl) ?_
  refine lv_iload hx hb dL_law_1347 (lv_at hl 6 rfl) ?_
  refine lv_iconst (v := 1) hx hb dL_law_1349 (by decide) ?_
  refine lv_iadd hx hb dL_law_1350 ?_
  refine va_sld hx hb hX hbl hbA hw.2.2.2.2 (hin 1 (by decide) (by decide)) dL_law_1351 ?_
  refine hc_VF (n := 1) (As := [.int (xs (x5 + 1).toNatClampNeg)]) (rest := []) C hK (c_X10_begin l D ct am (FM am) hD.2.1 (xs (x5 + 1).toNatClampNeg) T v T' hfm) hl.1 cp_X10_begin mw_6_225 (rc_X10 hK hw.2.1) hw.2.1 hw.2.2.2.2 f3 ⟨rfl, rfl⟩ ⟨Nat.le_of_ble_eq_true rfl, Nat.le_of_ble_eq_true rfl⟩ rfl rfl (Nat.le_of_ble_eq_true rfl) dL_law_1352 ⟨hroom.1, hroom.2⟩ (fun H1 locs1 hP1 hS1 hz1 hk1 => ?_)
  have hw := hw.model hD hP1 hS1 hk1
  refine lv_istore (lv' := [(7, .int v), (6, .int k), (0, .ref b), (1, .ref (ad 0)), (2, .ref (am 0)), (3, .ref ao), (4, .ref ao2), (5, .int x5)]) hx hb dL_law_1355 hl (by decide) rfl (fun ls hl => ?_)
  refine lv_aload_n hx hb dL_law_1357 rfl (lv_at hl 4 rfl) ?_
  refine hc_VF (n := 0) (As := []) (rest := []) C hK (c_X10_thrown l D ct am (FM am) hD.2.1 T' k hft) hl.1 cp_X10_thrown mw_6_5 (rc_X10 hK hw.2.1) hw.2.1 hw.2.2.2.2 f3 ⟨rfl, rfl⟩ ⟨Nat.le_of_ble_eq_true rfl, Nat.le_of_ble_eq_true rfl⟩ rfl rfl (Nat.le_of_ble_eq_true rfl) dL_law_1358 ⟨hroom.1, hroom.2⟩ (fun H1 locs1 hP1 hS1 hz1 hk1 => ?_)
  have hw := hw.model hD hP1 hS1 hk1
  refine lv_iload hx hb dL_law_1361 (lv_at hl 1 rfl) ?_
  refine lv_icmp_eq (tgt := 1368) hx hb dL_law_1363 (by decide) (fun _ => ?_) (fun q => absurd rfl q)
  refine lv_iload hx hb dL_law_1368 (lv_at hl 1 rfl) ?_
  refine lv_if_ne (tgt := 1385) hx hb dL_law_1370 (by decide) (fun c1 => ?_) (fun c1 => ?_)
  · refine lv_goto (tgt := 2555) hx hb dL_law_1385 (by decide) ?_
    exact next _ _ _ _ _ _ _ hRel hw (lv_sub hl [2, 3, 4, 5, 6, 7] rfl)
  · refine lv_aload_n hx hb dL_law_1373 rfl (lv_at hl 5 rfl) ?_
    refine lv_iconst (v := 0) hx hb dL_law_1374 (by decide) ?_
    refine va_lald hx hb hK hw.2.2.1 0 1 rfl rfl (by unfold vp_in; decide) dL_law_1375 ?_
    refine lv_iload hx hb dL_law_1376 (lv_at hl 0 rfl) ?_
    refine lv_i2l hx hb dL_law_1378 rfl ?_
    refine W.lcmp hx hb dL_law_1379 ?_
    rw [show g' (Int32.toNatClampNeg 0) = Int32.toInt64 v from hans c1]
    refine lv_if_eq (tgt := 1385) hx hb dL_law_1380 (by decide) (fun _ => ?_) (fun q => absurd (lgc_self _) q)
    refine lv_goto (tgt := 2555) hx hb dL_law_1385 (by decide) ?_
    exact next _ _ _ _ _ _ _ hRel hw (lv_sub hl [2, 3, 4, 5, 6, 7] rfl)
set_option maxHeartbeats 4000000 in
theorem ca_term {p : Program} {l : Launch} {e : Env} {s : State} {m : MethodId} {below : List Frame} {meth : Method} {c : Code} {D : va_G} {ct : Nat → ClassId} {ad am : Nat → Nat} {ao ao2 b L : Nat} {xs : Nat → Int32} (hl0 : l.stackTraces = false) (C : Cx p c cL_law meth s m #[Value.ref b] RL (some .boolean) 9) (hX : va_X b L xs s s.heap) (hbl : b < s.heap.size) (hK : va_K D vwCl (tysW ct) s) (hXf : Xf (fun q => s.heap.size ≤ q) s) (hNc : Nc6 s) (hD : Ld ad am ao ao2 s) {S T : St} {g : Nat → Int64} {gd : Nat → UInt64} {H : Heap} {locs : List Loc} (hw : Lw D ct ad am ao ao2 s S T g gd H locs) (hRel : Rel S T) {x5 : Int32} (hin : ∀ j : Int32, 0 ≤ j → j ≤ 4 → vp_in (x5 + j) L) {cells slots : Nat} (hroom : cells + 1 ≤ room_1.cells ∧ slots + 6 ≤ room_1.slots) {Q : State → Prop}
    (next : ∀ (S' T' : St) (g' : Nat → Int64) (gd' : Nat → UInt64) (H' : Heap) (locs' : List Loc) (ls' : Array Slot), Rel S' T' → Lw D ct ad am ao ao2 s S' T' g' gd' H' locs' → lv_has ls' 9 [(0, .ref b), (1, .ref (ad 0)), (2, .ref (am 0)), (3, .ref ao), (4, .ref ao2), (5, .int x5)] → W p l e room_1 s m #[Value.ref b] below meth c H' locs' (cells + 1) (slots + 6) Q (F0 m 2555 ls' [])) {ls : Array Slot} (hl : lv_has ls 9 [(0, .ref b), (1, .ref (ad 0)), (2, .ref (am 0)), (3, .ref ao), (4, .ref ao2), (5, .int x5)]) : W p l e room_1 s m #[Value.ref b] below meth c H locs cells slots Q (F0 m 1388 ls []) := by
  obtain ⟨hx, hb, hr, hml, hown, htL, hlocks⟩ := id C
  have hbA : ¬ (fun q : Nat => s.heap.size ≤ q) b := Nat.not_le.mpr hbl
  obtain ⟨f1, f2, f3, f4⟩ := hD.fl
  obtain ⟨S', T', v, k, g', hM, hfm, hft, hRel, hans⟩ := wr_term l hl0 D ct ad ao hD.1 hD.2.2.1 (xs (x5 + 1).toNatClampNeg) (xs (x5 + 2).toNatClampNeg) (xs (x5 + 3).toNatClampNeg) hRel g
  refine lv_aload_n hx hb dL_law_1388 rfl (lv_at hl 1 rfl) ?_
  refine lv_aload_n hx hb dL_law_1389 rfl (lv_at hl 0 rfl) ?_
  refine lv_iload hx hb dL_law_1390 (lv_at hl 5 rfl) ?_
  refine lv_iconst (v := 1) hx hb dL_law_1392 (by decide) ?_
  refine lv_iadd hx hb dL_law_1393 ?_
  refine va_sld hx hb hX hbl hbA hw.2.2.2.2 (hin 1 (by decide) (by decide)) dL_law_1394 ?_
  refine lv_aload_n hx hb dL_law_1395 rfl (lv_at hl 0 rfl) ?_
  refine lv_iload hx hb dL_law_1396 (lv_at hl 5 rfl) ?_
  refine lv_iconst (v := 2) hx hb dL_law_1398 (by decide) ?_
  refine lv_iadd hx hb dL_law_1399 ?_
  refine va_sld hx hb hX hbl hbA hw.2.2.2.2 (hin 2 (by decide) (by decide)) dL_law_1400 ?_
  refine lv_aload_n hx hb dL_law_1401 rfl (lv_at hl 0 rfl) ?_
  refine lv_iload hx hb dL_law_1402 (lv_at hl 5 rfl) ?_
  refine lv_iconst (v := 3) hx hb dL_law_1404 (by decide) ?_
  refine lv_iadd hx hb dL_law_1405 ?_
  refine va_sld hx hb hX hbl hbA hw.2.2.2.2 (hin 3 (by decide) (by decide)) dL_law_1406 ?_
  refine lv_aload_n hx hb dL_law_1407 rfl (lv_at hl 3 rfl) ?_
  refine hc_W (n := 5) C hK hXf hNc hM hl.1 mw_4_154 mw_1_0 mw_4_153 mw_4_152 (by decide +kernel) hw.1 hw.2.2.1 hw.2.2.2.2 f1 ⟨rfl, rfl⟩ ⟨Nat.le_of_ble_eq_true rfl, Nat.le_of_ble_eq_true rfl⟩ rfl rfl (Nat.le_of_ble_eq_true rfl) dL_law_1408 hroom (fun H1 locs1 hP1 hO1 hS1 hz1 hk1 => ?_)
  have hw := hw.wrap hD hP1 hO1 hS1 hk1
  refine lv_istore (lv' := [(6, .int k), (0, .ref b), (1, .ref (ad 0)), (2, .ref (am 0)), (3, .ref ao), (4, .ref ao2), (5, .int x5)]) hx hb dL_law_1411 hl (by decide) rfl (fun ls hl => ?_)
  refine lv_aload_n hx hb dL_law_1413 rfl (lv_at hl 3 rfl) ?_
  refine lv_aload_n hx hb dL_law_1414 rfl (lv_at hl 1 rfl) ?_
  refine lv_iload hx hb dL_law_1415 (lv_at hl 6 rfl) ?_
  refine lv_iconst (v := 1) hx hb dL_law_1417 (by decide) ?_
  refine lv_iadd hx hb dL_law_1418 ?_
  refine va_sld hx hb hX hbl hbA hw.2.2.2.2 (hin 1 (by decide) (by decide)) dL_law_1419 ?_
  refine lv_aload_n hx hb dL_law_1420 rfl (lv_at hl 1 rfl) ?_
  refine lv_iload hx hb dL_law_1421 (lv_at hl 6 rfl) ?_
  refine lv_iconst (v := 2) hx hb dL_law_1423 (by decide) ?_
  refine lv_iadd hx hb dL_law_1424 ?_
  refine va_sld hx hb hX hbl hbA hw.2.2.2.2 (hin 2 (by decide) (by decide)) dL_law_1425 ?_
  refine lv_aload_n hx hb dL_law_1426 rfl (lv_at hl 1 rfl) ?_
  refine lv_iload hx hb dL_law_1427 (lv_at hl 6 rfl) ?_
  refine lv_iconst (v := 3) hx hb dL_law_1429 (by decide) ?_
  refine lv_iadd hx hb dL_law_1430 ?_
  refine va_sld hx hb hX hbl hbA hw.2.2.2.2 (hin 3 (by decide) (by decide)) dL_law_1431 ?_
  refine hc_VF (n := 3) (As := [.int (xs (x5 + 1).toNatClampNeg), .int (xs (x5 + 2).toNatClampNeg), .int (xs (x5 + 3).toNatClampNeg)]) (rest := []) C hK (c_X10_term l D ct am (FM am) hD.2.1 (xs (x5 + 1).toNatClampNeg) (xs (x5 + 2).toNatClampNeg) (xs (x5 + 3).toNatClampNeg) T v T' hfm) hl.1 cp_X10_term mw_6_231 (rc_X10 hK hw.2.1) hw.2.1 hw.2.2.2.2 f3 ⟨rfl, rfl⟩ ⟨Nat.le_of_ble_eq_true rfl, Nat.le_of_ble_eq_true rfl⟩ rfl rfl (Nat.le_of_ble_eq_true rfl) dL_law_1432 ⟨hroom.1, hroom.2⟩ (fun H1 locs1 hP1 hS1 hz1 hk1 => ?_)
  have hw := hw.model hD hP1 hS1 hk1
  refine lv_istore (lv' := [(7, .int v), (6, .int k), (0, .ref b), (1, .ref (ad 0)), (2, .ref (am 0)), (3, .ref ao), (4, .ref ao2), (5, .int x5)]) hx hb dL_law_1435 hl (by decide) rfl (fun ls hl => ?_)
  refine lv_aload_n hx hb dL_law_1437 rfl (lv_at hl 4 rfl) ?_
  refine hc_VF (n := 0) (As := []) (rest := []) C hK (c_X10_thrown l D ct am (FM am) hD.2.1 T' k hft) hl.1 cp_X10_thrown mw_6_5 (rc_X10 hK hw.2.1) hw.2.1 hw.2.2.2.2 f3 ⟨rfl, rfl⟩ ⟨Nat.le_of_ble_eq_true rfl, Nat.le_of_ble_eq_true rfl⟩ rfl rfl (Nat.le_of_ble_eq_true rfl) dL_law_1438 ⟨hroom.1, hroom.2⟩ (fun H1 locs1 hP1 hS1 hz1 hk1 => ?_)
  have hw := hw.model hD hP1 hS1 hk1
  refine lv_iload hx hb dL_law_1441 (lv_at hl 1 rfl) ?_
  refine lv_icmp_eq (tgt := 1448) hx hb dL_law_1443 (by decide) (fun _ => ?_) (fun q => absurd rfl q)
  refine lv_iload hx hb dL_law_1448 (lv_at hl 1 rfl) ?_
  refine lv_if_ne (tgt := 1465) hx hb dL_law_1450 (by decide) (fun c1 => ?_) (fun c1 => ?_)
  · refine lv_goto (tgt := 2555) hx hb dL_law_1465 (by decide) ?_
    exact next _ _ _ _ _ _ _ hRel hw (lv_sub hl [2, 3, 4, 5, 6, 7] rfl)
  · refine lv_aload_n hx hb dL_law_1453 rfl (lv_at hl 5 rfl) ?_
    refine lv_iconst (v := 0) hx hb dL_law_1454 (by decide) ?_
    refine va_lald hx hb hK hw.2.2.1 0 1 rfl rfl (by unfold vp_in; decide) dL_law_1455 ?_
    refine lv_iload hx hb dL_law_1456 (lv_at hl 0 rfl) ?_
    refine lv_i2l hx hb dL_law_1458 rfl ?_
    refine W.lcmp hx hb dL_law_1459 ?_
    rw [show g' (Int32.toNatClampNeg 0) = Int32.toInt64 v from hans c1]
    refine lv_if_eq (tgt := 1465) hx hb dL_law_1460 (by decide) (fun _ => ?_) (fun q => absurd (lgc_self _) q)
    refine lv_goto (tgt := 2555) hx hb dL_law_1465 (by decide) ?_
    exact next _ _ _ _ _ _ _ hRel hw (lv_sub hl [2, 3, 4, 5, 6, 7] rfl)
set_option maxHeartbeats 4000000 in
theorem ca_sides {p : Program} {l : Launch} {e : Env} {s : State} {m : MethodId} {below : List Frame} {meth : Method} {c : Code} {D : va_G} {ct : Nat → ClassId} {ad am : Nat → Nat} {ao ao2 b L : Nat} {xs : Nat → Int32} (hl0 : l.stackTraces = false) (C : Cx p c cL_law meth s m #[Value.ref b] RL (some .boolean) 9) (hX : va_X b L xs s s.heap) (hbl : b < s.heap.size) (hK : va_K D vwCl (tysW ct) s) (hXf : Xf (fun q => s.heap.size ≤ q) s) (hNc : Nc6 s) (hD : Ld ad am ao ao2 s) {S T : St} {g : Nat → Int64} {gd : Nat → UInt64} {H : Heap} {locs : List Loc} (hw : Lw D ct ad am ao ao2 s S T g gd H locs) (hRel : Rel S T) {x5 : Int32} (hin : ∀ j : Int32, 0 ≤ j → j ≤ 4 → vp_in (x5 + j) L) {cells slots : Nat} (hroom : cells + 1 ≤ room_1.cells ∧ slots + 6 ≤ room_1.slots) {Q : State → Prop}
    (next : ∀ (S' T' : St) (g' : Nat → Int64) (gd' : Nat → UInt64) (H' : Heap) (locs' : List Loc) (ls' : Array Slot), Rel S' T' → Lw D ct ad am ao ao2 s S' T' g' gd' H' locs' → lv_has ls' 9 [(0, .ref b), (1, .ref (ad 0)), (2, .ref (am 0)), (3, .ref ao), (4, .ref ao2), (5, .int x5)] → W p l e room_1 s m #[Value.ref b] below meth c H' locs' (cells + 1) (slots + 6) Q (F0 m 2555 ls' [])) {ls : Array Slot} (hl : lv_has ls 9 [(0, .ref b), (1, .ref (ad 0)), (2, .ref (am 0)), (3, .ref ao), (4, .ref ao2), (5, .int x5)]) : W p l e room_1 s m #[Value.ref b] below meth c H locs cells slots Q (F0 m 1468 ls []) := by
  obtain ⟨hx, hb, hr, hml, hown, htL, hlocks⟩ := id C
  have hbA : ¬ (fun q : Nat => s.heap.size ≤ q) b := Nat.not_le.mpr hbl
  obtain ⟨f1, f2, f3, f4⟩ := hD.fl
  obtain ⟨S', T', v, k, g', hM, hfm, hft, hRel, hans⟩ := wr_sides l hl0 D ct ad ao hD.1 hD.2.2.1 (xs (x5 + 1).toNatClampNeg) hRel g
  refine lv_aload_n hx hb dL_law_1468 rfl (lv_at hl 1 rfl) ?_
  refine lv_aload_n hx hb dL_law_1469 rfl (lv_at hl 0 rfl) ?_
  refine lv_iload hx hb dL_law_1470 (lv_at hl 5 rfl) ?_
  refine lv_iconst (v := 1) hx hb dL_law_1472 (by decide) ?_
  refine lv_iadd hx hb dL_law_1473 ?_
  refine va_sld hx hb hX hbl hbA hw.2.2.2.2 (hin 1 (by decide) (by decide)) dL_law_1474 ?_
  refine lv_aload_n hx hb dL_law_1475 rfl (lv_at hl 3 rfl) ?_
  refine hc_W (n := 3) C hK hXf hNc hM hl.1 mw_4_172 mw_1_0 mw_4_171 mw_4_170 (by decide +kernel) hw.1 hw.2.2.1 hw.2.2.2.2 f1 ⟨rfl, rfl⟩ ⟨Nat.le_of_ble_eq_true rfl, Nat.le_of_ble_eq_true rfl⟩ rfl rfl (Nat.le_of_ble_eq_true rfl) dL_law_1476 hroom (fun H1 locs1 hP1 hO1 hS1 hz1 hk1 => ?_)
  have hw := hw.wrap hD hP1 hO1 hS1 hk1
  refine lv_istore (lv' := [(6, .int k), (0, .ref b), (1, .ref (ad 0)), (2, .ref (am 0)), (3, .ref ao), (4, .ref ao2), (5, .int x5)]) hx hb dL_law_1479 hl (by decide) rfl (fun ls hl => ?_)
  refine lv_aload_n hx hb dL_law_1481 rfl (lv_at hl 3 rfl) ?_
  refine lv_aload_n hx hb dL_law_1482 rfl (lv_at hl 1 rfl) ?_
  refine lv_iload hx hb dL_law_1483 (lv_at hl 6 rfl) ?_
  refine lv_iconst (v := 1) hx hb dL_law_1485 (by decide) ?_
  refine lv_iadd hx hb dL_law_1486 ?_
  refine va_sld hx hb hX hbl hbA hw.2.2.2.2 (hin 1 (by decide) (by decide)) dL_law_1487 ?_
  refine hc_VF (n := 1) (As := [.int (xs (x5 + 1).toNatClampNeg)]) (rest := []) C hK (c_X10_sides l D ct am (FM am) hD.2.1 (xs (x5 + 1).toNatClampNeg) T v T' hfm) hl.1 cp_X10_sides mw_7_0 (rc_X10 hK hw.2.1) hw.2.1 hw.2.2.2.2 f3 ⟨rfl, rfl⟩ ⟨Nat.le_of_ble_eq_true rfl, Nat.le_of_ble_eq_true rfl⟩ rfl rfl (Nat.le_of_ble_eq_true rfl) dL_law_1488 ⟨hroom.1, hroom.2⟩ (fun H1 locs1 hP1 hS1 hz1 hk1 => ?_)
  have hw := hw.model hD hP1 hS1 hk1
  refine lv_istore (lv' := [(7, .int v), (6, .int k), (0, .ref b), (1, .ref (ad 0)), (2, .ref (am 0)), (3, .ref ao), (4, .ref ao2), (5, .int x5)]) hx hb dL_law_1491 hl (by decide) rfl (fun ls hl => ?_)
  refine lv_aload_n hx hb dL_law_1493 rfl (lv_at hl 4 rfl) ?_
  refine hc_VF (n := 0) (As := []) (rest := []) C hK (c_X10_thrown l D ct am (FM am) hD.2.1 T' k hft) hl.1 cp_X10_thrown mw_6_5 (rc_X10 hK hw.2.1) hw.2.1 hw.2.2.2.2 f3 ⟨rfl, rfl⟩ ⟨Nat.le_of_ble_eq_true rfl, Nat.le_of_ble_eq_true rfl⟩ rfl rfl (Nat.le_of_ble_eq_true rfl) dL_law_1494 ⟨hroom.1, hroom.2⟩ (fun H1 locs1 hP1 hS1 hz1 hk1 => ?_)
  have hw := hw.model hD hP1 hS1 hk1
  refine lv_iload hx hb dL_law_1497 (lv_at hl 1 rfl) ?_
  refine lv_icmp_eq (tgt := 1504) hx hb dL_law_1499 (by decide) (fun _ => ?_) (fun q => absurd rfl q)
  refine lv_iload hx hb dL_law_1504 (lv_at hl 1 rfl) ?_
  refine lv_if_ne (tgt := 1521) hx hb dL_law_1506 (by decide) (fun c1 => ?_) (fun c1 => ?_)
  · refine lv_goto (tgt := 2555) hx hb dL_law_1521 (by decide) ?_
    exact next _ _ _ _ _ _ _ hRel hw (lv_sub hl [2, 3, 4, 5, 6, 7] rfl)
  · refine lv_aload_n hx hb dL_law_1509 rfl (lv_at hl 5 rfl) ?_
    refine lv_iconst (v := 0) hx hb dL_law_1510 (by decide) ?_
    refine va_lald hx hb hK hw.2.2.1 0 1 rfl rfl (by unfold vp_in; decide) dL_law_1511 ?_
    refine lv_iload hx hb dL_law_1512 (lv_at hl 0 rfl) ?_
    refine lv_i2l hx hb dL_law_1514 rfl ?_
    refine W.lcmp hx hb dL_law_1515 ?_
    rw [show g' (Int32.toNatClampNeg 0) = Int32.toInt64 v from hans c1]
    refine lv_if_eq (tgt := 1521) hx hb dL_law_1516 (by decide) (fun _ => ?_) (fun q => absurd (lgc_self _) q)
    refine lv_goto (tgt := 2555) hx hb dL_law_1521 (by decide) ?_
    exact next _ _ _ _ _ _ _ hRel hw (lv_sub hl [2, 3, 4, 5, 6, 7] rfl)
set_option maxHeartbeats 4000000 in
theorem ca_length {p : Program} {l : Launch} {e : Env} {s : State} {m : MethodId} {below : List Frame} {meth : Method} {c : Code} {D : va_G} {ct : Nat → ClassId} {ad am : Nat → Nat} {ao ao2 b L : Nat} {xs : Nat → Int32} (hl0 : l.stackTraces = false) (C : Cx p c cL_law meth s m #[Value.ref b] RL (some .boolean) 9) (hX : va_X b L xs s s.heap) (hbl : b < s.heap.size) (hK : va_K D vwCl (tysW ct) s) (hXf : Xf (fun q => s.heap.size ≤ q) s) (hNc : Nc6 s) (hD : Ld ad am ao ao2 s) {S T : St} {g : Nat → Int64} {gd : Nat → UInt64} {H : Heap} {locs : List Loc} (hw : Lw D ct ad am ao ao2 s S T g gd H locs) (hRel : Rel S T) {x5 : Int32} (hin : ∀ j : Int32, 0 ≤ j → j ≤ 4 → vp_in (x5 + j) L) {cells slots : Nat} (hroom : cells + 1 ≤ room_1.cells ∧ slots + 6 ≤ room_1.slots) {Q : State → Prop}
    (next : ∀ (S' T' : St) (g' : Nat → Int64) (gd' : Nat → UInt64) (H' : Heap) (locs' : List Loc) (ls' : Array Slot), Rel S' T' → Lw D ct ad am ao ao2 s S' T' g' gd' H' locs' → lv_has ls' 9 [(0, .ref b), (1, .ref (ad 0)), (2, .ref (am 0)), (3, .ref ao), (4, .ref ao2), (5, .int x5)] → W p l e room_1 s m #[Value.ref b] below meth c H' locs' (cells + 1) (slots + 6) Q (F0 m 2555 ls' [])) {ls : Array Slot} (hl : lv_has ls 9 [(0, .ref b), (1, .ref (ad 0)), (2, .ref (am 0)), (3, .ref ao), (4, .ref ao2), (5, .int x5)]) : W p l e room_1 s m #[Value.ref b] below meth c H locs cells slots Q (F0 m 1524 ls []) := by
  obtain ⟨hx, hb, hr, hml, hown, htL, hlocks⟩ := id C
  have hbA : ¬ (fun q : Nat => s.heap.size ≤ q) b := Nat.not_le.mpr hbl
  obtain ⟨f1, f2, f3, f4⟩ := hD.fl
  obtain ⟨S', T', v, k, g', hM, hfm, hft, hRel, hans⟩ := wr_length l hl0 D ct ad ao hD.1 hD.2.2.1 (xs (x5 + 1).toNatClampNeg) (xs (x5 + 2).toNatClampNeg) hRel g
  refine lv_aload_n hx hb dL_law_1524 rfl (lv_at hl 1 rfl) ?_
  refine lv_aload_n hx hb dL_law_1525 rfl (lv_at hl 0 rfl) ?_
  refine lv_iload hx hb dL_law_1526 (lv_at hl 5 rfl) ?_
  refine lv_iconst (v := 1) hx hb dL_law_1528 (by decide) ?_
  refine lv_iadd hx hb dL_law_1529 ?_
  refine va_sld hx hb hX hbl hbA hw.2.2.2.2 (hin 1 (by decide) (by decide)) dL_law_1530 ?_
  refine lv_aload_n hx hb dL_law_1531 rfl (lv_at hl 0 rfl) ?_
  refine lv_iload hx hb dL_law_1532 (lv_at hl 5 rfl) ?_
  refine lv_iconst (v := 2) hx hb dL_law_1534 (by decide) ?_
  refine lv_iadd hx hb dL_law_1535 ?_
  refine va_sld hx hb hX hbl hbA hw.2.2.2.2 (hin 2 (by decide) (by decide)) dL_law_1536 ?_
  refine lv_aload_n hx hb dL_law_1537 rfl (lv_at hl 3 rfl) ?_
  refine hc_W (n := 4) C hK hXf hNc hM hl.1 mw_4_192 mw_1_0 mw_4_191 mw_4_190 (by decide +kernel) hw.1 hw.2.2.1 hw.2.2.2.2 f1 ⟨rfl, rfl⟩ ⟨Nat.le_of_ble_eq_true rfl, Nat.le_of_ble_eq_true rfl⟩ rfl rfl (Nat.le_of_ble_eq_true rfl) dL_law_1538 hroom (fun H1 locs1 hP1 hO1 hS1 hz1 hk1 => ?_)
  have hw := hw.wrap hD hP1 hO1 hS1 hk1
  refine lv_istore (lv' := [(6, .int k), (0, .ref b), (1, .ref (ad 0)), (2, .ref (am 0)), (3, .ref ao), (4, .ref ao2), (5, .int x5)]) hx hb dL_law_1541 hl (by decide) rfl (fun ls hl => ?_)
  refine lv_aload_n hx hb dL_law_1543 rfl (lv_at hl 3 rfl) ?_
  refine lv_aload_n hx hb dL_law_1544 rfl (lv_at hl 1 rfl) ?_
  refine lv_iload hx hb dL_law_1545 (lv_at hl 6 rfl) ?_
  refine lv_iconst (v := 1) hx hb dL_law_1547 (by decide) ?_
  refine lv_iadd hx hb dL_law_1548 ?_
  refine va_sld hx hb hX hbl hbA hw.2.2.2.2 (hin 1 (by decide) (by decide)) dL_law_1549 ?_
  refine lv_aload_n hx hb dL_law_1550 rfl (lv_at hl 1 rfl) ?_
  refine lv_iload hx hb dL_law_1551 (lv_at hl 6 rfl) ?_
  refine lv_iconst (v := 2) hx hb dL_law_1553 (by decide) ?_
  refine lv_iadd hx hb dL_law_1554 ?_
  refine va_sld hx hb hX hbl hbA hw.2.2.2.2 (hin 2 (by decide) (by decide)) dL_law_1555 ?_
  refine hc_VF (n := 2) (As := [.int (xs (x5 + 1).toNatClampNeg), .int (xs (x5 + 2).toNatClampNeg)]) (rest := []) C hK (c_X10_length l D ct am (FM am) hD.2.1 (xs (x5 + 1).toNatClampNeg) (xs (x5 + 2).toNatClampNeg) T v T' hfm) hl.1 cp_X10_length mw_7_8 (rc_X10 hK hw.2.1) hw.2.1 hw.2.2.2.2 f3 ⟨rfl, rfl⟩ ⟨Nat.le_of_ble_eq_true rfl, Nat.le_of_ble_eq_true rfl⟩ rfl rfl (Nat.le_of_ble_eq_true rfl) dL_law_1556 ⟨hroom.1, hroom.2⟩ (fun H1 locs1 hP1 hS1 hz1 hk1 => ?_)
  have hw := hw.model hD hP1 hS1 hk1
  refine lv_istore (lv' := [(7, .int v), (6, .int k), (0, .ref b), (1, .ref (ad 0)), (2, .ref (am 0)), (3, .ref ao), (4, .ref ao2), (5, .int x5)]) hx hb dL_law_1559 hl (by decide) rfl (fun ls hl => ?_)
  refine lv_aload_n hx hb dL_law_1561 rfl (lv_at hl 4 rfl) ?_
  refine hc_VF (n := 0) (As := []) (rest := []) C hK (c_X10_thrown l D ct am (FM am) hD.2.1 T' k hft) hl.1 cp_X10_thrown mw_6_5 (rc_X10 hK hw.2.1) hw.2.1 hw.2.2.2.2 f3 ⟨rfl, rfl⟩ ⟨Nat.le_of_ble_eq_true rfl, Nat.le_of_ble_eq_true rfl⟩ rfl rfl (Nat.le_of_ble_eq_true rfl) dL_law_1562 ⟨hroom.1, hroom.2⟩ (fun H1 locs1 hP1 hS1 hz1 hk1 => ?_)
  have hw := hw.model hD hP1 hS1 hk1
  refine lv_iload hx hb dL_law_1565 (lv_at hl 1 rfl) ?_
  refine lv_icmp_eq (tgt := 1572) hx hb dL_law_1567 (by decide) (fun _ => ?_) (fun q => absurd rfl q)
  refine lv_iload hx hb dL_law_1572 (lv_at hl 1 rfl) ?_
  refine lv_if_ne (tgt := 1589) hx hb dL_law_1574 (by decide) (fun c1 => ?_) (fun c1 => ?_)
  · refine lv_goto (tgt := 2555) hx hb dL_law_1589 (by decide) ?_
    exact next _ _ _ _ _ _ _ hRel hw (lv_sub hl [2, 3, 4, 5, 6, 7] rfl)
  · refine lv_aload_n hx hb dL_law_1577 rfl (lv_at hl 5 rfl) ?_
    refine lv_iconst (v := 0) hx hb dL_law_1578 (by decide) ?_
    refine va_lald hx hb hK hw.2.2.1 0 1 rfl rfl (by unfold vp_in; decide) dL_law_1579 ?_
    refine lv_iload hx hb dL_law_1580 (lv_at hl 0 rfl) ?_
    refine lv_i2l hx hb dL_law_1582 rfl ?_
    refine W.lcmp hx hb dL_law_1583 ?_
    rw [show g' (Int32.toNatClampNeg 0) = Int32.toInt64 v from hans c1]
    refine lv_if_eq (tgt := 1589) hx hb dL_law_1584 (by decide) (fun _ => ?_) (fun q => absurd (lgc_self _) q)
    refine lv_goto (tgt := 2555) hx hb dL_law_1589 (by decide) ?_
    exact next _ _ _ _ _ _ _ hRel hw (lv_sub hl [2, 3, 4, 5, 6, 7] rfl)
set_option maxHeartbeats 4000000 in
theorem ca_slope {p : Program} {l : Launch} {e : Env} {s : State} {m : MethodId} {below : List Frame} {meth : Method} {c : Code} {D : va_G} {ct : Nat → ClassId} {ad am : Nat → Nat} {ao ao2 b L : Nat} {xs : Nat → Int32} (hl0 : l.stackTraces = false) (C : Cx p c cL_law meth s m #[Value.ref b] RL (some .boolean) 9) (hX : va_X b L xs s s.heap) (hbl : b < s.heap.size) (hK : va_K D vwCl (tysW ct) s) (hXf : Xf (fun q => s.heap.size ≤ q) s) (hNc : Nc6 s) (hD : Ld ad am ao ao2 s) {S T : St} {g : Nat → Int64} {gd : Nat → UInt64} {H : Heap} {locs : List Loc} (hw : Lw D ct ad am ao ao2 s S T g gd H locs) (hRel : Rel S T) {x5 : Int32} (hin : ∀ j : Int32, 0 ≤ j → j ≤ 4 → vp_in (x5 + j) L) {cells slots : Nat} (hroom : cells + 1 ≤ room_1.cells ∧ slots + 6 ≤ room_1.slots) {Q : State → Prop}
    (next : ∀ (S' T' : St) (g' : Nat → Int64) (gd' : Nat → UInt64) (H' : Heap) (locs' : List Loc) (ls' : Array Slot), Rel S' T' → Lw D ct ad am ao ao2 s S' T' g' gd' H' locs' → lv_has ls' 9 [(0, .ref b), (1, .ref (ad 0)), (2, .ref (am 0)), (3, .ref ao), (4, .ref ao2), (5, .int x5)] → W p l e room_1 s m #[Value.ref b] below meth c H' locs' (cells + 1) (slots + 6) Q (F0 m 2555 ls' [])) {ls : Array Slot} (hl : lv_has ls 9 [(0, .ref b), (1, .ref (ad 0)), (2, .ref (am 0)), (3, .ref ao), (4, .ref ao2), (5, .int x5)]) : W p l e room_1 s m #[Value.ref b] below meth c H locs cells slots Q (F0 m 1592 ls []) := by
  obtain ⟨hx, hb, hr, hml, hown, htL, hlocks⟩ := id C
  have hbA : ¬ (fun q : Nat => s.heap.size ≤ q) b := Nat.not_le.mpr hbl
  obtain ⟨f1, f2, f3, f4⟩ := hD.fl
  obtain ⟨S', T', v, k, g', hM, hfm, hft, hRel, hans⟩ := wr_slope l hl0 D ct ad ao hD.1 hD.2.2.1 (xs (x5 + 1).toNatClampNeg) (xs (x5 + 2).toNatClampNeg) hRel g
  refine lv_aload_n hx hb dL_law_1592 rfl (lv_at hl 1 rfl) ?_
  refine lv_aload_n hx hb dL_law_1593 rfl (lv_at hl 0 rfl) ?_
  refine lv_iload hx hb dL_law_1594 (lv_at hl 5 rfl) ?_
  refine lv_iconst (v := 1) hx hb dL_law_1596 (by decide) ?_
  refine lv_iadd hx hb dL_law_1597 ?_
  refine va_sld hx hb hX hbl hbA hw.2.2.2.2 (hin 1 (by decide) (by decide)) dL_law_1598 ?_
  refine lv_aload_n hx hb dL_law_1599 rfl (lv_at hl 0 rfl) ?_
  refine lv_iload hx hb dL_law_1600 (lv_at hl 5 rfl) ?_
  refine lv_iconst (v := 2) hx hb dL_law_1602 (by decide) ?_
  refine lv_iadd hx hb dL_law_1603 ?_
  refine va_sld hx hb hX hbl hbA hw.2.2.2.2 (hin 2 (by decide) (by decide)) dL_law_1604 ?_
  refine lv_aload_n hx hb dL_law_1605 rfl (lv_at hl 3 rfl) ?_
  refine hc_W (n := 4) C hK hXf hNc hM hl.1 mw_4_209 mw_1_0 mw_4_208 mw_4_207 (by decide +kernel) hw.1 hw.2.2.1 hw.2.2.2.2 f1 ⟨rfl, rfl⟩ ⟨Nat.le_of_ble_eq_true rfl, Nat.le_of_ble_eq_true rfl⟩ rfl rfl (Nat.le_of_ble_eq_true rfl) dL_law_1606 hroom (fun H1 locs1 hP1 hO1 hS1 hz1 hk1 => ?_)
  have hw := hw.wrap hD hP1 hO1 hS1 hk1
  refine lv_istore (lv' := [(6, .int k), (0, .ref b), (1, .ref (ad 0)), (2, .ref (am 0)), (3, .ref ao), (4, .ref ao2), (5, .int x5)]) hx hb dL_law_1609 hl (by decide) rfl (fun ls hl => ?_)
  refine lv_aload_n hx hb dL_law_1611 rfl (lv_at hl 3 rfl) ?_
  refine lv_aload_n hx hb dL_law_1612 rfl (lv_at hl 1 rfl) ?_
  refine lv_iload hx hb dL_law_1613 (lv_at hl 6 rfl) ?_
  refine lv_iconst (v := 1) hx hb dL_law_1615 (by decide) ?_
  refine lv_iadd hx hb dL_law_1616 ?_
  refine va_sld hx hb hX hbl hbA hw.2.2.2.2 (hin 1 (by decide) (by decide)) dL_law_1617 ?_
  refine lv_aload_n hx hb dL_law_1618 rfl (lv_at hl 1 rfl) ?_
  refine lv_iload hx hb dL_law_1619 (lv_at hl 6 rfl) ?_
  refine lv_iconst (v := 2) hx hb dL_law_1621 (by decide) ?_
  refine lv_iadd hx hb dL_law_1622 ?_
  refine va_sld hx hb hX hbl hbA hw.2.2.2.2 (hin 2 (by decide) (by decide)) dL_law_1623 ?_
  refine hc_VF (n := 2) (As := [.int (xs (x5 + 1).toNatClampNeg), .int (xs (x5 + 2).toNatClampNeg)]) (rest := []) C hK (c_X10_slope l D ct am (FM am) hD.2.1 (xs (x5 + 1).toNatClampNeg) (xs (x5 + 2).toNatClampNeg) T v T' hfm) hl.1 cp_X10_slope mw_7_16 (rc_X10 hK hw.2.1) hw.2.1 hw.2.2.2.2 f3 ⟨rfl, rfl⟩ ⟨Nat.le_of_ble_eq_true rfl, Nat.le_of_ble_eq_true rfl⟩ rfl rfl (Nat.le_of_ble_eq_true rfl) dL_law_1624 ⟨hroom.1, hroom.2⟩ (fun H1 locs1 hP1 hS1 hz1 hk1 => ?_)
  have hw := hw.model hD hP1 hS1 hk1
  refine lv_istore (lv' := [(7, .int v), (6, .int k), (0, .ref b), (1, .ref (ad 0)), (2, .ref (am 0)), (3, .ref ao), (4, .ref ao2), (5, .int x5)]) hx hb dL_law_1627 hl (by decide) rfl (fun ls hl => ?_)
  refine lv_aload_n hx hb dL_law_1629 rfl (lv_at hl 4 rfl) ?_
  refine hc_VF (n := 0) (As := []) (rest := []) C hK (c_X10_thrown l D ct am (FM am) hD.2.1 T' k hft) hl.1 cp_X10_thrown mw_6_5 (rc_X10 hK hw.2.1) hw.2.1 hw.2.2.2.2 f3 ⟨rfl, rfl⟩ ⟨Nat.le_of_ble_eq_true rfl, Nat.le_of_ble_eq_true rfl⟩ rfl rfl (Nat.le_of_ble_eq_true rfl) dL_law_1630 ⟨hroom.1, hroom.2⟩ (fun H1 locs1 hP1 hS1 hz1 hk1 => ?_)
  have hw := hw.model hD hP1 hS1 hk1
  refine lv_iload hx hb dL_law_1633 (lv_at hl 1 rfl) ?_
  refine lv_icmp_eq (tgt := 1640) hx hb dL_law_1635 (by decide) (fun _ => ?_) (fun q => absurd rfl q)
  refine lv_iload hx hb dL_law_1640 (lv_at hl 1 rfl) ?_
  refine lv_if_ne (tgt := 1657) hx hb dL_law_1642 (by decide) (fun c1 => ?_) (fun c1 => ?_)
  · refine lv_goto (tgt := 2555) hx hb dL_law_1657 (by decide) ?_
    exact next _ _ _ _ _ _ _ hRel hw (lv_sub hl [2, 3, 4, 5, 6, 7] rfl)
  · refine lv_aload_n hx hb dL_law_1645 rfl (lv_at hl 5 rfl) ?_
    refine lv_iconst (v := 0) hx hb dL_law_1646 (by decide) ?_
    refine va_lald hx hb hK hw.2.2.1 0 1 rfl rfl (by unfold vp_in; decide) dL_law_1647 ?_
    refine lv_iload hx hb dL_law_1648 (lv_at hl 0 rfl) ?_
    refine lv_i2l hx hb dL_law_1650 rfl ?_
    refine W.lcmp hx hb dL_law_1651 ?_
    rw [show g' (Int32.toNatClampNeg 0) = Int32.toInt64 v from hans c1]
    refine lv_if_eq (tgt := 1657) hx hb dL_law_1652 (by decide) (fun _ => ?_) (fun q => absurd (lgc_self _) q)
    refine lv_goto (tgt := 2555) hx hb dL_law_1657 (by decide) ?_
    exact next _ _ _ _ _ _ _ hRel hw (lv_sub hl [2, 3, 4, 5, 6, 7] rfl)
set_option maxHeartbeats 4000000 in
theorem ca_residue {p : Program} {l : Launch} {e : Env} {s : State} {m : MethodId} {below : List Frame} {meth : Method} {c : Code} {D : va_G} {ct : Nat → ClassId} {ad am : Nat → Nat} {ao ao2 b L : Nat} {xs : Nat → Int32} (hl0 : l.stackTraces = false) (C : Cx p c cL_law meth s m #[Value.ref b] RL (some .boolean) 9) (hX : va_X b L xs s s.heap) (hbl : b < s.heap.size) (hK : va_K D vwCl (tysW ct) s) (hXf : Xf (fun q => s.heap.size ≤ q) s) (hNc : Nc6 s) (hD : Ld ad am ao ao2 s) {S T : St} {g : Nat → Int64} {gd : Nat → UInt64} {H : Heap} {locs : List Loc} (hw : Lw D ct ad am ao ao2 s S T g gd H locs) (hRel : Rel S T) {x5 : Int32} (hin : ∀ j : Int32, 0 ≤ j → j ≤ 4 → vp_in (x5 + j) L) {cells slots : Nat} (hroom : cells + 1 ≤ room_1.cells ∧ slots + 6 ≤ room_1.slots) {Q : State → Prop}
    (next : ∀ (S' T' : St) (g' : Nat → Int64) (gd' : Nat → UInt64) (H' : Heap) (locs' : List Loc) (ls' : Array Slot), Rel S' T' → Lw D ct ad am ao ao2 s S' T' g' gd' H' locs' → lv_has ls' 9 [(0, .ref b), (1, .ref (ad 0)), (2, .ref (am 0)), (3, .ref ao), (4, .ref ao2), (5, .int x5)] → W p l e room_1 s m #[Value.ref b] below meth c H' locs' (cells + 1) (slots + 6) Q (F0 m 2555 ls' [])) {ls : Array Slot} (hl : lv_has ls 9 [(0, .ref b), (1, .ref (ad 0)), (2, .ref (am 0)), (3, .ref ao), (4, .ref ao2), (5, .int x5)]) : W p l e room_1 s m #[Value.ref b] below meth c H locs cells slots Q (F0 m 1660 ls []) := by
  obtain ⟨hx, hb, hr, hml, hown, htL, hlocks⟩ := id C
  have hbA : ¬ (fun q : Nat => s.heap.size ≤ q) b := Nat.not_le.mpr hbl
  obtain ⟨f1, f2, f3, f4⟩ := hD.fl
  obtain ⟨S', T', v, k, g', hM, hfm, hft, hRel, hans⟩ := wr_residue l hl0 D ct ad ao hD.1 hD.2.2.1 (xs (x5 + 1).toNatClampNeg) (xs (x5 + 2).toNatClampNeg) hRel g
  refine lv_aload_n hx hb dL_law_1660 rfl (lv_at hl 1 rfl) ?_
  refine lv_aload_n hx hb dL_law_1661 rfl (lv_at hl 0 rfl) ?_
  refine lv_iload hx hb dL_law_1662 (lv_at hl 5 rfl) ?_
  refine lv_iconst (v := 1) hx hb dL_law_1664 (by decide) ?_
  refine lv_iadd hx hb dL_law_1665 ?_
  refine va_sld hx hb hX hbl hbA hw.2.2.2.2 (hin 1 (by decide) (by decide)) dL_law_1666 ?_
  refine lv_aload_n hx hb dL_law_1667 rfl (lv_at hl 0 rfl) ?_
  refine lv_iload hx hb dL_law_1668 (lv_at hl 5 rfl) ?_
  refine lv_iconst (v := 2) hx hb dL_law_1670 (by decide) ?_
  refine lv_iadd hx hb dL_law_1671 ?_
  refine va_sld hx hb hX hbl hbA hw.2.2.2.2 (hin 2 (by decide) (by decide)) dL_law_1672 ?_
  refine lv_aload_n hx hb dL_law_1673 rfl (lv_at hl 3 rfl) ?_
  refine hc_W (n := 4) C hK hXf hNc hM hl.1 mw_4_223 mw_1_0 mw_4_222 mw_4_221 (by decide +kernel) hw.1 hw.2.2.1 hw.2.2.2.2 f1 ⟨rfl, rfl⟩ ⟨Nat.le_of_ble_eq_true rfl, Nat.le_of_ble_eq_true rfl⟩ rfl rfl (Nat.le_of_ble_eq_true rfl) dL_law_1674 hroom (fun H1 locs1 hP1 hO1 hS1 hz1 hk1 => ?_)
  have hw := hw.wrap hD hP1 hO1 hS1 hk1
  refine lv_istore (lv' := [(6, .int k), (0, .ref b), (1, .ref (ad 0)), (2, .ref (am 0)), (3, .ref ao), (4, .ref ao2), (5, .int x5)]) hx hb dL_law_1677 hl (by decide) rfl (fun ls hl => ?_)
  refine lv_aload_n hx hb dL_law_1679 rfl (lv_at hl 3 rfl) ?_
  refine lv_aload_n hx hb dL_law_1680 rfl (lv_at hl 1 rfl) ?_
  refine lv_iload hx hb dL_law_1681 (lv_at hl 6 rfl) ?_
  refine lv_iconst (v := 1) hx hb dL_law_1683 (by decide) ?_
  refine lv_iadd hx hb dL_law_1684 ?_
  refine va_sld hx hb hX hbl hbA hw.2.2.2.2 (hin 1 (by decide) (by decide)) dL_law_1685 ?_
  refine lv_aload_n hx hb dL_law_1686 rfl (lv_at hl 1 rfl) ?_
  refine lv_iload hx hb dL_law_1687 (lv_at hl 6 rfl) ?_
  refine lv_iconst (v := 2) hx hb dL_law_1689 (by decide) ?_
  refine lv_iadd hx hb dL_law_1690 ?_
  refine va_sld hx hb hX hbl hbA hw.2.2.2.2 (hin 2 (by decide) (by decide)) dL_law_1691 ?_
  refine hc_VF (n := 2) (As := [.int (xs (x5 + 1).toNatClampNeg), .int (xs (x5 + 2).toNatClampNeg)]) (rest := []) C hK (c_X10_residue l D ct am (FM am) hD.2.1 (xs (x5 + 1).toNatClampNeg) (xs (x5 + 2).toNatClampNeg) T v T' hfm) hl.1 cp_X10_residue mw_7_20 (rc_X10 hK hw.2.1) hw.2.1 hw.2.2.2.2 f3 ⟨rfl, rfl⟩ ⟨Nat.le_of_ble_eq_true rfl, Nat.le_of_ble_eq_true rfl⟩ rfl rfl (Nat.le_of_ble_eq_true rfl) dL_law_1692 ⟨hroom.1, hroom.2⟩ (fun H1 locs1 hP1 hS1 hz1 hk1 => ?_)
  have hw := hw.model hD hP1 hS1 hk1
  refine lv_istore (lv' := [(7, .int v), (6, .int k), (0, .ref b), (1, .ref (ad 0)), (2, .ref (am 0)), (3, .ref ao), (4, .ref ao2), (5, .int x5)]) hx hb dL_law_1695 hl (by decide) rfl (fun ls hl => ?_)
  refine lv_aload_n hx hb dL_law_1697 rfl (lv_at hl 4 rfl) ?_
  refine hc_VF (n := 0) (As := []) (rest := []) C hK (c_X10_thrown l D ct am (FM am) hD.2.1 T' k hft) hl.1 cp_X10_thrown mw_6_5 (rc_X10 hK hw.2.1) hw.2.1 hw.2.2.2.2 f3 ⟨rfl, rfl⟩ ⟨Nat.le_of_ble_eq_true rfl, Nat.le_of_ble_eq_true rfl⟩ rfl rfl (Nat.le_of_ble_eq_true rfl) dL_law_1698 ⟨hroom.1, hroom.2⟩ (fun H1 locs1 hP1 hS1 hz1 hk1 => ?_)
  have hw := hw.model hD hP1 hS1 hk1
  refine lv_iload hx hb dL_law_1701 (lv_at hl 1 rfl) ?_
  refine lv_icmp_eq (tgt := 1708) hx hb dL_law_1703 (by decide) (fun _ => ?_) (fun q => absurd rfl q)
  refine lv_iload hx hb dL_law_1708 (lv_at hl 1 rfl) ?_
  refine lv_if_ne (tgt := 1725) hx hb dL_law_1710 (by decide) (fun c1 => ?_) (fun c1 => ?_)
  · refine lv_goto (tgt := 2555) hx hb dL_law_1725 (by decide) ?_
    exact next _ _ _ _ _ _ _ hRel hw (lv_sub hl [2, 3, 4, 5, 6, 7] rfl)
  · refine lv_aload_n hx hb dL_law_1713 rfl (lv_at hl 5 rfl) ?_
    refine lv_iconst (v := 0) hx hb dL_law_1714 (by decide) ?_
    refine va_lald hx hb hK hw.2.2.1 0 1 rfl rfl (by unfold vp_in; decide) dL_law_1715 ?_
    refine lv_iload hx hb dL_law_1716 (lv_at hl 0 rfl) ?_
    refine lv_i2l hx hb dL_law_1718 rfl ?_
    refine W.lcmp hx hb dL_law_1719 ?_
    rw [show g' (Int32.toNatClampNeg 0) = Int32.toInt64 v from hans c1]
    refine lv_if_eq (tgt := 1725) hx hb dL_law_1720 (by decide) (fun _ => ?_) (fun q => absurd (lgc_self _) q)
    refine lv_goto (tgt := 2555) hx hb dL_law_1725 (by decide) ?_
    exact next _ _ _ _ _ _ _ hRel hw (lv_sub hl [2, 3, 4, 5, 6, 7] rfl)
set_option maxHeartbeats 4000000 in
theorem ca_lift {p : Program} {l : Launch} {e : Env} {s : State} {m : MethodId} {below : List Frame} {meth : Method} {c : Code} {D : va_G} {ct : Nat → ClassId} {ad am : Nat → Nat} {ao ao2 b L : Nat} {xs : Nat → Int32} (hl0 : l.stackTraces = false) (C : Cx p c cL_law meth s m #[Value.ref b] RL (some .boolean) 9) (hX : va_X b L xs s s.heap) (hbl : b < s.heap.size) (hK : va_K D vwCl (tysW ct) s) (hXf : Xf (fun q => s.heap.size ≤ q) s) (hNc : Nc6 s) (hD : Ld ad am ao ao2 s) {S T : St} {g : Nat → Int64} {gd : Nat → UInt64} {H : Heap} {locs : List Loc} (hw : Lw D ct ad am ao ao2 s S T g gd H locs) (hRel : Rel S T) {x5 : Int32} (hin : ∀ j : Int32, 0 ≤ j → j ≤ 4 → vp_in (x5 + j) L) {cells slots : Nat} (hroom : cells + 1 ≤ room_1.cells ∧ slots + 6 ≤ room_1.slots) {Q : State → Prop}
    (next : ∀ (S' T' : St) (g' : Nat → Int64) (gd' : Nat → UInt64) (H' : Heap) (locs' : List Loc) (ls' : Array Slot), Rel S' T' → Lw D ct ad am ao ao2 s S' T' g' gd' H' locs' → lv_has ls' 9 [(0, .ref b), (1, .ref (ad 0)), (2, .ref (am 0)), (3, .ref ao), (4, .ref ao2), (5, .int x5)] → W p l e room_1 s m #[Value.ref b] below meth c H' locs' (cells + 1) (slots + 6) Q (F0 m 2555 ls' [])) {ls : Array Slot} (hl : lv_has ls 9 [(0, .ref b), (1, .ref (ad 0)), (2, .ref (am 0)), (3, .ref ao), (4, .ref ao2), (5, .int x5)]) : W p l e room_1 s m #[Value.ref b] below meth c H locs cells slots Q (F0 m 1728 ls []) := by
  obtain ⟨hx, hb, hr, hml, hown, htL, hlocks⟩ := id C
  have hbA : ¬ (fun q : Nat => s.heap.size ≤ q) b := Nat.not_le.mpr hbl
  obtain ⟨f1, f2, f3, f4⟩ := hD.fl
  obtain ⟨S', T', v, k, g', hM, hfm, hft, hRel, hans⟩ := wr_lift l hl0 D ct ad ao hD.1 hD.2.2.1 (xs (x5 + 1).toNatClampNeg) (xs (x5 + 2).toNatClampNeg) (xs (x5 + 3).toNatClampNeg) hRel g
  refine lv_aload_n hx hb dL_law_1728 rfl (lv_at hl 1 rfl) ?_
  refine lv_aload_n hx hb dL_law_1729 rfl (lv_at hl 0 rfl) ?_
  refine lv_iload hx hb dL_law_1730 (lv_at hl 5 rfl) ?_
  refine lv_iconst (v := 1) hx hb dL_law_1732 (by decide) ?_
  refine lv_iadd hx hb dL_law_1733 ?_
  refine va_sld hx hb hX hbl hbA hw.2.2.2.2 (hin 1 (by decide) (by decide)) dL_law_1734 ?_
  refine lv_aload_n hx hb dL_law_1735 rfl (lv_at hl 0 rfl) ?_
  refine lv_iload hx hb dL_law_1736 (lv_at hl 5 rfl) ?_
  refine lv_iconst (v := 2) hx hb dL_law_1738 (by decide) ?_
  refine lv_iadd hx hb dL_law_1739 ?_
  refine va_sld hx hb hX hbl hbA hw.2.2.2.2 (hin 2 (by decide) (by decide)) dL_law_1740 ?_
  refine lv_aload_n hx hb dL_law_1741 rfl (lv_at hl 0 rfl) ?_
  refine lv_iload hx hb dL_law_1742 (lv_at hl 5 rfl) ?_
  refine lv_iconst (v := 3) hx hb dL_law_1744 (by decide) ?_
  refine lv_iadd hx hb dL_law_1745 ?_
  refine va_sld hx hb hX hbl hbA hw.2.2.2.2 (hin 3 (by decide) (by decide)) dL_law_1746 ?_
  refine lv_aload_n hx hb dL_law_1747 rfl (lv_at hl 3 rfl) ?_
  refine hc_W (n := 5) C hK hXf hNc hM hl.1 mw_4_236 mw_1_0 mw_4_235 mw_4_234 (by decide +kernel) hw.1 hw.2.2.1 hw.2.2.2.2 f1 ⟨rfl, rfl⟩ ⟨Nat.le_of_ble_eq_true rfl, Nat.le_of_ble_eq_true rfl⟩ rfl rfl (Nat.le_of_ble_eq_true rfl) dL_law_1748 hroom (fun H1 locs1 hP1 hO1 hS1 hz1 hk1 => ?_)
  have hw := hw.wrap hD hP1 hO1 hS1 hk1
  refine lv_istore (lv' := [(6, .int k), (0, .ref b), (1, .ref (ad 0)), (2, .ref (am 0)), (3, .ref ao), (4, .ref ao2), (5, .int x5)]) hx hb dL_law_1751 hl (by decide) rfl (fun ls hl => ?_)
  refine lv_aload_n hx hb dL_law_1753 rfl (lv_at hl 3 rfl) ?_
  refine lv_aload_n hx hb dL_law_1754 rfl (lv_at hl 1 rfl) ?_
  refine lv_iload hx hb dL_law_1755 (lv_at hl 6 rfl) ?_
  refine lv_iconst (v := 1) hx hb dL_law_1757 (by decide) ?_
  refine lv_iadd hx hb dL_law_1758 ?_
  refine va_sld hx hb hX hbl hbA hw.2.2.2.2 (hin 1 (by decide) (by decide)) dL_law_1759 ?_
  refine lv_aload_n hx hb dL_law_1760 rfl (lv_at hl 1 rfl) ?_
  refine lv_iload hx hb dL_law_1761 (lv_at hl 6 rfl) ?_
  refine lv_iconst (v := 2) hx hb dL_law_1763 (by decide) ?_
  refine lv_iadd hx hb dL_law_1764 ?_
  refine va_sld hx hb hX hbl hbA hw.2.2.2.2 (hin 2 (by decide) (by decide)) dL_law_1765 ?_
  refine lv_aload_n hx hb dL_law_1766 rfl (lv_at hl 1 rfl) ?_
  refine lv_iload hx hb dL_law_1767 (lv_at hl 6 rfl) ?_
  refine lv_iconst (v := 3) hx hb dL_law_1769 (by decide) ?_
  refine lv_iadd hx hb dL_law_1770 ?_
  refine va_sld hx hb hX hbl hbA hw.2.2.2.2 (hin 3 (by decide) (by decide)) dL_law_1771 ?_
  refine hc_VF (n := 3) (As := [.int (xs (x5 + 1).toNatClampNeg), .int (xs (x5 + 2).toNatClampNeg), .int (xs (x5 + 3).toNatClampNeg)]) (rest := []) C hK (c_X10_lift l D ct am (FM am) hD.2.1 (xs (x5 + 1).toNatClampNeg) (xs (x5 + 2).toNatClampNeg) (xs (x5 + 3).toNatClampNeg) T v T' hfm) hl.1 cp_X10_lift mw_7_32 (rc_X10 hK hw.2.1) hw.2.1 hw.2.2.2.2 f3 ⟨rfl, rfl⟩ ⟨Nat.le_of_ble_eq_true rfl, Nat.le_of_ble_eq_true rfl⟩ rfl rfl (Nat.le_of_ble_eq_true rfl) dL_law_1772 ⟨hroom.1, hroom.2⟩ (fun H1 locs1 hP1 hS1 hz1 hk1 => ?_)
  have hw := hw.model hD hP1 hS1 hk1
  refine lv_istore (lv' := [(7, .int v), (6, .int k), (0, .ref b), (1, .ref (ad 0)), (2, .ref (am 0)), (3, .ref ao), (4, .ref ao2), (5, .int x5)]) hx hb dL_law_1775 hl (by decide) rfl (fun ls hl => ?_)
  refine lv_aload_n hx hb dL_law_1777 rfl (lv_at hl 4 rfl) ?_
  refine hc_VF (n := 0) (As := []) (rest := []) C hK (c_X10_thrown l D ct am (FM am) hD.2.1 T' k hft) hl.1 cp_X10_thrown mw_6_5 (rc_X10 hK hw.2.1) hw.2.1 hw.2.2.2.2 f3 ⟨rfl, rfl⟩ ⟨Nat.le_of_ble_eq_true rfl, Nat.le_of_ble_eq_true rfl⟩ rfl rfl (Nat.le_of_ble_eq_true rfl) dL_law_1778 ⟨hroom.1, hroom.2⟩ (fun H1 locs1 hP1 hS1 hz1 hk1 => ?_)
  have hw := hw.model hD hP1 hS1 hk1
  refine lv_iload hx hb dL_law_1781 (lv_at hl 1 rfl) ?_
  refine lv_icmp_eq (tgt := 1788) hx hb dL_law_1783 (by decide) (fun _ => ?_) (fun q => absurd rfl q)
  refine lv_iload hx hb dL_law_1788 (lv_at hl 1 rfl) ?_
  refine lv_if_ne (tgt := 1805) hx hb dL_law_1790 (by decide) (fun c1 => ?_) (fun c1 => ?_)
  · refine lv_goto (tgt := 2555) hx hb dL_law_1805 (by decide) ?_
    exact next _ _ _ _ _ _ _ hRel hw (lv_sub hl [2, 3, 4, 5, 6, 7] rfl)
  · refine lv_aload_n hx hb dL_law_1793 rfl (lv_at hl 5 rfl) ?_
    refine lv_iconst (v := 0) hx hb dL_law_1794 (by decide) ?_
    refine va_lald hx hb hK hw.2.2.1 0 1 rfl rfl (by unfold vp_in; decide) dL_law_1795 ?_
    refine lv_iload hx hb dL_law_1796 (lv_at hl 0 rfl) ?_
    refine lv_i2l hx hb dL_law_1798 rfl ?_
    refine W.lcmp hx hb dL_law_1799 ?_
    rw [show g' (Int32.toNatClampNeg 0) = Int32.toInt64 v from hans c1]
    refine lv_if_eq (tgt := 1805) hx hb dL_law_1800 (by decide) (fun _ => ?_) (fun q => absurd (lgc_self _) q)
    refine lv_goto (tgt := 2555) hx hb dL_law_1805 (by decide) ?_
    exact next _ _ _ _ _ _ _ hRel hw (lv_sub hl [2, 3, 4, 5, 6, 7] rfl)
set_option maxHeartbeats 4000000 in
theorem ca_rootsModulo {p : Program} {l : Launch} {e : Env} {s : State} {m : MethodId} {below : List Frame} {meth : Method} {c : Code} {D : va_G} {ct : Nat → ClassId} {ad am : Nat → Nat} {ao ao2 b L : Nat} {xs : Nat → Int32} (hl0 : l.stackTraces = false) (C : Cx p c cL_law meth s m #[Value.ref b] RL (some .boolean) 9) (hX : va_X b L xs s s.heap) (hbl : b < s.heap.size) (hK : va_K D vwCl (tysW ct) s) (hXf : Xf (fun q => s.heap.size ≤ q) s) (hNc : Nc6 s) (hD : Ld ad am ao ao2 s) {S T : St} {g : Nat → Int64} {gd : Nat → UInt64} {H : Heap} {locs : List Loc} (hw : Lw D ct ad am ao ao2 s S T g gd H locs) (hRel : Rel S T) {x5 : Int32} (hin : ∀ j : Int32, 0 ≤ j → j ≤ 4 → vp_in (x5 + j) L) {cells slots : Nat} (hroom : cells + 1 ≤ room_1.cells ∧ slots + 6 ≤ room_1.slots) {Q : State → Prop}
    (next : ∀ (S' T' : St) (g' : Nat → Int64) (gd' : Nat → UInt64) (H' : Heap) (locs' : List Loc) (ls' : Array Slot), Rel S' T' → Lw D ct ad am ao ao2 s S' T' g' gd' H' locs' → lv_has ls' 9 [(0, .ref b), (1, .ref (ad 0)), (2, .ref (am 0)), (3, .ref ao), (4, .ref ao2), (5, .int x5)] → W p l e room_1 s m #[Value.ref b] below meth c H' locs' (cells + 1) (slots + 6) Q (F0 m 2555 ls' [])) {ls : Array Slot} (hl : lv_has ls 9 [(0, .ref b), (1, .ref (ad 0)), (2, .ref (am 0)), (3, .ref ao), (4, .ref ao2), (5, .int x5)]) : W p l e room_1 s m #[Value.ref b] below meth c H locs cells slots Q (F0 m 1808 ls []) := by
  obtain ⟨hx, hb, hr, hml, hown, htL, hlocks⟩ := id C
  have hbA : ¬ (fun q : Nat => s.heap.size ≤ q) b := Nat.not_le.mpr hbl
  obtain ⟨f1, f2, f3, f4⟩ := hD.fl
  obtain ⟨S', T', v, k, g', hM, hfm, hft, hRel, hans⟩ := wr_rootsModulo l hl0 D ct ad ao hD.1 hD.2.2.1 (xs (x5 + 1).toNatClampNeg) (xs (x5 + 2).toNatClampNeg) hRel g
  refine lv_aload_n hx hb dL_law_1808 rfl (lv_at hl 1 rfl) ?_
  refine lv_aload_n hx hb dL_law_1809 rfl (lv_at hl 0 rfl) ?_
  refine lv_iload hx hb dL_law_1810 (lv_at hl 5 rfl) ?_
  refine lv_iconst (v := 1) hx hb dL_law_1812 (by decide) ?_
  refine lv_iadd hx hb dL_law_1813 ?_
  refine va_sld hx hb hX hbl hbA hw.2.2.2.2 (hin 1 (by decide) (by decide)) dL_law_1814 ?_
  refine lv_aload_n hx hb dL_law_1815 rfl (lv_at hl 0 rfl) ?_
  refine lv_iload hx hb dL_law_1816 (lv_at hl 5 rfl) ?_
  refine lv_iconst (v := 2) hx hb dL_law_1818 (by decide) ?_
  refine lv_iadd hx hb dL_law_1819 ?_
  refine va_sld hx hb hX hbl hbA hw.2.2.2.2 (hin 2 (by decide) (by decide)) dL_law_1820 ?_
  refine lv_aload_n hx hb dL_law_1821 rfl (lv_at hl 3 rfl) ?_
  refine hc_W (n := 4) C hK hXf hNc hM hl.1 mw_5_8 mw_1_0 mw_5_7 mw_5_6 (by decide +kernel) hw.1 hw.2.2.1 hw.2.2.2.2 f1 ⟨rfl, rfl⟩ ⟨Nat.le_of_ble_eq_true rfl, Nat.le_of_ble_eq_true rfl⟩ rfl rfl (Nat.le_of_ble_eq_true rfl) dL_law_1822 hroom (fun H1 locs1 hP1 hO1 hS1 hz1 hk1 => ?_)
  have hw := hw.wrap hD hP1 hO1 hS1 hk1
  refine lv_istore (lv' := [(6, .int k), (0, .ref b), (1, .ref (ad 0)), (2, .ref (am 0)), (3, .ref ao), (4, .ref ao2), (5, .int x5)]) hx hb dL_law_1825 hl (by decide) rfl (fun ls hl => ?_)
  refine lv_aload_n hx hb dL_law_1827 rfl (lv_at hl 3 rfl) ?_
  refine lv_aload_n hx hb dL_law_1828 rfl (lv_at hl 1 rfl) ?_
  refine lv_iload hx hb dL_law_1829 (lv_at hl 6 rfl) ?_
  refine lv_iconst (v := 1) hx hb dL_law_1831 (by decide) ?_
  refine lv_iadd hx hb dL_law_1832 ?_
  refine va_sld hx hb hX hbl hbA hw.2.2.2.2 (hin 1 (by decide) (by decide)) dL_law_1833 ?_
  refine lv_aload_n hx hb dL_law_1834 rfl (lv_at hl 1 rfl) ?_
  refine lv_iload hx hb dL_law_1835 (lv_at hl 6 rfl) ?_
  refine lv_iconst (v := 2) hx hb dL_law_1837 (by decide) ?_
  refine lv_iadd hx hb dL_law_1838 ?_
  refine va_sld hx hb hX hbl hbA hw.2.2.2.2 (hin 2 (by decide) (by decide)) dL_law_1839 ?_
  refine hc_VF (n := 2) (As := [.int (xs (x5 + 1).toNatClampNeg), .int (xs (x5 + 2).toNatClampNeg)]) (rest := []) C hK (c_X10_rootsModulo l D ct am (FM am) hD.2.1 (xs (x5 + 1).toNatClampNeg) (xs (x5 + 2).toNatClampNeg) T v T' hfm) hl.1 cp_X10_rootsModulo mw_7_40 (rc_X10 hK hw.2.1) hw.2.1 hw.2.2.2.2 f3 ⟨rfl, rfl⟩ ⟨Nat.le_of_ble_eq_true rfl, Nat.le_of_ble_eq_true rfl⟩ rfl rfl (Nat.le_of_ble_eq_true rfl) dL_law_1840 ⟨hroom.1, hroom.2⟩ (fun H1 locs1 hP1 hS1 hz1 hk1 => ?_)
  have hw := hw.model hD hP1 hS1 hk1
  refine lv_istore (lv' := [(7, .int v), (6, .int k), (0, .ref b), (1, .ref (ad 0)), (2, .ref (am 0)), (3, .ref ao), (4, .ref ao2), (5, .int x5)]) hx hb dL_law_1843 hl (by decide) rfl (fun ls hl => ?_)
  refine lv_aload_n hx hb dL_law_1845 rfl (lv_at hl 4 rfl) ?_
  refine hc_VF (n := 0) (As := []) (rest := []) C hK (c_X10_thrown l D ct am (FM am) hD.2.1 T' k hft) hl.1 cp_X10_thrown mw_6_5 (rc_X10 hK hw.2.1) hw.2.1 hw.2.2.2.2 f3 ⟨rfl, rfl⟩ ⟨Nat.le_of_ble_eq_true rfl, Nat.le_of_ble_eq_true rfl⟩ rfl rfl (Nat.le_of_ble_eq_true rfl) dL_law_1846 ⟨hroom.1, hroom.2⟩ (fun H1 locs1 hP1 hS1 hz1 hk1 => ?_)
  have hw := hw.model hD hP1 hS1 hk1
  refine lv_iload hx hb dL_law_1849 (lv_at hl 1 rfl) ?_
  refine lv_icmp_eq (tgt := 1856) hx hb dL_law_1851 (by decide) (fun _ => ?_) (fun q => absurd rfl q)
  refine lv_iload hx hb dL_law_1856 (lv_at hl 1 rfl) ?_
  refine lv_if_ne (tgt := 1873) hx hb dL_law_1858 (by decide) (fun c1 => ?_) (fun c1 => ?_)
  · refine lv_goto (tgt := 2555) hx hb dL_law_1873 (by decide) ?_
    exact next _ _ _ _ _ _ _ hRel hw (lv_sub hl [2, 3, 4, 5, 6, 7] rfl)
  · refine lv_aload_n hx hb dL_law_1861 rfl (lv_at hl 5 rfl) ?_
    refine lv_iconst (v := 0) hx hb dL_law_1862 (by decide) ?_
    refine va_lald hx hb hK hw.2.2.1 0 1 rfl rfl (by unfold vp_in; decide) dL_law_1863 ?_
    refine lv_iload hx hb dL_law_1864 (lv_at hl 0 rfl) ?_
    refine lv_i2l hx hb dL_law_1866 rfl ?_
    refine W.lcmp hx hb dL_law_1867 ?_
    rw [show g' (Int32.toNatClampNeg 0) = Int32.toInt64 v from hans c1]
    refine lv_if_eq (tgt := 1873) hx hb dL_law_1868 (by decide) (fun _ => ?_) (fun q => absurd (lgc_self _) q)
    refine lv_goto (tgt := 2555) hx hb dL_law_1873 (by decide) ?_
    exact next _ _ _ _ _ _ _ hRel hw (lv_sub hl [2, 3, 4, 5, 6, 7] rfl)
set_option maxHeartbeats 4000000 in
theorem ca_symbol {p : Program} {l : Launch} {e : Env} {s : State} {m : MethodId} {below : List Frame} {meth : Method} {c : Code} {D : va_G} {ct : Nat → ClassId} {ad am : Nat → Nat} {ao ao2 b L : Nat} {xs : Nat → Int32} (hl0 : l.stackTraces = false) (C : Cx p c cL_law meth s m #[Value.ref b] RL (some .boolean) 9) (hX : va_X b L xs s s.heap) (hbl : b < s.heap.size) (hK : va_K D vwCl (tysW ct) s) (hXf : Xf (fun q => s.heap.size ≤ q) s) (hNc : Nc6 s) (hD : Ld ad am ao ao2 s) {S T : St} {g : Nat → Int64} {gd : Nat → UInt64} {H : Heap} {locs : List Loc} (hw : Lw D ct ad am ao ao2 s S T g gd H locs) (hRel : Rel S T) {x5 : Int32} (hin : ∀ j : Int32, 0 ≤ j → j ≤ 4 → vp_in (x5 + j) L) {cells slots : Nat} (hroom : cells + 1 ≤ room_1.cells ∧ slots + 6 ≤ room_1.slots) {Q : State → Prop}
    (next : ∀ (S' T' : St) (g' : Nat → Int64) (gd' : Nat → UInt64) (H' : Heap) (locs' : List Loc) (ls' : Array Slot), Rel S' T' → Lw D ct ad am ao ao2 s S' T' g' gd' H' locs' → lv_has ls' 9 [(0, .ref b), (1, .ref (ad 0)), (2, .ref (am 0)), (3, .ref ao), (4, .ref ao2), (5, .int x5)] → W p l e room_1 s m #[Value.ref b] below meth c H' locs' (cells + 1) (slots + 6) Q (F0 m 2555 ls' [])) {ls : Array Slot} (hl : lv_has ls 9 [(0, .ref b), (1, .ref (ad 0)), (2, .ref (am 0)), (3, .ref ao), (4, .ref ao2), (5, .int x5)]) : W p l e room_1 s m #[Value.ref b] below meth c H locs cells slots Q (F0 m 1876 ls []) := by
  obtain ⟨hx, hb, hr, hml, hown, htL, hlocks⟩ := id C
  have hbA : ¬ (fun q : Nat => s.heap.size ≤ q) b := Nat.not_le.mpr hbl
  obtain ⟨f1, f2, f3, f4⟩ := hD.fl
  obtain ⟨S', T', v, k, g', hM, hfm, hft, hRel, hans⟩ := wr_symbol l hl0 D ct ad ao hD.1 hD.2.2.1 (xs (x5 + 1).toNatClampNeg) (xs (x5 + 2).toNatClampNeg) (xs (x5 + 3).toNatClampNeg) hRel g
  refine lv_aload_n hx hb dL_law_1876 rfl (lv_at hl 1 rfl) ?_
  refine lv_aload_n hx hb dL_law_1877 rfl (lv_at hl 0 rfl) ?_
  refine lv_iload hx hb dL_law_1878 (lv_at hl 5 rfl) ?_
  refine lv_iconst (v := 1) hx hb dL_law_1880 (by decide) ?_
  refine lv_iadd hx hb dL_law_1881 ?_
  refine va_sld hx hb hX hbl hbA hw.2.2.2.2 (hin 1 (by decide) (by decide)) dL_law_1882 ?_
  refine lv_aload_n hx hb dL_law_1883 rfl (lv_at hl 0 rfl) ?_
  refine lv_iload hx hb dL_law_1884 (lv_at hl 5 rfl) ?_
  refine lv_iconst (v := 2) hx hb dL_law_1886 (by decide) ?_
  refine lv_iadd hx hb dL_law_1887 ?_
  refine va_sld hx hb hX hbl hbA hw.2.2.2.2 (hin 2 (by decide) (by decide)) dL_law_1888 ?_
  refine lv_aload_n hx hb dL_law_1889 rfl (lv_at hl 0 rfl) ?_
  refine lv_iload hx hb dL_law_1890 (lv_at hl 5 rfl) ?_
  refine lv_iconst (v := 3) hx hb dL_law_1892 (by decide) ?_
  refine lv_iadd hx hb dL_law_1893 ?_
  refine va_sld hx hb hX hbl hbA hw.2.2.2.2 (hin 3 (by decide) (by decide)) dL_law_1894 ?_
  refine lv_aload_n hx hb dL_law_1895 rfl (lv_at hl 3 rfl) ?_
  refine hc_W (n := 5) C hK hXf hNc hM hl.1 mw_5_22 mw_1_0 mw_5_21 mw_5_20 (by decide +kernel) hw.1 hw.2.2.1 hw.2.2.2.2 f1 ⟨rfl, rfl⟩ ⟨Nat.le_of_ble_eq_true rfl, Nat.le_of_ble_eq_true rfl⟩ rfl rfl (Nat.le_of_ble_eq_true rfl) dL_law_1896 hroom (fun H1 locs1 hP1 hO1 hS1 hz1 hk1 => ?_)
  have hw := hw.wrap hD hP1 hO1 hS1 hk1
  refine lv_istore (lv' := [(6, .int k), (0, .ref b), (1, .ref (ad 0)), (2, .ref (am 0)), (3, .ref ao), (4, .ref ao2), (5, .int x5)]) hx hb dL_law_1899 hl (by decide) rfl (fun ls hl => ?_)
  refine lv_aload_n hx hb dL_law_1901 rfl (lv_at hl 3 rfl) ?_
  refine lv_aload_n hx hb dL_law_1902 rfl (lv_at hl 1 rfl) ?_
  refine lv_iload hx hb dL_law_1903 (lv_at hl 6 rfl) ?_
  refine lv_iconst (v := 1) hx hb dL_law_1905 (by decide) ?_
  refine lv_iadd hx hb dL_law_1906 ?_
  refine va_sld hx hb hX hbl hbA hw.2.2.2.2 (hin 1 (by decide) (by decide)) dL_law_1907 ?_
  refine lv_aload_n hx hb dL_law_1908 rfl (lv_at hl 1 rfl) ?_
  refine lv_iload hx hb dL_law_1909 (lv_at hl 6 rfl) ?_
  refine lv_iconst (v := 2) hx hb dL_law_1911 (by decide) ?_
  refine lv_iadd hx hb dL_law_1912 ?_
  refine va_sld hx hb hX hbl hbA hw.2.2.2.2 (hin 2 (by decide) (by decide)) dL_law_1913 ?_
  refine lv_aload_n hx hb dL_law_1914 rfl (lv_at hl 1 rfl) ?_
  refine lv_iload hx hb dL_law_1915 (lv_at hl 6 rfl) ?_
  refine lv_iconst (v := 3) hx hb dL_law_1917 (by decide) ?_
  refine lv_iadd hx hb dL_law_1918 ?_
  refine va_sld hx hb hX hbl hbA hw.2.2.2.2 (hin 3 (by decide) (by decide)) dL_law_1919 ?_
  refine hc_VF (n := 3) (As := [.int (xs (x5 + 1).toNatClampNeg), .int (xs (x5 + 2).toNatClampNeg), .int (xs (x5 + 3).toNatClampNeg)]) (rest := []) C hK (c_X10_symbol l D ct am (FM am) hD.2.1 (xs (x5 + 1).toNatClampNeg) (xs (x5 + 2).toNatClampNeg) (xs (x5 + 3).toNatClampNeg) T v T' hfm) hl.1 cp_X10_symbol mw_7_44 (rc_X10 hK hw.2.1) hw.2.1 hw.2.2.2.2 f3 ⟨rfl, rfl⟩ ⟨Nat.le_of_ble_eq_true rfl, Nat.le_of_ble_eq_true rfl⟩ rfl rfl (Nat.le_of_ble_eq_true rfl) dL_law_1920 ⟨hroom.1, hroom.2⟩ (fun H1 locs1 hP1 hS1 hz1 hk1 => ?_)
  have hw := hw.model hD hP1 hS1 hk1
  refine lv_istore (lv' := [(7, .int v), (6, .int k), (0, .ref b), (1, .ref (ad 0)), (2, .ref (am 0)), (3, .ref ao), (4, .ref ao2), (5, .int x5)]) hx hb dL_law_1923 hl (by decide) rfl (fun ls hl => ?_)
  refine lv_aload_n hx hb dL_law_1925 rfl (lv_at hl 4 rfl) ?_
  refine hc_VF (n := 0) (As := []) (rest := []) C hK (c_X10_thrown l D ct am (FM am) hD.2.1 T' k hft) hl.1 cp_X10_thrown mw_6_5 (rc_X10 hK hw.2.1) hw.2.1 hw.2.2.2.2 f3 ⟨rfl, rfl⟩ ⟨Nat.le_of_ble_eq_true rfl, Nat.le_of_ble_eq_true rfl⟩ rfl rfl (Nat.le_of_ble_eq_true rfl) dL_law_1926 ⟨hroom.1, hroom.2⟩ (fun H1 locs1 hP1 hS1 hz1 hk1 => ?_)
  have hw := hw.model hD hP1 hS1 hk1
  refine lv_iload hx hb dL_law_1929 (lv_at hl 1 rfl) ?_
  refine lv_icmp_eq (tgt := 1936) hx hb dL_law_1931 (by decide) (fun _ => ?_) (fun q => absurd rfl q)
  refine lv_iload hx hb dL_law_1936 (lv_at hl 1 rfl) ?_
  refine lv_if_ne (tgt := 1953) hx hb dL_law_1938 (by decide) (fun c1 => ?_) (fun c1 => ?_)
  · refine lv_goto (tgt := 2555) hx hb dL_law_1953 (by decide) ?_
    exact next _ _ _ _ _ _ _ hRel hw (lv_sub hl [2, 3, 4, 5, 6, 7] rfl)
  · refine lv_aload_n hx hb dL_law_1941 rfl (lv_at hl 5 rfl) ?_
    refine lv_iconst (v := 0) hx hb dL_law_1942 (by decide) ?_
    refine va_lald hx hb hK hw.2.2.1 0 1 rfl rfl (by unfold vp_in; decide) dL_law_1943 ?_
    refine lv_iload hx hb dL_law_1944 (lv_at hl 0 rfl) ?_
    refine lv_i2l hx hb dL_law_1946 rfl ?_
    refine W.lcmp hx hb dL_law_1947 ?_
    rw [show g' (Int32.toNatClampNeg 0) = Int32.toInt64 v from hans c1]
    refine lv_if_eq (tgt := 1953) hx hb dL_law_1948 (by decide) (fun _ => ?_) (fun q => absurd (lgc_self _) q)
    refine lv_goto (tgt := 2555) hx hb dL_law_1953 (by decide) ?_
    exact next _ _ _ _ _ _ _ hRel hw (lv_sub hl [2, 3, 4, 5, 6, 7] rfl)
set_option maxHeartbeats 4000000 in
theorem ca_obstacle {p : Program} {l : Launch} {e : Env} {s : State} {m : MethodId} {below : List Frame} {meth : Method} {c : Code} {D : va_G} {ct : Nat → ClassId} {ad am : Nat → Nat} {ao ao2 b L : Nat} {xs : Nat → Int32} (hl0 : l.stackTraces = false) (C : Cx p c cL_law meth s m #[Value.ref b] RL (some .boolean) 9) (hX : va_X b L xs s s.heap) (hbl : b < s.heap.size) (hK : va_K D vwCl (tysW ct) s) (hXf : Xf (fun q => s.heap.size ≤ q) s) (hNc : Nc6 s) (hD : Ld ad am ao ao2 s) {S T : St} {g : Nat → Int64} {gd : Nat → UInt64} {H : Heap} {locs : List Loc} (hw : Lw D ct ad am ao ao2 s S T g gd H locs) (hRel : Rel S T) {x5 : Int32} (hin : ∀ j : Int32, 0 ≤ j → j ≤ 4 → vp_in (x5 + j) L) {cells slots : Nat} (hroom : cells + 1 ≤ room_1.cells ∧ slots + 6 ≤ room_1.slots) {Q : State → Prop}
    (next : ∀ (S' T' : St) (g' : Nat → Int64) (gd' : Nat → UInt64) (H' : Heap) (locs' : List Loc) (ls' : Array Slot), Rel S' T' → Lw D ct ad am ao ao2 s S' T' g' gd' H' locs' → lv_has ls' 9 [(0, .ref b), (1, .ref (ad 0)), (2, .ref (am 0)), (3, .ref ao), (4, .ref ao2), (5, .int x5)] → W p l e room_1 s m #[Value.ref b] below meth c H' locs' (cells + 1) (slots + 6) Q (F0 m 2555 ls' [])) {ls : Array Slot} (hl : lv_has ls 9 [(0, .ref b), (1, .ref (ad 0)), (2, .ref (am 0)), (3, .ref ao), (4, .ref ao2), (5, .int x5)]) : W p l e room_1 s m #[Value.ref b] below meth c H locs cells slots Q (F0 m 1956 ls []) := by
  obtain ⟨hx, hb, hr, hml, hown, htL, hlocks⟩ := id C
  have hbA : ¬ (fun q : Nat => s.heap.size ≤ q) b := Nat.not_le.mpr hbl
  obtain ⟨f1, f2, f3, f4⟩ := hD.fl
  obtain ⟨S', T', v, k, g', hM, hfm, hft, hRel, hans⟩ := wr_obstacle l hl0 D ct ad ao hD.1 hD.2.2.1 (xs (x5 + 1).toNatClampNeg) (xs (x5 + 2).toNatClampNeg) hRel g
  refine lv_aload_n hx hb dL_law_1956 rfl (lv_at hl 1 rfl) ?_
  refine lv_aload_n hx hb dL_law_1957 rfl (lv_at hl 0 rfl) ?_
  refine lv_iload hx hb dL_law_1958 (lv_at hl 5 rfl) ?_
  refine lv_iconst (v := 1) hx hb dL_law_1960 (by decide) ?_
  refine lv_iadd hx hb dL_law_1961 ?_
  refine va_sld hx hb hX hbl hbA hw.2.2.2.2 (hin 1 (by decide) (by decide)) dL_law_1962 ?_
  refine lv_aload_n hx hb dL_law_1963 rfl (lv_at hl 0 rfl) ?_
  refine lv_iload hx hb dL_law_1964 (lv_at hl 5 rfl) ?_
  refine lv_iconst (v := 2) hx hb dL_law_1966 (by decide) ?_
  refine lv_iadd hx hb dL_law_1967 ?_
  refine va_sld hx hb hX hbl hbA hw.2.2.2.2 (hin 2 (by decide) (by decide)) dL_law_1968 ?_
  refine lv_aload_n hx hb dL_law_1969 rfl (lv_at hl 3 rfl) ?_
  refine hc_W (n := 4) C hK hXf hNc hM hl.1 mw_5_47 mw_1_0 mw_5_46 mw_5_45 (by decide +kernel) hw.1 hw.2.2.1 hw.2.2.2.2 f1 ⟨rfl, rfl⟩ ⟨Nat.le_of_ble_eq_true rfl, Nat.le_of_ble_eq_true rfl⟩ rfl rfl (Nat.le_of_ble_eq_true rfl) dL_law_1970 hroom (fun H1 locs1 hP1 hO1 hS1 hz1 hk1 => ?_)
  have hw := hw.wrap hD hP1 hO1 hS1 hk1
  refine lv_istore (lv' := [(6, .int k), (0, .ref b), (1, .ref (ad 0)), (2, .ref (am 0)), (3, .ref ao), (4, .ref ao2), (5, .int x5)]) hx hb dL_law_1973 hl (by decide) rfl (fun ls hl => ?_)
  refine lv_aload_n hx hb dL_law_1975 rfl (lv_at hl 3 rfl) ?_
  refine lv_aload_n hx hb dL_law_1976 rfl (lv_at hl 1 rfl) ?_
  refine lv_iload hx hb dL_law_1977 (lv_at hl 6 rfl) ?_
  refine lv_iconst (v := 1) hx hb dL_law_1979 (by decide) ?_
  refine lv_iadd hx hb dL_law_1980 ?_
  refine va_sld hx hb hX hbl hbA hw.2.2.2.2 (hin 1 (by decide) (by decide)) dL_law_1981 ?_
  refine lv_aload_n hx hb dL_law_1982 rfl (lv_at hl 1 rfl) ?_
  refine lv_iload hx hb dL_law_1983 (lv_at hl 6 rfl) ?_
  refine lv_iconst (v := 2) hx hb dL_law_1985 (by decide) ?_
  refine lv_iadd hx hb dL_law_1986 ?_
  refine va_sld hx hb hX hbl hbA hw.2.2.2.2 (hin 2 (by decide) (by decide)) dL_law_1987 ?_
  refine hc_VF (n := 2) (As := [.int (xs (x5 + 1).toNatClampNeg), .int (xs (x5 + 2).toNatClampNeg)]) (rest := []) C hK (c_X10_obstacle l D ct am (FM am) hD.2.1 (xs (x5 + 1).toNatClampNeg) (xs (x5 + 2).toNatClampNeg) T v T' hfm) hl.1 cp_X10_obstacle mw_7_60 (rc_X10 hK hw.2.1) hw.2.1 hw.2.2.2.2 f3 ⟨rfl, rfl⟩ ⟨Nat.le_of_ble_eq_true rfl, Nat.le_of_ble_eq_true rfl⟩ rfl rfl (Nat.le_of_ble_eq_true rfl) dL_law_1988 ⟨hroom.1, hroom.2⟩ (fun H1 locs1 hP1 hS1 hz1 hk1 => ?_)
  have hw := hw.model hD hP1 hS1 hk1
  refine lv_istore (lv' := [(7, .int v), (6, .int k), (0, .ref b), (1, .ref (ad 0)), (2, .ref (am 0)), (3, .ref ao), (4, .ref ao2), (5, .int x5)]) hx hb dL_law_1991 hl (by decide) rfl (fun ls hl => ?_)
  refine lv_aload_n hx hb dL_law_1993 rfl (lv_at hl 4 rfl) ?_
  refine hc_VF (n := 0) (As := []) (rest := []) C hK (c_X10_thrown l D ct am (FM am) hD.2.1 T' k hft) hl.1 cp_X10_thrown mw_6_5 (rc_X10 hK hw.2.1) hw.2.1 hw.2.2.2.2 f3 ⟨rfl, rfl⟩ ⟨Nat.le_of_ble_eq_true rfl, Nat.le_of_ble_eq_true rfl⟩ rfl rfl (Nat.le_of_ble_eq_true rfl) dL_law_1994 ⟨hroom.1, hroom.2⟩ (fun H1 locs1 hP1 hS1 hz1 hk1 => ?_)
  have hw := hw.model hD hP1 hS1 hk1
  refine lv_iload hx hb dL_law_1997 (lv_at hl 1 rfl) ?_
  refine lv_icmp_eq (tgt := 2004) hx hb dL_law_1999 (by decide) (fun _ => ?_) (fun q => absurd rfl q)
  refine lv_iload hx hb dL_law_2004 (lv_at hl 1 rfl) ?_
  refine lv_if_ne (tgt := 2021) hx hb dL_law_2006 (by decide) (fun c1 => ?_) (fun c1 => ?_)
  · refine lv_goto (tgt := 2555) hx hb dL_law_2021 (by decide) ?_
    exact next _ _ _ _ _ _ _ hRel hw (lv_sub hl [2, 3, 4, 5, 6, 7] rfl)
  · refine lv_aload_n hx hb dL_law_2009 rfl (lv_at hl 5 rfl) ?_
    refine lv_iconst (v := 0) hx hb dL_law_2010 (by decide) ?_
    refine va_lald hx hb hK hw.2.2.1 0 1 rfl rfl (by unfold vp_in; decide) dL_law_2011 ?_
    refine lv_iload hx hb dL_law_2012 (lv_at hl 0 rfl) ?_
    refine lv_i2l hx hb dL_law_2014 rfl ?_
    refine W.lcmp hx hb dL_law_2015 ?_
    rw [show g' (Int32.toNatClampNeg 0) = Int32.toInt64 v from hans c1]
    refine lv_if_eq (tgt := 2021) hx hb dL_law_2016 (by decide) (fun _ => ?_) (fun q => absurd (lgc_self _) q)
    refine lv_goto (tgt := 2555) hx hb dL_law_2021 (by decide) ?_
    exact next _ _ _ _ _ _ _ hRel hw (lv_sub hl [2, 3, 4, 5, 6, 7] rfl)
set_option maxHeartbeats 4000000 in
theorem ca_setSize {p : Program} {l : Launch} {e : Env} {s : State} {m : MethodId} {below : List Frame} {meth : Method} {c : Code} {D : va_G} {ct : Nat → ClassId} {ad am : Nat → Nat} {ao ao2 b L : Nat} {xs : Nat → Int32} (hl0 : l.stackTraces = false) (C : Cx p c cL_law meth s m #[Value.ref b] RL (some .boolean) 9) (hX : va_X b L xs s s.heap) (hbl : b < s.heap.size) (hK : va_K D vwCl (tysW ct) s) (hXf : Xf (fun q => s.heap.size ≤ q) s) (hNc : Nc6 s) (hD : Ld ad am ao ao2 s) {S T : St} {g : Nat → Int64} {gd : Nat → UInt64} {H : Heap} {locs : List Loc} (hw : Lw D ct ad am ao ao2 s S T g gd H locs) (hRel : Rel S T) {x5 : Int32} (hin : ∀ j : Int32, 0 ≤ j → j ≤ 4 → vp_in (x5 + j) L) {cells slots : Nat} (hroom : cells + 1 ≤ room_1.cells ∧ slots + 6 ≤ room_1.slots) {Q : State → Prop}
    (next : ∀ (S' T' : St) (g' : Nat → Int64) (gd' : Nat → UInt64) (H' : Heap) (locs' : List Loc) (ls' : Array Slot), Rel S' T' → Lw D ct ad am ao ao2 s S' T' g' gd' H' locs' → lv_has ls' 9 [(0, .ref b), (1, .ref (ad 0)), (2, .ref (am 0)), (3, .ref ao), (4, .ref ao2), (5, .int x5)] → W p l e room_1 s m #[Value.ref b] below meth c H' locs' (cells + 1) (slots + 6) Q (F0 m 2555 ls' [])) {ls : Array Slot} (hl : lv_has ls 9 [(0, .ref b), (1, .ref (ad 0)), (2, .ref (am 0)), (3, .ref ao), (4, .ref ao2), (5, .int x5)]) : W p l e room_1 s m #[Value.ref b] below meth c H locs cells slots Q (F0 m 2024 ls []) := by
  obtain ⟨hx, hb, hr, hml, hown, htL, hlocks⟩ := id C
  have hbA : ¬ (fun q : Nat => s.heap.size ≤ q) b := Nat.not_le.mpr hbl
  obtain ⟨f1, f2, f3, f4⟩ := hD.fl
  obtain ⟨S', T', v, k, g', hM, hfm, hft, hRel, hans⟩ := wr_setSize l hl0 D ct ad ao hD.1 hD.2.2.1 (xs (x5 + 1).toNatClampNeg) hRel g
  refine lv_aload_n hx hb dL_law_2024 rfl (lv_at hl 1 rfl) ?_
  refine lv_aload_n hx hb dL_law_2025 rfl (lv_at hl 0 rfl) ?_
  refine lv_iload hx hb dL_law_2026 (lv_at hl 5 rfl) ?_
  refine lv_iconst (v := 1) hx hb dL_law_2028 (by decide) ?_
  refine lv_iadd hx hb dL_law_2029 ?_
  refine va_sld hx hb hX hbl hbA hw.2.2.2.2 (hin 1 (by decide) (by decide)) dL_law_2030 ?_
  refine lv_aload_n hx hb dL_law_2031 rfl (lv_at hl 3 rfl) ?_
  refine hc_W (n := 3) C hK hXf hNc hM hl.1 mw_5_61 mw_1_0 mw_5_60 mw_5_59 (by decide +kernel) hw.1 hw.2.2.1 hw.2.2.2.2 f1 ⟨rfl, rfl⟩ ⟨Nat.le_of_ble_eq_true rfl, Nat.le_of_ble_eq_true rfl⟩ rfl rfl (Nat.le_of_ble_eq_true rfl) dL_law_2032 hroom (fun H1 locs1 hP1 hO1 hS1 hz1 hk1 => ?_)
  have hw := hw.wrap hD hP1 hO1 hS1 hk1
  refine lv_istore (lv' := [(6, .int k), (0, .ref b), (1, .ref (ad 0)), (2, .ref (am 0)), (3, .ref ao), (4, .ref ao2), (5, .int x5)]) hx hb dL_law_2035 hl (by decide) rfl (fun ls hl => ?_)
  refine lv_aload_n hx hb dL_law_2037 rfl (lv_at hl 3 rfl) ?_
  refine lv_aload_n hx hb dL_law_2038 rfl (lv_at hl 1 rfl) ?_
  refine lv_iload hx hb dL_law_2039 (lv_at hl 6 rfl) ?_
  refine lv_iconst (v := 1) hx hb dL_law_2041 (by decide) ?_
  refine lv_iadd hx hb dL_law_2042 ?_
  refine va_sld hx hb hX hbl hbA hw.2.2.2.2 (hin 1 (by decide) (by decide)) dL_law_2043 ?_
  refine hc_VF (n := 1) (As := [.int (xs (x5 + 1).toNatClampNeg)]) (rest := []) C hK (c_X10_setSize l D ct am (FM am) hD.2.1 (xs (x5 + 1).toNatClampNeg) T v T' hfm) hl.1 cp_X10_setSize mw_7_64 (rc_X10 hK hw.2.1) hw.2.1 hw.2.2.2.2 f3 ⟨rfl, rfl⟩ ⟨Nat.le_of_ble_eq_true rfl, Nat.le_of_ble_eq_true rfl⟩ rfl rfl (Nat.le_of_ble_eq_true rfl) dL_law_2044 ⟨hroom.1, hroom.2⟩ (fun H1 locs1 hP1 hS1 hz1 hk1 => ?_)
  have hw := hw.model hD hP1 hS1 hk1
  refine lv_istore (lv' := [(7, .int v), (6, .int k), (0, .ref b), (1, .ref (ad 0)), (2, .ref (am 0)), (3, .ref ao), (4, .ref ao2), (5, .int x5)]) hx hb dL_law_2047 hl (by decide) rfl (fun ls hl => ?_)
  refine lv_aload_n hx hb dL_law_2049 rfl (lv_at hl 4 rfl) ?_
  refine hc_VF (n := 0) (As := []) (rest := []) C hK (c_X10_thrown l D ct am (FM am) hD.2.1 T' k hft) hl.1 cp_X10_thrown mw_6_5 (rc_X10 hK hw.2.1) hw.2.1 hw.2.2.2.2 f3 ⟨rfl, rfl⟩ ⟨Nat.le_of_ble_eq_true rfl, Nat.le_of_ble_eq_true rfl⟩ rfl rfl (Nat.le_of_ble_eq_true rfl) dL_law_2050 ⟨hroom.1, hroom.2⟩ (fun H1 locs1 hP1 hS1 hz1 hk1 => ?_)
  have hw := hw.model hD hP1 hS1 hk1
  refine lv_iload hx hb dL_law_2053 (lv_at hl 1 rfl) ?_
  refine lv_icmp_eq (tgt := 2060) hx hb dL_law_2055 (by decide) (fun _ => ?_) (fun q => absurd rfl q)
  refine lv_iload hx hb dL_law_2060 (lv_at hl 1 rfl) ?_
  refine lv_if_ne (tgt := 2077) hx hb dL_law_2062 (by decide) (fun c1 => ?_) (fun c1 => ?_)
  · refine lv_goto (tgt := 2555) hx hb dL_law_2077 (by decide) ?_
    exact next _ _ _ _ _ _ _ hRel hw (lv_sub hl [2, 3, 4, 5, 6, 7] rfl)
  · refine lv_aload_n hx hb dL_law_2065 rfl (lv_at hl 5 rfl) ?_
    refine lv_iconst (v := 0) hx hb dL_law_2066 (by decide) ?_
    refine va_lald hx hb hK hw.2.2.1 0 1 rfl rfl (by unfold vp_in; decide) dL_law_2067 ?_
    refine lv_iload hx hb dL_law_2068 (lv_at hl 0 rfl) ?_
    refine lv_i2l hx hb dL_law_2070 rfl ?_
    refine W.lcmp hx hb dL_law_2071 ?_
    rw [show g' (Int32.toNatClampNeg 0) = Int32.toInt64 v from hans c1]
    refine lv_if_eq (tgt := 2077) hx hb dL_law_2072 (by decide) (fun _ => ?_) (fun q => absurd (lgc_self _) q)
    refine lv_goto (tgt := 2555) hx hb dL_law_2077 (by decide) ?_
    exact next _ _ _ _ _ _ _ hRel hw (lv_sub hl [2, 3, 4, 5, 6, 7] rfl)
set_option maxHeartbeats 4000000 in
theorem ca_setEntry {p : Program} {l : Launch} {e : Env} {s : State} {m : MethodId} {below : List Frame} {meth : Method} {c : Code} {D : va_G} {ct : Nat → ClassId} {ad am : Nat → Nat} {ao ao2 b L : Nat} {xs : Nat → Int32} (hl0 : l.stackTraces = false) (C : Cx p c cL_law meth s m #[Value.ref b] RL (some .boolean) 9) (hX : va_X b L xs s s.heap) (hbl : b < s.heap.size) (hK : va_K D vwCl (tysW ct) s) (hXf : Xf (fun q => s.heap.size ≤ q) s) (hNc : Nc6 s) (hD : Ld ad am ao ao2 s) {S T : St} {g : Nat → Int64} {gd : Nat → UInt64} {H : Heap} {locs : List Loc} (hw : Lw D ct ad am ao ao2 s S T g gd H locs) (hRel : Rel S T) {x5 : Int32} (hin : ∀ j : Int32, 0 ≤ j → j ≤ 4 → vp_in (x5 + j) L) {cells slots : Nat} (hroom : cells + 1 ≤ room_1.cells ∧ slots + 6 ≤ room_1.slots) {Q : State → Prop}
    (next : ∀ (S' T' : St) (g' : Nat → Int64) (gd' : Nat → UInt64) (H' : Heap) (locs' : List Loc) (ls' : Array Slot), Rel S' T' → Lw D ct ad am ao ao2 s S' T' g' gd' H' locs' → lv_has ls' 9 [(0, .ref b), (1, .ref (ad 0)), (2, .ref (am 0)), (3, .ref ao), (4, .ref ao2), (5, .int x5)] → W p l e room_1 s m #[Value.ref b] below meth c H' locs' (cells + 1) (slots + 6) Q (F0 m 2555 ls' [])) {ls : Array Slot} (hl : lv_has ls 9 [(0, .ref b), (1, .ref (ad 0)), (2, .ref (am 0)), (3, .ref ao), (4, .ref ao2), (5, .int x5)]) : W p l e room_1 s m #[Value.ref b] below meth c H locs cells slots Q (F0 m 2080 ls []) := by
  obtain ⟨hx, hb, hr, hml, hown, htL, hlocks⟩ := id C
  have hbA : ¬ (fun q : Nat => s.heap.size ≤ q) b := Nat.not_le.mpr hbl
  obtain ⟨f1, f2, f3, f4⟩ := hD.fl
  obtain ⟨S', T', v, k, g', hM, hfm, hft, hRel, hans⟩ := wr_setEntry l hl0 D ct ad ao hD.1 hD.2.2.1 (xs (x5 + 1).toNatClampNeg) (xs (x5 + 2).toNatClampNeg) (xs (x5 + 3).toNatClampNeg) hRel g
  refine lv_aload_n hx hb dL_law_2080 rfl (lv_at hl 1 rfl) ?_
  refine lv_aload_n hx hb dL_law_2081 rfl (lv_at hl 0 rfl) ?_
  refine lv_iload hx hb dL_law_2082 (lv_at hl 5 rfl) ?_
  refine lv_iconst (v := 1) hx hb dL_law_2084 (by decide) ?_
  refine lv_iadd hx hb dL_law_2085 ?_
  refine va_sld hx hb hX hbl hbA hw.2.2.2.2 (hin 1 (by decide) (by decide)) dL_law_2086 ?_
  refine lv_aload_n hx hb dL_law_2087 rfl (lv_at hl 0 rfl) ?_
  refine lv_iload hx hb dL_law_2088 (lv_at hl 5 rfl) ?_
  refine lv_iconst (v := 2) hx hb dL_law_2090 (by decide) ?_
  refine lv_iadd hx hb dL_law_2091 ?_
  refine va_sld hx hb hX hbl hbA hw.2.2.2.2 (hin 2 (by decide) (by decide)) dL_law_2092 ?_
  refine lv_aload_n hx hb dL_law_2093 rfl (lv_at hl 0 rfl) ?_
  refine lv_iload hx hb dL_law_2094 (lv_at hl 5 rfl) ?_
  refine lv_iconst (v := 3) hx hb dL_law_2096 (by decide) ?_
  refine lv_iadd hx hb dL_law_2097 ?_
  refine va_sld hx hb hX hbl hbA hw.2.2.2.2 (hin 3 (by decide) (by decide)) dL_law_2098 ?_
  refine lv_aload_n hx hb dL_law_2099 rfl (lv_at hl 3 rfl) ?_
  refine hc_W (n := 5) C hK hXf hNc hM hl.1 mw_5_72 mw_1_0 mw_5_71 mw_5_70 (by decide +kernel) hw.1 hw.2.2.1 hw.2.2.2.2 f1 ⟨rfl, rfl⟩ ⟨Nat.le_of_ble_eq_true rfl, Nat.le_of_ble_eq_true rfl⟩ rfl rfl (Nat.le_of_ble_eq_true rfl) dL_law_2100 hroom (fun H1 locs1 hP1 hO1 hS1 hz1 hk1 => ?_)
  have hw := hw.wrap hD hP1 hO1 hS1 hk1
  refine lv_istore (lv' := [(6, .int k), (0, .ref b), (1, .ref (ad 0)), (2, .ref (am 0)), (3, .ref ao), (4, .ref ao2), (5, .int x5)]) hx hb dL_law_2103 hl (by decide) rfl (fun ls hl => ?_)
  refine lv_aload_n hx hb dL_law_2105 rfl (lv_at hl 3 rfl) ?_
  refine lv_aload_n hx hb dL_law_2106 rfl (lv_at hl 1 rfl) ?_
  refine lv_iload hx hb dL_law_2107 (lv_at hl 6 rfl) ?_
  refine lv_iconst (v := 1) hx hb dL_law_2109 (by decide) ?_
  refine lv_iadd hx hb dL_law_2110 ?_
  refine va_sld hx hb hX hbl hbA hw.2.2.2.2 (hin 1 (by decide) (by decide)) dL_law_2111 ?_
  refine lv_aload_n hx hb dL_law_2112 rfl (lv_at hl 1 rfl) ?_
  refine lv_iload hx hb dL_law_2113 (lv_at hl 6 rfl) ?_
  refine lv_iconst (v := 2) hx hb dL_law_2115 (by decide) ?_
  refine lv_iadd hx hb dL_law_2116 ?_
  refine va_sld hx hb hX hbl hbA hw.2.2.2.2 (hin 2 (by decide) (by decide)) dL_law_2117 ?_
  refine lv_aload_n hx hb dL_law_2118 rfl (lv_at hl 1 rfl) ?_
  refine lv_iload hx hb dL_law_2119 (lv_at hl 6 rfl) ?_
  refine lv_iconst (v := 3) hx hb dL_law_2121 (by decide) ?_
  refine lv_iadd hx hb dL_law_2122 ?_
  refine va_sld hx hb hX hbl hbA hw.2.2.2.2 (hin 3 (by decide) (by decide)) dL_law_2123 ?_
  refine hc_VF (n := 3) (As := [.int (xs (x5 + 1).toNatClampNeg), .int (xs (x5 + 2).toNatClampNeg), .int (xs (x5 + 3).toNatClampNeg)]) (rest := []) C hK (c_X10_setEntry l D ct am (FM am) hD.2.1 (xs (x5 + 1).toNatClampNeg) (xs (x5 + 2).toNatClampNeg) (xs (x5 + 3).toNatClampNeg) T v T' hfm) hl.1 cp_X10_setEntry mw_7_68 (rc_X10 hK hw.2.1) hw.2.1 hw.2.2.2.2 f3 ⟨rfl, rfl⟩ ⟨Nat.le_of_ble_eq_true rfl, Nat.le_of_ble_eq_true rfl⟩ rfl rfl (Nat.le_of_ble_eq_true rfl) dL_law_2124 ⟨hroom.1, hroom.2⟩ (fun H1 locs1 hP1 hS1 hz1 hk1 => ?_)
  have hw := hw.model hD hP1 hS1 hk1
  refine lv_istore (lv' := [(7, .int v), (6, .int k), (0, .ref b), (1, .ref (ad 0)), (2, .ref (am 0)), (3, .ref ao), (4, .ref ao2), (5, .int x5)]) hx hb dL_law_2127 hl (by decide) rfl (fun ls hl => ?_)
  refine lv_aload_n hx hb dL_law_2129 rfl (lv_at hl 4 rfl) ?_
  refine hc_VF (n := 0) (As := []) (rest := []) C hK (c_X10_thrown l D ct am (FM am) hD.2.1 T' k hft) hl.1 cp_X10_thrown mw_6_5 (rc_X10 hK hw.2.1) hw.2.1 hw.2.2.2.2 f3 ⟨rfl, rfl⟩ ⟨Nat.le_of_ble_eq_true rfl, Nat.le_of_ble_eq_true rfl⟩ rfl rfl (Nat.le_of_ble_eq_true rfl) dL_law_2130 ⟨hroom.1, hroom.2⟩ (fun H1 locs1 hP1 hS1 hz1 hk1 => ?_)
  have hw := hw.model hD hP1 hS1 hk1
  refine lv_iload hx hb dL_law_2133 (lv_at hl 1 rfl) ?_
  refine lv_icmp_eq (tgt := 2140) hx hb dL_law_2135 (by decide) (fun _ => ?_) (fun q => absurd rfl q)
  refine lv_iload hx hb dL_law_2140 (lv_at hl 1 rfl) ?_
  refine lv_if_ne (tgt := 2157) hx hb dL_law_2142 (by decide) (fun c1 => ?_) (fun c1 => ?_)
  · refine lv_goto (tgt := 2555) hx hb dL_law_2157 (by decide) ?_
    exact next _ _ _ _ _ _ _ hRel hw (lv_sub hl [2, 3, 4, 5, 6, 7] rfl)
  · refine lv_aload_n hx hb dL_law_2145 rfl (lv_at hl 5 rfl) ?_
    refine lv_iconst (v := 0) hx hb dL_law_2146 (by decide) ?_
    refine va_lald hx hb hK hw.2.2.1 0 1 rfl rfl (by unfold vp_in; decide) dL_law_2147 ?_
    refine lv_iload hx hb dL_law_2148 (lv_at hl 0 rfl) ?_
    refine lv_i2l hx hb dL_law_2150 rfl ?_
    refine W.lcmp hx hb dL_law_2151 ?_
    rw [show g' (Int32.toNatClampNeg 0) = Int32.toInt64 v from hans c1]
    refine lv_if_eq (tgt := 2157) hx hb dL_law_2152 (by decide) (fun _ => ?_) (fun q => absurd (lgc_self _) q)
    refine lv_goto (tgt := 2555) hx hb dL_law_2157 (by decide) ?_
    exact next _ _ _ _ _ _ _ hRel hw (lv_sub hl [2, 3, 4, 5, 6, 7] rfl)
set_option maxHeartbeats 4000000 in
theorem ca_determinant {p : Program} {l : Launch} {e : Env} {s : State} {m : MethodId} {below : List Frame} {meth : Method} {c : Code} {D : va_G} {ct : Nat → ClassId} {ad am : Nat → Nat} {ao ao2 b L : Nat} {xs : Nat → Int32} (hl0 : l.stackTraces = false) (C : Cx p c cL_law meth s m #[Value.ref b] RL (some .boolean) 9) (hX : va_X b L xs s s.heap) (hbl : b < s.heap.size) (hK : va_K D vwCl (tysW ct) s) (hXf : Xf (fun q => s.heap.size ≤ q) s) (hNc : Nc6 s) (hD : Ld ad am ao ao2 s) {S T : St} {g : Nat → Int64} {gd : Nat → UInt64} {H : Heap} {locs : List Loc} (hw : Lw D ct ad am ao ao2 s S T g gd H locs) (hRel : Rel S T) {x5 : Int32} (hin : ∀ j : Int32, 0 ≤ j → j ≤ 4 → vp_in (x5 + j) L) {cells slots : Nat} (hroom : cells + 1 ≤ room_1.cells ∧ slots + 6 ≤ room_1.slots) {Q : State → Prop}
    (next : ∀ (S' T' : St) (g' : Nat → Int64) (gd' : Nat → UInt64) (H' : Heap) (locs' : List Loc) (ls' : Array Slot), Rel S' T' → Lw D ct ad am ao ao2 s S' T' g' gd' H' locs' → lv_has ls' 9 [(0, .ref b), (1, .ref (ad 0)), (2, .ref (am 0)), (3, .ref ao), (4, .ref ao2), (5, .int x5)] → W p l e room_1 s m #[Value.ref b] below meth c H' locs' (cells + 1) (slots + 6) Q (F0 m 2555 ls' [])) {ls : Array Slot} (hl : lv_has ls 9 [(0, .ref b), (1, .ref (ad 0)), (2, .ref (am 0)), (3, .ref ao), (4, .ref ao2), (5, .int x5)]) : W p l e room_1 s m #[Value.ref b] below meth c H locs cells slots Q (F0 m 2160 ls []) := by
  obtain ⟨hx, hb, hr, hml, hown, htL, hlocks⟩ := id C
  have hbA : ¬ (fun q : Nat => s.heap.size ≤ q) b := Nat.not_le.mpr hbl
  obtain ⟨f1, f2, f3, f4⟩ := hD.fl
  obtain ⟨S', v, e1, e2, hRel⟩ := T_determinant hRel
  refine W.widen (k := cells + 1) (n := slots + 6) (by omega) (by omega) ?_
  refine lv_aload_n hx hb dL_law_2160 rfl (lv_at hl 1 rfl) ?_
  refine hc_VF (n := 0) (As := []) (rest := []) C hK (c_X9_determinant l D ct ad (FC ad) hD.1 S v S' e1) hl.1 cp_X9_determinant mw_1_223 (rc_X9 hK hw.1) hw.1 hw.2.2.2.2 f4 ⟨rfl, rfl⟩ ⟨Nat.le_of_ble_eq_true rfl, Nat.le_of_ble_eq_true rfl⟩ rfl rfl (Nat.le_of_ble_eq_true rfl) dL_law_2161 hroom (fun H1 locs1 hP1 hS1 hz1 hk1 => ?_)
  have hw := hw.classC hD hP1 hS1 hk1
  refine lv_aload_n hx hb dL_law_2164 rfl (lv_at hl 2 rfl) ?_
  refine hc_VF (n := 0) (As := []) (rest := [.long v]) C hK (c_X10_determinant l D ct am (FM am) hD.2.1 T v e2) hl.1 cp_X10_determinant mw_7_74 (rc_X10 hK hw.2.1) hw.2.1 hw.2.2.2.2 f3 ⟨rfl, rfl⟩ ⟨Nat.le_of_ble_eq_true rfl, Nat.le_of_ble_eq_true rfl⟩ rfl rfl (Nat.le_of_ble_eq_true rfl) dL_law_2165 hroom (fun H1 locs1 hP1 hS1 hz1 hk1 => ?_)
  have hw := hw.model hD hP1 hS1 hk1
  refine W.lcmp hx hb dL_law_2168 ?_
  refine lv_if_eq (tgt := 2555) hx hb dL_law_2169 (by decide) (fun _ => ?_) (fun q => absurd (lgc_self _) q)
  exact next _ _ _ _ _ _ _ hRel hw (lv_sub hl [0, 1, 2, 3, 4, 5] rfl)
set_option maxHeartbeats 4000000 in
theorem ca_rank {p : Program} {l : Launch} {e : Env} {s : State} {m : MethodId} {below : List Frame} {meth : Method} {c : Code} {D : va_G} {ct : Nat → ClassId} {ad am : Nat → Nat} {ao ao2 b L : Nat} {xs : Nat → Int32} (hl0 : l.stackTraces = false) (C : Cx p c cL_law meth s m #[Value.ref b] RL (some .boolean) 9) (hX : va_X b L xs s s.heap) (hbl : b < s.heap.size) (hK : va_K D vwCl (tysW ct) s) (hXf : Xf (fun q => s.heap.size ≤ q) s) (hNc : Nc6 s) (hD : Ld ad am ao ao2 s) {S T : St} {g : Nat → Int64} {gd : Nat → UInt64} {H : Heap} {locs : List Loc} (hw : Lw D ct ad am ao ao2 s S T g gd H locs) (hRel : Rel S T) {x5 : Int32} (hin : ∀ j : Int32, 0 ≤ j → j ≤ 4 → vp_in (x5 + j) L) {cells slots : Nat} (hroom : cells + 1 ≤ room_1.cells ∧ slots + 6 ≤ room_1.slots) {Q : State → Prop}
    (next : ∀ (S' T' : St) (g' : Nat → Int64) (gd' : Nat → UInt64) (H' : Heap) (locs' : List Loc) (ls' : Array Slot), Rel S' T' → Lw D ct ad am ao ao2 s S' T' g' gd' H' locs' → lv_has ls' 9 [(0, .ref b), (1, .ref (ad 0)), (2, .ref (am 0)), (3, .ref ao), (4, .ref ao2), (5, .int x5)] → W p l e room_1 s m #[Value.ref b] below meth c H' locs' (cells + 1) (slots + 6) Q (F0 m 2555 ls' [])) {ls : Array Slot} (hl : lv_has ls 9 [(0, .ref b), (1, .ref (ad 0)), (2, .ref (am 0)), (3, .ref ao), (4, .ref ao2), (5, .int x5)]) : W p l e room_1 s m #[Value.ref b] below meth c H locs cells slots Q (F0 m 2174 ls []) := by
  obtain ⟨hx, hb, hr, hml, hown, htL, hlocks⟩ := id C
  have hbA : ¬ (fun q : Nat => s.heap.size ≤ q) b := Nat.not_le.mpr hbl
  obtain ⟨f1, f2, f3, f4⟩ := hD.fl
  obtain ⟨S', v, e1, e2, hRel⟩ := T_rank hRel
  refine W.widen (k := cells + 1) (n := slots + 6) (by omega) (by omega) ?_
  refine lv_aload_n hx hb dL_law_2174 rfl (lv_at hl 1 rfl) ?_
  refine hc_VF (n := 0) (As := []) (rest := []) C hK (c_X9_rank l D ct ad (FC ad) hD.1 S v S' e1) hl.1 cp_X9_rank mw_2_16 (rc_X9 hK hw.1) hw.1 hw.2.2.2.2 f4 ⟨rfl, rfl⟩ ⟨Nat.le_of_ble_eq_true rfl, Nat.le_of_ble_eq_true rfl⟩ rfl rfl (Nat.le_of_ble_eq_true rfl) dL_law_2175 hroom (fun H1 locs1 hP1 hS1 hz1 hk1 => ?_)
  have hw := hw.classC hD hP1 hS1 hk1
  refine lv_aload_n hx hb dL_law_2178 rfl (lv_at hl 2 rfl) ?_
  refine hc_VF (n := 0) (As := []) (rest := [.int v]) C hK (c_X10_rank l D ct am (FM am) hD.2.1 T v e2) hl.1 cp_X10_rank mw_7_89 (rc_X10 hK hw.2.1) hw.2.1 hw.2.2.2.2 f3 ⟨rfl, rfl⟩ ⟨Nat.le_of_ble_eq_true rfl, Nat.le_of_ble_eq_true rfl⟩ rfl rfl (Nat.le_of_ble_eq_true rfl) dL_law_2179 hroom (fun H1 locs1 hP1 hS1 hz1 hk1 => ?_)
  have hw := hw.model hD hP1 hS1 hk1
  refine lv_icmp_eq (tgt := 2555) hx hb dL_law_2182 (by decide) (fun _ => ?_) (fun q => absurd rfl q)
  exact next _ _ _ _ _ _ _ hRel hw (lv_sub hl [0, 1, 2, 3, 4, 5] rfl)
set_option maxHeartbeats 4000000 in
theorem ca_shape {p : Program} {l : Launch} {e : Env} {s : State} {m : MethodId} {below : List Frame} {meth : Method} {c : Code} {D : va_G} {ct : Nat → ClassId} {ad am : Nat → Nat} {ao ao2 b L : Nat} {xs : Nat → Int32} (hl0 : l.stackTraces = false) (C : Cx p c cL_law meth s m #[Value.ref b] RL (some .boolean) 9) (hX : va_X b L xs s s.heap) (hbl : b < s.heap.size) (hK : va_K D vwCl (tysW ct) s) (hXf : Xf (fun q => s.heap.size ≤ q) s) (hNc : Nc6 s) (hD : Ld ad am ao ao2 s) {S T : St} {g : Nat → Int64} {gd : Nat → UInt64} {H : Heap} {locs : List Loc} (hw : Lw D ct ad am ao ao2 s S T g gd H locs) (hRel : Rel S T) {x5 : Int32} (hin : ∀ j : Int32, 0 ≤ j → j ≤ 4 → vp_in (x5 + j) L) {cells slots : Nat} (hroom : cells + 1 ≤ room_1.cells ∧ slots + 6 ≤ room_1.slots) {Q : State → Prop}
    (next : ∀ (S' T' : St) (g' : Nat → Int64) (gd' : Nat → UInt64) (H' : Heap) (locs' : List Loc) (ls' : Array Slot), Rel S' T' → Lw D ct ad am ao ao2 s S' T' g' gd' H' locs' → lv_has ls' 9 [(0, .ref b), (1, .ref (ad 0)), (2, .ref (am 0)), (3, .ref ao), (4, .ref ao2), (5, .int x5)] → W p l e room_1 s m #[Value.ref b] below meth c H' locs' (cells + 1) (slots + 6) Q (F0 m 2555 ls' [])) {ls : Array Slot} (hl : lv_has ls 9 [(0, .ref b), (1, .ref (ad 0)), (2, .ref (am 0)), (3, .ref ao), (4, .ref ao2), (5, .int x5)]) : W p l e room_1 s m #[Value.ref b] below meth c H locs cells slots Q (F0 m 2187 ls []) := by
  obtain ⟨hx, hb, hr, hml, hown, htL, hlocks⟩ := id C
  have hbA : ¬ (fun q : Nat => s.heap.size ≤ q) b := Nat.not_le.mpr hbl
  obtain ⟨f1, f2, f3, f4⟩ := hD.fl
  obtain ⟨S', T', v, k, g', hM, hfm, hft, hRel, hans⟩ := wr_shape l hl0 D ct ad ao hD.1 hD.2.2.1 (xs (x5 + 1).toNatClampNeg) hRel g
  refine lv_aload_n hx hb dL_law_2187 rfl (lv_at hl 1 rfl) ?_
  refine lv_aload_n hx hb dL_law_2188 rfl (lv_at hl 0 rfl) ?_
  refine lv_iload hx hb dL_law_2189 (lv_at hl 5 rfl) ?_
  refine lv_iconst (v := 1) hx hb dL_law_2191 (by decide) ?_
  refine lv_iadd hx hb dL_law_2192 ?_
  refine va_sld hx hb hX hbl hbA hw.2.2.2.2 (hin 1 (by decide) (by decide)) dL_law_2193 ?_
  refine lv_aload_n hx hb dL_law_2194 rfl (lv_at hl 3 rfl) ?_
  refine hc_W (n := 3) C hK hXf hNc hM hl.1 mw_5_88 mw_1_0 mw_5_87 mw_5_86 (by decide +kernel) hw.1 hw.2.2.1 hw.2.2.2.2 f1 ⟨rfl, rfl⟩ ⟨Nat.le_of_ble_eq_true rfl, Nat.le_of_ble_eq_true rfl⟩ rfl rfl (Nat.le_of_ble_eq_true rfl) dL_law_2195 hroom (fun H1 locs1 hP1 hO1 hS1 hz1 hk1 => ?_)
  have hw := hw.wrap hD hP1 hO1 hS1 hk1
  refine lv_istore (lv' := [(6, .int k), (0, .ref b), (1, .ref (ad 0)), (2, .ref (am 0)), (3, .ref ao), (4, .ref ao2), (5, .int x5)]) hx hb dL_law_2198 hl (by decide) rfl (fun ls hl => ?_)
  refine lv_aload_n hx hb dL_law_2200 rfl (lv_at hl 3 rfl) ?_
  refine lv_aload_n hx hb dL_law_2201 rfl (lv_at hl 1 rfl) ?_
  refine lv_iload hx hb dL_law_2202 (lv_at hl 6 rfl) ?_
  refine lv_iconst (v := 1) hx hb dL_law_2204 (by decide) ?_
  refine lv_iadd hx hb dL_law_2205 ?_
  refine va_sld hx hb hX hbl hbA hw.2.2.2.2 (hin 1 (by decide) (by decide)) dL_law_2206 ?_
  refine hc_VF (n := 1) (As := [.int (xs (x5 + 1).toNatClampNeg)]) (rest := []) C hK (c_X10_shape l D ct am (FM am) hD.2.1 (xs (x5 + 1).toNatClampNeg) T v T' hfm) hl.1 cp_X10_shape mw_7_101 (rc_X10 hK hw.2.1) hw.2.1 hw.2.2.2.2 f3 ⟨rfl, rfl⟩ ⟨Nat.le_of_ble_eq_true rfl, Nat.le_of_ble_eq_true rfl⟩ rfl rfl (Nat.le_of_ble_eq_true rfl) dL_law_2207 ⟨hroom.1, hroom.2⟩ (fun H1 locs1 hP1 hS1 hz1 hk1 => ?_)
  have hw := hw.model hD hP1 hS1 hk1
  refine lv_istore (lv' := [(7, .int v), (6, .int k), (0, .ref b), (1, .ref (ad 0)), (2, .ref (am 0)), (3, .ref ao), (4, .ref ao2), (5, .int x5)]) hx hb dL_law_2210 hl (by decide) rfl (fun ls hl => ?_)
  refine lv_aload_n hx hb dL_law_2212 rfl (lv_at hl 4 rfl) ?_
  refine hc_VF (n := 0) (As := []) (rest := []) C hK (c_X10_thrown l D ct am (FM am) hD.2.1 T' k hft) hl.1 cp_X10_thrown mw_6_5 (rc_X10 hK hw.2.1) hw.2.1 hw.2.2.2.2 f3 ⟨rfl, rfl⟩ ⟨Nat.le_of_ble_eq_true rfl, Nat.le_of_ble_eq_true rfl⟩ rfl rfl (Nat.le_of_ble_eq_true rfl) dL_law_2213 ⟨hroom.1, hroom.2⟩ (fun H1 locs1 hP1 hS1 hz1 hk1 => ?_)
  have hw := hw.model hD hP1 hS1 hk1
  refine lv_iload hx hb dL_law_2216 (lv_at hl 1 rfl) ?_
  refine lv_icmp_eq (tgt := 2223) hx hb dL_law_2218 (by decide) (fun _ => ?_) (fun q => absurd rfl q)
  refine lv_iload hx hb dL_law_2223 (lv_at hl 1 rfl) ?_
  refine lv_if_ne (tgt := 2240) hx hb dL_law_2225 (by decide) (fun c1 => ?_) (fun c1 => ?_)
  · refine lv_goto (tgt := 2555) hx hb dL_law_2240 (by decide) ?_
    exact next _ _ _ _ _ _ _ hRel hw (lv_sub hl [2, 3, 4, 5, 6, 7] rfl)
  · refine lv_aload_n hx hb dL_law_2228 rfl (lv_at hl 5 rfl) ?_
    refine lv_iconst (v := 0) hx hb dL_law_2229 (by decide) ?_
    refine va_lald hx hb hK hw.2.2.1 0 1 rfl rfl (by unfold vp_in; decide) dL_law_2230 ?_
    refine lv_iload hx hb dL_law_2231 (lv_at hl 0 rfl) ?_
    refine lv_i2l hx hb dL_law_2233 rfl ?_
    refine W.lcmp hx hb dL_law_2234 ?_
    rw [show g' (Int32.toNatClampNeg 0) = Int32.toInt64 v from hans c1]
    refine lv_if_eq (tgt := 2240) hx hb dL_law_2235 (by decide) (fun _ => ?_) (fun q => absurd (lgc_self _) q)
    refine lv_goto (tgt := 2555) hx hb dL_law_2240 (by decide) ?_
    exact next _ _ _ _ _ _ _ hRel hw (lv_sub hl [2, 3, 4, 5, 6, 7] rfl)
set_option maxHeartbeats 4000000 in
theorem ca_value {p : Program} {l : Launch} {e : Env} {s : State} {m : MethodId} {below : List Frame} {meth : Method} {c : Code} {D : va_G} {ct : Nat → ClassId} {ad am : Nat → Nat} {ao ao2 b L : Nat} {xs : Nat → Int32} (hl0 : l.stackTraces = false) (C : Cx p c cL_law meth s m #[Value.ref b] RL (some .boolean) 9) (hX : va_X b L xs s s.heap) (hbl : b < s.heap.size) (hK : va_K D vwCl (tysW ct) s) (hXf : Xf (fun q => s.heap.size ≤ q) s) (hNc : Nc6 s) (hD : Ld ad am ao ao2 s) {S T : St} {g : Nat → Int64} {gd : Nat → UInt64} {H : Heap} {locs : List Loc} (hw : Lw D ct ad am ao ao2 s S T g gd H locs) (hRel : Rel S T) {x5 : Int32} (hin : ∀ j : Int32, 0 ≤ j → j ≤ 4 → vp_in (x5 + j) L) {cells slots : Nat} (hroom : cells + 1 ≤ room_1.cells ∧ slots + 6 ≤ room_1.slots) {Q : State → Prop}
    (next : ∀ (S' T' : St) (g' : Nat → Int64) (gd' : Nat → UInt64) (H' : Heap) (locs' : List Loc) (ls' : Array Slot), Rel S' T' → Lw D ct ad am ao ao2 s S' T' g' gd' H' locs' → lv_has ls' 9 [(0, .ref b), (1, .ref (ad 0)), (2, .ref (am 0)), (3, .ref ao), (4, .ref ao2), (5, .int x5)] → W p l e room_1 s m #[Value.ref b] below meth c H' locs' (cells + 1) (slots + 6) Q (F0 m 2555 ls' [])) {ls : Array Slot} (hl : lv_has ls 9 [(0, .ref b), (1, .ref (ad 0)), (2, .ref (am 0)), (3, .ref ao), (4, .ref ao2), (5, .int x5)]) : W p l e room_1 s m #[Value.ref b] below meth c H locs cells slots Q (F0 m 2243 ls []) := by
  obtain ⟨hx, hb, hr, hml, hown, htL, hlocks⟩ := id C
  have hbA : ¬ (fun q : Nat => s.heap.size ≤ q) b := Nat.not_le.mpr hbl
  obtain ⟨f1, f2, f3, f4⟩ := hD.fl
  obtain ⟨S', T', v, k, g', hM, hfm, hft, hRel, hans⟩ := wr_value l hl0 D ct ad ao hD.1 hD.2.2.1 (xs (x5 + 1).toNatClampNeg) hRel g
  refine lv_aload_n hx hb dL_law_2243 rfl (lv_at hl 1 rfl) ?_
  refine lv_aload_n hx hb dL_law_2244 rfl (lv_at hl 0 rfl) ?_
  refine lv_iload hx hb dL_law_2245 (lv_at hl 5 rfl) ?_
  refine lv_iconst (v := 1) hx hb dL_law_2247 (by decide) ?_
  refine lv_iadd hx hb dL_law_2248 ?_
  refine va_sld hx hb hX hbl hbA hw.2.2.2.2 (hin 1 (by decide) (by decide)) dL_law_2249 ?_
  refine lv_aload_n hx hb dL_law_2250 rfl (lv_at hl 3 rfl) ?_
  refine hc_W (n := 3) C hK hXf hNc hM hl.1 mw_5_97 mw_1_0 mw_5_96 mw_5_95 (by decide +kernel) hw.1 hw.2.2.1 hw.2.2.2.2 f1 ⟨rfl, rfl⟩ ⟨Nat.le_of_ble_eq_true rfl, Nat.le_of_ble_eq_true rfl⟩ rfl rfl (Nat.le_of_ble_eq_true rfl) dL_law_2251 hroom (fun H1 locs1 hP1 hO1 hS1 hz1 hk1 => ?_)
  have hw := hw.wrap hD hP1 hO1 hS1 hk1
  refine lv_istore (lv' := [(6, .int k), (0, .ref b), (1, .ref (ad 0)), (2, .ref (am 0)), (3, .ref ao), (4, .ref ao2), (5, .int x5)]) hx hb dL_law_2254 hl (by decide) rfl (fun ls hl => ?_)
  refine lv_aload_n hx hb dL_law_2256 rfl (lv_at hl 3 rfl) ?_
  refine lv_aload_n hx hb dL_law_2257 rfl (lv_at hl 1 rfl) ?_
  refine lv_iload hx hb dL_law_2258 (lv_at hl 6 rfl) ?_
  refine lv_iconst (v := 1) hx hb dL_law_2260 (by decide) ?_
  refine lv_iadd hx hb dL_law_2261 ?_
  refine va_sld hx hb hX hbl hbA hw.2.2.2.2 (hin 1 (by decide) (by decide)) dL_law_2262 ?_
  refine hc_VF (n := 1) (As := [.int (xs (x5 + 1).toNatClampNeg)]) (rest := []) C hK (c_X10_value l D ct am (FM am) hD.2.1 (xs (x5 + 1).toNatClampNeg) T v T' hfm) hl.1 cp_X10_value mw_7_105 (rc_X10 hK hw.2.1) hw.2.1 hw.2.2.2.2 f3 ⟨rfl, rfl⟩ ⟨Nat.le_of_ble_eq_true rfl, Nat.le_of_ble_eq_true rfl⟩ rfl rfl (Nat.le_of_ble_eq_true rfl) dL_law_2263 ⟨hroom.1, hroom.2⟩ (fun H1 locs1 hP1 hS1 hz1 hk1 => ?_)
  have hw := hw.model hD hP1 hS1 hk1
  refine lv_istore (lv' := [(7, .int v), (6, .int k), (0, .ref b), (1, .ref (ad 0)), (2, .ref (am 0)), (3, .ref ao), (4, .ref ao2), (5, .int x5)]) hx hb dL_law_2266 hl (by decide) rfl (fun ls hl => ?_)
  refine lv_aload_n hx hb dL_law_2268 rfl (lv_at hl 4 rfl) ?_
  refine hc_VF (n := 0) (As := []) (rest := []) C hK (c_X10_thrown l D ct am (FM am) hD.2.1 T' k hft) hl.1 cp_X10_thrown mw_6_5 (rc_X10 hK hw.2.1) hw.2.1 hw.2.2.2.2 f3 ⟨rfl, rfl⟩ ⟨Nat.le_of_ble_eq_true rfl, Nat.le_of_ble_eq_true rfl⟩ rfl rfl (Nat.le_of_ble_eq_true rfl) dL_law_2269 ⟨hroom.1, hroom.2⟩ (fun H1 locs1 hP1 hS1 hz1 hk1 => ?_)
  have hw := hw.model hD hP1 hS1 hk1
  refine lv_iload hx hb dL_law_2272 (lv_at hl 1 rfl) ?_
  refine lv_icmp_eq (tgt := 2279) hx hb dL_law_2274 (by decide) (fun _ => ?_) (fun q => absurd rfl q)
  refine lv_iload hx hb dL_law_2279 (lv_at hl 1 rfl) ?_
  refine lv_if_ne (tgt := 2296) hx hb dL_law_2281 (by decide) (fun c1 => ?_) (fun c1 => ?_)
  · refine lv_goto (tgt := 2555) hx hb dL_law_2296 (by decide) ?_
    exact next _ _ _ _ _ _ _ hRel hw (lv_sub hl [2, 3, 4, 5, 6, 7] rfl)
  · refine lv_aload_n hx hb dL_law_2284 rfl (lv_at hl 5 rfl) ?_
    refine lv_iconst (v := 0) hx hb dL_law_2285 (by decide) ?_
    refine va_lald hx hb hK hw.2.2.1 0 1 rfl rfl (by unfold vp_in; decide) dL_law_2286 ?_
    refine lv_iload hx hb dL_law_2287 (lv_at hl 0 rfl) ?_
    refine lv_i2l hx hb dL_law_2289 rfl ?_
    refine W.lcmp hx hb dL_law_2290 ?_
    rw [show g' (Int32.toNatClampNeg 0) = Int32.toInt64 v from hans c1]
    refine lv_if_eq (tgt := 2296) hx hb dL_law_2291 (by decide) (fun _ => ?_) (fun q => absurd (lgc_self _) q)
    refine lv_goto (tgt := 2555) hx hb dL_law_2296 (by decide) ?_
    exact next _ _ _ _ _ _ _ hRel hw (lv_sub hl [2, 3, 4, 5, 6, 7] rfl)
set_option maxHeartbeats 4000000 in
theorem ca_difference {p : Program} {l : Launch} {e : Env} {s : State} {m : MethodId} {below : List Frame} {meth : Method} {c : Code} {D : va_G} {ct : Nat → ClassId} {ad am : Nat → Nat} {ao ao2 b L : Nat} {xs : Nat → Int32} (hl0 : l.stackTraces = false) (C : Cx p c cL_law meth s m #[Value.ref b] RL (some .boolean) 9) (hX : va_X b L xs s s.heap) (hbl : b < s.heap.size) (hK : va_K D vwCl (tysW ct) s) (hXf : Xf (fun q => s.heap.size ≤ q) s) (hNc : Nc6 s) (hD : Ld ad am ao ao2 s) {S T : St} {g : Nat → Int64} {gd : Nat → UInt64} {H : Heap} {locs : List Loc} (hw : Lw D ct ad am ao ao2 s S T g gd H locs) (hRel : Rel S T) {x5 : Int32} (hin : ∀ j : Int32, 0 ≤ j → j ≤ 4 → vp_in (x5 + j) L) {cells slots : Nat} (hroom : cells + 1 ≤ room_1.cells ∧ slots + 6 ≤ room_1.slots) {Q : State → Prop}
    (next : ∀ (S' T' : St) (g' : Nat → Int64) (gd' : Nat → UInt64) (H' : Heap) (locs' : List Loc) (ls' : Array Slot), Rel S' T' → Lw D ct ad am ao ao2 s S' T' g' gd' H' locs' → lv_has ls' 9 [(0, .ref b), (1, .ref (ad 0)), (2, .ref (am 0)), (3, .ref ao), (4, .ref ao2), (5, .int x5)] → W p l e room_1 s m #[Value.ref b] below meth c H' locs' (cells + 1) (slots + 6) Q (F0 m 2555 ls' [])) {ls : Array Slot} (hl : lv_has ls 9 [(0, .ref b), (1, .ref (ad 0)), (2, .ref (am 0)), (3, .ref ao), (4, .ref ao2), (5, .int x5)]) : W p l e room_1 s m #[Value.ref b] below meth c H locs cells slots Q (F0 m 2299 ls []) := by
  obtain ⟨hx, hb, hr, hml, hown, htL, hlocks⟩ := id C
  have hbA : ¬ (fun q : Nat => s.heap.size ≤ q) b := Nat.not_le.mpr hbl
  obtain ⟨f1, f2, f3, f4⟩ := hD.fl
  obtain ⟨S', T', v, k, g', hM, hfm, hft, hRel, hans⟩ := wr_difference l hl0 D ct ad ao hD.1 hD.2.2.1 (xs (x5 + 1).toNatClampNeg) hRel g
  refine lv_aload_n hx hb dL_law_2299 rfl (lv_at hl 1 rfl) ?_
  refine lv_aload_n hx hb dL_law_2300 rfl (lv_at hl 0 rfl) ?_
  refine lv_iload hx hb dL_law_2301 (lv_at hl 5 rfl) ?_
  refine lv_iconst (v := 1) hx hb dL_law_2303 (by decide) ?_
  refine lv_iadd hx hb dL_law_2304 ?_
  refine va_sld hx hb hX hbl hbA hw.2.2.2.2 (hin 1 (by decide) (by decide)) dL_law_2305 ?_
  refine lv_aload_n hx hb dL_law_2306 rfl (lv_at hl 3 rfl) ?_
  refine hc_W (n := 3) C hK hXf hNc hM hl.1 mw_5_113 mw_1_0 mw_5_112 mw_5_111 (by decide +kernel) hw.1 hw.2.2.1 hw.2.2.2.2 f1 ⟨rfl, rfl⟩ ⟨Nat.le_of_ble_eq_true rfl, Nat.le_of_ble_eq_true rfl⟩ rfl rfl (Nat.le_of_ble_eq_true rfl) dL_law_2307 hroom (fun H1 locs1 hP1 hO1 hS1 hz1 hk1 => ?_)
  have hw := hw.wrap hD hP1 hO1 hS1 hk1
  refine lv_istore (lv' := [(6, .int k), (0, .ref b), (1, .ref (ad 0)), (2, .ref (am 0)), (3, .ref ao), (4, .ref ao2), (5, .int x5)]) hx hb dL_law_2310 hl (by decide) rfl (fun ls hl => ?_)
  refine lv_aload_n hx hb dL_law_2312 rfl (lv_at hl 3 rfl) ?_
  refine lv_aload_n hx hb dL_law_2313 rfl (lv_at hl 1 rfl) ?_
  refine lv_iload hx hb dL_law_2314 (lv_at hl 6 rfl) ?_
  refine lv_iconst (v := 1) hx hb dL_law_2316 (by decide) ?_
  refine lv_iadd hx hb dL_law_2317 ?_
  refine va_sld hx hb hX hbl hbA hw.2.2.2.2 (hin 1 (by decide) (by decide)) dL_law_2318 ?_
  refine hc_VF (n := 1) (As := [.int (xs (x5 + 1).toNatClampNeg)]) (rest := []) C hK (c_X10_difference l D ct am (FM am) hD.2.1 (xs (x5 + 1).toNatClampNeg) T v T' hfm) hl.1 cp_X10_difference mw_7_109 (rc_X10 hK hw.2.1) hw.2.1 hw.2.2.2.2 f3 ⟨rfl, rfl⟩ ⟨Nat.le_of_ble_eq_true rfl, Nat.le_of_ble_eq_true rfl⟩ rfl rfl (Nat.le_of_ble_eq_true rfl) dL_law_2319 ⟨hroom.1, hroom.2⟩ (fun H1 locs1 hP1 hS1 hz1 hk1 => ?_)
  have hw := hw.model hD hP1 hS1 hk1
  refine lv_istore (lv' := [(7, .int v), (6, .int k), (0, .ref b), (1, .ref (ad 0)), (2, .ref (am 0)), (3, .ref ao), (4, .ref ao2), (5, .int x5)]) hx hb dL_law_2322 hl (by decide) rfl (fun ls hl => ?_)
  refine lv_aload_n hx hb dL_law_2324 rfl (lv_at hl 4 rfl) ?_
  refine hc_VF (n := 0) (As := []) (rest := []) C hK (c_X10_thrown l D ct am (FM am) hD.2.1 T' k hft) hl.1 cp_X10_thrown mw_6_5 (rc_X10 hK hw.2.1) hw.2.1 hw.2.2.2.2 f3 ⟨rfl, rfl⟩ ⟨Nat.le_of_ble_eq_true rfl, Nat.le_of_ble_eq_true rfl⟩ rfl rfl (Nat.le_of_ble_eq_true rfl) dL_law_2325 ⟨hroom.1, hroom.2⟩ (fun H1 locs1 hP1 hS1 hz1 hk1 => ?_)
  have hw := hw.model hD hP1 hS1 hk1
  refine lv_iload hx hb dL_law_2328 (lv_at hl 1 rfl) ?_
  refine lv_icmp_eq (tgt := 2335) hx hb dL_law_2330 (by decide) (fun _ => ?_) (fun q => absurd rfl q)
  refine lv_iload hx hb dL_law_2335 (lv_at hl 1 rfl) ?_
  refine lv_if_ne (tgt := 2352) hx hb dL_law_2337 (by decide) (fun c1 => ?_) (fun c1 => ?_)
  · refine lv_goto (tgt := 2555) hx hb dL_law_2352 (by decide) ?_
    exact next _ _ _ _ _ _ _ hRel hw (lv_sub hl [2, 3, 4, 5, 6, 7] rfl)
  · refine lv_aload_n hx hb dL_law_2340 rfl (lv_at hl 5 rfl) ?_
    refine lv_iconst (v := 0) hx hb dL_law_2341 (by decide) ?_
    refine va_lald hx hb hK hw.2.2.1 0 1 rfl rfl (by unfold vp_in; decide) dL_law_2342 ?_
    refine lv_iload hx hb dL_law_2343 (lv_at hl 0 rfl) ?_
    refine lv_i2l hx hb dL_law_2345 rfl ?_
    refine W.lcmp hx hb dL_law_2346 ?_
    rw [show g' (Int32.toNatClampNeg 0) = Int32.toInt64 v from hans c1]
    refine lv_if_eq (tgt := 2352) hx hb dL_law_2347 (by decide) (fun _ => ?_) (fun q => absurd (lgc_self _) q)
    refine lv_goto (tgt := 2555) hx hb dL_law_2352 (by decide) ?_
    exact next _ _ _ _ _ _ _ hRel hw (lv_sub hl [2, 3, 4, 5, 6, 7] rfl)
set_option maxHeartbeats 4000000 in
theorem ca_at {p : Program} {l : Launch} {e : Env} {s : State} {m : MethodId} {below : List Frame} {meth : Method} {c : Code} {D : va_G} {ct : Nat → ClassId} {ad am : Nat → Nat} {ao ao2 b L : Nat} {xs : Nat → Int32} (hl0 : l.stackTraces = false) (C : Cx p c cL_law meth s m #[Value.ref b] RL (some .boolean) 9) (hX : va_X b L xs s s.heap) (hbl : b < s.heap.size) (hK : va_K D vwCl (tysW ct) s) (hXf : Xf (fun q => s.heap.size ≤ q) s) (hNc : Nc6 s) (hD : Ld ad am ao ao2 s) {S T : St} {g : Nat → Int64} {gd : Nat → UInt64} {H : Heap} {locs : List Loc} (hw : Lw D ct ad am ao ao2 s S T g gd H locs) (hRel : Rel S T) {x5 : Int32} (hin : ∀ j : Int32, 0 ≤ j → j ≤ 4 → vp_in (x5 + j) L) {cells slots : Nat} (hroom : cells + 1 ≤ room_1.cells ∧ slots + 6 ≤ room_1.slots) {Q : State → Prop}
    (next : ∀ (S' T' : St) (g' : Nat → Int64) (gd' : Nat → UInt64) (H' : Heap) (locs' : List Loc) (ls' : Array Slot), Rel S' T' → Lw D ct ad am ao ao2 s S' T' g' gd' H' locs' → lv_has ls' 9 [(0, .ref b), (1, .ref (ad 0)), (2, .ref (am 0)), (3, .ref ao), (4, .ref ao2), (5, .int x5)] → W p l e room_1 s m #[Value.ref b] below meth c H' locs' (cells + 1) (slots + 6) Q (F0 m 2555 ls' [])) {ls : Array Slot} (hl : lv_has ls 9 [(0, .ref b), (1, .ref (ad 0)), (2, .ref (am 0)), (3, .ref ao), (4, .ref ao2), (5, .int x5)]) : W p l e room_1 s m #[Value.ref b] below meth c H locs cells slots Q (F0 m 2355 ls []) := by
  obtain ⟨hx, hb, hr, hml, hown, htL, hlocks⟩ := id C
  have hbA : ¬ (fun q : Nat => s.heap.size ≤ q) b := Nat.not_le.mpr hbl
  obtain ⟨f1, f2, f3, f4⟩ := hD.fl
  obtain ⟨S', T', v, k, g', hM, hfm, hft, hRel, hans⟩ := wr_at l hl0 D ct ad ao hD.1 hD.2.2.1 (xs (x5 + 1).toNatClampNeg) hRel g
  refine lv_aload_n hx hb dL_law_2355 rfl (lv_at hl 1 rfl) ?_
  refine lv_aload_n hx hb dL_law_2356 rfl (lv_at hl 0 rfl) ?_
  refine lv_iload hx hb dL_law_2357 (lv_at hl 5 rfl) ?_
  refine lv_iconst (v := 1) hx hb dL_law_2359 (by decide) ?_
  refine lv_iadd hx hb dL_law_2360 ?_
  refine va_sld hx hb hX hbl hbA hw.2.2.2.2 (hin 1 (by decide) (by decide)) dL_law_2361 ?_
  refine lv_aload_n hx hb dL_law_2362 rfl (lv_at hl 3 rfl) ?_
  refine hc_W (n := 3) C hK hXf hNc hM hl.1 mw_5_122 mw_1_0 mw_5_121 mw_5_120 (by decide +kernel) hw.1 hw.2.2.1 hw.2.2.2.2 f1 ⟨rfl, rfl⟩ ⟨Nat.le_of_ble_eq_true rfl, Nat.le_of_ble_eq_true rfl⟩ rfl rfl (Nat.le_of_ble_eq_true rfl) dL_law_2363 hroom (fun H1 locs1 hP1 hO1 hS1 hz1 hk1 => ?_)
  have hw := hw.wrap hD hP1 hO1 hS1 hk1
  refine lv_istore (lv' := [(6, .int k), (0, .ref b), (1, .ref (ad 0)), (2, .ref (am 0)), (3, .ref ao), (4, .ref ao2), (5, .int x5)]) hx hb dL_law_2366 hl (by decide) rfl (fun ls hl => ?_)
  refine lv_aload_n hx hb dL_law_2368 rfl (lv_at hl 3 rfl) ?_
  refine lv_aload_n hx hb dL_law_2369 rfl (lv_at hl 1 rfl) ?_
  refine lv_iload hx hb dL_law_2370 (lv_at hl 6 rfl) ?_
  refine lv_iconst (v := 1) hx hb dL_law_2372 (by decide) ?_
  refine lv_iadd hx hb dL_law_2373 ?_
  refine va_sld hx hb hX hbl hbA hw.2.2.2.2 (hin 1 (by decide) (by decide)) dL_law_2374 ?_
  refine hc_VF (n := 1) (As := [.int (xs (x5 + 1).toNatClampNeg)]) (rest := []) C hK (c_X10_at l D ct am (FM am) hD.2.1 (xs (x5 + 1).toNatClampNeg) T v T' hfm) hl.1 cp_X10_at mw_7_113 (rc_X10 hK hw.2.1) hw.2.1 hw.2.2.2.2 f3 ⟨rfl, rfl⟩ ⟨Nat.le_of_ble_eq_true rfl, Nat.le_of_ble_eq_true rfl⟩ rfl rfl (Nat.le_of_ble_eq_true rfl) dL_law_2375 ⟨hroom.1, hroom.2⟩ (fun H1 locs1 hP1 hS1 hz1 hk1 => ?_)
  have hw := hw.model hD hP1 hS1 hk1
  refine lv_istore (lv' := [(7, .int v), (6, .int k), (0, .ref b), (1, .ref (ad 0)), (2, .ref (am 0)), (3, .ref ao), (4, .ref ao2), (5, .int x5)]) hx hb dL_law_2378 hl (by decide) rfl (fun ls hl => ?_)
  refine lv_aload_n hx hb dL_law_2380 rfl (lv_at hl 4 rfl) ?_
  refine hc_VF (n := 0) (As := []) (rest := []) C hK (c_X10_thrown l D ct am (FM am) hD.2.1 T' k hft) hl.1 cp_X10_thrown mw_6_5 (rc_X10 hK hw.2.1) hw.2.1 hw.2.2.2.2 f3 ⟨rfl, rfl⟩ ⟨Nat.le_of_ble_eq_true rfl, Nat.le_of_ble_eq_true rfl⟩ rfl rfl (Nat.le_of_ble_eq_true rfl) dL_law_2381 ⟨hroom.1, hroom.2⟩ (fun H1 locs1 hP1 hS1 hz1 hk1 => ?_)
  have hw := hw.model hD hP1 hS1 hk1
  refine lv_iload hx hb dL_law_2384 (lv_at hl 1 rfl) ?_
  refine lv_icmp_eq (tgt := 2391) hx hb dL_law_2386 (by decide) (fun _ => ?_) (fun q => absurd rfl q)
  refine lv_iload hx hb dL_law_2391 (lv_at hl 1 rfl) ?_
  refine lv_if_ne (tgt := 2408) hx hb dL_law_2393 (by decide) (fun c1 => ?_) (fun c1 => ?_)
  · refine lv_goto (tgt := 2555) hx hb dL_law_2408 (by decide) ?_
    exact next _ _ _ _ _ _ _ hRel hw (lv_sub hl [2, 3, 4, 5, 6, 7] rfl)
  · refine lv_aload_n hx hb dL_law_2396 rfl (lv_at hl 5 rfl) ?_
    refine lv_iconst (v := 0) hx hb dL_law_2397 (by decide) ?_
    refine va_lald hx hb hK hw.2.2.1 0 1 rfl rfl (by unfold vp_in; decide) dL_law_2398 ?_
    refine lv_iload hx hb dL_law_2399 (lv_at hl 0 rfl) ?_
    refine lv_i2l hx hb dL_law_2401 rfl ?_
    refine W.lcmp hx hb dL_law_2402 ?_
    rw [show g' (Int32.toNatClampNeg 0) = Int32.toInt64 v from hans c1]
    refine lv_if_eq (tgt := 2408) hx hb dL_law_2403 (by decide) (fun _ => ?_) (fun q => absurd (lgc_self _) q)
    refine lv_goto (tgt := 2555) hx hb dL_law_2408 (by decide) ?_
    exact next _ _ _ _ _ _ _ hRel hw (lv_sub hl [2, 3, 4, 5, 6, 7] rfl)
set_option maxHeartbeats 4000000 in
theorem ca_nothingShare {p : Program} {l : Launch} {e : Env} {s : State} {m : MethodId} {below : List Frame} {meth : Method} {c : Code} {D : va_G} {ct : Nat → ClassId} {ad am : Nat → Nat} {ao ao2 b L : Nat} {xs : Nat → Int32} (hl0 : l.stackTraces = false) (C : Cx p c cL_law meth s m #[Value.ref b] RL (some .boolean) 9) (hX : va_X b L xs s s.heap) (hbl : b < s.heap.size) (hK : va_K D vwCl (tysW ct) s) (hXf : Xf (fun q => s.heap.size ≤ q) s) (hNc : Nc6 s) (hD : Ld ad am ao ao2 s) {S T : St} {g : Nat → Int64} {gd : Nat → UInt64} {H : Heap} {locs : List Loc} (hw : Lw D ct ad am ao ao2 s S T g gd H locs) (hRel : Rel S T) {x5 : Int32} (hin : ∀ j : Int32, 0 ≤ j → j ≤ 4 → vp_in (x5 + j) L) {cells slots : Nat} (hroom : cells + 1 ≤ room_1.cells ∧ slots + 6 ≤ room_1.slots) {Q : State → Prop}
    (next : ∀ (S' T' : St) (g' : Nat → Int64) (gd' : Nat → UInt64) (H' : Heap) (locs' : List Loc) (ls' : Array Slot), Rel S' T' → Lw D ct ad am ao ao2 s S' T' g' gd' H' locs' → lv_has ls' 9 [(0, .ref b), (1, .ref (ad 0)), (2, .ref (am 0)), (3, .ref ao), (4, .ref ao2), (5, .int x5)] → W p l e room_1 s m #[Value.ref b] below meth c H' locs' (cells + 1) (slots + 6) Q (F0 m 2555 ls' [])) {ls : Array Slot} (hl : lv_has ls 9 [(0, .ref b), (1, .ref (ad 0)), (2, .ref (am 0)), (3, .ref ao), (4, .ref ao2), (5, .int x5)]) : W p l e room_1 s m #[Value.ref b] below meth c H locs cells slots Q (F0 m 2411 ls []) := by
  obtain ⟨hx, hb, hr, hml, hown, htL, hlocks⟩ := id C
  have hbA : ¬ (fun q : Nat => s.heap.size ≤ q) b := Nat.not_le.mpr hbl
  obtain ⟨f1, f2, f3, f4⟩ := hD.fl
  obtain ⟨T', v, k, g', hM, hfm, hft, hRel, hans⟩ := wr_nothingShare l hl0 D ct ad ao2 hD.1 hD.2.2.2.1 hRel gd
  refine lv_aload_n hx hb dL_law_2411 rfl (lv_at hl 1 rfl) ?_
  refine lv_aload hx hb dL_law_2412 (lv_at hl 4 rfl) ?_
  refine hc_WD (n := 2) C hK hXf hNc hM hl.1 mw_5_135 mw_1_0 mw_5_134 mw_5_133 (by decide +kernel) hw.1 hw.2.2.2.1 hw.2.2.2.2 f2 ⟨rfl, rfl⟩ ⟨Nat.le_of_ble_eq_true rfl, Nat.le_of_ble_eq_true rfl⟩ rfl rfl (Nat.le_of_ble_eq_true rfl) dL_law_2414 hroom (fun H1 locs1 hP1 hO1 hS1 hz1 hk1 => ?_)
  have hw := hw.wrapD hD hP1 hO1 hS1 hk1
  refine lv_istore (lv' := [(6, .int k), (0, .ref b), (1, .ref (ad 0)), (2, .ref (am 0)), (3, .ref ao), (4, .ref ao2), (5, .int x5)]) hx hb dL_law_2417 hl (by decide) rfl (fun ls hl => ?_)
  refine lv_aload_n hx hb dL_law_2419 rfl (lv_at hl 3 rfl) ?_
  refine hc_VF (n := 0) (As := []) (rest := []) C hK (c_X10_nothingShare l D ct am (FM am) hD.2.1 T v T' hfm) hl.1 cp_X10_nothingShare mw_7_117 (rc_X10 hK hw.2.1) hw.2.1 hw.2.2.2.2 f3 ⟨rfl, rfl⟩ ⟨Nat.le_of_ble_eq_true rfl, Nat.le_of_ble_eq_true rfl⟩ rfl rfl (Nat.le_of_ble_eq_true rfl) dL_law_2420 ⟨hroom.1, hroom.2⟩ (fun H1 locs1 hP1 hS1 hz1 hk1 => ?_)
  have hw := hw.model hD hP1 hS1 hk1
  refine lv_fstore (lv' := [(7, .float v), (6, .int k), (0, .ref b), (1, .ref (ad 0)), (2, .ref (am 0)), (3, .ref ao), (4, .ref ao2), (5, .int x5)]) hx hb dL_law_2423 hl (by decide) rfl (fun ls hl => ?_)
  refine lv_aload_n hx hb dL_law_2425 rfl (lv_at hl 4 rfl) ?_
  refine hc_VF (n := 0) (As := []) (rest := []) C hK (c_X10_thrown l D ct am (FM am) hD.2.1 T' k hft) hl.1 cp_X10_thrown mw_6_5 (rc_X10 hK hw.2.1) hw.2.1 hw.2.2.2.2 f3 ⟨rfl, rfl⟩ ⟨Nat.le_of_ble_eq_true rfl, Nat.le_of_ble_eq_true rfl⟩ rfl rfl (Nat.le_of_ble_eq_true rfl) dL_law_2426 ⟨hroom.1, hroom.2⟩ (fun H1 locs1 hP1 hS1 hz1 hk1 => ?_)
  have hw := hw.model hD hP1 hS1 hk1
  refine lv_iload hx hb dL_law_2429 (lv_at hl 1 rfl) ?_
  refine lv_icmp_eq (tgt := 2436) hx hb dL_law_2431 (by decide) (fun _ => ?_) (fun q => absurd rfl q)
  refine lv_iload hx hb dL_law_2436 (lv_at hl 1 rfl) ?_
  refine lv_if_ne (tgt := 2474) hx hb dL_law_2438 (by decide) (fun c1 => ?_) (fun c1 => ?_)
  · refine lv_goto (tgt := 2555) hx hb dL_law_2474 (by decide) ?_
    exact next _ _ _ _ _ _ _ hRel hw (lv_sub hl [2, 3, 4, 5, 6, 7] rfl)
  · refine lv_aload hx hb dL_law_2441 (lv_at hl 6 rfl) ?_
    refine lv_iconst (v := 0) hx hb dL_law_2443 (by decide) ?_
    refine va_dald hx hb hK hw.2.2.2.1 0 5 rfl rfl (by unfold vp_in; decide) dL_law_2444 ?_
    refine lv_fload hx hb dL_law_2445 (lv_at hl 0 rfl) ?_
    refine lv_f2d hx hb dL_law_2447 (hans c1).2.1 ?_
    rw [show g' (Int32.toNatClampNeg 0) = FP.f2d v from (hans c1).1]
    refine lv_dcmp hx hb dL_law_2448 ?_
    refine lv_if_eq (tgt := 2474) hx hb dL_law_2449 (by decide) (fun _ => ?_) (fun q => absurd (hans c1).2.2 q)
    refine lv_goto (tgt := 2555) hx hb dL_law_2474 (by decide) ?_
    exact next _ _ _ _ _ _ _ hRel hw (lv_sub hl [2, 3, 4, 5, 6, 7] rfl)
set_option maxHeartbeats 4000000 in
theorem ca_meanDigits {p : Program} {l : Launch} {e : Env} {s : State} {m : MethodId} {below : List Frame} {meth : Method} {c : Code} {D : va_G} {ct : Nat → ClassId} {ad am : Nat → Nat} {ao ao2 b L : Nat} {xs : Nat → Int32} (hl0 : l.stackTraces = false) (C : Cx p c cL_law meth s m #[Value.ref b] RL (some .boolean) 9) (hX : va_X b L xs s s.heap) (hbl : b < s.heap.size) (hK : va_K D vwCl (tysW ct) s) (hXf : Xf (fun q => s.heap.size ≤ q) s) (hNc : Nc6 s) (hD : Ld ad am ao ao2 s) {S T : St} {g : Nat → Int64} {gd : Nat → UInt64} {H : Heap} {locs : List Loc} (hw : Lw D ct ad am ao ao2 s S T g gd H locs) (hRel : Rel S T) {x5 : Int32} (hin : ∀ j : Int32, 0 ≤ j → j ≤ 4 → vp_in (x5 + j) L) {cells slots : Nat} (hroom : cells + 1 ≤ room_1.cells ∧ slots + 6 ≤ room_1.slots) {Q : State → Prop}
    (next : ∀ (S' T' : St) (g' : Nat → Int64) (gd' : Nat → UInt64) (H' : Heap) (locs' : List Loc) (ls' : Array Slot), Rel S' T' → Lw D ct ad am ao ao2 s S' T' g' gd' H' locs' → lv_has ls' 9 [(0, .ref b), (1, .ref (ad 0)), (2, .ref (am 0)), (3, .ref ao), (4, .ref ao2), (5, .int x5)] → W p l e room_1 s m #[Value.ref b] below meth c H' locs' (cells + 1) (slots + 6) Q (F0 m 2555 ls' [])) {ls : Array Slot} (hl : lv_has ls 9 [(0, .ref b), (1, .ref (ad 0)), (2, .ref (am 0)), (3, .ref ao), (4, .ref ao2), (5, .int x5)]) : W p l e room_1 s m #[Value.ref b] below meth c H locs cells slots Q (F0 m 2477 ls []) := by
  obtain ⟨hx, hb, hr, hml, hown, htL, hlocks⟩ := id C
  have hbA : ¬ (fun q : Nat => s.heap.size ≤ q) b := Nat.not_le.mpr hbl
  obtain ⟨f1, f2, f3, f4⟩ := hD.fl
  obtain ⟨T', v, k, g', hM, hfm, hft, hRel, hans⟩ := wr_meanDigits l hl0 D ct ad ao2 hD.1 hD.2.2.2.1 hRel gd
  refine lv_aload_n hx hb dL_law_2477 rfl (lv_at hl 1 rfl) ?_
  refine lv_aload hx hb dL_law_2478 (lv_at hl 4 rfl) ?_
  refine hc_WD (n := 2) C hK hXf hNc hM hl.1 mw_5_147 mw_1_0 mw_5_146 mw_5_145 (by decide +kernel) hw.1 hw.2.2.2.1 hw.2.2.2.2 f2 ⟨rfl, rfl⟩ ⟨Nat.le_of_ble_eq_true rfl, Nat.le_of_ble_eq_true rfl⟩ rfl rfl (Nat.le_of_ble_eq_true rfl) dL_law_2480 hroom (fun H1 locs1 hP1 hO1 hS1 hz1 hk1 => ?_)
  have hw := hw.wrapD hD hP1 hO1 hS1 hk1
  refine lv_istore (lv' := [(6, .int k), (0, .ref b), (1, .ref (ad 0)), (2, .ref (am 0)), (3, .ref ao), (4, .ref ao2), (5, .int x5)]) hx hb dL_law_2483 hl (by decide) rfl (fun ls hl => ?_)
  refine lv_aload_n hx hb dL_law_2485 rfl (lv_at hl 3 rfl) ?_
  refine hc_VF (n := 0) (As := []) (rest := []) C hK (c_X10_meanDigits l D ct am (FM am) hD.2.1 T v T' hfm) hl.1 cp_X10_meanDigits mw_7_121 (rc_X10 hK hw.2.1) hw.2.1 hw.2.2.2.2 f3 ⟨rfl, rfl⟩ ⟨Nat.le_of_ble_eq_true rfl, Nat.le_of_ble_eq_true rfl⟩ rfl rfl (Nat.le_of_ble_eq_true rfl) dL_law_2486 ⟨hroom.1, hroom.2⟩ (fun H1 locs1 hP1 hS1 hz1 hk1 => ?_)
  have hw := hw.model hD hP1 hS1 hk1
  refine lv_dstore (lv' := [(7, .double v), (6, .int k), (0, .ref b), (1, .ref (ad 0)), (2, .ref (am 0)), (3, .ref ao), (4, .ref ao2), (5, .int x5)]) hx hb dL_law_2489 hl (by decide) rfl (fun ls hl => ?_)
  refine lv_aload_n hx hb dL_law_2491 rfl (lv_at hl 4 rfl) ?_
  refine hc_VF (n := 0) (As := []) (rest := []) C hK (c_X10_thrown l D ct am (FM am) hD.2.1 T' k hft) hl.1 cp_X10_thrown mw_6_5 (rc_X10 hK hw.2.1) hw.2.1 hw.2.2.2.2 f3 ⟨rfl, rfl⟩ ⟨Nat.le_of_ble_eq_true rfl, Nat.le_of_ble_eq_true rfl⟩ rfl rfl (Nat.le_of_ble_eq_true rfl) dL_law_2492 ⟨hroom.1, hroom.2⟩ (fun H1 locs1 hP1 hS1 hz1 hk1 => ?_)
  have hw := hw.model hD hP1 hS1 hk1
  refine lv_iload hx hb dL_law_2495 (lv_at hl 1 rfl) ?_
  refine lv_icmp_eq (tgt := 2502) hx hb dL_law_2497 (by decide) (fun _ => ?_) (fun q => absurd rfl q)
  refine lv_iload hx hb dL_law_2502 (lv_at hl 1 rfl) ?_
  refine lv_if_ne (tgt := 2539) hx hb dL_law_2504 (by decide) (fun c1 => ?_) (fun c1 => ?_)
  · refine lv_goto (tgt := 2555) hx hb dL_law_2539 (by decide) ?_
    exact next _ _ _ _ _ _ _ hRel hw (lv_sub hl [2, 3, 4, 5, 6, 7] rfl)
  · refine lv_aload hx hb dL_law_2507 (lv_at hl 6 rfl) ?_
    refine lv_iconst (v := 0) hx hb dL_law_2509 (by decide) ?_
    refine va_dald hx hb hK hw.2.2.2.1 0 5 rfl rfl (by unfold vp_in; decide) dL_law_2510 ?_
    refine lv_dload hx hb dL_law_2511 (lv_at hl 0 rfl) ?_
    rw [show g' (Int32.toNatClampNeg 0) = v from (hans c1).1]
    refine lv_dcmp hx hb dL_law_2513 ?_
    refine lv_if_eq (tgt := 2539) hx hb dL_law_2514 (by decide) (fun _ => ?_) (fun q => absurd (hans c1).2 q)
    refine lv_goto (tgt := 2555) hx hb dL_law_2539 (by decide) ?_
    exact next _ _ _ _ _ _ _ hRel hw (lv_sub hl [2, 3, 4, 5, 6, 7] rfl)
set_option maxHeartbeats 4000000 in
theorem ca_isSound {p : Program} {l : Launch} {e : Env} {s : State} {m : MethodId} {below : List Frame} {meth : Method} {c : Code} {D : va_G} {ct : Nat → ClassId} {ad am : Nat → Nat} {ao ao2 b L : Nat} {xs : Nat → Int32} (hl0 : l.stackTraces = false) (C : Cx p c cL_law meth s m #[Value.ref b] RL (some .boolean) 9) (hX : va_X b L xs s s.heap) (hbl : b < s.heap.size) (hK : va_K D vwCl (tysW ct) s) (hXf : Xf (fun q => s.heap.size ≤ q) s) (hNc : Nc6 s) (hD : Ld ad am ao ao2 s) {S T : St} {g : Nat → Int64} {gd : Nat → UInt64} {H : Heap} {locs : List Loc} (hw : Lw D ct ad am ao ao2 s S T g gd H locs) (hRel : Rel S T) {x5 : Int32} (hin : ∀ j : Int32, 0 ≤ j → j ≤ 4 → vp_in (x5 + j) L) {cells slots : Nat} (hroom : cells + 1 ≤ room_1.cells ∧ slots + 6 ≤ room_1.slots) {Q : State → Prop}
    (next : ∀ (S' T' : St) (g' : Nat → Int64) (gd' : Nat → UInt64) (H' : Heap) (locs' : List Loc) (ls' : Array Slot), Rel S' T' → Lw D ct ad am ao ao2 s S' T' g' gd' H' locs' → lv_has ls' 9 [(0, .ref b), (1, .ref (ad 0)), (2, .ref (am 0)), (3, .ref ao), (4, .ref ao2), (5, .int x5)] → W p l e room_1 s m #[Value.ref b] below meth c H' locs' (cells + 1) (slots + 6) Q (F0 m 2555 ls' [])) {ls : Array Slot} (hl : lv_has ls 9 [(0, .ref b), (1, .ref (ad 0)), (2, .ref (am 0)), (3, .ref ao), (4, .ref ao2), (5, .int x5)]) : W p l e room_1 s m #[Value.ref b] below meth c H locs cells slots Q (F0 m 2542 ls []) := by
  obtain ⟨hx, hb, hr, hml, hown, htL, hlocks⟩ := id C
  have hbA : ¬ (fun q : Nat => s.heap.size ≤ q) b := Nat.not_le.mpr hbl
  obtain ⟨f1, f2, f3, f4⟩ := hD.fl
  obtain ⟨S', e1, e2, hRel⟩ := T_isSound hRel
  refine W.widen (k := cells + 1) (n := slots + 6) (by omega) (by omega) ?_
  refine lv_aload_n hx hb dL_law_2542 rfl (lv_at hl 1 rfl) ?_
  refine hc_VF (n := 0) (As := []) (rest := []) C hK (c_X9_isSound l D ct ad (FC ad) hD.1 S (ji 1) S' e1) hl.1 cp_X9_isSound mw_2_31 (rc_X9 hK hw.1) hw.1 hw.2.2.2.2 f4 ⟨rfl, rfl⟩ ⟨Nat.le_of_ble_eq_true rfl, Nat.le_of_ble_eq_true rfl⟩ rfl rfl (Nat.le_of_ble_eq_true rfl) dL_law_2543 hroom (fun H1 locs1 hP1 hS1 hz1 hk1 => ?_)
  have hw := hw.classC hD hP1 hS1 hk1
  refine lv_aload_n hx hb dL_law_2546 rfl (lv_at hl 2 rfl) ?_
  refine hc_VF (n := 0) (As := []) (rest := [.int (ji 1)]) C hK (c_X10_isSound l D ct am (FM am) hD.2.1 T (ji 1) e2) hl.1 cp_X10_isSound mw_7_125 (rc_X10 hK hw.2.1) hw.2.1 hw.2.2.2.2 f3 ⟨rfl, rfl⟩ ⟨Nat.le_of_ble_eq_true rfl, Nat.le_of_ble_eq_true rfl⟩ rfl rfl (Nat.le_of_ble_eq_true rfl) dL_law_2547 hroom (fun H1 locs1 hP1 hS1 hz1 hk1 => ?_)
  have hw := hw.model hD hP1 hS1 hk1
  refine lv_icmp_eq (tgt := 2555) hx hb dL_law_2550 (by decide) (fun _ => ?_) (fun q => absurd rfl q)
  exact next _ _ _ _ _ _ _ hRel hw (lv_sub hl [0, 1, 2, 3, 4, 5] rfl)
