theorem EH_congr {ct : Nat → ClassId} {a z : Nat → Nat} (hz : ∀ i : Nat, i < 70 → a i = z i) {o : Nat} (ho : o < 70) : EHen ct a o = EHen ct z o := by
  unfold EHen
  by_cases h0 : o = 0
  · rw [if_pos h0, if_pos h0, hz 1 (by omega), hz 67 (by omega)]
  · rw [if_neg h0, if_neg h0]
    by_cases h67 : o < 67
    · rw [if_pos h67, if_pos h67]
      by_cases h23 : o - 1 = 23
      · rw [h23]
        show Sum.inl (ct 3, 40, rfA _) = Sum.inl (ct 3, 40, rfA _)
        refine congrArg (fun z => Sum.inl (ct 3, 40, rfA z)) (funext fun i => ?_)
        by_cases hi : i < 40
        · rw [if_pos hi, if_pos hi]
          exact congrArg some (hz (26 + i + 1) (by omega))
        · rw [if_neg hi, if_neg hi]
      · exact ER_congr (fun i hi => hz (i + 1) (by omega)) h23
    · rw [if_neg h67, if_neg h67, hz 68 (by omega), hz 69 (by omega)]
theorem SM_congr {ct : Nat → ClassId} {a z : Nat → Nat} (hz : ∀ i : Nat, i < 18 → a i = z i) {o : Nat} {f : Nat → Int32} {g : Nat → Int64} : shM ct a o f g = shM ct z o f g := by
  unfold shM
  by_cases h0 : o = 0
  · rw [if_pos h0, if_pos h0, hz 1 (by omega), hz 2 (by omega), hz 3 (by omega), hz 4 (by omega), hz 5 (by omega), hz 6 (by omega), hz 7 (by omega), hz 8 (by omega), hz 9 (by omega), hz 10 (by omega), hz 11 (by omega), hz 12 (by omega), hz 13 (by omega), hz 14 (by omega), hz 15 (by omega), hz 16 (by omega), hz 17 (by omega)]
  · rw [if_neg h0, if_neg h0]
set_option maxHeartbeats 4000000 in
set_option maxRecDepth 100000 in
theorem whole_start {p : Program} {e : Env} {s : State} {m : MethodId} {below : List Frame} {meth : Method} {c : Code} (l : Launch) (hflags : l.flags = flags0) {b L : Nat} {xs : Nat → Int32} (hL : L ≤ 2560) (C0 : lw_At p s m meth c b L xs) : W p l e room_1 s m #[Value.ref b] below meth c s.heap [] 0 0 (lw_Z below #[Value.ref b] s) (entryFrame m ([Value.ref b] : List Value).toArray 9) := by
  obtain ⟨hx, hb, hr, hml, hown, hts, hX, hbl, hlocks, hgv⟩ := id C0
  have hl0 : l.stackTraces = false := by
    unfold Launch.stackTraces
    rw [hflags]
    decide +kernel
  have htL : ∀ w ∈ TB, w.before #[Value.ref b] s = true := fun w h => hts w (TB_in w h)
  have C : Cx p c cL_law meth s m #[Value.ref b] RL (some .boolean) 9 := ⟨hx, hb, hr, hml, hown, htL, hlocks⟩
  obtain ⟨D, ct, hK⟩ := law_kn hts
  have hKx := law_kx hts
  have hXf := law_xf hts hgv
  have hNc := law_nc hgv
  have hA : ∀ q : Nat, s.heap.size ≤ q → (fun q : Nat => s.heap.size ≤ q) q := fun _ h => h
  have hw : KW D s (fun q => s.heap.size ≤ q) 0 (fun _ => 0) (fun _ => .inr (0, [])) s.heap [] := ⟨fun k q h => by simp [cl] at h, ⟨fun i j p q h => by simp [cl] at h, fun k q h => by simp [cl] at h⟩, va_S.rf⟩
  have hl := lv_entry ([.ref b]) (n := 9) (Nat.le_of_ble_eq_true rfl)
  rw [lg_entry_eq]
  generalize (lg_sl ([.ref b]) ++ List.replicate (9 - (lg_sl ([.ref b])).length) Slot.unset).toArray = ls at hl ⊢
  have hl : lv_has ls 9 [(0, .ref b)] := hl
  refine kNew (C9 := RX9) (T := TX9) (N := 2) (ci := 9) (fs := [.null, .null]) C hK hw hA hwX9 tyX9 tyX9_ok mw_1_25 mw_1_26 mw_1_1 rfl (fun j hj => by rcases (show j = 0 ∨ j = 1 by omega) with e | e <;> subst e <;> rfl) (Nat.le_of_ble_eq_true rfl) (Nat.le_of_ble_eq_true rfl) dL_law_0 (fun q1 H hw => ?_)
  refine lv_dup hx hb dL_law_3 rfl ?_
  refine kCall C hK hKx hw hA 0 (by decide) rfl (k_X9_init l D ct _ H.size) hl.1 mw_1_29 mw_1_1 mw_1_28 mw_1_27 rfl (by decide +kernel) ⟨rfl, rfl⟩ ⟨Nat.le_of_ble_eq_true rfl, Nat.le_of_ble_eq_true rfl⟩ (Nat.le_of_ble_eq_true rfl) dL_law_4 ⟨Nat.le_of_ble_eq_true rfl, Nat.le_of_ble_eq_true rfl⟩ (fun a1 H locs e1 hw => ?_)
  have e1 : a1 0 = q1 := e1
  have hw7 : KW D s (fun q => s.heap.size ≤ q) 70 a1 (EHen ct a1) H locs := hw.congr (fun o ho => by
    by_cases h0 : o = 0
    · subst h0
      exact ⟨e1.symm, rfl⟩
    · refine ⟨?_, ?_⟩
      · rw [if_neg (by omega), show o - 1 + 1 = o by omega]
      · rw [if_neg h0, if_neg (by omega), show o - 1 + 1 = o by omega])
  subst e1
  refine lv_astore_n (lv' := [(1, .ref (a1 0)), (0, .ref b)]) hx hb dL_law_7 rfl hl (by decide) rfl (fun ls hl => ?_)
  refine kNew (C9 := RX10) (T := TX10) (N := 27) (ci := 10) (fs := [.null, .null, .null, .null, .null, .null, .null, .null, .null, .null, .null, .null, .null, .null, .null, .null, .null, .int 0, .int 0, .int 0, .int 0, .int 0, .int 0, .int 0, .int 0, .int 0, .long 0]) C hK hw7 hA hwX10 tyX10 tyX10_ok mw_5_156 mw_5_157 mw_1_9 rfl (fun j hj => by rcases (show j = 0 ∨ j = 1 ∨ j = 2 ∨ j = 3 ∨ j = 4 ∨ j = 5 ∨ j = 6 ∨ j = 7 ∨ j = 8 ∨ j = 9 ∨ j = 10 ∨ j = 11 ∨ j = 12 ∨ j = 13 ∨ j = 14 ∨ j = 15 ∨ j = 16 ∨ j = 17 ∨ j = 18 ∨ j = 19 ∨ j = 20 ∨ j = 21 ∨ j = 22 ∨ j = 23 ∨ j = 24 ∨ j = 25 ∨ j = 26 by omega) with e | e | e | e | e | e | e | e | e | e | e | e | e | e | e | e | e | e | e | e | e | e | e | e | e | e | e <;> subst e <;> rfl) (Nat.le_of_ble_eq_true rfl) (Nat.le_of_ble_eq_true rfl) dL_law_8 (fun q2 H hw => ?_)
  refine lv_dup hx hb dL_law_11 rfl ?_
  refine kCall C hK hKx hw hA 70 (by decide) rfl (k_X10_init l D ct _ H.size) hl.1 mw_5_160 mw_1_9 mw_5_159 mw_5_158 rfl (by decide +kernel) ⟨rfl, rfl⟩ ⟨Nat.le_of_ble_eq_true rfl, Nat.le_of_ble_eq_true rfl⟩ (Nat.le_of_ble_eq_true rfl) dL_law_12 ⟨Nat.le_of_ble_eq_true rfl, Nat.le_of_ble_eq_true rfl⟩ (fun a2 H locs e2 hw => ?_)
  have e2 : a2 0 = q2 := e2
  have hw8 : KW D s (fun q => s.heap.size ≤ q) 88 (fun o => if o < 70 then a1 o else a2 (o - 70)) (fun o => if o < 70 then EHen ct a1 o else shM ct a2 (o - 70) (S0M.1 (o - 70)) (fun _ => 0)) H locs := hw.congr (fun o ho => by
    by_cases h0 : o < 70
    · refine ⟨?_, ?_⟩
      · rw [if_pos h0, if_pos (by omega), up_n (by omega)]
      · rw [if_pos h0, if_neg (by omega), if_pos (by omega), up_n (by omega)]
    · by_cases h1 : o = 70
      · subst h1
        exact ⟨e2.symm, rfl⟩
      · refine ⟨?_, ?_⟩
        · rw [if_neg h0, if_neg (by omega), show o - 71 + 1 = o - 70 by omega]
        · rw [if_neg h0, if_neg h1, if_neg (by omega), show o - 71 + 1 = o - 70 by omega]
          rfl)
  refine lv_astore_n (lv' := [(2, .ref q2), (1, .ref (a1 0)), (0, .ref b)]) hx hb dL_law_15 rfl hl (by decide) rfl (fun ls hl => ?_)
  refine lv_iconst (v := 1) hx hb dL_law_16 (by decide) ?_
  refine kArr C hK hw8 hA (atype := .long) mw_1_64 rfl 1 rfl (a0 := (1, .inr (.inl (fun _ => 0)))) (fun cA => rfl) (by decide) rfl (Nat.le_of_ble_eq_true rfl) (Nat.le_of_ble_eq_true rfl) (Nat.le_of_ble_eq_true rfl) dL_law_17 (fun q3 H hw => ?_)
  refine lv_astore_n (lv' := [(3, .ref q3), (2, .ref q2), (1, .ref (a1 0)), (0, .ref b)]) hx hb dL_law_19 rfl hl (by decide) rfl (fun ls hl => ?_)
  refine lv_iconst (v := 1) hx hb dL_law_20 (by decide) ?_
  refine kArr C hK hw hA (atype := .double) mw_7_129 rfl 5 rfl (a0 := (1, .inr (.inr (.inr (.inl (fun _ => 0)))))) (fun cA => rfl) (by decide) rfl (Nat.le_of_ble_eq_true rfl) (Nat.le_of_ble_eq_true rfl) (Nat.le_of_ble_eq_true rfl) dL_law_21 (fun q4 H hw => ?_)
  refine lv_astore (lv' := [(4, .ref q4), (3, .ref q3), (2, .ref q2), (1, .ref (a1 0)), (0, .ref b)]) hx hb dL_law_23 hl (by decide) rfl (fun ls hl => ?_)
  refine lv_iconst (v := 0) hx hb dL_law_25 (by decide) ?_
  refine lv_istore (lv' := [(5, .int 0), (4, .ref q4), (3, .ref q3), (2, .ref q2), (1, .ref (a1 0)), (0, .ref b)]) hx hb dL_law_26 hl (by decide) rfl (fun ls hl => ?_)
  obtain ⟨hLw, hLd⟩ := start_world hw (fun o ho => by
    rw [up_n (by omega), up_n (by omega), if_pos ho]
    exact EH_congr (fun i hi => by rw [up_n (by omega), up_n (by omega), if_pos hi]) ho) (fun o ho => by
    rw [up_n (by omega), up_n (by omega), if_neg (by omega), show 70 + o - 70 = o by omega]
    exact SM_congr (fun i hi => by rw [up_n (by omega), up_n (by omega), if_neg (by omega), show 70 + i - 70 = i by omega])) (by rw [up_n (by omega), up_s]) (by rw [up_s])
  refine W.widen (k := 100 + 0) (n := 2298 + 6 * 0) (by decide) (by decide) ?_
  exact law_loop hl0 hL (by decide) C hX hbl hK hXf hNc hLd (L + 2) 0 S0C S0M (fun _ => 0) (fun _ => 0) H _ ls (by omega) (by omega) hLw rel_0 (by
    have q := lv_sub hl [5, 4, 3, 2, 1, 0] (l' := [(0, .ref b), (1, .ref (a1 0)), (2, .ref q2), (3, .ref q3), (4, .ref q4), (5, .int 0)]) rfl
    show lv_has ls 9 [(0, .ref b), (1, .ref (a1 0)), (2, .ref (a2 0)), (3, .ref q3), (4, .ref q4), (5, .int 0)]
    rw [e2]
    exact q)
