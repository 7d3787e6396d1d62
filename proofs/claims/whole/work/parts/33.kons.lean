def shN (ct : Nat → ClassId) (ad : Nat → Nat) (o : Nat) (f : Nat → Int32) (g : Nat → Int64) : va_E := if o = 0 then .inr (4, [.int (f 0), .int (f 1), .ref (ad 1)]) else .inl (ct 1, 30, .inr (.inl g))
abbrev cellsN (ct : Nat → ClassId) (ad : Nat → Nat) (S : St) : va_W := cellsOf (shN ct ad) 2 ad S
section NRows
variable {p : Program} {l : Launch} {e : Env} {R : Room} {s : State} {m : MethodId} {args : Array Value} {below : List Frame} {meth : Method} {c : Code} {cc : ByteArray} {own : String} {ret : Option FieldType} {nL pc : Nat} {ls : Array Slot} {H : Heap} {locs : List Loc} {cells slots : Nat} {Q : State → Prop} {rest : List Value} {D : va_G} {ct : Nat → ClassId} {ad : Nat → Nat} {F : Nat → Prop} {S : St} {index k : Nat}
theorem gn_X2_2 (C : Cx p c cc meth s m args own ret nL) (hK : va_K D vwCl (tysW ct) s) (hP : va_P D vwCl (cellsN ct ad S) H) (hlink : Cond.fieldLink own index "Henselhall$Near" "powers" "[J" ∈ TB) (hdg : decode cc pc = .ok (.getfield index, 3))
    (kk : W p l e R s m args below meth c H locs cells slots Q (F0 m (pc + 3) ls (.ref (ad 1) :: rest))) : W p l e R s m args below meth c H locs cells slots Q (F0 m pc ls (.ref (ad 0) :: rest)) := by
  obtain ⟨hx, hb, hr, hml, hown, htL, hlocks⟩ := C
  exact va_get (ci := 4) (C := RX2) (T := TX2) (N := 3) hx hb (fun w h => htL w (hwX2 w h)) (fun _ h => h) hown hK hP (0) ((cC (by decide)).trans (congrArg (fun z => some (ad (0), z)) (rfl))) rfl 2 (by decide) (htL _ hlink) (fun _ h => h) rfl hdg kk
theorem pn_X2_0 (C : Cx p c cc meth s m args own ret nL) (hK : va_K D vwCl (tysW ct) s) (hP : va_P D vwCl (cellsN ct ad S) H) (hG : Gd ad 2 F) (hS : va_S F s.heap H locs) {v : Int32} (hlink : Cond.fieldLink own index "Henselhall$Near" "prime" "I" ∈ TB) (hdg : decode cc pc = .ok (.putfield index, 3))
    (kk : ∀ (H1 : Heap) (locs1 : List Loc), va_P D vwCl (cellsN ct ad (wI S 0 0 v)) H1 → va_S F s.heap H1 locs1 → W p l e R s m args below meth c H1 locs1 cells slots Q (F0 m (pc + 3) ls rest)) : W p l e R s m args below meth c H locs cells slots Q (F0 m pc ls (.int v :: .ref (ad 0) :: rest)) := by
  obtain ⟨hx, hb, hr, hml, hown, htL, hlocks⟩ := C
  exact va_put (ci := 4) (C := RX2) (T := TX2) (N := 3) hx hb (fun w h => htL w (hwX2 w h)) (fun _ h => h) tyX2 tyX2_ok nmX2 hown hK hP (cD hG) hS (0) ((cC (by decide)).trans (congrArg (fun z => some (ad (0), z)) (rfl))) rfl 0 (by decide) (htL _ hlink) (fun _ h => h) rfl (ty := .int) rfl rfl rfl (Nat.le_of_ble_eq_true rfl) hdg (fun H1 locs1 hP1 _ hS1 => kk H1 locs1 (by
    rw [cS (T := wI S 0 0 v) (by decide) (by simp [shN, wI_u, upd]) wI_o] at hP1
    exact hP1) hS1)
theorem pn_X2_1 (C : Cx p c cc meth s m args own ret nL) (hK : va_K D vwCl (tysW ct) s) (hP : va_P D vwCl (cellsN ct ad S) H) (hG : Gd ad 2 F) (hS : va_S F s.heap H locs) {v : Int32} (hlink : Cond.fieldLink own index "Henselhall$Near" "last" "I" ∈ TB) (hdg : decode cc pc = .ok (.putfield index, 3))
    (kk : ∀ (H1 : Heap) (locs1 : List Loc), va_P D vwCl (cellsN ct ad (wI S 0 1 v)) H1 → va_S F s.heap H1 locs1 → W p l e R s m args below meth c H1 locs1 cells slots Q (F0 m (pc + 3) ls rest)) : W p l e R s m args below meth c H locs cells slots Q (F0 m pc ls (.int v :: .ref (ad 0) :: rest)) := by
  obtain ⟨hx, hb, hr, hml, hown, htL, hlocks⟩ := C
  exact va_put (ci := 4) (C := RX2) (T := TX2) (N := 3) hx hb (fun w h => htL w (hwX2 w h)) (fun _ h => h) tyX2 tyX2_ok nmX2 hown hK hP (cD hG) hS (0) ((cC (by decide)).trans (congrArg (fun z => some (ad (0), z)) (rfl))) rfl 1 (by decide) (htL _ hlink) (fun _ h => h) rfl (ty := .int) rfl rfl rfl (Nat.le_of_ble_eq_true rfl) hdg (fun H1 locs1 hP1 _ hS1 => kk H1 locs1 (by
    rw [cS (T := wI S 0 1 v) (by decide) (by simp [shN, wI_u, upd]) wI_o] at hP1
    exact hP1) hS1)
theorem an_N1 (C : Cx p c cc meth s m args own ret nL) (hK : va_K D vwCl (tysW ct) s) (hP : va_P D vwCl (cellsN ct ad S) H) (hdg : decode cc pc = .ok (.arraylength, 1))
    (kk : W p l e R s m args below meth c H locs cells slots Q (F0 m (pc + 1) ls (.int 30 :: rest))) : W p l e R s m args below meth c H locs cells slots Q (F0 m pc ls (.ref (ad 1) :: rest)) := by
  obtain ⟨hx, hb, hr, hml, hown, htL, hlocks⟩ := C
  exact va_alen hx hb hK hP (1) 1 ((cC (by decide)).trans (congrArg (fun z => some (ad (1), z)) (rfl))) rfl rfl hdg kk
theorem as_N1 (C : Cx p c cc meth s m args own ret nL) (hK : va_K D vwCl (tysW ct) s) (hP : va_P D vwCl (cellsN ct ad S) H) (hG : Gd ad 2 F) (hS : va_S F s.heap H locs) {i : Int32} {x : Int64} (hin : vp_in i 30) (hdg : decode cc pc = .ok (.lastore, 1))
    (kk : ∀ (H1 : Heap) (locs1 : List Loc), va_P D vwCl (cellsN ct ad (wJ S 1 i.toNatClampNeg x)) H1 → va_S F s.heap H1 locs1 → W p l e R s m args below meth c H1 locs1 cells slots Q (F0 m (pc + 1) ls rest)) : W p l e R s m args below meth c H locs cells slots Q (F0 m pc ls (.long x :: .int i :: .ref (ad 1) :: rest)) := by
  obtain ⟨hx, hb, hr, hml, hown, htL, hlocks⟩ := C
  exact va_last hx hb hK hP (cD hG) hS (1) 1 ((cC (by decide)).trans (congrArg (fun z => some (ad (1), z)) (rfl))) rfl hin hdg (fun H1 locs1 hP1 _ hS1 => kk H1 locs1 (by
    rw [cS (T := wJ S 1 i.toNatClampNeg x) (by decide) (by simp [shN, wJ_u]) wJ_o] at hP1
    exact hP1) hS1)
end NRows
def s_N_turnTo_15  (k_15 : Int32 → Int64 → Int32 → St → Option St) (x1 : Int32) (x2 : Int64) (x4 : Int32) (S : St) : Option St := (if (30 : Int32) ≤ (x4 : Int32) then (some S) else (if (0 : Int32) < (lg_cmp x2 (1000000000)) then (some S) else (if (x4 : Int32) < 0 ∨ 30 ≤ Int32.toNatClampNeg x4 then none else (k_15 x1 (x2 * (Int32.toInt64 x1)) (x4 + 1) (wI (wJ S 1 (Int32.toNatClampNeg x4) x2) 0 1 x4)))))
def n_N_turnTo_15  (x1 : Int32) (x2 : Int64) (x4 : Int32) (S : St) : Option St := itr (fun (q : Int32 × Int64 × Int32 × St) k => s_N_turnTo_15  (fun (x1 : Int32) (x2 : Int64) (x4 : Int32) (S : St) => k (x1, x2, x4, S)) q.1 q.2.1 q.2.2.1 q.2.2.2) FU (x1, x2, x4, S)
def f_N_turnTo (p0 : Int32) (S0 : St) : Option St := (n_N_turnTo_15 p0 1 0 (wI (wI S0 0 0 p0) 0 1 0))
set_option maxHeartbeats 4000000 in
set_option maxRecDepth 100000 in
theorem c_N_turnTo (l : Launch) (D : va_G) (ct : Nat → ClassId) (ad : Nat → Nat) (F : Nat → Prop) (hG : Gd ad 2 F) (p0 : Int32) (S0 : St)  (S' : St) (hf : f_N_turnTo p0 S0 = some S') : MetH l yX2_turnTo cX2_turnTo 5 none rm_X2_turnTo D (tysW ct) F [.ref (ad 0), .int p0] none (cellsN ct ad S0) (cellsN ct ad S') := by
  refine MetH.of RX2 (by decide) rfl (Nat.le_of_ble_eq_true rfl) ?_
  intro p e s m args below meth c C hK hP ls hl
  have hl : lv_has ls 5 [(0, .ref (ad 0)), (1, .int p0)] := hl
  obtain ⟨hx, hb, hr, hml, hown, htL, hlocks⟩ := id C
  have hS : va_S F s.heap s.heap [] := va_S.rf
  generalize hQ : MQ below (Hq D (cellsN ct ad S') F none) args s 0 0 F = Q
  have w_15 : ∀ (x1 : Int32) (x2 : Int64) (x4 : Int32) (S : St), ∀ (H : Heap) (locs : List Loc) (ls : Array Slot), lv_has ls 5 [(0, .ref (ad 0)), (1, .int x1), (2, .long x2), (4, .int x4)] → va_P D vwCl (cellsN ct ad S) H → va_S F s.heap H locs → n_N_turnTo_15 x1 x2 x4 S = some S' → W p l e rm_X2_turnTo s m args below meth c H locs 0 0 Q (F0 m 15 ls []) := by
    have aux : ∀ (n : Nat), ∀ (x1 : Int32) (x2 : Int64) (x4 : Int32) (S : St), ∀ (H : Heap) (locs : List Loc) (ls : Array Slot), lv_has ls 5 [(0, .ref (ad 0)), (1, .int x1), (2, .long x2), (4, .int x4)] → va_P D vwCl (cellsN ct ad S) H → va_S F s.heap H locs → itr (fun (q : Int32 × Int64 × Int32 × St) k => s_N_turnTo_15  (fun (x1 : Int32) (x2 : Int64) (x4 : Int32) (S : St) => k (x1, x2, x4, S)) q.1 q.2.1 q.2.2.1 q.2.2.2) n (x1, x2, x4, S) = some S' → W p l e rm_X2_turnTo s m args below meth c H locs 0 0 Q (F0 m 15 ls []) := by
      intro n
      induction n with
      | zero => intro x1 x2 x4 S H locs ls hl hP hS hf; exact (itr_z hf).elim
      | succ n ih =>
      intro x1 x2 x4 S H locs ls hl hP hS hf
      have hk_15 := ih
      have hf : s_N_turnTo_15  (fun (x1 : Int32) (x2 : Int64) (x4 : Int32) (S : St) => itr (fun (q : Int32 × Int64 × Int32 × St) k => s_N_turnTo_15  (fun (x1 : Int32) (x2 : Int64) (x4 : Int32) (S : St) => k (x1, x2, x4, S)) q.1 q.2.1 q.2.2.1 q.2.2.2) n (x1, x2, x4, S)) x1 x2 x4 S = some S' := hf
      refine lv_iload hx hb dX2_turnTo_15 (lv_at hl 3 rfl) ?_
      refine lv_aload_n hx hb dX2_turnTo_17 rfl (lv_at hl 0 rfl) ?_
      refine gn_X2_2 C hK hP mw_1_56 dX2_turnTo_18 ?_
      refine an_N1 C hK hP dX2_turnTo_21 ?_
      refine lv_icmp_ge (tgt := 58) hx hb dX2_turnTo_22 (by decide) (fun c1 => ?_) (fun c1 => ?_)
      · have hf := sp1 c1 hf
        cases hf
        subst hQ
        exact he_v C hP hS dX2_turnTo_58
      · have hf := sp0 c1 hf
        refine lv_lload_n hx hb dX2_turnTo_25 rfl (lv_at hl 2 rfl) ?_
        refine lv_ldc2 (v := 1000000000) hx hb hown (htL _ mw_1_49) dX2_turnTo_26 ?_
        refine W.lcmp hx hb dX2_turnTo_29 ?_
        refine lv_if_gt (tgt := 58) hx hb dX2_turnTo_30 (by decide) (fun c2 => ?_) (fun c2 => ?_)
        · have hf := sp1 c2 hf
          cases hf
          subst hQ
          exact he_v C hP hS dX2_turnTo_58
        · have hf := sp0 c2 hf
          refine lv_aload_n hx hb dX2_turnTo_33 rfl (lv_at hl 0 rfl) ?_
          refine gn_X2_2 C hK hP mw_1_56 dX2_turnTo_34 ?_
          refine lv_iload hx hb dX2_turnTo_37 (lv_at hl 3 rfl) ?_
          refine lv_lload_n hx hb dX2_turnTo_39 rfl (lv_at hl 2 rfl) ?_
          obtain ⟨c3, hf⟩ := spn hf
          refine as_N1 C hK hP hG hS c3 dX2_turnTo_40 (fun H locs hP hS => ?_)
          refine lv_aload_n hx hb dX2_turnTo_41 rfl (lv_at hl 0 rfl) ?_
          refine lv_iload hx hb dX2_turnTo_42 (lv_at hl 3 rfl) ?_
          refine pn_X2_1 C hK hP hG hS mw_1_53 dX2_turnTo_44 (fun H locs hP hS => ?_)
          refine lv_lload_n hx hb dX2_turnTo_47 rfl (lv_at hl 2 rfl) ?_
          refine lv_iload_n hx hb dX2_turnTo_48 rfl (lv_at hl 1 rfl) ?_
          refine lv_i2l hx hb dX2_turnTo_49 rfl ?_
          refine lv_lmul hx hb dX2_turnTo_50 ?_
          refine lv_lstore_n (lv' := [(2, .long (x2 * (Int32.toInt64 x1))), (0, .ref (ad 0)), (1, .int x1), (4, .int x4)]) hx hb dX2_turnTo_51 rfl hl (by decide) rfl (fun ls hl => ?_)
          refine lv_iinc (v := (x4 + 1)) (lv' := [(4, .int (x4 + 1)), (2, .long (x2 * (Int32.toInt64 x1))), (0, .ref (ad 0)), (1, .int x1)]) hx hb dX2_turnTo_52 hl (k := 3) rfl rfl (by decide) rfl (fun ls hl => ?_)
          refine lv_goto (tgt := 15) hx hb dX2_turnTo_55 (by decide) ?_
          exact hk_15 x1 (x2 * (Int32.toInt64 x1)) (x4 + 1) (wI (wJ S 1 (Int32.toNatClampNeg x4) x2) 0 1 x4) _ _ _ (lv_sub hl [2, 3, 1, 0] rfl) hP hS hf
    exact aux FU
  refine lv_aload_n hx hb dX2_turnTo_0 rfl (lv_at hl 0 rfl) ?_
  refine lv_iload_n hx hb dX2_turnTo_1 rfl (lv_at hl 1 rfl) ?_
  refine pn_X2_0 C hK hP hG hS mw_1_50 dX2_turnTo_2 (fun H locs hP hS => ?_)
  refine lv_aload_n hx hb dX2_turnTo_5 rfl (lv_at hl 0 rfl) ?_
  refine lv_iconst (v := 0) hx hb dX2_turnTo_6 (by decide) ?_
  refine pn_X2_1 C hK hP hG hS mw_1_53 dX2_turnTo_7 (fun H locs hP hS => ?_)
  refine lv_lconst (v := 1) hx hb dX2_turnTo_10 (by decide) ?_
  refine lv_lstore_n (lv' := [(2, .long 1), (0, .ref (ad 0)), (1, .int p0)]) hx hb dX2_turnTo_11 rfl hl (by decide) rfl (fun ls hl => ?_)
  refine lv_iconst (v := 0) hx hb dX2_turnTo_12 (by decide) ?_
  refine lv_istore (lv' := [(4, .int 0), (2, .long 1), (0, .ref (ad 0)), (1, .int p0)]) hx hb dX2_turnTo_13 hl (by decide) rfl (fun ls hl => ?_)
  exact w_15 p0 1 0 (wI (wI S0 0 0 p0) 0 1 0) _ _ _ (lv_sub hl [2, 3, 1, 0] rfl) hP hS hf
def SN0 : St := (fun _ _ => 0, fun _ _ => 0)
def SN5 : St := (f_N_turnTo 5 SN0).getD SN0
set_option maxRecDepth 100000 in
theorem tN5 : f_N_turnTo 5 SN0 = some SN5 := by
  have h : (f_N_turnTo 5 SN0).isSome = true := by decide +kernel
  unfold SN5
  cases hc : f_N_turnTo 5 SN0 with
  | none => rw [hc] at h; cases h
  | some x => rfl
set_option maxRecDepth 100000 in
theorem SN5_p : SN5.1 0 0 = 5 ∧ SN5.1 0 1 = 12 := by decide +kernel
def fN0 : Nat → Int32 := fun i => if i = 1 ∨ i = 2 then -1 else 0
def rm_X3_init : Room := { frames := 1, cells := 0, slots := 0, locals := 40 }
set_option maxHeartbeats 4000000 in
set_option maxRecDepth 100000 in
theorem k_X3_init (l : Launch) (D : va_G) (ct : Nat → ClassId) (h sz : Nat) : MetK l yX3_init cX3_init 1 rm_X3_init D ct h (.inr (5, [.int 0, .int 0, .int 0, .int 0, .int 0, .int 0, .int 0, .int 0, .int 0, .int 0, .long 0, .int 0, .int 0, .long 0])) sz 0 0 (fun _ _ => .inr (5, numF fN0 (fun _ => 0))) := by
  refine MetK.of RX3 (by decide) rfl rfl (by decide) ?_
  intro p e s m args below meth c C hin hK hX hsz hw ls hl
  obtain ⟨hx, hb, hr, hml, hown, htL, hlocks⟩ := id C
  have hA : ∀ q, s.heap.size ≤ q → FK h sz q := fun q hq => Or.inr (by rw [← hsz]; exact hq)
  refine lv_aload_n hx hb dX3_init_0 rfl (lv_at hl 0 rfl) ?_
  refine kObj C hl.1 mw_1_117 mw_1_31 mw_1_32 dX3_init_1 ⟨Nat.le_of_ble_eq_true rfl, Nat.le_of_ble_eq_true rfl⟩ (Nat.le_of_ble_eq_true rfl) ?_
  refine lv_aload_n hx hb dX3_init_4 rfl (lv_at hl 0 rfl) ?_
  refine lv_iconst (v := 0) hx hb dX3_init_5 (by decide) ?_
  refine kPut C hK hw (C9 := RX3) (T := TX3) (N := 14) (ci := 5) hwX3 tyX3 tyX3_ok nmX3 rfl 0 (by decide) rfl 0 (by decide) mw_1_118 rfl (ty1 := .int) (v := .int 0) rfl rfl rfl (Nat.le_of_ble_eq_true rfl) dX3_init_6 (fun H locs hw => ?_)
  refine lv_aload_n hx hb dX3_init_9 rfl (lv_at hl 0 rfl) ?_
  refine lv_iconst (v := (-1)) hx hb dX3_init_10 (by decide) ?_
  refine kPut C hK hw (C9 := RX3) (T := TX3) (N := 14) (ci := 5) hwX3 tyX3 tyX3_ok nmX3 rfl 0 (by decide) rfl 1 (by decide) mw_1_120 rfl (ty1 := .int) (v := .int (-1)) rfl rfl rfl (Nat.le_of_ble_eq_true rfl) dX3_init_11 (fun H locs hw => ?_)
  refine lv_aload_n hx hb dX3_init_14 rfl (lv_at hl 0 rfl) ?_
  refine lv_iconst (v := (-1)) hx hb dX3_init_15 (by decide) ?_
  refine kPut C hK hw (C9 := RX3) (T := TX3) (N := 14) (ci := 5) hwX3 tyX3 tyX3_ok nmX3 rfl 0 (by decide) rfl 2 (by decide) mw_1_122 rfl (ty1 := .int) (v := .int (-1)) rfl rfl rfl (Nat.le_of_ble_eq_true rfl) dX3_init_16 (fun H locs hw => ?_)
  exact kRet C hw rfl (fun o ho => by
    have e : o = 0 := by omega
    subst e
    rfl) dX3_init_19
def rm_X4_init : Room := { frames := 1, cells := 1, slots := 7, locals := 40 }
set_option maxHeartbeats 4000000 in
set_option maxRecDepth 100000 in
theorem k_X4_init (l : Launch) (D : va_G) (ct : Nat → ClassId) (h sz : Nat) : MetK l yX4_init cX4_init 1 rm_X4_init D ct h (.inr (6, [.int 0, .null])) sz 1 7 (fun a o => if o = 0 then .inr (6, [.int 0, .ref (a 1)]) else .inl (ct 0, 7, .inl (fun _ => 0))) := by
  refine MetK.of RX4 (by decide) rfl rfl (by decide) ?_
  intro p e s m args below meth c C hin hK hX hsz hw ls hl
  obtain ⟨hx, hb, hr, hml, hown, htL, hlocks⟩ := id C
  have hA : ∀ q, s.heap.size ≤ q → FK h sz q := fun q hq => Or.inr (by rw [← hsz]; exact hq)
  refine lv_aload_n hx hb dX4_init_0 rfl (lv_at hl 0 rfl) ?_
  refine kObj C hl.1 mw_1_77 mw_1_31 mw_1_32 dX4_init_1 ⟨Nat.le_of_ble_eq_true rfl, Nat.le_of_ble_eq_true rfl⟩ (Nat.le_of_ble_eq_true rfl) ?_
  refine lv_aload_n hx hb dX4_init_4 rfl (lv_at hl 0 rfl) ?_
  refine lv_bipush (v := 7) hx hb dX4_init_5 (by decide) ?_
  refine kArr (atype := .int) (ty := .int) (a0 := (7, .inl (fun _ => 0))) (N' := 7) C hK hw hA mw_1_87 rfl 0 rfl (fun cA => rfl) (by decide) rfl (by decide) (Nat.le_of_ble_eq_true rfl) (Nat.le_of_ble_eq_true rfl) dX4_init_7 (fun q H hw => ?_)
  refine kPutF C hin hK hw (C9 := RX4) (T := TX4) (N := 2) (ci := 6) hwX4 tyX4 tyX4_ok nmX4 rfl 0 (by decide) rfl 1 (by decide) mw_1_81 rfl rfl (ty1 := .array .int) (v := .ref q) rfl rfl rfl (Nat.le_of_ble_eq_true rfl) dX4_init_9 (fun H locs hw => ?_)
  exact kRet C hw rfl (fun o ho => by
    rcases (show o = 0 ∨ o = 1 by omega) with e | e <;> subst e <;> rfl) dX4_init_12
def rm_X6_init : Room := { frames := 1, cells := 1, slots := 12, locals := 40 }
set_option maxHeartbeats 4000000 in
set_option maxRecDepth 100000 in
theorem k_X6_init (l : Launch) (D : va_G) (ct : Nat → ClassId) (h sz : Nat) : MetK l yX6_init cX6_init 1 rm_X6_init D ct h (.inr (8, [.int 0, .null])) sz 1 12 (fun a o => if o = 0 then .inr (8, [.int 0, .ref (a 1)]) else .inl (ct 0, 12, .inl (fun _ => 0))) := by
  refine MetK.of RX6 (by decide) rfl rfl (by decide) ?_
  intro p e s m args below meth c C hin hK hX hsz hw ls hl
  obtain ⟨hx, hb, hr, hml, hown, htL, hlocks⟩ := id C
  have hA : ∀ q, s.heap.size ≤ q → FK h sz q := fun q hq => Or.inr (by rw [← hsz]; exact hq)
  refine lv_aload_n hx hb dX6_init_0 rfl (lv_at hl 0 rfl) ?_
  refine kObj C hl.1 mw_1_101 mw_1_31 mw_1_32 dX6_init_1 ⟨Nat.le_of_ble_eq_true rfl, Nat.le_of_ble_eq_true rfl⟩ (Nat.le_of_ble_eq_true rfl) ?_
  refine lv_aload_n hx hb dX6_init_4 rfl (lv_at hl 0 rfl) ?_
  refine lv_bipush (v := 12) hx hb dX6_init_5 (by decide) ?_
  refine kArr (atype := .int) (ty := .int) (a0 := (12, .inl (fun _ => 0))) (N' := 12) C hK hw hA mw_1_87 rfl 0 rfl (fun cA => rfl) (by decide) rfl (by decide) (Nat.le_of_ble_eq_true rfl) (Nat.le_of_ble_eq_true rfl) dX6_init_7 (fun q H hw => ?_)
  refine kPutF C hin hK hw (C9 := RX6) (T := TX6) (N := 2) (ci := 8) hwX6 tyX6 tyX6_ok nmX6 rfl 0 (by decide) rfl 1 (by decide) mw_1_105 rfl rfl (ty1 := .array .int) (v := .ref q) rfl rfl rfl (Nat.le_of_ble_eq_true rfl) dX6_init_9 (fun H locs hw => ?_)
  exact kRet C hw rfl (fun o ho => by
    rcases (show o = 0 ∨ o = 1 by omega) with e | e <;> subst e <;> rfl) dX6_init_12
def rm_X1_init : Room := { frames := 1, cells := 2, slots := 272, locals := 40 }
set_option maxHeartbeats 4000000 in
set_option maxRecDepth 100000 in
theorem k_X1_init (l : Launch) (D : va_G) (ct : Nat → ClassId) (h sz : Nat) : MetK l yX1_init cX1_init 1 rm_X1_init D ct h (.inr (3, [.int 0, .null, .null])) sz 2 272 (fun a o => if o = 0 then .inr (3, [.int 1, .ref (a 1), .ref (a 2)]) else if o = 1 then .inl (ct 0, 16, .inl (fun _ => 0)) else .inl (ct 1, 256, .inr (.inl (fun _ => 0)))) := by
  refine MetK.of RX1 (by decide) rfl rfl (by decide) ?_
  intro p e s m args below meth c C hin hK hX hsz hw ls hl
  obtain ⟨hx, hb, hr, hml, hown, htL, hlocks⟩ := id C
  have hA : ∀ q, s.heap.size ≤ q → FK h sz q := fun q hq => Or.inr (by rw [← hsz]; exact hq)
  refine lv_aload_n hx hb dX1_init_0 rfl (lv_at hl 0 rfl) ?_
  refine kObj C hl.1 mw_1_200 mw_1_31 mw_1_32 dX1_init_1 ⟨Nat.le_of_ble_eq_true rfl, Nat.le_of_ble_eq_true rfl⟩ (Nat.le_of_ble_eq_true rfl) ?_
  refine lv_aload_n hx hb dX1_init_4 rfl (lv_at hl 0 rfl) ?_
  refine lv_iconst (v := 1) hx hb dX1_init_5 (by decide) ?_
  refine kPut C hK hw (C9 := RX1) (T := TX1) (N := 3) (ci := 3) hwX1 tyX1 tyX1_ok nmX1 rfl 0 (by decide) rfl 0 (by decide) mw_1_201 rfl (ty1 := .int) (v := .int 1) rfl rfl rfl (Nat.le_of_ble_eq_true rfl) dX1_init_6 (fun H locs hw => ?_)
  refine lv_aload_n hx hb dX1_init_9 rfl (lv_at hl 0 rfl) ?_
  refine lv_bipush (v := 16) hx hb dX1_init_10 (by decide) ?_
  refine kArr (atype := .int) (ty := .int) (a0 := (16, .inl (fun _ => 0))) (N' := 16) C hK hw hA mw_1_87 rfl 0 rfl (fun cA => rfl) (by decide) rfl (by decide) (Nat.le_of_ble_eq_true rfl) (Nat.le_of_ble_eq_true rfl) dX1_init_12 (fun q1 H hw => ?_)
  refine kPutF C hin hK hw (C9 := RX1) (T := TX1) (N := 3) (ci := 3) hwX1 tyX1 tyX1_ok nmX1 rfl 0 (by decide) rfl 1 (by decide) mw_1_203 rfl rfl (ty1 := .array .int) (v := .ref q1) rfl rfl rfl (Nat.le_of_ble_eq_true rfl) dX1_init_14 (fun H locs hw => ?_)
  refine lv_aload_n hx hb dX1_init_17 rfl (lv_at hl 0 rfl) ?_
  refine lv_sipush (v := 256) hx hb dX1_init_18 (by decide) ?_
  refine kArr (atype := .long) (ty := .long) (a0 := (256, .inr (.inl (fun _ => 0)))) (N' := 256) C hK hw hA mw_1_64 rfl 1 rfl (fun cA => rfl) (by decide) rfl (by decide) (Nat.le_of_ble_eq_true rfl) (Nat.le_of_ble_eq_true rfl) dX1_init_21 (fun q2 H hw => ?_)
  refine kPutF C hin hK hw (C9 := RX1) (T := TX1) (N := 3) (ci := 3) hwX1 tyX1 tyX1_ok nmX1 rfl 0 (by decide) rfl 2 (by decide) mw_1_204 rfl rfl (ty1 := .array .long) (v := .ref q2) rfl rfl rfl (Nat.le_of_ble_eq_true rfl) dX1_init_23 (fun H locs hw => ?_)
  exact kRet C hw rfl (fun o ho => by
    rcases (show o = 0 ∨ o = 1 ∨ o = 2 by omega) with e | e | e <;> subst e <;> rfl) dX1_init_26
def rm_X2_init : Room := { frames := 1, cells := 1, slots := 30, locals := 60 }
set_option maxHeartbeats 4000000 in
set_option maxRecDepth 100000 in
theorem k_X2_init (l : Launch) (D : va_G) (ct : Nat → ClassId) (h sz : Nat) : MetK l yX2_init cX2_init 1 rm_X2_init D ct h (.inr (4, [.int 0, .int 0, .null])) sz 1 30 (fun a o => if o = 0 then .inr (4, [.int 5, .int 12, .ref (a 1)]) else .inl (ct 1, 30, .inr (.inl (SN5.2 1)))) := by
  refine MetK.of RX2 (by decide) rfl rfl (by decide) ?_
  intro p e s m args below meth c C hin hK hX hsz hw ls hl
  obtain ⟨hx, hb, hr, hml, hown, htL, hlocks⟩ := id C
  have hA : ∀ q, s.heap.size ≤ q → FK h sz q := fun q hq => Or.inr (by rw [← hsz]; exact hq)
  refine lv_aload_n hx hb dX2_init_0 rfl (lv_at hl 0 rfl) ?_
  refine kObj C hl.1 mw_1_44 mw_1_31 mw_1_32 dX2_init_1 ⟨Nat.le_of_ble_eq_true rfl, Nat.le_of_ble_eq_true rfl⟩ (Nat.le_of_ble_eq_true rfl) ?_
  refine lv_aload_n hx hb dX2_init_4 rfl (lv_at hl 0 rfl) ?_
  refine lv_bipush (v := 30) hx hb dX2_init_5 (by decide) ?_
  refine kArr (atype := .long) (ty := .long) (a0 := (30, .inr (.inl (fun _ => 0)))) (N' := 30) C hK hw hA mw_1_64 rfl 1 rfl (fun cA => rfl) (by decide) rfl (by decide) (Nat.le_of_ble_eq_true rfl) (Nat.le_of_ble_eq_true rfl) dX2_init_7 (fun q H hw => ?_)
  refine kPutF C hin hK hw (C9 := RX2) (T := TX2) (N := 3) (ci := 4) hwX2 tyX2 tyX2_ok nmX2 rfl 0 (by decide) rfl 2 (by decide) mw_1_56 rfl rfl (ty1 := .array .long) (v := .ref q) rfl rfl rfl (Nat.le_of_ble_eq_true rfl) dX2_init_9 (fun H locs hw => ?_)
  refine lv_aload_n hx hb dX2_init_12 rfl (lv_at hl 0 rfl) ?_
  refine lv_iconst (v := 5) hx hb dX2_init_13 (by decide) ?_
  obtain ⟨ad, had⟩ : ∃ z : Nat → Nat, z = va_up (fun _ => h) 1 q := ⟨_, rfl⟩
  have had0 : ad 0 = h := by rw [had]; rfl
  have had1 : ad 1 = q := by rw [had]; rfl
  have hw := hw.congr (ad' := ad) (g' := fun o => shN ct ad o (SN0.1 o) (SN0.2 o)) (fun o ho => by
    rw [had]
    refine ⟨rfl, ?_⟩
    rcases (show o = 0 ∨ o = 1 by omega) with e | e <;> subst e <;> rfl)
  obtain ⟨hP, hD, hS⟩ := hw
  have hP : va_P D vwCl (cellsN ct ad SN0) H := hP
  have hD : va_D (FK h sz) (cellsN ct ad SN0) := hD
  have hG : Gd ad 2 (FK h sz) := ⟨fun i j hi hj e => hD.1 i j _ _ (cC hi) (cC hj) e, fun i hi => hD.2 i _ (cC hi)⟩
  rw [← had0]
  refine hc_V (As := [.int 5]) (rest := []) C hK (c_N_turnTo l D ct ad (FK h sz) hG 5 SN0 SN5 tN5) hl.1 cp_X2_turnTo mw_1_45 (va_recv (q := (RX2, TX2, 3)) hK hP (ci := 4) rfl (q0 := 0) (cC (by decide))) hP hS ⟨rfl, rfl⟩ ⟨Nat.le_of_ble_eq_true rfl, Nat.le_of_ble_eq_true rfl⟩ rfl rfl (Nat.le_of_ble_eq_true rfl) dX2_init_14 ⟨Nat.le_of_ble_eq_true rfl, Nat.le_of_ble_eq_true rfl⟩ (fun H locs hP hS => ?_)
  have hw : KW D s (FK h sz) 2 ad (fun o => shN ct ad o (SN5.1 o) (SN5.2 o)) H locs := ⟨hP, cD hG, hS⟩
  rw [had0]
  exact kRet C hw had0 (fun o ho => by
    rcases (show o = 0 ∨ o = 1 by omega) with e | e <;> subst e
    · show shN ct ad 0 (SN5.1 0) (SN5.2 0) = _
      simp only [shN, if_pos, SN5_p.1, SN5_p.2]
    · rfl) dX2_init_17
