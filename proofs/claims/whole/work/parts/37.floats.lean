theorem he_f {p : Program} {l : Launch} {e : Env} {R : Room} {s : State} {m : MethodId} {args : Array Value} {below : List Frame} {meth : Method} {c : Code} {cc : ByteArray} {own : String} {nL pc : Nat} {ls : Array Slot} {H : Heap} {locs : List Loc} {D : va_G} {F : Nat → Prop} {w : va_W} {x : UInt32} (C : Cx p c cc meth s m args own (some .float) nL) (hP : va_P D vwCl w H) (hS : va_S F s.heap H locs) (hdg : decode cc pc = .ok (.freturn, 1)) :
    W p l e R s m args below meth c H locs 0 0 (MQ below (Hq D w F (some (.float x))) args s 0 0 F) (F0 m pc ls [.float x]) := by
  obtain ⟨hx, hb, hr, hml, hown, htL, hlocks⟩ := C
  exact W.fret hx hb hr (fun t ht _ => ⟨rfl, by rw [ht]; exact hP, hS.F ht⟩) hS.2.2 hdg hlocks
theorem he_d {p : Program} {l : Launch} {e : Env} {R : Room} {s : State} {m : MethodId} {args : Array Value} {below : List Frame} {meth : Method} {c : Code} {cc : ByteArray} {own : String} {nL pc : Nat} {ls : Array Slot} {H : Heap} {locs : List Loc} {D : va_G} {F : Nat → Prop} {w : va_W} {x : UInt64} (C : Cx p c cc meth s m args own (some .double) nL) (hP : va_P D vwCl w H) (hS : va_S F s.heap H locs) (hdg : decode cc pc = .ok (.dreturn, 1)) :
    W p l e R s m args below meth c H locs 0 0 (MQ below (Hq D w F (some (.double x))) args s 0 0 F) (F0 m pc ls [.double x]) := by
  obtain ⟨hx, hb, hr, hml, hown, htL, hlocks⟩ := C
  exact W.dret hx hb hr (fun t ht _ => ⟨rfl, by rw [ht]; exact hP, hS.F ht⟩) hS.2.2 hdg hlocks
def rm_X10_nothingShare : Room := { frames := 1, cells := 0, slots := 0, locals := 26 }
set_option maxHeartbeats 4000000 in
set_option maxRecDepth 100000 in
theorem c_X10_nothingShare (l : Launch) (D : va_G) (ct : Nat → ClassId) (ad : Nat → Nat) (F : Nat → Prop) (hG : Gd ad 18 F)  (S0 : St)  (r : UInt32) (S' : St) (hf : f_X10_nothingShare  S0 = some (r, S')) : MetH l yX10_nothingShare cX10_nothingShare 3 (some .float) rm_X10_nothingShare D (tysW ct) F [.ref (ad 0)] (some (.float r)) (cellsM ct ad S0) (cellsM ct ad S') := by
  refine MetH.of RX10 (by decide) rfl (Nat.le_of_ble_eq_true rfl) ?_
  intro p e s m args below meth c C hK hP ls hl
  have hl : lv_has ls 3 [(0, .ref (ad 0))] := hl
  obtain ⟨hx, hb, hr, hml, hown, htL, hlocks⟩ := id C
  have hS : va_S F s.heap s.heap [] := va_S.rf
  generalize hQ : MQ below (Hq D (cellsM ct ad S') F (some (.float r))) args s 0 0 F = Q
  have w_26 : ∀ (x1 : Int32) (x2 : Int32) (S : St), ∀ (H : Heap) (locs : List Loc) (ls : Array Slot), lv_has ls 3 [(0, .ref (ad 0)), (1, .int x1), (2, .int x2)] → va_P D vwCl (cellsM ct ad S) H → va_S F s.heap H locs → n_X10_nothingShare_26 x1 x2 S = some (r, S') → W p l e rm_X10_nothingShare s m args below meth c H locs 0 0 Q (F0 m 26 ls []) := by
    have aux : ∀ (n : Nat), ∀ (x1 : Int32) (x2 : Int32) (S : St), ∀ (H : Heap) (locs : List Loc) (ls : Array Slot), lv_has ls 3 [(0, .ref (ad 0)), (1, .int x1), (2, .int x2)] → va_P D vwCl (cellsM ct ad S) H → va_S F s.heap H locs → itr (fun (q : Int32 × Int32 × St) k => s_X10_nothingShare_26  (fun (x1 : Int32) (x2 : Int32) (S : St) => k (x1, x2, S)) q.1 q.2.1 q.2.2) n (x1, x2, S) = some (r, S') → W p l e rm_X10_nothingShare s m args below meth c H locs 0 0 Q (F0 m 26 ls []) := by
      intro n
      induction n with
      | zero => intro x1 x2 S H locs ls hl hP hS hf; exact (itr_z hf).elim
      | succ n ih =>
      intro x1 x2 S H locs ls hl hP hS hf
      have hk_26 := ih
      have hf : s_X10_nothingShare_26  (fun (x1 : Int32) (x2 : Int32) (S : St) => itr (fun (q : Int32 × Int32 × St) k => s_X10_nothingShare_26  (fun (x1 : Int32) (x2 : Int32) (S : St) => k (x1, x2, S)) q.1 q.2.1 q.2.2) n (x1, x2, S)) x1 x2 S = some (r, S') := hf
      refine lv_iload_n hx hb dX10_nothingShare_26 rfl (lv_at hl 2 rfl) ?_
      refine lv_aload_n hx hb dX10_nothingShare_27 rfl (lv_at hl 0 rfl) ?_
      refine gf_X10_19 C hK hP mw_5_181 dX10_nothingShare_28 ?_
      refine lv_icmp_ge (tgt := 59) hx hb dX10_nothingShare_31 (by decide) (fun c1 => ?_) (fun c1 => ?_)
      · have hf := sp1 c1 hf
        refine lv_iload_n hx hb dX10_nothingShare_59 rfl (lv_at hl 1 rfl) ?_
        refine lv_i2f hx hb dX10_nothingShare_60 ?_
        refine lv_aload_n hx hb dX10_nothingShare_61 rfl (lv_at hl 0 rfl) ?_
        refine gf_X10_19 C hK hP mw_5_181 dX10_nothingShare_62 ?_
        refine lv_i2f hx hb dX10_nothingShare_65 ?_
        obtain ⟨c2, hf⟩ := spy hf
        refine lv_fdiv hx hb dX10_nothingShare_66 c2 ?_
        cases hf
        subst hQ
        exact he_f C hP hS dX10_nothingShare_67
      · have hf := sp0 c1 hf
        refine lv_iload_n hx hb dX10_nothingShare_34 rfl (lv_at hl 1 rfl) ?_
        refine lv_aload_n hx hb dX10_nothingShare_35 rfl (lv_at hl 0 rfl) ?_
        refine gf_X10_7 C hK hP mw_5_169 dX10_nothingShare_36 ?_
        refine lv_iload_n hx hb dX10_nothingShare_39 rfl (lv_at hl 2 rfl) ?_
        obtain ⟨c3, hf⟩ := spn hf
        refine al_M8 C hK hP c3 dX10_nothingShare_40 ?_
        refine lv_lconst (v := 0) hx hb dX10_nothingShare_41 (by decide) ?_
        refine W.lcmp hx hb dX10_nothingShare_42 ?_
        refine lv_if_ne (tgt := 50) hx hb dX10_nothingShare_43 (by decide) (fun c4 => ?_) (fun c4 => ?_)
        · have hf := sp0 c4 hf
          refine lv_iconst (v := 0) hx hb dX10_nothingShare_50 (by decide) ?_
          refine lv_iadd hx hb dX10_nothingShare_51 ?_
          refine lv_istore_n (lv' := [(1, .int (x1 + 0)), (0, .ref (ad 0)), (2, .int x2)]) hx hb dX10_nothingShare_52 rfl hl (by decide) rfl (fun ls hl => ?_)
          refine lv_iinc (v := (x2 + 1)) (lv' := [(2, .int (x2 + 1)), (1, .int (x1 + 0)), (0, .ref (ad 0))]) hx hb dX10_nothingShare_53 hl (k := 2) rfl rfl (by decide) rfl (fun ls hl => ?_)
          refine lv_goto (tgt := 26) hx hb dX10_nothingShare_56 (by decide) ?_
          exact hk_26 (x1 + 0) (x2 + 1) S _ _ _ (lv_sub hl [2, 1, 0] rfl) hP hS hf
        · have hf := sp1 c4 hf
          refine lv_iconst (v := 1) hx hb dX10_nothingShare_46 (by decide) ?_
          refine lv_goto (tgt := 51) hx hb dX10_nothingShare_47 (by decide) ?_
          refine lv_iadd hx hb dX10_nothingShare_51 ?_
          refine lv_istore_n (lv' := [(1, .int (x1 + 1)), (0, .ref (ad 0)), (2, .int x2)]) hx hb dX10_nothingShare_52 rfl hl (by decide) rfl (fun ls hl => ?_)
          refine lv_iinc (v := (x2 + 1)) (lv' := [(2, .int (x2 + 1)), (1, .int (x1 + 1)), (0, .ref (ad 0))]) hx hb dX10_nothingShare_53 hl (k := 2) rfl rfl (by decide) rfl (fun ls hl => ?_)
          refine lv_goto (tgt := 26) hx hb dX10_nothingShare_56 (by decide) ?_
          exact hk_26 (x1 + 1) (x2 + 1) S _ _ _ (lv_sub hl [2, 1, 0] rfl) hP hS hf
    exact aux FU
  have w_13 : ∀ (y1 : Int32) (S : St), ∀ (H : Heap) (locs : List Loc) (ls : Array Slot), lv_has ls 3 [(0, .ref (ad 0))] → va_P D vwCl (cellsM ct ad S) H → va_S F s.heap H locs → n_X10_nothingShare_13 y1 S = some (r, S') → W p l e rm_X10_nothingShare s m args below meth c H locs 0 0 Q (F0 m 13 ls [.int y1, .ref (ad 0)]) := by
    intro  y1 S H locs ls hl hP hS hf
    refine lv_iconst (v := 1) hx hb dX10_nothingShare_13 (by decide) ?_
    obtain ⟨v6, S7, h5, hf⟩ := b2_some hf
    refine hc_V (As := [.int y1, .int 1]) (rest := []) C hK (c_X10_no l D ct ad F hG y1 1 S  v6 S7 h5) hl.1 cp_X10_no mw_6_21 (rc_X10 hK hP) hP hS ⟨rfl, rfl⟩ ⟨Nat.le_of_ble_eq_true rfl, Nat.le_of_ble_eq_true rfl⟩ rfl rfl (Nat.le_of_ble_eq_true rfl) dX10_nothingShare_14 ⟨Nat.le_of_ble_eq_true rfl, Nat.le_of_ble_eq_true rfl⟩ (fun H locs hP hS => ?_)
    refine lv_if_eq (tgt := 22) hx hb dX10_nothingShare_17 (by decide) (fun c8 => ?_) (fun c8 => ?_)
    · have hf := sp1 c8 hf
      refine lv_iconst (v := 0) hx hb dX10_nothingShare_22 (by decide) ?_
      refine lv_istore_n (lv' := [(1, .int 0), (0, .ref (ad 0))]) hx hb dX10_nothingShare_23 rfl hl (by decide) rfl (fun ls hl => ?_)
      refine lv_iconst (v := 0) hx hb dX10_nothingShare_24 (by decide) ?_
      refine lv_istore_n (lv' := [(2, .int 0), (1, .int 0), (0, .ref (ad 0))]) hx hb dX10_nothingShare_25 rfl hl (by decide) rfl (fun ls hl => ?_)
      exact w_26 0 0 S7 _ _ _ (lv_sub hl [2, 1, 0] rfl) hP hS hf
    · have hf := sp0 c8 hf
      refine lv_fconst0 hx hb dX10_nothingShare_20 ?_
      cases hf
      subst hQ
      exact he_f C hP hS dX10_nothingShare_21
  refine lv_aload_n hx hb dX10_nothingShare_0 rfl (lv_at hl 0 rfl) ?_
  refine lv_aload_n hx hb dX10_nothingShare_1 rfl (lv_at hl 0 rfl) ?_
  refine gf_X10_19 C hK hP mw_5_181 dX10_nothingShare_2 ?_
  refine lv_if_le (tgt := 12) hx hb dX10_nothingShare_5 (by decide) (fun c9 => ?_) (fun c9 => ?_)
  · have hf := sp1 c9 hf
    refine lv_iconst (v := 0) hx hb dX10_nothingShare_12 (by decide) ?_
    exact w_13 0 S0 _ _ _ (lv_sub hl [0] rfl) hP hS hf
  · have hf := sp0 c9 hf
    refine lv_iconst (v := 1) hx hb dX10_nothingShare_8 (by decide) ?_
    refine lv_goto (tgt := 13) hx hb dX10_nothingShare_9 (by decide) ?_
    exact w_13 1 S0 _ _ _ (lv_sub hl [0] rfl) hP hS hf
theorem cp_X10_nothingShare : CPv yX10_nothingShare cX10_nothingShare 3 (some .float) 0 := ⟨mw_7_120, mw_1_9, mw_7_118, mw_7_119, by decide +kernel⟩
def rm_X10_meanDigits : Room := { frames := 1, cells := 0, slots := 0, locals := 26 }
set_option maxHeartbeats 4000000 in
set_option maxRecDepth 100000 in
theorem c_X10_meanDigits (l : Launch) (D : va_G) (ct : Nat → ClassId) (ad : Nat → Nat) (F : Nat → Prop) (hG : Gd ad 18 F)  (S0 : St)  (r : UInt64) (S' : St) (hf : f_X10_meanDigits  S0 = some (r, S')) : MetH l yX10_meanDigits cX10_meanDigits 3 (some .double) rm_X10_meanDigits D (tysW ct) F [.ref (ad 0)] (some (.double r)) (cellsM ct ad S0) (cellsM ct ad S') := by
  refine MetH.of RX10 (by decide) rfl (Nat.le_of_ble_eq_true rfl) ?_
  intro p e s m args below meth c C hK hP ls hl
  have hl : lv_has ls 3 [(0, .ref (ad 0))] := hl
  obtain ⟨hx, hb, hr, hml, hown, htL, hlocks⟩ := id C
  have hS : va_S F s.heap s.heap [] := va_S.rf
  generalize hQ : MQ below (Hq D (cellsM ct ad S') F (some (.double r))) args s 0 0 F = Q
  have w_26 : ∀ (x1 : Int32) (x2 : Int32) (S : St), ∀ (H : Heap) (locs : List Loc) (ls : Array Slot), lv_has ls 3 [(0, .ref (ad 0)), (1, .int x1), (2, .int x2)] → va_P D vwCl (cellsM ct ad S) H → va_S F s.heap H locs → n_X10_meanDigits_26 x1 x2 S = some (r, S') → W p l e rm_X10_meanDigits s m args below meth c H locs 0 0 Q (F0 m 26 ls []) := by
    have aux : ∀ (n : Nat), ∀ (x1 : Int32) (x2 : Int32) (S : St), ∀ (H : Heap) (locs : List Loc) (ls : Array Slot), lv_has ls 3 [(0, .ref (ad 0)), (1, .int x1), (2, .int x2)] → va_P D vwCl (cellsM ct ad S) H → va_S F s.heap H locs → itr (fun (q : Int32 × Int32 × St) k => s_X10_meanDigits_26  (fun (x1 : Int32) (x2 : Int32) (S : St) => k (x1, x2, S)) q.1 q.2.1 q.2.2) n (x1, x2, S) = some (r, S') → W p l e rm_X10_meanDigits s m args below meth c H locs 0 0 Q (F0 m 26 ls []) := by
      intro n
      induction n with
      | zero => intro x1 x2 S H locs ls hl hP hS hf; exact (itr_z hf).elim
      | succ n ih =>
      intro x1 x2 S H locs ls hl hP hS hf
      have hk_26 := ih
      have hf : s_X10_meanDigits_26  (fun (x1 : Int32) (x2 : Int32) (S : St) => itr (fun (q : Int32 × Int32 × St) k => s_X10_meanDigits_26  (fun (x1 : Int32) (x2 : Int32) (S : St) => k (x1, x2, S)) q.1 q.2.1 q.2.2) n (x1, x2, S)) x1 x2 S = some (r, S') := hf
      refine lv_iload_n hx hb dX10_meanDigits_26 rfl (lv_at hl 2 rfl) ?_
      refine lv_aload_n hx hb dX10_meanDigits_27 rfl (lv_at hl 0 rfl) ?_
      refine gf_X10_19 C hK hP mw_5_181 dX10_meanDigits_28 ?_
      refine lv_icmp_ge (tgt := 56) hx hb dX10_meanDigits_31 (by decide) (fun c1 => ?_) (fun c1 => ?_)
      · have hf := sp1 c1 hf
        refine lv_iload_n hx hb dX10_meanDigits_56 rfl (lv_at hl 1 rfl) ?_
        refine lv_i2d hx hb dX10_meanDigits_57 ?_
        refine lv_aload_n hx hb dX10_meanDigits_58 rfl (lv_at hl 0 rfl) ?_
        refine gf_X10_19 C hK hP mw_5_181 dX10_meanDigits_59 ?_
        refine lv_i2d hx hb dX10_meanDigits_62 ?_
        obtain ⟨c2, hf⟩ := spy hf
        refine lv_ddiv hx hb dX10_meanDigits_63 c2 ?_
        cases hf
        subst hQ
        exact he_d C hP hS dX10_meanDigits_64
      · have hf := sp0 c1 hf
        refine lv_iload_n hx hb dX10_meanDigits_34 rfl (lv_at hl 1 rfl) ?_
        refine lv_aload_n hx hb dX10_meanDigits_35 rfl (lv_at hl 0 rfl) ?_
        refine gf_X10_1 C hK hP mw_5_163 dX10_meanDigits_36 ?_
        refine lv_iload_n hx hb dX10_meanDigits_39 rfl (lv_at hl 2 rfl) ?_
        obtain ⟨c3, hf⟩ := spn hf
        refine al_M2 C hK hP c3 dX10_meanDigits_40 ?_
        refine lv_aload_n hx hb dX10_meanDigits_41 rfl (lv_at hl 0 rfl) ?_
        refine gf_X10_0 C hK hP mw_5_162 dX10_meanDigits_42 ?_
        refine lv_iload_n hx hb dX10_meanDigits_45 rfl (lv_at hl 2 rfl) ?_
        obtain ⟨c4, hf⟩ := spn hf
        refine al_M1 C hK hP c4 dX10_meanDigits_46 ?_
        refine lv_isub hx hb dX10_meanDigits_47 ?_
        refine lv_iadd hx hb dX10_meanDigits_48 ?_
        refine lv_istore_n (lv' := [(1, .int (x1 + ((S.1 2 (Int32.toNatClampNeg x2)) - (S.1 1 (Int32.toNatClampNeg x2))))), (0, .ref (ad 0)), (2, .int x2)]) hx hb dX10_meanDigits_49 rfl hl (by decide) rfl (fun ls hl => ?_)
        refine lv_iinc (v := (x2 + 1)) (lv' := [(2, .int (x2 + 1)), (1, .int (x1 + ((S.1 2 (Int32.toNatClampNeg x2)) - (S.1 1 (Int32.toNatClampNeg x2))))), (0, .ref (ad 0))]) hx hb dX10_meanDigits_50 hl (k := 2) rfl rfl (by decide) rfl (fun ls hl => ?_)
        refine lv_goto (tgt := 26) hx hb dX10_meanDigits_53 (by decide) ?_
        exact hk_26 (x1 + ((S.1 2 (Int32.toNatClampNeg x2)) - (S.1 1 (Int32.toNatClampNeg x2)))) (x2 + 1) S _ _ _ (lv_sub hl [2, 1, 0] rfl) hP hS hf
    exact aux FU
  have w_13 : ∀ (y1 : Int32) (S : St), ∀ (H : Heap) (locs : List Loc) (ls : Array Slot), lv_has ls 3 [(0, .ref (ad 0))] → va_P D vwCl (cellsM ct ad S) H → va_S F s.heap H locs → n_X10_meanDigits_13 y1 S = some (r, S') → W p l e rm_X10_meanDigits s m args below meth c H locs 0 0 Q (F0 m 13 ls [.int y1, .ref (ad 0)]) := by
    intro  y1 S H locs ls hl hP hS hf
    refine lv_iconst (v := 1) hx hb dX10_meanDigits_13 (by decide) ?_
    obtain ⟨v6, S7, h5, hf⟩ := b2_some hf
    refine hc_V (As := [.int y1, .int 1]) (rest := []) C hK (c_X10_no l D ct ad F hG y1 1 S  v6 S7 h5) hl.1 cp_X10_no mw_6_21 (rc_X10 hK hP) hP hS ⟨rfl, rfl⟩ ⟨Nat.le_of_ble_eq_true rfl, Nat.le_of_ble_eq_true rfl⟩ rfl rfl (Nat.le_of_ble_eq_true rfl) dX10_meanDigits_14 ⟨Nat.le_of_ble_eq_true rfl, Nat.le_of_ble_eq_true rfl⟩ (fun H locs hP hS => ?_)
    refine lv_if_eq (tgt := 22) hx hb dX10_meanDigits_17 (by decide) (fun c8 => ?_) (fun c8 => ?_)
    · have hf := sp1 c8 hf
      refine lv_iconst (v := 0) hx hb dX10_meanDigits_22 (by decide) ?_
      refine lv_istore_n (lv' := [(1, .int 0), (0, .ref (ad 0))]) hx hb dX10_meanDigits_23 rfl hl (by decide) rfl (fun ls hl => ?_)
      refine lv_iconst (v := 0) hx hb dX10_meanDigits_24 (by decide) ?_
      refine lv_istore_n (lv' := [(2, .int 0), (1, .int 0), (0, .ref (ad 0))]) hx hb dX10_meanDigits_25 rfl hl (by decide) rfl (fun ls hl => ?_)
      exact w_26 0 0 S7 _ _ _ (lv_sub hl [2, 1, 0] rfl) hP hS hf
    · have hf := sp0 c8 hf
      refine lv_dconst0 hx hb dX10_meanDigits_20 ?_
      cases hf
      subst hQ
      exact he_d C hP hS dX10_meanDigits_21
  refine lv_aload_n hx hb dX10_meanDigits_0 rfl (lv_at hl 0 rfl) ?_
  refine lv_aload_n hx hb dX10_meanDigits_1 rfl (lv_at hl 0 rfl) ?_
  refine gf_X10_19 C hK hP mw_5_181 dX10_meanDigits_2 ?_
  refine lv_if_le (tgt := 12) hx hb dX10_meanDigits_5 (by decide) (fun c9 => ?_) (fun c9 => ?_)
  · have hf := sp1 c9 hf
    refine lv_iconst (v := 0) hx hb dX10_meanDigits_12 (by decide) ?_
    exact w_13 0 S0 _ _ _ (lv_sub hl [0] rfl) hP hS hf
  · have hf := sp0 c9 hf
    refine lv_iconst (v := 1) hx hb dX10_meanDigits_8 (by decide) ?_
    refine lv_goto (tgt := 13) hx hb dX10_meanDigits_9 (by decide) ?_
    exact w_13 1 S0 _ _ _ (lv_sub hl [0] rfl) hP hS hf
theorem cp_X10_meanDigits : CPv yX10_meanDigits cX10_meanDigits 3 (some .double) 0 := ⟨mw_7_124, mw_1_9, mw_7_122, mw_7_123, by decide +kernel⟩
def rm_X9_nothingShare : Room := { frames := 8, cells := 0, slots := 0, locals := 140 }
set_option maxHeartbeats 4000000 in
set_option maxRecDepth 100000 in
theorem c_X9_nothingShare (l : Launch) (D : va_G) (ct : Nat → ClassId) (ad : Nat → Nat) (F : Nat → Prop) (hG : Gd ad 70 F)  (S0 : St)  (r : UInt32) (hf : f_X9_nothingShare  S0 = some (.ok r)) : MetH l yX9_nothingShare cX9_nothingShare 1 (some .float) rm_X9_nothingShare D (tysW ct) F [.ref (ad 0)] (some (.float r)) (cellsC ct ad S0) (cellsC ct ad S0) := by
  refine MetH.of RX9 (by decide) rfl (Nat.le_of_ble_eq_true rfl) ?_
  intro p e s m args below meth c C hK hP ls hl
  have hl : lv_has ls 1 [(0, .ref (ad 0))] := hl
  obtain ⟨hx, hb, hr, hml, hown, htL, hlocks⟩ := id C
  have hS : va_S F s.heap s.heap [] := va_S.rf
  generalize hQ : MQ below (Hq D (cellsC ct ad S0) F (some (.float r))) args s 0 0 F = Q
  refine lv_aload_n hx hb dX9_nothingShare_0 rfl (lv_at hl 0 rfl) ?_
  refine gf_X9_0 C hK hP mw_1_212 dX9_nothingShare_1 ?_
  refine gf_X5_3 C hK hP mw_1_176 dX9_nothingShare_4 ?_
  refine lv_if_ne (tgt := 21) hx hb dX9_nothingShare_7 (by decide) (fun c1 => ?_) (fun c1 => ?_)
  · have hf := sp0 c1 hf
    refine lv_aload_n hx hb dX9_nothingShare_21 rfl (lv_at hl 0 rfl) ?_
    refine gf_X9_0 C hK hP mw_1_212 dX9_nothingShare_22 ?_
    obtain ⟨v3, h2, hf⟩ := b1_some hf
    refine hc_V (As := []) (rest := []) C hK (c_X5_nothingCount l D ct ad F hG S0  v3 h2) hl.1 cp_X5_nothingCount mw_5_141 (rc_X5 hK hP) hP hS ⟨rfl, rfl⟩ ⟨Nat.le_of_ble_eq_true rfl, Nat.le_of_ble_eq_true rfl⟩ rfl rfl (Nat.le_of_ble_eq_true rfl) dX9_nothingShare_25 ⟨Nat.le_of_ble_eq_true rfl, Nat.le_of_ble_eq_true rfl⟩ (fun H locs hP hS => ?_)
    refine lv_i2f hx hb dX9_nothingShare_28 ?_
    refine lv_aload_n hx hb dX9_nothingShare_29 rfl (lv_at hl 0 rfl) ?_
    refine gf_X9_0 C hK hP mw_1_212 dX9_nothingShare_30 ?_
    refine gf_X5_3 C hK hP mw_1_176 dX9_nothingShare_33 ?_
    refine lv_i2f hx hb dX9_nothingShare_36 ?_
    obtain ⟨c4, hf⟩ := spy hf
    refine lv_fdiv hx hb dX9_nothingShare_37 c4 ?_
    cases hf
    subst hQ
    exact he_f C hP hS dX9_nothingShare_38
  · have hf := sp1 c1 hf
    cases hf
theorem cp_X9_nothingShare : CPv yX9_nothingShare cX9_nothingShare 1 (some .float) 0 := ⟨mw_5_139, mw_1_1, mw_5_137, mw_5_138, by decide +kernel⟩
def rmx_X9_nothingShare : Room := { frames := 8, cells := 1, slots := 6, locals := 140 }
set_option maxHeartbeats 4000000 in
set_option maxRecDepth 100000 in
theorem x_X9_nothingShare (l : Launch) (hl0 : l.stackTraces = false) (D : va_G) (ct : Nat → ClassId) (ad : Nat → Nat) (F : Nat → Prop) (hG : Gd ad 70 F)  (S0 : St)  (n : Nat) (hf : f_X9_nothingShare  S0 = some (.error n)) : MetX l yX9_nothingShare cX9_nothingShare 1 (some .float) rmx_X9_nothingShare D (tysW ct) F [.ref (ad 0)] (cellsC ct ad S0) (cellsC ct ad S0) n := by
  refine MetX.of RX9 (by decide) rfl (Nat.le_of_ble_eq_true rfl) ?_
  intro p e s m args below meth c C hPk hK hP hXf ls hl
  have hl : lv_has ls 1 [(0, .ref (ad 0))] := hl
  obtain ⟨hx, hb, hr, hml, hown, htL, hlocks⟩ := id C
  have hS : va_S F s.heap s.heap [] := va_S.rf
  generalize hQ : vx_MQ below (fun _ _ _ _ => False) (XQ D (cellsC ct ad S0) F n) args s 1 6 F = Q
  refine lv_aload_n hx hb dX9_nothingShare_0 rfl (lv_at hl 0 rfl) ?_
  refine gf_X9_0 C hK hP mw_1_212 dX9_nothingShare_1 ?_
  refine gf_X5_3 C hK hP mw_1_176 dX9_nothingShare_4 ?_
  refine lv_if_ne (tgt := 21) hx hb dX9_nothingShare_7 (by decide) (fun c1 => ?_) (fun c1 => ?_)
  · have hf := sp0 c1 hf
    refine lv_aload_n hx hb dX9_nothingShare_21 rfl (lv_at hl 0 rfl) ?_
    refine gf_X9_0 C hK hP mw_1_212 dX9_nothingShare_22 ?_
    obtain ⟨v3, h2, hf⟩ := b1_some hf
    refine hc_V (As := []) (rest := []) C hK (c_X5_nothingCount l D ct ad F hG S0  v3 h2) hl.1 cp_X5_nothingCount mw_5_141 (rc_X5 hK hP) hP hS ⟨rfl, rfl⟩ ⟨Nat.le_of_ble_eq_true rfl, Nat.le_of_ble_eq_true rfl⟩ rfl rfl (Nat.le_of_ble_eq_true rfl) dX9_nothingShare_25 ⟨Nat.le_of_ble_eq_true rfl, Nat.le_of_ble_eq_true rfl⟩ (fun H locs hP hS => ?_)
    refine lv_i2f hx hb dX9_nothingShare_28 ?_
    refine lv_aload_n hx hb dX9_nothingShare_29 rfl (lv_at hl 0 rfl) ?_
    refine gf_X9_0 C hK hP mw_1_212 dX9_nothingShare_30 ?_
    refine gf_X5_3 C hK hP mw_1_176 dX9_nothingShare_33 ?_
    refine lv_i2f hx hb dX9_nothingShare_36 ?_
    obtain ⟨c4, hf⟩ := spy hf
    refine lv_fdiv hx hb dX9_nothingShare_37 c4 ?_
    cases hf
  · have hf := sp1 c1 hf
    cases hf
    subst hQ
    exact th_ArithmeticExceptionW C hl0 hXf hPk hP hS hl.1 mw_3_198 (str_290) ⟨Nat.le_of_ble_eq_true rfl, Nat.le_of_ble_eq_true rfl, Nat.le_of_ble_eq_true rfl, Nat.le_of_ble_eq_true rfl⟩ dX9_nothingShare_10 dX9_nothingShare_13 dX9_nothingShare_14 dX9_nothingShare_17 dX9_nothingShare_20
def rm_X9_meanDigits : Room := { frames := 8, cells := 0, slots := 0, locals := 140 }
set_option maxHeartbeats 4000000 in
set_option maxRecDepth 100000 in
theorem c_X9_meanDigits (l : Launch) (D : va_G) (ct : Nat → ClassId) (ad : Nat → Nat) (F : Nat → Prop) (hG : Gd ad 70 F)  (S0 : St)  (r : UInt64) (hf : f_X9_meanDigits  S0 = some (.ok r)) : MetH l yX9_meanDigits cX9_meanDigits 1 (some .double) rm_X9_meanDigits D (tysW ct) F [.ref (ad 0)] (some (.double r)) (cellsC ct ad S0) (cellsC ct ad S0) := by
  refine MetH.of RX9 (by decide) rfl (Nat.le_of_ble_eq_true rfl) ?_
  intro p e s m args below meth c C hK hP ls hl
  have hl : lv_has ls 1 [(0, .ref (ad 0))] := hl
  obtain ⟨hx, hb, hr, hml, hown, htL, hlocks⟩ := id C
  have hS : va_S F s.heap s.heap [] := va_S.rf
  generalize hQ : MQ below (Hq D (cellsC ct ad S0) F (some (.double r))) args s 0 0 F = Q
  refine lv_aload_n hx hb dX9_meanDigits_0 rfl (lv_at hl 0 rfl) ?_
  refine gf_X9_0 C hK hP mw_1_212 dX9_meanDigits_1 ?_
  refine gf_X5_3 C hK hP mw_1_176 dX9_meanDigits_4 ?_
  refine lv_if_ne (tgt := 21) hx hb dX9_meanDigits_7 (by decide) (fun c1 => ?_) (fun c1 => ?_)
  · have hf := sp0 c1 hf
    refine lv_aload_n hx hb dX9_meanDigits_21 rfl (lv_at hl 0 rfl) ?_
    refine gf_X9_0 C hK hP mw_1_212 dX9_meanDigits_22 ?_
    obtain ⟨v3, h2, hf⟩ := b1_some hf
    refine hc_V (As := []) (rest := []) C hK (c_X5_digitCount l D ct ad F hG S0  v3 h2) hl.1 cp_X5_digitCount mw_5_152 (rc_X5 hK hP) hP hS ⟨rfl, rfl⟩ ⟨Nat.le_of_ble_eq_true rfl, Nat.le_of_ble_eq_true rfl⟩ rfl rfl (Nat.le_of_ble_eq_true rfl) dX9_meanDigits_25 ⟨Nat.le_of_ble_eq_true rfl, Nat.le_of_ble_eq_true rfl⟩ (fun H locs hP hS => ?_)
    refine lv_i2d hx hb dX9_meanDigits_28 ?_
    refine lv_aload_n hx hb dX9_meanDigits_29 rfl (lv_at hl 0 rfl) ?_
    refine gf_X9_0 C hK hP mw_1_212 dX9_meanDigits_30 ?_
    refine gf_X5_3 C hK hP mw_1_176 dX9_meanDigits_33 ?_
    refine lv_i2d hx hb dX9_meanDigits_36 ?_
    obtain ⟨c4, hf⟩ := spy hf
    refine lv_ddiv hx hb dX9_meanDigits_37 c4 ?_
    cases hf
    subst hQ
    exact he_d C hP hS dX9_meanDigits_38
  · have hf := sp1 c1 hf
    cases hf
theorem cp_X9_meanDigits : CPv yX9_meanDigits cX9_meanDigits 1 (some .double) 0 := ⟨mw_5_151, mw_1_1, mw_5_149, mw_5_150, by decide +kernel⟩
def rmx_X9_meanDigits : Room := { frames := 8, cells := 1, slots := 6, locals := 140 }
set_option maxHeartbeats 4000000 in
set_option maxRecDepth 100000 in
theorem x_X9_meanDigits (l : Launch) (hl0 : l.stackTraces = false) (D : va_G) (ct : Nat → ClassId) (ad : Nat → Nat) (F : Nat → Prop) (hG : Gd ad 70 F)  (S0 : St)  (n : Nat) (hf : f_X9_meanDigits  S0 = some (.error n)) : MetX l yX9_meanDigits cX9_meanDigits 1 (some .double) rmx_X9_meanDigits D (tysW ct) F [.ref (ad 0)] (cellsC ct ad S0) (cellsC ct ad S0) n := by
  refine MetX.of RX9 (by decide) rfl (Nat.le_of_ble_eq_true rfl) ?_
  intro p e s m args below meth c C hPk hK hP hXf ls hl
  have hl : lv_has ls 1 [(0, .ref (ad 0))] := hl
  obtain ⟨hx, hb, hr, hml, hown, htL, hlocks⟩ := id C
  have hS : va_S F s.heap s.heap [] := va_S.rf
  generalize hQ : vx_MQ below (fun _ _ _ _ => False) (XQ D (cellsC ct ad S0) F n) args s 1 6 F = Q
  refine lv_aload_n hx hb dX9_meanDigits_0 rfl (lv_at hl 0 rfl) ?_
  refine gf_X9_0 C hK hP mw_1_212 dX9_meanDigits_1 ?_
  refine gf_X5_3 C hK hP mw_1_176 dX9_meanDigits_4 ?_
  refine lv_if_ne (tgt := 21) hx hb dX9_meanDigits_7 (by decide) (fun c1 => ?_) (fun c1 => ?_)
  · have hf := sp0 c1 hf
    refine lv_aload_n hx hb dX9_meanDigits_21 rfl (lv_at hl 0 rfl) ?_
    refine gf_X9_0 C hK hP mw_1_212 dX9_meanDigits_22 ?_
    obtain ⟨v3, h2, hf⟩ := b1_some hf
    refine hc_V (As := []) (rest := []) C hK (c_X5_digitCount l D ct ad F hG S0  v3 h2) hl.1 cp_X5_digitCount mw_5_152 (rc_X5 hK hP) hP hS ⟨rfl, rfl⟩ ⟨Nat.le_of_ble_eq_true rfl, Nat.le_of_ble_eq_true rfl⟩ rfl rfl (Nat.le_of_ble_eq_true rfl) dX9_meanDigits_25 ⟨Nat.le_of_ble_eq_true rfl, Nat.le_of_ble_eq_true rfl⟩ (fun H locs hP hS => ?_)
    refine lv_i2d hx hb dX9_meanDigits_28 ?_
    refine lv_aload_n hx hb dX9_meanDigits_29 rfl (lv_at hl 0 rfl) ?_
    refine gf_X9_0 C hK hP mw_1_212 dX9_meanDigits_30 ?_
    refine gf_X5_3 C hK hP mw_1_176 dX9_meanDigits_33 ?_
    refine lv_i2d hx hb dX9_meanDigits_36 ?_
    obtain ⟨c4, hf⟩ := spy hf
    refine lv_ddiv hx hb dX9_meanDigits_37 c4 ?_
    cases hf
  · have hf := sp1 c1 hf
    cases hf
    subst hQ
    exact th_ArithmeticExceptionW C hl0 hXf hPk hP hS hl.1 mw_3_198 (str_290) ⟨Nat.le_of_ble_eq_true rfl, Nat.le_of_ble_eq_true rfl, Nat.le_of_ble_eq_true rfl, Nat.le_of_ble_eq_true rfl⟩ dX9_meanDigits_10 dX9_meanDigits_13 dX9_meanDigits_14 dX9_meanDigits_17 dX9_meanDigits_20
