abbrev outD (ct : Nat → ClassId) (ao : Nat) (g : Nat → UInt64) : va_W := [(ao, .inl (ct 5, 1, .inr (.inr (.inr (.inl g)))))]
def MetLD (l : Launch) (y : MethodName) (cc : ByteArray) (nL : Nat) (hh : List (Nat × Nat × Nat × Nat)) (rm : Room) (D : va_G) (ct : Nat → ClassId) (ad : Nat → Nat) (ao : Nat) (As : List Value) (k : Int32) (S S' : St) (g g' : Nat → UInt64) : Prop :=
  Met l y (Cond.codeWith y cc nL (some .int) hh :: TB) rm (fun a U => a = As.toArray ∧ va_P D vwCl (cellsC ct ad S) U.heap ∧ va_P D vwCl (outD ct ao g) U.heap ∧ va_K D vwCl (tysW ct) U ∧ Xf (FL ad ao) U ∧ Nc6 U)
    (fun _ st o t => o = .returned (some (.int k)) ∧ va_P D vwCl (cellsC ct ad S') t.heap ∧ va_P D vwCl (outD ct ao g') t.heap ∧ va_F (FL ad ao) st t) 1 6 (FL ad ao)
theorem MetLD.of {l : Launch} {y : MethodName} {cc : ByteArray} {nL : Nat} {hh : List (Nat × Nat × Nat × Nat)} {rm : Room} {D : va_G} {ct : Nat → ClassId} {ad : Nat → Nat} {ao : Nat} {As : List Value} {k : Int32} {S S' : St} {g g' : Nat → UInt64} (own : String) (hy : plainName y.cls = true) (hown : y.cls = own) (hlen : (lg_sl As).length ≤ nL)
    (body : ∀ (p : Program) (e : Env) (s : State) (m : MethodId) (args : Array Value) (below : List Frame) (meth : Method) (c : Code), Cx p c cc meth s m args own (some .int) nL → c.exceptionTable.toList = tableOf hh → va_K D vwCl (tysW ct) s → va_P D vwCl (cellsC ct ad S) s.heap → va_P D vwCl (outD ct ao g) s.heap → Xf (FL ad ao) s → Nc6 s → ∀ ls : Array Slot, lv_has ls nL (lv_args 0 As) →
      W p l e rm s m args below meth c s.heap [] 0 0 (MQ below (fun _ st o t => o = .returned (some (.int k)) ∧ va_P D vwCl (cellsC ct ad S') t.heap ∧ va_P D vwCl (outD ct ao g') t.heap ∧ va_F (FL ad ao) st t) args s 1 6 (FL ad ao)) (F0 m 0 ls [])) : MetLD l y cc nL hh rm D ct ad ao As k S S' g g' := by
  refine va_MetW (cc := cc) (maxL := nL) (ret := some .int) (hh := hh) hy rfl ?_
  intro p e s m args below meth c s₁ B hml hv
  obtain ⟨rfl, hP, hO, hK, hX⟩ := hv
  have hts := atoms_spec (ws := Cond.codeWith y cc nL (some .int) hh :: TB) B.pre
  have ho : s.vm.findClass own = some m.cls := by rw [← hown]; exact findClass_of_methodNamed B.named
  have hl := lv_entry As hlen
  rw [lg_entry_eq]
  exact body p e s m As.toArray below meth c ⟨B.exec, B.bytes, B.returns, hml, ho, fun w h => hts w (List.mem_cons_of_mem _ h), B.notSynchronized⟩ (vx_table (x := y) B (hts _ List.mem_cons_self)) hK hP hO hX.1 hX.2 _ hl
section LRowsD
variable {p : Program} {l : Launch} {e : Env} {R : Room} {s : State} {m : MethodId} {args : Array Value} {below : List Frame} {meth : Method} {c : Code} {cc : ByteArray} {own : String} {ret : Option FieldType} {nL pc : Nat} {ls : Array Slot} {H : Heap} {locs : List Loc} {cells slots : Nat} {Q : State → Prop}
variable {y : MethodName} {cc' : ByteArray} {nL' index n k b : Nat} {ret' : Option FieldType} {rm : Room} {As rest st : List Value} {v : Option Value} {D : va_G} {tys : List (ClassId × FieldType)} {F F1 : Nat → Prop} {w w' : va_W}
theorem dOD {ct : Nat → ClassId} {ad : Nat → Nat} {ao : Nat} {S : St} {g : Nat → UInt64} (hG : Gd ad 70 (FC ad)) (hao : ∀ i : Nat, i < 70 → ad i ≠ ao) : va_D (FL ad ao) (outD ct ao g ++ cellsC ct ad S) := by
  have h1 : va_D (FC ad) (cellsC ct ad S) := cD hG
  refine ⟨fun i j p q hp hq e => ?_, fun k q hq => ?_⟩
  · cases i with
    | zero =>
      cases j with
      | zero => rfl
      | succ j =>
        simp at hp hq
        subst hp
        obtain ⟨i9, hi9, e9⟩ := h1.2 j q hq
        exact absurd (e9.symm.trans e.symm) (hao i9 hi9)
    | succ i =>
      cases j with
      | zero =>
        simp at hp hq
        subst hq
        obtain ⟨i9, hi9, e9⟩ := h1.2 i p hp
        exact absurd (e9.symm.trans e) (hao i9 hi9)
      | succ j =>
        simp at hp hq
        rw [h1.1 i j p q hp hq e]
  · cases k with
    | zero =>
      simp at hq
      subst hq
      exact Or.inr rfl
    | succ k =>
      simp at hq
      exact Or.inl (h1.2 k q hq)
theorem lw_dast {ct : Nat → ClassId} {ad : Nat → Nat} {ao : Nat} {S : St} {g : Nat → UInt64} (C : Cx p c cc meth s m args own ret nL) (hK : va_K D vwCl (tysW ct) s) (hP : va_P D vwCl (cellsC ct ad S) H) (hO : va_P D vwCl (outD ct ao g) H) (hG : Gd ad 70 (FC ad)) (hao : ∀ i : Nat, i < 70 → ad i ≠ ao) (hS : va_S (FL ad ao) s.heap H locs) {x : UInt64} (hdg : decode cc pc = .ok (.dastore, 1))
    (kk : ∀ (H1 : Heap) (locs1 : List Loc), va_P D vwCl (cellsC ct ad S) H1 → va_P D vwCl (outD ct ao (vf_upd g (Int32.toNatClampNeg 0) x)) H1 → va_S (FL ad ao) s.heap H1 locs1 → W p l e R s m args below meth c H1 locs1 cells slots Q (F0 m (pc + 1) ls rest)) : W p l e R s m args below meth c H locs cells slots Q (F0 m pc ls (.double x :: .int 0 :: .ref ao :: rest)) := by
  obtain ⟨hx, hb, hr, hml, hown, htL, hlocks⟩ := C
  refine va_dast hx hb hK (hO.app hP) (dOD hG hao) hS 0 5 rfl rfl (by unfold vp_in; decide) hdg (fun H1 locs1 hP1 _ hS1 => kk H1 locs1 (fun k q hq => hP1 (k + 1) q (by simpa using hq)) (fun k q hq => ?_) hS1)
  cases k with
  | zero => exact hP1 0 q (by simpa using hq)
  | succ k => simp at hq
end LRowsD
def rm_L_nothingShare : Room := { frames := 9, cells := 1, slots := 6, locals := 172 }
set_option maxHeartbeats 4000000 in
set_option maxRecDepth 100000 in
theorem wk_L_nothingShare (l : Launch) (hl0 : l.stackTraces = false) (D : va_G) (ct : Nat → ClassId) (ad : Nat → Nat) (ao : Nat) (hG : Gd ad 70 (FC ad)) (hao : ∀ i : Nat, i < 70 → ad i ≠ ao) (S : St) (r : UInt32) (hnan : vf_n64 (FP.f2d r)) (g : Nat → UInt64) (hf : f_X9_nothingShare S = some (.ok r)) : MetLD l yL_nothingShare cL_nothingShare 3 [(0, 8, 11, 35)] rm_L_nothingShare D ct ad ao [.ref (ad 0), .ref ao] 0 S S g (vf_upd g (Int32.toNatClampNeg 0) (FP.f2d r)) := by
  refine MetLD.of RL (by decide) rfl (Nat.le_of_ble_eq_true rfl) ?_
  intro p e s m args below meth c C htab hK hP hO hX hN ls hl
  have hl : lv_has ls 3 [(0, .ref (ad 0)), (1, .ref ao)] := hl
  obtain ⟨hx, hb, hr, hml, hown, htL, hlocks⟩ := id C
  have hS : va_S (FL ad ao) s.heap s.heap [] := va_S.rf
  have hnO : ∀ (i : Nat) (q : Nat × va_E), (outD ct ao g)[i]? = some q → ¬ FC ad q.1 := by
    intro i q hq
    cases i with
    | zero =>
      simp at hq
      subst hq
      rintro ⟨i9, hi9, e9⟩
      exact hao i9 hi9 e9.symm
    | succ i => simp at hq
  refine lv_aload_n hx hb dL_nothingShare_0 rfl (lv_at hl 1 rfl) ?_
  refine lv_iconst (v := 0) hx hb dL_nothingShare_1 (by decide) ?_
  refine lv_aload_n hx hb dL_nothingShare_2 rfl (lv_at hl 0 rfl) ?_
  refine hc_VF (As := []) (rest := [.int 0, .ref ao]) C hK (c_X9_nothingShare l D ct ad (FC ad) hG S r hf) hl.1 cp_X9_nothingShare mw_5_136 (rc_X9 hK hP) hP hS (fun q h => Or.inl h) ⟨rfl, rfl⟩ ⟨Nat.le_of_ble_eq_true rfl, Nat.le_of_ble_eq_true rfl⟩ rfl rfl (Nat.le_of_ble_eq_true rfl) dL_nothingShare_3 ⟨Nat.le_of_ble_eq_true rfl, Nat.le_of_ble_eq_true rfl⟩ (fun H locs hP hS hz hk => ?_)
  have hO := keptP hO hk hnO
  refine lv_f2d hx hb dL_nothingShare_6 hnan ?_
  refine lw_dast C hK hP hO hG hao hS dL_nothingShare_7 (fun H locs hP hO hS => ?_)
  refine lv_goto (tgt := 14) hx hb dL_nothingShare_8 (by decide) ?_
  refine lv_iconst (v := 0) hx hb dL_nothingShare_14 (by decide) ?_
  refine W.widen (k := 1) (n := 6) (by decide) (by decide) ?_
  exact W.iret hx hb hr (fun t ht _ => ⟨rfl, by rw [ht]; exact hP, by rw [ht]; exact hO, hS.F ht⟩) hS.2.2 dL_nothingShare_15 hlocks
set_option maxHeartbeats 4000000 in
set_option maxRecDepth 100000 in
theorem wx_L_nothingShare_4 (l : Launch) (hl0 : l.stackTraces = false) (D : va_G) (ct : Nat → ClassId) (ad : Nat → Nat) (ao : Nat) (hG : Gd ad 70 (FC ad)) (hao : ∀ i : Nat, i < 70 → ad i ≠ ao) (S : St)  (g : Nat → UInt64) (hf : f_X9_nothingShare S = some (.error 4)) : MetLD l yL_nothingShare cL_nothingShare 3 [(0, 8, 11, 35)] rm_L_nothingShare D ct ad ao [.ref (ad 0), .ref ao] 1 S S g g := by
  refine MetLD.of RL (by decide) rfl (Nat.le_of_ble_eq_true rfl) ?_
  intro p e s m args below meth c C htab hK hP hO hX hN ls hl
  have hl : lv_has ls 3 [(0, .ref (ad 0)), (1, .ref ao)] := hl
  obtain ⟨hx, hb, hr, hml, hown, htL, hlocks⟩ := id C
  have hS : va_S (FL ad ao) s.heap s.heap [] := va_S.rf
  have hnO : ∀ (i : Nat) (q : Nat × va_E), (outD ct ao g)[i]? = some q → ¬ FC ad q.1 := by
    intro i q hq
    cases i with
    | zero =>
      simp at hq
      subst hq
      rintro ⟨i9, hi9, e9⟩
      exact hao i9 hi9 e9.symm
    | succ i => simp at hq
  refine lv_aload_n hx hb dL_nothingShare_0 rfl (lv_at hl 1 rfl) ?_
  refine lv_iconst (v := 0) hx hb dL_nothingShare_1 (by decide) ?_
  refine lv_aload_n hx hb dL_nothingShare_2 rfl (lv_at hl 0 rfl) ?_
  have hXC : Xf (FC ad) s := hX.narrow (fun q h => Or.inl h)
  refine xc_VF (As := []) (rest := [.int 0, .ref ao]) C hXC (x_X9_nothingShare l hl0 D ct ad (FC ad) hG S _ hf) hl.1 cp_X9_nothingShare mw_5_136 (rc_X9 hK hP) hK hP hS va_S.rf (fun q h => Or.inl h) ⟨rfl, rfl⟩ ⟨Nat.le_of_ble_eq_true rfl, Nat.le_of_ble_eq_true rfl⟩ rfl rfl (Nat.le_of_ble_eq_true rfl) dL_nothingShare_3 ⟨Nat.le_of_ble_eq_true rfl, Nat.le_of_ble_eq_true rfl⟩ (fun q ce H locs hce hcv hcl hP hS hz hk => ?_)
  have hO := keptP hO hk hnO
  refine vx_catch (name := xn 4) (E := xn 4) hown [] (⟨0, 8, 11, 35⟩ : ExceptionTableEntry) [] (htab.trans rfl) (fun z hz => nomatch hz) rfl (by decide) (htL _ mw_3_179) (va_Nw.use rfl (hX.2.2.1 (xn 4) (List.mem_of_getElem? (i := 3) rfl))) hce hcv hcl ?_
  refine lv_astore_n (lv' := [(2, .ref q), (0, .ref (ad 0)), (1, .ref ao)]) hx hb dL_nothingShare_11 rfl hl (by decide) rfl (fun ls hl => ?_)
  refine lv_iconst (v := 1) hx hb dL_nothingShare_12 (by decide) ?_
  exact W.iret hx hb hr (fun t ht _ => ⟨rfl, by rw [ht]; exact hP, by rw [ht]; exact hO, hS.F ht⟩) hS.2.2 dL_nothingShare_13 hlocks
def rm_L_meanDigits : Room := { frames := 9, cells := 1, slots := 6, locals := 172 }
set_option maxHeartbeats 4000000 in
set_option maxRecDepth 100000 in
theorem wk_L_meanDigits (l : Launch) (hl0 : l.stackTraces = false) (D : va_G) (ct : Nat → ClassId) (ad : Nat → Nat) (ao : Nat) (hG : Gd ad 70 (FC ad)) (hao : ∀ i : Nat, i < 70 → ad i ≠ ao) (S : St) (r : UInt64) (g : Nat → UInt64) (hf : f_X9_meanDigits S = some (.ok r)) : MetLD l yL_meanDigits cL_meanDigits 3 [(0, 7, 10, 35)] rm_L_meanDigits D ct ad ao [.ref (ad 0), .ref ao] 0 S S g (vf_upd g (Int32.toNatClampNeg 0) r) := by
  refine MetLD.of RL (by decide) rfl (Nat.le_of_ble_eq_true rfl) ?_
  intro p e s m args below meth c C htab hK hP hO hX hN ls hl
  have hl : lv_has ls 3 [(0, .ref (ad 0)), (1, .ref ao)] := hl
  obtain ⟨hx, hb, hr, hml, hown, htL, hlocks⟩ := id C
  have hS : va_S (FL ad ao) s.heap s.heap [] := va_S.rf
  have hnO : ∀ (i : Nat) (q : Nat × va_E), (outD ct ao g)[i]? = some q → ¬ FC ad q.1 := by
    intro i q hq
    cases i with
    | zero =>
      simp at hq
      subst hq
      rintro ⟨i9, hi9, e9⟩
      exact hao i9 hi9 e9.symm
    | succ i => simp at hq
  refine lv_aload_n hx hb dL_meanDigits_0 rfl (lv_at hl 1 rfl) ?_
  refine lv_iconst (v := 0) hx hb dL_meanDigits_1 (by decide) ?_
  refine lv_aload_n hx hb dL_meanDigits_2 rfl (lv_at hl 0 rfl) ?_
  refine hc_VF (As := []) (rest := [.int 0, .ref ao]) C hK (c_X9_meanDigits l D ct ad (FC ad) hG S r hf) hl.1 cp_X9_meanDigits mw_5_148 (rc_X9 hK hP) hP hS (fun q h => Or.inl h) ⟨rfl, rfl⟩ ⟨Nat.le_of_ble_eq_true rfl, Nat.le_of_ble_eq_true rfl⟩ rfl rfl (Nat.le_of_ble_eq_true rfl) dL_meanDigits_3 ⟨Nat.le_of_ble_eq_true rfl, Nat.le_of_ble_eq_true rfl⟩ (fun H locs hP hS hz hk => ?_)
  have hO := keptP hO hk hnO
  refine lw_dast C hK hP hO hG hao hS dL_meanDigits_6 (fun H locs hP hO hS => ?_)
  refine lv_goto (tgt := 13) hx hb dL_meanDigits_7 (by decide) ?_
  refine lv_iconst (v := 0) hx hb dL_meanDigits_13 (by decide) ?_
  refine W.widen (k := 1) (n := 6) (by decide) (by decide) ?_
  exact W.iret hx hb hr (fun t ht _ => ⟨rfl, by rw [ht]; exact hP, by rw [ht]; exact hO, hS.F ht⟩) hS.2.2 dL_meanDigits_14 hlocks
set_option maxHeartbeats 4000000 in
set_option maxRecDepth 100000 in
theorem wx_L_meanDigits_4 (l : Launch) (hl0 : l.stackTraces = false) (D : va_G) (ct : Nat → ClassId) (ad : Nat → Nat) (ao : Nat) (hG : Gd ad 70 (FC ad)) (hao : ∀ i : Nat, i < 70 → ad i ≠ ao) (S : St)  (g : Nat → UInt64) (hf : f_X9_meanDigits S = some (.error 4)) : MetLD l yL_meanDigits cL_meanDigits 3 [(0, 7, 10, 35)] rm_L_meanDigits D ct ad ao [.ref (ad 0), .ref ao] 1 S S g g := by
  refine MetLD.of RL (by decide) rfl (Nat.le_of_ble_eq_true rfl) ?_
  intro p e s m args below meth c C htab hK hP hO hX hN ls hl
  have hl : lv_has ls 3 [(0, .ref (ad 0)), (1, .ref ao)] := hl
  obtain ⟨hx, hb, hr, hml, hown, htL, hlocks⟩ := id C
  have hS : va_S (FL ad ao) s.heap s.heap [] := va_S.rf
  have hnO : ∀ (i : Nat) (q : Nat × va_E), (outD ct ao g)[i]? = some q → ¬ FC ad q.1 := by
    intro i q hq
    cases i with
    | zero =>
      simp at hq
      subst hq
      rintro ⟨i9, hi9, e9⟩
      exact hao i9 hi9 e9.symm
    | succ i => simp at hq
  refine lv_aload_n hx hb dL_meanDigits_0 rfl (lv_at hl 1 rfl) ?_
  refine lv_iconst (v := 0) hx hb dL_meanDigits_1 (by decide) ?_
  refine lv_aload_n hx hb dL_meanDigits_2 rfl (lv_at hl 0 rfl) ?_
  have hXC : Xf (FC ad) s := hX.narrow (fun q h => Or.inl h)
  refine xc_VF (As := []) (rest := [.int 0, .ref ao]) C hXC (x_X9_meanDigits l hl0 D ct ad (FC ad) hG S _ hf) hl.1 cp_X9_meanDigits mw_5_148 (rc_X9 hK hP) hK hP hS va_S.rf (fun q h => Or.inl h) ⟨rfl, rfl⟩ ⟨Nat.le_of_ble_eq_true rfl, Nat.le_of_ble_eq_true rfl⟩ rfl rfl (Nat.le_of_ble_eq_true rfl) dL_meanDigits_3 ⟨Nat.le_of_ble_eq_true rfl, Nat.le_of_ble_eq_true rfl⟩ (fun q ce H locs hce hcv hcl hP hS hz hk => ?_)
  have hO := keptP hO hk hnO
  refine vx_catch (name := xn 4) (E := xn 4) hown [] (⟨0, 7, 10, 35⟩ : ExceptionTableEntry) [] (htab.trans rfl) (fun z hz => nomatch hz) rfl (by decide) (htL _ mw_3_179) (va_Nw.use rfl (hX.2.2.1 (xn 4) (List.mem_of_getElem? (i := 3) rfl))) hce hcv hcl ?_
  refine lv_astore_n (lv' := [(2, .ref q), (0, .ref (ad 0)), (1, .ref ao)]) hx hb dL_meanDigits_10 rfl hl (by decide) rfl (fun ls hl => ?_)
  refine lv_iconst (v := 1) hx hb dL_meanDigits_11 (by decide) ?_
  exact W.iret hx hb hr (fun t ht _ => ⟨rfl, by rw [ht]; exact hP, by rw [ht]; exact hO, hS.F ht⟩) hS.2.2 dL_meanDigits_12 hlocks
