/-! the law's wrappers: a call of the class, its answer into a row of one, its exceptions as numbers -/
abbrev FC (ad : Nat → Nat) : Nat → Prop := fun q => ∃ i : Nat, i < 70 ∧ q = ad i
abbrev FL (ad : Nat → Nat) (ao : Nat) : Nat → Prop := fun q => (∃ i : Nat, i < 70 ∧ q = ad i) ∨ q = ao
/-- the six kinds of exceptions are apart -/
def Nc6 (U : State) : Prop := ∀ i j : Nat, 1 ≤ i → i ≤ 6 → 1 ≤ j → j ≤ 6 → i ≠ j → va_Nc (xn i) (xn j) U
theorem Nc6.moved {u U : State} (hvm : u.vm.Alike U.vm) (h : Nc6 u) : Nc6 U := fun i j h1 h2 h3 h4 h5 => va_Nc.moved hvm (h i j h1 h2 h3 h4 h5)
theorem Xf.narrow {A B : Nat → Prop} {U : State} (h : Xf A U) (hAB : ∀ q, B q → A q) : Xf B U := ⟨h.1.narrow hAB, h.2.1.narrow hAB, h.2.2⟩
abbrev outW (ct : Nat → ClassId) (ao : Nat) (g : Nat → Int64) : va_W := [(ao, .inl (ct 1, 1, .inr (.inl g)))]
def MetL (l : Launch) (y : MethodName) (cc : ByteArray) (nL : Nat) (hh : List (Nat × Nat × Nat × Nat)) (rm : Room) (D : va_G) (ct : Nat → ClassId) (ad : Nat → Nat) (ao : Nat) (As : List Value) (k : Int32) (S S' : St) (g g' : Nat → Int64) : Prop :=
  Met l y (Cond.codeWith y cc nL (some .int) hh :: TB) rm (fun a U => a = As.toArray ∧ va_P D vwCl (cellsC ct ad S) U.heap ∧ va_P D vwCl (outW ct ao g) U.heap ∧ va_K D vwCl (tysW ct) U ∧ Xf (FL ad ao) U ∧ Nc6 U)
    (fun _ st o t => o = .returned (some (.int k)) ∧ va_P D vwCl (cellsC ct ad S') t.heap ∧ va_P D vwCl (outW ct ao g') t.heap ∧ va_F (FL ad ao) st t) 1 6 (FL ad ao)
theorem MetL.of {l : Launch} {y : MethodName} {cc : ByteArray} {nL : Nat} {hh : List (Nat × Nat × Nat × Nat)} {rm : Room} {D : va_G} {ct : Nat → ClassId} {ad : Nat → Nat} {ao : Nat} {As : List Value} {k : Int32} {S S' : St} {g g' : Nat → Int64} (own : String) (hy : plainName y.cls = true) (hown : y.cls = own) (hlen : (lg_sl As).length ≤ nL)
    (body : ∀ (p : Program) (e : Env) (s : State) (m : MethodId) (args : Array Value) (below : List Frame) (meth : Method) (c : Code), Cx p c cc meth s m args own (some .int) nL → c.exceptionTable.toList = tableOf hh → va_K D vwCl (tysW ct) s → va_P D vwCl (cellsC ct ad S) s.heap → va_P D vwCl (outW ct ao g) s.heap → Xf (FL ad ao) s → Nc6 s → ∀ ls : Array Slot, lv_has ls nL (lv_args 0 As) →
      W p l e rm s m args below meth c s.heap [] 0 0 (MQ below (fun _ st o t => o = .returned (some (.int k)) ∧ va_P D vwCl (cellsC ct ad S') t.heap ∧ va_P D vwCl (outW ct ao g') t.heap ∧ va_F (FL ad ao) st t) args s 1 6 (FL ad ao)) (F0 m 0 ls [])) : MetL l y cc nL hh rm D ct ad ao As k S S' g g' := by
  refine va_MetW (cc := cc) (maxL := nL) (ret := some .int) (hh := hh) hy rfl ?_
  intro p e s m args below meth c s₁ B hml hv
  obtain ⟨rfl, hP, hO, hK, hX⟩ := hv
  have hts := atoms_spec (ws := Cond.codeWith y cc nL (some .int) hh :: TB) B.pre
  have ho : s.vm.findClass own = some m.cls := by rw [← hown]; exact findClass_of_methodNamed B.named
  have hl := lv_entry As hlen
  rw [lg_entry_eq]
  exact body p e s m As.toArray below meth c ⟨B.exec, B.bytes, B.returns, hml, ho, fun w h => hts w (List.mem_cons_of_mem _ h), B.notSynchronized⟩ (vx_table (x := y) B (hts _ List.mem_cons_self)) hK hP hO hX.1 hX.2 _ hl
section LRows
variable {p : Program} {l : Launch} {e : Env} {R : Room} {s : State} {m : MethodId} {args : Array Value} {below : List Frame} {meth : Method} {c : Code} {cc : ByteArray} {own : String} {ret : Option FieldType} {nL pc : Nat} {ls : Array Slot} {H : Heap} {locs : List Loc} {cells slots : Nat} {Q : State → Prop}
variable {y : MethodName} {cc' : ByteArray} {nL' index n k b : Nat} {ret' : Option FieldType} {rm : Room} {As rest st : List Value} {v : Option Value} {D : va_G} {tys : List (ClassId × FieldType)} {F F1 : Nat → Prop} {w w' : va_W}
/-- a cell that a call leaves -/
theorem keptP {H H1 : Heap} {w : va_W} (h : va_P D vwCl w H) (hk : ∀ q : Nat, q < H.size → ¬ F1 q → H1[q]? = H[q]?) (hn : ∀ (i : Nat) (q : Nat × va_E), w[i]? = some q → ¬ F1 q.1) : va_P D vwCl w H1 := fun i q hq => (h i q hq).kept (hk q.1 (h i q hq).lt (hn i q hq))
/-- a call into a world of its own, part of what the caller may write -/
theorem hc_VF (C : Cx p c cc meth s m args own ret nL) (hK : va_K D vwCl tys s) (hM : MetH l y cc' nL' ret' rm D tys F1 (.ref b :: As) v w w') (hls : ls.size = nL) (hcp : CPv y cc' nL' ret' n) (hlink : Cond.methodLink own index y ∈ TB)
    (hrc : ∃ cell : Cell, H[b]? = some cell ∧ cell.vm.isStatics = false ∧ s.vm.findClass y.cls = some cell.cls) (hP : va_P D vwCl w H) (hS : va_S F s.heap H locs) (hF1 : ∀ q, F1 q → F q)
    (hrm : rm.cells = 0 ∧ rm.slots = 0) (hR : rm.frames + 1 ≤ R.frames ∧ 8 + (nL' + 11) + rm.locals ≤ R.locals)
    (hn : As.length = n) (hst : st = As.reverse ++ .ref b :: rest) (hW : (rest.map fun v => v.category).sum ≤ 8) (hdg : decode cc pc = .ok (.invokevirtual index, 3)) (hroom : cells ≤ R.cells ∧ slots ≤ R.slots)
    (kk : ∀ (H1 : Heap) (locs1 : List Loc), va_P D vwCl w' H1 → va_S F s.heap H1 locs1 → H.size ≤ H1.size → (∀ q : Nat, q < H.size → ¬ F1 q → H1[q]? = H[q]?) → W p l e R s m args below meth c H1 locs1 cells slots Q (F0 m (pc + 3) ls (v.toList ++ rest))) : W p l e R s m args below meth c H locs cells slots Q (F0 m pc ls st) := by
  obtain ⟨hx, hb, hr, hml, hown, htL, hlocks⟩ := C
  obtain ⟨hcode, hini, hinst, hsel, hd⟩ := hcp
  subst hst
  have hrun := va_runV (p := p) (l := l) (e := e) (R := R) (s := s) (m := m) (args := args) (below := below) (meth := meth) (c := c) (H := H) (locs := locs) (cells := cells) (slots := slots) (As := As) (rest := rest) (g := F0 m pc ls (As.reverse ++ .ref b :: rest)) (b := b) (C := y.cls)
    ⟨hx, hb, hml, hown, htL⟩ hM ⟨callB_of n htL (gLaw hcode) rfl hrm.1 hrm.2 (htL _ hini) (htL _ hlink) hd hR, htL _ hinst, htL _ hsel⟩ ⟨Hp_blind, hrc, fun U hU hW => ⟨rfl, by rw [hU]; exact hP, va_K.moved hW.alike hK⟩⟩ rfl hn hls rfl (lv_room hW) hdg hroom
  intro T hT X
  obtain ⟨v', st₀, t, T', L, h0, X', hL, e1, e2, ⟨hv, hP', hF⟩, go⟩ := hrun T hT X
  have hv' : v' = v := by cases hv; rfl
  subst hv'
  obtain ⟨hz, hk⟩ := hF
  rw [h0] at hz hk
  have hS' : va_S F s.heap T'.heap (locs ++ L) := ⟨Nat.le_trans hS.1 (by rw [e1]; exact hz), fun q h1 h2 => by rw [e1, hk q (Nat.lt_of_lt_of_le h1 hS.1) (fun h => h2 (hF1 q h))]; exact hS.2.1 q h1 h2, fun q hq => by
    rcases List.mem_append.mp hq with h | h
    · exact hS.2.2 q h
    · exact hF1 _ (hL q h)⟩
  obtain ⟨t2, a1, b2⟩ := kk T'.heap (locs ++ L) (by rw [e1]; exact hP') hS' (by rw [e1]; exact hz) (fun q h1 h2 => by rw [e1]; exact hk q h1 h2) T' rfl X'
  exact ⟨t2, go t2 a1, b2⟩
/-- a call that throws: on to the table -/
theorem xc_VF (C : Cx p c cc meth s m args own ret nL) (hXf : Xf F1 s) (hM : MetX l y cc' nL' ret' rm D tys F1 (.ref b :: As) w w' n) (hls : ls.size = nL) (hcp : CPv y cc' nL' ret' k) (hlink : Cond.methodLink own index y ∈ TB)
    (hrc : ∃ cell : Cell, H[b]? = some cell ∧ cell.vm.isStatics = false ∧ s.vm.findClass y.cls = some cell.cls) (hK : va_K D vwCl tys s) (hP : va_P D vwCl w H) (hS : va_S F s.heap H locs) (hS1 : va_S F1 s.heap H locs) (hF1 : ∀ q, F1 q → F q)
    (hrm : rm.cells = 1 ∧ rm.slots = 6) (hR : rm.frames + 1 ≤ R.frames ∧ 8 + (nL' + 11) + rm.locals ≤ R.locals)
    (hn : As.length = k) (hst : st = As.reverse ++ .ref b :: rest) (hW : (rest.map fun v => v.category).sum ≤ 8) (hdg : decode cc pc = .ok (.invokevirtual index, 3)) (hroom : cells + 1 ≤ R.cells ∧ slots + 6 ≤ R.slots)
    (kk : ∀ (q : Nat) (ce : Cell) (H1 : Heap) (locs1 : List Loc), H1[q]? = some ce → ce.vm = .none → s.vm.findClass (xn n) = some ce.cls → va_P D vwCl w' H1 → va_S F s.heap H1 locs1 → H.size ≤ H1.size → (∀ q : Nat, q < H.size → ¬ F1 q → H1[q]? = H[q]?) → vx_W p l e R s m args below meth c H1 locs1 (cells + 1) (slots + 6) Q (F0 m pc ls rest) q) :
    W p l e R s m args below meth c H locs cells slots Q (F0 m pc ls st) := by
  obtain ⟨hx, hb, hr, hml, hown, htL, hlocks⟩ := C
  obtain ⟨hcode, hini, hinst, hsel, hd⟩ := hcp
  subst hst
  have hrun := vx_runV (p := p) (l := l) (e := e) (R := R) (s := s) (m := m) (args := args) (below := below) (meth := meth) (c := c) (H := H) (locs := locs) (cells := cells) (slots := slots) (As := As) (rest := rest) (g := F0 m pc ls (As.reverse ++ .ref b :: rest)) (b := b) (C := y.cls)
    ⟨hx, hb, hml, hown, htL⟩ hM ⟨callB_of k htL (gLaw hcode) rfl hrm.1 hrm.2 (htL _ hini) (htL _ hlink) hd hR, htL _ hinst, htL _ hsel⟩ ⟨Xp_blind, hrc, fun U hU hW => ⟨rfl, by rw [hU]; exact hP, va_K.moved hW.alike hK, hXf.go hS1 hW hU⟩⟩ rfl hn hls rfl (lv_room hW) hdg hroom
  intro T hT X
  rcases hrun T hT X with ⟨v, st₀, t, T', L, h0, X', hL, e1, e2, hfalse, go⟩ | ⟨q, st₀, t, T', L, E, ce, h0, X', hL, e1, e2, ⟨hE, hP', hF⟩, hce, hcv, hcl, go⟩
  · exact hfalse.elim
  · obtain ⟨hz, hk⟩ := hF
    rw [h0] at hz hk
    have hS' : va_S F s.heap T'.heap (locs ++ L) := ⟨Nat.le_trans hS.1 (by rw [e1]; exact hz), fun q h1 h2 => by rw [e1, hk q (Nat.lt_of_lt_of_le h1 hS.1) (fun h => h2 (hF1 q h))]; exact hS.2.1 q h1 h2, fun q hq => by
      rcases List.mem_append.mp hq with h | h
      · exact hS.2.2 q h
      · exact hF1 _ (hL q h)⟩
    obtain ⟨t2, a1, b2⟩ := kk q ce T'.heap (locs ++ L) (by rw [e1]; exact hce) hcv (by rw [← hE]; exact hcl) (by rw [e1]; exact hP') hS' (by rw [e1]; exact hz) (fun q9 h1 h2 => by rw [e1]; exact hk q9 h1 h2) T' rfl X'
    exact ⟨t2, go.trans a1, b2⟩
theorem dOC {ct : Nat → ClassId} {ad : Nat → Nat} {ao : Nat} {S : St} {g : Nat → Int64} (hG : Gd ad 70 (FC ad)) (hao : ∀ i : Nat, i < 70 → ad i ≠ ao) : va_D (FL ad ao) (outW ct ao g ++ cellsC ct ad S) := by
  have h1 : va_D (FC ad) (cellsC ct ad S) := cD hG
  refine ⟨fun i j p q hp hq e => ?_, fun k q hq => ?_⟩
  · cases i with
    | zero =>
      cases j with
      | zero => rfl
      | succ j =>
        simp at hp hq
        subst hp
        obtain ⟨i9, hi9, e9⟩ := h1.2 j q hq
        exact absurd (e9.symm.trans e.symm) (hao i9 hi9)
    | succ i =>
      cases j with
      | zero =>
        simp at hp hq
        subst hq
        obtain ⟨i9, hi9, e9⟩ := h1.2 i p hp
        exact absurd (e9.symm.trans e) (hao i9 hi9)
      | succ j =>
        simp at hp hq
        rw [h1.1 i j p q hp hq e]
  · cases k with
    | zero =>
      simp at hq
      subst hq
      exact Or.inr rfl
    | succ k =>
      simp at hq
      exact Or.inl (h1.2 k q hq)
theorem lw_last {ct : Nat → ClassId} {ad : Nat → Nat} {ao : Nat} {S : St} {g : Nat → Int64} (C : Cx p c cc meth s m args own ret nL) (hK : va_K D vwCl (tysW ct) s) (hP : va_P D vwCl (cellsC ct ad S) H) (hO : va_P D vwCl (outW ct ao g) H) (hG : Gd ad 70 (FC ad)) (hao : ∀ i : Nat, i < 70 → ad i ≠ ao) (hS : va_S (FL ad ao) s.heap H locs) {x : Int64} (hdg : decode cc pc = .ok (.lastore, 1))
    (kk : ∀ (H1 : Heap) (locs1 : List Loc), va_P D vwCl (cellsC ct ad S) H1 → va_P D vwCl (outW ct ao (vp_updL g (Int32.toNatClampNeg 0) x)) H1 → va_S (FL ad ao) s.heap H1 locs1 → W p l e R s m args below meth c H1 locs1 cells slots Q (F0 m (pc + 1) ls rest)) : W p l e R s m args below meth c H locs cells slots Q (F0 m pc ls (.long x :: .int 0 :: .ref ao :: rest)) := by
  obtain ⟨hx, hb, hr, hml, hown, htL, hlocks⟩ := C
  refine va_last hx hb hK (hO.app hP) (dOC hG hao) hS 0 1 rfl rfl (by unfold vp_in; decide) hdg (fun H1 locs1 hP1 _ hS1 => kk H1 locs1 (fun k q hq => hP1 (k + 1) q (by simpa using hq)) (fun k q hq => ?_) hS1)
  cases k with
  | zero => exact hP1 0 q (by simpa using hq)
  | succ k => simp at hq
end LRows
