/-! the law's calls -/
section LawRows
variable {p : Program} {l : Launch} {e : Env} {R : Room} {s : State} {m : MethodId} {args : Array Value} {below : List Frame} {meth : Method} {c : Code} {cc : ByteArray} {own : String} {ret : Option FieldType} {nL pc : Nat} {ls : Array Slot} {H : Heap} {locs : List Loc} {cells slots : Nat} {Q : State → Prop}
variable {y : MethodName} {cc' : ByteArray} {nL' index n b : Nat} {ret' : Option FieldType} {rm : Room} {As rest st : List Value} {D : va_G} {ct : Nat → ClassId} {ad am : Nat → Nat} {ao : Nat} {A : Nat → Prop}
theorem gS {idx : Nat} {w0 : Cond} (h1 : Cond.methodLink own idx y ∈ TB) (h2 : Cond.static y ∈ TB) (h3 : Cond.initialized y.cls ∈ TB) (h4 : w0 ∈ TB) : GoodIn TB (va_wsS own idx y (w0 :: TB)) := fun w hw => by
  have hm : w ∈ TB := by
    unfold va_wsS at hw
    simp only [List.cons_append, List.nil_append, List.mem_cons] at hw
    rcases hw with rfl | rfl | rfl | rfl | h
    · exact h1
    · exact h2
    · exact h3
    · exact h4
    · exact h
  exact ⟨hm, good_of_word (gall hm)⟩
/-- a wrapper: the class's cells and the row for its answer change, one cell may come -/
theorem hc_W {k : Int32} {S S' : St} {g g' : Nat → Int64} {hh : List (Nat × Nat × Nat × Nat)} (C : Cx p c cc meth s m args own ret nL) (hK : va_K D vwCl (tysW ct) s) (hXf : Xf A s) (hNc : Nc6 s) (hM : MetL l y cc' nL' hh rm D ct ad ao As k S S' g g') (hls : ls.size = nL)
    (hcode : Cond.codeWith y cc' nL' (some .int) hh ∈ TB) (hini : Cond.initialized y.cls ∈ TB) (hstat : Cond.static y ∈ TB) (hlink : Cond.methodLink own index y ∈ TB) (hd : y.cls ≠ "java/lang/invoke/MethodHandle" ∧ y.cls ≠ "java/lang/invoke/VarHandle" ∧ (parseMethodDescriptor y.desc).map (fun d => d.parameters.length) = some n)
    (hP : va_P D vwCl (cellsC ct ad S) H) (hO : va_P D vwCl (outW ct ao g) H) (hS : va_S A s.heap H locs) (hFA : ∀ q, FL ad ao q → A q) (hrm : rm.cells = 1 ∧ rm.slots = 6) (hR : rm.frames + 1 ≤ R.frames ∧ 8 + (nL' + 11) + rm.locals ≤ R.locals)
    (hn : As.length = n) (hst : st = As.reverse ++ rest) (hW : (rest.map fun v => v.category).sum ≤ 8) (hdg : decode cc pc = .ok (.invokestatic index, 3)) (hroom : cells + 1 ≤ R.cells ∧ slots + 6 ≤ R.slots)
    (kk : ∀ (H1 : Heap) (locs1 : List Loc), va_P D vwCl (cellsC ct ad S') H1 → va_P D vwCl (outW ct ao g') H1 → va_S A s.heap H1 locs1 → H.size ≤ H1.size → (∀ q : Nat, q < H.size → ¬ FL ad ao q → H1[q]? = H[q]?) → W p l e R s m args below meth c H1 locs1 (cells + 1) (slots + 6) Q (F0 m (pc + 3) ls (.int k :: rest))) : W p l e R s m args below meth c H locs cells slots Q (F0 m pc ls st) := by
  obtain ⟨hx, hb, hr, hml, hown, htL, hlocks⟩ := C
  subst hst
  have hrun := vx_runSW (p := p) (l := l) (e := e) (R := R) (s := s) (m := m) (args := args) (below := below) (meth := meth) (c := c) (H := H) (locs := locs) (cells := cells) (slots := slots) (As := As) (rest := rest) (g := F0 m pc ls (As.reverse ++ rest)) (hh := hh) (bytes := cc') (maxL := nL') (ret := some .int) (n := n) (index := index)
    ⟨hx, hb, hml, hown, htL⟩ hM (vx_cwSW (hh := hh) n htL (gS hlink hstat hini hcode) rfl hrm.1 hrm.2 hd hR) ⟨fun a U gg mk h => ⟨h.1, h.2.1, h.2.2.1, va_K.moved (u := U) (U := U.calling gg mk a) (Vm.Alike.refl U.vm) h.2.2.2.1, h.2.2.2.2.1.call, Nc6.moved (u := U) (U := U.calling gg mk a) (Vm.Alike.refl U.vm) h.2.2.2.2.2⟩, fun U hU hW => ⟨rfl, by rw [hU]; exact hP, by rw [hU]; exact hO, va_K.moved hW.alike hK, (hXf.go hS hW hU).narrow hFA, Nc6.moved hW.alike hNc⟩⟩ rfl hn hls rfl (lv_room hW) hdg hroom
  intro T hT X
  obtain ⟨v', st₀, t, T', L, h0, X', hL, e1, e2, ⟨hv, hP', hO', hF⟩, go⟩ := hrun T hT X
  have hv' : v' = some (.int k) := by cases hv; rfl
  subst hv'
  obtain ⟨hz, hk⟩ := hF
  rw [h0] at hz hk
  have hS' : va_S A s.heap T'.heap (locs ++ L) := ⟨Nat.le_trans hS.1 (by rw [e1]; exact hz), fun q h1 h2 => by rw [e1, hk q (Nat.lt_of_lt_of_le h1 hS.1) (fun h => h2 (hFA q h))]; exact hS.2.1 q h1 h2, fun q hq => by
    rcases List.mem_append.mp hq with h | h
    · exact hS.2.2 q h
    · exact hFA _ (hL q h)⟩
  obtain ⟨t2, a1, b2⟩ := kk T'.heap (locs ++ L) (by rw [e1]; exact hP') (by rw [e1]; exact hO') hS' (by rw [e1]; exact hz) (fun q h1 h2 => by rw [e1]; exact hk q h1 h2) T' rfl X'
  exact ⟨t2, go t2 a1, b2⟩
theorem hc_WD {k : Int32} {S S' : St} {g g' : Nat → UInt64} {hh : List (Nat × Nat × Nat × Nat)} (C : Cx p c cc meth s m args own ret nL) (hK : va_K D vwCl (tysW ct) s) (hXf : Xf A s) (hNc : Nc6 s) (hM : MetLD l y cc' nL' hh rm D ct ad ao As k S S' g g') (hls : ls.size = nL)
    (hcode : Cond.codeWith y cc' nL' (some .int) hh ∈ TB) (hini : Cond.initialized y.cls ∈ TB) (hstat : Cond.static y ∈ TB) (hlink : Cond.methodLink own index y ∈ TB) (hd : y.cls ≠ "java/lang/invoke/MethodHandle" ∧ y.cls ≠ "java/lang/invoke/VarHandle" ∧ (parseMethodDescriptor y.desc).map (fun d => d.parameters.length) = some n)
    (hP : va_P D vwCl (cellsC ct ad S) H) (hO : va_P D vwCl (outD ct ao g) H) (hS : va_S A s.heap H locs) (hFA : ∀ q, FL ad ao q → A q) (hrm : rm.cells = 1 ∧ rm.slots = 6) (hR : rm.frames + 1 ≤ R.frames ∧ 8 + (nL' + 11) + rm.locals ≤ R.locals)
    (hn : As.length = n) (hst : st = As.reverse ++ rest) (hW : (rest.map fun v => v.category).sum ≤ 8) (hdg : decode cc pc = .ok (.invokestatic index, 3)) (hroom : cells + 1 ≤ R.cells ∧ slots + 6 ≤ R.slots)
    (kk : ∀ (H1 : Heap) (locs1 : List Loc), va_P D vwCl (cellsC ct ad S') H1 → va_P D vwCl (outD ct ao g') H1 → va_S A s.heap H1 locs1 → H.size ≤ H1.size → (∀ q : Nat, q < H.size → ¬ FL ad ao q → H1[q]? = H[q]?) → W p l e R s m args below meth c H1 locs1 (cells + 1) (slots + 6) Q (F0 m (pc + 3) ls (.int k :: rest))) : W p l e R s m args below meth c H locs cells slots Q (F0 m pc ls st) := by
  obtain ⟨hx, hb, hr, hml, hown, htL, hlocks⟩ := C
  subst hst
  have hrun := vx_runSW (p := p) (l := l) (e := e) (R := R) (s := s) (m := m) (args := args) (below := below) (meth := meth) (c := c) (H := H) (locs := locs) (cells := cells) (slots := slots) (As := As) (rest := rest) (g := F0 m pc ls (As.reverse ++ rest)) (hh := hh) (bytes := cc') (maxL := nL') (ret := some .int) (n := n) (index := index)
    ⟨hx, hb, hml, hown, htL⟩ hM (vx_cwSW (hh := hh) n htL (gS hlink hstat hini hcode) rfl hrm.1 hrm.2 hd hR) ⟨fun a U gg mk h => ⟨h.1, h.2.1, h.2.2.1, va_K.moved (u := U) (U := U.calling gg mk a) (Vm.Alike.refl U.vm) h.2.2.2.1, h.2.2.2.2.1.call, Nc6.moved (u := U) (U := U.calling gg mk a) (Vm.Alike.refl U.vm) h.2.2.2.2.2⟩, fun U hU hW => ⟨rfl, by rw [hU]; exact hP, by rw [hU]; exact hO, va_K.moved hW.alike hK, (hXf.go hS hW hU).narrow hFA, Nc6.moved hW.alike hNc⟩⟩ rfl hn hls rfl (lv_room hW) hdg hroom
  intro T hT X
  obtain ⟨v', st₀, t, T', L, h0, X', hL, e1, e2, ⟨hv, hP', hO', hF⟩, go⟩ := hrun T hT X
  have hv' : v' = some (.int k) := by cases hv; rfl
  subst hv'
  obtain ⟨hz, hk⟩ := hF
  rw [h0] at hz hk
  have hS' : va_S A s.heap T'.heap (locs ++ L) := ⟨Nat.le_trans hS.1 (by rw [e1]; exact hz), fun q h1 h2 => by rw [e1, hk q (Nat.lt_of_lt_of_le h1 hS.1) (fun h => h2 (hFA q h))]; exact hS.2.1 q h1 h2, fun q hq => by
    rcases List.mem_append.mp hq with h | h
    · exact hS.2.2 q h
    · exact hFA _ (hL q h)⟩
  obtain ⟨t2, a1, b2⟩ := kk T'.heap (locs ++ L) (by rw [e1]; exact hP') (by rw [e1]; exact hO') hS' (by rw [e1]; exact hz) (fun q h1 h2 => by rw [e1]; exact hk q h1 h2) T' rfl X'
  exact ⟨t2, go t2 a1, b2⟩
/-- all that the law's loop keeps: the class, the reference, the two rows, nothing old written -/
def Lw (D : va_G) (ct : Nat → ClassId) (ad am : Nat → Nat) (ao ao2 : Nat) (s : State) (S T : St) (g : Nat → Int64) (gd : Nat → UInt64) (H : Heap) (locs : List Loc) : Prop :=
  va_P D vwCl (cellsC ct ad S) H ∧ va_P D vwCl (cellsM ct am T) H ∧ va_P D vwCl (outW ct ao g) H ∧ va_P D vwCl (outD ct ao2 gd) H ∧ va_S (fun q => s.heap.size ≤ q) s.heap H locs
/-- the addresses are apart -/
def Ld (ad am : Nat → Nat) (ao ao2 : Nat) (s : State) : Prop :=
  Gd ad 70 (FC ad) ∧ Gd am 18 (fun q => ∃ i : Nat, i < 18 ∧ q = am i) ∧ (∀ i : Nat, i < 70 → ad i ≠ ao) ∧ (∀ i : Nat, i < 70 → ad i ≠ ao2) ∧ ao ≠ ao2 ∧ (∀ i j : Nat, i < 70 → j < 18 → ad i ≠ am j) ∧ (∀ j : Nat, j < 18 → am j ≠ ao) ∧ (∀ j : Nat, j < 18 → am j ≠ ao2) ∧ (∀ i : Nat, i < 70 → s.heap.size ≤ ad i) ∧ (∀ j : Nat, j < 18 → s.heap.size ≤ am j) ∧ s.heap.size ≤ ao ∧ s.heap.size ≤ ao2
theorem cells_ad {sh : ShT} {N : Nat} {a : Nat → Nat} {S : St} {i : Nat} {q : Nat × va_E} (h : (cellsOf sh N a S)[i]? = some q) : ∃ o : Nat, o < N ∧ q.1 = a o := by
  have hi : i < N := by
    have := (List.getElem?_eq_some_iff.mp h).1
    simpa [cellsOf] using this
  rw [cC hi] at h
  cases h
  exact ⟨i, hi, rfl⟩
theorem out_ad {cl0 : ClassId} {x : vp_A} {i a0 : Nat} {q : Nat × va_E} (h : ([(a0, Sum.inl (cl0, x))] : va_W)[i]? = some q) : q.1 = a0 := by
  cases i with
  | zero =>
    simp at h
    rw [← h]
  | succ i => simp at h
theorem Lw.wrap {ao2 : Nat} {S S' T : St} {g g' : Nat → Int64} {gd : Nat → UInt64} {H1 : Heap} {locs1 : List Loc} (hD : Ld ad am ao ao2 s) (h : Lw D ct ad am ao ao2 s S T g gd H locs) (hP1 : va_P D vwCl (cellsC ct ad S') H1) (hO1 : va_P D vwCl (outW ct ao g') H1) (hS1 : va_S (fun q => s.heap.size ≤ q) s.heap H1 locs1) (hk : ∀ q : Nat, q < H.size → ¬ FL ad ao q → H1[q]? = H[q]?) : Lw D ct ad am ao ao2 s S' T g' gd H1 locs1 := by
  obtain ⟨-, -, d3, d4, d5, d6, d7, d8, -⟩ := hD
  refine ⟨hP1, keptP h.2.1 hk (fun i q hq => ?_), hO1, keptP h.2.2.2.1 hk (fun i q hq => ?_), hS1⟩
  · obtain ⟨o, ho, e⟩ := cells_ad hq
    rintro (⟨i1, hi1, e1⟩ | e1)
    · exact d6 i1 o hi1 ho (e1.symm.trans e)
    · exact d7 o ho (e.symm.trans e1)
  · have e := out_ad hq
    rintro (⟨i1, hi1, e1⟩ | e1)
    · exact d4 i1 hi1 (e1.symm.trans e)
    · exact d5 (e1.symm.trans e)
theorem Lw.wrapD {ao2 : Nat} {S S' T : St} {g : Nat → Int64} {gd gd' : Nat → UInt64} {H1 : Heap} {locs1 : List Loc} (hD : Ld ad am ao ao2 s) (h : Lw D ct ad am ao ao2 s S T g gd H locs) (hP1 : va_P D vwCl (cellsC ct ad S') H1) (hO1 : va_P D vwCl (outD ct ao2 gd') H1) (hS1 : va_S (fun q => s.heap.size ≤ q) s.heap H1 locs1) (hk : ∀ q : Nat, q < H.size → ¬ FL ad ao2 q → H1[q]? = H[q]?) : Lw D ct ad am ao ao2 s S' T g gd' H1 locs1 := by
  obtain ⟨-, -, d3, d4, d5, d6, d7, d8, -⟩ := hD
  refine ⟨hP1, keptP h.2.1 hk (fun i q hq => ?_), keptP h.2.2.1 hk (fun i q hq => ?_), hO1, hS1⟩
  · obtain ⟨o, ho, e⟩ := cells_ad hq
    rintro (⟨i1, hi1, e1⟩ | e1)
    · exact d6 i1 o hi1 ho (e1.symm.trans e)
    · exact d8 o ho (e.symm.trans e1)
  · have e := out_ad hq
    rintro (⟨i1, hi1, e1⟩ | e1)
    · exact d3 i1 hi1 (e1.symm.trans e)
    · exact d5 (e.symm.trans e1)
abbrev FM (am : Nat → Nat) : Nat → Prop := fun q => ∃ i : Nat, i < 18 ∧ q = am i
theorem Lw.model {ao2 : Nat} {S T T' : St} {g : Nat → Int64} {gd : Nat → UInt64} {H1 : Heap} {locs1 : List Loc} (hD : Ld ad am ao ao2 s) (h : Lw D ct ad am ao ao2 s S T g gd H locs) (hP1 : va_P D vwCl (cellsM ct am T') H1) (hS1 : va_S (fun q => s.heap.size ≤ q) s.heap H1 locs1) (hk : ∀ q : Nat, q < H.size → ¬ FM am q → H1[q]? = H[q]?) : Lw D ct ad am ao ao2 s S T' g gd H1 locs1 := by
  obtain ⟨-, -, d3, d4, d5, d6, d7, d8, -⟩ := hD
  refine ⟨keptP h.1 hk (fun i q hq => ?_), hP1, keptP h.2.2.1 hk (fun i q hq => ?_), keptP h.2.2.2.1 hk (fun i q hq => ?_), hS1⟩
  · obtain ⟨o, ho, e⟩ := cells_ad hq
    rintro ⟨i1, hi1, e1⟩
    exact d6 o i1 ho hi1 (e.symm.trans e1)
  · have e := out_ad hq
    rintro ⟨i1, hi1, e1⟩
    exact d7 i1 hi1 (e1.symm.trans e)
  · have e := out_ad hq
    rintro ⟨i1, hi1, e1⟩
    exact d8 i1 hi1 (e1.symm.trans e)
theorem Lw.classC {ao2 : Nat} {S S' T : St} {g : Nat → Int64} {gd : Nat → UInt64} {H1 : Heap} {locs1 : List Loc} (hD : Ld ad am ao ao2 s) (h : Lw D ct ad am ao ao2 s S T g gd H locs) (hP1 : va_P D vwCl (cellsC ct ad S') H1) (hS1 : va_S (fun q => s.heap.size ≤ q) s.heap H1 locs1) (hk : ∀ q : Nat, q < H.size → ¬ FC ad q → H1[q]? = H[q]?) : Lw D ct ad am ao ao2 s S' T g gd H1 locs1 := by
  obtain ⟨-, -, d3, d4, d5, d6, d7, d8, -⟩ := hD
  refine ⟨hP1, keptP h.2.1 hk (fun i q hq => ?_), keptP h.2.2.1 hk (fun i q hq => ?_), keptP h.2.2.2.1 hk (fun i q hq => ?_), hS1⟩
  · obtain ⟨o, ho, e⟩ := cells_ad hq
    rintro ⟨i1, hi1, e1⟩
    exact d6 i1 o hi1 ho (e1.symm.trans e)
  · have e := out_ad hq
    rintro ⟨i1, hi1, e1⟩
    exact d3 i1 hi1 (e1.symm.trans e)
  · have e := out_ad hq
    rintro ⟨i1, hi1, e1⟩
    exact d4 i1 hi1 (e1.symm.trans e)
theorem Ld.fl {ao2 : Nat} (hD : Ld ad am ao ao2 s) : (∀ q, FL ad ao q → s.heap.size ≤ q) ∧ (∀ q, FL ad ao2 q → s.heap.size ≤ q) ∧ (∀ q, FM am q → s.heap.size ≤ q) ∧ (∀ q, FC ad q → s.heap.size ≤ q) := by
  obtain ⟨-, -, -, -, -, -, -, -, e1, e2, e3, e4⟩ := hD
  refine ⟨?_, ?_, ?_, ?_⟩
  · rintro q (⟨i, hi, e⟩ | e)
    · rw [e]; exact e1 i hi
    · rw [e]; exact e3
  · rintro q (⟨i, hi, e⟩ | e)
    · rw [e]; exact e1 i hi
    · rw [e]; exact e4
  · rintro q ⟨i, hi, e⟩
    rw [e]; exact e2 i hi
  · rintro q ⟨i, hi, e⟩
    rw [e]; exact e1 i hi
end LawRows
theorem lgc_self (x : Int64) : lg_cmp x x = 0 := by
  unfold lg_cmp
  rw [if_neg (fun h => by rw [gt_iff_lt, Int64.lt_iff_toInt_lt] at h; omega), if_pos rfl]
theorem share_nan {S T : St} (h : Rel S T) {v : UInt32} (hf : f_X9_nothingShare S = some (.ok v)) : vf_n64 (FP.f2d v) ∧ Op.cmpValue (FP.dcmp (FP.f2d v) (FP.f2d v)) .l = 0 := by
  obtain ⟨p, r, cnt, num, early, D, C, bc, cn, pc, rowc, rv, sz, en, h1, h2, h3, h4⟩ := h
  have c5 := h1.2.2.2.2.1
  have c7 := h1.2.2.2.2.2.2.1
  have c8 := h1.2.2.2.2.2.2.2
  unfold f_X9_nothingShare at hf
  rw [c5] at hf
  by_cases h0 : cnt = 0
  · subst h0
    rw [if_pos (show ji ((0 : Nat) : Int) = 0 from rfl)] at hf
    cases hf
  · have e1 := czC_loop (S := S) (p := p) (r := r) c7 c5 (fun n hn => ⟨(c8 n hn).1, (c8 n hn).2.2.1⟩) FU 0 (Nat.zero_le _) (FU_lt (by omega))
    have e1 : f_X5_nothingCount S = some (ji (cz num cnt : Nat)) := e1
    have cl := cz_le num cnt
    have f := k_flt (cz num cnt) (by omega) cnt (by omega) (by omega)
    have f2 := k_share (cz num cnt) (by omega) cnt (by omega) (by omega)
    have n0 : ¬ ji (cnt : Int) = 0 := fun q => by
      rw [i0] at q
      have := (ji_inj (by omega) (by omega)).mp q
      omega
    rw [if_neg n0, e1, b1s, if_pos f] at hf
    cases hf
    exact f2
theorem mean_nan {S T : St} (h : Rel S T) {v : UInt64} (hf : f_X9_meanDigits S = some (.ok v)) : Op.cmpValue (FP.dcmp v v) .l = 0 := by
  obtain ⟨p, r, cnt, num, early, D, C, bc, cn, pc, rowc, rv, sz, en, h1, h2, h3, h4⟩ := h
  have hr := h1.2.1
  have c5 := h1.2.2.2.2.1
  have c7 := h1.2.2.2.2.2.2.1
  have c8 := h1.2.2.2.2.2.2.2
  unfold f_X9_meanDigits at hf
  rw [c5] at hf
  by_cases h0 : cnt = 0
  · subst h0
    rw [if_pos (show ji ((0 : Nat) : Int) = 0 from rfl)] at hf
    cases hf
  · have e1 := dzC_loop (S := S) (p := p) (r := r) hr c7 c5 (fun n hn => ⟨(c8 n hn).1, (c8 n hn).2.2.1⟩) FU 0 (Nat.zero_le _) (FU_lt (by omega))
    have e1 : f_X5_digitCount S = some (ji (dz num cnt)) := e1
    have dl := dz_le hr (fun n hn' => (c8 n hn').2.2.1) cnt (Nat.le_refl _)
    have f := k_dbl cnt (by omega) h0 (dz num cnt).toNat (by omega)
    have f2 := k_mean cnt (by omega) h0 (dz num cnt).toNat (by omega)
    rw [show (((dz num cnt).toNat : Nat) : Int) = dz num cnt by omega] at f f2
    have n0 : ¬ ji (cnt : Int) = 0 := fun q => by
      rw [i0] at q
      have := (ji_inj (by omega) (by omega)).mp q
      omega
    rw [if_neg n0, e1, b1s, if_pos f] at hf
    cases hf
    exact f2
theorem wr_nothingShare (l : Launch) (hl0 : l.stackTraces = false) (D : va_G) (ct : Nat → ClassId) (ad : Nat → Nat) (ao : Nat) (hG : Gd ad 70 (FC ad)) (hao : ∀ i : Nat, i < 70 → ad i ≠ ao) {S T : St} (h : Rel S T) (g : Nat → UInt64) : ∃ (T' : St) (v : UInt32) (k : Int32) (g' : Nat → UInt64), MetLD l yL_nothingShare cL_nothingShare 3 [(0, 8, 11, 35)] rm_L_nothingShare D ct ad ao [.ref (ad 0), .ref ao] k S S g g' ∧ f_X10_nothingShare T = some (v, T') ∧ f_X10_thrown T' = some k ∧ Rel S T' ∧ (k = 0 → g' 0 = FP.f2d v ∧ vf_n64 (FP.f2d v) ∧ Op.cmpValue (FP.dcmp (FP.f2d v) (FP.f2d v)) .l = 0) := by
  obtain ⟨T', v, e1, e2, e3⟩ := T_nothingShare h
  rcases e3 with ⟨e4, e5⟩ | ⟨q, hq, e4, e5⟩
  · have nn := share_nan h e4
    exact ⟨T', v, 0, _, wk_L_nothingShare l hl0 D ct ad ao hG hao S v nn.1 g e4, e1, congrArg some e5, e2, fun _ => ⟨by unfold vf_upd; rw [if_pos (by decide)], nn⟩⟩
  · simp only [List.mem_cons, List.not_mem_nil, or_false] at hq
    subst hq
    exact ⟨T', v, 1, g, wx_L_nothingShare_4 l hl0 D ct ad ao hG hao S g e4, e1, congrArg some (e5.trans (by decide)), e2, fun q => absurd q (by decide)⟩
theorem wr_meanDigits (l : Launch) (hl0 : l.stackTraces = false) (D : va_G) (ct : Nat → ClassId) (ad : Nat → Nat) (ao : Nat) (hG : Gd ad 70 (FC ad)) (hao : ∀ i : Nat, i < 70 → ad i ≠ ao) {S T : St} (h : Rel S T) (g : Nat → UInt64) : ∃ (T' : St) (v : UInt64) (k : Int32) (g' : Nat → UInt64), MetLD l yL_meanDigits cL_meanDigits 3 [(0, 7, 10, 35)] rm_L_meanDigits D ct ad ao [.ref (ad 0), .ref ao] k S S g g' ∧ f_X10_meanDigits T = some (v, T') ∧ f_X10_thrown T' = some k ∧ Rel S T' ∧ (k = 0 → g' 0 = v ∧ Op.cmpValue (FP.dcmp v v) .l = 0) := by
  obtain ⟨T', v, e1, e2, e3⟩ := T_meanDigits h
  rcases e3 with ⟨e4, e5⟩ | ⟨q, hq, e4, e5⟩
  · have nn := mean_nan h e4
    exact ⟨T', v, 0, _, wk_L_meanDigits l hl0 D ct ad ao hG hao S v g e4, e1, congrArg some e5, e2, fun _ => ⟨by unfold vf_upd; rw [if_pos (by decide)], nn⟩⟩
  · simp only [List.mem_cons, List.not_mem_nil, or_false] at hq
    subst hq
    exact ⟨T', v, 1, g, wx_L_meanDigits_4 l hl0 D ct ad ao hG hao S g e4, e1, congrArg some (e5.trans (by decide)), e2, fun q => absurd q (by decide)⟩
