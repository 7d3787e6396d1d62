def strs : List (Nat × String) := [(31, "no prime from 2 to 97"), (42, "there are numbers"), (91, "the valuation would be less than -60"), (98, "the divisor is nothing up to its precision"), (104, "it has no square root"), (106, "its valuation is not 0, or it is nothing"), (113, "the digit is not known"), (123, "it hangs on no fraction"), (164, "there are 8 polynomials"), (207, "no simple root modulo p"), (218, "the power is greater than 10000"), (223, "the place is no prime"), (233, "all symbols are 1"), (247, "no such row or column"), (260, "the index is not less than the rank"), (272, "the row has 12 values"), (277, "the row has not so many values"), (285, "it is not whole, or no digit of the value would be known"), (290, "there are no numbers"), (304, "no such number"), (307, "there are 40 numbers"), (310, "no such polynomial"), (312, "no such side"), (314, "out of range"), (316, "0, or out of range"), (321, "its valuation or precision does not do"), (326, "there is no such fraction")]
theorem str_31 : ((31 : Nat), "no prime from 2 to 97") ∈ strs := List.mem_of_getElem? (i := 0) rfl
theorem str_42 : ((42 : Nat), "there are numbers") ∈ strs := List.mem_of_getElem? (i := 1) rfl
theorem str_91 : ((91 : Nat), "the valuation would be less than -60") ∈ strs := List.mem_of_getElem? (i := 2) rfl
theorem str_98 : ((98 : Nat), "the divisor is nothing up to its precision") ∈ strs := List.mem_of_getElem? (i := 3) rfl
theorem str_104 : ((104 : Nat), "it has no square root") ∈ strs := List.mem_of_getElem? (i := 4) rfl
theorem str_106 : ((106 : Nat), "its valuation is not 0, or it is nothing") ∈ strs := List.mem_of_getElem? (i := 5) rfl
theorem str_113 : ((113 : Nat), "the digit is not known") ∈ strs := List.mem_of_getElem? (i := 6) rfl
theorem str_123 : ((123 : Nat), "it hangs on no fraction") ∈ strs := List.mem_of_getElem? (i := 7) rfl
theorem str_164 : ((164 : Nat), "there are 8 polynomials") ∈ strs := List.mem_of_getElem? (i := 8) rfl
theorem str_207 : ((207 : Nat), "no simple root modulo p") ∈ strs := List.mem_of_getElem? (i := 9) rfl
theorem str_218 : ((218 : Nat), "the power is greater than 10000") ∈ strs := List.mem_of_getElem? (i := 10) rfl
theorem str_223 : ((223 : Nat), "the place is no prime") ∈ strs := List.mem_of_getElem? (i := 11) rfl
theorem str_233 : ((233 : Nat), "all symbols are 1") ∈ strs := List.mem_of_getElem? (i := 12) rfl
theorem str_247 : ((247 : Nat), "no such row or column") ∈ strs := List.mem_of_getElem? (i := 13) rfl
theorem str_260 : ((260 : Nat), "the index is not less than the rank") ∈ strs := List.mem_of_getElem? (i := 14) rfl
theorem str_272 : ((272 : Nat), "the row has 12 values") ∈ strs := List.mem_of_getElem? (i := 15) rfl
theorem str_277 : ((277 : Nat), "the row has not so many values") ∈ strs := List.mem_of_getElem? (i := 16) rfl
theorem str_285 : ((285 : Nat), "it is not whole, or no digit of the value would be known") ∈ strs := List.mem_of_getElem? (i := 17) rfl
theorem str_290 : ((290 : Nat), "there are no numbers") ∈ strs := List.mem_of_getElem? (i := 18) rfl
theorem str_304 : ((304 : Nat), "no such number") ∈ strs := List.mem_of_getElem? (i := 19) rfl
theorem str_307 : ((307 : Nat), "there are 40 numbers") ∈ strs := List.mem_of_getElem? (i := 20) rfl
theorem str_310 : ((310 : Nat), "no such polynomial") ∈ strs := List.mem_of_getElem? (i := 21) rfl
theorem str_312 : ((312 : Nat), "no such side") ∈ strs := List.mem_of_getElem? (i := 22) rfl
theorem str_314 : ((314 : Nat), "out of range") ∈ strs := List.mem_of_getElem? (i := 23) rfl
theorem str_316 : ((316 : Nat), "0, or out of range") ∈ strs := List.mem_of_getElem? (i := 24) rfl
theorem str_321 : ((321 : Nat), "its valuation or precision does not do") ∈ strs := List.mem_of_getElem? (i := 25) rfl
theorem str_326 : ((326 : Nat), "there is no such fraction") ∈ strs := List.mem_of_getElem? (i := 26) rfl
def xn (n : Nat) : String := if n = 1 then "java/lang/IllegalArgumentException" else if n = 2 then "java/lang/IllegalStateException" else if n = 3 then "java/lang/IndexOutOfBoundsException" else if n = 4 then "java/lang/ArithmeticException" else if n = 5 then "java/lang/UnsupportedOperationException" else "java/util/NoSuchElementException"
def six : List String := ["java/lang/IllegalArgumentException", "java/lang/IllegalStateException", "java/lang/IndexOutOfBoundsException", "java/lang/ArithmeticException", "java/lang/UnsupportedOperationException", "java/util/NoSuchElementException"]
abbrev dcl (E : String) : Cond := .declares ⟨E, "<init>", "(Ljava/lang/String;)V"⟩
abbrev ngw (cls : String) : List Cond := [Cond.castable cls cls, dcl "java/lang/RuntimeException", dcl "java/lang/Exception", dcl "java/lang/Throwable"]
def Xf (F : Nat → Prop) (U : State) : Prop := vx_Zq Bundle.tN "UNASSIGNED_STACK" Bundle.steD F U U.heap ∧ vx_Zq Bundle.tN "SUPPRESSED_SENTINEL" Bundle.listD F U U.heap ∧ (∀ E ∈ six, va_Nw (.castable E E) U) ∧ (va_Nw (dcl "java/lang/RuntimeException") U ∧ va_Nw (dcl "java/lang/Exception") U ∧ va_Nw (dcl "java/lang/Throwable") U) ∧ ∀ q ∈ strs, ∃ a : Nat, vk_R RX9 q.1 q.2 a U
theorem Xf.go {F : Nat → Prop} {s U : State} {H : Heap} {locs : List Loc} (h : Xf F s) (hS : va_S F s.heap H locs) (hW : s.WarmedH U.vm) (hU : U.heap = H) : Xf F U :=
  ⟨by rw [hU]; exact vx_Zq.moved hW.alike (h.1.kept hS.2.1), by rw [hU]; exact vx_Zq.moved hW.alike (h.2.1.kept hS.2.1), fun E hE => va_Nw.warmC hW (h.2.2.1 E hE), ⟨va_Nw.warmD hW h.2.2.2.1.1, va_Nw.warmD hW h.2.2.2.1.2.1, va_Nw.warmD hW h.2.2.2.1.2.2⟩, fun q hq => by obtain ⟨a, ha⟩ := h.2.2.2.2 q hq; exact ⟨a, vk_R.warm hW ha⟩⟩
theorem Xf.call {F : Nat → Prop} {U : State} {a : Array Value} {g : JFrame} {mk : MethodId} (h : Xf F U) : Xf F (U.calling g mk a) :=
  ⟨vx_Zq.moved (u := U) (U := U.calling g mk a) (Vm.Alike.refl U.vm) h.1, vx_Zq.moved (u := U) (U := U.calling g mk a) (Vm.Alike.refl U.vm) h.2.1, fun E hE => va_Nw.same (u := U) (U := U.calling g mk a) rfl rfl (h.2.2.1 E hE), ⟨va_Nw.same (u := U) (U := U.calling g mk a) rfl rfl h.2.2.2.1.1, va_Nw.same (u := U) (U := U.calling g mk a) rfl rfl h.2.2.2.1.2.1, va_Nw.same (u := U) (U := U.calling g mk a) rfl rfl h.2.2.2.1.2.2⟩, fun q hq => by obtain ⟨z, hz⟩ := h.2.2.2.2 q hq; exact ⟨z, vk_R.same (u := U) (U := U.calling g mk a) rfl hz⟩⟩
abbrev Xp (D : va_G) (tys : List (ClassId × FieldType)) (F : Nat → Prop) (As : List Value) (w : va_W) : Array Value → State → Prop := fun a U => a = As.toArray ∧ va_P D vwCl w U.heap ∧ va_K D vwCl tys U ∧ Xf F U
theorem Xp_blind {D : va_G} {tys : List (ClassId × FieldType)} {F : Nat → Prop} {As : List Value} {w : va_W} : FrameBlind (Xp D tys F As w) := fun a U g mk h => ⟨h.1, h.2.1, va_K.moved (u := U) (U := U.calling g mk a) (Vm.Alike.refl U.vm) h.2.2.1, h.2.2.2.call⟩
abbrev XQ (D : va_G) (w' : va_W) (F : Nat → Prop) (n : Nat) : String → State → State → Prop := fun E st t => E = xn n ∧ va_P D vwCl w' t.heap ∧ va_F F st t
def MetX (l : Launch) (y : MethodName) (cc : ByteArray) (nL : Nat) (ret : Option FieldType) (rm : Room) (D : va_G) (tys : List (ClassId × FieldType)) (F : Nat → Prop) (As : List Value) (w w' : va_W) (n : Nat) : Prop :=
  vx_Met l y (Cond.code y cc nL ret :: TB) rm (Xp D tys F As w) (fun _ _ _ _ => False) (XQ D w' F n) 1 6 F
theorem MetX.of {l : Launch} {y : MethodName} {cc : ByteArray} {nL : Nat} {ret : Option FieldType} {rm : Room} {D : va_G} {tys : List (ClassId × FieldType)} {F : Nat → Prop} {As : List Value} {w w' : va_W} {n : Nat} (own : String) (hy : plainName y.cls = true) (hown : y.cls = own) (hlen : (lg_sl As).length ≤ nL)
    (body : ∀ (p : Program) (e : Env) (s : State) (m : MethodId) (args : Array Value) (below : List Frame) (meth : Method) (c : Code), Cx p c cc meth s m args own ret nL → (∀ x ∈ c.exceptionTable.toList, False) → va_K D vwCl tys s → va_P D vwCl w s.heap → Xf F s → ∀ ls : Array Slot, lv_has ls nL (lv_args 0 As) →
      W p l e rm s m args below meth c s.heap [] 0 0 (vx_MQ below (fun _ _ _ _ => False) (XQ D w' F n) args s 1 6 F) (F0 m 0 ls [])) : MetX l y cc nL ret rm D tys F As w w' n := by
  refine vx_ofW (cc := cc) (maxL := nL) (ret := ret) hy rfl ?_
  intro p e s m args below meth c s₁ B hml hPk hv
  obtain ⟨rfl, hP, hK, hX⟩ := hv
  have hts := atoms_spec (ws := Cond.code y cc nL ret :: TB) B.pre
  have ho : s.vm.findClass own = some m.cls := by rw [← hown]; exact findClass_of_methodNamed B.named
  have hl := lv_entry As hlen
  rw [lg_entry_eq]
  exact body p e s m As.toArray below meth c ⟨B.exec, B.bytes, B.returns, hml, ho, fun w h => hts w (List.mem_cons_of_mem _ h), B.notSynchronized⟩ hPk hK hP hX _ hl
abbrev nms : List String := ["java/lang/RuntimeException", "java/lang/Exception"]
section XRows
variable {p : Program} {l : Launch} {e : Env} {R : Room} {s : State} {m : MethodId} {args : Array Value} {below : List Frame} {meth : Method} {c : Code} {cc : ByteArray} {ret : Option FieldType} {nL pc : Nat} {ls : Array Slot} {H : Heap} {locs : List Loc} {D : va_G} {F : Nat → Prop} {w w' : va_W} {n : Nat} {own : String}
theorem xq_of (hP : va_P D vwCl w H) (hS : va_S F s.heap H locs) {cls : String} (hn : xn n = cls) : ∀ t : State, s.vm.Alike t.vm → H.size ≤ t.heap.size → (∀ q : Nat, q < H.size → t.heap[q]? = H[q]?) → XQ D w F n cls s t := fun t _ h1 h2 =>
  ⟨hn.symm, fun k q hq => (hP k q hq).kept (h2 q.1 (hP k q hq).lt), Nat.le_trans hS.1 h1, fun q h3 h4 => (h2 q (Nat.lt_of_lt_of_le h3 hS.1)).trans (hS.2.1 q h3 h4)⟩
theorem th_gen (C : Cx p c cc meth s m args RX9 ret nL) (hl0 : l.stackTraces = false) (hXf : Xf F s) (hPk : ∀ x ∈ c.exceptionTable.toList, False) (hP : va_P D vwCl w H) (hS : va_S F s.heap H locs) (hsz : ls.size = nL) {cls text : String} {ik is ic : Nat} (hn : xn n = cls) (hfit : Bundle.fit cls = true) (hini : Cond.initialized cls ∈ TB) (h6 : cls ∈ six)
    (h1 : ∀ w ∈ (vx_atS RX9 ic cls nms).filter goodWord, w ∈ TB) (h2 : ∀ w ∈ (vx_atS RX9 ic cls nms).filter (fun w => !goodWord w), w ∈ ngw cls) (h3 : ∀ w ∈ vx_atS RX9 ic cls nms, vx_ot w = true)
    (hk : Cond.classLink RX9 ik cls ∈ TB) (hstr : (is, text) ∈ strs) (hR : 6 ≤ R.frames ∧ 100 ≤ R.locals ∧ 1 ≤ R.cells ∧ 6 ≤ R.slots)
    (d0 : decode cc pc = .ok (.new ik, 3)) (d3 : decode cc (pc + 3) = .ok (.dup, 1)) (d4 : decode cc (pc + 4) = .ok (.ldc is, 2)) (d6 : decode cc (pc + 6) = .ok (.invokespecial ic, 3)) (d9 : decode cc (pc + 9) = .ok (.athrow, 1)) :
    W p l e R s m args below meth c H locs 0 0 (vx_MQ below (fun _ _ _ _ => False) (XQ D w F n) args s 1 6 F) (F0 m pc ls []) := by
  obtain ⟨hx, hb, hr, hml, hown, htL, hlocks⟩ := C
  obtain ⟨sa, hsa⟩ := hXf.2.2.2.2 _ hstr
  have hat : ∀ w ∈ vx_atS RX9 ic cls nms, w.before args s = true := vx_hat (fun w hw => htL w (h1 w hw)) h2 (vx_c (va_Nw.use rfl (hXf.2.2.1 cls h6)) (vx_c (va_Nw.use rfl hXf.2.2.2.1.1) (vx_c (va_Nw.use rfl hXf.2.2.2.1.2.1) (vx_c (va_Nw.use rfl hXf.2.2.2.1.2.2) vx_n))))
  have hgood : ∀ w ∈ Cond.classLink RX9 ik cls :: Cond.initialized cls :: vx_atS RX9 ic cls nms, vx_ot w = true := by
    intro w hw
    rcases List.mem_cons.mp hw with rfl | hw
    · rfl
    · rcases List.mem_cons.mp hw with rfl | hw
      · rfl
      · exact h3 w hw
  exact vx_throwS (A := F) (names := nms) (text := text) hx hb hl0 hown hfit (by decide) (htL _ hk) (htL _ hini) hsa hat hgood hXf.1 hXf.2.1 hS (hsz.trans hml.symm) d0 d3 d4 d6 d9 (fun x h => (hPk x h).elim) (by show 2 + 3 < _; omega) (by show 0 + (13 * (2 + 1) + 43) ≤ _; omega) (by omega) (by omega) hlocks (xq_of hP hS hn) hS.2.2 (Nat.le_refl _) (Nat.le_refl _)
theorem th_genW (C : Cx p c cc meth s m args RX9 ret nL) (hl0 : l.stackTraces = false) (hXf : Xf F s) (hPk : ∀ x ∈ c.exceptionTable.toList, False) (hP : va_P D vwCl w H) (hS : va_S F s.heap H locs) (hsz : ls.size = nL) {cls text : String} {ik is ic : Nat} (hn : xn n = cls) (hfit : Bundle.fit cls = true) (hini : Cond.initialized cls ∈ TB) (h6 : cls ∈ six)
    (h1 : ∀ w ∈ (vx_atS RX9 ic cls nms).filter goodWord, w ∈ TB) (h2 : ∀ w ∈ (vx_atS RX9 ic cls nms).filter (fun w => !goodWord w), w ∈ ngw cls) (h3 : ∀ w ∈ vx_atS RX9 ic cls nms, vx_ot w = true)
    (hk : Cond.classLink RX9 ik cls ∈ TB) (hstr : (is, text) ∈ strs) (hR : 6 ≤ R.frames ∧ 100 ≤ R.locals ∧ 1 ≤ R.cells ∧ 6 ≤ R.slots)
    (d0 : decode cc pc = .ok (.new ik, 3)) (d3 : decode cc (pc + 3) = .ok (.dup, 1)) (d4 : decode cc (pc + 4) = .ok (.ldc_w is, 3)) (d6 : decode cc (pc + 7) = .ok (.invokespecial ic, 3)) (d9 : decode cc (pc + 10) = .ok (.athrow, 1)) :
    W p l e R s m args below meth c H locs 0 0 (vx_MQ below (fun _ _ _ _ => False) (XQ D w F n) args s 1 6 F) (F0 m pc ls []) := by
  obtain ⟨hx, hb, hr, hml, hown, htL, hlocks⟩ := C
  obtain ⟨sa, hsa⟩ := hXf.2.2.2.2 _ hstr
  have hat : ∀ w ∈ vx_atS RX9 ic cls nms, w.before args s = true := vx_hat (fun w hw => htL w (h1 w hw)) h2 (vx_c (va_Nw.use rfl (hXf.2.2.1 cls h6)) (vx_c (va_Nw.use rfl hXf.2.2.2.1.1) (vx_c (va_Nw.use rfl hXf.2.2.2.1.2.1) (vx_c (va_Nw.use rfl hXf.2.2.2.1.2.2) vx_n))))
  have hgood : ∀ w ∈ Cond.classLink RX9 ik cls :: Cond.initialized cls :: vx_atS RX9 ic cls nms, vx_ot w = true := by
    intro w hw
    rcases List.mem_cons.mp hw with rfl | hw
    · rfl
    · rcases List.mem_cons.mp hw with rfl | hw
      · rfl
      · exact h3 w hw
  exact vx_throwSW (A := F) (names := nms) (text := text) hx hb hl0 hown hfit (by decide) (htL _ hk) (htL _ hini) hsa hat hgood hXf.1 hXf.2.1 hS (hsz.trans hml.symm) d0 d3 d4 d6 d9 (fun x h => (hPk x h).elim) (by show 2 + 3 < _; omega) (by show 0 + (13 * (2 + 1) + 43) ≤ _; omega) (by omega) (by omega) hlocks (xq_of hP hS hn) hS.2.2 (Nat.le_refl _) (Nat.le_refl _)
set_option maxRecDepth 100000 in
theorem xw1_IllegalArgumentException : ∀ w ∈ (vx_atS RX9 33 "java/lang/IllegalArgumentException" nms).filter goodWord, w ∈ TB := by
  have h : ∀ w ∈ (vx_atS RX9 33 "java/lang/IllegalArgumentException" nms).filter goodWord, w ∈ lw_tbl := by decide +kernel
  exact fun w hw => List.mem_filter.mpr ⟨h w hw, (List.mem_filter.mp hw).2⟩
set_option maxRecDepth 100000 in
theorem xw2_IllegalArgumentException : ∀ w ∈ (vx_atS RX9 33 "java/lang/IllegalArgumentException" nms).filter (fun w => !goodWord w), w ∈ ngw "java/lang/IllegalArgumentException" := by decide +kernel
set_option maxRecDepth 100000 in
theorem xw3_IllegalArgumentException : ∀ w ∈ vx_atS RX9 33 "java/lang/IllegalArgumentException" nms, vx_ot w = true := by decide +kernel
theorem th_IllegalArgumentException (C : Cx p c cc meth s m args RX9 ret nL) (hl0 : l.stackTraces = false) (hXf : Xf F s) (hPk : ∀ x ∈ c.exceptionTable.toList, False) (hP : va_P D vwCl w H) (hS : va_S F s.heap H locs) (hsz : ls.size = nL) {text : String} {ik is : Nat} (hk : Cond.classLink RX9 ik "java/lang/IllegalArgumentException" ∈ TB) (hstr : (is, text) ∈ strs) (hR : 6 ≤ R.frames ∧ 100 ≤ R.locals ∧ 1 ≤ R.cells ∧ 6 ≤ R.slots)
    (d0 : decode cc pc = .ok (.new ik, 3)) (d3 : decode cc (pc + 3) = .ok (.dup, 1)) (d4 : decode cc (pc + 4) = .ok (.ldc is, 2)) (d6 : decode cc (pc + 6) = .ok (.invokespecial 33, 3)) (d9 : decode cc (pc + 9) = .ok (.athrow, 1)) :
    W p l e R s m args below meth c H locs 0 0 (vx_MQ below (fun _ _ _ _ => False) (XQ D w F 1) args s 1 6 F) (F0 m pc ls []) :=
  th_gen C hl0 hXf hPk hP hS hsz rfl (by decide) mw_1_14 (List.mem_of_getElem? (i := 0) rfl) xw1_IllegalArgumentException xw2_IllegalArgumentException xw3_IllegalArgumentException hk hstr hR d0 d3 d4 d6 d9
theorem th_IllegalArgumentExceptionW (C : Cx p c cc meth s m args RX9 ret nL) (hl0 : l.stackTraces = false) (hXf : Xf F s) (hPk : ∀ x ∈ c.exceptionTable.toList, False) (hP : va_P D vwCl w H) (hS : va_S F s.heap H locs) (hsz : ls.size = nL) {text : String} {ik is : Nat} (hk : Cond.classLink RX9 ik "java/lang/IllegalArgumentException" ∈ TB) (hstr : (is, text) ∈ strs) (hR : 6 ≤ R.frames ∧ 100 ≤ R.locals ∧ 1 ≤ R.cells ∧ 6 ≤ R.slots)
    (d0 : decode cc pc = .ok (.new ik, 3)) (d3 : decode cc (pc + 3) = .ok (.dup, 1)) (d4 : decode cc (pc + 4) = .ok (.ldc_w is, 3)) (d6 : decode cc (pc + 7) = .ok (.invokespecial 33, 3)) (d9 : decode cc (pc + 10) = .ok (.athrow, 1)) :
    W p l e R s m args below meth c H locs 0 0 (vx_MQ below (fun _ _ _ _ => False) (XQ D w F 1) args s 1 6 F) (F0 m pc ls []) :=
  th_genW C hl0 hXf hPk hP hS hsz rfl (by decide) mw_1_14 (List.mem_of_getElem? (i := 0) rfl) xw1_IllegalArgumentException xw2_IllegalArgumentException xw3_IllegalArgumentException hk hstr hR d0 d3 d4 d6 d9
set_option maxRecDepth 100000 in
theorem xw1_IllegalStateException : ∀ w ∈ (vx_atS RX9 166 "java/lang/IllegalStateException" nms).filter goodWord, w ∈ TB := by
  have h : ∀ w ∈ (vx_atS RX9 166 "java/lang/IllegalStateException" nms).filter goodWord, w ∈ lw_tbl := by decide +kernel
  exact fun w hw => List.mem_filter.mpr ⟨h w hw, (List.mem_filter.mp hw).2⟩
set_option maxRecDepth 100000 in
theorem xw2_IllegalStateException : ∀ w ∈ (vx_atS RX9 166 "java/lang/IllegalStateException" nms).filter (fun w => !goodWord w), w ∈ ngw "java/lang/IllegalStateException" := by decide +kernel
set_option maxRecDepth 100000 in
theorem xw3_IllegalStateException : ∀ w ∈ vx_atS RX9 166 "java/lang/IllegalStateException" nms, vx_ot w = true := by decide +kernel
theorem th_IllegalStateException (C : Cx p c cc meth s m args RX9 ret nL) (hl0 : l.stackTraces = false) (hXf : Xf F s) (hPk : ∀ x ∈ c.exceptionTable.toList, False) (hP : va_P D vwCl w H) (hS : va_S F s.heap H locs) (hsz : ls.size = nL) {text : String} {ik is : Nat} (hk : Cond.classLink RX9 ik "java/lang/IllegalStateException" ∈ TB) (hstr : (is, text) ∈ strs) (hR : 6 ≤ R.frames ∧ 100 ≤ R.locals ∧ 1 ≤ R.cells ∧ 6 ≤ R.slots)
    (d0 : decode cc pc = .ok (.new ik, 3)) (d3 : decode cc (pc + 3) = .ok (.dup, 1)) (d4 : decode cc (pc + 4) = .ok (.ldc is, 2)) (d6 : decode cc (pc + 6) = .ok (.invokespecial 166, 3)) (d9 : decode cc (pc + 9) = .ok (.athrow, 1)) :
    W p l e R s m args below meth c H locs 0 0 (vx_MQ below (fun _ _ _ _ => False) (XQ D w F 2) args s 1 6 F) (F0 m pc ls []) :=
  th_gen C hl0 hXf hPk hP hS hsz rfl (by decide) mw_1_16 (List.mem_of_getElem? (i := 1) rfl) xw1_IllegalStateException xw2_IllegalStateException xw3_IllegalStateException hk hstr hR d0 d3 d4 d6 d9
theorem th_IllegalStateExceptionW (C : Cx p c cc meth s m args RX9 ret nL) (hl0 : l.stackTraces = false) (hXf : Xf F s) (hPk : ∀ x ∈ c.exceptionTable.toList, False) (hP : va_P D vwCl w H) (hS : va_S F s.heap H locs) (hsz : ls.size = nL) {text : String} {ik is : Nat} (hk : Cond.classLink RX9 ik "java/lang/IllegalStateException" ∈ TB) (hstr : (is, text) ∈ strs) (hR : 6 ≤ R.frames ∧ 100 ≤ R.locals ∧ 1 ≤ R.cells ∧ 6 ≤ R.slots)
    (d0 : decode cc pc = .ok (.new ik, 3)) (d3 : decode cc (pc + 3) = .ok (.dup, 1)) (d4 : decode cc (pc + 4) = .ok (.ldc_w is, 3)) (d6 : decode cc (pc + 7) = .ok (.invokespecial 166, 3)) (d9 : decode cc (pc + 10) = .ok (.athrow, 1)) :
    W p l e R s m args below meth c H locs 0 0 (vx_MQ below (fun _ _ _ _ => False) (XQ D w F 2) args s 1 6 F) (F0 m pc ls []) :=
  th_genW C hl0 hXf hPk hP hS hsz rfl (by decide) mw_1_16 (List.mem_of_getElem? (i := 1) rfl) xw1_IllegalStateException xw2_IllegalStateException xw3_IllegalStateException hk hstr hR d0 d3 d4 d6 d9
set_option maxRecDepth 100000 in
theorem xw1_IndexOutOfBoundsException : ∀ w ∈ (vx_atS RX9 249 "java/lang/IndexOutOfBoundsException" nms).filter goodWord, w ∈ TB := by
  have h : ∀ w ∈ (vx_atS RX9 249 "java/lang/IndexOutOfBoundsException" nms).filter goodWord, w ∈ lw_tbl := by decide +kernel
  exact fun w hw => List.mem_filter.mpr ⟨h w hw, (List.mem_filter.mp hw).2⟩
set_option maxRecDepth 100000 in
theorem xw2_IndexOutOfBoundsException : ∀ w ∈ (vx_atS RX9 249 "java/lang/IndexOutOfBoundsException" nms).filter (fun w => !goodWord w), w ∈ ngw "java/lang/IndexOutOfBoundsException" := by decide +kernel
set_option maxRecDepth 100000 in
theorem xw3_IndexOutOfBoundsException : ∀ w ∈ vx_atS RX9 249 "java/lang/IndexOutOfBoundsException" nms, vx_ot w = true := by decide +kernel
theorem th_IndexOutOfBoundsException (C : Cx p c cc meth s m args RX9 ret nL) (hl0 : l.stackTraces = false) (hXf : Xf F s) (hPk : ∀ x ∈ c.exceptionTable.toList, False) (hP : va_P D vwCl w H) (hS : va_S F s.heap H locs) (hsz : ls.size = nL) {text : String} {ik is : Nat} (hk : Cond.classLink RX9 ik "java/lang/IndexOutOfBoundsException" ∈ TB) (hstr : (is, text) ∈ strs) (hR : 6 ≤ R.frames ∧ 100 ≤ R.locals ∧ 1 ≤ R.cells ∧ 6 ≤ R.slots)
    (d0 : decode cc pc = .ok (.new ik, 3)) (d3 : decode cc (pc + 3) = .ok (.dup, 1)) (d4 : decode cc (pc + 4) = .ok (.ldc is, 2)) (d6 : decode cc (pc + 6) = .ok (.invokespecial 249, 3)) (d9 : decode cc (pc + 9) = .ok (.athrow, 1)) :
    W p l e R s m args below meth c H locs 0 0 (vx_MQ below (fun _ _ _ _ => False) (XQ D w F 3) args s 1 6 F) (F0 m pc ls []) :=
  th_gen C hl0 hXf hPk hP hS hsz rfl (by decide) mw_1_18 (List.mem_of_getElem? (i := 2) rfl) xw1_IndexOutOfBoundsException xw2_IndexOutOfBoundsException xw3_IndexOutOfBoundsException hk hstr hR d0 d3 d4 d6 d9
theorem th_IndexOutOfBoundsExceptionW (C : Cx p c cc meth s m args RX9 ret nL) (hl0 : l.stackTraces = false) (hXf : Xf F s) (hPk : ∀ x ∈ c.exceptionTable.toList, False) (hP : va_P D vwCl w H) (hS : va_S F s.heap H locs) (hsz : ls.size = nL) {text : String} {ik is : Nat} (hk : Cond.classLink RX9 ik "java/lang/IndexOutOfBoundsException" ∈ TB) (hstr : (is, text) ∈ strs) (hR : 6 ≤ R.frames ∧ 100 ≤ R.locals ∧ 1 ≤ R.cells ∧ 6 ≤ R.slots)
    (d0 : decode cc pc = .ok (.new ik, 3)) (d3 : decode cc (pc + 3) = .ok (.dup, 1)) (d4 : decode cc (pc + 4) = .ok (.ldc_w is, 3)) (d6 : decode cc (pc + 7) = .ok (.invokespecial 249, 3)) (d9 : decode cc (pc + 10) = .ok (.athrow, 1)) :
    W p l e R s m args below meth c H locs 0 0 (vx_MQ below (fun _ _ _ _ => False) (XQ D w F 3) args s 1 6 F) (F0 m pc ls []) :=
  th_genW C hl0 hXf hPk hP hS hsz rfl (by decide) mw_1_18 (List.mem_of_getElem? (i := 2) rfl) xw1_IndexOutOfBoundsException xw2_IndexOutOfBoundsException xw3_IndexOutOfBoundsException hk hstr hR d0 d3 d4 d6 d9
set_option maxRecDepth 100000 in
theorem xw1_ArithmeticException : ∀ w ∈ (vx_atS RX9 93 "java/lang/ArithmeticException" nms).filter goodWord, w ∈ TB := by
  have h : ∀ w ∈ (vx_atS RX9 93 "java/lang/ArithmeticException" nms).filter goodWord, w ∈ lw_tbl := by decide +kernel
  exact fun w hw => List.mem_filter.mpr ⟨h w hw, (List.mem_filter.mp hw).2⟩
set_option maxRecDepth 100000 in
theorem xw2_ArithmeticException : ∀ w ∈ (vx_atS RX9 93 "java/lang/ArithmeticException" nms).filter (fun w => !goodWord w), w ∈ ngw "java/lang/ArithmeticException" := by decide +kernel
set_option maxRecDepth 100000 in
theorem xw3_ArithmeticException : ∀ w ∈ vx_atS RX9 93 "java/lang/ArithmeticException" nms, vx_ot w = true := by decide +kernel
theorem th_ArithmeticException (C : Cx p c cc meth s m args RX9 ret nL) (hl0 : l.stackTraces = false) (hXf : Xf F s) (hPk : ∀ x ∈ c.exceptionTable.toList, False) (hP : va_P D vwCl w H) (hS : va_S F s.heap H locs) (hsz : ls.size = nL) {text : String} {ik is : Nat} (hk : Cond.classLink RX9 ik "java/lang/ArithmeticException" ∈ TB) (hstr : (is, text) ∈ strs) (hR : 6 ≤ R.frames ∧ 100 ≤ R.locals ∧ 1 ≤ R.cells ∧ 6 ≤ R.slots)
    (d0 : decode cc pc = .ok (.new ik, 3)) (d3 : decode cc (pc + 3) = .ok (.dup, 1)) (d4 : decode cc (pc + 4) = .ok (.ldc is, 2)) (d6 : decode cc (pc + 6) = .ok (.invokespecial 93, 3)) (d9 : decode cc (pc + 9) = .ok (.athrow, 1)) :
    W p l e R s m args below meth c H locs 0 0 (vx_MQ below (fun _ _ _ _ => False) (XQ D w F 4) args s 1 6 F) (F0 m pc ls []) :=
  th_gen C hl0 hXf hPk hP hS hsz rfl (by decide) mw_1_21 (List.mem_of_getElem? (i := 3) rfl) xw1_ArithmeticException xw2_ArithmeticException xw3_ArithmeticException hk hstr hR d0 d3 d4 d6 d9
theorem th_ArithmeticExceptionW (C : Cx p c cc meth s m args RX9 ret nL) (hl0 : l.stackTraces = false) (hXf : Xf F s) (hPk : ∀ x ∈ c.exceptionTable.toList, False) (hP : va_P D vwCl w H) (hS : va_S F s.heap H locs) (hsz : ls.size = nL) {text : String} {ik is : Nat} (hk : Cond.classLink RX9 ik "java/lang/ArithmeticException" ∈ TB) (hstr : (is, text) ∈ strs) (hR : 6 ≤ R.frames ∧ 100 ≤ R.locals ∧ 1 ≤ R.cells ∧ 6 ≤ R.slots)
    (d0 : decode cc pc = .ok (.new ik, 3)) (d3 : decode cc (pc + 3) = .ok (.dup, 1)) (d4 : decode cc (pc + 4) = .ok (.ldc_w is, 3)) (d6 : decode cc (pc + 7) = .ok (.invokespecial 93, 3)) (d9 : decode cc (pc + 10) = .ok (.athrow, 1)) :
    W p l e R s m args below meth c H locs 0 0 (vx_MQ below (fun _ _ _ _ => False) (XQ D w F 4) args s 1 6 F) (F0 m pc ls []) :=
  th_genW C hl0 hXf hPk hP hS hsz rfl (by decide) mw_1_21 (List.mem_of_getElem? (i := 3) rfl) xw1_ArithmeticException xw2_ArithmeticException xw3_ArithmeticException hk hstr hR d0 d3 d4 d6 d9
set_option maxRecDepth 100000 in
theorem xw1_UnsupportedOperationException : ∀ w ∈ (vx_atS RX9 44 "java/lang/UnsupportedOperationException" nms).filter goodWord, w ∈ TB := by
  have h : ∀ w ∈ (vx_atS RX9 44 "java/lang/UnsupportedOperationException" nms).filter goodWord, w ∈ lw_tbl := by decide +kernel
  exact fun w hw => List.mem_filter.mpr ⟨h w hw, (List.mem_filter.mp hw).2⟩
set_option maxRecDepth 100000 in
theorem xw2_UnsupportedOperationException : ∀ w ∈ (vx_atS RX9 44 "java/lang/UnsupportedOperationException" nms).filter (fun w => !goodWord w), w ∈ ngw "java/lang/UnsupportedOperationException" := by decide +kernel
set_option maxRecDepth 100000 in
theorem xw3_UnsupportedOperationException : ∀ w ∈ vx_atS RX9 44 "java/lang/UnsupportedOperationException" nms, vx_ot w = true := by decide +kernel
theorem th_UnsupportedOperationException (C : Cx p c cc meth s m args RX9 ret nL) (hl0 : l.stackTraces = false) (hXf : Xf F s) (hPk : ∀ x ∈ c.exceptionTable.toList, False) (hP : va_P D vwCl w H) (hS : va_S F s.heap H locs) (hsz : ls.size = nL) {text : String} {ik is : Nat} (hk : Cond.classLink RX9 ik "java/lang/UnsupportedOperationException" ∈ TB) (hstr : (is, text) ∈ strs) (hR : 6 ≤ R.frames ∧ 100 ≤ R.locals ∧ 1 ≤ R.cells ∧ 6 ≤ R.slots)
    (d0 : decode cc pc = .ok (.new ik, 3)) (d3 : decode cc (pc + 3) = .ok (.dup, 1)) (d4 : decode cc (pc + 4) = .ok (.ldc is, 2)) (d6 : decode cc (pc + 6) = .ok (.invokespecial 44, 3)) (d9 : decode cc (pc + 9) = .ok (.athrow, 1)) :
    W p l e R s m args below meth c H locs 0 0 (vx_MQ below (fun _ _ _ _ => False) (XQ D w F 5) args s 1 6 F) (F0 m pc ls []) :=
  th_gen C hl0 hXf hPk hP hS hsz rfl (by decide) mw_1_15 (List.mem_of_getElem? (i := 4) rfl) xw1_UnsupportedOperationException xw2_UnsupportedOperationException xw3_UnsupportedOperationException hk hstr hR d0 d3 d4 d6 d9
theorem th_UnsupportedOperationExceptionW (C : Cx p c cc meth s m args RX9 ret nL) (hl0 : l.stackTraces = false) (hXf : Xf F s) (hPk : ∀ x ∈ c.exceptionTable.toList, False) (hP : va_P D vwCl w H) (hS : va_S F s.heap H locs) (hsz : ls.size = nL) {text : String} {ik is : Nat} (hk : Cond.classLink RX9 ik "java/lang/UnsupportedOperationException" ∈ TB) (hstr : (is, text) ∈ strs) (hR : 6 ≤ R.frames ∧ 100 ≤ R.locals ∧ 1 ≤ R.cells ∧ 6 ≤ R.slots)
    (d0 : decode cc pc = .ok (.new ik, 3)) (d3 : decode cc (pc + 3) = .ok (.dup, 1)) (d4 : decode cc (pc + 4) = .ok (.ldc_w is, 3)) (d6 : decode cc (pc + 7) = .ok (.invokespecial 44, 3)) (d9 : decode cc (pc + 10) = .ok (.athrow, 1)) :
    W p l e R s m args below meth c H locs 0 0 (vx_MQ below (fun _ _ _ _ => False) (XQ D w F 5) args s 1 6 F) (F0 m pc ls []) :=
  th_genW C hl0 hXf hPk hP hS hsz rfl (by decide) mw_1_15 (List.mem_of_getElem? (i := 4) rfl) xw1_UnsupportedOperationException xw2_UnsupportedOperationException xw3_UnsupportedOperationException hk hstr hR d0 d3 d4 d6 d9
end XRows
section XCalls
variable {p : Program} {l : Launch} {e : Env} {R : Room} {s : State} {m : MethodId} {args : Array Value} {below : List Frame} {meth : Method} {c : Code} {cc : ByteArray} {own : String} {ret : Option FieldType} {nL pc : Nat} {ls : Array Slot} {H : Heap} {locs : List Loc}
variable {y : MethodName} {cc' : ByteArray} {nL' index k b n : Nat} {ret' : Option FieldType} {rm : Room} {As rest st : List Value} {D : va_G} {tys : List (ClassId × FieldType)} {F : Nat → Prop} {w w' : va_W}
theorem xc_end {hrun : vx_Run p l e R s m args below meth c H locs 0 0 1 6 (F0 m pc ls st) rest (fun _ _ _ => False) (XQ D w' F n) F} (hPk : ∀ x ∈ c.exceptionTable.toList, False) (hlocks : meth.locks = false) (hS : va_S F s.heap H locs) :
    W p l e R s m args below meth c H locs 0 0 (vx_MQ below (fun _ _ _ _ => False) (XQ D w' F n) args s 1 6 F) (F0 m pc ls st) := by
  intro T hT X
  rcases hrun T hT X with ⟨v, st₀, t, T', L, h0, X', hL, e1, e2, hfalse, go⟩ | ⟨q, st₀, t, T', L, E, ce, h0, X', hL, e1, e2, ⟨hE, hP', hF⟩, hce, hcv, hcl, go⟩
  · exact hfalse.elim
  · obtain ⟨hz, hk⟩ := hF
    rw [h0] at hz hk
    obtain ⟨t2, a1, b2⟩ := vx_out (Qc := fun _ _ _ _ => False) (XC := XQ D w' F n) (free := F) (mc := 1) (ms := 6) (H := T'.heap) (locs := locs ++ L) (cells := 0 + 1) (slots := 0 + 6) (pc := pc) (ls := ls) (rest := rest) (E := E) (ce := ce) (q := q) (fun x h => (hPk x h).elim) hlocks (by rw [e1]; exact hce) hcv hcl
      (fun t9 h9 _ => ⟨hE, by rw [h9, e1]; exact hP', by rw [h9, e1]; exact Nat.le_trans hS.1 hz, fun q9 h1 h2 => by rw [h9, e1, hk q9 (Nat.lt_of_lt_of_le h1 hS.1) h2]; exact hS.2.1 q9 h1 h2⟩)
      (fun q9 hq => by
        rcases List.mem_append.mp hq with h | h
        · exact hS.2.2 q9 h
        · exact hL q9 h) (Nat.le_refl _) (Nat.le_refl _) T' rfl X'
    exact ⟨t2, go.trans a1, b2⟩
theorem xc_V (C : Cx p c cc meth s m args own ret nL) (hl0 : l.stackTraces = false) (hXf : Xf F s) (hPk : ∀ x ∈ c.exceptionTable.toList, False) (hM : MetX l y cc' nL' ret' rm D tys F (.ref b :: As) w w' n) (hls : ls.size = nL) (hcp : CPv y cc' nL' ret' k) (hlink : Cond.methodLink own index y ∈ TB)
    (hrc : ∃ cell : Cell, H[b]? = some cell ∧ cell.vm.isStatics = false ∧ s.vm.findClass y.cls = some cell.cls) (hK : va_K D vwCl tys s) (hP : va_P D vwCl w H) (hS : va_S F s.heap H locs)
    (hrm : rm.cells = 1 ∧ rm.slots = 6) (hR : (rm.frames + 1 ≤ R.frames ∧ 8 + (nL' + 11) + rm.locals ≤ R.locals) ∧ 0 + 1 ≤ R.cells ∧ 0 + 6 ≤ R.slots)
    (hn : As.length = k) (hst : st = As.reverse ++ .ref b :: rest) (hW : (rest.map fun v => v.category).sum ≤ 8) (hdg : decode cc pc = .ok (.invokevirtual index, 3)) :
    W p l e R s m args below meth c H locs 0 0 (vx_MQ below (fun _ _ _ _ => False) (XQ D w' F n) args s 1 6 F) (F0 m pc ls st) := by
  obtain ⟨hx, hb, hr, hml, hown, htL, hlocks⟩ := C
  obtain ⟨hcode, hini, hinst, hsel, hd⟩ := hcp
  subst hst
  have hrun := vx_runV (p := p) (l := l) (e := e) (R := R) (s := s) (m := m) (args := args) (below := below) (meth := meth) (c := c) (H := H) (locs := locs) (cells := 0) (slots := 0) (As := As) (rest := rest) (g := F0 m pc ls (As.reverse ++ .ref b :: rest)) (b := b) (C := y.cls)
    ⟨hx, hb, hml, hown, htL⟩ hM ⟨callB_of k htL (gLaw hcode) rfl hrm.1 hrm.2 (htL _ hini) (htL _ hlink) hd hR.1, htL _ hinst, htL _ hsel⟩ ⟨Xp_blind, hrc, fun U hU hW => ⟨rfl, by rw [hU]; exact hP, va_K.moved hW.alike hK, hXf.go hS hW hU⟩⟩ rfl hn hls rfl (lv_room hW) hdg hR.2
  exact xc_end (hrun := hrun) hPk hlocks hS
theorem xc_S (C : Cx p c cc meth s m args own ret nL) (hl0 : l.stackTraces = false) (hXf : Xf F s) (hPk : ∀ x ∈ c.exceptionTable.toList, False) (hM : MetX l y cc' nL' ret' rm D tys F As w w' n) (hls : ls.size = nL) (hcp : CPs y cc' nL' ret' k) (hlink : Cond.methodLink own index y ∈ TB)
    (hK : va_K D vwCl tys s) (hP : va_P D vwCl w H) (hS : va_S F s.heap H locs)
    (hrm : rm.cells = 1 ∧ rm.slots = 6) (hR : (rm.frames + 1 ≤ R.frames ∧ 8 + (nL' + 11) + rm.locals ≤ R.locals) ∧ 0 + 1 ≤ R.cells ∧ 0 + 6 ≤ R.slots)
    (hn : As.length = k) (hst : st = As.reverse ++ rest) (hW : (rest.map fun v => v.category).sum ≤ 8) (hdg : decode cc pc = .ok (.invokestatic index, 3)) :
    W p l e R s m args below meth c H locs 0 0 (vx_MQ below (fun _ _ _ _ => False) (XQ D w' F n) args s 1 6 F) (F0 m pc ls st) := by
  obtain ⟨hx, hb, hr, hml, hown, htL, hlocks⟩ := C
  obtain ⟨hcode, hini, hstat, hd⟩ := hcp
  subst hst
  have hrun := vx_runS (p := p) (l := l) (e := e) (R := R) (s := s) (m := m) (args := args) (below := below) (meth := meth) (c := c) (H := H) (locs := locs) (cells := 0) (slots := 0) (As := As) (rest := rest) (g := F0 m pc ls (As.reverse ++ rest))
    ⟨hx, hb, hml, hown, htL⟩ hM ⟨callB_of k htL (gLaw hcode) rfl hrm.1 hrm.2 (htL _ hini) (htL _ hlink) hd hR.1, htL _ hstat⟩ ⟨Xp_blind, fun U hU hW => ⟨rfl, by rw [hU]; exact hP, va_K.moved hW.alike hK, hXf.go hS hW hU⟩⟩ rfl hn hls rfl (lv_room hW) hdg hR.2
  exact xc_end (hrun := hrun) hPk hlocks hS
end XCalls
