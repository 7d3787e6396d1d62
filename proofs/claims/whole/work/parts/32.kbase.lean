/-! constructors: a world that grows, cells by their places -/
def cl (n : Nat) (ad : Nat → Nat) (g : Nat → va_E) : va_W := (List.range n).map (fun o => (ad o, g o))
theorem cl_get {n : Nat} {ad : Nat → Nat} {g : Nat → va_E} {o : Nat} (h : o < n) : (cl n ad g)[o]? = some (ad o, g o) := by simp [cl, h]
theorem cl_ge {n : Nat} {ad : Nat → Nat} {g : Nat → va_E} {o : Nat} {q : Nat × va_E} (h : (cl n ad g)[o]? = some q) : o < n ∧ q = (ad o, g o) := by
  have h1 : o < n := by
    have := (List.getElem?_eq_some_iff.mp h).1
    simpa [cl] using this
  rw [cl_get h1] at h
  exact ⟨h1, (Option.some.inj h).symm⟩
theorem cl_congr {n : Nat} {ad ad' : Nat → Nat} {g g' : Nat → va_E} (h : ∀ o, o < n → ad o = ad' o ∧ g o = g' o) : cl n ad g = cl n ad' g' := by
  unfold cl
  apply List.map_congr_left
  intro o ho
  obtain ⟨h1, h2⟩ := h o (List.mem_range.mp ho)
  rw [h1, h2]
theorem cl_push {n : Nat} {ad : Nat → Nat} {g : Nat → va_E} {q : Nat} {e : va_E} : cl n ad g ++ [(q, e)] = cl (n + 1) (va_up ad n q) (va_up g n e) := by
  have h1 : cl n ad g = cl n (va_up ad n q) (va_up g n e) := cl_congr (fun o ho => by simp [va_up, Nat.ne_of_lt ho])
  rw [h1]
  unfold cl
  rw [List.range_succ, List.map_append]
  simp [va_up]
theorem cl_set {n : Nat} {ad : Nat → Nat} {g : Nat → va_E} {o : Nat} {e : va_E} (h : o < n) : (cl n ad g).set o (ad o, e) = cl n ad (va_up g o e) := by
  apply List.ext_getElem?
  intro i
  by_cases hi : i < n
  · rw [cl_get hi]
    by_cases hio : i = o
    · subst hio
      rw [List.getElem?_set_self (by simp [cl, h])]
      simp [va_up]
    · rw [List.getElem?_set_ne (fun e => hio e.symm), cl_get hi]
      simp [va_up, hio]
  · rw [List.getElem?_eq_none (by simp [cl]; omega), List.getElem?_eq_none (by simp [cl]; omega)]
theorem up_s {α : Type} {f : Nat → α} {k : Nat} {v : α} : va_up f k v k = v := by simp [va_up]
theorem up_n {α : Type} {f : Nat → α} {k j : Nat} {v : α} (h : j ≠ k) : va_up f k v j = f j := by simp [va_up, h]
def KW (D : va_G) (s : State) (FF : Nat → Prop) (n : Nat) (ad : Nat → Nat) (g : Nat → va_E) (H : Heap) (locs : List Loc) : Prop := va_P D vwCl (cl n ad g) H ∧ va_D FF (cl n ad g) ∧ va_S FF s.heap H locs
theorem KW.congr {D : va_G} {s : State} {FF : Nat → Prop} {n : Nat} {ad ad' : Nat → Nat} {g g' : Nat → va_E} {H : Heap} {locs : List Loc} (h : KW D s FF n ad g H locs) (hc : ∀ o, o < n → ad o = ad' o ∧ g o = g' o) : KW D s FF n ad' g' H locs := by
  unfold KW at h ⊢
  rw [← cl_congr hc]
  exact h
abbrev FK (h sz : Nat) : Nat → Prop := fun q => q = h ∨ sz ≤ q
theorem aoP : Cond.arrayOver (.object RX4) ∈ lw_tbl := tix1 72 (by decide +kernel)
theorem aoN : Cond.arrayOver (.object RX3) ∈ lw_tbl := tix1 112 (by decide +kernel)
def Kx (U : State) : Prop := va_AO RX3 U ∧ va_AO RX4 U ∧ va_Nw (.methodLinkNest "Henselhall$Book" 15 yX4_init "Henselhall") U ∧ va_Nw (.methodLinkNest "Henselhall$Rack" 25 yX6_init "Henselhall") U ∧ va_Nw (.methodLinkNest "Henselhall$Rack" 36 yX3_init "Henselhall") U ∧ va_Nw (.methodLinkNest "Henselhall" 18 yX1_init "Henselhall") U
theorem Kx.go {s U : State} (h : Kx s) (hW : s.WarmedH U.vm) : Kx U := ⟨va_AO.moved hW.alike h.1, va_AO.moved hW.alike h.2.1, va_Nw.warmM hW h.2.2.1, va_Nw.warmM hW h.2.2.2.1, va_Nw.warmM hW h.2.2.2.2.1, va_Nw.warmM hW h.2.2.2.2.2⟩
theorem Kx.call {U : State} {a : Array Value} {g : JFrame} {mk : MethodId} (h : Kx U) : Kx (U.calling g mk a) := ⟨va_AO.moved (u := U) (U := U.calling g mk a) (Vm.Alike.refl U.vm) h.1, va_AO.moved (u := U) (U := U.calling g mk a) (Vm.Alike.refl U.vm) h.2.1, va_Nw.same (u := U) (U := U.calling g mk a) rfl rfl h.2.2.1, va_Nw.same (u := U) (U := U.calling g mk a) rfl rfl h.2.2.2.1, va_Nw.same (u := U) (U := U.calling g mk a) rfl rfl h.2.2.2.2.1, va_Nw.same (u := U) (U := U.calling g mk a) rfl rfl h.2.2.2.2.2⟩
abbrev Kp (D : va_G) (ct : Nat → ClassId) (h : Nat) (e0 : va_E) (sz : Nat) : Array Value → State → Prop := fun a U => a = ([Value.ref h] : List Value).toArray ∧ U.heap.size = sz ∧ va_P D vwCl [(h, e0)] U.heap ∧ va_K D vwCl (tysW ct) U ∧ Kx U
abbrev Kq (D : va_G) (h sz k : Nat) (E : (Nat → Nat) → Nat → va_E) : Array Value → State → Outcome → State → Prop := fun _ st o t => o = .returned none ∧ (∃ a : Nat → Nat, a 0 = h ∧ va_P D vwCl (cl (k + 1) a (E a)) t.heap ∧ va_D (FK h sz) (cl (k + 1) a (E a))) ∧ va_F (FK h sz) st t
def MetK (l : Launch) (y : MethodName) (cc : ByteArray) (nL : Nat) (rm : Room) (D : va_G) (ct : Nat → ClassId) (h : Nat) (e0 : va_E) (sz k ms : Nat) (E : (Nat → Nat) → Nat → va_E) : Prop :=
  Met l y (Cond.code y cc nL none :: TB) rm (Kp D ct h e0 sz) (Kq D h sz k E) k ms (FK h sz)
theorem MetK.of {l : Launch} {y : MethodName} {cc : ByteArray} {nL : Nat} {rm : Room} {D : va_G} {ct : Nat → ClassId} {h : Nat} {e0 : va_E} {sz k ms : Nat} {E : (Nat → Nat) → Nat → va_E} (own : String) (hy : plainName y.cls = true) (hown : y.cls = own) (hname : y.name = "<init>") (hlen : 1 ≤ nL)
    (body : ∀ (p : Program) (e : Env) (s : State) (m : MethodId) (args : Array Value) (below : List Frame) (meth : Method) (c : Code), Cx p c cc meth s m args own none nL → meth.name = "<init>" → va_K D vwCl (tysW ct) s → Kx s → s.heap.size = sz → KW D s (FK h sz) 1 (fun _ => h) (fun _ => e0) s.heap [] → ∀ ls : Array Slot, lv_has ls nL [(0, .ref h)] →
      W p l e rm s m args below meth c s.heap [] 0 0 (MQ below (Kq D h sz k E) args s k ms (FK h sz)) (F0 m 0 ls [])) : MetK l y cc nL rm D ct h e0 sz k ms E := by
  refine Met.ofW (cc := cc) (maxL := nL) (ret := none) hy rfl ?_
  intro p e s m args below meth c s₁ B hml hv
  obtain ⟨rfl, hsz, hP, hK, hX⟩ := hv
  have hts := atoms_spec (ws := Cond.code y cc nL none :: TB) B.pre
  have ho : s.vm.findClass own = some m.cls := by rw [← hown]; exact findClass_of_methodNamed B.named
  have hin : meth.name = "<init>" := by rw [← hname]; exact (name_of_methodNamed B.named B.method).1
  have hl := lv_entry ([.ref h]) (n := nL) hlen
  rw [lg_entry_eq]
  refine body p e s m _ below meth c ⟨B.exec, B.bytes, B.returns, hml, ho, fun w h => hts w (List.mem_cons_of_mem _ h), B.notSynchronized⟩ hin hK hX hsz ⟨hP, ?_, va_S.rf⟩ _ hl
  refine ⟨fun i j p q hp hq _ => ?_, fun i q hq => ?_⟩
  · have h1 := (cl_ge hp).1
    have h2 := (cl_ge hq).1
    omega
  · rw [(cl_ge hq).2]
    exact Or.inl rfl
theorem raInj {U : State} {a b : ClassId} {ty : FieldType} (h1 : va_RA U a ty) (h2 : va_RA U b ty) : a = b := by
  cases ty with
  | object C =>
    obtain ⟨_, _, _, _, _, f1⟩ := h1
    obtain ⟨_, _, _, _, _, f2⟩ := h2
    exact Option.some.inj (f1.symm.trans f2)
  | _ => exact Option.some.inj (h1.symm.trans h2)
section KRows
variable {p : Program} {l : Launch} {e : Env} {R : Room} {s : State} {m : MethodId} {args : Array Value} {below : List Frame} {meth : Method} {c : Code} {cc : ByteArray} {own : String} {ret : Option FieldType} {nL pc : Nat} {ls : Array Slot} {H : Heap} {locs : List Loc} {cells slots : Nat} {Q : State → Prop} {rest : List Value} {D : va_G} {ct : Nat → ClassId} {FF : Nat → Prop} {n : Nat} {ad : Nat → Nat} {g : Nat → va_E} {index : Nat}
theorem kRet {h sz k ms : Nat} {E : (Nat → Nat) → Nat → va_E} (C : Cx p c cc meth s m args own none nL) (hw : KW D s (FK h sz) (k + 1) ad g H locs) (h0 : ad 0 = h) (hE : ∀ o, o < k + 1 → g o = E ad o) (hdg : decode cc pc = .ok (.return_, 1)) :
    W p l e R s m args below meth c H locs k ms (MQ below (Kq D h sz k E) args s k ms (FK h sz)) (F0 m pc ls []) := by
  obtain ⟨hx, hb, hr, hml, hown, htL, hlocks⟩ := C
  obtain ⟨hP, hD, hS⟩ := hw.congr (g' := E ad) (ad' := ad) (fun o ho => ⟨rfl, hE o ho⟩)
  exact W.vret hx hb hr (fun t ht _ => ⟨rfl, ⟨ad, h0, by rw [ht]; exact hP, hD⟩, hS.F ht⟩) hS.2.2 hdg hlocks
theorem kNew (C : Cx p c cc meth s m args own ret nL) (hK : va_K D vwCl (tysW ct) s) (hw : KW D s FF n ad g H locs) (hA : ∀ q, s.heap.size ≤ q → FF q) {C9 : String} {T : u_T} {N ci : Nat} (hwT : ∀ w ∈ u_ws C9 T N, w ∈ TB) (ty : Nat → FieldType) (hty : ∀ k, k < N → parseFieldDescriptor (T k).2.2.1 = some (ty k)) (hcl : Cond.classLink own index C9 ∈ TB) (hinst : Cond.instantiable C9 N ∈ TB) (hini : Cond.initialized C9 ∈ TB) (hc : vwCl[ci]? = some (C9, T, N)) {fs : List Value} (hfs : ∀ j, j < N → defaultValue (ty j) = vp_V fs j) (hcells : cells + 1 ≤ R.cells) (hslots : slots + N ≤ R.slots) (hdg : decode cc pc = .ok (.new index, 3))
    (kk : ∀ (q : Nat) (H1 : Heap), KW D s FF (n + 1) (va_up ad n q) (va_up g n (.inr (ci, fs))) H1 locs → W p l e R s m args below meth c H1 locs (cells + 1) (slots + N) Q (F0 m (pc + 3) ls (.ref q :: rest))) : W p l e R s m args below meth c H locs cells slots Q (F0 m pc ls rest) := by
  obtain ⟨hx, hb, hr, hml, hown, htL, hlocks⟩ := C
  obtain ⟨hP, hD, hS⟩ := hw
  refine va_new (ci := ci) (fs := fs) (C := C9) (T := T) (N := N) hx hb (fun w h => htL w (hwT w h)) (fun _ h => h) ty hty hown (htL _ hcl) (htL _ hinst) (htL _ hini) hK hP hD hS hA hc hfs hcells hslots hdg (fun q H1 hP1 hD1 hS1 => kk q H1 ?_)
  rw [cl_push] at hP1 hD1
  exact ⟨hP1, hD1, hS1⟩
theorem kArr (C : Cx p c cc meth s m args own ret nL) (hK : va_K D vwCl (tysW ct) s) (hw : KW D s FF n ad g H locs) (hA : ∀ q, s.heap.size ≤ q → FF q) {atype : ArrayType} {ty : FieldType} (harr : Cond.arrayClass (newarray.typeOf atype) ∈ TB) (hty : newarray.typeOf atype = ty) (t : Nat) (ht : (tysW ct)[t]? = some (ct t, ty)) {i : Int32} {N' : Nat} {a0 : vp_A} (ha : ∀ cA : ClassId, vp_cell cA a0 = arrV cA N' (fun _ => defaultValue ty)) (hn : ¬ i < 0) (hN : i.toNatClampNeg = N') (hbytes : N' * componentBytes ty ≤ 536870912) (hcells : cells + 1 ≤ R.cells) (hslots : slots + N' ≤ R.slots) (hdg : decode cc pc = .ok (.newarray atype, 2))
    (kk : ∀ (q : Nat) (H1 : Heap), KW D s FF (n + 1) (va_up ad n q) (va_up g n (.inl (ct t, a0))) H1 locs → W p l e R s m args below meth c H1 locs (cells + 1) (slots + N') Q (F0 m (pc + 2) ls (.ref q :: rest))) : W p l e R s m args below meth c H locs cells slots Q (F0 m pc ls (.int i :: rest)) := by
  obtain ⟨hx, hb, hr, hml, hown, htL, hlocks⟩ := C
  obtain ⟨hP, hD, hS⟩ := hw
  refine va_newa hx hb (atype := atype) (htL _ harr) hty hK hP hD hS hA ha hn hN hbytes hcells hslots hdg (fun q cA H1 hK1 hP1 hD1 hS1 => kk q H1 ?_)
  have e1 : cA = ct t := raInj (hK1.2 6 (cA, ty) rfl).2 (hK.2 t _ ht).2
  subst e1
  rw [cl_push] at hP1 hD1
  exact ⟨hP1, hD1, hS1⟩
theorem kRArr (C : Cx p c cc meth s m args own ret nL) (hK : va_K D vwCl (tysW ct) s) (hw : KW D s FF n ad g H locs) (hA : ∀ q, s.heap.size ≤ q → FF q) {C9 : String} (hclink : Cond.classLink own index C9 ∈ TB) (hover : va_AO C9 s) (t : Nat) (ht : (tysW ct)[t]? = some (ct t, .object C9)) {i : Int32} {N' : Nat} (hn : ¬ i < 0) (hN : i.toNatClampNeg = N') (hbytes : N' * 4 ≤ 536870912) (hcells : cells + 1 ≤ R.cells) (hslots : slots + N' ≤ R.slots) (hdg : decode cc pc = .ok (.anewarray index, 3))
    (kk : ∀ (q : Nat) (H1 : Heap), KW D s FF (n + 1) (va_up ad n q) (va_up g n (.inl (ct t, N', rfA (fun _ => none)))) H1 locs → W p l e R s m args below meth c H1 locs (cells + 1) (slots + N') Q (F0 m (pc + 3) ls (.ref q :: rest))) : W p l e R s m args below meth c H locs cells slots Q (F0 m pc ls (.int i :: rest)) := by
  obtain ⟨hx, hb, hr, hml, hown, htL, hlocks⟩ := C
  obtain ⟨hP, hD, hS⟩ := hw
  refine va_newq hx hb hown (htL _ hclink) hover hK hP hD hS hA hn hN hbytes hcells hslots hdg (fun q cA H1 hK1 hP1 hD1 hS1 => kk q H1 ?_)
  have e1 : cA = ct t := raInj (hK1.2 6 (cA, .object C9) rfl).2 (hK.2 t _ ht).2
  subst e1
  rw [cl_push] at hP1 hD1
  exact ⟨hP1, hD1, hS1⟩
theorem kPut (C : Cx p c cc meth s m args own ret nL) (hK : va_K D vwCl (tysW ct) s) (hw : KW D s FF n ad g H locs) {C9 : String} {T : u_T} {N ci : Nat} (hwT : ∀ w ∈ u_ws C9 T N, w ∈ TB) (ty : Nat → FieldType) (hty : ∀ k, k < N → parseFieldDescriptor (T k).2.2.1 = some (ty k)) (hnm : ∀ a, a < N → ∀ b, b < N → a ≠ b → (T a).2.1 ≠ (T b).2.1) (hc : vwCl[ci]? = some (C9, T, N)) (o : Nat) (ho : o < n) {fs : List Value} (hgo : g o = .inr (ci, fs)) (k : Nat) (hk : k < N) (hlink : Cond.fieldLink own index (T k).1 (T k).2.1 (T k).2.2.1 ∈ TB) (hfin : (T k).2.2.2 = false) {ty1 : FieldType} {v : Value} (hd : parseFieldDescriptor (T k).2.2.1 = some ty1) (hn : narrow ty1 v = v) (hfit : fits ty1 v = true) (hl : k < fs.length) (hdg : decode cc pc = .ok (.putfield index, 3))
    (kk : ∀ (H1 : Heap) (locs1 : List Loc), KW D s FF n ad (va_up g o (.inr (ci, fs.set k v))) H1 locs1 → W p l e R s m args below meth c H1 locs1 cells slots Q (F0 m (pc + 3) ls rest)) : W p l e R s m args below meth c H locs cells slots Q (F0 m pc ls (v :: .ref (ad o) :: rest)) := by
  obtain ⟨hx, hb, hr, hml, hown, htL, hlocks⟩ := C
  obtain ⟨hP, hD, hS⟩ := hw
  refine va_put (ci := ci) (C := C9) (T := T) (N := N) hx hb (fun w h => htL w (hwT w h)) (fun _ h => h) ty hty hnm hown hK hP hD hS o ((cl_get ho).trans (congrArg (fun z => some (ad o, z)) hgo)) hc k hk (htL _ hlink) (fun _ h => h) hfin hd hn hfit hl hdg (fun H1 locs1 hP1 hD1 hS1 => kk H1 locs1 ?_)
  rw [cl_set ho] at hP1 hD1
  exact ⟨hP1, hD1, hS1⟩
theorem kPutF (C : Cx p c cc meth s m args own ret nL) (hin : meth.name = "<init>") (hK : va_K D vwCl (tysW ct) s) (hw : KW D s FF n ad g H locs) {C9 : String} {T : u_T} {N ci : Nat} (hwT : ∀ w ∈ u_ws C9 T N, w ∈ TB) (ty : Nat → FieldType) (hty : ∀ k, k < N → parseFieldDescriptor (T k).2.2.1 = some (ty k)) (hnm : ∀ a, a < N → ∀ b, b < N → a ≠ b → (T a).2.1 ≠ (T b).2.1) (hc : vwCl[ci]? = some (C9, T, N)) (o : Nat) (ho : o < n) {fs : List Value} (hgo : g o = .inr (ci, fs)) (k : Nat) (hk : k < N) (hlink : Cond.fieldLink own index (T k).1 (T k).2.1 (T k).2.2.1 ∈ TB) (hfin : (T k).2.2.2 = true) (hdecl : (T k).1 = own) {ty1 : FieldType} {v : Value} (hd : parseFieldDescriptor (T k).2.2.1 = some ty1) (hn : narrow ty1 v = v) (hfit : fits ty1 v = true) (hl : k < fs.length) (hdg : decode cc pc = .ok (.putfield index, 3))
    (kk : ∀ (H1 : Heap) (locs1 : List Loc), KW D s FF n ad (va_up g o (.inr (ci, fs.set k v))) H1 locs1 → W p l e R s m args below meth c H1 locs1 cells slots Q (F0 m (pc + 3) ls rest)) : W p l e R s m args below meth c H locs cells slots Q (F0 m pc ls (v :: .ref (ad o) :: rest)) := by
  obtain ⟨hx, hb, hr, hml, hown, htL, hlocks⟩ := C
  obtain ⟨hP, hD, hS⟩ := hw
  refine va_putF (ci := ci) (C := C9) (T := T) (N := N) hx hb (fun w h => htL w (hwT w h)) (fun _ h => h) ty hty hnm hown hK hP hD hS o ((cl_get ho).trans (congrArg (fun z => some (ad o, z)) hgo)) hc k hk (htL _ hlink) (fun _ h => h) hfin hin hdecl hd hn hfit hl hdg (fun H1 locs1 hP1 hD1 hS1 => kk H1 locs1 ?_)
  rw [cl_set ho] at hP1 hD1
  exact ⟨hP1, hD1, hS1⟩
theorem kGet (C : Cx p c cc meth s m args own ret nL) (hK : va_K D vwCl (tysW ct) s) (hw : KW D s FF n ad g H locs) {C9 : String} {T : u_T} {N ci : Nat} (hwT : ∀ w ∈ u_ws C9 T N, w ∈ TB) (hc : vwCl[ci]? = some (C9, T, N)) (o : Nat) (ho : o < n) {fs : List Value} (hgo : g o = .inr (ci, fs)) (k : Nat) (hk : k < N) (hlink : Cond.fieldLink own index (T k).1 (T k).2.1 (T k).2.2.1 ∈ TB) {v : Value} (hv : fs[k]? = some v) (hdg : decode cc pc = .ok (.getfield index, 3))
    (kk : W p l e R s m args below meth c H locs cells slots Q (F0 m (pc + 3) ls (v :: rest))) : W p l e R s m args below meth c H locs cells slots Q (F0 m pc ls (.ref (ad o) :: rest)) := by
  obtain ⟨hx, hb, hr, hml, hown, htL, hlocks⟩ := C
  exact va_get (ci := ci) (C := C9) (T := T) (N := N) hx hb (fun w h => htL w (hwT w h)) (fun _ h => h) hown hK hw.1 o ((cl_get ho).trans (congrArg (fun z => some (ad o, z)) hgo)) hc k hk (htL _ hlink) (fun _ h => h) hv hdg kk
theorem kLen (C : Cx p c cc meth s m args own ret nL) (hK : va_K D vwCl (tysW ct) s) (hw : KW D s FF n ad g H locs) (o : Nat) (ho : o < n) {cA : ClassId} {x : vp_A} (hgo : g o = .inl (cA, x)) (t : Nat) {ty : FieldType} (ht : (tysW ct)[t]? = some (cA, ty)) {v : Int32} (hv : Int32.ofNat x.1 = v) (hdg : decode cc pc = .ok (.arraylength, 1))
    (kk : W p l e R s m args below meth c H locs cells slots Q (F0 m (pc + 1) ls (.int v :: rest))) : W p l e R s m args below meth c H locs cells slots Q (F0 m pc ls (.ref (ad o) :: rest)) := by
  obtain ⟨hx, hb, hr, hml, hown, htL, hlocks⟩ := C
  exact va_alen hx hb hK hw.1 o t ((cl_get ho).trans (congrArg (fun z => some (ad o, z)) hgo)) ht hv hdg kk
theorem kAst (C : Cx p c cc meth s m args own ret nL) (hK : va_K D vwCl (tysW ct) s) (hw : KW D s FF n ad g H locs) (o t o2 ci : Nat) (ho : o < n) (ho2 : o2 < n) {r : vw_C} {N : Nat} {vs : List Value} {f : Nat → Option Nat} (hgo : g o = .inl (ct t, N, rfA f)) (ht : (tysW ct)[t]? = some (ct t, .object r.1)) (hgo2 : g o2 = .inr (ci, vs)) (hc : vwCl[ci]? = some r) {i : Int32} (hin : vp_in i N) (hdg : decode cc pc = .ok (.aastore, 1))
    (kk : ∀ (H1 : Heap) (locs1 : List Loc), KW D s FF n ad (va_up g o (.inl (ct t, N, rfA (va_up f i.toNatClampNeg (some (ad o2)))))) H1 locs1 → W p l e R s m args below meth c H1 locs1 cells slots Q (F0 m (pc + 1) ls rest)) : W p l e R s m args below meth c H locs cells slots Q (F0 m pc ls (.ref (ad o2) :: .int i :: .ref (ad o) :: rest)) := by
  obtain ⟨hx, hb, hr, hml, hown, htL, hlocks⟩ := C
  obtain ⟨hP, hD, hS⟩ := hw
  refine va_astq hx hb hK hP hD hS o t o2 ci (r := r) ((cl_get ho).trans (congrArg (fun z => some (ad o, z)) hgo)) ht ((cl_get ho2).trans (congrArg (fun z => some (ad o2, z)) hgo2)) hc hin hdg (fun H1 locs1 hP1 hD1 hS1 => kk H1 locs1 ?_)
  rw [cl_set ho] at hP1 hD1
  exact ⟨hP1, hD1, hS1⟩
theorem Kp_blind {h : Nat} {e0 : va_E} {sz : Nat} : FrameBlind (Kp D ct h e0 sz) := fun a U g mk h => ⟨h.1, h.2.1, h.2.2.1, va_K.moved (u := U) (U := U.calling g mk a) (Vm.Alike.refl U.vm) h.2.2.2.1, h.2.2.2.2.call⟩
/-- the world behind a constructor's call -/
theorem kJoin {k : Nat} {E : (Nat → Nat) → Nat → va_E} {i0 : Nat} {H1 : Heap} {locs1 : List Loc} (hw : KW D s FF n ad g H locs) (hA : ∀ q, s.heap.size ≤ q → FF q) (hi : i0 < n) {a : Nat → Nat} (ha0 : a 0 = ad i0) (hP1 : va_P D vwCl (cl (k + 1) a (E a)) H1) (hD1 : va_D (FK (ad i0) H.size) (cl (k + 1) a (E a))) (hz : H.size ≤ H1.size) (hk : ∀ q : Nat, q < H.size → ¬ FK (ad i0) H.size q → H1[q]? = H[q]?) (hl : ∀ z ∈ locs1, FK (ad i0) H.size z.base ∨ FF z.base) :
    KW D s FF (n + k) (fun o => if o < n then ad o else a (o - n + 1)) (fun o => if o = i0 then E a 0 else if o < n then g o else E a (o - n + 1)) H1 locs1 := by
  obtain ⟨hP, hD, hS⟩ := hw
  have hlt : ∀ o, o < n → ad o < H.size := fun o ho => (hP o _ (cl_get ho)).lt
  have hne : ∀ i j, i < n → j < n → ad i = ad j → i = j := fun i j h1 h2 e => hD.1 i j _ _ (cl_get h1) (cl_get h2) e
  have hFF : ∀ o, o < n → FF (ad o) := fun o ho => hD.2 o _ (cl_get ho)
  have hnew : ∀ o, 0 < o → o < k + 1 → H.size ≤ a o := fun o h0 ho => by
    rcases hD1.2 o _ (cl_get ho) with h | h
    · have := hD1.1 o 0 _ _ (cl_get ho) (cl_get (by omega)) (h.trans ha0.symm)
      omega
    · exact h
  have hFa : ∀ q, FK (ad i0) H.size q → FF q := fun q h => by
    rcases h with h | h
    · rw [h]; exact hFF i0 hi
    · exact hA q (Nat.le_trans hS.1 h)
  refine ⟨fun o q hq => ?_, ⟨fun i j p q hp hq e => ?_, fun o q hq => ?_⟩, ⟨Nat.le_trans hS.1 hz, fun q h1 h2 => ?_, fun z hz2 => ?_⟩⟩
  · obtain ⟨h1, rfl⟩ := cl_ge hq
    by_cases ho : o < n
    · by_cases hoi : o = i0
      · subst hoi
        rw [if_pos ho, if_pos rfl, ← ha0]
        exact hP1 0 _ (cl_get (by omega))
      · rw [if_pos ho, if_neg hoi, if_pos ho]
        refine (hP o _ (cl_get ho)).kept (hk _ (hlt o ho) (fun h => ?_))
        rcases h with h | h
        · exact hoi (hne o i0 ho hi h)
        · exact absurd (hlt o ho) (Nat.not_lt.mpr h)
    · rw [if_neg ho, if_neg (by omega), if_neg ho]
      exact hP1 (o - n + 1) _ (cl_get (by omega))
  · obtain ⟨h1, rfl⟩ := cl_ge hp
    obtain ⟨h2, rfl⟩ := cl_ge hq
    simp only at e
    by_cases hi9 : i < n
    · by_cases hj9 : j < n
      · rw [if_pos hi9, if_pos hj9] at e
        exact hne i j hi9 hj9 e
      · rw [if_pos hi9, if_neg hj9] at e
        have := hlt i hi9
        have := hnew (j - n + 1) (by omega) (by omega)
        omega
    · by_cases hj9 : j < n
      · rw [if_neg hi9, if_pos hj9] at e
        have := hlt j hj9
        have := hnew (i - n + 1) (by omega) (by omega)
        omega
      · rw [if_neg hi9, if_neg hj9] at e
        have := hD1.1 (i - n + 1) (j - n + 1) _ _ (cl_get (by omega)) (cl_get (by omega)) e
        omega
  · obtain ⟨h1, rfl⟩ := cl_ge hq
    by_cases ho : o < n
    · simp only [if_pos ho]
      exact hFF o ho
    · simp only [if_neg ho]
      exact hFa _ (hD1.2 (o - n + 1) _ (cl_get (by omega)))
  · rw [hk q (Nat.lt_of_lt_of_le h1 hS.1) (fun h => h2 (hFa q h))]
    exact hS.2.1 q h1 h2
  · rcases hl z hz2 with h | h
    · exact hFa _ h
    · exact h
variable {y : MethodName} {cc' : ByteArray} {nL' k ms : Nat} {rm : Room} {e0 : va_E} {E : (Nat → Nat) → Nat → va_E} {st : List Value}
theorem kEnd {i0 : Nat} (hrun : va_Run p l e R s m args below meth c H locs cells slots k ms (F0 m pc ls (.ref (ad i0) :: rest)) rest (Kq D (ad i0) H.size k E (Value.ref (ad i0) :: []).toArray) (FK (ad i0) H.size)) (hw : KW D s FF n ad g H locs) (hA : ∀ q, s.heap.size ≤ q → FF q) (hi : i0 < n)
    (kk : ∀ (a : Nat → Nat) (H1 : Heap) (locs1 : List Loc), a 0 = ad i0 → KW D s FF (n + k) (fun o => if o < n then ad o else a (o - n + 1)) (fun o => if o = i0 then E a 0 else if o < n then g o else E a (o - n + 1)) H1 locs1 → W p l e R s m args below meth c H1 locs1 (cells + k) (slots + ms) Q (F0 m (pc + 3) ls rest)) : W p l e R s m args below meth c H locs cells slots Q (F0 m pc ls (.ref (ad i0) :: rest)) := by
  intro T hT X
  obtain ⟨v', st₀, t, T', L, h0, X', hL, e1, e2, ⟨hv, ⟨a, ha0, hP1, hD1⟩, hz, hk⟩, go⟩ := hrun T hT X
  have hv' : v' = none := by cases hv; rfl
  subst hv'
  rw [h0] at hz hk
  obtain ⟨t2, a1, b2⟩ := kk a T'.heap (locs ++ L) ha0 (kJoin hw hA hi ha0 (by rw [e1]; exact hP1) hD1 (by rw [e1]; exact hz) (fun q h1 h2 => by rw [e1]; exact hk q h1 h2) (fun z hz2 => by
    rcases List.mem_append.mp hz2 with h | h
    · exact Or.inr (hw.2.2.2.2 z h)
    · exact Or.inl (hL z h))) T' rfl X'
  exact ⟨t2, go t2 a1, b2⟩
theorem kCall (C : Cx p c cc meth s m args own ret nL) (hK : va_K D vwCl (tysW ct) s) (hX : Kx s) (hw : KW D s FF n ad g H locs) (hA : ∀ q, s.heap.size ≤ q → FF q) (i0 : Nat) (hi : i0 < n) (hg0 : g i0 = e0) (hM : MetK l y cc' nL' rm D ct (ad i0) e0 H.size k ms E) (hls : ls.size = nL) (hcode : Cond.code y cc' nL' none ∈ TB) (hini : Cond.initialized y.cls ∈ TB) (hinst : Cond.instanceMethod y ∈ TB) (hlink : Cond.methodLink own index y ∈ TB) (hy1 : y.name = "<init>")
    (hd : y.cls ≠ "java/lang/invoke/MethodHandle" ∧ y.cls ≠ "java/lang/invoke/VarHandle" ∧ (parseMethodDescriptor y.desc).map (fun d => d.parameters.length) = some 0) (hrm : rm.cells = k ∧ rm.slots = ms) (hR : rm.frames + 1 ≤ R.frames ∧ 8 + (nL' + 11) + rm.locals ≤ R.locals) (hW : (rest.map fun v => v.category).sum ≤ 8) (hdg : decode cc pc = .ok (.invokespecial index, 3)) (hroom : cells + k ≤ R.cells ∧ slots + ms ≤ R.slots)
    (kk : ∀ (a : Nat → Nat) (H1 : Heap) (locs1 : List Loc), a 0 = ad i0 → KW D s FF (n + k) (fun o => if o < n then ad o else a (o - n + 1)) (fun o => if o = i0 then E a 0 else if o < n then g o else E a (o - n + 1)) H1 locs1 → W p l e R s m args below meth c H1 locs1 (cells + k) (slots + ms) Q (F0 m (pc + 3) ls rest)) : W p l e R s m args below meth c H locs cells slots Q (F0 m pc ls (.ref (ad i0) :: rest)) := by
  obtain ⟨hx, hb, hr, hml, hown, htL, hlocks⟩ := C
  have hP0 : va_P D vwCl [(ad i0, e0)] H := by
    intro j q hq
    cases j with
    | zero => cases hq; rw [← hg0]; exact hw.1 i0 _ (cl_get hi)
    | succ j => simp at hq
  refine kEnd (va_runI (Ts := TB) (As := []) (rest := rest) ⟨hx, hb, hml, hown, htL⟩ hM ⟨callB_of 0 htL (gLaw hcode) rfl hrm.1 hrm.2 (htL _ hini) (htL _ hlink) hd hR, hy1, htL _ hinst⟩ ⟨Kp_blind, fun U hU hWm => ⟨rfl, by rw [hU], by rw [hU]; exact hP0, va_K.moved hWm.alike hK, hX.go hWm⟩⟩ rfl rfl hls rfl (lv_room hW) hdg hroom) hw hA hi kk
theorem kCallN (C : Cx p c cc meth s m args own ret nL) (hK : va_K D vwCl (tysW ct) s) (hX : Kx s) (hw : KW D s FF n ad g H locs) (hA : ∀ q, s.heap.size ≤ q → FF q) (i0 : Nat) (hi : i0 < n) (hg0 : g i0 = e0) (hM : MetK l y cc' nL' rm D ct (ad i0) e0 H.size k ms E) (hls : ls.size = nL) (hcode : Cond.code y cc' nL' none ∈ TB) (hini : Cond.initialized y.cls ∈ TB) (hinst : Cond.instanceMethod y ∈ TB) {host : String} (hlink : va_Nw (.methodLinkNest own index y host) s) (hy1 : y.name = "<init>")
    (hd : y.cls ≠ "java/lang/invoke/MethodHandle" ∧ y.cls ≠ "java/lang/invoke/VarHandle" ∧ (parseMethodDescriptor y.desc).map (fun d => d.parameters.length) = some 0) (hrm : rm.cells = k ∧ rm.slots = ms) (hR : rm.frames + 1 ≤ R.frames ∧ 8 + (nL' + 11) + rm.locals ≤ R.locals) (hW : (rest.map fun v => v.category).sum ≤ 8) (hdg : decode cc pc = .ok (.invokespecial index, 3)) (hroom : cells + k ≤ R.cells ∧ slots + ms ≤ R.slots)
    (kk : ∀ (a : Nat → Nat) (H1 : Heap) (locs1 : List Loc), a 0 = ad i0 → KW D s FF (n + k) (fun o => if o < n then ad o else a (o - n + 1)) (fun o => if o = i0 then E a 0 else if o < n then g o else E a (o - n + 1)) H1 locs1 → W p l e R s m args below meth c H1 locs1 (cells + k) (slots + ms) Q (F0 m (pc + 3) ls rest)) : W p l e R s m args below meth c H locs cells slots Q (F0 m pc ls (.ref (ad i0) :: rest)) := by
  obtain ⟨hx, hb, hr, hml, hown, htL, hlocks⟩ := C
  have hP0 : va_P D vwCl [(ad i0, e0)] H := by
    intro j q hq
    cases j with
    | zero => cases hq; rw [← hg0]; exact hw.1 i0 _ (cl_get hi)
    | succ j => simp at hq
  refine kEnd (va_runIN (Ts := TB) (As := []) (rest := rest) ⟨hx, hb, hml, hown, htL⟩ hM ⟨va_cnB 0 htL (gLaw hcode) rfl hrm.1 hrm.2 hlink (htL _ hini) hd hR, hy1, htL _ hinst⟩ ⟨Kp_blind, fun U hU hWm => ⟨rfl, by rw [hU], by rw [hU]; exact hP0, va_K.moved hWm.alike hK, hX.go hWm⟩⟩ rfl rfl hls rfl (lv_room hW) hdg hroom) hw hA hi kk
theorem kObj (C : Cx p c cc meth s m args own ret nL) (hls : ls.size = nL) (hlink : Cond.methodLink own index Lib.objectInit ∈ TB) (hinst : Cond.instanceMethod Lib.objectInit ∈ TB) (hcode : Cond.code Lib.objectInit ⟨#[0xb1]⟩ 1 none ∈ TB) {a : Nat} (hdg : decode cc pc = .ok (.invokespecial index, 3)) (hR : 1 ≤ R.frames ∧ 20 ≤ R.locals) (hW : (rest.map fun v => v.category).sum ≤ 8)
    (kk : W p l e R s m args below meth c H locs cells slots Q (F0 m (pc + 3) ls rest)) : W p l e R s m args below meth c H locs cells slots Q (F0 m pc ls (.ref a :: rest)) := by
  obtain ⟨hx, hb, hr, hml, hown, htL, hlocks⟩ := C
  exact W.objInit hx hb hown (htL _ hlink) (htL _ hinst) (htL _ hcode) rfl (hls.trans hml.symm) rfl hdg hR.1 (by show 2 * 0 + _ + 12 ≤ _; omega) kk
end KRows
