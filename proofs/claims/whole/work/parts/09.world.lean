/-! a state: what the fields and rows hold, by the cell's place and the slot or index -/
abbrev St : Type := (Nat → Nat → Int32) × (Nat → Nat → Int64)
def wI (S : St) (o i : Nat) (v : Int32) : St := (fun a b => if a = o ∧ b = i then v else S.1 a b, S.2)
def wJ (S : St) (o i : Nat) (v : Int64) : St := (S.1, fun a b => if a = o ∧ b = i then v else S.2 a b)
abbrev ShT : Type := Nat → (Nat → Int32) → (Nat → Int64) → va_E
def cellsOf (sh : ShT) (N : Nat) (ad : Nat → Nat) (S : St) : va_W := (List.range N).map (fun o => (ad o, sh o (S.1 o) (S.2 o)))
/-- the addresses are apart, and of a kind -/
abbrev Gd (ad : Nat → Nat) (N : Nat) (F : Nat → Prop) : Prop := (∀ i j : Nat, i < N → j < N → ad i = ad j → i = j) ∧ ∀ i : Nat, i < N → F (ad i)
abbrev rfA (f : Nat → Option Nat) : (Nat → Int32) ⊕ (Nat → Int64) ⊕ (Nat → UInt32) ⊕ (Nat → UInt64) ⊕ (Nat → Option Nat) := .inr (.inr (.inr (.inr f)))
theorem cC {sh : ShT} {N : Nat} {ad : Nat → Nat} {S : St} {o : Nat} (h : o < N) : (cellsOf sh N ad S)[o]? = some (ad o, sh o (S.1 o) (S.2 o)) := by
  simp [cellsOf, h]
theorem cD {sh : ShT} {N : Nat} {ad : Nat → Nat} {S : St} {F : Nat → Prop} (hG : Gd ad N F) : va_D F (cellsOf sh N ad S) := by
  have key : ∀ (i : Nat) (p : Nat × va_E), (cellsOf sh N ad S)[i]? = some p → i < N ∧ p.1 = ad i := by
    intro i p h
    have hi : i < N := by
      have := (List.getElem?_eq_some_iff.mp h).1
      simpa [cellsOf] using this
    rw [cC hi] at h
    cases h
    exact ⟨hi, rfl⟩
  refine ⟨fun i j p q hp hq e => ?_, fun k q hq => ?_⟩
  · obtain ⟨h1, e1⟩ := key i p hp
    obtain ⟨h2, e2⟩ := key j q hq
    exact hG.1 i j h1 h2 (by rw [← e1, ← e2]; exact e)
  · obtain ⟨h1, e1⟩ := key k q hq
    rw [e1]
    exact hG.2 k h1
theorem cS {sh : ShT} {N : Nat} {ad : Nat → Nat} {S T : St} {o : Nat} {x : va_E} (h : o < N) (he : sh o (T.1 o) (T.2 o) = x) (ho : ∀ o' : Nat, o' ≠ o → S.1 o' = T.1 o' ∧ S.2 o' = T.2 o') : (cellsOf sh N ad S).set o (ad o, x) = cellsOf sh N ad T := by
  apply List.ext_getElem?
  intro i
  by_cases hi : i < N
  · rw [cC hi]
    by_cases hio : i = o
    · subst hio
      rw [List.getElem?_set_self (by simp [cellsOf, h]), he]
    · rw [List.getElem?_set_ne (fun e => hio e.symm), cC hi, (ho i hio).1, (ho i hio).2]
  · rw [List.getElem?_eq_none (by simp [cellsOf]; omega), List.getElem?_eq_none (by simp [cellsOf]; omega)]
theorem wI_o {S : St} {o i : Nat} {v : Int32} : ∀ o' : Nat, o' ≠ o → S.1 o' = (wI S o i v).1 o' ∧ S.2 o' = (wI S o i v).2 o' := fun o' h => ⟨by funext b; simp [wI, h], rfl⟩
theorem wJ_o {S : St} {o i : Nat} {v : Int64} : ∀ o' : Nat, o' ≠ o → S.1 o' = (wJ S o i v).1 o' ∧ S.2 o' = (wJ S o i v).2 o' := fun o' h => ⟨rfl, by funext b; simp [wJ, h]⟩
theorem wI_u {S : St} {o i : Nat} {v : Int32} : (wI S o i v).1 o = upd (S.1 o) i v := by funext b; simp [wI, upd]
theorem wJ_u {S : St} {o i : Nat} {v : Int64} : (wJ S o i v).2 o = vp_updL (S.2 o) i v := by funext b; simp [wJ, vp_updL]
theorem wI_J {S : St} {o i : Nat} {v : Int32} : (wI S o i v).2 = S.2 := rfl
theorem wJ_I {S : St} {o i : Nat} {v : Int64} : (wJ S o i v).1 = S.1 := rfl
theorem inN {i : Int32} {n N : Nat} (h : vp_in i n) (hN : n ≤ N) : i.toNatClampNeg < N := by
  have h1 : i.toNatClampNeg < n := Nat.not_le.mp fun q => h (Or.inr q)
  omega
abbrev tysW (ct : Nat → ClassId) : List (ClassId × FieldType) := [(ct 0, .int), (ct 1, .long), (ct 2, .boolean), (ct 3, .object RX3), (ct 4, .object RX4), (ct 5, .double)]
def numF (f : Nat → Int32) (g : Nat → Int64) : List Value := [.int (f 0), .int (f 1), .int (f 2), .int (f 3), .int (f 4), .int (f 5), .int (f 6), .int (f 7), .int (f 8), .int (f 9), .long (g 10), .int (f 11), .int (f 12), .long (g 13)]
/-- the class: 0 Henselhall, 1 Rack, 2 Matrix, 3 Near, 4 Book, 5 Row, 6 powers, 7 numbers, 8 pages, 9 values, 10 entries, 11 minors, 12 .. the Nums (52 spare, 53 result), 54 .. the polynomials, 62 .. their rows -/
def shC (ct : Nat → ClassId) (ad : Nat → Nat) (o : Nat) (f : Nat → Int32) (g : Nat → Int64) : va_E :=
  if o = 0 then .inr (9, [.ref (ad 1), .ref (ad 2)])
  else if o = 1 then .inr (7, [.ref (ad 3), .ref (ad 4), .ref (ad 5), .int (f 3), .ref (ad 7), .ref (ad (12 + 40)), .ref (ad (12 + 41))])
  else if o = 2 then .inr (3, [.int (f 0), .ref (ad 10), .ref (ad 11)])
  else if o = 3 then .inr (4, [.int (f 0), .int (f 1), .ref (ad 6)])
  else if o = 4 then .inr (2, [.int (f 0), .ref (ad 8)])
  else if o = 5 then .inr (8, [.int (f 0), .ref (ad 9)])
  else if o = 6 then .inl (ct 1, 30, .inr (.inl g))
  else if o = 7 then .inl (ct 3, 40, rfA (fun i => some (ad (12 + i))))
  else if o = 8 then .inl (ct 4, 8, rfA (fun i => some (ad (54 + i))))
  else if o = 9 then .inl (ct 0, 12, .inl f)
  else if o = 10 then .inl (ct 0, 16, .inl f)
  else if o = 11 then .inl (ct 1, 256, .inr (.inl g))
  else if o < 54 then .inr (5, numF f g)
  else if o < 62 then .inr (6, [.int (f 0), .ref (ad (62 + (o - 54)))])
  else .inl (ct 0, 7, .inl f)
abbrev cellsC (ct : Nat → ClassId) (ad : Nat → Nat) (S : St) : va_W := cellsOf (shC ct ad) 70 ad S
theorem shC_num {ct : Nat → ClassId} {ad : Nat → Nat} {k : Nat} {f : Nat → Int32} {g : Nat → Int64} (hk : k < 42) : shC ct ad (12 + k) f g = .inr (5, numF f g) := by
  unfold shC
  rw [if_neg (by omega), if_neg (by omega), if_neg (by omega), if_neg (by omega), if_neg (by omega), if_neg (by omega), if_neg (by omega), if_neg (by omega), if_neg (by omega), if_neg (by omega), if_neg (by omega), if_neg (by omega), if_pos (by omega)]
theorem shC_poly {ct : Nat → ClassId} {ad : Nat → Nat} {k : Nat} {f : Nat → Int32} {g : Nat → Int64} (hk : k < 8) : shC ct ad (54 + k) f g = .inr (6, [.int (f 0), .ref (ad (62 + k))]) := by
  unfold shC
  rw [if_neg (by omega), if_neg (by omega), if_neg (by omega), if_neg (by omega), if_neg (by omega), if_neg (by omega), if_neg (by omega), if_neg (by omega), if_neg (by omega), if_neg (by omega), if_neg (by omega), if_neg (by omega), if_neg (by omega), if_pos (by omega), show 54 + k - 54 = k by omega]
theorem shC_coef {ct : Nat → ClassId} {ad : Nat → Nat} {k : Nat} {f : Nat → Int32} {g : Nat → Int64} : shC ct ad (62 + k) f g = .inl (ct 0, 7, .inl f) := by
  unfold shC
  rw [if_neg (by omega), if_neg (by omega), if_neg (by omega), if_neg (by omega), if_neg (by omega), if_neg (by omega), if_neg (by omega), if_neg (by omega), if_neg (by omega), if_neg (by omega), if_neg (by omega), if_neg (by omega), if_neg (by omega), if_neg (by omega)]
/-- the reference: 0 the object, 1 .. 17 its rows by their slots -/
def shM (ct : Nat → ClassId) (ad : Nat → Nat) (o : Nat) (f : Nat → Int32) (g : Nat → Int64) : va_E :=
  if o = 0 then .inr (10, [.ref (ad 1), .ref (ad 2), .ref (ad 3), .ref (ad 4), .ref (ad 5), .ref (ad 6), .ref (ad 7), .ref (ad 8), .ref (ad 9), .ref (ad 10), .ref (ad 11), .ref (ad 12), .ref (ad 13), .ref (ad 14), .ref (ad 15), .ref (ad 16), .ref (ad 17), .int (f 17), .int (f 18), .int (f 19), .int (f 20), .int (f 21), .int (f 22), .int (f 23), .int (f 24), .int (f 25), .long (g 26)])
  else if o = 1 then .inl (ct 0, 40, .inl f)
  else if o = 2 then .inl (ct 0, 40, .inl f)
  else if o = 3 then .inl (ct 0, 40, .inl f)
  else if o = 4 then .inl (ct 0, 40, .inl f)
  else if o = 5 then .inl (ct 0, 40, .inl f)
  else if o = 6 then .inl (ct 0, 40, .inl f)
  else if o = 7 then .inl (ct 0, 40, .inl f)
  else if o = 8 then .inl (ct 1, 40, .inr (.inl g))
  else if o = 9 then .inl (ct 2, 40, .inl f)
  else if o = 10 then .inl (ct 0, 480, .inl f)
  else if o = 11 then .inl (ct 0, 280, .inl f)
  else if o = 12 then .inl (ct 0, 56, .inl f)
  else if o = 13 then .inl (ct 0, 8, .inl f)
  else if o = 14 then .inl (ct 0, 12, .inl f)
  else if o = 15 then .inl (ct 0, 16, .inl f)
  else if o = 16 then .inl (ct 0, 8, .inl f)
  else .inl (ct 0, 8, .inl f)
abbrev cellsM (ct : Nat → ClassId) (ad : Nat → Nat) (S : St) : va_W := cellsOf (shM ct ad) 18 ad S
theorem hwX0 : ∀ w ∈ wsX00, w ∈ TB := by
  have h : wsX00 = [Cond.lays "Henselhall$Book" "Henselhall$Book" "count" "I", Cond.laysFinal "Henselhall$Book" "Henselhall$Book" "pages" "[LHenselhall$Polynomial;"] := by decide +kernel
  rw [h]
  exact List.forall_mem_cons.mpr ⟨mw_1_91, List.forall_mem_cons.mpr ⟨mw_1_93, fun _ h => absurd h List.not_mem_nil⟩⟩
theorem hwX1 : ∀ w ∈ wsX10, w ∈ TB := by
  have h : wsX10 = [Cond.lays "Henselhall$Matrix" "Henselhall$Matrix" "size" "I", Cond.laysFinal "Henselhall$Matrix" "Henselhall$Matrix" "entries" "[I", Cond.laysFinal "Henselhall$Matrix" "Henselhall$Matrix" "minors" "[J"] := by decide +kernel
  rw [h]
  exact List.forall_mem_cons.mpr ⟨mw_1_205, List.forall_mem_cons.mpr ⟨mw_1_207, List.forall_mem_cons.mpr ⟨mw_1_209, fun _ h => absurd h List.not_mem_nil⟩⟩⟩
theorem hwX2 : ∀ w ∈ wsX20, w ∈ TB := by
  have h : wsX20 = [Cond.lays "Henselhall$Near" "Henselhall$Near" "prime" "I", Cond.lays "Henselhall$Near" "Henselhall$Near" "last" "I", Cond.laysFinal "Henselhall$Near" "Henselhall$Near" "powers" "[J"] := by decide +kernel
  rw [h]
  exact List.forall_mem_cons.mpr ⟨mw_1_57, List.forall_mem_cons.mpr ⟨mw_1_59, List.forall_mem_cons.mpr ⟨mw_1_61, fun _ h => absurd h List.not_mem_nil⟩⟩⟩
theorem hwX3 : ∀ w ∈ wsX30, w ∈ TB := by
  have h : wsX30 = [Cond.lays "Henselhall$Num" "Henselhall$Num" "kind" "I", Cond.lays "Henselhall$Num" "Henselhall$Num" "first" "I", Cond.lays "Henselhall$Num" "Henselhall$Num" "second" "I", Cond.lays "Henselhall$Num" "Henselhall$Num" "top" "I", Cond.lays "Henselhall$Num" "Henselhall$Num" "bottom" "I", Cond.lays "Henselhall$Num" "Henselhall$Num" "asked" "I", Cond.lays "Henselhall$Num" "Henselhall$Num" "extent" "I", Cond.lays "Henselhall$Num" "Henselhall$Num" "marked" "Z", Cond.lays "Henselhall$Num" "Henselhall$Num" "low" "I", Cond.lays "Henselhall$Num" "Henselhall$Num" "high" "I", Cond.lays "Henselhall$Num" "Henselhall$Num" "unit" "J", Cond.lays "Henselhall$Num" "Henselhall$Num" "earlyLow" "I", Cond.lays "Henselhall$Num" "Henselhall$Num" "earlyHigh" "I", Cond.lays "Henselhall$Num" "Henselhall$Num" "earlyUnit" "J"] := by decide +kernel
  rw [h]
  exact List.forall_mem_cons.mpr ⟨mw_1_140, List.forall_mem_cons.mpr ⟨mw_1_142, List.forall_mem_cons.mpr ⟨mw_1_144, List.forall_mem_cons.mpr ⟨mw_1_146, List.forall_mem_cons.mpr ⟨mw_1_148, List.forall_mem_cons.mpr ⟨mw_1_150, List.forall_mem_cons.mpr ⟨mw_1_152, List.forall_mem_cons.mpr ⟨mw_1_154, List.forall_mem_cons.mpr ⟨mw_1_156, List.forall_mem_cons.mpr ⟨mw_1_158, List.forall_mem_cons.mpr ⟨mw_1_160, List.forall_mem_cons.mpr ⟨mw_1_162, List.forall_mem_cons.mpr ⟨mw_1_164, List.forall_mem_cons.mpr ⟨mw_1_166, fun _ h => absurd h List.not_mem_nil⟩⟩⟩⟩⟩⟩⟩⟩⟩⟩⟩⟩⟩⟩
theorem hwX4 : ∀ w ∈ wsX40, w ∈ TB := by
  have h : wsX40 = [Cond.lays "Henselhall$Polynomial" "Henselhall$Polynomial" "count" "I", Cond.laysFinal "Henselhall$Polynomial" "Henselhall$Polynomial" "coefficients" "[I"] := by decide +kernel
  rw [h]
  exact List.forall_mem_cons.mpr ⟨mw_1_82, List.forall_mem_cons.mpr ⟨mw_1_84, fun _ h => absurd h List.not_mem_nil⟩⟩
theorem hwX5 : ∀ w ∈ wsX50, w ∈ TB := by
  have h : wsX50 = [Cond.laysFinal "Henselhall$Rack" "Henselhall$Rack" "near" "LHenselhall$Near;", Cond.laysFinal "Henselhall$Rack" "Henselhall$Rack" "book" "LHenselhall$Book;", Cond.laysFinal "Henselhall$Rack" "Henselhall$Rack" "row" "LHenselhall$Row;", Cond.lays "Henselhall$Rack" "Henselhall$Rack" "count" "I", Cond.laysFinal "Henselhall$Rack" "Henselhall$Rack" "numbers" "[LHenselhall$Num;", Cond.laysFinal "Henselhall$Rack" "Henselhall$Rack" "spare" "LHenselhall$Num;", Cond.laysFinal "Henselhall$Rack" "Henselhall$Rack" "result" "LHenselhall$Num;"] := by decide +kernel
  rw [h]
  exact List.forall_mem_cons.mpr ⟨mw_1_180, List.forall_mem_cons.mpr ⟨mw_1_182, List.forall_mem_cons.mpr ⟨mw_1_184, List.forall_mem_cons.mpr ⟨mw_1_186, List.forall_mem_cons.mpr ⟨mw_1_188, List.forall_mem_cons.mpr ⟨mw_1_190, List.forall_mem_cons.mpr ⟨mw_1_192, fun _ h => absurd h List.not_mem_nil⟩⟩⟩⟩⟩⟩⟩
theorem hwX6 : ∀ w ∈ wsX60, w ∈ TB := by
  have h : wsX60 = [Cond.lays "Henselhall$Row" "Henselhall$Row" "count" "I", Cond.laysFinal "Henselhall$Row" "Henselhall$Row" "values" "[I"] := by decide +kernel
  rw [h]
  exact List.forall_mem_cons.mpr ⟨mw_1_106, List.forall_mem_cons.mpr ⟨mw_1_108, fun _ h => absurd h List.not_mem_nil⟩⟩
theorem hwX9 : ∀ w ∈ wsX90, w ∈ TB := by
  have h : wsX90 = [Cond.laysFinal "Henselhall" "Henselhall" "rack" "LHenselhall$Rack;", Cond.laysFinal "Henselhall" "Henselhall" "matrix" "LHenselhall$Matrix;"] := by decide +kernel
  rw [h]
  exact List.forall_mem_cons.mpr ⟨mw_1_214, List.forall_mem_cons.mpr ⟨mw_1_216, fun _ h => absurd h List.not_mem_nil⟩⟩
theorem hwX10 : ∀ w ∈ wsX100, w ∈ TB := by
  have h : wsX100 = [Cond.laysFinal "HenselhallModel" "HenselhallModel" "val" "[I", Cond.laysFinal "HenselhallModel" "HenselhallModel" "prec" "[I", Cond.laysFinal "HenselhallModel" "HenselhallModel" "kind" "[I", Cond.laysFinal "HenselhallModel" "HenselhallModel" "one" "[I", Cond.laysFinal "HenselhallModel" "HenselhallModel" "two" "[I", Cond.laysFinal "HenselhallModel" "HenselhallModel" "wish" "[I", Cond.laysFinal "HenselhallModel" "HenselhallModel" "rowSize" "[I", Cond.laysFinal "HenselhallModel" "HenselhallModel" "unit" "[J", Cond.laysFinal "HenselhallModel" "HenselhallModel" "hangs" "[Z", Cond.laysFinal "HenselhallModel" "HenselhallModel" "rowOf" "[I", Cond.laysFinal "HenselhallModel" "HenselhallModel" "coefOf" "[I", Cond.laysFinal "HenselhallModel" "HenselhallModel" "coef" "[I", Cond.laysFinal "HenselhallModel" "HenselhallModel" "terms" "[I", Cond.laysFinal "HenselhallModel" "HenselhallModel" "row" "[I", Cond.laysFinal "HenselhallModel" "HenselhallModel" "entry" "[I", Cond.laysFinal "HenselhallModel" "HenselhallModel" "hullAt" "[I", Cond.laysFinal "HenselhallModel" "HenselhallModel" "hullTo" "[I", Cond.lays "HenselhallModel" "HenselhallModel" "thrown" "I", Cond.lays "HenselhallModel" "HenselhallModel" "prime" "I", Cond.lays "HenselhallModel" "HenselhallModel" "numbers" "I", Cond.lays "HenselhallModel" "HenselhallModel" "polynomials" "I", Cond.lays "HenselhallModel" "HenselhallModel" "values" "I", Cond.lays "HenselhallModel" "HenselhallModel" "order" "I", Cond.lays "HenselhallModel" "HenselhallModel" "freshVal" "I", Cond.lays "HenselhallModel" "HenselhallModel" "freshPrec" "I", Cond.lays "HenselhallModel" "HenselhallModel" "hull" "I", Cond.lays "HenselhallModel" "HenselhallModel" "freshUnit" "J"] := by decide +kernel
  rw [h]
  exact List.forall_mem_cons.mpr ⟨mw_5_189, List.forall_mem_cons.mpr ⟨mw_5_191, List.forall_mem_cons.mpr ⟨mw_5_193, List.forall_mem_cons.mpr ⟨mw_5_195, List.forall_mem_cons.mpr ⟨mw_5_197, List.forall_mem_cons.mpr ⟨mw_5_199, List.forall_mem_cons.mpr ⟨mw_5_201, List.forall_mem_cons.mpr ⟨mw_5_203, List.forall_mem_cons.mpr ⟨mw_5_205, List.forall_mem_cons.mpr ⟨mw_5_207, List.forall_mem_cons.mpr ⟨mw_5_209, List.forall_mem_cons.mpr ⟨mw_5_211, List.forall_mem_cons.mpr ⟨mw_5_213, List.forall_mem_cons.mpr ⟨mw_5_215, List.forall_mem_cons.mpr ⟨mw_5_217, List.forall_mem_cons.mpr ⟨mw_5_219, List.forall_mem_cons.mpr ⟨mw_5_221, List.forall_mem_cons.mpr ⟨mw_5_223, List.forall_mem_cons.mpr ⟨mw_5_225, List.forall_mem_cons.mpr ⟨mw_5_227, List.forall_mem_cons.mpr ⟨mw_5_229, List.forall_mem_cons.mpr ⟨mw_5_231, List.forall_mem_cons.mpr ⟨mw_5_233, List.forall_mem_cons.mpr ⟨mw_5_235, List.forall_mem_cons.mpr ⟨mw_5_237, List.forall_mem_cons.mpr ⟨mw_5_239, List.forall_mem_cons.mpr ⟨mw_6_1, fun _ h => absurd h List.not_mem_nil⟩⟩⟩⟩⟩⟩⟩⟩⟩⟩⟩⟩⟩⟩⟩⟩⟩⟩⟩⟩⟩⟩⟩⟩⟩⟩⟩
section HRows
variable {p : Program} {l : Launch} {e : Env} {R : Room} {s : State} {m : MethodId} {args : Array Value} {below : List Frame} {meth : Method} {c : Code} {cc : ByteArray} {own : String} {ret : Option FieldType} {nL pc : Nat} {ls : Array Slot} {H : Heap} {locs : List Loc} {cells slots : Nat} {Q : State → Prop} {rest : List Value} {D : va_G} {ct : Nat → ClassId} {ad : Nat → Nat} {F : Nat → Prop} {S : St} {index k : Nat}
theorem gf_X9_0 (C : Cx p c cc meth s m args own ret nL) (hK : va_K D vwCl (tysW ct) s) (hP : va_P D vwCl (cellsC ct ad S) H) (hlink : Cond.fieldLink own index "Henselhall" "rack" "LHenselhall$Rack;" ∈ TB) (hdg : decode cc pc = .ok (.getfield index, 3))
    (kk : W p l e R s m args below meth c H locs cells slots Q (F0 m (pc + 3) ls (.ref (ad 1) :: rest))) : W p l e R s m args below meth c H locs cells slots Q (F0 m pc ls (.ref (ad 0) :: rest)) := by
  obtain ⟨hx, hb, hr, hml, hown, htL, hlocks⟩ := C
  exact va_get (ci := 9) (C := RX9) (T := TX9) (N := 2) hx hb (fun w h => htL w (hwX9 w h)) (fun _ h => h) hown hK hP (0) ((cC (by decide)).trans (congrArg (fun z => some (ad (0), z)) (rfl))) rfl 0 (by decide) (htL _ hlink) (fun _ h => h) rfl hdg kk
theorem gf_X9_1 (C : Cx p c cc meth s m args own ret nL) (hK : va_K D vwCl (tysW ct) s) (hP : va_P D vwCl (cellsC ct ad S) H) (hlink : Cond.fieldLink own index "Henselhall" "matrix" "LHenselhall$Matrix;" ∈ TB) (hdg : decode cc pc = .ok (.getfield index, 3))
    (kk : W p l e R s m args below meth c H locs cells slots Q (F0 m (pc + 3) ls (.ref (ad 2) :: rest))) : W p l e R s m args below meth c H locs cells slots Q (F0 m pc ls (.ref (ad 0) :: rest)) := by
  obtain ⟨hx, hb, hr, hml, hown, htL, hlocks⟩ := C
  exact va_get (ci := 9) (C := RX9) (T := TX9) (N := 2) hx hb (fun w h => htL w (hwX9 w h)) (fun _ h => h) hown hK hP (0) ((cC (by decide)).trans (congrArg (fun z => some (ad (0), z)) (rfl))) rfl 1 (by decide) (htL _ hlink) (fun _ h => h) rfl hdg kk
theorem gf_X5_0 (C : Cx p c cc meth s m args own ret nL) (hK : va_K D vwCl (tysW ct) s) (hP : va_P D vwCl (cellsC ct ad S) H) (hlink : Cond.fieldLink own index "Henselhall$Rack" "near" "LHenselhall$Near;" ∈ TB) (hdg : decode cc pc = .ok (.getfield index, 3))
    (kk : W p l e R s m args below meth c H locs cells slots Q (F0 m (pc + 3) ls (.ref (ad 3) :: rest))) : W p l e R s m args below meth c H locs cells slots Q (F0 m pc ls (.ref (ad 1) :: rest)) := by
  obtain ⟨hx, hb, hr, hml, hown, htL, hlocks⟩ := C
  exact va_get (ci := 7) (C := RX5) (T := TX5) (N := 7) hx hb (fun w h => htL w (hwX5 w h)) (fun _ h => h) hown hK hP (1) ((cC (by decide)).trans (congrArg (fun z => some (ad (1), z)) (rfl))) rfl 0 (by decide) (htL _ hlink) (fun _ h => h) rfl hdg kk
theorem gf_X5_1 (C : Cx p c cc meth s m args own ret nL) (hK : va_K D vwCl (tysW ct) s) (hP : va_P D vwCl (cellsC ct ad S) H) (hlink : Cond.fieldLink own index "Henselhall$Rack" "book" "LHenselhall$Book;" ∈ TB) (hdg : decode cc pc = .ok (.getfield index, 3))
    (kk : W p l e R s m args below meth c H locs cells slots Q (F0 m (pc + 3) ls (.ref (ad 4) :: rest))) : W p l e R s m args below meth c H locs cells slots Q (F0 m pc ls (.ref (ad 1) :: rest)) := by
  obtain ⟨hx, hb, hr, hml, hown, htL, hlocks⟩ := C
  exact va_get (ci := 7) (C := RX5) (T := TX5) (N := 7) hx hb (fun w h => htL w (hwX5 w h)) (fun _ h => h) hown hK hP (1) ((cC (by decide)).trans (congrArg (fun z => some (ad (1), z)) (rfl))) rfl 1 (by decide) (htL _ hlink) (fun _ h => h) rfl hdg kk
theorem gf_X5_2 (C : Cx p c cc meth s m args own ret nL) (hK : va_K D vwCl (tysW ct) s) (hP : va_P D vwCl (cellsC ct ad S) H) (hlink : Cond.fieldLink own index "Henselhall$Rack" "row" "LHenselhall$Row;" ∈ TB) (hdg : decode cc pc = .ok (.getfield index, 3))
    (kk : W p l e R s m args below meth c H locs cells slots Q (F0 m (pc + 3) ls (.ref (ad 5) :: rest))) : W p l e R s m args below meth c H locs cells slots Q (F0 m pc ls (.ref (ad 1) :: rest)) := by
  obtain ⟨hx, hb, hr, hml, hown, htL, hlocks⟩ := C
  exact va_get (ci := 7) (C := RX5) (T := TX5) (N := 7) hx hb (fun w h => htL w (hwX5 w h)) (fun _ h => h) hown hK hP (1) ((cC (by decide)).trans (congrArg (fun z => some (ad (1), z)) (rfl))) rfl 2 (by decide) (htL _ hlink) (fun _ h => h) rfl hdg kk
theorem gf_X5_3 (C : Cx p c cc meth s m args own ret nL) (hK : va_K D vwCl (tysW ct) s) (hP : va_P D vwCl (cellsC ct ad S) H) (hlink : Cond.fieldLink own index "Henselhall$Rack" "count" "I" ∈ TB) (hdg : decode cc pc = .ok (.getfield index, 3))
    (kk : W p l e R s m args below meth c H locs cells slots Q (F0 m (pc + 3) ls (.int (S.1 1 3) :: rest))) : W p l e R s m args below meth c H locs cells slots Q (F0 m pc ls (.ref (ad 1) :: rest)) := by
  obtain ⟨hx, hb, hr, hml, hown, htL, hlocks⟩ := C
  exact va_get (ci := 7) (C := RX5) (T := TX5) (N := 7) hx hb (fun w h => htL w (hwX5 w h)) (fun _ h => h) hown hK hP (1) ((cC (by decide)).trans (congrArg (fun z => some (ad (1), z)) (rfl))) rfl 3 (by decide) (htL _ hlink) (fun _ h => h) rfl hdg kk
theorem pf_X5_3 (C : Cx p c cc meth s m args own ret nL) (hK : va_K D vwCl (tysW ct) s) (hP : va_P D vwCl (cellsC ct ad S) H) (hG : Gd ad 70 F) (hS : va_S F s.heap H locs) {v : Int32} (hlink : Cond.fieldLink own index "Henselhall$Rack" "count" "I" ∈ TB) (hdg : decode cc pc = .ok (.putfield index, 3))
    (kk : ∀ (H1 : Heap) (locs1 : List Loc), va_P D vwCl (cellsC ct ad (wI S 1 3 v)) H1 → va_S F s.heap H1 locs1 → W p l e R s m args below meth c H1 locs1 cells slots Q (F0 m (pc + 3) ls rest)) : W p l e R s m args below meth c H locs cells slots Q (F0 m pc ls (.int v :: .ref (ad 1) :: rest)) := by
  obtain ⟨hx, hb, hr, hml, hown, htL, hlocks⟩ := C
  exact va_put (ci := 7) (C := RX5) (T := TX5) (N := 7) hx hb (fun w h => htL w (hwX5 w h)) (fun _ h => h) tyX5 tyX5_ok nmX5 hown hK hP (cD hG) hS (1) ((cC (by decide)).trans (congrArg (fun z => some (ad (1), z)) (rfl))) rfl 3 (by decide) (htL _ hlink) (fun _ h => h) rfl (ty := .int) rfl rfl rfl (Nat.le_of_ble_eq_true rfl) hdg (fun H1 locs1 hP1 _ hS1 => kk H1 locs1 (by
    rw [cS (T := wI S 1 3 v) (by decide) (by simp [shC, wI_u, upd]) wI_o] at hP1
    exact hP1) hS1)
theorem gf_X5_4 (C : Cx p c cc meth s m args own ret nL) (hK : va_K D vwCl (tysW ct) s) (hP : va_P D vwCl (cellsC ct ad S) H) (hlink : Cond.fieldLink own index "Henselhall$Rack" "numbers" "[LHenselhall$Num;" ∈ TB) (hdg : decode cc pc = .ok (.getfield index, 3))
    (kk : W p l e R s m args below meth c H locs cells slots Q (F0 m (pc + 3) ls (.ref (ad 7) :: rest))) : W p l e R s m args below meth c H locs cells slots Q (F0 m pc ls (.ref (ad 1) :: rest)) := by
  obtain ⟨hx, hb, hr, hml, hown, htL, hlocks⟩ := C
  exact va_get (ci := 7) (C := RX5) (T := TX5) (N := 7) hx hb (fun w h => htL w (hwX5 w h)) (fun _ h => h) hown hK hP (1) ((cC (by decide)).trans (congrArg (fun z => some (ad (1), z)) (rfl))) rfl 4 (by decide) (htL _ hlink) (fun _ h => h) rfl hdg kk
theorem gf_X5_5 (C : Cx p c cc meth s m args own ret nL) (hK : va_K D vwCl (tysW ct) s) (hP : va_P D vwCl (cellsC ct ad S) H) (hlink : Cond.fieldLink own index "Henselhall$Rack" "spare" "LHenselhall$Num;" ∈ TB) (hdg : decode cc pc = .ok (.getfield index, 3))
    (kk : W p l e R s m args below meth c H locs cells slots Q (F0 m (pc + 3) ls (.ref (ad (12 + 40)) :: rest))) : W p l e R s m args below meth c H locs cells slots Q (F0 m pc ls (.ref (ad 1) :: rest)) := by
  obtain ⟨hx, hb, hr, hml, hown, htL, hlocks⟩ := C
  exact va_get (ci := 7) (C := RX5) (T := TX5) (N := 7) hx hb (fun w h => htL w (hwX5 w h)) (fun _ h => h) hown hK hP (1) ((cC (by decide)).trans (congrArg (fun z => some (ad (1), z)) (rfl))) rfl 5 (by decide) (htL _ hlink) (fun _ h => h) rfl hdg kk
theorem gf_X5_6 (C : Cx p c cc meth s m args own ret nL) (hK : va_K D vwCl (tysW ct) s) (hP : va_P D vwCl (cellsC ct ad S) H) (hlink : Cond.fieldLink own index "Henselhall$Rack" "result" "LHenselhall$Num;" ∈ TB) (hdg : decode cc pc = .ok (.getfield index, 3))
    (kk : W p l e R s m args below meth c H locs cells slots Q (F0 m (pc + 3) ls (.ref (ad (12 + 41)) :: rest))) : W p l e R s m args below meth c H locs cells slots Q (F0 m pc ls (.ref (ad 1) :: rest)) := by
  obtain ⟨hx, hb, hr, hml, hown, htL, hlocks⟩ := C
  exact va_get (ci := 7) (C := RX5) (T := TX5) (N := 7) hx hb (fun w h => htL w (hwX5 w h)) (fun _ h => h) hown hK hP (1) ((cC (by decide)).trans (congrArg (fun z => some (ad (1), z)) (rfl))) rfl 6 (by decide) (htL _ hlink) (fun _ h => h) rfl hdg kk
theorem gf_X1_0 (C : Cx p c cc meth s m args own ret nL) (hK : va_K D vwCl (tysW ct) s) (hP : va_P D vwCl (cellsC ct ad S) H) (hlink : Cond.fieldLink own index "Henselhall$Matrix" "size" "I" ∈ TB) (hdg : decode cc pc = .ok (.getfield index, 3))
    (kk : W p l e R s m args below meth c H locs cells slots Q (F0 m (pc + 3) ls (.int (S.1 2 0) :: rest))) : W p l e R s m args below meth c H locs cells slots Q (F0 m pc ls (.ref (ad 2) :: rest)) := by
  obtain ⟨hx, hb, hr, hml, hown, htL, hlocks⟩ := C
  exact va_get (ci := 3) (C := RX1) (T := TX1) (N := 3) hx hb (fun w h => htL w (hwX1 w h)) (fun _ h => h) hown hK hP (2) ((cC (by decide)).trans (congrArg (fun z => some (ad (2), z)) (rfl))) rfl 0 (by decide) (htL _ hlink) (fun _ h => h) rfl hdg kk
theorem pf_X1_0 (C : Cx p c cc meth s m args own ret nL) (hK : va_K D vwCl (tysW ct) s) (hP : va_P D vwCl (cellsC ct ad S) H) (hG : Gd ad 70 F) (hS : va_S F s.heap H locs) {v : Int32} (hlink : Cond.fieldLink own index "Henselhall$Matrix" "size" "I" ∈ TB) (hdg : decode cc pc = .ok (.putfield index, 3))
    (kk : ∀ (H1 : Heap) (locs1 : List Loc), va_P D vwCl (cellsC ct ad (wI S 2 0 v)) H1 → va_S F s.heap H1 locs1 → W p l e R s m args below meth c H1 locs1 cells slots Q (F0 m (pc + 3) ls rest)) : W p l e R s m args below meth c H locs cells slots Q (F0 m pc ls (.int v :: .ref (ad 2) :: rest)) := by
  obtain ⟨hx, hb, hr, hml, hown, htL, hlocks⟩ := C
  exact va_put (ci := 3) (C := RX1) (T := TX1) (N := 3) hx hb (fun w h => htL w (hwX1 w h)) (fun _ h => h) tyX1 tyX1_ok nmX1 hown hK hP (cD hG) hS (2) ((cC (by decide)).trans (congrArg (fun z => some (ad (2), z)) (rfl))) rfl 0 (by decide) (htL _ hlink) (fun _ h => h) rfl (ty := .int) rfl rfl rfl (Nat.le_of_ble_eq_true rfl) hdg (fun H1 locs1 hP1 _ hS1 => kk H1 locs1 (by
    rw [cS (T := wI S 2 0 v) (by decide) (by simp [shC, wI_u, upd]) wI_o] at hP1
    exact hP1) hS1)
theorem gf_X1_1 (C : Cx p c cc meth s m args own ret nL) (hK : va_K D vwCl (tysW ct) s) (hP : va_P D vwCl (cellsC ct ad S) H) (hlink : Cond.fieldLink own index "Henselhall$Matrix" "entries" "[I" ∈ TB) (hdg : decode cc pc = .ok (.getfield index, 3))
    (kk : W p l e R s m args below meth c H locs cells slots Q (F0 m (pc + 3) ls (.ref (ad 10) :: rest))) : W p l e R s m args below meth c H locs cells slots Q (F0 m pc ls (.ref (ad 2) :: rest)) := by
  obtain ⟨hx, hb, hr, hml, hown, htL, hlocks⟩ := C
  exact va_get (ci := 3) (C := RX1) (T := TX1) (N := 3) hx hb (fun w h => htL w (hwX1 w h)) (fun _ h => h) hown hK hP (2) ((cC (by decide)).trans (congrArg (fun z => some (ad (2), z)) (rfl))) rfl 1 (by decide) (htL _ hlink) (fun _ h => h) rfl hdg kk
theorem gf_X1_2 (C : Cx p c cc meth s m args own ret nL) (hK : va_K D vwCl (tysW ct) s) (hP : va_P D vwCl (cellsC ct ad S) H) (hlink : Cond.fieldLink own index "Henselhall$Matrix" "minors" "[J" ∈ TB) (hdg : decode cc pc = .ok (.getfield index, 3))
    (kk : W p l e R s m args below meth c H locs cells slots Q (F0 m (pc + 3) ls (.ref (ad 11) :: rest))) : W p l e R s m args below meth c H locs cells slots Q (F0 m pc ls (.ref (ad 2) :: rest)) := by
  obtain ⟨hx, hb, hr, hml, hown, htL, hlocks⟩ := C
  exact va_get (ci := 3) (C := RX1) (T := TX1) (N := 3) hx hb (fun w h => htL w (hwX1 w h)) (fun _ h => h) hown hK hP (2) ((cC (by decide)).trans (congrArg (fun z => some (ad (2), z)) (rfl))) rfl 2 (by decide) (htL _ hlink) (fun _ h => h) rfl hdg kk
theorem gf_X2_0 (C : Cx p c cc meth s m args own ret nL) (hK : va_K D vwCl (tysW ct) s) (hP : va_P D vwCl (cellsC ct ad S) H) (hlink : Cond.fieldLink own index "Henselhall$Near" "prime" "I" ∈ TB) (hdg : decode cc pc = .ok (.getfield index, 3))
    (kk : W p l e R s m args below meth c H locs cells slots Q (F0 m (pc + 3) ls (.int (S.1 3 0) :: rest))) : W p l e R s m args below meth c H locs cells slots Q (F0 m pc ls (.ref (ad 3) :: rest)) := by
  obtain ⟨hx, hb, hr, hml, hown, htL, hlocks⟩ := C
  exact va_get (ci := 4) (C := RX2) (T := TX2) (N := 3) hx hb (fun w h => htL w (hwX2 w h)) (fun _ h => h) hown hK hP (3) ((cC (by decide)).trans (congrArg (fun z => some (ad (3), z)) (rfl))) rfl 0 (by decide) (htL _ hlink) (fun _ h => h) rfl hdg kk
theorem pf_X2_0 (C : Cx p c cc meth s m args own ret nL) (hK : va_K D vwCl (tysW ct) s) (hP : va_P D vwCl (cellsC ct ad S) H) (hG : Gd ad 70 F) (hS : va_S F s.heap H locs) {v : Int32} (hlink : Cond.fieldLink own index "Henselhall$Near" "prime" "I" ∈ TB) (hdg : decode cc pc = .ok (.putfield index, 3))
    (kk : ∀ (H1 : Heap) (locs1 : List Loc), va_P D vwCl (cellsC ct ad (wI S 3 0 v)) H1 → va_S F s.heap H1 locs1 → W p l e R s m args below meth c H1 locs1 cells slots Q (F0 m (pc + 3) ls rest)) : W p l e R s m args below meth c H locs cells slots Q (F0 m pc ls (.int v :: .ref (ad 3) :: rest)) := by
  obtain ⟨hx, hb, hr, hml, hown, htL, hlocks⟩ := C
  exact va_put (ci := 4) (C := RX2) (T := TX2) (N := 3) hx hb (fun w h => htL w (hwX2 w h)) (fun _ h => h) tyX2 tyX2_ok nmX2 hown hK hP (cD hG) hS (3) ((cC (by decide)).trans (congrArg (fun z => some (ad (3), z)) (rfl))) rfl 0 (by decide) (htL _ hlink) (fun _ h => h) rfl (ty := .int) rfl rfl rfl (Nat.le_of_ble_eq_true rfl) hdg (fun H1 locs1 hP1 _ hS1 => kk H1 locs1 (by
    rw [cS (T := wI S 3 0 v) (by decide) (by simp [shC, wI_u, upd]) wI_o] at hP1
    exact hP1) hS1)
theorem gf_X2_1 (C : Cx p c cc meth s m args own ret nL) (hK : va_K D vwCl (tysW ct) s) (hP : va_P D vwCl (cellsC ct ad S) H) (hlink : Cond.fieldLink own index "Henselhall$Near" "last" "I" ∈ TB) (hdg : decode cc pc = .ok (.getfield index, 3))
    (kk : W p l e R s m args below meth c H locs cells slots Q (F0 m (pc + 3) ls (.int (S.1 3 1) :: rest))) : W p l e R s m args below meth c H locs cells slots Q (F0 m pc ls (.ref (ad 3) :: rest)) := by
  obtain ⟨hx, hb, hr, hml, hown, htL, hlocks⟩ := C
  exact va_get (ci := 4) (C := RX2) (T := TX2) (N := 3) hx hb (fun w h => htL w (hwX2 w h)) (fun _ h => h) hown hK hP (3) ((cC (by decide)).trans (congrArg (fun z => some (ad (3), z)) (rfl))) rfl 1 (by decide) (htL _ hlink) (fun _ h => h) rfl hdg kk
theorem pf_X2_1 (C : Cx p c cc meth s m args own ret nL) (hK : va_K D vwCl (tysW ct) s) (hP : va_P D vwCl (cellsC ct ad S) H) (hG : Gd ad 70 F) (hS : va_S F s.heap H locs) {v : Int32} (hlink : Cond.fieldLink own index "Henselhall$Near" "last" "I" ∈ TB) (hdg : decode cc pc = .ok (.putfield index, 3))
    (kk : ∀ (H1 : Heap) (locs1 : List Loc), va_P D vwCl (cellsC ct ad (wI S 3 1 v)) H1 → va_S F s.heap H1 locs1 → W p l e R s m args below meth c H1 locs1 cells slots Q (F0 m (pc + 3) ls rest)) : W p l e R s m args below meth c H locs cells slots Q (F0 m pc ls (.int v :: .ref (ad 3) :: rest)) := by
  obtain ⟨hx, hb, hr, hml, hown, htL, hlocks⟩ := C
  exact va_put (ci := 4) (C := RX2) (T := TX2) (N := 3) hx hb (fun w h => htL w (hwX2 w h)) (fun _ h => h) tyX2 tyX2_ok nmX2 hown hK hP (cD hG) hS (3) ((cC (by decide)).trans (congrArg (fun z => some (ad (3), z)) (rfl))) rfl 1 (by decide) (htL _ hlink) (fun _ h => h) rfl (ty := .int) rfl rfl rfl (Nat.le_of_ble_eq_true rfl) hdg (fun H1 locs1 hP1 _ hS1 => kk H1 locs1 (by
    rw [cS (T := wI S 3 1 v) (by decide) (by simp [shC, wI_u, upd]) wI_o] at hP1
    exact hP1) hS1)
theorem gf_X2_2 (C : Cx p c cc meth s m args own ret nL) (hK : va_K D vwCl (tysW ct) s) (hP : va_P D vwCl (cellsC ct ad S) H) (hlink : Cond.fieldLink own index "Henselhall$Near" "powers" "[J" ∈ TB) (hdg : decode cc pc = .ok (.getfield index, 3))
    (kk : W p l e R s m args below meth c H locs cells slots Q (F0 m (pc + 3) ls (.ref (ad 6) :: rest))) : W p l e R s m args below meth c H locs cells slots Q (F0 m pc ls (.ref (ad 3) :: rest)) := by
  obtain ⟨hx, hb, hr, hml, hown, htL, hlocks⟩ := C
  exact va_get (ci := 4) (C := RX2) (T := TX2) (N := 3) hx hb (fun w h => htL w (hwX2 w h)) (fun _ h => h) hown hK hP (3) ((cC (by decide)).trans (congrArg (fun z => some (ad (3), z)) (rfl))) rfl 2 (by decide) (htL _ hlink) (fun _ h => h) rfl hdg kk
theorem gf_X0_0 (C : Cx p c cc meth s m args own ret nL) (hK : va_K D vwCl (tysW ct) s) (hP : va_P D vwCl (cellsC ct ad S) H) (hlink : Cond.fieldLink own index "Henselhall$Book" "count" "I" ∈ TB) (hdg : decode cc pc = .ok (.getfield index, 3))
    (kk : W p l e R s m args below meth c H locs cells slots Q (F0 m (pc + 3) ls (.int (S.1 4 0) :: rest))) : W p l e R s m args below meth c H locs cells slots Q (F0 m pc ls (.ref (ad 4) :: rest)) := by
  obtain ⟨hx, hb, hr, hml, hown, htL, hlocks⟩ := C
  exact va_get (ci := 2) (C := RX0) (T := TX0) (N := 2) hx hb (fun w h => htL w (hwX0 w h)) (fun _ h => h) hown hK hP (4) ((cC (by decide)).trans (congrArg (fun z => some (ad (4), z)) (rfl))) rfl 0 (by decide) (htL _ hlink) (fun _ h => h) rfl hdg kk
theorem pf_X0_0 (C : Cx p c cc meth s m args own ret nL) (hK : va_K D vwCl (tysW ct) s) (hP : va_P D vwCl (cellsC ct ad S) H) (hG : Gd ad 70 F) (hS : va_S F s.heap H locs) {v : Int32} (hlink : Cond.fieldLink own index "Henselhall$Book" "count" "I" ∈ TB) (hdg : decode cc pc = .ok (.putfield index, 3))
    (kk : ∀ (H1 : Heap) (locs1 : List Loc), va_P D vwCl (cellsC ct ad (wI S 4 0 v)) H1 → va_S F s.heap H1 locs1 → W p l e R s m args below meth c H1 locs1 cells slots Q (F0 m (pc + 3) ls rest)) : W p l e R s m args below meth c H locs cells slots Q (F0 m pc ls (.int v :: .ref (ad 4) :: rest)) := by
  obtain ⟨hx, hb, hr, hml, hown, htL, hlocks⟩ := C
  exact va_put (ci := 2) (C := RX0) (T := TX0) (N := 2) hx hb (fun w h => htL w (hwX0 w h)) (fun _ h => h) tyX0 tyX0_ok nmX0 hown hK hP (cD hG) hS (4) ((cC (by decide)).trans (congrArg (fun z => some (ad (4), z)) (rfl))) rfl 0 (by decide) (htL _ hlink) (fun _ h => h) rfl (ty := .int) rfl rfl rfl (Nat.le_of_ble_eq_true rfl) hdg (fun H1 locs1 hP1 _ hS1 => kk H1 locs1 (by
    rw [cS (T := wI S 4 0 v) (by decide) (by simp [shC, wI_u, upd]) wI_o] at hP1
    exact hP1) hS1)
theorem gf_X0_1 (C : Cx p c cc meth s m args own ret nL) (hK : va_K D vwCl (tysW ct) s) (hP : va_P D vwCl (cellsC ct ad S) H) (hlink : Cond.fieldLink own index "Henselhall$Book" "pages" "[LHenselhall$Polynomial;" ∈ TB) (hdg : decode cc pc = .ok (.getfield index, 3))
    (kk : W p l e R s m args below meth c H locs cells slots Q (F0 m (pc + 3) ls (.ref (ad 8) :: rest))) : W p l e R s m args below meth c H locs cells slots Q (F0 m pc ls (.ref (ad 4) :: rest)) := by
  obtain ⟨hx, hb, hr, hml, hown, htL, hlocks⟩ := C
  exact va_get (ci := 2) (C := RX0) (T := TX0) (N := 2) hx hb (fun w h => htL w (hwX0 w h)) (fun _ h => h) hown hK hP (4) ((cC (by decide)).trans (congrArg (fun z => some (ad (4), z)) (rfl))) rfl 1 (by decide) (htL _ hlink) (fun _ h => h) rfl hdg kk
theorem gf_X6_0 (C : Cx p c cc meth s m args own ret nL) (hK : va_K D vwCl (tysW ct) s) (hP : va_P D vwCl (cellsC ct ad S) H) (hlink : Cond.fieldLink own index "Henselhall$Row" "count" "I" ∈ TB) (hdg : decode cc pc = .ok (.getfield index, 3))
    (kk : W p l e R s m args below meth c H locs cells slots Q (F0 m (pc + 3) ls (.int (S.1 5 0) :: rest))) : W p l e R s m args below meth c H locs cells slots Q (F0 m pc ls (.ref (ad 5) :: rest)) := by
  obtain ⟨hx, hb, hr, hml, hown, htL, hlocks⟩ := C
  exact va_get (ci := 8) (C := RX6) (T := TX6) (N := 2) hx hb (fun w h => htL w (hwX6 w h)) (fun _ h => h) hown hK hP (5) ((cC (by decide)).trans (congrArg (fun z => some (ad (5), z)) (rfl))) rfl 0 (by decide) (htL _ hlink) (fun _ h => h) rfl hdg kk
theorem pf_X6_0 (C : Cx p c cc meth s m args own ret nL) (hK : va_K D vwCl (tysW ct) s) (hP : va_P D vwCl (cellsC ct ad S) H) (hG : Gd ad 70 F) (hS : va_S F s.heap H locs) {v : Int32} (hlink : Cond.fieldLink own index "Henselhall$Row" "count" "I" ∈ TB) (hdg : decode cc pc = .ok (.putfield index, 3))
    (kk : ∀ (H1 : Heap) (locs1 : List Loc), va_P D vwCl (cellsC ct ad (wI S 5 0 v)) H1 → va_S F s.heap H1 locs1 → W p l e R s m args below meth c H1 locs1 cells slots Q (F0 m (pc + 3) ls rest)) : W p l e R s m args below meth c H locs cells slots Q (F0 m pc ls (.int v :: .ref (ad 5) :: rest)) := by
  obtain ⟨hx, hb, hr, hml, hown, htL, hlocks⟩ := C
  exact va_put (ci := 8) (C := RX6) (T := TX6) (N := 2) hx hb (fun w h => htL w (hwX6 w h)) (fun _ h => h) tyX6 tyX6_ok nmX6 hown hK hP (cD hG) hS (5) ((cC (by decide)).trans (congrArg (fun z => some (ad (5), z)) (rfl))) rfl 0 (by decide) (htL _ hlink) (fun _ h => h) rfl (ty := .int) rfl rfl rfl (Nat.le_of_ble_eq_true rfl) hdg (fun H1 locs1 hP1 _ hS1 => kk H1 locs1 (by
    rw [cS (T := wI S 5 0 v) (by decide) (by simp [shC, wI_u, upd]) wI_o] at hP1
    exact hP1) hS1)
theorem gf_X6_1 (C : Cx p c cc meth s m args own ret nL) (hK : va_K D vwCl (tysW ct) s) (hP : va_P D vwCl (cellsC ct ad S) H) (hlink : Cond.fieldLink own index "Henselhall$Row" "values" "[I" ∈ TB) (hdg : decode cc pc = .ok (.getfield index, 3))
    (kk : W p l e R s m args below meth c H locs cells slots Q (F0 m (pc + 3) ls (.ref (ad 9) :: rest))) : W p l e R s m args below meth c H locs cells slots Q (F0 m pc ls (.ref (ad 5) :: rest)) := by
  obtain ⟨hx, hb, hr, hml, hown, htL, hlocks⟩ := C
  exact va_get (ci := 8) (C := RX6) (T := TX6) (N := 2) hx hb (fun w h => htL w (hwX6 w h)) (fun _ h => h) hown hK hP (5) ((cC (by decide)).trans (congrArg (fun z => some (ad (5), z)) (rfl))) rfl 1 (by decide) (htL _ hlink) (fun _ h => h) rfl hdg kk
theorem gf_X3_0 (C : Cx p c cc meth s m args own ret nL) (hK : va_K D vwCl (tysW ct) s) (hP : va_P D vwCl (cellsC ct ad S) H) (hk : k < 42) (hlink : Cond.fieldLink own index "Henselhall$Num" "kind" "I" ∈ TB) (hdg : decode cc pc = .ok (.getfield index, 3))
    (kk : W p l e R s m args below meth c H locs cells slots Q (F0 m (pc + 3) ls (.int (S.1 (12 + k) 0) :: rest))) : W p l e R s m args below meth c H locs cells slots Q (F0 m pc ls (.ref (ad (12 + k)) :: rest)) := by
  obtain ⟨hx, hb, hr, hml, hown, htL, hlocks⟩ := C
  exact va_get (ci := 5) (C := RX3) (T := TX3) (N := 14) hx hb (fun w h => htL w (hwX3 w h)) (fun _ h => h) hown hK hP (12 + k) ((cC (by omega)).trans (congrArg (fun z => some (ad (12 + k), z)) (shC_num hk))) rfl 0 (by decide) (htL _ hlink) (fun _ h => h) rfl hdg kk
theorem pf_X3_0 (C : Cx p c cc meth s m args own ret nL) (hK : va_K D vwCl (tysW ct) s) (hP : va_P D vwCl (cellsC ct ad S) H) (hG : Gd ad 70 F) (hS : va_S F s.heap H locs) (hk : k < 42) {v : Int32} (hlink : Cond.fieldLink own index "Henselhall$Num" "kind" "I" ∈ TB) (hdg : decode cc pc = .ok (.putfield index, 3))
    (kk : ∀ (H1 : Heap) (locs1 : List Loc), va_P D vwCl (cellsC ct ad (wI S (12 + k) 0 v)) H1 → va_S F s.heap H1 locs1 → W p l e R s m args below meth c H1 locs1 cells slots Q (F0 m (pc + 3) ls rest)) : W p l e R s m args below meth c H locs cells slots Q (F0 m pc ls (.int v :: .ref (ad (12 + k)) :: rest)) := by
  obtain ⟨hx, hb, hr, hml, hown, htL, hlocks⟩ := C
  exact va_put (ci := 5) (C := RX3) (T := TX3) (N := 14) hx hb (fun w h => htL w (hwX3 w h)) (fun _ h => h) tyX3 tyX3_ok nmX3 hown hK hP (cD hG) hS (12 + k) ((cC (by omega)).trans (congrArg (fun z => some (ad (12 + k), z)) (shC_num hk))) rfl 0 (by decide) (htL _ hlink) (fun _ h => h) rfl (ty := .int) rfl rfl rfl (Nat.le_of_ble_eq_true rfl) hdg (fun H1 locs1 hP1 _ hS1 => kk H1 locs1 (by
    rw [cS (T := wI S (12 + k) 0 v) (by omega) (by rw [shC_num hk]; simp [numF, wI_u, wI_J, upd]) wI_o] at hP1
    exact hP1) hS1)
theorem gf_X3_1 (C : Cx p c cc meth s m args own ret nL) (hK : va_K D vwCl (tysW ct) s) (hP : va_P D vwCl (cellsC ct ad S) H) (hk : k < 42) (hlink : Cond.fieldLink own index "Henselhall$Num" "first" "I" ∈ TB) (hdg : decode cc pc = .ok (.getfield index, 3))
    (kk : W p l e R s m args below meth c H locs cells slots Q (F0 m (pc + 3) ls (.int (S.1 (12 + k) 1) :: rest))) : W p l e R s m args below meth c H locs cells slots Q (F0 m pc ls (.ref (ad (12 + k)) :: rest)) := by
  obtain ⟨hx, hb, hr, hml, hown, htL, hlocks⟩ := C
  exact va_get (ci := 5) (C := RX3) (T := TX3) (N := 14) hx hb (fun w h => htL w (hwX3 w h)) (fun _ h => h) hown hK hP (12 + k) ((cC (by omega)).trans (congrArg (fun z => some (ad (12 + k), z)) (shC_num hk))) rfl 1 (by decide) (htL _ hlink) (fun _ h => h) rfl hdg kk
theorem pf_X3_1 (C : Cx p c cc meth s m args own ret nL) (hK : va_K D vwCl (tysW ct) s) (hP : va_P D vwCl (cellsC ct ad S) H) (hG : Gd ad 70 F) (hS : va_S F s.heap H locs) (hk : k < 42) {v : Int32} (hlink : Cond.fieldLink own index "Henselhall$Num" "first" "I" ∈ TB) (hdg : decode cc pc = .ok (.putfield index, 3))
    (kk : ∀ (H1 : Heap) (locs1 : List Loc), va_P D vwCl (cellsC ct ad (wI S (12 + k) 1 v)) H1 → va_S F s.heap H1 locs1 → W p l e R s m args below meth c H1 locs1 cells slots Q (F0 m (pc + 3) ls rest)) : W p l e R s m args below meth c H locs cells slots Q (F0 m pc ls (.int v :: .ref (ad (12 + k)) :: rest)) := by
  obtain ⟨hx, hb, hr, hml, hown, htL, hlocks⟩ := C
  exact va_put (ci := 5) (C := RX3) (T := TX3) (N := 14) hx hb (fun w h => htL w (hwX3 w h)) (fun _ h => h) tyX3 tyX3_ok nmX3 hown hK hP (cD hG) hS (12 + k) ((cC (by omega)).trans (congrArg (fun z => some (ad (12 + k), z)) (shC_num hk))) rfl 1 (by decide) (htL _ hlink) (fun _ h => h) rfl (ty := .int) rfl rfl rfl (Nat.le_of_ble_eq_true rfl) hdg (fun H1 locs1 hP1 _ hS1 => kk H1 locs1 (by
    rw [cS (T := wI S (12 + k) 1 v) (by omega) (by rw [shC_num hk]; simp [numF, wI_u, wI_J, upd]) wI_o] at hP1
    exact hP1) hS1)
theorem gf_X3_2 (C : Cx p c cc meth s m args own ret nL) (hK : va_K D vwCl (tysW ct) s) (hP : va_P D vwCl (cellsC ct ad S) H) (hk : k < 42) (hlink : Cond.fieldLink own index "Henselhall$Num" "second" "I" ∈ TB) (hdg : decode cc pc = .ok (.getfield index, 3))
    (kk : W p l e R s m args below meth c H locs cells slots Q (F0 m (pc + 3) ls (.int (S.1 (12 + k) 2) :: rest))) : W p l e R s m args below meth c H locs cells slots Q (F0 m pc ls (.ref (ad (12 + k)) :: rest)) := by
  obtain ⟨hx, hb, hr, hml, hown, htL, hlocks⟩ := C
  exact va_get (ci := 5) (C := RX3) (T := TX3) (N := 14) hx hb (fun w h => htL w (hwX3 w h)) (fun _ h => h) hown hK hP (12 + k) ((cC (by omega)).trans (congrArg (fun z => some (ad (12 + k), z)) (shC_num hk))) rfl 2 (by decide) (htL _ hlink) (fun _ h => h) rfl hdg kk
theorem pf_X3_2 (C : Cx p c cc meth s m args own ret nL) (hK : va_K D vwCl (tysW ct) s) (hP : va_P D vwCl (cellsC ct ad S) H) (hG : Gd ad 70 F) (hS : va_S F s.heap H locs) (hk : k < 42) {v : Int32} (hlink : Cond.fieldLink own index "Henselhall$Num" "second" "I" ∈ TB) (hdg : decode cc pc = .ok (.putfield index, 3))
    (kk : ∀ (H1 : Heap) (locs1 : List Loc), va_P D vwCl (cellsC ct ad (wI S (12 + k) 2 v)) H1 → va_S F s.heap H1 locs1 → W p l e R s m args below meth c H1 locs1 cells slots Q (F0 m (pc + 3) ls rest)) : W p l e R s m args below meth c H locs cells slots Q (F0 m pc ls (.int v :: .ref (ad (12 + k)) :: rest)) := by
  obtain ⟨hx, hb, hr, hml, hown, htL, hlocks⟩ := C
  exact va_put (ci := 5) (C := RX3) (T := TX3) (N := 14) hx hb (fun w h => htL w (hwX3 w h)) (fun _ h => h) tyX3 tyX3_ok nmX3 hown hK hP (cD hG) hS (12 + k) ((cC (by omega)).trans (congrArg (fun z => some (ad (12 + k), z)) (shC_num hk))) rfl 2 (by decide) (htL _ hlink) (fun _ h => h) rfl (ty := .int) rfl rfl rfl (Nat.le_of_ble_eq_true rfl) hdg (fun H1 locs1 hP1 _ hS1 => kk H1 locs1 (by
    rw [cS (T := wI S (12 + k) 2 v) (by omega) (by rw [shC_num hk]; simp [numF, wI_u, wI_J, upd]) wI_o] at hP1
    exact hP1) hS1)
theorem gf_X3_3 (C : Cx p c cc meth s m args own ret nL) (hK : va_K D vwCl (tysW ct) s) (hP : va_P D vwCl (cellsC ct ad S) H) (hk : k < 42) (hlink : Cond.fieldLink own index "Henselhall$Num" "top" "I" ∈ TB) (hdg : decode cc pc = .ok (.getfield index, 3))
    (kk : W p l e R s m args below meth c H locs cells slots Q (F0 m (pc + 3) ls (.int (S.1 (12 + k) 3) :: rest))) : W p l e R s m args below meth c H locs cells slots Q (F0 m pc ls (.ref (ad (12 + k)) :: rest)) := by
  obtain ⟨hx, hb, hr, hml, hown, htL, hlocks⟩ := C
  exact va_get (ci := 5) (C := RX3) (T := TX3) (N := 14) hx hb (fun w h => htL w (hwX3 w h)) (fun _ h => h) hown hK hP (12 + k) ((cC (by omega)).trans (congrArg (fun z => some (ad (12 + k), z)) (shC_num hk))) rfl 3 (by decide) (htL _ hlink) (fun _ h => h) rfl hdg kk
theorem pf_X3_3 (C : Cx p c cc meth s m args own ret nL) (hK : va_K D vwCl (tysW ct) s) (hP : va_P D vwCl (cellsC ct ad S) H) (hG : Gd ad 70 F) (hS : va_S F s.heap H locs) (hk : k < 42) {v : Int32} (hlink : Cond.fieldLink own index "Henselhall$Num" "top" "I" ∈ TB) (hdg : decode cc pc = .ok (.putfield index, 3))
    (kk : ∀ (H1 : Heap) (locs1 : List Loc), va_P D vwCl (cellsC ct ad (wI S (12 + k) 3 v)) H1 → va_S F s.heap H1 locs1 → W p l e R s m args below meth c H1 locs1 cells slots Q (F0 m (pc + 3) ls rest)) : W p l e R s m args below meth c H locs cells slots Q (F0 m pc ls (.int v :: .ref (ad (12 + k)) :: rest)) := by
  obtain ⟨hx, hb, hr, hml, hown, htL, hlocks⟩ := C
  exact va_put (ci := 5) (C := RX3) (T := TX3) (N := 14) hx hb (fun w h => htL w (hwX3 w h)) (fun _ h => h) tyX3 tyX3_ok nmX3 hown hK hP (cD hG) hS (12 + k) ((cC (by omega)).trans (congrArg (fun z => some (ad (12 + k), z)) (shC_num hk))) rfl 3 (by decide) (htL _ hlink) (fun _ h => h) rfl (ty := .int) rfl rfl rfl (Nat.le_of_ble_eq_true rfl) hdg (fun H1 locs1 hP1 _ hS1 => kk H1 locs1 (by
    rw [cS (T := wI S (12 + k) 3 v) (by omega) (by rw [shC_num hk]; simp [numF, wI_u, wI_J, upd]) wI_o] at hP1
    exact hP1) hS1)
theorem gf_X3_4 (C : Cx p c cc meth s m args own ret nL) (hK : va_K D vwCl (tysW ct) s) (hP : va_P D vwCl (cellsC ct ad S) H) (hk : k < 42) (hlink : Cond.fieldLink own index "Henselhall$Num" "bottom" "I" ∈ TB) (hdg : decode cc pc = .ok (.getfield index, 3))
    (kk : W p l e R s m args below meth c H locs cells slots Q (F0 m (pc + 3) ls (.int (S.1 (12 + k) 4) :: rest))) : W p l e R s m args below meth c H locs cells slots Q (F0 m pc ls (.ref (ad (12 + k)) :: rest)) := by
  obtain ⟨hx, hb, hr, hml, hown, htL, hlocks⟩ := C
  exact va_get (ci := 5) (C := RX3) (T := TX3) (N := 14) hx hb (fun w h => htL w (hwX3 w h)) (fun _ h => h) hown hK hP (12 + k) ((cC (by omega)).trans (congrArg (fun z => some (ad (12 + k), z)) (shC_num hk))) rfl 4 (by decide) (htL _ hlink) (fun _ h => h) rfl hdg kk
theorem pf_X3_4 (C : Cx p c cc meth s m args own ret nL) (hK : va_K D vwCl (tysW ct) s) (hP : va_P D vwCl (cellsC ct ad S) H) (hG : Gd ad 70 F) (hS : va_S F s.heap H locs) (hk : k < 42) {v : Int32} (hlink : Cond.fieldLink own index "Henselhall$Num" "bottom" "I" ∈ TB) (hdg : decode cc pc = .ok (.putfield index, 3))
    (kk : ∀ (H1 : Heap) (locs1 : List Loc), va_P D vwCl (cellsC ct ad (wI S (12 + k) 4 v)) H1 → va_S F s.heap H1 locs1 → W p l e R s m args below meth c H1 locs1 cells slots Q (F0 m (pc + 3) ls rest)) : W p l e R s m args below meth c H locs cells slots Q (F0 m pc ls (.int v :: .ref (ad (12 + k)) :: rest)) := by
  obtain ⟨hx, hb, hr, hml, hown, htL, hlocks⟩ := C
  exact va_put (ci := 5) (C := RX3) (T := TX3) (N := 14) hx hb (fun w h => htL w (hwX3 w h)) (fun _ h => h) tyX3 tyX3_ok nmX3 hown hK hP (cD hG) hS (12 + k) ((cC (by omega)).trans (congrArg (fun z => some (ad (12 + k), z)) (shC_num hk))) rfl 4 (by decide) (htL _ hlink) (fun _ h => h) rfl (ty := .int) rfl rfl rfl (Nat.le_of_ble_eq_true rfl) hdg (fun H1 locs1 hP1 _ hS1 => kk H1 locs1 (by
    rw [cS (T := wI S (12 + k) 4 v) (by omega) (by rw [shC_num hk]; simp [numF, wI_u, wI_J, upd]) wI_o] at hP1
    exact hP1) hS1)
theorem gf_X3_5 (C : Cx p c cc meth s m args own ret nL) (hK : va_K D vwCl (tysW ct) s) (hP : va_P D vwCl (cellsC ct ad S) H) (hk : k < 42) (hlink : Cond.fieldLink own index "Henselhall$Num" "asked" "I" ∈ TB) (hdg : decode cc pc = .ok (.getfield index, 3))
    (kk : W p l e R s m args below meth c H locs cells slots Q (F0 m (pc + 3) ls (.int (S.1 (12 + k) 5) :: rest))) : W p l e R s m args below meth c H locs cells slots Q (F0 m pc ls (.ref (ad (12 + k)) :: rest)) := by
  obtain ⟨hx, hb, hr, hml, hown, htL, hlocks⟩ := C
  exact va_get (ci := 5) (C := RX3) (T := TX3) (N := 14) hx hb (fun w h => htL w (hwX3 w h)) (fun _ h => h) hown hK hP (12 + k) ((cC (by omega)).trans (congrArg (fun z => some (ad (12 + k), z)) (shC_num hk))) rfl 5 (by decide) (htL _ hlink) (fun _ h => h) rfl hdg kk
theorem pf_X3_5 (C : Cx p c cc meth s m args own ret nL) (hK : va_K D vwCl (tysW ct) s) (hP : va_P D vwCl (cellsC ct ad S) H) (hG : Gd ad 70 F) (hS : va_S F s.heap H locs) (hk : k < 42) {v : Int32} (hlink : Cond.fieldLink own index "Henselhall$Num" "asked" "I" ∈ TB) (hdg : decode cc pc = .ok (.putfield index, 3))
    (kk : ∀ (H1 : Heap) (locs1 : List Loc), va_P D vwCl (cellsC ct ad (wI S (12 + k) 5 v)) H1 → va_S F s.heap H1 locs1 → W p l e R s m args below meth c H1 locs1 cells slots Q (F0 m (pc + 3) ls rest)) : W p l e R s m args below meth c H locs cells slots Q (F0 m pc ls (.int v :: .ref (ad (12 + k)) :: rest)) := by
  obtain ⟨hx, hb, hr, hml, hown, htL, hlocks⟩ := C
  exact va_put (ci := 5) (C := RX3) (T := TX3) (N := 14) hx hb (fun w h => htL w (hwX3 w h)) (fun _ h => h) tyX3 tyX3_ok nmX3 hown hK hP (cD hG) hS (12 + k) ((cC (by omega)).trans (congrArg (fun z => some (ad (12 + k), z)) (shC_num hk))) rfl 5 (by decide) (htL _ hlink) (fun _ h => h) rfl (ty := .int) rfl rfl rfl (Nat.le_of_ble_eq_true rfl) hdg (fun H1 locs1 hP1 _ hS1 => kk H1 locs1 (by
    rw [cS (T := wI S (12 + k) 5 v) (by omega) (by rw [shC_num hk]; simp [numF, wI_u, wI_J, upd]) wI_o] at hP1
    exact hP1) hS1)
theorem gf_X3_6 (C : Cx p c cc meth s m args own ret nL) (hK : va_K D vwCl (tysW ct) s) (hP : va_P D vwCl (cellsC ct ad S) H) (hk : k < 42) (hlink : Cond.fieldLink own index "Henselhall$Num" "extent" "I" ∈ TB) (hdg : decode cc pc = .ok (.getfield index, 3))
    (kk : W p l e R s m args below meth c H locs cells slots Q (F0 m (pc + 3) ls (.int (S.1 (12 + k) 6) :: rest))) : W p l e R s m args below meth c H locs cells slots Q (F0 m pc ls (.ref (ad (12 + k)) :: rest)) := by
  obtain ⟨hx, hb, hr, hml, hown, htL, hlocks⟩ := C
  exact va_get (ci := 5) (C := RX3) (T := TX3) (N := 14) hx hb (fun w h => htL w (hwX3 w h)) (fun _ h => h) hown hK hP (12 + k) ((cC (by omega)).trans (congrArg (fun z => some (ad (12 + k), z)) (shC_num hk))) rfl 6 (by decide) (htL _ hlink) (fun _ h => h) rfl hdg kk
theorem pf_X3_6 (C : Cx p c cc meth s m args own ret nL) (hK : va_K D vwCl (tysW ct) s) (hP : va_P D vwCl (cellsC ct ad S) H) (hG : Gd ad 70 F) (hS : va_S F s.heap H locs) (hk : k < 42) {v : Int32} (hlink : Cond.fieldLink own index "Henselhall$Num" "extent" "I" ∈ TB) (hdg : decode cc pc = .ok (.putfield index, 3))
    (kk : ∀ (H1 : Heap) (locs1 : List Loc), va_P D vwCl (cellsC ct ad (wI S (12 + k) 6 v)) H1 → va_S F s.heap H1 locs1 → W p l e R s m args below meth c H1 locs1 cells slots Q (F0 m (pc + 3) ls rest)) : W p l e R s m args below meth c H locs cells slots Q (F0 m pc ls (.int v :: .ref (ad (12 + k)) :: rest)) := by
  obtain ⟨hx, hb, hr, hml, hown, htL, hlocks⟩ := C
  exact va_put (ci := 5) (C := RX3) (T := TX3) (N := 14) hx hb (fun w h => htL w (hwX3 w h)) (fun _ h => h) tyX3 tyX3_ok nmX3 hown hK hP (cD hG) hS (12 + k) ((cC (by omega)).trans (congrArg (fun z => some (ad (12 + k), z)) (shC_num hk))) rfl 6 (by decide) (htL _ hlink) (fun _ h => h) rfl (ty := .int) rfl rfl rfl (Nat.le_of_ble_eq_true rfl) hdg (fun H1 locs1 hP1 _ hS1 => kk H1 locs1 (by
    rw [cS (T := wI S (12 + k) 6 v) (by omega) (by rw [shC_num hk]; simp [numF, wI_u, wI_J, upd]) wI_o] at hP1
    exact hP1) hS1)
theorem gf_X3_7 (C : Cx p c cc meth s m args own ret nL) (hK : va_K D vwCl (tysW ct) s) (hP : va_P D vwCl (cellsC ct ad S) H) (hk : k < 42) (hlink : Cond.fieldLink own index "Henselhall$Num" "marked" "Z" ∈ TB) (hdg : decode cc pc = .ok (.getfield index, 3))
    (kk : W p l e R s m args below meth c H locs cells slots Q (F0 m (pc + 3) ls (.int (S.1 (12 + k) 7) :: rest))) : W p l e R s m args below meth c H locs cells slots Q (F0 m pc ls (.ref (ad (12 + k)) :: rest)) := by
  obtain ⟨hx, hb, hr, hml, hown, htL, hlocks⟩ := C
  exact va_get (ci := 5) (C := RX3) (T := TX3) (N := 14) hx hb (fun w h => htL w (hwX3 w h)) (fun _ h => h) hown hK hP (12 + k) ((cC (by omega)).trans (congrArg (fun z => some (ad (12 + k), z)) (shC_num hk))) rfl 7 (by decide) (htL _ hlink) (fun _ h => h) rfl hdg kk
theorem pf_X3_7 (C : Cx p c cc meth s m args own ret nL) (hK : va_K D vwCl (tysW ct) s) (hP : va_P D vwCl (cellsC ct ad S) H) (hG : Gd ad 70 F) (hS : va_S F s.heap H locs) (hk : k < 42) {v : Int32} (hn : narrow .boolean (.int v) = .int v) (hn2 : fits .boolean (.int v) = true) (hlink : Cond.fieldLink own index "Henselhall$Num" "marked" "Z" ∈ TB) (hdg : decode cc pc = .ok (.putfield index, 3))
    (kk : ∀ (H1 : Heap) (locs1 : List Loc), va_P D vwCl (cellsC ct ad (wI S (12 + k) 7 v)) H1 → va_S F s.heap H1 locs1 → W p l e R s m args below meth c H1 locs1 cells slots Q (F0 m (pc + 3) ls rest)) : W p l e R s m args below meth c H locs cells slots Q (F0 m pc ls (.int v :: .ref (ad (12 + k)) :: rest)) := by
  obtain ⟨hx, hb, hr, hml, hown, htL, hlocks⟩ := C
  exact va_put (ci := 5) (C := RX3) (T := TX3) (N := 14) hx hb (fun w h => htL w (hwX3 w h)) (fun _ h => h) tyX3 tyX3_ok nmX3 hown hK hP (cD hG) hS (12 + k) ((cC (by omega)).trans (congrArg (fun z => some (ad (12 + k), z)) (shC_num hk))) rfl 7 (by decide) (htL _ hlink) (fun _ h => h) rfl (ty := .boolean) rfl hn hn2 (Nat.le_of_ble_eq_true rfl) hdg (fun H1 locs1 hP1 _ hS1 => kk H1 locs1 (by
    rw [cS (T := wI S (12 + k) 7 v) (by omega) (by rw [shC_num hk]; simp [numF, wI_u, wI_J, upd]) wI_o] at hP1
    exact hP1) hS1)
theorem gf_X3_8 (C : Cx p c cc meth s m args own ret nL) (hK : va_K D vwCl (tysW ct) s) (hP : va_P D vwCl (cellsC ct ad S) H) (hk : k < 42) (hlink : Cond.fieldLink own index "Henselhall$Num" "low" "I" ∈ TB) (hdg : decode cc pc = .ok (.getfield index, 3))
    (kk : W p l e R s m args below meth c H locs cells slots Q (F0 m (pc + 3) ls (.int (S.1 (12 + k) 8) :: rest))) : W p l e R s m args below meth c H locs cells slots Q (F0 m pc ls (.ref (ad (12 + k)) :: rest)) := by
  obtain ⟨hx, hb, hr, hml, hown, htL, hlocks⟩ := C
  exact va_get (ci := 5) (C := RX3) (T := TX3) (N := 14) hx hb (fun w h => htL w (hwX3 w h)) (fun _ h => h) hown hK hP (12 + k) ((cC (by omega)).trans (congrArg (fun z => some (ad (12 + k), z)) (shC_num hk))) rfl 8 (by decide) (htL _ hlink) (fun _ h => h) rfl hdg kk
theorem pf_X3_8 (C : Cx p c cc meth s m args own ret nL) (hK : va_K D vwCl (tysW ct) s) (hP : va_P D vwCl (cellsC ct ad S) H) (hG : Gd ad 70 F) (hS : va_S F s.heap H locs) (hk : k < 42) {v : Int32} (hlink : Cond.fieldLink own index "Henselhall$Num" "low" "I" ∈ TB) (hdg : decode cc pc = .ok (.putfield index, 3))
    (kk : ∀ (H1 : Heap) (locs1 : List Loc), va_P D vwCl (cellsC ct ad (wI S (12 + k) 8 v)) H1 → va_S F s.heap H1 locs1 → W p l e R s m args below meth c H1 locs1 cells slots Q (F0 m (pc + 3) ls rest)) : W p l e R s m args below meth c H locs cells slots Q (F0 m pc ls (.int v :: .ref (ad (12 + k)) :: rest)) := by
  obtain ⟨hx, hb, hr, hml, hown, htL, hlocks⟩ := C
  exact va_put (ci := 5) (C := RX3) (T := TX3) (N := 14) hx hb (fun w h => htL w (hwX3 w h)) (fun _ h => h) tyX3 tyX3_ok nmX3 hown hK hP (cD hG) hS (12 + k) ((cC (by omega)).trans (congrArg (fun z => some (ad (12 + k), z)) (shC_num hk))) rfl 8 (by decide) (htL _ hlink) (fun _ h => h) rfl (ty := .int) rfl rfl rfl (Nat.le_of_ble_eq_true rfl) hdg (fun H1 locs1 hP1 _ hS1 => kk H1 locs1 (by
    rw [cS (T := wI S (12 + k) 8 v) (by omega) (by rw [shC_num hk]; simp [numF, wI_u, wI_J, upd]) wI_o] at hP1
    exact hP1) hS1)
theorem gf_X3_9 (C : Cx p c cc meth s m args own ret nL) (hK : va_K D vwCl (tysW ct) s) (hP : va_P D vwCl (cellsC ct ad S) H) (hk : k < 42) (hlink : Cond.fieldLink own index "Henselhall$Num" "high" "I" ∈ TB) (hdg : decode cc pc = .ok (.getfield index, 3))
    (kk : W p l e R s m args below meth c H locs cells slots Q (F0 m (pc + 3) ls (.int (S.1 (12 + k) 9) :: rest))) : W p l e R s m args below meth c H locs cells slots Q (F0 m pc ls (.ref (ad (12 + k)) :: rest)) := by
  obtain ⟨hx, hb, hr, hml, hown, htL, hlocks⟩ := C
  exact va_get (ci := 5) (C := RX3) (T := TX3) (N := 14) hx hb (fun w h => htL w (hwX3 w h)) (fun _ h => h) hown hK hP (12 + k) ((cC (by omega)).trans (congrArg (fun z => some (ad (12 + k), z)) (shC_num hk))) rfl 9 (by decide) (htL _ hlink) (fun _ h => h) rfl hdg kk
theorem pf_X3_9 (C : Cx p c cc meth s m args own ret nL) (hK : va_K D vwCl (tysW ct) s) (hP : va_P D vwCl (cellsC ct ad S) H) (hG : Gd ad 70 F) (hS : va_S F s.heap H locs) (hk : k < 42) {v : Int32} (hlink : Cond.fieldLink own index "Henselhall$Num" "high" "I" ∈ TB) (hdg : decode cc pc = .ok (.putfield index, 3))
    (kk : ∀ (H1 : Heap) (locs1 : List Loc), va_P D vwCl (cellsC ct ad (wI S (12 + k) 9 v)) H1 → va_S F s.heap H1 locs1 → W p l e R s m args below meth c H1 locs1 cells slots Q (F0 m (pc + 3) ls rest)) : W p l e R s m args below meth c H locs cells slots Q (F0 m pc ls (.int v :: .ref (ad (12 + k)) :: rest)) := by
  obtain ⟨hx, hb, hr, hml, hown, htL, hlocks⟩ := C
  exact va_put (ci := 5) (C := RX3) (T := TX3) (N := 14) hx hb (fun w h => htL w (hwX3 w h)) (fun _ h => h) tyX3 tyX3_ok nmX3 hown hK hP (cD hG) hS (12 + k) ((cC (by omega)).trans (congrArg (fun z => some (ad (12 + k), z)) (shC_num hk))) rfl 9 (by decide) (htL _ hlink) (fun _ h => h) rfl (ty := .int) rfl rfl rfl (Nat.le_of_ble_eq_true rfl) hdg (fun H1 locs1 hP1 _ hS1 => kk H1 locs1 (by
    rw [cS (T := wI S (12 + k) 9 v) (by omega) (by rw [shC_num hk]; simp [numF, wI_u, wI_J, upd]) wI_o] at hP1
    exact hP1) hS1)
theorem gf_X3_10 (C : Cx p c cc meth s m args own ret nL) (hK : va_K D vwCl (tysW ct) s) (hP : va_P D vwCl (cellsC ct ad S) H) (hk : k < 42) (hlink : Cond.fieldLink own index "Henselhall$Num" "unit" "J" ∈ TB) (hdg : decode cc pc = .ok (.getfield index, 3))
    (kk : W p l e R s m args below meth c H locs cells slots Q (F0 m (pc + 3) ls (.long (S.2 (12 + k) 10) :: rest))) : W p l e R s m args below meth c H locs cells slots Q (F0 m pc ls (.ref (ad (12 + k)) :: rest)) := by
  obtain ⟨hx, hb, hr, hml, hown, htL, hlocks⟩ := C
  exact va_get (ci := 5) (C := RX3) (T := TX3) (N := 14) hx hb (fun w h => htL w (hwX3 w h)) (fun _ h => h) hown hK hP (12 + k) ((cC (by omega)).trans (congrArg (fun z => some (ad (12 + k), z)) (shC_num hk))) rfl 10 (by decide) (htL _ hlink) (fun _ h => h) rfl hdg kk
theorem pf_X3_10 (C : Cx p c cc meth s m args own ret nL) (hK : va_K D vwCl (tysW ct) s) (hP : va_P D vwCl (cellsC ct ad S) H) (hG : Gd ad 70 F) (hS : va_S F s.heap H locs) (hk : k < 42) {v : Int64} (hlink : Cond.fieldLink own index "Henselhall$Num" "unit" "J" ∈ TB) (hdg : decode cc pc = .ok (.putfield index, 3))
    (kk : ∀ (H1 : Heap) (locs1 : List Loc), va_P D vwCl (cellsC ct ad (wJ S (12 + k) 10 v)) H1 → va_S F s.heap H1 locs1 → W p l e R s m args below meth c H1 locs1 cells slots Q (F0 m (pc + 3) ls rest)) : W p l e R s m args below meth c H locs cells slots Q (F0 m pc ls (.long v :: .ref (ad (12 + k)) :: rest)) := by
  obtain ⟨hx, hb, hr, hml, hown, htL, hlocks⟩ := C
  exact va_put (ci := 5) (C := RX3) (T := TX3) (N := 14) hx hb (fun w h => htL w (hwX3 w h)) (fun _ h => h) tyX3 tyX3_ok nmX3 hown hK hP (cD hG) hS (12 + k) ((cC (by omega)).trans (congrArg (fun z => some (ad (12 + k), z)) (shC_num hk))) rfl 10 (by decide) (htL _ hlink) (fun _ h => h) rfl (ty := .long) rfl rfl rfl (Nat.le_of_ble_eq_true rfl) hdg (fun H1 locs1 hP1 _ hS1 => kk H1 locs1 (by
    rw [cS (T := wJ S (12 + k) 10 v) (by omega) (by rw [shC_num hk]; simp [numF, wJ_u, wJ_I, vp_updL]) wJ_o] at hP1
    exact hP1) hS1)
theorem gf_X3_11 (C : Cx p c cc meth s m args own ret nL) (hK : va_K D vwCl (tysW ct) s) (hP : va_P D vwCl (cellsC ct ad S) H) (hk : k < 42) (hlink : Cond.fieldLink own index "Henselhall$Num" "earlyLow" "I" ∈ TB) (hdg : decode cc pc = .ok (.getfield index, 3))
    (kk : W p l e R s m args below meth c H locs cells slots Q (F0 m (pc + 3) ls (.int (S.1 (12 + k) 11) :: rest))) : W p l e R s m args below meth c H locs cells slots Q (F0 m pc ls (.ref (ad (12 + k)) :: rest)) := by
  obtain ⟨hx, hb, hr, hml, hown, htL, hlocks⟩ := C
  exact va_get (ci := 5) (C := RX3) (T := TX3) (N := 14) hx hb (fun w h => htL w (hwX3 w h)) (fun _ h => h) hown hK hP (12 + k) ((cC (by omega)).trans (congrArg (fun z => some (ad (12 + k), z)) (shC_num hk))) rfl 11 (by decide) (htL _ hlink) (fun _ h => h) rfl hdg kk
theorem pf_X3_11 (C : Cx p c cc meth s m args own ret nL) (hK : va_K D vwCl (tysW ct) s) (hP : va_P D vwCl (cellsC ct ad S) H) (hG : Gd ad 70 F) (hS : va_S F s.heap H locs) (hk : k < 42) {v : Int32} (hlink : Cond.fieldLink own index "Henselhall$Num" "earlyLow" "I" ∈ TB) (hdg : decode cc pc = .ok (.putfield index, 3))
    (kk : ∀ (H1 : Heap) (locs1 : List Loc), va_P D vwCl (cellsC ct ad (wI S (12 + k) 11 v)) H1 → va_S F s.heap H1 locs1 → W p l e R s m args below meth c H1 locs1 cells slots Q (F0 m (pc + 3) ls rest)) : W p l e R s m args below meth c H locs cells slots Q (F0 m pc ls (.int v :: .ref (ad (12 + k)) :: rest)) := by
  obtain ⟨hx, hb, hr, hml, hown, htL, hlocks⟩ := C
  exact va_put (ci := 5) (C := RX3) (T := TX3) (N := 14) hx hb (fun w h => htL w (hwX3 w h)) (fun _ h => h) tyX3 tyX3_ok nmX3 hown hK hP (cD hG) hS (12 + k) ((cC (by omega)).trans (congrArg (fun z => some (ad (12 + k), z)) (shC_num hk))) rfl 11 (by decide) (htL _ hlink) (fun _ h => h) rfl (ty := .int) rfl rfl rfl (Nat.le_of_ble_eq_true rfl) hdg (fun H1 locs1 hP1 _ hS1 => kk H1 locs1 (by
    rw [cS (T := wI S (12 + k) 11 v) (by omega) (by rw [shC_num hk]; simp [numF, wI_u, wI_J, upd]) wI_o] at hP1
    exact hP1) hS1)
theorem gf_X3_12 (C : Cx p c cc meth s m args own ret nL) (hK : va_K D vwCl (tysW ct) s) (hP : va_P D vwCl (cellsC ct ad S) H) (hk : k < 42) (hlink : Cond.fieldLink own index "Henselhall$Num" "earlyHigh" "I" ∈ TB) (hdg : decode cc pc = .ok (.getfield index, 3))
    (kk : W p l e R s m args below meth c H locs cells slots Q (F0 m (pc + 3) ls (.int (S.1 (12 + k) 12) :: rest))) : W p l e R s m args below meth c H locs cells slots Q (F0 m pc ls (.ref (ad (12 + k)) :: rest)) := by
  obtain ⟨hx, hb, hr, hml, hown, htL, hlocks⟩ := C
  exact va_get (ci := 5) (C := RX3) (T := TX3) (N := 14) hx hb (fun w h => htL w (hwX3 w h)) (fun _ h => h) hown hK hP (12 + k) ((cC (by omega)).trans (congrArg (fun z => some (ad (12 + k), z)) (shC_num hk))) rfl 12 (by decide) (htL _ hlink) (fun _ h => h) rfl hdg kk
theorem pf_X3_12 (C : Cx p c cc meth s m args own ret nL) (hK : va_K D vwCl (tysW ct) s) (hP : va_P D vwCl (cellsC ct ad S) H) (hG : Gd ad 70 F) (hS : va_S F s.heap H locs) (hk : k < 42) {v : Int32} (hlink : Cond.fieldLink own index "Henselhall$Num" "earlyHigh" "I" ∈ TB) (hdg : decode cc pc = .ok (.putfield index, 3))
    (kk : ∀ (H1 : Heap) (locs1 : List Loc), va_P D vwCl (cellsC ct ad (wI S (12 + k) 12 v)) H1 → va_S F s.heap H1 locs1 → W p l e R s m args below meth c H1 locs1 cells slots Q (F0 m (pc + 3) ls rest)) : W p l e R s m args below meth c H locs cells slots Q (F0 m pc ls (.int v :: .ref (ad (12 + k)) :: rest)) := by
  obtain ⟨hx, hb, hr, hml, hown, htL, hlocks⟩ := C
  exact va_put (ci := 5) (C := RX3) (T := TX3) (N := 14) hx hb (fun w h => htL w (hwX3 w h)) (fun _ h => h) tyX3 tyX3_ok nmX3 hown hK hP (cD hG) hS (12 + k) ((cC (by omega)).trans (congrArg (fun z => some (ad (12 + k), z)) (shC_num hk))) rfl 12 (by decide) (htL _ hlink) (fun _ h => h) rfl (ty := .int) rfl rfl rfl (Nat.le_of_ble_eq_true rfl) hdg (fun H1 locs1 hP1 _ hS1 => kk H1 locs1 (by
    rw [cS (T := wI S (12 + k) 12 v) (by omega) (by rw [shC_num hk]; simp [numF, wI_u, wI_J, upd]) wI_o] at hP1
    exact hP1) hS1)
theorem gf_X3_13 (C : Cx p c cc meth s m args own ret nL) (hK : va_K D vwCl (tysW ct) s) (hP : va_P D vwCl (cellsC ct ad S) H) (hk : k < 42) (hlink : Cond.fieldLink own index "Henselhall$Num" "earlyUnit" "J" ∈ TB) (hdg : decode cc pc = .ok (.getfield index, 3))
    (kk : W p l e R s m args below meth c H locs cells slots Q (F0 m (pc + 3) ls (.long (S.2 (12 + k) 13) :: rest))) : W p l e R s m args below meth c H locs cells slots Q (F0 m pc ls (.ref (ad (12 + k)) :: rest)) := by
  obtain ⟨hx, hb, hr, hml, hown, htL, hlocks⟩ := C
  exact va_get (ci := 5) (C := RX3) (T := TX3) (N := 14) hx hb (fun w h => htL w (hwX3 w h)) (fun _ h => h) hown hK hP (12 + k) ((cC (by omega)).trans (congrArg (fun z => some (ad (12 + k), z)) (shC_num hk))) rfl 13 (by decide) (htL _ hlink) (fun _ h => h) rfl hdg kk
theorem pf_X3_13 (C : Cx p c cc meth s m args own ret nL) (hK : va_K D vwCl (tysW ct) s) (hP : va_P D vwCl (cellsC ct ad S) H) (hG : Gd ad 70 F) (hS : va_S F s.heap H locs) (hk : k < 42) {v : Int64} (hlink : Cond.fieldLink own index "Henselhall$Num" "earlyUnit" "J" ∈ TB) (hdg : decode cc pc = .ok (.putfield index, 3))
    (kk : ∀ (H1 : Heap) (locs1 : List Loc), va_P D vwCl (cellsC ct ad (wJ S (12 + k) 13 v)) H1 → va_S F s.heap H1 locs1 → W p l e R s m args below meth c H1 locs1 cells slots Q (F0 m (pc + 3) ls rest)) : W p l e R s m args below meth c H locs cells slots Q (F0 m pc ls (.long v :: .ref (ad (12 + k)) :: rest)) := by
  obtain ⟨hx, hb, hr, hml, hown, htL, hlocks⟩ := C
  exact va_put (ci := 5) (C := RX3) (T := TX3) (N := 14) hx hb (fun w h => htL w (hwX3 w h)) (fun _ h => h) tyX3 tyX3_ok nmX3 hown hK hP (cD hG) hS (12 + k) ((cC (by omega)).trans (congrArg (fun z => some (ad (12 + k), z)) (shC_num hk))) rfl 13 (by decide) (htL _ hlink) (fun _ h => h) rfl (ty := .long) rfl rfl rfl (Nat.le_of_ble_eq_true rfl) hdg (fun H1 locs1 hP1 _ hS1 => kk H1 locs1 (by
    rw [cS (T := wJ S (12 + k) 13 v) (by omega) (by rw [shC_num hk]; simp [numF, wJ_u, wJ_I, vp_updL]) wJ_o] at hP1
    exact hP1) hS1)
theorem gf_X4_0 (C : Cx p c cc meth s m args own ret nL) (hK : va_K D vwCl (tysW ct) s) (hP : va_P D vwCl (cellsC ct ad S) H) (hk : k < 8) (hlink : Cond.fieldLink own index "Henselhall$Polynomial" "count" "I" ∈ TB) (hdg : decode cc pc = .ok (.getfield index, 3))
    (kk : W p l e R s m args below meth c H locs cells slots Q (F0 m (pc + 3) ls (.int (S.1 (54 + k) 0) :: rest))) : W p l e R s m args below meth c H locs cells slots Q (F0 m pc ls (.ref (ad (54 + k)) :: rest)) := by
  obtain ⟨hx, hb, hr, hml, hown, htL, hlocks⟩ := C
  exact va_get (ci := 6) (C := RX4) (T := TX4) (N := 2) hx hb (fun w h => htL w (hwX4 w h)) (fun _ h => h) hown hK hP (54 + k) ((cC (by omega)).trans (congrArg (fun z => some (ad (54 + k), z)) (shC_poly hk))) rfl 0 (by decide) (htL _ hlink) (fun _ h => h) rfl hdg kk
theorem pf_X4_0 (C : Cx p c cc meth s m args own ret nL) (hK : va_K D vwCl (tysW ct) s) (hP : va_P D vwCl (cellsC ct ad S) H) (hG : Gd ad 70 F) (hS : va_S F s.heap H locs) (hk : k < 8) {v : Int32} (hlink : Cond.fieldLink own index "Henselhall$Polynomial" "count" "I" ∈ TB) (hdg : decode cc pc = .ok (.putfield index, 3))
    (kk : ∀ (H1 : Heap) (locs1 : List Loc), va_P D vwCl (cellsC ct ad (wI S (54 + k) 0 v)) H1 → va_S F s.heap H1 locs1 → W p l e R s m args below meth c H1 locs1 cells slots Q (F0 m (pc + 3) ls rest)) : W p l e R s m args below meth c H locs cells slots Q (F0 m pc ls (.int v :: .ref (ad (54 + k)) :: rest)) := by
  obtain ⟨hx, hb, hr, hml, hown, htL, hlocks⟩ := C
  exact va_put (ci := 6) (C := RX4) (T := TX4) (N := 2) hx hb (fun w h => htL w (hwX4 w h)) (fun _ h => h) tyX4 tyX4_ok nmX4 hown hK hP (cD hG) hS (54 + k) ((cC (by omega)).trans (congrArg (fun z => some (ad (54 + k), z)) (shC_poly hk))) rfl 0 (by decide) (htL _ hlink) (fun _ h => h) rfl (ty := .int) rfl rfl rfl (Nat.le_of_ble_eq_true rfl) hdg (fun H1 locs1 hP1 _ hS1 => kk H1 locs1 (by
    rw [cS (T := wI S (54 + k) 0 v) (by omega) (by rw [shC_poly hk]; simp [wI_u, upd]) wI_o] at hP1
    exact hP1) hS1)
theorem gf_X4_1 (C : Cx p c cc meth s m args own ret nL) (hK : va_K D vwCl (tysW ct) s) (hP : va_P D vwCl (cellsC ct ad S) H) (hk : k < 8) (hlink : Cond.fieldLink own index "Henselhall$Polynomial" "coefficients" "[I" ∈ TB) (hdg : decode cc pc = .ok (.getfield index, 3))
    (kk : W p l e R s m args below meth c H locs cells slots Q (F0 m (pc + 3) ls (.ref (ad (62 + k)) :: rest))) : W p l e R s m args below meth c H locs cells slots Q (F0 m pc ls (.ref (ad (54 + k)) :: rest)) := by
  obtain ⟨hx, hb, hr, hml, hown, htL, hlocks⟩ := C
  exact va_get (ci := 6) (C := RX4) (T := TX4) (N := 2) hx hb (fun w h => htL w (hwX4 w h)) (fun _ h => h) hown hK hP (54 + k) ((cC (by omega)).trans (congrArg (fun z => some (ad (54 + k), z)) (shC_poly hk))) rfl 1 (by decide) (htL _ hlink) (fun _ h => h) rfl hdg kk
theorem gf_X10_0 (C : Cx p c cc meth s m args own ret nL) (hK : va_K D vwCl (tysW ct) s) (hP : va_P D vwCl (cellsM ct ad S) H) (hlink : Cond.fieldLink own index "HenselhallModel" "val" "[I" ∈ TB) (hdg : decode cc pc = .ok (.getfield index, 3))
    (kk : W p l e R s m args below meth c H locs cells slots Q (F0 m (pc + 3) ls (.ref (ad 1) :: rest))) : W p l e R s m args below meth c H locs cells slots Q (F0 m pc ls (.ref (ad 0) :: rest)) := by
  obtain ⟨hx, hb, hr, hml, hown, htL, hlocks⟩ := C
  exact va_get (ci := 10) (C := RX10) (T := TX10) (N := 27) hx hb (fun w h => htL w (hwX10 w h)) (fun _ h => h) hown hK hP (0) ((cC (by decide)).trans (congrArg (fun z => some (ad (0), z)) (rfl))) rfl 0 (by decide) (htL _ hlink) (fun _ h => h) rfl hdg kk
theorem gf_X10_1 (C : Cx p c cc meth s m args own ret nL) (hK : va_K D vwCl (tysW ct) s) (hP : va_P D vwCl (cellsM ct ad S) H) (hlink : Cond.fieldLink own index "HenselhallModel" "prec" "[I" ∈ TB) (hdg : decode cc pc = .ok (.getfield index, 3))
    (kk : W p l e R s m args below meth c H locs cells slots Q (F0 m (pc + 3) ls (.ref (ad 2) :: rest))) : W p l e R s m args below meth c H locs cells slots Q (F0 m pc ls (.ref (ad 0) :: rest)) := by
  obtain ⟨hx, hb, hr, hml, hown, htL, hlocks⟩ := C
  exact va_get (ci := 10) (C := RX10) (T := TX10) (N := 27) hx hb (fun w h => htL w (hwX10 w h)) (fun _ h => h) hown hK hP (0) ((cC (by decide)).trans (congrArg (fun z => some (ad (0), z)) (rfl))) rfl 1 (by decide) (htL _ hlink) (fun _ h => h) rfl hdg kk
theorem gf_X10_2 (C : Cx p c cc meth s m args own ret nL) (hK : va_K D vwCl (tysW ct) s) (hP : va_P D vwCl (cellsM ct ad S) H) (hlink : Cond.fieldLink own index "HenselhallModel" "kind" "[I" ∈ TB) (hdg : decode cc pc = .ok (.getfield index, 3))
    (kk : W p l e R s m args below meth c H locs cells slots Q (F0 m (pc + 3) ls (.ref (ad 3) :: rest))) : W p l e R s m args below meth c H locs cells slots Q (F0 m pc ls (.ref (ad 0) :: rest)) := by
  obtain ⟨hx, hb, hr, hml, hown, htL, hlocks⟩ := C
  exact va_get (ci := 10) (C := RX10) (T := TX10) (N := 27) hx hb (fun w h => htL w (hwX10 w h)) (fun _ h => h) hown hK hP (0) ((cC (by decide)).trans (congrArg (fun z => some (ad (0), z)) (rfl))) rfl 2 (by decide) (htL _ hlink) (fun _ h => h) rfl hdg kk
theorem gf_X10_3 (C : Cx p c cc meth s m args own ret nL) (hK : va_K D vwCl (tysW ct) s) (hP : va_P D vwCl (cellsM ct ad S) H) (hlink : Cond.fieldLink own index "HenselhallModel" "one" "[I" ∈ TB) (hdg : decode cc pc = .ok (.getfield index, 3))
    (kk : W p l e R s m args below meth c H locs cells slots Q (F0 m (pc + 3) ls (.ref (ad 4) :: rest))) : W p l e R s m args below meth c H locs cells slots Q (F0 m pc ls (.ref (ad 0) :: rest)) := by
  obtain ⟨hx, hb, hr, hml, hown, htL, hlocks⟩ := C
  exact va_get (ci := 10) (C := RX10) (T := TX10) (N := 27) hx hb (fun w h => htL w (hwX10 w h)) (fun _ h => h) hown hK hP (0) ((cC (by decide)).trans (congrArg (fun z => some (ad (0), z)) (rfl))) rfl 3 (by decide) (htL _ hlink) (fun _ h => h) rfl hdg kk
theorem gf_X10_4 (C : Cx p c cc meth s m args own ret nL) (hK : va_K D vwCl (tysW ct) s) (hP : va_P D vwCl (cellsM ct ad S) H) (hlink : Cond.fieldLink own index "HenselhallModel" "two" "[I" ∈ TB) (hdg : decode cc pc = .ok (.getfield index, 3))
    (kk : W p l e R s m args below meth c H locs cells slots Q (F0 m (pc + 3) ls (.ref (ad 5) :: rest))) : W p l e R s m args below meth c H locs cells slots Q (F0 m pc ls (.ref (ad 0) :: rest)) := by
  obtain ⟨hx, hb, hr, hml, hown, htL, hlocks⟩ := C
  exact va_get (ci := 10) (C := RX10) (T := TX10) (N := 27) hx hb (fun w h => htL w (hwX10 w h)) (fun _ h => h) hown hK hP (0) ((cC (by decide)).trans (congrArg (fun z => some (ad (0), z)) (rfl))) rfl 4 (by decide) (htL _ hlink) (fun _ h => h) rfl hdg kk
theorem gf_X10_5 (C : Cx p c cc meth s m args own ret nL) (hK : va_K D vwCl (tysW ct) s) (hP : va_P D vwCl (cellsM ct ad S) H) (hlink : Cond.fieldLink own index "HenselhallModel" "wish" "[I" ∈ TB) (hdg : decode cc pc = .ok (.getfield index, 3))
    (kk : W p l e R s m args below meth c H locs cells slots Q (F0 m (pc + 3) ls (.ref (ad 6) :: rest))) : W p l e R s m args below meth c H locs cells slots Q (F0 m pc ls (.ref (ad 0) :: rest)) := by
  obtain ⟨hx, hb, hr, hml, hown, htL, hlocks⟩ := C
  exact va_get (ci := 10) (C := RX10) (T := TX10) (N := 27) hx hb (fun w h => htL w (hwX10 w h)) (fun _ h => h) hown hK hP (0) ((cC (by decide)).trans (congrArg (fun z => some (ad (0), z)) (rfl))) rfl 5 (by decide) (htL _ hlink) (fun _ h => h) rfl hdg kk
theorem gf_X10_6 (C : Cx p c cc meth s m args own ret nL) (hK : va_K D vwCl (tysW ct) s) (hP : va_P D vwCl (cellsM ct ad S) H) (hlink : Cond.fieldLink own index "HenselhallModel" "rowSize" "[I" ∈ TB) (hdg : decode cc pc = .ok (.getfield index, 3))
    (kk : W p l e R s m args below meth c H locs cells slots Q (F0 m (pc + 3) ls (.ref (ad 7) :: rest))) : W p l e R s m args below meth c H locs cells slots Q (F0 m pc ls (.ref (ad 0) :: rest)) := by
  obtain ⟨hx, hb, hr, hml, hown, htL, hlocks⟩ := C
  exact va_get (ci := 10) (C := RX10) (T := TX10) (N := 27) hx hb (fun w h => htL w (hwX10 w h)) (fun _ h => h) hown hK hP (0) ((cC (by decide)).trans (congrArg (fun z => some (ad (0), z)) (rfl))) rfl 6 (by decide) (htL _ hlink) (fun _ h => h) rfl hdg kk
theorem gf_X10_7 (C : Cx p c cc meth s m args own ret nL) (hK : va_K D vwCl (tysW ct) s) (hP : va_P D vwCl (cellsM ct ad S) H) (hlink : Cond.fieldLink own index "HenselhallModel" "unit" "[J" ∈ TB) (hdg : decode cc pc = .ok (.getfield index, 3))
    (kk : W p l e R s m args below meth c H locs cells slots Q (F0 m (pc + 3) ls (.ref (ad 8) :: rest))) : W p l e R s m args below meth c H locs cells slots Q (F0 m pc ls (.ref (ad 0) :: rest)) := by
  obtain ⟨hx, hb, hr, hml, hown, htL, hlocks⟩ := C
  exact va_get (ci := 10) (C := RX10) (T := TX10) (N := 27) hx hb (fun w h => htL w (hwX10 w h)) (fun _ h => h) hown hK hP (0) ((cC (by decide)).trans (congrArg (fun z => some (ad (0), z)) (rfl))) rfl 7 (by decide) (htL _ hlink) (fun _ h => h) rfl hdg kk
theorem gf_X10_8 (C : Cx p c cc meth s m args own ret nL) (hK : va_K D vwCl (tysW ct) s) (hP : va_P D vwCl (cellsM ct ad S) H) (hlink : Cond.fieldLink own index "HenselhallModel" "hangs" "[Z" ∈ TB) (hdg : decode cc pc = .ok (.getfield index, 3))
    (kk : W p l e R s m args below meth c H locs cells slots Q (F0 m (pc + 3) ls (.ref (ad 9) :: rest))) : W p l e R s m args below meth c H locs cells slots Q (F0 m pc ls (.ref (ad 0) :: rest)) := by
  obtain ⟨hx, hb, hr, hml, hown, htL, hlocks⟩ := C
  exact va_get (ci := 10) (C := RX10) (T := TX10) (N := 27) hx hb (fun w h => htL w (hwX10 w h)) (fun _ h => h) hown hK hP (0) ((cC (by decide)).trans (congrArg (fun z => some (ad (0), z)) (rfl))) rfl 8 (by decide) (htL _ hlink) (fun _ h => h) rfl hdg kk
theorem gf_X10_9 (C : Cx p c cc meth s m args own ret nL) (hK : va_K D vwCl (tysW ct) s) (hP : va_P D vwCl (cellsM ct ad S) H) (hlink : Cond.fieldLink own index "HenselhallModel" "rowOf" "[I" ∈ TB) (hdg : decode cc pc = .ok (.getfield index, 3))
    (kk : W p l e R s m args below meth c H locs cells slots Q (F0 m (pc + 3) ls (.ref (ad 10) :: rest))) : W p l e R s m args below meth c H locs cells slots Q (F0 m pc ls (.ref (ad 0) :: rest)) := by
  obtain ⟨hx, hb, hr, hml, hown, htL, hlocks⟩ := C
  exact va_get (ci := 10) (C := RX10) (T := TX10) (N := 27) hx hb (fun w h => htL w (hwX10 w h)) (fun _ h => h) hown hK hP (0) ((cC (by decide)).trans (congrArg (fun z => some (ad (0), z)) (rfl))) rfl 9 (by decide) (htL _ hlink) (fun _ h => h) rfl hdg kk
theorem gf_X10_10 (C : Cx p c cc meth s m args own ret nL) (hK : va_K D vwCl (tysW ct) s) (hP : va_P D vwCl (cellsM ct ad S) H) (hlink : Cond.fieldLink own index "HenselhallModel" "coefOf" "[I" ∈ TB) (hdg : decode cc pc = .ok (.getfield index, 3))
    (kk : W p l e R s m args below meth c H locs cells slots Q (F0 m (pc + 3) ls (.ref (ad 11) :: rest))) : W p l e R s m args below meth c H locs cells slots Q (F0 m pc ls (.ref (ad 0) :: rest)) := by
  obtain ⟨hx, hb, hr, hml, hown, htL, hlocks⟩ := C
  exact va_get (ci := 10) (C := RX10) (T := TX10) (N := 27) hx hb (fun w h => htL w (hwX10 w h)) (fun _ h => h) hown hK hP (0) ((cC (by decide)).trans (congrArg (fun z => some (ad (0), z)) (rfl))) rfl 10 (by decide) (htL _ hlink) (fun _ h => h) rfl hdg kk
theorem gf_X10_11 (C : Cx p c cc meth s m args own ret nL) (hK : va_K D vwCl (tysW ct) s) (hP : va_P D vwCl (cellsM ct ad S) H) (hlink : Cond.fieldLink own index "HenselhallModel" "coef" "[I" ∈ TB) (hdg : decode cc pc = .ok (.getfield index, 3))
    (kk : W p l e R s m args below meth c H locs cells slots Q (F0 m (pc + 3) ls (.ref (ad 12) :: rest))) : W p l e R s m args below meth c H locs cells slots Q (F0 m pc ls (.ref (ad 0) :: rest)) := by
  obtain ⟨hx, hb, hr, hml, hown, htL, hlocks⟩ := C
  exact va_get (ci := 10) (C := RX10) (T := TX10) (N := 27) hx hb (fun w h => htL w (hwX10 w h)) (fun _ h => h) hown hK hP (0) ((cC (by decide)).trans (congrArg (fun z => some (ad (0), z)) (rfl))) rfl 11 (by decide) (htL _ hlink) (fun _ h => h) rfl hdg kk
theorem gf_X10_12 (C : Cx p c cc meth s m args own ret nL) (hK : va_K D vwCl (tysW ct) s) (hP : va_P D vwCl (cellsM ct ad S) H) (hlink : Cond.fieldLink own index "HenselhallModel" "terms" "[I" ∈ TB) (hdg : decode cc pc = .ok (.getfield index, 3))
    (kk : W p l e R s m args below meth c H locs cells slots Q (F0 m (pc + 3) ls (.ref (ad 13) :: rest))) : W p l e R s m args below meth c H locs cells slots Q (F0 m pc ls (.ref (ad 0) :: rest)) := by
  obtain ⟨hx, hb, hr, hml, hown, htL, hlocks⟩ := C
  exact va_get (ci := 10) (C := RX10) (T := TX10) (N := 27) hx hb (fun w h => htL w (hwX10 w h)) (fun _ h => h) hown hK hP (0) ((cC (by decide)).trans (congrArg (fun z => some (ad (0), z)) (rfl))) rfl 12 (by decide) (htL _ hlink) (fun _ h => h) rfl hdg kk
theorem gf_X10_13 (C : Cx p c cc meth s m args own ret nL) (hK : va_K D vwCl (tysW ct) s) (hP : va_P D vwCl (cellsM ct ad S) H) (hlink : Cond.fieldLink own index "HenselhallModel" "row" "[I" ∈ TB) (hdg : decode cc pc = .ok (.getfield index, 3))
    (kk : W p l e R s m args below meth c H locs cells slots Q (F0 m (pc + 3) ls (.ref (ad 14) :: rest))) : W p l e R s m args below meth c H locs cells slots Q (F0 m pc ls (.ref (ad 0) :: rest)) := by
  obtain ⟨hx, hb, hr, hml, hown, htL, hlocks⟩ := C
  exact va_get (ci := 10) (C := RX10) (T := TX10) (N := 27) hx hb (fun w h => htL w (hwX10 w h)) (fun _ h => h) hown hK hP (0) ((cC (by decide)).trans (congrArg (fun z => some (ad (0), z)) (rfl))) rfl 13 (by decide) (htL _ hlink) (fun _ h => h) rfl hdg kk
theorem gf_X10_14 (C : Cx p c cc meth s m args own ret nL) (hK : va_K D vwCl (tysW ct) s) (hP : va_P D vwCl (cellsM ct ad S) H) (hlink : Cond.fieldLink own index "HenselhallModel" "entry" "[I" ∈ TB) (hdg : decode cc pc = .ok (.getfield index, 3))
    (kk : W p l e R s m args below meth c H locs cells slots Q (F0 m (pc + 3) ls (.ref (ad 15) :: rest))) : W p l e R s m args below meth c H locs cells slots Q (F0 m pc ls (.ref (ad 0) :: rest)) := by
  obtain ⟨hx, hb, hr, hml, hown, htL, hlocks⟩ := C
  exact va_get (ci := 10) (C := RX10) (T := TX10) (N := 27) hx hb (fun w h => htL w (hwX10 w h)) (fun _ h => h) hown hK hP (0) ((cC (by decide)).trans (congrArg (fun z => some (ad (0), z)) (rfl))) rfl 14 (by decide) (htL _ hlink) (fun _ h => h) rfl hdg kk
theorem gf_X10_15 (C : Cx p c cc meth s m args own ret nL) (hK : va_K D vwCl (tysW ct) s) (hP : va_P D vwCl (cellsM ct ad S) H) (hlink : Cond.fieldLink own index "HenselhallModel" "hullAt" "[I" ∈ TB) (hdg : decode cc pc = .ok (.getfield index, 3))
    (kk : W p l e R s m args below meth c H locs cells slots Q (F0 m (pc + 3) ls (.ref (ad 16) :: rest))) : W p l e R s m args below meth c H locs cells slots Q (F0 m pc ls (.ref (ad 0) :: rest)) := by
  obtain ⟨hx, hb, hr, hml, hown, htL, hlocks⟩ := C
  exact va_get (ci := 10) (C := RX10) (T := TX10) (N := 27) hx hb (fun w h => htL w (hwX10 w h)) (fun _ h => h) hown hK hP (0) ((cC (by decide)).trans (congrArg (fun z => some (ad (0), z)) (rfl))) rfl 15 (by decide) (htL _ hlink) (fun _ h => h) rfl hdg kk
theorem gf_X10_16 (C : Cx p c cc meth s m args own ret nL) (hK : va_K D vwCl (tysW ct) s) (hP : va_P D vwCl (cellsM ct ad S) H) (hlink : Cond.fieldLink own index "HenselhallModel" "hullTo" "[I" ∈ TB) (hdg : decode cc pc = .ok (.getfield index, 3))
    (kk : W p l e R s m args below meth c H locs cells slots Q (F0 m (pc + 3) ls (.ref (ad 17) :: rest))) : W p l e R s m args below meth c H locs cells slots Q (F0 m pc ls (.ref (ad 0) :: rest)) := by
  obtain ⟨hx, hb, hr, hml, hown, htL, hlocks⟩ := C
  exact va_get (ci := 10) (C := RX10) (T := TX10) (N := 27) hx hb (fun w h => htL w (hwX10 w h)) (fun _ h => h) hown hK hP (0) ((cC (by decide)).trans (congrArg (fun z => some (ad (0), z)) (rfl))) rfl 16 (by decide) (htL _ hlink) (fun _ h => h) rfl hdg kk
theorem gf_X10_17 (C : Cx p c cc meth s m args own ret nL) (hK : va_K D vwCl (tysW ct) s) (hP : va_P D vwCl (cellsM ct ad S) H) (hlink : Cond.fieldLink own index "HenselhallModel" "thrown" "I" ∈ TB) (hdg : decode cc pc = .ok (.getfield index, 3))
    (kk : W p l e R s m args below meth c H locs cells slots Q (F0 m (pc + 3) ls (.int (S.1 0 17) :: rest))) : W p l e R s m args below meth c H locs cells slots Q (F0 m pc ls (.ref (ad 0) :: rest)) := by
  obtain ⟨hx, hb, hr, hml, hown, htL, hlocks⟩ := C
  exact va_get (ci := 10) (C := RX10) (T := TX10) (N := 27) hx hb (fun w h => htL w (hwX10 w h)) (fun _ h => h) hown hK hP (0) ((cC (by decide)).trans (congrArg (fun z => some (ad (0), z)) (rfl))) rfl 17 (by decide) (htL _ hlink) (fun _ h => h) rfl hdg kk
theorem pf_X10_17 (C : Cx p c cc meth s m args own ret nL) (hK : va_K D vwCl (tysW ct) s) (hP : va_P D vwCl (cellsM ct ad S) H) (hG : Gd ad 18 F) (hS : va_S F s.heap H locs) {v : Int32} (hlink : Cond.fieldLink own index "HenselhallModel" "thrown" "I" ∈ TB) (hdg : decode cc pc = .ok (.putfield index, 3))
    (kk : ∀ (H1 : Heap) (locs1 : List Loc), va_P D vwCl (cellsM ct ad (wI S 0 17 v)) H1 → va_S F s.heap H1 locs1 → W p l e R s m args below meth c H1 locs1 cells slots Q (F0 m (pc + 3) ls rest)) : W p l e R s m args below meth c H locs cells slots Q (F0 m pc ls (.int v :: .ref (ad 0) :: rest)) := by
  obtain ⟨hx, hb, hr, hml, hown, htL, hlocks⟩ := C
  exact va_put (ci := 10) (C := RX10) (T := TX10) (N := 27) hx hb (fun w h => htL w (hwX10 w h)) (fun _ h => h) tyX10 tyX10_ok nmX10 hown hK hP (cD hG) hS (0) ((cC (by decide)).trans (congrArg (fun z => some (ad (0), z)) (rfl))) rfl 17 (by decide) (htL _ hlink) (fun _ h => h) rfl (ty := .int) rfl rfl rfl (Nat.le_of_ble_eq_true rfl) hdg (fun H1 locs1 hP1 _ hS1 => kk H1 locs1 (by
    rw [cS (T := wI S 0 17 v) (by decide) (by simp [shM, wI_u, wI_J, upd]) wI_o] at hP1
    exact hP1) hS1)
theorem gf_X10_18 (C : Cx p c cc meth s m args own ret nL) (hK : va_K D vwCl (tysW ct) s) (hP : va_P D vwCl (cellsM ct ad S) H) (hlink : Cond.fieldLink own index "HenselhallModel" "prime" "I" ∈ TB) (hdg : decode cc pc = .ok (.getfield index, 3))
    (kk : W p l e R s m args below meth c H locs cells slots Q (F0 m (pc + 3) ls (.int (S.1 0 18) :: rest))) : W p l e R s m args below meth c H locs cells slots Q (F0 m pc ls (.ref (ad 0) :: rest)) := by
  obtain ⟨hx, hb, hr, hml, hown, htL, hlocks⟩ := C
  exact va_get (ci := 10) (C := RX10) (T := TX10) (N := 27) hx hb (fun w h => htL w (hwX10 w h)) (fun _ h => h) hown hK hP (0) ((cC (by decide)).trans (congrArg (fun z => some (ad (0), z)) (rfl))) rfl 18 (by decide) (htL _ hlink) (fun _ h => h) rfl hdg kk
theorem pf_X10_18 (C : Cx p c cc meth s m args own ret nL) (hK : va_K D vwCl (tysW ct) s) (hP : va_P D vwCl (cellsM ct ad S) H) (hG : Gd ad 18 F) (hS : va_S F s.heap H locs) {v : Int32} (hlink : Cond.fieldLink own index "HenselhallModel" "prime" "I" ∈ TB) (hdg : decode cc pc = .ok (.putfield index, 3))
    (kk : ∀ (H1 : Heap) (locs1 : List Loc), va_P D vwCl (cellsM ct ad (wI S 0 18 v)) H1 → va_S F s.heap H1 locs1 → W p l e R s m args below meth c H1 locs1 cells slots Q (F0 m (pc + 3) ls rest)) : W p l e R s m args below meth c H locs cells slots Q (F0 m pc ls (.int v :: .ref (ad 0) :: rest)) := by
  obtain ⟨hx, hb, hr, hml, hown, htL, hlocks⟩ := C
  exact va_put (ci := 10) (C := RX10) (T := TX10) (N := 27) hx hb (fun w h => htL w (hwX10 w h)) (fun _ h => h) tyX10 tyX10_ok nmX10 hown hK hP (cD hG) hS (0) ((cC (by decide)).trans (congrArg (fun z => some (ad (0), z)) (rfl))) rfl 18 (by decide) (htL _ hlink) (fun _ h => h) rfl (ty := .int) rfl rfl rfl (Nat.le_of_ble_eq_true rfl) hdg (fun H1 locs1 hP1 _ hS1 => kk H1 locs1 (by
    rw [cS (T := wI S 0 18 v) (by decide) (by simp [shM, wI_u, wI_J, upd]) wI_o] at hP1
    exact hP1) hS1)
theorem gf_X10_19 (C : Cx p c cc meth s m args own ret nL) (hK : va_K D vwCl (tysW ct) s) (hP : va_P D vwCl (cellsM ct ad S) H) (hlink : Cond.fieldLink own index "HenselhallModel" "numbers" "I" ∈ TB) (hdg : decode cc pc = .ok (.getfield index, 3))
    (kk : W p l e R s m args below meth c H locs cells slots Q (F0 m (pc + 3) ls (.int (S.1 0 19) :: rest))) : W p l e R s m args below meth c H locs cells slots Q (F0 m pc ls (.ref (ad 0) :: rest)) := by
  obtain ⟨hx, hb, hr, hml, hown, htL, hlocks⟩ := C
  exact va_get (ci := 10) (C := RX10) (T := TX10) (N := 27) hx hb (fun w h => htL w (hwX10 w h)) (fun _ h => h) hown hK hP (0) ((cC (by decide)).trans (congrArg (fun z => some (ad (0), z)) (rfl))) rfl 19 (by decide) (htL _ hlink) (fun _ h => h) rfl hdg kk
theorem pf_X10_19 (C : Cx p c cc meth s m args own ret nL) (hK : va_K D vwCl (tysW ct) s) (hP : va_P D vwCl (cellsM ct ad S) H) (hG : Gd ad 18 F) (hS : va_S F s.heap H locs) {v : Int32} (hlink : Cond.fieldLink own index "HenselhallModel" "numbers" "I" ∈ TB) (hdg : decode cc pc = .ok (.putfield index, 3))
    (kk : ∀ (H1 : Heap) (locs1 : List Loc), va_P D vwCl (cellsM ct ad (wI S 0 19 v)) H1 → va_S F s.heap H1 locs1 → W p l e R s m args below meth c H1 locs1 cells slots Q (F0 m (pc + 3) ls rest)) : W p l e R s m args below meth c H locs cells slots Q (F0 m pc ls (.int v :: .ref (ad 0) :: rest)) := by
  obtain ⟨hx, hb, hr, hml, hown, htL, hlocks⟩ := C
  exact va_put (ci := 10) (C := RX10) (T := TX10) (N := 27) hx hb (fun w h => htL w (hwX10 w h)) (fun _ h => h) tyX10 tyX10_ok nmX10 hown hK hP (cD hG) hS (0) ((cC (by decide)).trans (congrArg (fun z => some (ad (0), z)) (rfl))) rfl 19 (by decide) (htL _ hlink) (fun _ h => h) rfl (ty := .int) rfl rfl rfl (Nat.le_of_ble_eq_true rfl) hdg (fun H1 locs1 hP1 _ hS1 => kk H1 locs1 (by
    rw [cS (T := wI S 0 19 v) (by decide) (by simp [shM, wI_u, wI_J, upd]) wI_o] at hP1
    exact hP1) hS1)
theorem gf_X10_20 (C : Cx p c cc meth s m args own ret nL) (hK : va_K D vwCl (tysW ct) s) (hP : va_P D vwCl (cellsM ct ad S) H) (hlink : Cond.fieldLink own index "HenselhallModel" "polynomials" "I" ∈ TB) (hdg : decode cc pc = .ok (.getfield index, 3))
    (kk : W p l e R s m args below meth c H locs cells slots Q (F0 m (pc + 3) ls (.int (S.1 0 20) :: rest))) : W p l e R s m args below meth c H locs cells slots Q (F0 m pc ls (.ref (ad 0) :: rest)) := by
  obtain ⟨hx, hb, hr, hml, hown, htL, hlocks⟩ := C
  exact va_get (ci := 10) (C := RX10) (T := TX10) (N := 27) hx hb (fun w h => htL w (hwX10 w h)) (fun _ h => h) hown hK hP (0) ((cC (by decide)).trans (congrArg (fun z => some (ad (0), z)) (rfl))) rfl 20 (by decide) (htL _ hlink) (fun _ h => h) rfl hdg kk
theorem pf_X10_20 (C : Cx p c cc meth s m args own ret nL) (hK : va_K D vwCl (tysW ct) s) (hP : va_P D vwCl (cellsM ct ad S) H) (hG : Gd ad 18 F) (hS : va_S F s.heap H locs) {v : Int32} (hlink : Cond.fieldLink own index "HenselhallModel" "polynomials" "I" ∈ TB) (hdg : decode cc pc = .ok (.putfield index, 3))
    (kk : ∀ (H1 : Heap) (locs1 : List Loc), va_P D vwCl (cellsM ct ad (wI S 0 20 v)) H1 → va_S F s.heap H1 locs1 → W p l e R s m args below meth c H1 locs1 cells slots Q (F0 m (pc + 3) ls rest)) : W p l e R s m args below meth c H locs cells slots Q (F0 m pc ls (.int v :: .ref (ad 0) :: rest)) := by
  obtain ⟨hx, hb, hr, hml, hown, htL, hlocks⟩ := C
  exact va_put (ci := 10) (C := RX10) (T := TX10) (N := 27) hx hb (fun w h => htL w (hwX10 w h)) (fun _ h => h) tyX10 tyX10_ok nmX10 hown hK hP (cD hG) hS (0) ((cC (by decide)).trans (congrArg (fun z => some (ad (0), z)) (rfl))) rfl 20 (by decide) (htL _ hlink) (fun _ h => h) rfl (ty := .int) rfl rfl rfl (Nat.le_of_ble_eq_true rfl) hdg (fun H1 locs1 hP1 _ hS1 => kk H1 locs1 (by
    rw [cS (T := wI S 0 20 v) (by decide) (by simp [shM, wI_u, wI_J, upd]) wI_o] at hP1
    exact hP1) hS1)
theorem gf_X10_21 (C : Cx p c cc meth s m args own ret nL) (hK : va_K D vwCl (tysW ct) s) (hP : va_P D vwCl (cellsM ct ad S) H) (hlink : Cond.fieldLink own index "HenselhallModel" "values" "I" ∈ TB) (hdg : decode cc pc = .ok (.getfield index, 3))
    (kk : W p l e R s m args below meth c H locs cells slots Q (F0 m (pc + 3) ls (.int (S.1 0 21) :: rest))) : W p l e R s m args below meth c H locs cells slots Q (F0 m pc ls (.ref (ad 0) :: rest)) := by
  obtain ⟨hx, hb, hr, hml, hown, htL, hlocks⟩ := C
  exact va_get (ci := 10) (C := RX10) (T := TX10) (N := 27) hx hb (fun w h => htL w (hwX10 w h)) (fun _ h => h) hown hK hP (0) ((cC (by decide)).trans (congrArg (fun z => some (ad (0), z)) (rfl))) rfl 21 (by decide) (htL _ hlink) (fun _ h => h) rfl hdg kk
theorem pf_X10_21 (C : Cx p c cc meth s m args own ret nL) (hK : va_K D vwCl (tysW ct) s) (hP : va_P D vwCl (cellsM ct ad S) H) (hG : Gd ad 18 F) (hS : va_S F s.heap H locs) {v : Int32} (hlink : Cond.fieldLink own index "HenselhallModel" "values" "I" ∈ TB) (hdg : decode cc pc = .ok (.putfield index, 3))
    (kk : ∀ (H1 : Heap) (locs1 : List Loc), va_P D vwCl (cellsM ct ad (wI S 0 21 v)) H1 → va_S F s.heap H1 locs1 → W p l e R s m args below meth c H1 locs1 cells slots Q (F0 m (pc + 3) ls rest)) : W p l e R s m args below meth c H locs cells slots Q (F0 m pc ls (.int v :: .ref (ad 0) :: rest)) := by
  obtain ⟨hx, hb, hr, hml, hown, htL, hlocks⟩ := C
  exact va_put (ci := 10) (C := RX10) (T := TX10) (N := 27) hx hb (fun w h => htL w (hwX10 w h)) (fun _ h => h) tyX10 tyX10_ok nmX10 hown hK hP (cD hG) hS (0) ((cC (by decide)).trans (congrArg (fun z => some (ad (0), z)) (rfl))) rfl 21 (by decide) (htL _ hlink) (fun _ h => h) rfl (ty := .int) rfl rfl rfl (Nat.le_of_ble_eq_true rfl) hdg (fun H1 locs1 hP1 _ hS1 => kk H1 locs1 (by
    rw [cS (T := wI S 0 21 v) (by decide) (by simp [shM, wI_u, wI_J, upd]) wI_o] at hP1
    exact hP1) hS1)
theorem gf_X10_22 (C : Cx p c cc meth s m args own ret nL) (hK : va_K D vwCl (tysW ct) s) (hP : va_P D vwCl (cellsM ct ad S) H) (hlink : Cond.fieldLink own index "HenselhallModel" "order" "I" ∈ TB) (hdg : decode cc pc = .ok (.getfield index, 3))
    (kk : W p l e R s m args below meth c H locs cells slots Q (F0 m (pc + 3) ls (.int (S.1 0 22) :: rest))) : W p l e R s m args below meth c H locs cells slots Q (F0 m pc ls (.ref (ad 0) :: rest)) := by
  obtain ⟨hx, hb, hr, hml, hown, htL, hlocks⟩ := C
  exact va_get (ci := 10) (C := RX10) (T := TX10) (N := 27) hx hb (fun w h => htL w (hwX10 w h)) (fun _ h => h) hown hK hP (0) ((cC (by decide)).trans (congrArg (fun z => some (ad (0), z)) (rfl))) rfl 22 (by decide) (htL _ hlink) (fun _ h => h) rfl hdg kk
theorem pf_X10_22 (C : Cx p c cc meth s m args own ret nL) (hK : va_K D vwCl (tysW ct) s) (hP : va_P D vwCl (cellsM ct ad S) H) (hG : Gd ad 18 F) (hS : va_S F s.heap H locs) {v : Int32} (hlink : Cond.fieldLink own index "HenselhallModel" "order" "I" ∈ TB) (hdg : decode cc pc = .ok (.putfield index, 3))
    (kk : ∀ (H1 : Heap) (locs1 : List Loc), va_P D vwCl (cellsM ct ad (wI S 0 22 v)) H1 → va_S F s.heap H1 locs1 → W p l e R s m args below meth c H1 locs1 cells slots Q (F0 m (pc + 3) ls rest)) : W p l e R s m args below meth c H locs cells slots Q (F0 m pc ls (.int v :: .ref (ad 0) :: rest)) := by
  obtain ⟨hx, hb, hr, hml, hown, htL, hlocks⟩ := C
  exact va_put (ci := 10) (C := RX10) (T := TX10) (N := 27) hx hb (fun w h => htL w (hwX10 w h)) (fun _ h => h) tyX10 tyX10_ok nmX10 hown hK hP (cD hG) hS (0) ((cC (by decide)).trans (congrArg (fun z => some (ad (0), z)) (rfl))) rfl 22 (by decide) (htL _ hlink) (fun _ h => h) rfl (ty := .int) rfl rfl rfl (Nat.le_of_ble_eq_true rfl) hdg (fun H1 locs1 hP1 _ hS1 => kk H1 locs1 (by
    rw [cS (T := wI S 0 22 v) (by decide) (by simp [shM, wI_u, wI_J, upd]) wI_o] at hP1
    exact hP1) hS1)
theorem gf_X10_23 (C : Cx p c cc meth s m args own ret nL) (hK : va_K D vwCl (tysW ct) s) (hP : va_P D vwCl (cellsM ct ad S) H) (hlink : Cond.fieldLink own index "HenselhallModel" "freshVal" "I" ∈ TB) (hdg : decode cc pc = .ok (.getfield index, 3))
    (kk : W p l e R s m args below meth c H locs cells slots Q (F0 m (pc + 3) ls (.int (S.1 0 23) :: rest))) : W p l e R s m args below meth c H locs cells slots Q (F0 m pc ls (.ref (ad 0) :: rest)) := by
  obtain ⟨hx, hb, hr, hml, hown, htL, hlocks⟩ := C
  exact va_get (ci := 10) (C := RX10) (T := TX10) (N := 27) hx hb (fun w h => htL w (hwX10 w h)) (fun _ h => h) hown hK hP (0) ((cC (by decide)).trans (congrArg (fun z => some (ad (0), z)) (rfl))) rfl 23 (by decide) (htL _ hlink) (fun _ h => h) rfl hdg kk
theorem pf_X10_23 (C : Cx p c cc meth s m args own ret nL) (hK : va_K D vwCl (tysW ct) s) (hP : va_P D vwCl (cellsM ct ad S) H) (hG : Gd ad 18 F) (hS : va_S F s.heap H locs) {v : Int32} (hlink : Cond.fieldLink own index "HenselhallModel" "freshVal" "I" ∈ TB) (hdg : decode cc pc = .ok (.putfield index, 3))
    (kk : ∀ (H1 : Heap) (locs1 : List Loc), va_P D vwCl (cellsM ct ad (wI S 0 23 v)) H1 → va_S F s.heap H1 locs1 → W p l e R s m args below meth c H1 locs1 cells slots Q (F0 m (pc + 3) ls rest)) : W p l e R s m args below meth c H locs cells slots Q (F0 m pc ls (.int v :: .ref (ad 0) :: rest)) := by
  obtain ⟨hx, hb, hr, hml, hown, htL, hlocks⟩ := C
  exact va_put (ci := 10) (C := RX10) (T := TX10) (N := 27) hx hb (fun w h => htL w (hwX10 w h)) (fun _ h => h) tyX10 tyX10_ok nmX10 hown hK hP (cD hG) hS (0) ((cC (by decide)).trans (congrArg (fun z => some (ad (0), z)) (rfl))) rfl 23 (by decide) (htL _ hlink) (fun _ h => h) rfl (ty := .int) rfl rfl rfl (Nat.le_of_ble_eq_true rfl) hdg (fun H1 locs1 hP1 _ hS1 => kk H1 locs1 (by
    rw [cS (T := wI S 0 23 v) (by decide) (by simp [shM, wI_u, wI_J, upd]) wI_o] at hP1
    exact hP1) hS1)
theorem gf_X10_24 (C : Cx p c cc meth s m args own ret nL) (hK : va_K D vwCl (tysW ct) s) (hP : va_P D vwCl (cellsM ct ad S) H) (hlink : Cond.fieldLink own index "HenselhallModel" "freshPrec" "I" ∈ TB) (hdg : decode cc pc = .ok (.getfield index, 3))
    (kk : W p l e R s m args below meth c H locs cells slots Q (F0 m (pc + 3) ls (.int (S.1 0 24) :: rest))) : W p l e R s m args below meth c H locs cells slots Q (F0 m pc ls (.ref (ad 0) :: rest)) := by
  obtain ⟨hx, hb, hr, hml, hown, htL, hlocks⟩ := C
  exact va_get (ci := 10) (C := RX10) (T := TX10) (N := 27) hx hb (fun w h => htL w (hwX10 w h)) (fun _ h => h) hown hK hP (0) ((cC (by decide)).trans (congrArg (fun z => some (ad (0), z)) (rfl))) rfl 24 (by decide) (htL _ hlink) (fun _ h => h) rfl hdg kk
theorem pf_X10_24 (C : Cx p c cc meth s m args own ret nL) (hK : va_K D vwCl (tysW ct) s) (hP : va_P D vwCl (cellsM ct ad S) H) (hG : Gd ad 18 F) (hS : va_S F s.heap H locs) {v : Int32} (hlink : Cond.fieldLink own index "HenselhallModel" "freshPrec" "I" ∈ TB) (hdg : decode cc pc = .ok (.putfield index, 3))
    (kk : ∀ (H1 : Heap) (locs1 : List Loc), va_P D vwCl (cellsM ct ad (wI S 0 24 v)) H1 → va_S F s.heap H1 locs1 → W p l e R s m args below meth c H1 locs1 cells slots Q (F0 m (pc + 3) ls rest)) : W p l e R s m args below meth c H locs cells slots Q (F0 m pc ls (.int v :: .ref (ad 0) :: rest)) := by
  obtain ⟨hx, hb, hr, hml, hown, htL, hlocks⟩ := C
  exact va_put (ci := 10) (C := RX10) (T := TX10) (N := 27) hx hb (fun w h => htL w (hwX10 w h)) (fun _ h => h) tyX10 tyX10_ok nmX10 hown hK hP (cD hG) hS (0) ((cC (by decide)).trans (congrArg (fun z => some (ad (0), z)) (rfl))) rfl 24 (by decide) (htL _ hlink) (fun _ h => h) rfl (ty := .int) rfl rfl rfl (Nat.le_of_ble_eq_true rfl) hdg (fun H1 locs1 hP1 _ hS1 => kk H1 locs1 (by
    rw [cS (T := wI S 0 24 v) (by decide) (by simp [shM, wI_u, wI_J, upd]) wI_o] at hP1
    exact hP1) hS1)
theorem gf_X10_25 (C : Cx p c cc meth s m args own ret nL) (hK : va_K D vwCl (tysW ct) s) (hP : va_P D vwCl (cellsM ct ad S) H) (hlink : Cond.fieldLink own index "HenselhallModel" "hull" "I" ∈ TB) (hdg : decode cc pc = .ok (.getfield index, 3))
    (kk : W p l e R s m args below meth c H locs cells slots Q (F0 m (pc + 3) ls (.int (S.1 0 25) :: rest))) : W p l e R s m args below meth c H locs cells slots Q (F0 m pc ls (.ref (ad 0) :: rest)) := by
  obtain ⟨hx, hb, hr, hml, hown, htL, hlocks⟩ := C
  exact va_get (ci := 10) (C := RX10) (T := TX10) (N := 27) hx hb (fun w h => htL w (hwX10 w h)) (fun _ h => h) hown hK hP (0) ((cC (by decide)).trans (congrArg (fun z => some (ad (0), z)) (rfl))) rfl 25 (by decide) (htL _ hlink) (fun _ h => h) rfl hdg kk
theorem pf_X10_25 (C : Cx p c cc meth s m args own ret nL) (hK : va_K D vwCl (tysW ct) s) (hP : va_P D vwCl (cellsM ct ad S) H) (hG : Gd ad 18 F) (hS : va_S F s.heap H locs) {v : Int32} (hlink : Cond.fieldLink own index "HenselhallModel" "hull" "I" ∈ TB) (hdg : decode cc pc = .ok (.putfield index, 3))
    (kk : ∀ (H1 : Heap) (locs1 : List Loc), va_P D vwCl (cellsM ct ad (wI S 0 25 v)) H1 → va_S F s.heap H1 locs1 → W p l e R s m args below meth c H1 locs1 cells slots Q (F0 m (pc + 3) ls rest)) : W p l e R s m args below meth c H locs cells slots Q (F0 m pc ls (.int v :: .ref (ad 0) :: rest)) := by
  obtain ⟨hx, hb, hr, hml, hown, htL, hlocks⟩ := C
  exact va_put (ci := 10) (C := RX10) (T := TX10) (N := 27) hx hb (fun w h => htL w (hwX10 w h)) (fun _ h => h) tyX10 tyX10_ok nmX10 hown hK hP (cD hG) hS (0) ((cC (by decide)).trans (congrArg (fun z => some (ad (0), z)) (rfl))) rfl 25 (by decide) (htL _ hlink) (fun _ h => h) rfl (ty := .int) rfl rfl rfl (Nat.le_of_ble_eq_true rfl) hdg (fun H1 locs1 hP1 _ hS1 => kk H1 locs1 (by
    rw [cS (T := wI S 0 25 v) (by decide) (by simp [shM, wI_u, wI_J, upd]) wI_o] at hP1
    exact hP1) hS1)
theorem gf_X10_26 (C : Cx p c cc meth s m args own ret nL) (hK : va_K D vwCl (tysW ct) s) (hP : va_P D vwCl (cellsM ct ad S) H) (hlink : Cond.fieldLink own index "HenselhallModel" "freshUnit" "J" ∈ TB) (hdg : decode cc pc = .ok (.getfield index, 3))
    (kk : W p l e R s m args below meth c H locs cells slots Q (F0 m (pc + 3) ls (.long (S.2 0 26) :: rest))) : W p l e R s m args below meth c H locs cells slots Q (F0 m pc ls (.ref (ad 0) :: rest)) := by
  obtain ⟨hx, hb, hr, hml, hown, htL, hlocks⟩ := C
  exact va_get (ci := 10) (C := RX10) (T := TX10) (N := 27) hx hb (fun w h => htL w (hwX10 w h)) (fun _ h => h) hown hK hP (0) ((cC (by decide)).trans (congrArg (fun z => some (ad (0), z)) (rfl))) rfl 26 (by decide) (htL _ hlink) (fun _ h => h) rfl hdg kk
theorem pf_X10_26 (C : Cx p c cc meth s m args own ret nL) (hK : va_K D vwCl (tysW ct) s) (hP : va_P D vwCl (cellsM ct ad S) H) (hG : Gd ad 18 F) (hS : va_S F s.heap H locs) {v : Int64} (hlink : Cond.fieldLink own index "HenselhallModel" "freshUnit" "J" ∈ TB) (hdg : decode cc pc = .ok (.putfield index, 3))
    (kk : ∀ (H1 : Heap) (locs1 : List Loc), va_P D vwCl (cellsM ct ad (wJ S 0 26 v)) H1 → va_S F s.heap H1 locs1 → W p l e R s m args below meth c H1 locs1 cells slots Q (F0 m (pc + 3) ls rest)) : W p l e R s m args below meth c H locs cells slots Q (F0 m pc ls (.long v :: .ref (ad 0) :: rest)) := by
  obtain ⟨hx, hb, hr, hml, hown, htL, hlocks⟩ := C
  exact va_put (ci := 10) (C := RX10) (T := TX10) (N := 27) hx hb (fun w h => htL w (hwX10 w h)) (fun _ h => h) tyX10 tyX10_ok nmX10 hown hK hP (cD hG) hS (0) ((cC (by decide)).trans (congrArg (fun z => some (ad (0), z)) (rfl))) rfl 26 (by decide) (htL _ hlink) (fun _ h => h) rfl (ty := .long) rfl rfl rfl (Nat.le_of_ble_eq_true rfl) hdg (fun H1 locs1 hP1 _ hS1 => kk H1 locs1 (by
    rw [cS (T := wJ S 0 26 v) (by decide) (by simp [shM, wJ_u, wJ_I, vp_updL]) wJ_o] at hP1
    exact hP1) hS1)
theorem al_C6 (C : Cx p c cc meth s m args own ret nL) (hK : va_K D vwCl (tysW ct) s) (hP : va_P D vwCl (cellsC ct ad S) H) {i : Int32} (hin : vp_in i 30) (hdg : decode cc pc = .ok (.laload, 1))
    (kk : W p l e R s m args below meth c H locs cells slots Q (F0 m (pc + 1) ls (.long (S.2 6 i.toNatClampNeg) :: rest))) : W p l e R s m args below meth c H locs cells slots Q (F0 m pc ls (.int i :: .ref (ad 6) :: rest)) := by
  obtain ⟨hx, hb, hr, hml, hown, htL, hlocks⟩ := C
  exact va_lald hx hb hK hP (6) 1 ((cC (by decide)).trans (congrArg (fun z => some (ad (6), z)) (rfl))) rfl hin hdg kk
theorem an_C6 (C : Cx p c cc meth s m args own ret nL) (hK : va_K D vwCl (tysW ct) s) (hP : va_P D vwCl (cellsC ct ad S) H) (hdg : decode cc pc = .ok (.arraylength, 1))
    (kk : W p l e R s m args below meth c H locs cells slots Q (F0 m (pc + 1) ls (.int 30 :: rest))) : W p l e R s m args below meth c H locs cells slots Q (F0 m pc ls (.ref (ad 6) :: rest)) := by
  obtain ⟨hx, hb, hr, hml, hown, htL, hlocks⟩ := C
  exact va_alen hx hb hK hP (6) 1 ((cC (by decide)).trans (congrArg (fun z => some (ad (6), z)) (rfl))) rfl rfl hdg kk
theorem as_C6 (C : Cx p c cc meth s m args own ret nL) (hK : va_K D vwCl (tysW ct) s) (hP : va_P D vwCl (cellsC ct ad S) H) (hG : Gd ad 70 F) (hS : va_S F s.heap H locs) {i : Int32} {x : Int64} (hin : vp_in i 30) (hdg : decode cc pc = .ok (.lastore, 1))
    (kk : ∀ (H1 : Heap) (locs1 : List Loc), va_P D vwCl (cellsC ct ad (wJ S 6 i.toNatClampNeg x)) H1 → va_S F s.heap H1 locs1 → W p l e R s m args below meth c H1 locs1 cells slots Q (F0 m (pc + 1) ls rest)) : W p l e R s m args below meth c H locs cells slots Q (F0 m pc ls (.long x :: .int i :: .ref (ad 6) :: rest)) := by
  obtain ⟨hx, hb, hr, hml, hown, htL, hlocks⟩ := C
  exact va_last hx hb hK hP (cD hG) hS (6) 1 ((cC (by decide)).trans (congrArg (fun z => some (ad (6), z)) (rfl))) rfl hin hdg (fun H1 locs1 hP1 _ hS1 => kk H1 locs1 (by
    rw [cS (T := wJ S 6 i.toNatClampNeg x) (by decide) (by simp [shC, wJ_u]) wJ_o] at hP1
    exact hP1) hS1)
theorem al_C9 (C : Cx p c cc meth s m args own ret nL) (hK : va_K D vwCl (tysW ct) s) (hP : va_P D vwCl (cellsC ct ad S) H) {i : Int32} (hin : vp_in i 12) (hdg : decode cc pc = .ok (.iaload, 1))
    (kk : W p l e R s m args below meth c H locs cells slots Q (F0 m (pc + 1) ls (.int (S.1 9 i.toNatClampNeg) :: rest))) : W p l e R s m args below meth c H locs cells slots Q (F0 m pc ls (.int i :: .ref (ad 9) :: rest)) := by
  obtain ⟨hx, hb, hr, hml, hown, htL, hlocks⟩ := C
  exact va_iald hx hb hK hP (9) 0 ((cC (by decide)).trans (congrArg (fun z => some (ad (9), z)) (rfl))) rfl hin hdg kk
theorem an_C9 (C : Cx p c cc meth s m args own ret nL) (hK : va_K D vwCl (tysW ct) s) (hP : va_P D vwCl (cellsC ct ad S) H) (hdg : decode cc pc = .ok (.arraylength, 1))
    (kk : W p l e R s m args below meth c H locs cells slots Q (F0 m (pc + 1) ls (.int 12 :: rest))) : W p l e R s m args below meth c H locs cells slots Q (F0 m pc ls (.ref (ad 9) :: rest)) := by
  obtain ⟨hx, hb, hr, hml, hown, htL, hlocks⟩ := C
  exact va_alen hx hb hK hP (9) 0 ((cC (by decide)).trans (congrArg (fun z => some (ad (9), z)) (rfl))) rfl rfl hdg kk
theorem as_C9 (C : Cx p c cc meth s m args own ret nL) (hK : va_K D vwCl (tysW ct) s) (hP : va_P D vwCl (cellsC ct ad S) H) (hG : Gd ad 70 F) (hS : va_S F s.heap H locs) {i : Int32} {x : Int32} (hin : vp_in i 12) (hdg : decode cc pc = .ok (.iastore, 1))
    (kk : ∀ (H1 : Heap) (locs1 : List Loc), va_P D vwCl (cellsC ct ad (wI S 9 i.toNatClampNeg x)) H1 → va_S F s.heap H1 locs1 → W p l e R s m args below meth c H1 locs1 cells slots Q (F0 m (pc + 1) ls rest)) : W p l e R s m args below meth c H locs cells slots Q (F0 m pc ls (.int x :: .int i :: .ref (ad 9) :: rest)) := by
  obtain ⟨hx, hb, hr, hml, hown, htL, hlocks⟩ := C
  exact va_iast hx hb hK hP (cD hG) hS (9) 0 ((cC (by decide)).trans (congrArg (fun z => some (ad (9), z)) (rfl))) rfl hin hdg (fun H1 locs1 hP1 _ hS1 => kk H1 locs1 (by
    rw [cS (T := wI S 9 i.toNatClampNeg x) (by decide) (by simp [shC, wI_u]) wI_o] at hP1
    exact hP1) hS1)
theorem al_C10 (C : Cx p c cc meth s m args own ret nL) (hK : va_K D vwCl (tysW ct) s) (hP : va_P D vwCl (cellsC ct ad S) H) {i : Int32} (hin : vp_in i 16) (hdg : decode cc pc = .ok (.iaload, 1))
    (kk : W p l e R s m args below meth c H locs cells slots Q (F0 m (pc + 1) ls (.int (S.1 10 i.toNatClampNeg) :: rest))) : W p l e R s m args below meth c H locs cells slots Q (F0 m pc ls (.int i :: .ref (ad 10) :: rest)) := by
  obtain ⟨hx, hb, hr, hml, hown, htL, hlocks⟩ := C
  exact va_iald hx hb hK hP (10) 0 ((cC (by decide)).trans (congrArg (fun z => some (ad (10), z)) (rfl))) rfl hin hdg kk
theorem an_C10 (C : Cx p c cc meth s m args own ret nL) (hK : va_K D vwCl (tysW ct) s) (hP : va_P D vwCl (cellsC ct ad S) H) (hdg : decode cc pc = .ok (.arraylength, 1))
    (kk : W p l e R s m args below meth c H locs cells slots Q (F0 m (pc + 1) ls (.int 16 :: rest))) : W p l e R s m args below meth c H locs cells slots Q (F0 m pc ls (.ref (ad 10) :: rest)) := by
  obtain ⟨hx, hb, hr, hml, hown, htL, hlocks⟩ := C
  exact va_alen hx hb hK hP (10) 0 ((cC (by decide)).trans (congrArg (fun z => some (ad (10), z)) (rfl))) rfl rfl hdg kk
theorem as_C10 (C : Cx p c cc meth s m args own ret nL) (hK : va_K D vwCl (tysW ct) s) (hP : va_P D vwCl (cellsC ct ad S) H) (hG : Gd ad 70 F) (hS : va_S F s.heap H locs) {i : Int32} {x : Int32} (hin : vp_in i 16) (hdg : decode cc pc = .ok (.iastore, 1))
    (kk : ∀ (H1 : Heap) (locs1 : List Loc), va_P D vwCl (cellsC ct ad (wI S 10 i.toNatClampNeg x)) H1 → va_S F s.heap H1 locs1 → W p l e R s m args below meth c H1 locs1 cells slots Q (F0 m (pc + 1) ls rest)) : W p l e R s m args below meth c H locs cells slots Q (F0 m pc ls (.int x :: .int i :: .ref (ad 10) :: rest)) := by
  obtain ⟨hx, hb, hr, hml, hown, htL, hlocks⟩ := C
  exact va_iast hx hb hK hP (cD hG) hS (10) 0 ((cC (by decide)).trans (congrArg (fun z => some (ad (10), z)) (rfl))) rfl hin hdg (fun H1 locs1 hP1 _ hS1 => kk H1 locs1 (by
    rw [cS (T := wI S 10 i.toNatClampNeg x) (by decide) (by simp [shC, wI_u]) wI_o] at hP1
    exact hP1) hS1)
theorem al_C11 (C : Cx p c cc meth s m args own ret nL) (hK : va_K D vwCl (tysW ct) s) (hP : va_P D vwCl (cellsC ct ad S) H) {i : Int32} (hin : vp_in i 256) (hdg : decode cc pc = .ok (.laload, 1))
    (kk : W p l e R s m args below meth c H locs cells slots Q (F0 m (pc + 1) ls (.long (S.2 11 i.toNatClampNeg) :: rest))) : W p l e R s m args below meth c H locs cells slots Q (F0 m pc ls (.int i :: .ref (ad 11) :: rest)) := by
  obtain ⟨hx, hb, hr, hml, hown, htL, hlocks⟩ := C
  exact va_lald hx hb hK hP (11) 1 ((cC (by decide)).trans (congrArg (fun z => some (ad (11), z)) (rfl))) rfl hin hdg kk
theorem an_C11 (C : Cx p c cc meth s m args own ret nL) (hK : va_K D vwCl (tysW ct) s) (hP : va_P D vwCl (cellsC ct ad S) H) (hdg : decode cc pc = .ok (.arraylength, 1))
    (kk : W p l e R s m args below meth c H locs cells slots Q (F0 m (pc + 1) ls (.int 256 :: rest))) : W p l e R s m args below meth c H locs cells slots Q (F0 m pc ls (.ref (ad 11) :: rest)) := by
  obtain ⟨hx, hb, hr, hml, hown, htL, hlocks⟩ := C
  exact va_alen hx hb hK hP (11) 1 ((cC (by decide)).trans (congrArg (fun z => some (ad (11), z)) (rfl))) rfl rfl hdg kk
theorem as_C11 (C : Cx p c cc meth s m args own ret nL) (hK : va_K D vwCl (tysW ct) s) (hP : va_P D vwCl (cellsC ct ad S) H) (hG : Gd ad 70 F) (hS : va_S F s.heap H locs) {i : Int32} {x : Int64} (hin : vp_in i 256) (hdg : decode cc pc = .ok (.lastore, 1))
    (kk : ∀ (H1 : Heap) (locs1 : List Loc), va_P D vwCl (cellsC ct ad (wJ S 11 i.toNatClampNeg x)) H1 → va_S F s.heap H1 locs1 → W p l e R s m args below meth c H1 locs1 cells slots Q (F0 m (pc + 1) ls rest)) : W p l e R s m args below meth c H locs cells slots Q (F0 m pc ls (.long x :: .int i :: .ref (ad 11) :: rest)) := by
  obtain ⟨hx, hb, hr, hml, hown, htL, hlocks⟩ := C
  exact va_last hx hb hK hP (cD hG) hS (11) 1 ((cC (by decide)).trans (congrArg (fun z => some (ad (11), z)) (rfl))) rfl hin hdg (fun H1 locs1 hP1 _ hS1 => kk H1 locs1 (by
    rw [cS (T := wJ S 11 i.toNatClampNeg x) (by decide) (by simp [shC, wJ_u]) wJ_o] at hP1
    exact hP1) hS1)
theorem al_coef (C : Cx p c cc meth s m args own ret nL) (hK : va_K D vwCl (tysW ct) s) (hP : va_P D vwCl (cellsC ct ad S) H) (hk : k < 8) {i : Int32} (hin : vp_in i 7) (hdg : decode cc pc = .ok (.iaload, 1))
    (kk : W p l e R s m args below meth c H locs cells slots Q (F0 m (pc + 1) ls (.int (S.1 (62 + k) i.toNatClampNeg) :: rest))) : W p l e R s m args below meth c H locs cells slots Q (F0 m pc ls (.int i :: .ref (ad (62 + k)) :: rest)) := by
  obtain ⟨hx, hb, hr, hml, hown, htL, hlocks⟩ := C
  exact va_iald hx hb hK hP (62 + k) 0 ((cC (by omega)).trans (congrArg (fun z => some (ad (62 + k), z)) (shC_coef))) rfl hin hdg kk
theorem an_coef (C : Cx p c cc meth s m args own ret nL) (hK : va_K D vwCl (tysW ct) s) (hP : va_P D vwCl (cellsC ct ad S) H) (hk : k < 8) (hdg : decode cc pc = .ok (.arraylength, 1))
    (kk : W p l e R s m args below meth c H locs cells slots Q (F0 m (pc + 1) ls (.int 7 :: rest))) : W p l e R s m args below meth c H locs cells slots Q (F0 m pc ls (.ref (ad (62 + k)) :: rest)) := by
  obtain ⟨hx, hb, hr, hml, hown, htL, hlocks⟩ := C
  exact va_alen hx hb hK hP (62 + k) 0 ((cC (by omega)).trans (congrArg (fun z => some (ad (62 + k), z)) (shC_coef))) rfl rfl hdg kk
theorem as_coef (C : Cx p c cc meth s m args own ret nL) (hK : va_K D vwCl (tysW ct) s) (hP : va_P D vwCl (cellsC ct ad S) H) (hk : k < 8) (hG : Gd ad 70 F) (hS : va_S F s.heap H locs) {i : Int32} {x : Int32} (hin : vp_in i 7) (hdg : decode cc pc = .ok (.iastore, 1))
    (kk : ∀ (H1 : Heap) (locs1 : List Loc), va_P D vwCl (cellsC ct ad (wI S (62 + k) i.toNatClampNeg x)) H1 → va_S F s.heap H1 locs1 → W p l e R s m args below meth c H1 locs1 cells slots Q (F0 m (pc + 1) ls rest)) : W p l e R s m args below meth c H locs cells slots Q (F0 m pc ls (.int x :: .int i :: .ref (ad (62 + k)) :: rest)) := by
  obtain ⟨hx, hb, hr, hml, hown, htL, hlocks⟩ := C
  exact va_iast hx hb hK hP (cD hG) hS (62 + k) 0 ((cC (by omega)).trans (congrArg (fun z => some (ad (62 + k), z)) (shC_coef))) rfl hin hdg (fun H1 locs1 hP1 _ hS1 => kk H1 locs1 (by
    rw [cS (T := wI S (62 + k) i.toNatClampNeg x) (by omega) (by rw [shC_coef, wI_u]) wI_o] at hP1
    exact hP1) hS1)
theorem al_M1 (C : Cx p c cc meth s m args own ret nL) (hK : va_K D vwCl (tysW ct) s) (hP : va_P D vwCl (cellsM ct ad S) H) {i : Int32} (hin : vp_in i 40) (hdg : decode cc pc = .ok (.iaload, 1))
    (kk : W p l e R s m args below meth c H locs cells slots Q (F0 m (pc + 1) ls (.int (S.1 1 i.toNatClampNeg) :: rest))) : W p l e R s m args below meth c H locs cells slots Q (F0 m pc ls (.int i :: .ref (ad 1) :: rest)) := by
  obtain ⟨hx, hb, hr, hml, hown, htL, hlocks⟩ := C
  exact va_iald hx hb hK hP (1) 0 ((cC (by decide)).trans (congrArg (fun z => some (ad (1), z)) (rfl))) rfl hin hdg kk
theorem an_M1 (C : Cx p c cc meth s m args own ret nL) (hK : va_K D vwCl (tysW ct) s) (hP : va_P D vwCl (cellsM ct ad S) H) (hdg : decode cc pc = .ok (.arraylength, 1))
    (kk : W p l e R s m args below meth c H locs cells slots Q (F0 m (pc + 1) ls (.int 40 :: rest))) : W p l e R s m args below meth c H locs cells slots Q (F0 m pc ls (.ref (ad 1) :: rest)) := by
  obtain ⟨hx, hb, hr, hml, hown, htL, hlocks⟩ := C
  exact va_alen hx hb hK hP (1) 0 ((cC (by decide)).trans (congrArg (fun z => some (ad (1), z)) (rfl))) rfl rfl hdg kk
theorem as_M1 (C : Cx p c cc meth s m args own ret nL) (hK : va_K D vwCl (tysW ct) s) (hP : va_P D vwCl (cellsM ct ad S) H) (hG : Gd ad 18 F) (hS : va_S F s.heap H locs) {i : Int32} {x : Int32} (hin : vp_in i 40) (hdg : decode cc pc = .ok (.iastore, 1))
    (kk : ∀ (H1 : Heap) (locs1 : List Loc), va_P D vwCl (cellsM ct ad (wI S 1 i.toNatClampNeg x)) H1 → va_S F s.heap H1 locs1 → W p l e R s m args below meth c H1 locs1 cells slots Q (F0 m (pc + 1) ls rest)) : W p l e R s m args below meth c H locs cells slots Q (F0 m pc ls (.int x :: .int i :: .ref (ad 1) :: rest)) := by
  obtain ⟨hx, hb, hr, hml, hown, htL, hlocks⟩ := C
  exact va_iast hx hb hK hP (cD hG) hS (1) 0 ((cC (by decide)).trans (congrArg (fun z => some (ad (1), z)) (rfl))) rfl hin hdg (fun H1 locs1 hP1 _ hS1 => kk H1 locs1 (by
    rw [cS (T := wI S 1 i.toNatClampNeg x) (by decide) (by simp [shM, wI_u]) wI_o] at hP1
    exact hP1) hS1)
theorem al_M2 (C : Cx p c cc meth s m args own ret nL) (hK : va_K D vwCl (tysW ct) s) (hP : va_P D vwCl (cellsM ct ad S) H) {i : Int32} (hin : vp_in i 40) (hdg : decode cc pc = .ok (.iaload, 1))
    (kk : W p l e R s m args below meth c H locs cells slots Q (F0 m (pc + 1) ls (.int (S.1 2 i.toNatClampNeg) :: rest))) : W p l e R s m args below meth c H locs cells slots Q (F0 m pc ls (.int i :: .ref (ad 2) :: rest)) := by
  obtain ⟨hx, hb, hr, hml, hown, htL, hlocks⟩ := C
  exact va_iald hx hb hK hP (2) 0 ((cC (by decide)).trans (congrArg (fun z => some (ad (2), z)) (rfl))) rfl hin hdg kk
theorem an_M2 (C : Cx p c cc meth s m args own ret nL) (hK : va_K D vwCl (tysW ct) s) (hP : va_P D vwCl (cellsM ct ad S) H) (hdg : decode cc pc = .ok (.arraylength, 1))
    (kk : W p l e R s m args below meth c H locs cells slots Q (F0 m (pc + 1) ls (.int 40 :: rest))) : W p l e R s m args below meth c H locs cells slots Q (F0 m pc ls (.ref (ad 2) :: rest)) := by
  obtain ⟨hx, hb, hr, hml, hown, htL, hlocks⟩ := C
  exact va_alen hx hb hK hP (2) 0 ((cC (by decide)).trans (congrArg (fun z => some (ad (2), z)) (rfl))) rfl rfl hdg kk
theorem as_M2 (C : Cx p c cc meth s m args own ret nL) (hK : va_K D vwCl (tysW ct) s) (hP : va_P D vwCl (cellsM ct ad S) H) (hG : Gd ad 18 F) (hS : va_S F s.heap H locs) {i : Int32} {x : Int32} (hin : vp_in i 40) (hdg : decode cc pc = .ok (.iastore, 1))
    (kk : ∀ (H1 : Heap) (locs1 : List Loc), va_P D vwCl (cellsM ct ad (wI S 2 i.toNatClampNeg x)) H1 → va_S F s.heap H1 locs1 → W p l e R s m args below meth c H1 locs1 cells slots Q (F0 m (pc + 1) ls rest)) : W p l e R s m args below meth c H locs cells slots Q (F0 m pc ls (.int x :: .int i :: .ref (ad 2) :: rest)) := by
  obtain ⟨hx, hb, hr, hml, hown, htL, hlocks⟩ := C
  exact va_iast hx hb hK hP (cD hG) hS (2) 0 ((cC (by decide)).trans (congrArg (fun z => some (ad (2), z)) (rfl))) rfl hin hdg (fun H1 locs1 hP1 _ hS1 => kk H1 locs1 (by
    rw [cS (T := wI S 2 i.toNatClampNeg x) (by decide) (by simp [shM, wI_u]) wI_o] at hP1
    exact hP1) hS1)
theorem al_M3 (C : Cx p c cc meth s m args own ret nL) (hK : va_K D vwCl (tysW ct) s) (hP : va_P D vwCl (cellsM ct ad S) H) {i : Int32} (hin : vp_in i 40) (hdg : decode cc pc = .ok (.iaload, 1))
    (kk : W p l e R s m args below meth c H locs cells slots Q (F0 m (pc + 1) ls (.int (S.1 3 i.toNatClampNeg) :: rest))) : W p l e R s m args below meth c H locs cells slots Q (F0 m pc ls (.int i :: .ref (ad 3) :: rest)) := by
  obtain ⟨hx, hb, hr, hml, hown, htL, hlocks⟩ := C
  exact va_iald hx hb hK hP (3) 0 ((cC (by decide)).trans (congrArg (fun z => some (ad (3), z)) (rfl))) rfl hin hdg kk
theorem an_M3 (C : Cx p c cc meth s m args own ret nL) (hK : va_K D vwCl (tysW ct) s) (hP : va_P D vwCl (cellsM ct ad S) H) (hdg : decode cc pc = .ok (.arraylength, 1))
    (kk : W p l e R s m args below meth c H locs cells slots Q (F0 m (pc + 1) ls (.int 40 :: rest))) : W p l e R s m args below meth c H locs cells slots Q (F0 m pc ls (.ref (ad 3) :: rest)) := by
  obtain ⟨hx, hb, hr, hml, hown, htL, hlocks⟩ := C
  exact va_alen hx hb hK hP (3) 0 ((cC (by decide)).trans (congrArg (fun z => some (ad (3), z)) (rfl))) rfl rfl hdg kk
theorem as_M3 (C : Cx p c cc meth s m args own ret nL) (hK : va_K D vwCl (tysW ct) s) (hP : va_P D vwCl (cellsM ct ad S) H) (hG : Gd ad 18 F) (hS : va_S F s.heap H locs) {i : Int32} {x : Int32} (hin : vp_in i 40) (hdg : decode cc pc = .ok (.iastore, 1))
    (kk : ∀ (H1 : Heap) (locs1 : List Loc), va_P D vwCl (cellsM ct ad (wI S 3 i.toNatClampNeg x)) H1 → va_S F s.heap H1 locs1 → W p l e R s m args below meth c H1 locs1 cells slots Q (F0 m (pc + 1) ls rest)) : W p l e R s m args below meth c H locs cells slots Q (F0 m pc ls (.int x :: .int i :: .ref (ad 3) :: rest)) := by
  obtain ⟨hx, hb, hr, hml, hown, htL, hlocks⟩ := C
  exact va_iast hx hb hK hP (cD hG) hS (3) 0 ((cC (by decide)).trans (congrArg (fun z => some (ad (3), z)) (rfl))) rfl hin hdg (fun H1 locs1 hP1 _ hS1 => kk H1 locs1 (by
    rw [cS (T := wI S 3 i.toNatClampNeg x) (by decide) (by simp [shM, wI_u]) wI_o] at hP1
    exact hP1) hS1)
theorem al_M4 (C : Cx p c cc meth s m args own ret nL) (hK : va_K D vwCl (tysW ct) s) (hP : va_P D vwCl (cellsM ct ad S) H) {i : Int32} (hin : vp_in i 40) (hdg : decode cc pc = .ok (.iaload, 1))
    (kk : W p l e R s m args below meth c H locs cells slots Q (F0 m (pc + 1) ls (.int (S.1 4 i.toNatClampNeg) :: rest))) : W p l e R s m args below meth c H locs cells slots Q (F0 m pc ls (.int i :: .ref (ad 4) :: rest)) := by
  obtain ⟨hx, hb, hr, hml, hown, htL, hlocks⟩ := C
  exact va_iald hx hb hK hP (4) 0 ((cC (by decide)).trans (congrArg (fun z => some (ad (4), z)) (rfl))) rfl hin hdg kk
theorem an_M4 (C : Cx p c cc meth s m args own ret nL) (hK : va_K D vwCl (tysW ct) s) (hP : va_P D vwCl (cellsM ct ad S) H) (hdg : decode cc pc = .ok (.arraylength, 1))
    (kk : W p l e R s m args below meth c H locs cells slots Q (F0 m (pc + 1) ls (.int 40 :: rest))) : W p l e R s m args below meth c H locs cells slots Q (F0 m pc ls (.ref (ad 4) :: rest)) := by
  obtain ⟨hx, hb, hr, hml, hown, htL, hlocks⟩ := C
  exact va_alen hx hb hK hP (4) 0 ((cC (by decide)).trans (congrArg (fun z => some (ad (4), z)) (rfl))) rfl rfl hdg kk
theorem as_M4 (C : Cx p c cc meth s m args own ret nL) (hK : va_K D vwCl (tysW ct) s) (hP : va_P D vwCl (cellsM ct ad S) H) (hG : Gd ad 18 F) (hS : va_S F s.heap H locs) {i : Int32} {x : Int32} (hin : vp_in i 40) (hdg : decode cc pc = .ok (.iastore, 1))
    (kk : ∀ (H1 : Heap) (locs1 : List Loc), va_P D vwCl (cellsM ct ad (wI S 4 i.toNatClampNeg x)) H1 → va_S F s.heap H1 locs1 → W p l e R s m args below meth c H1 locs1 cells slots Q (F0 m (pc + 1) ls rest)) : W p l e R s m args below meth c H locs cells slots Q (F0 m pc ls (.int x :: .int i :: .ref (ad 4) :: rest)) := by
  obtain ⟨hx, hb, hr, hml, hown, htL, hlocks⟩ := C
  exact va_iast hx hb hK hP (cD hG) hS (4) 0 ((cC (by decide)).trans (congrArg (fun z => some (ad (4), z)) (rfl))) rfl hin hdg (fun H1 locs1 hP1 _ hS1 => kk H1 locs1 (by
    rw [cS (T := wI S 4 i.toNatClampNeg x) (by decide) (by simp [shM, wI_u]) wI_o] at hP1
    exact hP1) hS1)
theorem al_M5 (C : Cx p c cc meth s m args own ret nL) (hK : va_K D vwCl (tysW ct) s) (hP : va_P D vwCl (cellsM ct ad S) H) {i : Int32} (hin : vp_in i 40) (hdg : decode cc pc = .ok (.iaload, 1))
    (kk : W p l e R s m args below meth c H locs cells slots Q (F0 m (pc + 1) ls (.int (S.1 5 i.toNatClampNeg) :: rest))) : W p l e R s m args below meth c H locs cells slots Q (F0 m pc ls (.int i :: .ref (ad 5) :: rest)) := by
  obtain ⟨hx, hb, hr, hml, hown, htL, hlocks⟩ := C
  exact va_iald hx hb hK hP (5) 0 ((cC (by decide)).trans (congrArg (fun z => some (ad (5), z)) (rfl))) rfl hin hdg kk
theorem an_M5 (C : Cx p c cc meth s m args own ret nL) (hK : va_K D vwCl (tysW ct) s) (hP : va_P D vwCl (cellsM ct ad S) H) (hdg : decode cc pc = .ok (.arraylength, 1))
    (kk : W p l e R s m args below meth c H locs cells slots Q (F0 m (pc + 1) ls (.int 40 :: rest))) : W p l e R s m args below meth c H locs cells slots Q (F0 m pc ls (.ref (ad 5) :: rest)) := by
  obtain ⟨hx, hb, hr, hml, hown, htL, hlocks⟩ := C
  exact va_alen hx hb hK hP (5) 0 ((cC (by decide)).trans (congrArg (fun z => some (ad (5), z)) (rfl))) rfl rfl hdg kk
theorem as_M5 (C : Cx p c cc meth s m args own ret nL) (hK : va_K D vwCl (tysW ct) s) (hP : va_P D vwCl (cellsM ct ad S) H) (hG : Gd ad 18 F) (hS : va_S F s.heap H locs) {i : Int32} {x : Int32} (hin : vp_in i 40) (hdg : decode cc pc = .ok (.iastore, 1))
    (kk : ∀ (H1 : Heap) (locs1 : List Loc), va_P D vwCl (cellsM ct ad (wI S 5 i.toNatClampNeg x)) H1 → va_S F s.heap H1 locs1 → W p l e R s m args below meth c H1 locs1 cells slots Q (F0 m (pc + 1) ls rest)) : W p l e R s m args below meth c H locs cells slots Q (F0 m pc ls (.int x :: .int i :: .ref (ad 5) :: rest)) := by
  obtain ⟨hx, hb, hr, hml, hown, htL, hlocks⟩ := C
  exact va_iast hx hb hK hP (cD hG) hS (5) 0 ((cC (by decide)).trans (congrArg (fun z => some (ad (5), z)) (rfl))) rfl hin hdg (fun H1 locs1 hP1 _ hS1 => kk H1 locs1 (by
    rw [cS (T := wI S 5 i.toNatClampNeg x) (by decide) (by simp [shM, wI_u]) wI_o] at hP1
    exact hP1) hS1)
theorem al_M6 (C : Cx p c cc meth s m args own ret nL) (hK : va_K D vwCl (tysW ct) s) (hP : va_P D vwCl (cellsM ct ad S) H) {i : Int32} (hin : vp_in i 40) (hdg : decode cc pc = .ok (.iaload, 1))
    (kk : W p l e R s m args below meth c H locs cells slots Q (F0 m (pc + 1) ls (.int (S.1 6 i.toNatClampNeg) :: rest))) : W p l e R s m args below meth c H locs cells slots Q (F0 m pc ls (.int i :: .ref (ad 6) :: rest)) := by
  obtain ⟨hx, hb, hr, hml, hown, htL, hlocks⟩ := C
  exact va_iald hx hb hK hP (6) 0 ((cC (by decide)).trans (congrArg (fun z => some (ad (6), z)) (rfl))) rfl hin hdg kk
theorem an_M6 (C : Cx p c cc meth s m args own ret nL) (hK : va_K D vwCl (tysW ct) s) (hP : va_P D vwCl (cellsM ct ad S) H) (hdg : decode cc pc = .ok (.arraylength, 1))
    (kk : W p l e R s m args below meth c H locs cells slots Q (F0 m (pc + 1) ls (.int 40 :: rest))) : W p l e R s m args below meth c H locs cells slots Q (F0 m pc ls (.ref (ad 6) :: rest)) := by
  obtain ⟨hx, hb, hr, hml, hown, htL, hlocks⟩ := C
  exact va_alen hx hb hK hP (6) 0 ((cC (by decide)).trans (congrArg (fun z => some (ad (6), z)) (rfl))) rfl rfl hdg kk
theorem as_M6 (C : Cx p c cc meth s m args own ret nL) (hK : va_K D vwCl (tysW ct) s) (hP : va_P D vwCl (cellsM ct ad S) H) (hG : Gd ad 18 F) (hS : va_S F s.heap H locs) {i : Int32} {x : Int32} (hin : vp_in i 40) (hdg : decode cc pc = .ok (.iastore, 1))
    (kk : ∀ (H1 : Heap) (locs1 : List Loc), va_P D vwCl (cellsM ct ad (wI S 6 i.toNatClampNeg x)) H1 → va_S F s.heap H1 locs1 → W p l e R s m args below meth c H1 locs1 cells slots Q (F0 m (pc + 1) ls rest)) : W p l e R s m args below meth c H locs cells slots Q (F0 m pc ls (.int x :: .int i :: .ref (ad 6) :: rest)) := by
  obtain ⟨hx, hb, hr, hml, hown, htL, hlocks⟩ := C
  exact va_iast hx hb hK hP (cD hG) hS (6) 0 ((cC (by decide)).trans (congrArg (fun z => some (ad (6), z)) (rfl))) rfl hin hdg (fun H1 locs1 hP1 _ hS1 => kk H1 locs1 (by
    rw [cS (T := wI S 6 i.toNatClampNeg x) (by decide) (by simp [shM, wI_u]) wI_o] at hP1
    exact hP1) hS1)
theorem al_M7 (C : Cx p c cc meth s m args own ret nL) (hK : va_K D vwCl (tysW ct) s) (hP : va_P D vwCl (cellsM ct ad S) H) {i : Int32} (hin : vp_in i 40) (hdg : decode cc pc = .ok (.iaload, 1))
    (kk : W p l e R s m args below meth c H locs cells slots Q (F0 m (pc + 1) ls (.int (S.1 7 i.toNatClampNeg) :: rest))) : W p l e R s m args below meth c H locs cells slots Q (F0 m pc ls (.int i :: .ref (ad 7) :: rest)) := by
  obtain ⟨hx, hb, hr, hml, hown, htL, hlocks⟩ := C
  exact va_iald hx hb hK hP (7) 0 ((cC (by decide)).trans (congrArg (fun z => some (ad (7), z)) (rfl))) rfl hin hdg kk
theorem an_M7 (C : Cx p c cc meth s m args own ret nL) (hK : va_K D vwCl (tysW ct) s) (hP : va_P D vwCl (cellsM ct ad S) H) (hdg : decode cc pc = .ok (.arraylength, 1))
    (kk : W p l e R s m args below meth c H locs cells slots Q (F0 m (pc + 1) ls (.int 40 :: rest))) : W p l e R s m args below meth c H locs cells slots Q (F0 m pc ls (.ref (ad 7) :: rest)) := by
  obtain ⟨hx, hb, hr, hml, hown, htL, hlocks⟩ := C
  exact va_alen hx hb hK hP (7) 0 ((cC (by decide)).trans (congrArg (fun z => some (ad (7), z)) (rfl))) rfl rfl hdg kk
theorem as_M7 (C : Cx p c cc meth s m args own ret nL) (hK : va_K D vwCl (tysW ct) s) (hP : va_P D vwCl (cellsM ct ad S) H) (hG : Gd ad 18 F) (hS : va_S F s.heap H locs) {i : Int32} {x : Int32} (hin : vp_in i 40) (hdg : decode cc pc = .ok (.iastore, 1))
    (kk : ∀ (H1 : Heap) (locs1 : List Loc), va_P D vwCl (cellsM ct ad (wI S 7 i.toNatClampNeg x)) H1 → va_S F s.heap H1 locs1 → W p l e R s m args below meth c H1 locs1 cells slots Q (F0 m (pc + 1) ls rest)) : W p l e R s m args below meth c H locs cells slots Q (F0 m pc ls (.int x :: .int i :: .ref (ad 7) :: rest)) := by
  obtain ⟨hx, hb, hr, hml, hown, htL, hlocks⟩ := C
  exact va_iast hx hb hK hP (cD hG) hS (7) 0 ((cC (by decide)).trans (congrArg (fun z => some (ad (7), z)) (rfl))) rfl hin hdg (fun H1 locs1 hP1 _ hS1 => kk H1 locs1 (by
    rw [cS (T := wI S 7 i.toNatClampNeg x) (by decide) (by simp [shM, wI_u]) wI_o] at hP1
    exact hP1) hS1)
theorem al_M8 (C : Cx p c cc meth s m args own ret nL) (hK : va_K D vwCl (tysW ct) s) (hP : va_P D vwCl (cellsM ct ad S) H) {i : Int32} (hin : vp_in i 40) (hdg : decode cc pc = .ok (.laload, 1))
    (kk : W p l e R s m args below meth c H locs cells slots Q (F0 m (pc + 1) ls (.long (S.2 8 i.toNatClampNeg) :: rest))) : W p l e R s m args below meth c H locs cells slots Q (F0 m pc ls (.int i :: .ref (ad 8) :: rest)) := by
  obtain ⟨hx, hb, hr, hml, hown, htL, hlocks⟩ := C
  exact va_lald hx hb hK hP (8) 1 ((cC (by decide)).trans (congrArg (fun z => some (ad (8), z)) (rfl))) rfl hin hdg kk
theorem an_M8 (C : Cx p c cc meth s m args own ret nL) (hK : va_K D vwCl (tysW ct) s) (hP : va_P D vwCl (cellsM ct ad S) H) (hdg : decode cc pc = .ok (.arraylength, 1))
    (kk : W p l e R s m args below meth c H locs cells slots Q (F0 m (pc + 1) ls (.int 40 :: rest))) : W p l e R s m args below meth c H locs cells slots Q (F0 m pc ls (.ref (ad 8) :: rest)) := by
  obtain ⟨hx, hb, hr, hml, hown, htL, hlocks⟩ := C
  exact va_alen hx hb hK hP (8) 1 ((cC (by decide)).trans (congrArg (fun z => some (ad (8), z)) (rfl))) rfl rfl hdg kk
theorem as_M8 (C : Cx p c cc meth s m args own ret nL) (hK : va_K D vwCl (tysW ct) s) (hP : va_P D vwCl (cellsM ct ad S) H) (hG : Gd ad 18 F) (hS : va_S F s.heap H locs) {i : Int32} {x : Int64} (hin : vp_in i 40) (hdg : decode cc pc = .ok (.lastore, 1))
    (kk : ∀ (H1 : Heap) (locs1 : List Loc), va_P D vwCl (cellsM ct ad (wJ S 8 i.toNatClampNeg x)) H1 → va_S F s.heap H1 locs1 → W p l e R s m args below meth c H1 locs1 cells slots Q (F0 m (pc + 1) ls rest)) : W p l e R s m args below meth c H locs cells slots Q (F0 m pc ls (.long x :: .int i :: .ref (ad 8) :: rest)) := by
  obtain ⟨hx, hb, hr, hml, hown, htL, hlocks⟩ := C
  exact va_last hx hb hK hP (cD hG) hS (8) 1 ((cC (by decide)).trans (congrArg (fun z => some (ad (8), z)) (rfl))) rfl hin hdg (fun H1 locs1 hP1 _ hS1 => kk H1 locs1 (by
    rw [cS (T := wJ S 8 i.toNatClampNeg x) (by decide) (by simp [shM, wJ_u]) wJ_o] at hP1
    exact hP1) hS1)
theorem al_M9 (C : Cx p c cc meth s m args own ret nL) (hK : va_K D vwCl (tysW ct) s) (hP : va_P D vwCl (cellsM ct ad S) H) {i : Int32} (hin : vp_in i 40) (hdg : decode cc pc = .ok (.baload, 1))
    (kk : W p l e R s m args below meth c H locs cells slots Q (F0 m (pc + 1) ls (.int (S.1 9 i.toNatClampNeg) :: rest))) : W p l e R s m args below meth c H locs cells slots Q (F0 m pc ls (.int i :: .ref (ad 9) :: rest)) := by
  obtain ⟨hx, hb, hr, hml, hown, htL, hlocks⟩ := C
  exact va_zald hx hb hK hP (9) 2 ((cC (by decide)).trans (congrArg (fun z => some (ad (9), z)) (rfl))) rfl hin hdg kk
theorem an_M9 (C : Cx p c cc meth s m args own ret nL) (hK : va_K D vwCl (tysW ct) s) (hP : va_P D vwCl (cellsM ct ad S) H) (hdg : decode cc pc = .ok (.arraylength, 1))
    (kk : W p l e R s m args below meth c H locs cells slots Q (F0 m (pc + 1) ls (.int 40 :: rest))) : W p l e R s m args below meth c H locs cells slots Q (F0 m pc ls (.ref (ad 9) :: rest)) := by
  obtain ⟨hx, hb, hr, hml, hown, htL, hlocks⟩ := C
  exact va_alen hx hb hK hP (9) 2 ((cC (by decide)).trans (congrArg (fun z => some (ad (9), z)) (rfl))) rfl rfl hdg kk
theorem as_M9 (C : Cx p c cc meth s m args own ret nL) (hK : va_K D vwCl (tysW ct) s) (hP : va_P D vwCl (cellsM ct ad S) H) (hG : Gd ad 18 F) (hS : va_S F s.heap H locs) {i : Int32} {x : Int32} (hin : vp_in i 40) (hdg : decode cc pc = .ok (.bastore, 1))
    (kk : ∀ (H1 : Heap) (locs1 : List Loc), va_P D vwCl (cellsM ct ad (wI S 9 i.toNatClampNeg (vp_nar .boolean x))) H1 → va_S F s.heap H1 locs1 → W p l e R s m args below meth c H1 locs1 cells slots Q (F0 m (pc + 1) ls rest)) : W p l e R s m args below meth c H locs cells slots Q (F0 m pc ls (.int x :: .int i :: .ref (ad 9) :: rest)) := by
  obtain ⟨hx, hb, hr, hml, hown, htL, hlocks⟩ := C
  exact va_zast hx hb hK hP (cD hG) hS (9) 2 ((cC (by decide)).trans (congrArg (fun z => some (ad (9), z)) (rfl))) rfl hin hdg (fun H1 locs1 hP1 _ hS1 => kk H1 locs1 (by
    rw [cS (T := wI S 9 i.toNatClampNeg (vp_nar .boolean x)) (by decide) (by simp [shM, wI_u]) wI_o] at hP1
    exact hP1) hS1)
theorem al_M10 (C : Cx p c cc meth s m args own ret nL) (hK : va_K D vwCl (tysW ct) s) (hP : va_P D vwCl (cellsM ct ad S) H) {i : Int32} (hin : vp_in i 480) (hdg : decode cc pc = .ok (.iaload, 1))
    (kk : W p l e R s m args below meth c H locs cells slots Q (F0 m (pc + 1) ls (.int (S.1 10 i.toNatClampNeg) :: rest))) : W p l e R s m args below meth c H locs cells slots Q (F0 m pc ls (.int i :: .ref (ad 10) :: rest)) := by
  obtain ⟨hx, hb, hr, hml, hown, htL, hlocks⟩ := C
  exact va_iald hx hb hK hP (10) 0 ((cC (by decide)).trans (congrArg (fun z => some (ad (10), z)) (rfl))) rfl hin hdg kk
theorem an_M10 (C : Cx p c cc meth s m args own ret nL) (hK : va_K D vwCl (tysW ct) s) (hP : va_P D vwCl (cellsM ct ad S) H) (hdg : decode cc pc = .ok (.arraylength, 1))
    (kk : W p l e R s m args below meth c H locs cells slots Q (F0 m (pc + 1) ls (.int 480 :: rest))) : W p l e R s m args below meth c H locs cells slots Q (F0 m pc ls (.ref (ad 10) :: rest)) := by
  obtain ⟨hx, hb, hr, hml, hown, htL, hlocks⟩ := C
  exact va_alen hx hb hK hP (10) 0 ((cC (by decide)).trans (congrArg (fun z => some (ad (10), z)) (rfl))) rfl rfl hdg kk
theorem as_M10 (C : Cx p c cc meth s m args own ret nL) (hK : va_K D vwCl (tysW ct) s) (hP : va_P D vwCl (cellsM ct ad S) H) (hG : Gd ad 18 F) (hS : va_S F s.heap H locs) {i : Int32} {x : Int32} (hin : vp_in i 480) (hdg : decode cc pc = .ok (.iastore, 1))
    (kk : ∀ (H1 : Heap) (locs1 : List Loc), va_P D vwCl (cellsM ct ad (wI S 10 i.toNatClampNeg x)) H1 → va_S F s.heap H1 locs1 → W p l e R s m args below meth c H1 locs1 cells slots Q (F0 m (pc + 1) ls rest)) : W p l e R s m args below meth c H locs cells slots Q (F0 m pc ls (.int x :: .int i :: .ref (ad 10) :: rest)) := by
  obtain ⟨hx, hb, hr, hml, hown, htL, hlocks⟩ := C
  exact va_iast hx hb hK hP (cD hG) hS (10) 0 ((cC (by decide)).trans (congrArg (fun z => some (ad (10), z)) (rfl))) rfl hin hdg (fun H1 locs1 hP1 _ hS1 => kk H1 locs1 (by
    rw [cS (T := wI S 10 i.toNatClampNeg x) (by decide) (by simp [shM, wI_u]) wI_o] at hP1
    exact hP1) hS1)
theorem al_M11 (C : Cx p c cc meth s m args own ret nL) (hK : va_K D vwCl (tysW ct) s) (hP : va_P D vwCl (cellsM ct ad S) H) {i : Int32} (hin : vp_in i 280) (hdg : decode cc pc = .ok (.iaload, 1))
    (kk : W p l e R s m args below meth c H locs cells slots Q (F0 m (pc + 1) ls (.int (S.1 11 i.toNatClampNeg) :: rest))) : W p l e R s m args below meth c H locs cells slots Q (F0 m pc ls (.int i :: .ref (ad 11) :: rest)) := by
  obtain ⟨hx, hb, hr, hml, hown, htL, hlocks⟩ := C
  exact va_iald hx hb hK hP (11) 0 ((cC (by decide)).trans (congrArg (fun z => some (ad (11), z)) (rfl))) rfl hin hdg kk
theorem an_M11 (C : Cx p c cc meth s m args own ret nL) (hK : va_K D vwCl (tysW ct) s) (hP : va_P D vwCl (cellsM ct ad S) H) (hdg : decode cc pc = .ok (.arraylength, 1))
    (kk : W p l e R s m args below meth c H locs cells slots Q (F0 m (pc + 1) ls (.int 280 :: rest))) : W p l e R s m args below meth c H locs cells slots Q (F0 m pc ls (.ref (ad 11) :: rest)) := by
  obtain ⟨hx, hb, hr, hml, hown, htL, hlocks⟩ := C
  exact va_alen hx hb hK hP (11) 0 ((cC (by decide)).trans (congrArg (fun z => some (ad (11), z)) (rfl))) rfl rfl hdg kk
theorem as_M11 (C : Cx p c cc meth s m args own ret nL) (hK : va_K D vwCl (tysW ct) s) (hP : va_P D vwCl (cellsM ct ad S) H) (hG : Gd ad 18 F) (hS : va_S F s.heap H locs) {i : Int32} {x : Int32} (hin : vp_in i 280) (hdg : decode cc pc = .ok (.iastore, 1))
    (kk : ∀ (H1 : Heap) (locs1 : List Loc), va_P D vwCl (cellsM ct ad (wI S 11 i.toNatClampNeg x)) H1 → va_S F s.heap H1 locs1 → W p l e R s m args below meth c H1 locs1 cells slots Q (F0 m (pc + 1) ls rest)) : W p l e R s m args below meth c H locs cells slots Q (F0 m pc ls (.int x :: .int i :: .ref (ad 11) :: rest)) := by
  obtain ⟨hx, hb, hr, hml, hown, htL, hlocks⟩ := C
  exact va_iast hx hb hK hP (cD hG) hS (11) 0 ((cC (by decide)).trans (congrArg (fun z => some (ad (11), z)) (rfl))) rfl hin hdg (fun H1 locs1 hP1 _ hS1 => kk H1 locs1 (by
    rw [cS (T := wI S 11 i.toNatClampNeg x) (by decide) (by simp [shM, wI_u]) wI_o] at hP1
    exact hP1) hS1)
theorem al_M12 (C : Cx p c cc meth s m args own ret nL) (hK : va_K D vwCl (tysW ct) s) (hP : va_P D vwCl (cellsM ct ad S) H) {i : Int32} (hin : vp_in i 56) (hdg : decode cc pc = .ok (.iaload, 1))
    (kk : W p l e R s m args below meth c H locs cells slots Q (F0 m (pc + 1) ls (.int (S.1 12 i.toNatClampNeg) :: rest))) : W p l e R s m args below meth c H locs cells slots Q (F0 m pc ls (.int i :: .ref (ad 12) :: rest)) := by
  obtain ⟨hx, hb, hr, hml, hown, htL, hlocks⟩ := C
  exact va_iald hx hb hK hP (12) 0 ((cC (by decide)).trans (congrArg (fun z => some (ad (12), z)) (rfl))) rfl hin hdg kk
theorem an_M12 (C : Cx p c cc meth s m args own ret nL) (hK : va_K D vwCl (tysW ct) s) (hP : va_P D vwCl (cellsM ct ad S) H) (hdg : decode cc pc = .ok (.arraylength, 1))
    (kk : W p l e R s m args below meth c H locs cells slots Q (F0 m (pc + 1) ls (.int 56 :: rest))) : W p l e R s m args below meth c H locs cells slots Q (F0 m pc ls (.ref (ad 12) :: rest)) := by
  obtain ⟨hx, hb, hr, hml, hown, htL, hlocks⟩ := C
  exact va_alen hx hb hK hP (12) 0 ((cC (by decide)).trans (congrArg (fun z => some (ad (12), z)) (rfl))) rfl rfl hdg kk
theorem as_M12 (C : Cx p c cc meth s m args own ret nL) (hK : va_K D vwCl (tysW ct) s) (hP : va_P D vwCl (cellsM ct ad S) H) (hG : Gd ad 18 F) (hS : va_S F s.heap H locs) {i : Int32} {x : Int32} (hin : vp_in i 56) (hdg : decode cc pc = .ok (.iastore, 1))
    (kk : ∀ (H1 : Heap) (locs1 : List Loc), va_P D vwCl (cellsM ct ad (wI S 12 i.toNatClampNeg x)) H1 → va_S F s.heap H1 locs1 → W p l e R s m args below meth c H1 locs1 cells slots Q (F0 m (pc + 1) ls rest)) : W p l e R s m args below meth c H locs cells slots Q (F0 m pc ls (.int x :: .int i :: .ref (ad 12) :: rest)) := by
  obtain ⟨hx, hb, hr, hml, hown, htL, hlocks⟩ := C
  exact va_iast hx hb hK hP (cD hG) hS (12) 0 ((cC (by decide)).trans (congrArg (fun z => some (ad (12), z)) (rfl))) rfl hin hdg (fun H1 locs1 hP1 _ hS1 => kk H1 locs1 (by
    rw [cS (T := wI S 12 i.toNatClampNeg x) (by decide) (by simp [shM, wI_u]) wI_o] at hP1
    exact hP1) hS1)
theorem al_M13 (C : Cx p c cc meth s m args own ret nL) (hK : va_K D vwCl (tysW ct) s) (hP : va_P D vwCl (cellsM ct ad S) H) {i : Int32} (hin : vp_in i 8) (hdg : decode cc pc = .ok (.iaload, 1))
    (kk : W p l e R s m args below meth c H locs cells slots Q (F0 m (pc + 1) ls (.int (S.1 13 i.toNatClampNeg) :: rest))) : W p l e R s m args below meth c H locs cells slots Q (F0 m pc ls (.int i :: .ref (ad 13) :: rest)) := by
  obtain ⟨hx, hb, hr, hml, hown, htL, hlocks⟩ := C
  exact va_iald hx hb hK hP (13) 0 ((cC (by decide)).trans (congrArg (fun z => some (ad (13), z)) (rfl))) rfl hin hdg kk
theorem an_M13 (C : Cx p c cc meth s m args own ret nL) (hK : va_K D vwCl (tysW ct) s) (hP : va_P D vwCl (cellsM ct ad S) H) (hdg : decode cc pc = .ok (.arraylength, 1))
    (kk : W p l e R s m args below meth c H locs cells slots Q (F0 m (pc + 1) ls (.int 8 :: rest))) : W p l e R s m args below meth c H locs cells slots Q (F0 m pc ls (.ref (ad 13) :: rest)) := by
  obtain ⟨hx, hb, hr, hml, hown, htL, hlocks⟩ := C
  exact va_alen hx hb hK hP (13) 0 ((cC (by decide)).trans (congrArg (fun z => some (ad (13), z)) (rfl))) rfl rfl hdg kk
theorem as_M13 (C : Cx p c cc meth s m args own ret nL) (hK : va_K D vwCl (tysW ct) s) (hP : va_P D vwCl (cellsM ct ad S) H) (hG : Gd ad 18 F) (hS : va_S F s.heap H locs) {i : Int32} {x : Int32} (hin : vp_in i 8) (hdg : decode cc pc = .ok (.iastore, 1))
    (kk : ∀ (H1 : Heap) (locs1 : List Loc), va_P D vwCl (cellsM ct ad (wI S 13 i.toNatClampNeg x)) H1 → va_S F s.heap H1 locs1 → W p l e R s m args below meth c H1 locs1 cells slots Q (F0 m (pc + 1) ls rest)) : W p l e R s m args below meth c H locs cells slots Q (F0 m pc ls (.int x :: .int i :: .ref (ad 13) :: rest)) := by
  obtain ⟨hx, hb, hr, hml, hown, htL, hlocks⟩ := C
  exact va_iast hx hb hK hP (cD hG) hS (13) 0 ((cC (by decide)).trans (congrArg (fun z => some (ad (13), z)) (rfl))) rfl hin hdg (fun H1 locs1 hP1 _ hS1 => kk H1 locs1 (by
    rw [cS (T := wI S 13 i.toNatClampNeg x) (by decide) (by simp [shM, wI_u]) wI_o] at hP1
    exact hP1) hS1)
theorem al_M14 (C : Cx p c cc meth s m args own ret nL) (hK : va_K D vwCl (tysW ct) s) (hP : va_P D vwCl (cellsM ct ad S) H) {i : Int32} (hin : vp_in i 12) (hdg : decode cc pc = .ok (.iaload, 1))
    (kk : W p l e R s m args below meth c H locs cells slots Q (F0 m (pc + 1) ls (.int (S.1 14 i.toNatClampNeg) :: rest))) : W p l e R s m args below meth c H locs cells slots Q (F0 m pc ls (.int i :: .ref (ad 14) :: rest)) := by
  obtain ⟨hx, hb, hr, hml, hown, htL, hlocks⟩ := C
  exact va_iald hx hb hK hP (14) 0 ((cC (by decide)).trans (congrArg (fun z => some (ad (14), z)) (rfl))) rfl hin hdg kk
theorem an_M14 (C : Cx p c cc meth s m args own ret nL) (hK : va_K D vwCl (tysW ct) s) (hP : va_P D vwCl (cellsM ct ad S) H) (hdg : decode cc pc = .ok (.arraylength, 1))
    (kk : W p l e R s m args below meth c H locs cells slots Q (F0 m (pc + 1) ls (.int 12 :: rest))) : W p l e R s m args below meth c H locs cells slots Q (F0 m pc ls (.ref (ad 14) :: rest)) := by
  obtain ⟨hx, hb, hr, hml, hown, htL, hlocks⟩ := C
  exact va_alen hx hb hK hP (14) 0 ((cC (by decide)).trans (congrArg (fun z => some (ad (14), z)) (rfl))) rfl rfl hdg kk
theorem as_M14 (C : Cx p c cc meth s m args own ret nL) (hK : va_K D vwCl (tysW ct) s) (hP : va_P D vwCl (cellsM ct ad S) H) (hG : Gd ad 18 F) (hS : va_S F s.heap H locs) {i : Int32} {x : Int32} (hin : vp_in i 12) (hdg : decode cc pc = .ok (.iastore, 1))
    (kk : ∀ (H1 : Heap) (locs1 : List Loc), va_P D vwCl (cellsM ct ad (wI S 14 i.toNatClampNeg x)) H1 → va_S F s.heap H1 locs1 → W p l e R s m args below meth c H1 locs1 cells slots Q (F0 m (pc + 1) ls rest)) : W p l e R s m args below meth c H locs cells slots Q (F0 m pc ls (.int x :: .int i :: .ref (ad 14) :: rest)) := by
  obtain ⟨hx, hb, hr, hml, hown, htL, hlocks⟩ := C
  exact va_iast hx hb hK hP (cD hG) hS (14) 0 ((cC (by decide)).trans (congrArg (fun z => some (ad (14), z)) (rfl))) rfl hin hdg (fun H1 locs1 hP1 _ hS1 => kk H1 locs1 (by
    rw [cS (T := wI S 14 i.toNatClampNeg x) (by decide) (by simp [shM, wI_u]) wI_o] at hP1
    exact hP1) hS1)
theorem al_M15 (C : Cx p c cc meth s m args own ret nL) (hK : va_K D vwCl (tysW ct) s) (hP : va_P D vwCl (cellsM ct ad S) H) {i : Int32} (hin : vp_in i 16) (hdg : decode cc pc = .ok (.iaload, 1))
    (kk : W p l e R s m args below meth c H locs cells slots Q (F0 m (pc + 1) ls (.int (S.1 15 i.toNatClampNeg) :: rest))) : W p l e R s m args below meth c H locs cells slots Q (F0 m pc ls (.int i :: .ref (ad 15) :: rest)) := by
  obtain ⟨hx, hb, hr, hml, hown, htL, hlocks⟩ := C
  exact va_iald hx hb hK hP (15) 0 ((cC (by decide)).trans (congrArg (fun z => some (ad (15), z)) (rfl))) rfl hin hdg kk
theorem an_M15 (C : Cx p c cc meth s m args own ret nL) (hK : va_K D vwCl (tysW ct) s) (hP : va_P D vwCl (cellsM ct ad S) H) (hdg : decode cc pc = .ok (.arraylength, 1))
    (kk : W p l e R s m args below meth c H locs cells slots Q (F0 m (pc + 1) ls (.int 16 :: rest))) : W p l e R s m args below meth c H locs cells slots Q (F0 m pc ls (.ref (ad 15) :: rest)) := by
  obtain ⟨hx, hb, hr, hml, hown, htL, hlocks⟩ := C
  exact va_alen hx hb hK hP (15) 0 ((cC (by decide)).trans (congrArg (fun z => some (ad (15), z)) (rfl))) rfl rfl hdg kk
theorem as_M15 (C : Cx p c cc meth s m args own ret nL) (hK : va_K D vwCl (tysW ct) s) (hP : va_P D vwCl (cellsM ct ad S) H) (hG : Gd ad 18 F) (hS : va_S F s.heap H locs) {i : Int32} {x : Int32} (hin : vp_in i 16) (hdg : decode cc pc = .ok (.iastore, 1))
    (kk : ∀ (H1 : Heap) (locs1 : List Loc), va_P D vwCl (cellsM ct ad (wI S 15 i.toNatClampNeg x)) H1 → va_S F s.heap H1 locs1 → W p l e R s m args below meth c H1 locs1 cells slots Q (F0 m (pc + 1) ls rest)) : W p l e R s m args below meth c H locs cells slots Q (F0 m pc ls (.int x :: .int i :: .ref (ad 15) :: rest)) := by
  obtain ⟨hx, hb, hr, hml, hown, htL, hlocks⟩ := C
  exact va_iast hx hb hK hP (cD hG) hS (15) 0 ((cC (by decide)).trans (congrArg (fun z => some (ad (15), z)) (rfl))) rfl hin hdg (fun H1 locs1 hP1 _ hS1 => kk H1 locs1 (by
    rw [cS (T := wI S 15 i.toNatClampNeg x) (by decide) (by simp [shM, wI_u]) wI_o] at hP1
    exact hP1) hS1)
theorem al_M16 (C : Cx p c cc meth s m args own ret nL) (hK : va_K D vwCl (tysW ct) s) (hP : va_P D vwCl (cellsM ct ad S) H) {i : Int32} (hin : vp_in i 8) (hdg : decode cc pc = .ok (.iaload, 1))
    (kk : W p l e R s m args below meth c H locs cells slots Q (F0 m (pc + 1) ls (.int (S.1 16 i.toNatClampNeg) :: rest))) : W p l e R s m args below meth c H locs cells slots Q (F0 m pc ls (.int i :: .ref (ad 16) :: rest)) := by
  obtain ⟨hx, hb, hr, hml, hown, htL, hlocks⟩ := C
  exact va_iald hx hb hK hP (16) 0 ((cC (by decide)).trans (congrArg (fun z => some (ad (16), z)) (rfl))) rfl hin hdg kk
theorem an_M16 (C : Cx p c cc meth s m args own ret nL) (hK : va_K D vwCl (tysW ct) s) (hP : va_P D vwCl (cellsM ct ad S) H) (hdg : decode cc pc = .ok (.arraylength, 1))
    (kk : W p l e R s m args below meth c H locs cells slots Q (F0 m (pc + 1) ls (.int 8 :: rest))) : W p l e R s m args below meth c H locs cells slots Q (F0 m pc ls (.ref (ad 16) :: rest)) := by
  obtain ⟨hx, hb, hr, hml, hown, htL, hlocks⟩ := C
  exact va_alen hx hb hK hP (16) 0 ((cC (by decide)).trans (congrArg (fun z => some (ad (16), z)) (rfl))) rfl rfl hdg kk
theorem as_M16 (C : Cx p c cc meth s m args own ret nL) (hK : va_K D vwCl (tysW ct) s) (hP : va_P D vwCl (cellsM ct ad S) H) (hG : Gd ad 18 F) (hS : va_S F s.heap H locs) {i : Int32} {x : Int32} (hin : vp_in i 8) (hdg : decode cc pc = .ok (.iastore, 1))
    (kk : ∀ (H1 : Heap) (locs1 : List Loc), va_P D vwCl (cellsM ct ad (wI S 16 i.toNatClampNeg x)) H1 → va_S F s.heap H1 locs1 → W p l e R s m args below meth c H1 locs1 cells slots Q (F0 m (pc + 1) ls rest)) : W p l e R s m args below meth c H locs cells slots Q (F0 m pc ls (.int x :: .int i :: .ref (ad 16) :: rest)) := by
  obtain ⟨hx, hb, hr, hml, hown, htL, hlocks⟩ := C
  exact va_iast hx hb hK hP (cD hG) hS (16) 0 ((cC (by decide)).trans (congrArg (fun z => some (ad (16), z)) (rfl))) rfl hin hdg (fun H1 locs1 hP1 _ hS1 => kk H1 locs1 (by
    rw [cS (T := wI S 16 i.toNatClampNeg x) (by decide) (by simp [shM, wI_u]) wI_o] at hP1
    exact hP1) hS1)
theorem al_M17 (C : Cx p c cc meth s m args own ret nL) (hK : va_K D vwCl (tysW ct) s) (hP : va_P D vwCl (cellsM ct ad S) H) {i : Int32} (hin : vp_in i 8) (hdg : decode cc pc = .ok (.iaload, 1))
    (kk : W p l e R s m args below meth c H locs cells slots Q (F0 m (pc + 1) ls (.int (S.1 17 i.toNatClampNeg) :: rest))) : W p l e R s m args below meth c H locs cells slots Q (F0 m pc ls (.int i :: .ref (ad 17) :: rest)) := by
  obtain ⟨hx, hb, hr, hml, hown, htL, hlocks⟩ := C
  exact va_iald hx hb hK hP (17) 0 ((cC (by decide)).trans (congrArg (fun z => some (ad (17), z)) (rfl))) rfl hin hdg kk
theorem an_M17 (C : Cx p c cc meth s m args own ret nL) (hK : va_K D vwCl (tysW ct) s) (hP : va_P D vwCl (cellsM ct ad S) H) (hdg : decode cc pc = .ok (.arraylength, 1))
    (kk : W p l e R s m args below meth c H locs cells slots Q (F0 m (pc + 1) ls (.int 8 :: rest))) : W p l e R s m args below meth c H locs cells slots Q (F0 m pc ls (.ref (ad 17) :: rest)) := by
  obtain ⟨hx, hb, hr, hml, hown, htL, hlocks⟩ := C
  exact va_alen hx hb hK hP (17) 0 ((cC (by decide)).trans (congrArg (fun z => some (ad (17), z)) (rfl))) rfl rfl hdg kk
theorem as_M17 (C : Cx p c cc meth s m args own ret nL) (hK : va_K D vwCl (tysW ct) s) (hP : va_P D vwCl (cellsM ct ad S) H) (hG : Gd ad 18 F) (hS : va_S F s.heap H locs) {i : Int32} {x : Int32} (hin : vp_in i 8) (hdg : decode cc pc = .ok (.iastore, 1))
    (kk : ∀ (H1 : Heap) (locs1 : List Loc), va_P D vwCl (cellsM ct ad (wI S 17 i.toNatClampNeg x)) H1 → va_S F s.heap H1 locs1 → W p l e R s m args below meth c H1 locs1 cells slots Q (F0 m (pc + 1) ls rest)) : W p l e R s m args below meth c H locs cells slots Q (F0 m pc ls (.int x :: .int i :: .ref (ad 17) :: rest)) := by
  obtain ⟨hx, hb, hr, hml, hown, htL, hlocks⟩ := C
  exact va_iast hx hb hK hP (cD hG) hS (17) 0 ((cC (by decide)).trans (congrArg (fun z => some (ad (17), z)) (rfl))) rfl hin hdg (fun H1 locs1 hP1 _ hS1 => kk H1 locs1 (by
    rw [cS (T := wI S 17 i.toNatClampNeg x) (by decide) (by simp [shM, wI_u]) wI_o] at hP1
    exact hP1) hS1)
theorem al_C7 (C : Cx p c cc meth s m args own ret nL) (hK : va_K D vwCl (tysW ct) s) (hP : va_P D vwCl (cellsC ct ad S) H) {i : Int32} (hin : vp_in i 40) (hdg : decode cc pc = .ok (.aaload, 1))
    (kk : W p l e R s m args below meth c H locs cells slots Q (F0 m (pc + 1) ls (.ref (ad (12 + i.toNatClampNeg)) :: rest))) : W p l e R s m args below meth c H locs cells slots Q (F0 m pc ls (.int i :: .ref (ad 7) :: rest)) := by
  obtain ⟨hx, hb, hr, hml, hown, htL, hlocks⟩ := C
  exact va_aldq hx hb hK hP 7 3 ((cC (by decide)).trans (congrArg (fun z => some (ad 7, z)) rfl)) rfl hin hdg kk
theorem an_C7 (C : Cx p c cc meth s m args own ret nL) (hK : va_K D vwCl (tysW ct) s) (hP : va_P D vwCl (cellsC ct ad S) H) (hdg : decode cc pc = .ok (.arraylength, 1))
    (kk : W p l e R s m args below meth c H locs cells slots Q (F0 m (pc + 1) ls (.int 40 :: rest))) : W p l e R s m args below meth c H locs cells slots Q (F0 m pc ls (.ref (ad 7) :: rest)) := by
  obtain ⟨hx, hb, hr, hml, hown, htL, hlocks⟩ := C
  exact va_alen hx hb hK hP 7 3 ((cC (by decide)).trans (congrArg (fun z => some (ad 7, z)) rfl)) rfl rfl hdg kk
theorem al_C8 (C : Cx p c cc meth s m args own ret nL) (hK : va_K D vwCl (tysW ct) s) (hP : va_P D vwCl (cellsC ct ad S) H) {i : Int32} (hin : vp_in i 8) (hdg : decode cc pc = .ok (.aaload, 1))
    (kk : W p l e R s m args below meth c H locs cells slots Q (F0 m (pc + 1) ls (.ref (ad (54 + i.toNatClampNeg)) :: rest))) : W p l e R s m args below meth c H locs cells slots Q (F0 m pc ls (.int i :: .ref (ad 8) :: rest)) := by
  obtain ⟨hx, hb, hr, hml, hown, htL, hlocks⟩ := C
  exact va_aldq hx hb hK hP 8 4 ((cC (by decide)).trans (congrArg (fun z => some (ad 8, z)) rfl)) rfl hin hdg kk
theorem an_C8 (C : Cx p c cc meth s m args own ret nL) (hK : va_K D vwCl (tysW ct) s) (hP : va_P D vwCl (cellsC ct ad S) H) (hdg : decode cc pc = .ok (.arraylength, 1))
    (kk : W p l e R s m args below meth c H locs cells slots Q (F0 m (pc + 1) ls (.int 8 :: rest))) : W p l e R s m args below meth c H locs cells slots Q (F0 m pc ls (.ref (ad 8) :: rest)) := by
  obtain ⟨hx, hb, hr, hml, hown, htL, hlocks⟩ := C
  exact va_alen hx hb hK hP 8 4 ((cC (by decide)).trans (congrArg (fun z => some (ad 8, z)) rfl)) rfl rfl hdg kk
theorem rc_X9 (hK : va_K D vwCl (tysW ct) s) (hP : va_P D vwCl (cellsC ct ad S) H) : ∃ cell : Cell, H[ad 0]? = some cell ∧ cell.vm.isStatics = false ∧ s.vm.findClass RX9 = some cell.cls := va_recv (q := (RX9, TX9, 2)) hK hP (ci := 9) rfl (q0 := 0) (cC (by decide))
theorem rc_X5 (hK : va_K D vwCl (tysW ct) s) (hP : va_P D vwCl (cellsC ct ad S) H) : ∃ cell : Cell, H[ad 1]? = some cell ∧ cell.vm.isStatics = false ∧ s.vm.findClass RX5 = some cell.cls := va_recv (q := (RX5, TX5, 7)) hK hP (ci := 7) rfl (q0 := 1) (cC (by decide))
theorem rc_X1 (hK : va_K D vwCl (tysW ct) s) (hP : va_P D vwCl (cellsC ct ad S) H) : ∃ cell : Cell, H[ad 2]? = some cell ∧ cell.vm.isStatics = false ∧ s.vm.findClass RX1 = some cell.cls := va_recv (q := (RX1, TX1, 3)) hK hP (ci := 3) rfl (q0 := 2) (cC (by decide))
theorem rc_X2 (hK : va_K D vwCl (tysW ct) s) (hP : va_P D vwCl (cellsC ct ad S) H) : ∃ cell : Cell, H[ad 3]? = some cell ∧ cell.vm.isStatics = false ∧ s.vm.findClass RX2 = some cell.cls := va_recv (q := (RX2, TX2, 3)) hK hP (ci := 4) rfl (q0 := 3) (cC (by decide))
theorem rc_X0 (hK : va_K D vwCl (tysW ct) s) (hP : va_P D vwCl (cellsC ct ad S) H) : ∃ cell : Cell, H[ad 4]? = some cell ∧ cell.vm.isStatics = false ∧ s.vm.findClass RX0 = some cell.cls := va_recv (q := (RX0, TX0, 2)) hK hP (ci := 2) rfl (q0 := 4) (cC (by decide))
theorem rc_X6 (hK : va_K D vwCl (tysW ct) s) (hP : va_P D vwCl (cellsC ct ad S) H) : ∃ cell : Cell, H[ad 5]? = some cell ∧ cell.vm.isStatics = false ∧ s.vm.findClass RX6 = some cell.cls := va_recv (q := (RX6, TX6, 2)) hK hP (ci := 8) rfl (q0 := 5) (cC (by decide))
theorem rc_X3 (hK : va_K D vwCl (tysW ct) s) (hP : va_P D vwCl (cellsC ct ad S) H) (hk : k < 42) : ∃ cell : Cell, H[ad (12 + k)]? = some cell ∧ cell.vm.isStatics = false ∧ s.vm.findClass RX3 = some cell.cls := va_recv (q := (RX3, TX3, 14)) hK hP (ci := 5) rfl (q0 := 12 + k) ((cC (by omega)).trans (congrArg (fun z => some (ad (12 + k), z)) (shC_num hk)))
theorem rc_X4 (hK : va_K D vwCl (tysW ct) s) (hP : va_P D vwCl (cellsC ct ad S) H) (hk : k < 8) : ∃ cell : Cell, H[ad (54 + k)]? = some cell ∧ cell.vm.isStatics = false ∧ s.vm.findClass RX4 = some cell.cls := va_recv (q := (RX4, TX4, 2)) hK hP (ci := 6) rfl (q0 := 54 + k) ((cC (by omega)).trans (congrArg (fun z => some (ad (54 + k), z)) (shC_poly hk)))
theorem rc_X10 (hK : va_K D vwCl (tysW ct) s) (hP : va_P D vwCl (cellsM ct ad S) H) : ∃ cell : Cell, H[ad 0]? = some cell ∧ cell.vm.isStatics = false ∧ s.vm.findClass RX10 = some cell.cls := va_recv (q := (RX10, TX10, 27)) hK hP (ci := 10) rfl (q0 := 0) (cC (by decide))
end HRows
/-! methods with a world -/
abbrev Hq (D : va_G) (w' : va_W) (F : Nat → Prop) (v : Option Value) : Array Value → State → Outcome → State → Prop := fun _ st o t => o = .returned v ∧ va_P D vwCl w' t.heap ∧ va_F F st t
abbrev Hp (D : va_G) (tys : List (ClassId × FieldType)) (As : List Value) (w : va_W) : Array Value → State → Prop := fun a U => a = As.toArray ∧ va_P D vwCl w U.heap ∧ va_K D vwCl tys U
theorem Hp_blind {D : va_G} {tys : List (ClassId × FieldType)} {As : List Value} {w : va_W} : FrameBlind (Hp D tys As w) := fun a U g mk h => ⟨h.1, h.2.1, va_K.moved (u := U) (U := U.calling g mk a) (Vm.Alike.refl U.vm) h.2.2⟩
def MetH (l : Launch) (y : MethodName) (cc : ByteArray) (nL : Nat) (ret : Option FieldType) (rm : Room) (D : va_G) (tys : List (ClassId × FieldType)) (F : Nat → Prop) (As : List Value) (v : Option Value) (w w' : va_W) : Prop :=
  Met l y (Cond.code y cc nL ret :: TB) rm (Hp D tys As w) (Hq D w' F v) 0 0 F
theorem MetH.of {l : Launch} {y : MethodName} {cc : ByteArray} {nL : Nat} {ret : Option FieldType} {rm : Room} {D : va_G} {tys : List (ClassId × FieldType)} {F : Nat → Prop} {As : List Value} {v : Option Value} {w w' : va_W} (own : String) (hy : plainName y.cls = true) (hown : y.cls = own) (hlen : (lg_sl As).length ≤ nL)
    (body : ∀ (p : Program) (e : Env) (s : State) (m : MethodId) (args : Array Value) (below : List Frame) (meth : Method) (c : Code), Cx p c cc meth s m args own ret nL → va_K D vwCl tys s → va_P D vwCl w s.heap → ∀ ls : Array Slot, lv_has ls nL (lv_args 0 As) →
      W p l e rm s m args below meth c s.heap [] 0 0 (MQ below (Hq D w' F v) args s 0 0 F) (F0 m 0 ls [])) : MetH l y cc nL ret rm D tys F As v w w' := by
  refine Met.ofW (cc := cc) (maxL := nL) (ret := ret) hy rfl ?_
  intro p e s m args below meth c s₁ B hml hv
  obtain ⟨rfl, hP, hK⟩ := hv
  have hts := atoms_spec (ws := Cond.code y cc nL ret :: TB) B.pre
  have ho : s.vm.findClass own = some m.cls := by rw [← hown]; exact findClass_of_methodNamed B.named
  have hl := lv_entry As hlen
  rw [lg_entry_eq]
  exact body p e s m As.toArray below meth c ⟨B.exec, B.bytes, B.returns, hml, ho, fun w h => hts w (List.mem_cons_of_mem _ h), B.notSynchronized⟩ hK hP _ hl
section HEnds
variable {p : Program} {l : Launch} {e : Env} {R : Room} {s : State} {m : MethodId} {args : Array Value} {below : List Frame} {meth : Method} {c : Code} {cc : ByteArray} {own : String} {ret : Option FieldType} {nL pc : Nat} {ls : Array Slot} {H : Heap} {locs : List Loc} {D : va_G} {F : Nat → Prop} {w : va_W}
theorem he_l {x : Int64} (C : Cx p c cc meth s m args own (some .long) nL) (hP : va_P D vwCl w H) (hS : va_S F s.heap H locs) (hdg : decode cc pc = .ok (.lreturn, 1)) :
    W p l e R s m args below meth c H locs 0 0 (MQ below (Hq D w F (some (.long x))) args s 0 0 F) (F0 m pc ls [.long x]) := by
  obtain ⟨hx, hb, hr, hml, hown, htL, hlocks⟩ := C
  exact W.lret hx hb hr (fun t ht _ => ⟨rfl, by rw [ht]; exact hP, hS.F ht⟩) hS.2.2 hdg hlocks
theorem he_i {x : Int32} (C : Cx p c cc meth s m args own (some .int) nL) (hP : va_P D vwCl w H) (hS : va_S F s.heap H locs) (hdg : decode cc pc = .ok (.ireturn, 1)) :
    W p l e R s m args below meth c H locs 0 0 (MQ below (Hq D w F (some (.int x))) args s 0 0 F) (F0 m pc ls [.int x]) := by
  obtain ⟨hx, hb, hr, hml, hown, htL, hlocks⟩ := C
  exact W.iret hx hb hr (fun t ht _ => ⟨rfl, by rw [ht]; exact hP, hS.F ht⟩) hS.2.2 hdg hlocks
theorem he_z {x : Int32} {ty : FieldType} (C : Cx p c cc meth s m args own (some ty) nL) (hn : narrow ty (.int x) = .int x) (hP : va_P D vwCl w H) (hS : va_S F s.heap H locs) (hdg : decode cc pc = .ok (.ireturn, 1)) :
    W p l e R s m args below meth c H locs 0 0 (MQ below (Hq D w F (some (.int x))) args s 0 0 F) (F0 m pc ls [.int x]) := by
  obtain ⟨hx, hb, hr, hml, hown, htL, hlocks⟩ := C
  exact W.zret hx hb hr hn (fun t ht _ => ⟨rfl, by rw [ht]; exact hP, hS.F ht⟩) hS.2.2 hdg hlocks
theorem he_v (C : Cx p c cc meth s m args own none nL) (hP : va_P D vwCl w H) (hS : va_S F s.heap H locs) (hdg : decode cc pc = .ok (.return_, 1)) :
    W p l e R s m args below meth c H locs 0 0 (MQ below (Hq D w F none) args s 0 0 F) (F0 m pc ls []) := by
  obtain ⟨hx, hb, hr, hml, hown, htL, hlocks⟩ := C
  exact W.vret hx hb hr (fun t ht _ => ⟨rfl, by rw [ht]; exact hP, hS.F ht⟩) hS.2.2 hdg hlocks
theorem he_a {a : Nat} {n : String} (C : Cx p c cc meth s m args own (some (.object n)) nL) (hP : va_P D vwCl w H) (hS : va_S F s.heap H locs) (hdg : decode cc pc = .ok (.areturn, 1)) :
    W p l e R s m args below meth c H locs 0 0 (MQ below (Hq D w F (some (.ref a))) args s 0 0 F) (F0 m pc ls [.ref a]) := by
  obtain ⟨hx, hb, hr, hml, hown, htL, hlocks⟩ := C
  exact W.aret hx hb hr (Or.inl ⟨_, rfl⟩) (Or.inr ⟨_, rfl⟩) (fun t ht _ => ⟨rfl, by rw [ht]; exact hP, hS.F ht⟩) hS.2.2 hdg hlocks
end HEnds
abbrev CPv (y : MethodName) (cc : ByteArray) (nL : Nat) (ret : Option FieldType) (n : Nat) : Prop := Cond.code y cc nL ret ∈ TB ∧ Cond.initialized y.cls ∈ TB ∧ Cond.instanceMethod y ∈ TB ∧ Cond.selects y.cls y y ∈ TB ∧
  (y.cls ≠ "java/lang/invoke/MethodHandle" ∧ y.cls ≠ "java/lang/invoke/VarHandle" ∧ (parseMethodDescriptor y.desc).map (fun d => d.parameters.length) = some n)
section HCalls
variable {p : Program} {l : Launch} {e : Env} {R : Room} {s : State} {m : MethodId} {args : Array Value} {below : List Frame} {meth : Method} {c : Code} {cc : ByteArray} {own : String} {ret : Option FieldType} {nL pc : Nat} {ls : Array Slot} {H : Heap} {locs : List Loc} {cells slots : Nat} {Q : State → Prop}
variable {y : MethodName} {cc' : ByteArray} {nL' index n b : Nat} {ret' : Option FieldType} {rm : Room} {As rest st : List Value} {v : Option Value} {D : va_G} {tys : List (ClassId × FieldType)} {F : Nat → Prop} {w w' : va_W}
theorem hc_V (C : Cx p c cc meth s m args own ret nL) (hK : va_K D vwCl tys s) (hM : MetH l y cc' nL' ret' rm D tys F (.ref b :: As) v w w') (hls : ls.size = nL) (hcp : CPv y cc' nL' ret' n) (hlink : Cond.methodLink own index y ∈ TB)
    (hrc : ∃ cell : Cell, H[b]? = some cell ∧ cell.vm.isStatics = false ∧ s.vm.findClass y.cls = some cell.cls) (hP : va_P D vwCl w H) (hS : va_S F s.heap H locs)
    (hrm : rm.cells = 0 ∧ rm.slots = 0) (hR : rm.frames + 1 ≤ R.frames ∧ 12 + (nL' + 11) + rm.locals ≤ R.locals)
    (hn : As.length = n) (hst : st = As.reverse ++ .ref b :: rest) (hW : (rest.map fun v => v.category).sum ≤ 12) (hdg : decode cc pc = .ok (.invokevirtual index, 3)) (hroom : cells ≤ R.cells ∧ slots ≤ R.slots)
    (kk : ∀ (H1 : Heap) (locs1 : List Loc), va_P D vwCl w' H1 → va_S F s.heap H1 locs1 → W p l e R s m args below meth c H1 locs1 cells slots Q (F0 m (pc + 3) ls (v.toList ++ rest))) : W p l e R s m args below meth c H locs cells slots Q (F0 m pc ls st) := by
  obtain ⟨hx, hb, hr, hml, hown, htL, hlocks⟩ := C
  obtain ⟨hcode, hini, hinst, hsel, hd⟩ := hcp
  subst hst
  have hBk : Back l R p e below s args y 3 12 (PreOf R 0 0 (Hp D tys (.ref b :: As) w)) (PostOf (Hq D w' F v) 0 0 F) := back_of (bytes := cc') (maxL := nL') (ret := ret') hM Hp_blind hrm.1 hrm.2 hR.1 hR.2 (pay_in htL (gLaw hcode)) List.mem_cons_self (fun a' U hW => word_at hW (Or.inl (by first | rfl | simp [Cond.onTables, Cond.keeps, Cond.steady])) (htL _ hini))
  obtain ⟨cellB, hcB, hoB, hclB⟩ := hrc
  intro T hT X
  obtain ⟨v', vm₁, ⟨U', l2, c2, s2⟩, hW₁, X', ⟨g', mk, t, L, e1, e2, ⟨hv, hP', hF⟩, h1, hL, h2, h3⟩, go⟩ := callV X hx (C := y.cls) (bytes := cc') (maxL := nL') (ret := ret') hown (htL _ hlink) (htL _ hinst) (htL _ hsel) (htL _ hcode) ⟨hd.1, hd.2.1⟩ hBk (by rw [hT]; exact hcB) hoB hclB (g := F0 m pc ls (As.reverse ++ .ref b :: rest)) rfl (hls.trans hml.symm) (argsL := As) (rest := rest) (fun sig h => by have h9 := hd.2.2; rw [h] at h9; exact hn.trans (Option.some.inj h9).symm) rfl (by show 2 * 0 + _ ≤ 12; omega) (by rw [hb]; exact hdg)
    (fun vm₁ hW₁ => ⟨hroom.1, hroom.2, rfl, by show va_P D vwCl w T.heap; rw [hT]; exact hP, va_K.moved (U := T.setVm vm₁) hW₁.alike hK⟩)
  dsimp only [Pt.U, Pt.locs, Pt.cells, Pt.slots] at X' e1 e2 h1 h2 h3 go
  subst h1; subst h2; subst h3
  have h0 : ((T.setVm vm₁).calling g' mk (Value.ref b :: As).toArray).heap = H := hT
  have hv' : v' = v := by cases hv; rfl
  subst hv'
  obtain ⟨hz, hk⟩ := hF
  rw [h0] at hz hk
  have hS' : va_S F s.heap U'.heap (locs ++ L) := ⟨Nat.le_trans hS.1 (by rw [e1]; exact hz), fun q h1 h2 => by rw [e1, hk q (Nat.lt_of_lt_of_le h1 hS.1) h2]; exact hS.2.1 q h1 h2, fun q hq => by
    rcases List.mem_append.mp hq with h | h
    · exact hS.2.2 q h
    · exact hL q h⟩
  obtain ⟨t2, a1, b2⟩ := kk U'.heap (locs ++ L) (by rw [e1]; exact hP') hS' U' rfl X'
  exact ⟨t2, go t2 a1, b2⟩
end HCalls
