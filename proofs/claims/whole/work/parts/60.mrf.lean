/-! more digits of what a number comes of: more digits of it -/
theorem pre_rf {p : Int} {r n : Nat} {d d' c : Nat → Int} {num num' : Nat → Int × Int × Int} (h : Pre p r d c num n) (hw : ∀ i : Nat, i < n → Wf p r (num i) ∧ Wf p r (num' i) ∧ Rf p (num' i) (num i)) (hd : ∀ j : Nat, j ≠ 5 → d' j = d j) (h5 : d 0 ≠ 0 → d' 5 = d 5) (h50 : d 0 = 0 → d 5 ≤ d' 5 ∧ d' 5 ≤ 60) : Pre p r d' c num' n := by
  unfold Pre
  rw [hd 0 (by omega), hd 1 (by omega), hd 2 (by omega), hd 3 (by omega), hd 4 (by omega), hd 6 (by omega)]
  rcases h with ⟨k, ⟨f1, f2, f3, f4, f5, f6⟩, e1, e2⟩ | ⟨k, g1, g2⟩ | ⟨k, g1, g2⟩ | ⟨k, g1, g2, g3⟩ | ⟨k, g1, g2, g3, g4⟩ | ⟨k, g1, e2, g3⟩ | ⟨k, g1, e2, g3, g4⟩ | ⟨k, e1, e2, s1, s2, dd⟩ | ⟨k, g1, e2, x1, x2, rb, g3, g4⟩
  · have := h50 k
    exact Or.inl ⟨k, ⟨f1, f2, f3, f4, by omega, by omega⟩, e1, e2⟩
  · exact Or.inr (Or.inl ⟨k, g1, g2⟩)
  · exact Or.inr (Or.inr (Or.inl ⟨k, g1, g2⟩))
  · refine Or.inr (Or.inr (Or.inr (Or.inl ⟨k, g1, g2, ?_⟩)))
    obtain ⟨a1, a2⟩ := g1
    obtain ⟨b1, b2⟩ := g2
    obtain ⟨u1, u2, u3⟩ := hw (d 1).toNat (by omega)
    obtain ⟨v1, v2, v3⟩ := hw (d 2).toNat (by omega)
    have := u3.v u1.uz
    have := v3.v v1.uz
    omega
  · refine Or.inr (Or.inr (Or.inr (Or.inr (Or.inl ⟨k, g1, g2, ?_⟩))))
    obtain ⟨a1, a2⟩ := g1
    obtain ⟨b1, b2⟩ := g2
    obtain ⟨u1, u2, u3⟩ := hw (d 1).toNat (by omega)
    obtain ⟨v1, v2, v3⟩ := hw (d 2).toNat (by omega)
    have := u3.v u1.uz
    obtain ⟨-, q1, q2, -⟩ := v3.2.resolve_left (fun q => g3 q.1)
    exact ⟨q1, by omega⟩
  · obtain ⟨a1, a2⟩ := g1
    obtain ⟨u1, u2, u3⟩ := hw (d 1).toNat (by omega)
    exact Or.inr (Or.inr (Or.inr (Or.inr (Or.inr (Or.inl ⟨k, ⟨a1, a2⟩, e2, g3.rf u1 u3⟩)))))
  · obtain ⟨a1, a2⟩ := g1
    obtain ⟨u1, u2, u3⟩ := hw (d 1).toNat (by omega)
    obtain ⟨-, q1, q2, -⟩ := u3.2.resolve_left (fun q => g4 q.1)
    exact Or.inr (Or.inr (Or.inr (Or.inr (Or.inr (Or.inr (Or.inl ⟨k, ⟨a1, a2⟩, e2, by omega, q1⟩))))))
  · refine Or.inr (Or.inr (Or.inr (Or.inr (Or.inr (Or.inr (Or.inr (Or.inl ⟨k, e1, e2, ?_⟩)))))))
    rw [h5 (by omega)]
    exact ⟨s1, s2, dd⟩
  · refine Or.inr (Or.inr (Or.inr (Or.inr (Or.inr (Or.inr (Or.inr (Or.inr ⟨k, g1, e2, x1, x2, rb, ?_⟩)))))))
    obtain ⟨a1, a2⟩ := g1
    obtain ⟨u1, u2, u3⟩ := hw (d 1).toNat (by omega)
    have := u3.v u1.uz
    have := u3.1
    exact ⟨by omega, by omega⟩
theorem dy_rf {p : Int} {r n : Nat} {d d' c : Nat → Int} {num num' : Nat → Int × Int × Int} {y y' : Int × Int × Int} (hP : Pr p) (hr : Rch p r) (h : Pre p r d c num n) (hw : ∀ i : Nat, i < n → Wf p r (num i) ∧ Wf p r (num' i) ∧ Rf p (num' i) (num i)) (hd : ∀ j : Nat, j ≠ 5 → d' j = d j) (h5 : d 0 ≠ 0 → d' 5 = d 5) (h50 : d 0 = 0 → d 5 ≤ d' 5 ∧ d' 5 ≤ 60) (hy : DY p r d c num y) (hy' : DY p r d' c num' y') : Rf p y' y := by
  have hrr := hr.2.2.2.2
  unfold DY at hy'
  rw [hd 0 (by omega), hd 1 (by omega), hd 2 (by omega), hd 3 (by omega), hd 4 (by omega), hd 6 (by omega)] at hy'
  obtain ⟨y0, y1, y2, y3, y4, y5, y6, y7, y8⟩ := hy
  obtain ⟨z0, z1, z2, z3, z4, z5, z6, z7, z8⟩ := hy'
  rcases h with ⟨k, ⟨f1, f2, f3, f4, f5, f6⟩, e1, e2⟩ | ⟨k, g1, g2⟩ | ⟨k, g1, g2⟩ | ⟨k, g1, g2, g3⟩ | ⟨k, g1, g2, g3, g4⟩ | ⟨k, g1, e2, g3⟩ | ⟨k, g1, e2, g3, g4⟩ | ⟨k, e1, e2, s1, s2, d1, d2, x1, x2, i3, cb, cz, q1, q2⟩ | ⟨k, g1, e2, x1, x2, rb, g3, g4⟩
  · have := h50 k
    rw [y0 k, z0 k]
    exact frac_rf hP hr ⟨f1, f2, f3, f4, by omega, by omega⟩ ⟨f1, f2, f3, f4, f5, f6⟩ this.1
  · obtain ⟨a1, a2⟩ := g1
    obtain ⟨b1, b2⟩ := g2
    obtain ⟨u1, u2, u3⟩ := hw (d 1).toNat (by omega)
    obtain ⟨v1, v2, v3⟩ := hw (d 2).toNat (by omega)
    rw [y1 k, z1 k]
    exact sum_rf hr u2 u1 v2 v1 u3 v3
  · obtain ⟨a1, a2⟩ := g1
    obtain ⟨b1, b2⟩ := g2
    obtain ⟨u1, u2, u3⟩ := hw (d 1).toNat (by omega)
    obtain ⟨v1, v2, v3⟩ := hw (d 2).toNat (by omega)
    rw [y2 k, z2 k]
    exact sum_rf hr u2 u1 v2 v1 u3 v3
  · obtain ⟨a1, a2⟩ := g1
    obtain ⟨b1, b2⟩ := g2
    obtain ⟨u1, u2, u3⟩ := hw (d 1).toNat (by omega)
    obtain ⟨v1, v2, v3⟩ := hw (d 2).toNat (by omega)
    rw [y3 k, z3 k]
    exact prod_rf hr u2 u1 v2 v1 u3 v3 g3
  · obtain ⟨a1, a2⟩ := g1
    obtain ⟨b1, b2⟩ := g2
    obtain ⟨u1, u2, u3⟩ := hw (d 1).toNat (by omega)
    obtain ⟨v1, v2, v3⟩ := hw (d 2).toNat (by omega)
    rw [y4 k, z4 k]
    exact quot_rf hP hr u2 u1 v2 v1 u3 v3 g4 g3
  · obtain ⟨a1, a2⟩ := g1
    obtain ⟨u1, u2, u3⟩ := hw (d 1).toNat (by omega)
    obtain ⟨R, hR, rfl⟩ := y5 k
    obtain ⟨R', hR', rfl⟩ := z5 k
    exact root_rf hP hr u2 u1 (g3.rf u1 u3) g3 u3 hR' hR
  · obtain ⟨a1, a2⟩ := g1
    obtain ⟨u1, u2, u3⟩ := hw (d 1).toNat (by omega)
    rw [y6 k, z6 k]
    exact tei_rf hP hr u2 u1 g3 g4 u3
  · obtain ⟨R, hR, rfl⟩ := y7 k
    obtain ⟨R', hR', rfl⟩ := z7 k
    rw [h5 (by omega)] at hR' ⊢
    rw [liR_eq hP q2 hR' hR]
    exact Rf.refl (lay_wf hr (by omega) (by omega) (by omega))
  · obtain ⟨a1, a2⟩ := g1
    obtain ⟨u1, u2, u3⟩ := hw (d 1).toNat (by omega)
    rw [y8 k, z8 k]
    exact row_rf hP hr u2 u1 g3 g4 u3
/-! the relation of the two states -/
def EarC (S : St) (k : Nat) (x : Int × Int × Int) : Prop := S.1 (12 + k) 11 = ji x.1 ∧ S.1 (12 + k) 12 = ji x.2.1 ∧ S.2 (12 + k) 13 = jl x.2.2
def Lnk (d : Nat → Int) (bc rowc : Nat) (cn : Nat → Nat) : Prop := (d 0 = 7 → d 3 < bc ∧ d 6 ≤ cn (d 3).toNat) ∧ (d 0 = 8 → d 6 ≤ rowc)
def RN1 (S T : St) (p : Int) (r : Nat) (num early : Nat → Int × Int × Int) (D C : Nat → Nat → Int) (bc rowc : Nat) (cn : Nat → Nat) (n : Nat) : Prop :=
  NumC S n (num n) ∧ NumM T n (num n) ∧ Wf p r (num n) ∧ EarC S n (early n) ∧ Wf p r (early n) ∧ Rf p (num n) (early n) ∧ DC S n (D n) (C n) ∧ DM T n (D n) (C n) ∧ Pre p r (D n) (C n) num n ∧ DY p r (D n) (C n) num (num n) ∧ Lnk (D n) bc rowc cn
def RN (S T : St) (p : Int) (r cnt : Nat) (num early : Nat → Int × Int × Int) (D C : Nat → Nat → Int) (bc rowc : Nat) (cn : Nat → Nat) : Prop :=
  Pr p ∧ Rch p r ∧ NrC S p r ∧ T.1 0 18 = ji p ∧ S.1 1 3 = ji cnt ∧ T.1 0 19 = ji cnt ∧ cnt ≤ 40 ∧ ∀ n : Nat, n < cnt → RN1 S T p r num early D C bc rowc cn n
def RP (S T : St) (bc : Nat) (cn : Nat → Nat) (pc : Nat → Nat → Int) : Prop :=
  S.1 4 0 = ji bc ∧ T.1 0 20 = ji bc ∧ bc ≤ 8 ∧ (∀ f : Nat, f < 8 → PolC S f (pc f) ∧ CoB (pc f) ∧ ∀ j : Nat, j < 7 → T.1 12 (7 * f + j) = ji (pc f j)) ∧
  (∀ f : Nat, f < bc → 1 ≤ cn f ∧ cn f ≤ 7 ∧ S.1 (54 + f) 0 = ji (cn f) ∧ T.1 13 f = ji ((cn f : Int) - 1) ∧ pc f (cn f - 1) ≠ 0 ∧ pc f 0 ≠ 0 ∧ ∀ j : Nat, cn f ≤ j → pc f j = 0) ∧
  (∀ f : Nat, bc ≤ f → f < 8 → ∀ j : Nat, pc f j = 0)
def RR (S T : St) (rowc : Nat) (rv : Nat → Int) : Prop :=
  S.1 5 0 = ji rowc ∧ T.1 0 21 = ji rowc ∧ rowc ≤ 12 ∧ RoB rv ∧ ∀ j : Nat, j < rowc → S.1 9 j = ji (rv j) ∧ T.1 14 j = ji (rv j)
def RX (S T : St) (sz : Nat) (en : Nat → Int) : Prop :=
  S.1 2 0 = ji sz ∧ T.1 0 22 = ji sz ∧ 1 ≤ sz ∧ sz ≤ 4 ∧ ∀ k : Nat, k < 16 → S.1 10 k = ji (en k) ∧ T.1 15 k = ji (en k) ∧ -999 ≤ en k ∧ en k ≤ 999
def Rel (S T : St) : Prop := ∃ (p : Int) (r cnt : Nat) (num early : Nat → Int × Int × Int) (D C : Nat → Nat → Int) (bc : Nat) (cn : Nat → Nat) (pc : Nat → Nat → Int) (rowc : Nat) (rv : Nat → Int) (sz : Nat) (en : Nat → Int),
  RN S T p r cnt num early D C bc rowc cn ∧ RP S T bc cn pc ∧ RR S T rowc rv ∧ RX S T sz en
/-- nothing changed that the relation speaks of -/
def FrS (S S' : St) : Prop := (∀ o i : Nat, o ≠ 52 → o ≠ 53 → i ≠ 7 ∨ o < 12 ∨ 54 ≤ o → S'.1 o i = S.1 o i) ∧ ∀ o i : Nat, o ≠ 52 → o ≠ 53 → o ≠ 11 → S'.2 o i = S.2 o i
def FrT (T T' : St) : Prop := (∀ o i : Nat, o ≠ 9 → o ≠ 16 → o ≠ 17 → ¬ (o = 0 ∧ (i = 17 ∨ i = 23 ∨ i = 24 ∨ i = 25)) → T'.1 o i = T.1 o i) ∧ ∀ o i : Nat, o ≠ 0 → T'.2 o i = T.2 o i
theorem FrS.refl (S : St) : FrS S S := ⟨fun _ _ _ _ _ => rfl, fun _ _ _ _ _ => rfl⟩
theorem FrT.refl (T : St) : FrT T T := ⟨fun _ _ _ _ _ _ => rfl, fun _ _ _ => rfl⟩
theorem FrS.trans {S S' S'' : St} (h : FrS S S') (g : FrS S' S'') : FrS S S'' := ⟨fun o i a b c => (g.1 o i a b c).trans (h.1 o i a b c), fun o i a b c => (g.2 o i a b c).trans (h.2 o i a b c)⟩
theorem FrT.trans {S S' S'' : St} (h : FrT S S') (g : FrT S' S'') : FrT S S'' := ⟨fun o i a b c d => (g.1 o i a b c d).trans (h.1 o i a b c d), fun o i a => (g.2 o i a).trans (h.2 o i a)⟩
theorem dc_fr {S S' : St} {n : Nat} {d c : Nat → Int} (h : FrS S S') (hn : n < 40) (hf : d 0 = 7 → Idx (d 3) 8) (g : DC S n d c) : DC S' n d c := by
  obtain ⟨g1, g2, g3⟩ := g
  refine ⟨fun j hj => ?_, fun k => ?_, fun k j hj => ?_⟩
  · rw [h.1 _ _ (by omega) (by omega) (by omega)]; exact g1 j hj
  · obtain ⟨cc, a, b, e⟩ := g2 k
    obtain ⟨i1, i2⟩ := hf k
    exact ⟨cc, fun j hj => by rw [h.1 _ _ (by omega) (by omega) (by omega)]; exact a j hj, b, e⟩
  · rw [h.1 _ _ (by omega) (by omega) (by omega)]; exact g3 k j hj
theorem dm_fr {T T' : St} {n : Nat} {d c : Nat → Int} (h : FrT T T') (g : DM T n d c) : DM T' n d c := by
  obtain ⟨g1, g2, g3, g4, g5, g6⟩ := g
  have e : ∀ o i : Nat, o ≠ 9 → o ≠ 16 → o ≠ 17 → o ≠ 0 → T'.1 o i = T.1 o i := fun o i a b c dd => h.1 o i a b c (fun q => dd q.1)
  refine ⟨?_, fun k => ?_, fun k k' => ?_, fun k k' => ?_, fun k => ?_, fun k => ?_⟩
  · rw [e _ _ (by omega) (by omega) (by omega) (by omega)]; exact g1
  · rw [e _ _ (by omega) (by omega) (by omega) (by omega), e _ _ (by omega) (by omega) (by omega) (by omega), e _ _ (by omega) (by omega) (by omega) (by omega)]; exact g2 k
  · rw [e _ _ (by omega) (by omega) (by omega) (by omega)]; exact g3 k k'
  · rw [e _ _ (by omega) (by omega) (by omega) (by omega)]; exact g4 k k'
  · rw [e _ _ (by omega) (by omega) (by omega) (by omega), e _ _ (by omega) (by omega) (by omega) (by omega)]
    exact ⟨(g5 k).1, (g5 k).2.1, fun j hj => by rw [e _ _ (by omega) (by omega) (by omega) (by omega)]; exact (g5 k).2.2 j hj⟩
  · rw [e _ _ (by omega) (by omega) (by omega) (by omega)]
    exact ⟨(g6 k).1, fun j hj => by rw [e _ _ (by omega) (by omega) (by omega) (by omega)]; exact (g6 k).2 j hj⟩
theorem Pre.f7 {p : Int} {r n : Nat} {d c : Nat → Int} {num : Nat → Int × Int × Int} (h : Pre p r d c num n) : d 0 = 7 → Idx (d 3) 8 := by
  intro k
  rcases h with ⟨q, -⟩ | ⟨q, -⟩ | ⟨q, -⟩ | ⟨q, -⟩ | ⟨q, -⟩ | ⟨q, -⟩ | ⟨q, -⟩ | ⟨q, -, -, -, -, -, -, -, -, i, -⟩ | ⟨q, -⟩
  · omega
  · omega
  · omega
  · omega
  · omega
  · omega
  · omega
  · exact i
  · omega
theorem rn_fr {S S' T T' : St} {p : Int} {r cnt : Nat} {num early : Nat → Int × Int × Int} {D C : Nat → Nat → Int} {bc rowc : Nat} {cn : Nat → Nat} (h : RN S T p r cnt num early D C bc rowc cn) (hS : FrS S S') (hT : FrT T T') : RN S' T' p r cnt num early D C bc rowc cn := by
  obtain ⟨h1, h2, ⟨n1, n2, n3⟩, h4, h5, h6, h7, h8⟩ := h
  refine ⟨h1, h2, ⟨?_, ?_, fun e he => ?_⟩, ?_, ?_, ?_, h7, fun n hn => ?_⟩
  · rw [hS.1 _ _ (by omega) (by omega) (by omega)]; exact n1
  · rw [hS.1 _ _ (by omega) (by omega) (by omega)]; exact n2
  · rw [hS.2 _ _ (by omega) (by omega) (by omega)]; exact n3 e he
  · rw [hT.1 _ _ (by omega) (by omega) (by omega) (by omega)]; exact h4
  · rw [hS.1 _ _ (by omega) (by omega) (by omega)]; exact h5
  · rw [hT.1 _ _ (by omega) (by omega) (by omega) (by omega)]; exact h6
  · obtain ⟨⟨a1, a2, a3⟩, ⟨b1, b2, b3⟩, a4, ⟨e1, e2, e3⟩, a5, a6, a7, a8, a9, a10, a11⟩ := h8 n hn
    refine ⟨⟨?_, ?_, ?_⟩, ⟨?_, ?_, ?_⟩, a4, ⟨?_, ?_, ?_⟩, a5, a6, dc_fr hS (by omega) a9.f7 a7, dm_fr hT a8, a9, a10, a11⟩
    · rw [hS.1 _ _ (by omega) (by omega) (by omega)]; exact a1
    · rw [hS.1 _ _ (by omega) (by omega) (by omega)]; exact a2
    · rw [hS.2 _ _ (by omega) (by omega) (by omega)]; exact a3
    · rw [hT.1 _ _ (by omega) (by omega) (by omega) (by omega)]; exact b1
    · rw [hT.1 _ _ (by omega) (by omega) (by omega) (by omega)]; exact b2
    · rw [hT.2 _ _ (by omega)]; exact b3
    · rw [hS.1 _ _ (by omega) (by omega) (by omega)]; exact e1
    · rw [hS.1 _ _ (by omega) (by omega) (by omega)]; exact e2
    · rw [hS.2 _ _ (by omega) (by omega) (by omega)]; exact e3
theorem rp_fr {S S' T T' : St} {bc : Nat} {cn : Nat → Nat} {pc : Nat → Nat → Int} (h : RP S T bc cn pc) (hS : FrS S S') (hT : FrT T T') : RP S' T' bc cn pc := by
  obtain ⟨h1, h2, h3, h4, h5, h6⟩ := h
  refine ⟨?_, ?_, h3, fun f hf => ⟨fun j hj => ?_, (h4 f hf).2.1, fun j hj => ?_⟩, fun f hf => ?_, h6⟩
  · rw [hS.1 _ _ (by omega) (by omega) (by omega)]; exact h1
  · rw [hT.1 _ _ (by omega) (by omega) (by omega) (by omega)]; exact h2
  · rw [hS.1 _ _ (by omega) (by omega) (by omega)]; exact (h4 f hf).1 j hj
  · rw [hT.1 _ _ (by omega) (by omega) (by omega) (by omega)]; exact (h4 f hf).2.2 j hj
  · rw [hS.1 _ _ (by omega) (by omega) (by omega), hT.1 _ _ (by omega) (by omega) (by omega) (by omega)]; exact h5 f hf
theorem rr_fr {S S' T T' : St} {rowc : Nat} {rv : Nat → Int} (h : RR S T rowc rv) (hS : FrS S S') (hT : FrT T T') : RR S' T' rowc rv := by
  obtain ⟨h1, h2, h3, h4, h5⟩ := h
  refine ⟨?_, ?_, h3, h4, fun j hj => ?_⟩
  · rw [hS.1 _ _ (by omega) (by omega) (by omega)]; exact h1
  · rw [hT.1 _ _ (by omega) (by omega) (by omega) (by omega)]; exact h2
  · rw [hS.1 _ _ (by omega) (by omega) (by omega), hT.1 _ _ (by omega) (by omega) (by omega) (by omega)]; exact h5 j hj
theorem rx_fr {S S' T T' : St} {sz : Nat} {en : Nat → Int} (h : RX S T sz en) (hS : FrS S S') (hT : FrT T T') : RX S' T' sz en := by
  obtain ⟨h1, h2, h3, h4, h5⟩ := h
  refine ⟨?_, ?_, h3, h4, fun j hj => ?_⟩
  · rw [hS.1 _ _ (by omega) (by omega) (by omega)]; exact h1
  · rw [hT.1 _ _ (by omega) (by omega) (by omega) (by omega)]; exact h2
  · rw [hS.1 _ _ (by omega) (by omega) (by omega), hT.1 _ _ (by omega) (by omega) (by omega) (by omega)]; exact h5 j hj
theorem rel_fr {S S' T T' : St} (h : Rel S T) (hS : FrS S S') (hT : FrT T T') : Rel S' T' := by
  obtain ⟨p, r, cnt, num, early, D, C, bc, cn, pc, rowc, rv, sz, en, h1, h2, h3, h4⟩ := h
  exact ⟨p, r, cnt, num, early, D, C, bc, cn, pc, rowc, rv, sz, en, rn_fr h1 hS hT, rp_fr h2 hS hT, rr_fr h3 hS hT, rx_fr h4 hS hT⟩
/-- the two answers of a call: alike, and the states related again -/
def An (L : List (Nat × Nat)) (x : Option (Except Nat Int32 × St)) (y : Option (Int32 × St)) : Prop := ∃ (S' T' : St) (v : Int32), y = some (v, T') ∧ Rel S' T' ∧ ((x = some (.ok v, S') ∧ T'.1 0 17 = 0) ∨ ∃ q ∈ L, x = some (.error q.1, S') ∧ T'.1 0 17 = ji q.2)
def AnR (L : List (Nat × Nat)) (S : St) (x : Option (Except Nat Int32)) (y : Option (Int32 × St)) : Prop := ∃ (T' : St) (v : Int32), y = some (v, T') ∧ Rel S T' ∧ ((x = some (.ok v) ∧ T'.1 0 17 = 0) ∨ ∃ q ∈ L, x = some (.error q.1) ∧ T'.1 0 17 = ji q.2)
