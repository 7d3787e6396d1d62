theorem arr_refs {D : va_G} {s : State} {FF : Nat → Prop} {n : Nat} {ad : Nat → Nat} {g : Nat → va_E} {H : Heap} {locs : List Loc} (hw : KW D s FF n ad g H locs) (o : Nat) {c : ClassId} {N : Nat} {f f' : Nat → Option Nat} (hg : g o = .inl (c, N, rfA f)) (hf : ∀ i, i < N → f i = f' i) : KW D s FF n ad (va_up g o (.inl (c, N, rfA f'))) H locs := by
  obtain ⟨hP, hD, hS⟩ := hw
  refine ⟨fun k q hq => ?_, ⟨fun i j p q hp hq e => ?_, fun k q hq => ?_⟩, hS⟩
  · obtain ⟨h1, rfl⟩ := cl_ge hq
    have h2 := hP k _ (cl_get h1)
    by_cases hk : k = o
    · subst hk
      rw [up_s]
      rw [hg] at h2
      show H[ad k]? = some (vp_cell c (N, rfA f'))
      have h3 : H[ad k]? = some (vp_cell c (N, rfA f)) := h2
      rw [h3, vp_cell_q, vp_cell_q]
      congr 1
      unfold arrV
      congr 1
      congr 1
      funext j
      show va_rf (f j.val) = va_rf (f' j.val)
      rw [hf j.val j.isLt]
    · rw [up_n hk]
      exact h2
  · obtain ⟨h1, rfl⟩ := cl_ge hp
    obtain ⟨h2, rfl⟩ := cl_ge hq
    exact hD.1 i j _ _ (cl_get h1) (cl_get h2) e
  · obtain ⟨h1, rfl⟩ := cl_ge hq
    exact hD.2 k (ad k, g k) (cl_get h1)
theorem W_cs {p : Program} {l : Launch} {e : Env} {R : Room} {s : State} {m : MethodId} {args : Array Value} {below : List Frame} {meth : Method} {c : Code} {H : Heap} {locs : List Loc} {cells slots cells' slots' : Nat} {Q : State → Prop} {g : JFrame} (h1 : cells' = cells) (h2 : slots' = slots) (k : W p l e R s m args below meth c H locs cells' slots' Q g) : W p l e R s m args below meth c H locs cells slots Q g := by
  subst h1; subst h2
  exact k
def rm_X0_init : Room := { frames := 3, cells := 17, slots := 80, locals := 140 }
set_option maxHeartbeats 4000000 in
set_option maxRecDepth 100000 in
theorem k_X0_init (l : Launch) (D : va_G) (ct : Nat → ClassId) (h sz : Nat) : MetK l yX0_init cX0_init 2 rm_X0_init D ct h (.inr (2, [.int 0, .null])) sz 17 80 (fun a o => if o = 0 then .inr (2, [.int 0, .ref (a 1)]) else if o = 1 then .inl (ct 4, 8, rfA (fun i => if i < 8 then some (a (2 + 2 * i)) else none)) else if o % 2 = 0 then .inr (6, [.int 0, .ref (a (o + 1))]) else .inl (ct 0, 7, .inl (fun _ => 0))) := by
  refine MetK.of RX0 (by decide) rfl rfl (by decide) ?_
  intro p e s m args below meth c C hin hK hX hsz hw ls hl
  obtain ⟨hx, hb, hr, hml, hown, htL, hlocks⟩ := id C
  have hA : ∀ q, s.heap.size ≤ q → FK h sz q := fun q hq => Or.inr (by rw [← hsz]; exact hq)
  refine lv_aload_n hx hb dX0_init_0 rfl (lv_at hl 0 rfl) ?_
  refine kObj C hl.1 mw_1_70 mw_1_31 mw_1_32 dX0_init_1 ⟨Nat.le_of_ble_eq_true rfl, Nat.le_of_ble_eq_true rfl⟩ (Nat.le_of_ble_eq_true rfl) ?_
  refine lv_aload_n hx hb dX0_init_4 rfl (lv_at hl 0 rfl) ?_
  refine lv_bipush (v := 8) hx hb dX0_init_5 (by decide) ?_
  refine kRArr (C9 := RX4) (N' := 8) C hK hw hA mw_1_71 hX.2.1 4 rfl (by decide) rfl (by decide) (Nat.le_of_ble_eq_true rfl) (Nat.le_of_ble_eq_true rfl) dX0_init_7 (fun q1 H hw => ?_)
  refine kPutF C hin hK hw (C9 := RX0) (T := TX0) (N := 2) (ci := 2) hwX0 tyX0 tyX0_ok nmX0 rfl 0 (by decide) rfl 1 (by decide) mw_1_90 rfl rfl (ty1 := .array (.object "Henselhall$Polynomial")) (v := .ref q1) rfl rfl rfl (Nat.le_of_ble_eq_true rfl) dX0_init_10 (fun H locs hw => ?_)
  refine lv_iconst (v := 0) hx hb dX0_init_13 (by decide) ?_
  refine lv_istore_n (lv' := [(1, .int 0), (0, .ref h)]) hx hb dX0_init_14 rfl hl (by decide) rfl (fun ls hl => ?_)
  have loop : ∀ (m9 j : Nat), j + m9 = 8 → ∀ (ad : Nat → Nat) (g : Nat → va_E) (f : Nat → Option Nat) (H : Heap) (locs : List Loc) (ls : Array Slot), ad 0 = h → KW D s (FK h sz) (2 + 2 * j) ad g H locs → g 0 = .inr (2, [.int 0, .ref (ad 1)]) → g 1 = .inl (ct 4, 8, rfA f) →
      (∀ i, i < j → f i = some (ad (2 + 2 * i)) ∧ g (2 + 2 * i) = .inr (6, [.int 0, .ref (ad (3 + 2 * i))]) ∧ g (3 + 2 * i) = .inl (ct 0, 7, .inl (fun _ => 0))) → lv_has ls 2 [(1, .int (nI j)), (0, .ref h)] →
      W p l e rm_X0_init s m args below meth c H locs (1 + 2 * j) (8 + 9 * j) (MQ below (Kq D h sz 17 (fun a o => if o = 0 then .inr (2, [.int 0, .ref (a 1)]) else if o = 1 then .inl (ct 4, 8, rfA (fun i => if i < 8 then some (a (2 + 2 * i)) else none)) else if o % 2 = 0 then .inr (6, [.int 0, .ref (a (o + 1))]) else .inl (ct 0, 7, .inl (fun _ => 0)))) args s 17 80 (FK h sz)) (F0 m 15 ls []) := by
    intro m9
    induction m9 with
    | zero =>
      intro j hj ad g f H locs ls h0 hw hg0 hg1 hf hl
      subst h0
      have hj8 : j = 8 := by omega
      subst hj8
      refine lv_iload_n hx hb dX0_init_15 rfl (lv_at hl 0 rfl) ?_
      refine lv_aload_n hx hb dX0_init_16 rfl (lv_at hl 1 rfl) ?_
      refine kGet C hK hw (C9 := RX0) (T := TX0) (N := 2) (ci := 2) hwX0 rfl 0 (by decide) hg0 1 (by decide) mw_1_90 rfl dX0_init_17 ?_
      refine kLen (v := 8) C hK hw 1 (by decide) hg1 4 rfl rfl dX0_init_20 ?_
      refine lv_icmp_ge (tgt := 43) hx hb dX0_init_21 (by decide) (fun c1 => ?_) (fun c1 => absurd (by decide) c1)
      have hw := arr_refs hw 1 hg1 (f' := fun i => if i < 8 then some (ad (2 + 2 * i)) else none) (fun i hi => by rw [if_pos hi]; exact (hf i hi).1)
      refine kRet C hw rfl (fun o ho => ?_) dX0_init_43
      by_cases e0 : o = 0
      · subst e0
        rw [up_n (by decide), hg0, if_pos rfl]
      · by_cases e1 : o = 1
        · subst e1
          rw [up_s]
          rfl
        · rw [up_n e1, if_neg e0, if_neg e1]
          obtain ⟨i, hi⟩ : ∃ i, o = 2 + 2 * i ∨ o = 3 + 2 * i := ⟨(o - 2) / 2, by omega⟩
          rcases hi with hi | hi
          · subst hi
            rw [if_pos (by omega), (hf i (by omega)).2.1, show 2 + 2 * i + 1 = 3 + 2 * i by omega]
          · subst hi
            rw [if_neg (by omega), (hf i (by omega)).2.2]
    | succ m9 ih =>
      intro j hj ad g f H locs ls h0 hw hg0 hg1 hf hl
      subst h0
      have hj8 : j < 8 := by omega
      refine lv_iload_n hx hb dX0_init_15 rfl (lv_at hl 0 rfl) ?_
      refine lv_aload_n hx hb dX0_init_16 rfl (lv_at hl 1 rfl) ?_
      refine kGet C hK hw (C9 := RX0) (T := TX0) (N := 2) (ci := 2) hwX0 rfl 0 (by omega) hg0 1 (by decide) mw_1_90 rfl dX0_init_17 ?_
      refine kLen (v := 8) C hK hw 1 (by omega) hg1 4 rfl rfl dX0_init_20 ?_
      refine lv_icmp_ge (tgt := 43) hx hb dX0_init_21 (by decide) (fun c1 => absurd c1 (nI_ge hj8 (by decide))) (fun c1 => ?_)
      refine lv_aload_n hx hb dX0_init_24 rfl (lv_at hl 1 rfl) ?_
      refine kGet C hK hw (C9 := RX0) (T := TX0) (N := 2) (ci := 2) hwX0 rfl 0 (by omega) hg0 1 (by decide) mw_1_90 rfl dX0_init_25 ?_
      refine lv_iload_n hx hb dX0_init_28 rfl (lv_at hl 0 rfl) ?_
      refine kNew (C9 := RX4) (T := TX4) (N := 2) (ci := 6) (fs := [.int 0, .null]) C hK hw hA hwX4 tyX4 tyX4_ok mw_1_71 mw_1_73 mw_1_5 rfl (fun j hj => by rcases (show j = 0 ∨ j = 1 by omega) with e | e <;> subst e <;> rfl) (by show 1 + 2 * j + 1 ≤ 17; omega) (by show 8 + 9 * j + 2 ≤ 80; omega) dX0_init_29 (fun q H hw => ?_)
      obtain ⟨ad1, had1⟩ : ∃ z, z = va_up ad (2 + 2 * j) q := ⟨_, rfl⟩
      rw [← had1] at hw
      have hq : q = ad1 (2 + 2 * j) := by rw [had1]; exact up_s.symm
      have hlow : ∀ o, o < 2 + 2 * j → ad1 o = ad o := fun o ho => by rw [had1]; exact up_n (by omega)
      rw [hq]
      refine lv_dup hx hb dX0_init_32 rfl ?_
      refine kCallN C hK hX hw hA (2 + 2 * j) (by omega) up_s (k_X4_init l D ct (ad1 (2 + 2 * j)) H.size) hl.1 mw_1_76 mw_1_5 mw_1_75 hX.2.2.1 rfl (by decide +kernel) ⟨rfl, rfl⟩ ⟨Nat.le_of_ble_eq_true rfl, Nat.le_of_ble_eq_true rfl⟩ (Nat.le_of_ble_eq_true rfl) dX0_init_33 ⟨by show 1 + 2 * j + 1 + 1 ≤ 17; omega, by show 8 + 9 * j + 2 + 7 ≤ 80; omega⟩ (fun a H locs ha0 hw => ?_)
      obtain ⟨ad2, had2⟩ : ∃ z : Nat → Nat, z = (fun o => if o < 2 + 2 * j + 1 then ad1 o else a (o - (2 + 2 * j + 1) + 1)) := ⟨_, rfl⟩
      rw [← had2] at hw
      have l2 : ∀ o, o < 2 + 2 * j → ad2 o = ad o := fun o ho => by rw [had2]; show (if o < 2 + 2 * j + 1 then ad1 o else _) = _; rw [if_pos (by omega)]; exact hlow o ho
      have l3 : ad2 (2 + 2 * j) = ad1 (2 + 2 * j) := by rw [had2]; show (if 2 + 2 * j < 2 + 2 * j + 1 then _ else _) = _; rw [if_pos (by omega)]
      have l4 : ad2 (3 + 2 * j) = a 1 := by rw [had2]; show (if 3 + 2 * j < 2 + 2 * j + 1 then _ else _) = _; rw [if_neg (by omega), show 3 + 2 * j - (2 + 2 * j + 1) + 1 = 1 by omega]
      obtain ⟨g2, hg2⟩ : ∃ z : Nat → va_E, z = (fun o => if o = 2 + 2 * j then (fun (a : Nat → Nat) (o : Nat) => (if o = 0 then .inr (6, [.int 0, .ref (a 1)]) else .inl (ct 0, 7, .inl (fun _ => 0)) : va_E)) a 0 else if o < 2 + 2 * j + 1 then va_up g (2 + 2 * j) (.inr (6, [.int 0, .null])) o else (fun (a : Nat → Nat) (o : Nat) => (if o = 0 then .inr (6, [.int 0, .ref (a 1)]) else .inl (ct 0, 7, .inl (fun _ => 0)) : va_E)) a (o - (2 + 2 * j + 1) + 1)) := ⟨_, rfl⟩
      rw [← hg2] at hw
      have m2 : ∀ o, o < 2 + 2 * j → g2 o = g o := fun o ho => by rw [hg2]; show (if o = 2 + 2 * j then _ else if o < 2 + 2 * j + 1 then _ else _) = _; rw [if_neg (by omega), if_pos (by omega)]; exact up_n (by omega)
      have m3 : g2 (2 + 2 * j) = .inr (6, [.int 0, .ref (ad2 (3 + 2 * j))]) := by rw [hg2, l4]; show (if 2 + 2 * j = 2 + 2 * j then _ else _) = _; rw [if_pos rfl]; rfl
      have m4 : g2 (3 + 2 * j) = .inl (ct 0, 7, .inl (fun _ => 0)) := by rw [hg2]; show (if 3 + 2 * j = 2 + 2 * j then _ else if 3 + 2 * j < 2 + 2 * j + 1 then _ else _) = _; rw [if_neg (by omega), if_neg (by omega), show 3 + 2 * j - (2 + 2 * j + 1) + 1 = 1 by omega]; rfl
      rw [← l3, ← l2 1 (by omega)]
      refine kAst C hK hw 1 4 (2 + 2 * j) 6 (by omega) (by omega) (r := (RX4, TX4, 2)) ((m2 1 (by omega)).trans hg1) rfl m3 rfl (vp_in_nI hj8 (by decide)) dX0_init_36 (fun H locs hw => ?_)
      refine lv_iinc (v := nI (j + 1)) (lv' := [(1, .int (nI (j + 1))), (0, .ref (ad 0))]) hx hb dX0_init_37 hl (k := 0) rfl (nI_1 j) (by decide) rfl (fun ls hl => ?_)
      refine lv_goto (tgt := 15) hx hb dX0_init_40 (by decide) ?_
      have hw : KW D s (FK (ad 0) sz) (2 + 2 * (j + 1)) ad2 (va_up g2 1 (.inl (ct 4, 8, rfA (va_up f (nI j).toNatClampNeg (some (ad2 (2 + 2 * j))))))) H locs := hw
      refine W.eq rfl (W_cs (show 1 + 2 * (j + 1) = 1 + 2 * j + 1 + 1 by omega) (show 8 + 9 * (j + 1) = 8 + 9 * j + 2 + 7 by omega) (ih (j + 1) (by omega) ad2 _ _ H locs ls (l2 0 (by omega)) hw ?_ up_s ?_ hl))
      · rw [up_n (by decide), m2 0 (by omega), hg0, l2 1 (by omega)]
      · intro i hi
        rw [nI_clamp (by omega : j < 2 ^ 31)]
        by_cases hij : i = j
        · subst hij
          refine ⟨up_s, ?_, ?_⟩
          · rw [up_n (by omega)]; exact m3
          · rw [up_n (by omega)]; exact m4
        · obtain ⟨f1, f2, f3⟩ := hf i (by omega)
          refine ⟨?_, ?_, ?_⟩
          · rw [up_n hij, f1, l2 _ (by omega)]
          · rw [up_n (by omega), m2 _ (by omega), f2, l2 _ (by omega)]
          · rw [up_n (by omega), m2 _ (by omega), f3]
  exact loop 8 0 rfl _ _ _ H _ ls rfl hw rfl rfl (fun i hi => absurd hi (Nat.not_lt_zero i)) hl
