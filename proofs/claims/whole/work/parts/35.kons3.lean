def ERack (ct : Nat → ClassId) (a : Nat → Nat) : Nat → va_E := fun o => if o = 0 then .inr (7, [.ref (a 1), .ref (a 3), .ref (a 21), .int 0, .ref (a 23), .ref (a 24), .ref (a 25)]) else if o = 1 then .inr (4, [.int 5, .int 12, .ref (a 2)]) else if o = 2 then .inl (ct 1, 30, .inr (.inl (SN5.2 1)))
    else if o = 3 then .inr (2, [.int 0, .ref (a 4)]) else if o = 4 then .inl (ct 4, 8, rfA (fun i => if i < 8 then some (a (5 + 2 * i)) else none)) else if o < 21 then (if o % 2 = 1 then .inr (6, [.int 0, .ref (a (o + 1))]) else .inl (ct 0, 7, .inl (fun _ => 0)))
    else if o = 21 then .inr (8, [.int 0, .ref (a 22)]) else if o = 22 then .inl (ct 0, 12, .inl (fun _ => 0)) else if o = 23 then .inl (ct 3, 40, rfA (fun i => if i < 40 then some (a (26 + i)) else none)) else .inr (5, numF fN0 (fun _ => 0))
theorem ER_congr {ct : Nat → ClassId} {ad ad' : Nat → Nat} (h : ∀ o, o < 26 → ad o = ad' o) {o : Nat} (ho : o ≠ 23) : ERack ct ad o = ERack ct ad' o := by
  unfold ERack
  have hf : (fun i => if i < 8 then some (ad (5 + 2 * i)) else none) = (fun i => if i < 8 then some (ad' (5 + 2 * i)) else none) := by
    funext i
    by_cases hi : i < 8
    · rw [if_pos hi, if_pos hi, h _ (by omega)]
    · rw [if_neg hi, if_neg hi]
  by_cases h21 : o < 21
  · rw [h 1 (by decide), h 2 (by decide), h 3 (by decide), h 4 (by decide), h 21 (by decide), h 22 (by decide), h 23 (by decide), h 24 (by decide), h 25 (by decide), hf, h (o + 1) (by omega), if_neg ho, if_neg ho]
  · rw [h 1 (by decide), h 2 (by decide), h 3 (by decide), h 4 (by decide), h 21 (by decide), h 22 (by decide), h 23 (by decide), h 24 (by decide), h 25 (by decide), hf, if_neg ho, if_neg ho, if_neg h21, if_neg h21]
def rm_X5_init : Room := { frames := 4, cells := 65, slots := 757, locals := 200 }
set_option maxHeartbeats 4000000 in
set_option maxRecDepth 100000 in
theorem k_X5_init (l : Launch) (D : va_G) (ct : Nat → ClassId) (h sz : Nat) : MetK l yX5_init cX5_init 2 rm_X5_init D ct h (.inr (7, [.null, .null, .null, .int 0, .null, .null, .null])) sz 65 757 (fun a => ERack ct a) := by
  refine MetK.of RX5 (by decide) rfl rfl (by decide) ?_
  intro p e s m args below meth c C hin hK hX hsz hw ls hl
  obtain ⟨hx, hb, hr, hml, hown, htL, hlocks⟩ := id C
  have hA : ∀ q, s.heap.size ≤ q → FK h sz q := fun q hq => Or.inr (by rw [← hsz]; exact hq)
  refine lv_aload_n hx hb dX5_init_0 rfl (lv_at hl 0 rfl) ?_
  refine kObj C hl.1 mw_1_38 mw_1_31 mw_1_32 dX5_init_1 ⟨Nat.le_of_ble_eq_true rfl, Nat.le_of_ble_eq_true rfl⟩ (Nat.le_of_ble_eq_true rfl) ?_
  refine lv_aload_n hx hb dX5_init_4 rfl (lv_at hl 0 rfl) ?_
  refine kNew (C9 := RX2) (T := TX2) (N := 3) (ci := 4) (fs := [.int 0, .int 0, .null]) C hK hw hA hwX2 tyX2 tyX2_ok mw_1_39 mw_1_40 mw_1_3 rfl (fun j hj => by rcases (show j = 0 ∨ j = 1 ∨ j = 2 by omega) with e | e | e <;> subst e <;> rfl) (Nat.le_of_ble_eq_true rfl) (Nat.le_of_ble_eq_true rfl) dX5_init_5 (fun q1 H hw => ?_)
  refine lv_dup hx hb dX5_init_8 rfl ?_
  refine kCall C hK hX hw hA 1 (by decide) rfl (k_X2_init l D ct _ H.size) hl.1 mw_1_43 mw_1_3 mw_1_42 mw_1_41 rfl (by decide +kernel) ⟨rfl, rfl⟩ ⟨Nat.le_of_ble_eq_true rfl, Nat.le_of_ble_eq_true rfl⟩ (Nat.le_of_ble_eq_true rfl) dX5_init_9 ⟨Nat.le_of_ble_eq_true rfl, Nat.le_of_ble_eq_true rfl⟩ (fun a1 H locs e1 hw => ?_)
  refine kPutF C hin hK hw (C9 := RX5) (T := TX5) (N := 7) (ci := 7) hwX5 tyX5 tyX5_ok nmX5 rfl 0 (by decide) rfl 0 (by decide) mw_1_169 rfl rfl (ty1 := .object "Henselhall$Near") (v := .ref q1) rfl rfl rfl (Nat.le_of_ble_eq_true rfl) dX5_init_12 (fun H locs hw => ?_)
  refine lv_aload_n hx hb dX5_init_15 rfl (lv_at hl 0 rfl) ?_
  refine kNew (C9 := RX0) (T := TX0) (N := 2) (ci := 2) (fs := [.int 0, .null]) C hK hw hA hwX0 tyX0 tyX0_ok mw_1_65 mw_1_66 mw_1_4 rfl (fun j hj => by rcases (show j = 0 ∨ j = 1 by omega) with e | e <;> subst e <;> rfl) (Nat.le_of_ble_eq_true rfl) (Nat.le_of_ble_eq_true rfl) dX5_init_16 (fun q3 H hw => ?_)
  refine lv_dup hx hb dX5_init_19 rfl ?_
  refine kCall C hK hX hw hA 3 (by decide) rfl (k_X0_init l D ct _ H.size) hl.1 mw_1_69 mw_1_4 mw_1_68 mw_1_67 rfl (by decide +kernel) ⟨rfl, rfl⟩ ⟨Nat.le_of_ble_eq_true rfl, Nat.le_of_ble_eq_true rfl⟩ (Nat.le_of_ble_eq_true rfl) dX5_init_20 ⟨Nat.le_of_ble_eq_true rfl, Nat.le_of_ble_eq_true rfl⟩ (fun a3 H locs e3 hw => ?_)
  refine kPutF C hin hK hw (C9 := RX5) (T := TX5) (N := 7) (ci := 7) hwX5 tyX5 tyX5_ok nmX5 rfl 0 (by decide) rfl 1 (by decide) mw_1_171 rfl rfl (ty1 := .object "Henselhall$Book") (v := .ref q3) rfl rfl rfl (Nat.le_of_ble_eq_true rfl) dX5_init_23 (fun H locs hw => ?_)
  refine lv_aload_n hx hb dX5_init_26 rfl (lv_at hl 0 rfl) ?_
  refine kNew (C9 := RX6) (T := TX6) (N := 2) (ci := 8) (fs := [.int 0, .null]) C hK hw hA hwX6 tyX6 tyX6_ok mw_1_96 mw_1_97 mw_1_6 rfl (fun j hj => by rcases (show j = 0 ∨ j = 1 by omega) with e | e <;> subst e <;> rfl) (Nat.le_of_ble_eq_true rfl) (Nat.le_of_ble_eq_true rfl) dX5_init_27 (fun q21 H hw => ?_)
  refine lv_dup hx hb dX5_init_30 rfl ?_
  refine kCallN C hK hX hw hA 21 (by decide) rfl (k_X6_init l D ct _ H.size) hl.1 mw_1_100 mw_1_6 mw_1_99 hX.2.2.2.1 rfl (by decide +kernel) ⟨rfl, rfl⟩ ⟨Nat.le_of_ble_eq_true rfl, Nat.le_of_ble_eq_true rfl⟩ (Nat.le_of_ble_eq_true rfl) dX5_init_31 ⟨Nat.le_of_ble_eq_true rfl, Nat.le_of_ble_eq_true rfl⟩ (fun a21 H locs e21 hw => ?_)
  refine kPutF C hin hK hw (C9 := RX5) (T := TX5) (N := 7) (ci := 7) hwX5 tyX5 tyX5_ok nmX5 rfl 0 (by decide) rfl 2 (by decide) mw_1_173 rfl rfl (ty1 := .object "Henselhall$Row") (v := .ref q21) rfl rfl rfl (Nat.le_of_ble_eq_true rfl) dX5_init_34 (fun H locs hw => ?_)
  refine lv_aload_n hx hb dX5_init_37 rfl (lv_at hl 0 rfl) ?_
  refine lv_bipush (v := 40) hx hb dX5_init_38 (by decide) ?_
  refine kRArr (C9 := RX3) (N' := 40) C hK hw hA mw_1_111 hX.1 3 rfl (by decide) rfl (by decide) (Nat.le_of_ble_eq_true rfl) (Nat.le_of_ble_eq_true rfl) dX5_init_40 (fun q23 H hw => ?_)
  refine kPutF C hin hK hw (C9 := RX5) (T := TX5) (N := 7) (ci := 7) hwX5 tyX5 tyX5_ok nmX5 rfl 0 (by decide) rfl 4 (by decide) mw_1_177 rfl rfl (ty1 := .array (.object "Henselhall$Num")) (v := .ref q23) rfl rfl rfl (Nat.le_of_ble_eq_true rfl) dX5_init_43 (fun H locs hw => ?_)
  refine lv_aload_n hx hb dX5_init_46 rfl (lv_at hl 0 rfl) ?_
  refine kNew (C9 := RX3) (T := TX3) (N := 14) (ci := 5) (fs := [.int 0, .int 0, .int 0, .int 0, .int 0, .int 0, .int 0, .int 0, .int 0, .int 0, .long 0, .int 0, .int 0, .long 0]) C hK hw hA hwX3 tyX3 tyX3_ok mw_1_111 mw_1_113 mw_1_7 rfl (fun j hj => by rcases (show j = 0 ∨ j = 1 ∨ j = 2 ∨ j = 3 ∨ j = 4 ∨ j = 5 ∨ j = 6 ∨ j = 7 ∨ j = 8 ∨ j = 9 ∨ j = 10 ∨ j = 11 ∨ j = 12 ∨ j = 13 by omega) with e | e | e | e | e | e | e | e | e | e | e | e | e | e <;> subst e <;> rfl) (Nat.le_of_ble_eq_true rfl) (Nat.le_of_ble_eq_true rfl) dX5_init_47 (fun q24 H hw => ?_)
  refine lv_dup hx hb dX5_init_50 rfl ?_
  refine kCallN C hK hX hw hA 24 (by decide) rfl (k_X3_init l D ct _ H.size) hl.1 mw_1_116 mw_1_7 mw_1_115 hX.2.2.2.2.1 rfl (by decide +kernel) ⟨rfl, rfl⟩ ⟨Nat.le_of_ble_eq_true rfl, Nat.le_of_ble_eq_true rfl⟩ (Nat.le_of_ble_eq_true rfl) dX5_init_51 ⟨Nat.le_of_ble_eq_true rfl, Nat.le_of_ble_eq_true rfl⟩ (fun a24 H locs e24 hw => ?_)
  refine kPutF C hin hK hw (C9 := RX5) (T := TX5) (N := 7) (ci := 7) hwX5 tyX5 tyX5_ok nmX5 rfl 0 (by decide) rfl 5 (by decide) mw_1_178 rfl rfl (ty1 := .object "Henselhall$Num") (v := .ref q24) rfl rfl rfl (Nat.le_of_ble_eq_true rfl) dX5_init_54 (fun H locs hw => ?_)
  refine lv_aload_n hx hb dX5_init_57 rfl (lv_at hl 0 rfl) ?_
  refine kNew (C9 := RX3) (T := TX3) (N := 14) (ci := 5) (fs := [.int 0, .int 0, .int 0, .int 0, .int 0, .int 0, .int 0, .int 0, .int 0, .int 0, .long 0, .int 0, .int 0, .long 0]) C hK hw hA hwX3 tyX3 tyX3_ok mw_1_111 mw_1_113 mw_1_7 rfl (fun j hj => by rcases (show j = 0 ∨ j = 1 ∨ j = 2 ∨ j = 3 ∨ j = 4 ∨ j = 5 ∨ j = 6 ∨ j = 7 ∨ j = 8 ∨ j = 9 ∨ j = 10 ∨ j = 11 ∨ j = 12 ∨ j = 13 by omega) with e | e | e | e | e | e | e | e | e | e | e | e | e | e <;> subst e <;> rfl) (Nat.le_of_ble_eq_true rfl) (Nat.le_of_ble_eq_true rfl) dX5_init_58 (fun q25 H hw => ?_)
  refine lv_dup hx hb dX5_init_61 rfl ?_
  refine kCallN C hK hX hw hA 25 (by decide) rfl (k_X3_init l D ct _ H.size) hl.1 mw_1_116 mw_1_7 mw_1_115 hX.2.2.2.2.1 rfl (by decide +kernel) ⟨rfl, rfl⟩ ⟨Nat.le_of_ble_eq_true rfl, Nat.le_of_ble_eq_true rfl⟩ (Nat.le_of_ble_eq_true rfl) dX5_init_62 ⟨Nat.le_of_ble_eq_true rfl, Nat.le_of_ble_eq_true rfl⟩ (fun a25 H locs e25 hw => ?_)
  refine kPutF C hin hK hw (C9 := RX5) (T := TX5) (N := 7) (ci := 7) hwX5 tyX5 tyX5_ok nmX5 rfl 0 (by decide) rfl 6 (by decide) mw_1_179 rfl rfl (ty1 := .object "Henselhall$Num") (v := .ref q25) rfl rfl rfl (Nat.le_of_ble_eq_true rfl) dX5_init_65 (fun H locs hw => ?_)
  refine lv_iconst (v := 0) hx hb dX5_init_68 (by decide) ?_
  refine lv_istore_n (lv' := [(1, .int 0), (0, .ref h)]) hx hb dX5_init_69 rfl hl (by decide) rfl (fun ls hl => ?_)
  have loop : ∀ (m9 j : Nat), j + m9 = 40 → ∀ (ad : Nat → Nat) (g : Nat → va_E) (f : Nat → Option Nat) (H : Heap) (locs : List Loc) (ls : Array Slot), ad 0 = h → KW D s (FK h sz) (26 + j) ad g H locs → g 23 = .inl (ct 3, 40, rfA f) →
      (∀ i, i < j → f i = some (ad (26 + i))) → (∀ o, o < 26 + j → o ≠ 23 → g o = ERack ct ad o) → lv_has ls 2 [(1, .int (nI j)), (0, .ref h)] →
      W p l e rm_X5_init s m args below meth c H locs (25 + j) (197 + 14 * j) (MQ below (Kq D h sz 65 (fun a => ERack ct a)) args s 65 757 (FK h sz)) (F0 m 70 ls []) := by
    intro m9
    induction m9 with
    | zero =>
      intro j hj ad g f H locs ls h0 hw hg23 hf hE hl
      subst h0
      have hj40 : j = 40 := by omega
      subst hj40
      have hg0 := hE 0 (by decide) (by decide)
      refine lv_iload_n hx hb dX5_init_70 rfl (lv_at hl 0 rfl) ?_
      refine lv_aload_n hx hb dX5_init_71 rfl (lv_at hl 1 rfl) ?_
      refine kGet C hK hw (C9 := RX5) (T := TX5) (N := 7) (ci := 7) hwX5 rfl 0 (by decide) hg0 4 (by decide) mw_1_177 rfl dX5_init_72 ?_
      refine kLen (v := 40) C hK hw 23 (by decide) hg23 3 rfl rfl dX5_init_75 ?_
      refine lv_icmp_ge (tgt := 98) hx hb dX5_init_76 (by decide) (fun c1 => ?_) (fun c1 => absurd (by decide) c1)
      have hw := arr_refs hw 23 hg23 (f' := fun i => if i < 40 then some (ad (26 + i)) else none) (fun i hi => by rw [if_pos hi]; exact hf i hi)
      refine kRet C hw rfl (fun o ho => ?_) dX5_init_98
      by_cases e0 : o = 23
      · subst e0
        rw [up_s]
        rfl
      · rw [up_n e0]
        exact hE o ho e0
    | succ m9 ih =>
      intro j hj ad g f H locs ls h0 hw hg23 hf hE hl
      subst h0
      have hj40 : j < 40 := by omega
      have hg0 := hE 0 (by omega) (by decide)
      refine lv_iload_n hx hb dX5_init_70 rfl (lv_at hl 0 rfl) ?_
      refine lv_aload_n hx hb dX5_init_71 rfl (lv_at hl 1 rfl) ?_
      refine kGet C hK hw (C9 := RX5) (T := TX5) (N := 7) (ci := 7) hwX5 rfl 0 (by omega) hg0 4 (by decide) mw_1_177 rfl dX5_init_72 ?_
      refine kLen (v := 40) C hK hw 23 (by omega) hg23 3 rfl rfl dX5_init_75 ?_
      refine lv_icmp_ge (tgt := 98) hx hb dX5_init_76 (by decide) (fun c1 => absurd c1 (nI_ge hj40 (by decide))) (fun c1 => ?_)
      refine lv_aload_n hx hb dX5_init_79 rfl (lv_at hl 1 rfl) ?_
      refine kGet C hK hw (C9 := RX5) (T := TX5) (N := 7) (ci := 7) hwX5 rfl 0 (by omega) hg0 4 (by decide) mw_1_177 rfl dX5_init_80 ?_
      refine lv_iload_n hx hb dX5_init_83 rfl (lv_at hl 0 rfl) ?_
      refine kNew (C9 := RX3) (T := TX3) (N := 14) (ci := 5) (fs := [.int 0, .int 0, .int 0, .int 0, .int 0, .int 0, .int 0, .int 0, .int 0, .int 0, .long 0, .int 0, .int 0, .long 0]) C hK hw hA hwX3 tyX3 tyX3_ok mw_1_111 mw_1_113 mw_1_7 rfl (fun j hj => by rcases (show j = 0 ∨ j = 1 ∨ j = 2 ∨ j = 3 ∨ j = 4 ∨ j = 5 ∨ j = 6 ∨ j = 7 ∨ j = 8 ∨ j = 9 ∨ j = 10 ∨ j = 11 ∨ j = 12 ∨ j = 13 by omega) with e | e | e | e | e | e | e | e | e | e | e | e | e | e <;> subst e <;> rfl) (by show 25 + j + 1 ≤ 65; omega) (by show 197 + 14 * j + 14 ≤ 757; omega) dX5_init_84 (fun q H hw => ?_)
      obtain ⟨ad1, had1⟩ : ∃ z, z = va_up ad (26 + j) q := ⟨_, rfl⟩
      rw [← had1] at hw
      have hq : q = ad1 (26 + j) := by rw [had1]; exact up_s.symm
      have hlow : ∀ o, o < 26 + j → ad1 o = ad o := fun o ho => by rw [had1]; exact up_n (by omega)
      rw [hq]
      refine lv_dup hx hb dX5_init_87 rfl ?_
      refine kCallN C hK hX hw hA (26 + j) (by omega) up_s (k_X3_init l D ct (ad1 (26 + j)) H.size) hl.1 mw_1_116 mw_1_7 mw_1_115 hX.2.2.2.2.1 rfl (by decide +kernel) ⟨rfl, rfl⟩ ⟨Nat.le_of_ble_eq_true rfl, Nat.le_of_ble_eq_true rfl⟩ (Nat.le_of_ble_eq_true rfl) dX5_init_88 ⟨by show 25 + j + 1 + 0 ≤ 65; omega, by show 197 + 14 * j + 14 + 0 ≤ 757; omega⟩ (fun a H locs ha0 hw => ?_)
      have hw := hw.congr (ad' := ad1) (g' := fun o => if o = 26 + j then .inr (5, numF fN0 (fun _ => 0)) else g o) (fun o ho => by
        refine ⟨if_pos (by omega), ?_⟩
        by_cases e1 : o = 26 + j
        · show (if o = 26 + j then _ else _) = (if o = 26 + j then _ else _)
          rw [if_pos e1, if_pos e1]
        · show (if o = 26 + j then _ else if o < 26 + j + 1 then va_up g (26 + j) _ o else _) = (if o = 26 + j then _ else _)
          rw [if_neg e1, if_neg e1, if_pos (by omega), up_n e1])
      rw [← hlow 23 (by omega)]
      refine kAst C hK hw 23 3 (26 + j) 5 (by omega) (by omega) (r := (RX3, TX3, 14)) ((if_neg (by omega)).trans hg23) rfl (if_pos rfl) rfl (vp_in_nI hj40 (by decide)) dX5_init_91 (fun H locs hw => ?_)
      refine lv_iinc (v := nI (j + 1)) (lv' := [(1, .int (nI (j + 1))), (0, .ref (ad 0))]) hx hb dX5_init_92 hl (k := 0) rfl (nI_1 j) (by decide) rfl (fun ls hl => ?_)
      refine lv_goto (tgt := 70) hx hb dX5_init_95 (by decide) ?_
      refine W_cs (show 25 + (j + 1) = 25 + j + 1 + 0 by omega) (show 197 + 14 * (j + 1) = 197 + 14 * j + 14 + 0 by omega) (ih (j + 1) (by omega) ad1 _ _ H locs ls (hlow 0 (by omega)) hw up_s ?_ ?_ hl)
      · intro i hi
        rw [nI_clamp (by omega : j < 2 ^ 31)]
        by_cases hij : i = j
        · subst hij
          exact up_s
        · rw [up_n hij, hf i (by omega), hlow _ (by omega)]
      · intro o ho hne
        rw [up_n hne]
        by_cases e1 : o = 26 + j
        · rw [if_pos e1, e1]
          unfold ERack
          rw [if_neg (by omega), if_neg (by omega), if_neg (by omega), if_neg (by omega), if_neg (by omega), if_neg (by omega), if_neg (by omega), if_neg (by omega), if_neg (by omega)]
        · rw [if_neg e1, hE o (by omega) hne]
          exact ER_congr (fun z hz => (hlow z (by omega)).symm) hne
  refine loop 40 0 rfl _ _ (fun _ => none) H _ ls rfl hw rfl (fun i hi => absurd hi (Nat.not_lt_zero i)) (fun o ho hne => ?_) hl
  rcases (show o = 0 ∨ o = 1 ∨ o = 2 ∨ o = 3 ∨ o = 4 ∨ o = 5 ∨ o = 6 ∨ o = 7 ∨ o = 8 ∨ o = 9 ∨ o = 10 ∨ o = 11 ∨ o = 12 ∨ o = 13 ∨ o = 14 ∨ o = 15 ∨ o = 16 ∨ o = 17 ∨ o = 18 ∨ o = 19 ∨ o = 20 ∨ o = 21 ∨ o = 22 ∨ o = 23 ∨ o = 24 ∨ o = 25 by omega) with e | e | e | e | e | e | e | e | e | e | e | e | e | e | e | e | e | e | e | e | e | e | e | e | e | e <;> subst e <;> first | rfl | exact absurd rfl hne | skip
  refine congrArg (fun z => Sum.inl (ct 4, 8, rfA z)) (funext fun i => ?_)
  by_cases hi : i < 8
  · rw [if_pos hi, if_pos hi]
    rcases (show i = 0 ∨ i = 1 ∨ i = 2 ∨ i = 3 ∨ i = 4 ∨ i = 5 ∨ i = 6 ∨ i = 7 by omega) with e | e | e | e | e | e | e | e <;> subst e <;> rfl
  · rw [if_neg hi, if_neg hi]
/-- places: 0 the house, 1 .. 66 the rack's (1 + its place), 67 the matrix, 68 entries, 69 minors -/
def EHen (ct : Nat → ClassId) (a : Nat → Nat) : Nat → va_E := fun o => if o = 0 then .inr (9, [.ref (a 1), .ref (a 67)]) else if o < 67 then ERack ct (fun i => a (i + 1)) (o - 1) else if o = 67 then .inr (3, [.int 1, .ref (a 68), .ref (a 69)]) else if o = 68 then .inl (ct 0, 16, .inl (fun _ => 0)) else .inl (ct 1, 256, .inr (.inl (fun _ => 0)))
def rm_X9_init : Room := { frames := 6, cells := 69, slots := 1039, locals := 260 }
set_option maxHeartbeats 4000000 in
set_option maxRecDepth 100000 in
theorem k_X9_init (l : Launch) (D : va_G) (ct : Nat → ClassId) (h sz : Nat) : MetK l yX9_init cX9_init 1 rm_X9_init D ct h (.inr (9, [.null, .null])) sz 69 1039 (fun a => EHen ct a) := by
  refine MetK.of RX9 (by decide) rfl rfl (by decide) ?_
  intro p e s m args below meth c C hin hK hX hsz hw ls hl
  obtain ⟨hx, hb, hr, hml, hown, htL, hlocks⟩ := id C
  have hA : ∀ q, s.heap.size ≤ q → FK h sz q := fun q hq => Or.inr (by rw [← hsz]; exact hq)
  refine lv_aload_n hx hb dX9_init_0 rfl (lv_at hl 0 rfl) ?_
  refine kObj C hl.1 mw_1_30 mw_1_31 mw_1_32 dX9_init_1 ⟨Nat.le_of_ble_eq_true rfl, Nat.le_of_ble_eq_true rfl⟩ (Nat.le_of_ble_eq_true rfl) ?_
  refine lv_aload_n hx hb dX9_init_4 rfl (lv_at hl 0 rfl) ?_
  refine kNew (C9 := RX5) (T := TX5) (N := 7) (ci := 7) (fs := [.null, .null, .null, .int 0, .null, .null, .null]) C hK hw hA hwX5 tyX5 tyX5_ok mw_1_33 mw_1_34 mw_1_2 rfl (fun j hj => by rcases (show j = 0 ∨ j = 1 ∨ j = 2 ∨ j = 3 ∨ j = 4 ∨ j = 5 ∨ j = 6 by omega) with e | e | e | e | e | e | e <;> subst e <;> rfl) (Nat.le_of_ble_eq_true rfl) (Nat.le_of_ble_eq_true rfl) dX9_init_5 (fun q1 H hw => ?_)
  refine lv_dup hx hb dX9_init_8 rfl ?_
  refine kCall C hK hX hw hA 1 (by decide) rfl (k_X5_init l D ct _ H.size) hl.1 mw_1_37 mw_1_2 mw_1_36 mw_1_35 rfl (by decide +kernel) ⟨rfl, rfl⟩ ⟨Nat.le_of_ble_eq_true rfl, Nat.le_of_ble_eq_true rfl⟩ (Nat.le_of_ble_eq_true rfl) dX9_init_9 ⟨Nat.le_of_ble_eq_true rfl, Nat.le_of_ble_eq_true rfl⟩ (fun a1 H locs e1 hw => ?_)
  refine kPutF C hin hK hw (C9 := RX9) (T := TX9) (N := 2) (ci := 9) hwX9 tyX9 tyX9_ok nmX9 rfl 0 (by decide) rfl 0 (by decide) mw_1_212 rfl rfl (ty1 := .object "Henselhall$Rack") (v := .ref q1) rfl rfl rfl (Nat.le_of_ble_eq_true rfl) dX9_init_12 (fun H locs hw => ?_)
  refine lv_aload_n hx hb dX9_init_15 rfl (lv_at hl 0 rfl) ?_
  refine kNew (C9 := RX1) (T := TX1) (N := 3) (ci := 3) (fs := [.int 0, .null, .null]) C hK hw hA hwX1 tyX1 tyX1_ok mw_1_195 mw_1_196 mw_1_8 rfl (fun j hj => by rcases (show j = 0 ∨ j = 1 ∨ j = 2 by omega) with e | e | e <;> subst e <;> rfl) (Nat.le_of_ble_eq_true rfl) (Nat.le_of_ble_eq_true rfl) dX9_init_16 (fun q2 H hw => ?_)
  refine lv_dup hx hb dX9_init_19 rfl ?_
  refine kCallN C hK hX hw hA 67 (by decide) rfl (k_X1_init l D ct _ H.size) hl.1 mw_1_199 mw_1_8 mw_1_198 hX.2.2.2.2.2 rfl (by decide +kernel) ⟨rfl, rfl⟩ ⟨Nat.le_of_ble_eq_true rfl, Nat.le_of_ble_eq_true rfl⟩ (Nat.le_of_ble_eq_true rfl) dX9_init_20 ⟨Nat.le_of_ble_eq_true rfl, Nat.le_of_ble_eq_true rfl⟩ (fun a2 H locs e2 hw => ?_)
  refine kPutF C hin hK hw (C9 := RX9) (T := TX9) (N := 2) (ci := 9) hwX9 tyX9 tyX9_ok nmX9 rfl 0 (by decide) rfl 1 (by decide) mw_1_213 rfl rfl (ty1 := .object "Henselhall$Matrix") (v := .ref q2) rfl rfl rfl (Nat.le_of_ble_eq_true rfl) dX9_init_23 (fun H locs hw => ?_)
  refine kRet C hw rfl (fun o ho => ?_) dX9_init_26
  by_cases h0 : o = 0
  · subst h0
    rfl
  · by_cases h67 : o < 67
    · rw [up_n h0]
      show (if o = 67 then _ else if o < 68 then _ else _) = _
      rw [if_neg (by omega), if_pos (by omega), up_n (by omega), up_n h0]
      show (if o = 1 then _ else if o < 2 then _ else _) = _
      unfold EHen
      rw [if_neg h0, if_pos h67]
      have key : ∀ z : Nat → Nat, (∀ i, i < 66 → a1 i = z i) → ∀ o, o < 66 → ERack ct a1 o = ERack ct z o := by
        intro z hz o ho
        by_cases h23 : o = 23
        · subst h23
          show Sum.inl (ct 3, 40, rfA _) = Sum.inl (ct 3, 40, rfA _)
          refine congrArg (fun z => Sum.inl (ct 3, 40, rfA z)) (funext fun i => ?_)
          by_cases hi : i < 40
          · rw [if_pos hi, if_pos hi, hz _ (by omega)]
          · rw [if_neg hi, if_neg hi]
        · exact ER_congr (fun o ho => hz o (by omega)) h23
      have kz : ∀ i, i < 66 → a1 i = (fun i => (if i + 1 < 68 then va_up (fun o => if o < 2 then va_up (fun _ => h) 1 q1 o else a1 (o - 2 + 1)) 67 q2 (i + 1) else a2 (i + 1 - 68 + 1))) i := by
        intro i hi
        show a1 i = if i + 1 < 68 then _ else _
        rw [if_pos (by omega), up_n (by omega)]
        show a1 i = if i + 1 < 2 then _ else _
        by_cases hi0 : i = 0
        · subst hi0
          rw [if_pos (by decide), e1]
        · rw [if_neg (by omega), show i + 1 - 2 + 1 = i by omega]
      by_cases h1 : o = 1
      · subst h1
        rw [if_pos rfl]
        exact key _ kz 0 (by decide)
      · rw [if_neg h1, if_neg (by omega), show o - 2 + 1 = o - 1 by omega]
        exact key _ kz (o - 1) (by omega)
    · rcases (show o = 67 ∨ o = 68 ∨ o = 69 by omega) with e | e | e <;> subst e <;> rfl
