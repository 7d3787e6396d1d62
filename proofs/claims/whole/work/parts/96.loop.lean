/-! the law's loop -/
theorem in5 {L i : Nat} (hL : L ≤ 2560) (h : i + 5 ≤ L) : ∀ j : Int32, 0 ≤ j → j ≤ 4 → vp_in (ji (i : Int) + j) L := by
  intro j h0 h4
  obtain ⟨z, rfl, hz⟩ := ji_ex j
  have a := (ji_le (by omega) hz).mp (show ji 0 ≤ ji z from h0)
  have b := (ji_le hz (by omega)).mp (show ji z ≤ ji 4 from h4)
  rw [ji_add]
  unfold vp_in
  rintro (q | q)
  · have := (ji_lt (by omega) (by omega)).mp (show ji ((i : Int) + z) < ji 0 from q)
    omega
  · rw [ji_nat (by omega)] at q
    omega
theorem in0 {L i : Nat} (hL : L ≤ 2560) (h : i + 5 ≤ L) : vp_in (ji (i : Int)) L := by
  unfold vp_in
  rintro (q | q)
  · have := (ji_lt (by omega) (by omega)).mp (show ji (i : Int) < ji 0 from q)
    omega
  · rw [ji_nat (by omega)] at q
    omega
set_option maxHeartbeats 4000000 in
theorem law_loop {p : Program} {l : Launch} {e : Env} {s : State} {m : MethodId} {below : List Frame} {meth : Method} {c : Code} {D : va_G} {ct : Nat → ClassId} {ad am : Nat → Nat} {ao ao2 b L B : Nat} {xs : Nat → Int32} (hl0 : l.stackTraces = false) (hL : L ≤ 2560) (hB : B ≤ 100000) (C : Cx p c cL_law meth s m #[Value.ref b] RL (some .boolean) 9) (hX : va_X b L xs s s.heap) (hbl : b < s.heap.size) (hK : va_K D vwCl (tysW ct) s) (hXf : Xf (fun q => s.heap.size ≤ q) s) (hNc : Nc6 s) (hD : Ld ad am ao ao2 s) :
    ∀ (n t : Nat) (S T : St) (g : Nat → Int64) (gd : Nat → UInt64) (H : Heap) (locs : List Loc) (ls : Array Slot), 5 * t ≤ L → L + 5 ≤ 5 * t + 5 * n → Lw D ct ad am ao ao2 s S T g gd H locs → Rel S T → lv_has ls 9 [(0, .ref b), (1, .ref (ad 0)), (2, .ref (am 0)), (3, .ref ao), (4, .ref ao2), (5, .int (ji ((5 * t : Nat) : Int)))] → W p l e room_1 s m #[Value.ref b] below meth c H locs (100 + t) (B + 6 * t) (lw_Z below #[Value.ref b] s) (F0 m 28 ls []) := by
  obtain ⟨hx, hb, hr, hml, hown, htL, hlocks⟩ := id C
  have hbA : ¬ (fun q : Nat => s.heap.size ≤ q) b := Nat.not_le.mpr hbl
  have rm1 : room_1.cells = 603072 := rfl
  have rm2 : room_1.slots = 7202922 := rfl
  intro n
  induction n with
  | zero =>
    intro t S T g gd H locs ls h1 h2
    exact absurd h2 (by omega)
  | succ n ih =>
    intro t S T g gd H locs ls h1 h2 hw hRel hl
    have eL : Int32.ofNat L = ji (L : Int) := rfl
    refine lv_iload hx hb dL_law_28 (lv_at hl 5 rfl) ?_
    refine lv_aload_n hx hb dL_law_30 rfl (lv_at hl 0 rfl) ?_
    refine va_slen hx hb hX hbl hbA hw.2.2.2.2 dL_law_31 ?_
    refine lv_iconst (v := 5) hx hb dL_law_32 (by decide) ?_
    refine lv_isub hx hb dL_law_33 ?_
    rw [eL, i5, ji_sub]
    refine lv_icmp_gt (tgt := 2561) hx hb dL_law_34 (by decide) (fun c1 => ?_) (fun c1 => ?_)
    · refine lv_iconst (v := 1) hx hb dL_law_2561 (by decide) ?_
      refine va_forget (fun q hq => hw.2.2.2.2.2.2 q hq) ?_
      refine W.widen (k := 603072) (n := 7202922) (by omega) (by omega) ?_
      refine W.base ?_
      exact lw_ret (Drawn.sameBut.refl s.drawn lw_cs) hx hb hr hlocks dL_law_2562
    · have hi : 5 * t + 5 ≤ L := by
        apply Nat.le_of_not_lt
        intro q
        exact c1 ((ji_lt (by omega) (by omega)).mpr (by omega))
      have hin := in5 hL hi
      have next : ∀ (S' T' : St) (g' : Nat → Int64) (gd' : Nat → UInt64) (H' : Heap) (locs' : List Loc) (ls' : Array Slot), Rel S' T' → Lw D ct ad am ao ao2 s S' T' g' gd' H' locs' → lv_has ls' 9 [(0, .ref b), (1, .ref (ad 0)), (2, .ref (am 0)), (3, .ref ao), (4, .ref ao2), (5, .int (ji ((5 * t : Nat) : Int)))] → W p l e room_1 s m #[Value.ref b] below meth c H' locs' (100 + t + 1) (B + 6 * t + 6) (lw_Z below #[Value.ref b] s) (F0 m 2555 ls' []) := by
        intro S' T' g' gd' H' locs' ls' hRel' hw' hl'
        refine lv_iinc (v := ji ((5 * (t + 1) : Nat) : Int)) (lv' := [(5, .int (ji ((5 * (t + 1) : Nat) : Int))), (0, .ref b), (1, .ref (ad 0)), (2, .ref (am 0)), (3, .ref ao), (4, .ref ao2)]) hx hb dL_law_2555 hl' (k := 5) rfl (by rw [show Int32.ofInt 5 = ji 5 from rfl, ji_add, show ((5 * (t + 1) : Nat) : Int) = ((5 * t : Nat) : Int) + 5 by omega]) (by decide) rfl (fun ls hl => ?_)
        refine lv_goto (tgt := 28) hx hb dL_law_2558 (by decide) ?_
        exact ih (t + 1) S' T' g' gd' H' locs' ls (by omega) (by omega) hw' hRel' (lv_sub hl [1, 2, 3, 4, 5, 0] rfl)
      have hroom : 100 + t + 1 ≤ room_1.cells ∧ B + 6 * t + 6 ≤ room_1.slots := by
        rw [rm1, rm2]
        omega
      refine lv_aload_n hx hb dL_law_37 rfl (lv_at hl 0 rfl) ?_
      refine lv_iload hx hb dL_law_38 (lv_at hl 5 rfl) ?_
      refine va_sld hx hb hX hbl hbA hw.2.2.2.2 (in0 hL hi) dL_law_40 ?_
      refine lv_bipush (v := 63) hx hb dL_law_41 (by decide) ?_
      refine lv_iand hx hb dL_law_43 ?_
      generalize xs (Int32.toNatClampNeg (ji ((5 * t : Nat) : Int))) &&& 63 = w
      have cs : w.toInt = 0 ∨ w.toInt = 1 ∨ w.toInt = 2 ∨ w.toInt = 3 ∨ w.toInt = 4 ∨ w.toInt = 5 ∨ w.toInt = 6 ∨ w.toInt = 7 ∨ w.toInt = 8 ∨ w.toInt = 9 ∨ w.toInt = 10 ∨ w.toInt = 11 ∨ w.toInt = 12 ∨ w.toInt = 13 ∨ w.toInt = 14 ∨ w.toInt = 15 ∨ w.toInt = 16 ∨ w.toInt = 17 ∨ w.toInt = 18 ∨ w.toInt = 19 ∨ w.toInt = 20 ∨ w.toInt = 21 ∨ w.toInt = 22 ∨ w.toInt = 23 ∨ w.toInt = 24 ∨ w.toInt = 25 ∨ w.toInt = 26 ∨ w.toInt = 27 ∨ w.toInt = 28 ∨ w.toInt = 29 ∨ w.toInt = 30 ∨ w.toInt = 31 ∨ w.toInt = 32 ∨ w.toInt = 33 ∨ w.toInt = 34 ∨ w.toInt = 35 ∨ w.toInt = 36 ∨ w.toInt = 37 ∨ w.toInt = 38 ∨ w.toInt < 0 ∨ 38 < w.toInt := by omega
      rcases cs with e | e | e | e | e | e | e | e | e | e | e | e | e | e | e | e | e | e | e | e | e | e | e | e | e | e | e | e | e | e | e | e | e | e | e | e | e | e | e | e
      · refine lv_tableIn (off := 172) (tgt := 216) hx hb dL_law_44 (by rw [e]; decide) (by rw [e]; decide) (by rw [e]; rfl) (by decide) ?_
        exact ca_setPrime hl0 C hX hbl hK hXf hNc hD hw hRel hin hroom next hl
      · refine lv_tableIn (off := 228) (tgt := 272) hx hb dL_law_44 (by rw [e]; decide) (by rw [e]; decide) (by rw [e]; rfl) (by decide) ?_
        exact ca_reach hl0 C hX hbl hK hXf hNc hD hw hRel hin hroom next hl
      · refine lv_tableIn (off := 241) (tgt := 285) hx hb dL_law_44 (by rw [e]; decide) (by rw [e]; decide) (by rw [e]; rfl) (by decide) ?_
        exact ca_give hl0 C hX hbl hK hXf hNc hD hw hRel hin hroom next hl
      · refine lv_tableIn (off := 321) (tgt := 365) hx hb dL_law_44 (by rw [e]; decide) (by rw [e]; decide) (by rw [e]; rfl) (by decide) ?_
        exact ca_add hl0 C hX hbl hK hXf hNc hD hw hRel hin hroom next hl
      · refine lv_tableIn (off := 389) (tgt := 433) hx hb dL_law_44 (by rw [e]; decide) (by rw [e]; decide) (by rw [e]; rfl) (by decide) ?_
        exact ca_subtract hl0 C hX hbl hK hXf hNc hD hw hRel hin hroom next hl
      · refine lv_tableIn (off := 457) (tgt := 501) hx hb dL_law_44 (by rw [e]; decide) (by rw [e]; decide) (by rw [e]; rfl) (by decide) ?_
        exact ca_multiply hl0 C hX hbl hK hXf hNc hD hw hRel hin hroom next hl
      · refine lv_tableIn (off := 525) (tgt := 569) hx hb dL_law_44 (by rw [e]; decide) (by rw [e]; decide) (by rw [e]; rfl) (by decide) ?_
        exact ca_divide hl0 C hX hbl hK hXf hNc hD hw hRel hin hroom next hl
      · refine lv_tableIn (off := 593) (tgt := 637) hx hb dL_law_44 (by rw [e]; decide) (by rw [e]; decide) (by rw [e]; rfl) (by decide) ?_
        exact ca_root hl0 C hX hbl hK hXf hNc hD hw hRel hin hroom next hl
      · refine lv_tableIn (off := 649) (tgt := 693) hx hb dL_law_44 (by rw [e]; decide) (by rw [e]; decide) (by rw [e]; rfl) (by decide) ?_
        exact ca_unity hl0 C hX hbl hK hXf hNc hD hw hRel hin hroom next hl
      · refine lv_tableIn (off := 705) (tgt := 749) hx hb dL_law_44 (by rw [e]; decide) (by rw [e]; decide) (by rw [e]; rfl) (by decide) ?_
        exact ca_precision hl0 C hX hbl hK hXf hNc hD hw hRel hin hroom next hl
      · refine lv_tableIn (off := 761) (tgt := 805) hx hb dL_law_44 (by rw [e]; decide) (by rw [e]; decide) (by rw [e]; rfl) (by decide) ?_
        exact ca_valuation hl0 C hX hbl hK hXf hNc hD hw hRel hin hroom next hl
      · refine lv_tableIn (off := 817) (tgt := 861) hx hb dL_law_44 (by rw [e]; decide) (by rw [e]; decide) (by rw [e]; rfl) (by decide) ?_
        exact ca_digit hl0 C hX hbl hK hXf hNc hD hw hRel hin hroom next hl
      · refine lv_tableIn (off := 885) (tgt := 929) hx hb dL_law_44 (by rw [e]; decide) (by rw [e]; decide) (by rw [e]; rfl) (by decide) ?_
        exact ca_refine hl0 C hX hbl hK hXf hNc hD hw hRel hin hroom next hl
      · refine lv_tableIn (off := 953) (tgt := 997) hx hb dL_law_44 (by rw [e]; decide) (by rw [e]; decide) (by rw [e]; rfl) (by decide) ?_
        exact ca_like hl0 C hX hbl hK hXf hNc hD hw hRel hin hroom next hl
      · refine lv_tableIn (off := 1009) (tgt := 1053) hx hb dL_law_44 (by rw [e]; decide) (by rw [e]; decide) (by rw [e]; rfl) (by decide) ?_
        exact ca_agree hl0 C hX hbl hK hXf hNc hD hw hRel hin hroom next hl
      · refine lv_tableIn (off := 1084) (tgt := 1128) hx hb dL_law_44 (by rw [e]; decide) (by rw [e]; decide) (by rw [e]; rfl) (by decide) ?_
        exact ca_numerator hl0 C hX hbl hK hXf hNc hD hw hRel hin hroom next hl
      · refine lv_tableIn (off := 1140) (tgt := 1184) hx hb dL_law_44 (by rw [e]; decide) (by rw [e]; decide) (by rw [e]; rfl) (by decide) ?_
        exact ca_denominator hl0 C hX hbl hK hXf hNc hD hw hRel hin hroom next hl
      · refine lv_tableIn (off := 1196) (tgt := 1240) hx hb dL_law_44 (by rw [e]; decide) (by rw [e]; decide) (by rw [e]; rfl) (by decide) ?_
        exact ca_distance hl0 C hX hbl hK hXf hNc hD hw hRel hin hroom next hl
      · refine lv_tableIn (off := 1288) (tgt := 1332) hx hb dL_law_44 (by rw [e]; decide) (by rw [e]; decide) (by rw [e]; rfl) (by decide) ?_
        exact ca_begin hl0 C hX hbl hK hXf hNc hD hw hRel hin hroom next hl
      · refine lv_tableIn (off := 1344) (tgt := 1388) hx hb dL_law_44 (by rw [e]; decide) (by rw [e]; decide) (by rw [e]; rfl) (by decide) ?_
        exact ca_term hl0 C hX hbl hK hXf hNc hD hw hRel hin hroom next hl
      · refine lv_tableIn (off := 1424) (tgt := 1468) hx hb dL_law_44 (by rw [e]; decide) (by rw [e]; decide) (by rw [e]; rfl) (by decide) ?_
        exact ca_sides hl0 C hX hbl hK hXf hNc hD hw hRel hin hroom next hl
      · refine lv_tableIn (off := 1480) (tgt := 1524) hx hb dL_law_44 (by rw [e]; decide) (by rw [e]; decide) (by rw [e]; rfl) (by decide) ?_
        exact ca_length hl0 C hX hbl hK hXf hNc hD hw hRel hin hroom next hl
      · refine lv_tableIn (off := 1548) (tgt := 1592) hx hb dL_law_44 (by rw [e]; decide) (by rw [e]; decide) (by rw [e]; rfl) (by decide) ?_
        exact ca_slope hl0 C hX hbl hK hXf hNc hD hw hRel hin hroom next hl
      · refine lv_tableIn (off := 1616) (tgt := 1660) hx hb dL_law_44 (by rw [e]; decide) (by rw [e]; decide) (by rw [e]; rfl) (by decide) ?_
        exact ca_residue hl0 C hX hbl hK hXf hNc hD hw hRel hin hroom next hl
      · refine lv_tableIn (off := 1684) (tgt := 1728) hx hb dL_law_44 (by rw [e]; decide) (by rw [e]; decide) (by rw [e]; rfl) (by decide) ?_
        exact ca_lift hl0 C hX hbl hK hXf hNc hD hw hRel hin hroom next hl
      · refine lv_tableIn (off := 1764) (tgt := 1808) hx hb dL_law_44 (by rw [e]; decide) (by rw [e]; decide) (by rw [e]; rfl) (by decide) ?_
        exact ca_rootsModulo hl0 C hX hbl hK hXf hNc hD hw hRel hin hroom next hl
      · refine lv_tableIn (off := 1832) (tgt := 1876) hx hb dL_law_44 (by rw [e]; decide) (by rw [e]; decide) (by rw [e]; rfl) (by decide) ?_
        exact ca_symbol hl0 C hX hbl hK hXf hNc hD hw hRel hin hroom next hl
      · refine lv_tableIn (off := 1912) (tgt := 1956) hx hb dL_law_44 (by rw [e]; decide) (by rw [e]; decide) (by rw [e]; rfl) (by decide) ?_
        exact ca_obstacle hl0 C hX hbl hK hXf hNc hD hw hRel hin hroom next hl
      · refine lv_tableIn (off := 1980) (tgt := 2024) hx hb dL_law_44 (by rw [e]; decide) (by rw [e]; decide) (by rw [e]; rfl) (by decide) ?_
        exact ca_setSize hl0 C hX hbl hK hXf hNc hD hw hRel hin hroom next hl
      · refine lv_tableIn (off := 2036) (tgt := 2080) hx hb dL_law_44 (by rw [e]; decide) (by rw [e]; decide) (by rw [e]; rfl) (by decide) ?_
        exact ca_setEntry hl0 C hX hbl hK hXf hNc hD hw hRel hin hroom next hl
      · refine lv_tableIn (off := 2116) (tgt := 2160) hx hb dL_law_44 (by rw [e]; decide) (by rw [e]; decide) (by rw [e]; rfl) (by decide) ?_
        exact ca_determinant hl0 C hX hbl hK hXf hNc hD hw hRel hin hroom next hl
      · refine lv_tableIn (off := 2130) (tgt := 2174) hx hb dL_law_44 (by rw [e]; decide) (by rw [e]; decide) (by rw [e]; rfl) (by decide) ?_
        exact ca_rank hl0 C hX hbl hK hXf hNc hD hw hRel hin hroom next hl
      · refine lv_tableIn (off := 2143) (tgt := 2187) hx hb dL_law_44 (by rw [e]; decide) (by rw [e]; decide) (by rw [e]; rfl) (by decide) ?_
        exact ca_shape hl0 C hX hbl hK hXf hNc hD hw hRel hin hroom next hl
      · refine lv_tableIn (off := 2199) (tgt := 2243) hx hb dL_law_44 (by rw [e]; decide) (by rw [e]; decide) (by rw [e]; rfl) (by decide) ?_
        exact ca_value hl0 C hX hbl hK hXf hNc hD hw hRel hin hroom next hl
      · refine lv_tableIn (off := 2255) (tgt := 2299) hx hb dL_law_44 (by rw [e]; decide) (by rw [e]; decide) (by rw [e]; rfl) (by decide) ?_
        exact ca_difference hl0 C hX hbl hK hXf hNc hD hw hRel hin hroom next hl
      · refine lv_tableIn (off := 2311) (tgt := 2355) hx hb dL_law_44 (by rw [e]; decide) (by rw [e]; decide) (by rw [e]; rfl) (by decide) ?_
        exact ca_at hl0 C hX hbl hK hXf hNc hD hw hRel hin hroom next hl
      · refine lv_tableIn (off := 2367) (tgt := 2411) hx hb dL_law_44 (by rw [e]; decide) (by rw [e]; decide) (by rw [e]; rfl) (by decide) ?_
        exact ca_nothingShare hl0 C hX hbl hK hXf hNc hD hw hRel hin hroom next hl
      · refine lv_tableIn (off := 2433) (tgt := 2477) hx hb dL_law_44 (by rw [e]; decide) (by rw [e]; decide) (by rw [e]; rfl) (by decide) ?_
        exact ca_meanDigits hl0 C hX hbl hK hXf hNc hD hw hRel hin hroom next hl
      · refine lv_tableIn (off := 2498) (tgt := 2542) hx hb dL_law_44 (by rw [e]; decide) (by rw [e]; decide) (by rw [e]; rfl) (by decide) ?_
        exact ca_isSound hl0 C hX hbl hK hXf hNc hD hw hRel hin hroom next hl
      · refine lv_tableOut (tgt := 2555) hx hb dL_law_44 e (by decide) ?_
        refine W.widen (k := 100 + t + 1) (n := B + 6 * t + 6) (by omega) (by omega) ?_
        exact next S T g gd H locs ls hRel hw hl
