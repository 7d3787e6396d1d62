/-! both answers of a call of the law, as the law sees them -/
theorem wr_setPrime (l : Launch) (hl0 : l.stackTraces = false) (D : va_G) (ct : Nat → ClassId) (ad : Nat → Nat) (ao : Nat) (hG : Gd ad 70 (FC ad)) (hao : ∀ i : Nat, i < 70 → ad i ≠ ao) (p0 : Int32) {S T : St} (h : Rel S T) (g : Nat → Int64) : ∃ (S' T' : St) (v k : Int32) (g' : Nat → Int64), MetL l yL_setPrime cL_setPrime 4 [(0, 9, 12, 13), (0, 9, 15, 15)] rm_L_setPrime D ct ad ao [.ref (ad 0), .int p0, .ref ao] k S S' g g' ∧ f_X10_setPrime p0 T = some (v, T') ∧ f_X10_thrown T' = some k ∧ Rel S' T' ∧ (k = 0 → g' 0 = Int32.toInt64 v) := by
  obtain ⟨S', T', v, e1, e2, e3⟩ := T_setPrime h p0
  rcases e3 with ⟨e4, e5⟩ | ⟨q, hq, e4, e5⟩
  · exact ⟨S', T', v, 0, _, wk_L_setPrime l hl0 D ct ad ao hG hao p0 S S' v g e4, e1, congrArg some e5, e2, fun _ => by unfold vp_updL; rw [if_pos (by decide)]⟩
  · simp only [List.mem_cons, List.not_mem_nil, or_false] at hq
    rcases hq with rfl | rfl
    · exact ⟨S', T', v, 1, g, wx_L_setPrime_1 l hl0 D ct ad ao hG hao p0 S S' g e4, e1, congrArg some (e5.trans (by decide)), e2, fun q => absurd q (by decide)⟩
    · exact ⟨S', T', v, 2, g, wx_L_setPrime_5 l hl0 D ct ad ao hG hao p0 S S' g e4, e1, congrArg some (e5.trans (by decide)), e2, fun q => absurd q (by decide)⟩
theorem wr_give (l : Launch) (hl0 : l.stackTraces = false) (D : va_G) (ct : Nat → ClassId) (ad : Nat → Nat) (ao : Nat) (hG : Gd ad 70 (FC ad)) (hao : ∀ i : Nat, i < 70 → ad i ≠ ao) (p0 : Int32) (p1 : Int32) (p2 : Int32) {S T : St} (h : Rel S T) (g : Nat → Int64) : ∃ (S' T' : St) (v k : Int32) (g' : Nat → Int64), MetL l yL_give cL_give 6 [(0, 12, 15, 13), (0, 12, 19, 21)] rm_L_give D ct ad ao [.ref (ad 0), .int p0, .int p1, .int p2, .ref ao] k S S' g g' ∧ f_X10_give p0 p1 p2 T = some (v, T') ∧ f_X10_thrown T' = some k ∧ Rel S' T' ∧ (k = 0 → g' 0 = Int32.toInt64 v) := by
  obtain ⟨S', T', v, e1, e2, e3⟩ := T_give h p0 p1 p2
  rcases e3 with ⟨e4, e5⟩ | ⟨q, hq, e4, e5⟩
  · exact ⟨S', T', v, 0, _, wk_L_give l hl0 D ct ad ao hG hao p0 p1 p2 S S' v g e4, e1, congrArg some e5, e2, fun _ => by unfold vp_updL; rw [if_pos (by decide)]⟩
  · simp only [List.mem_cons, List.not_mem_nil, or_false] at hq
    rcases hq with rfl | rfl
    · exact ⟨S', T', v, 1, g, wx_L_give_1 l hl0 D ct ad ao hG hao p0 p1 p2 S S' g e4, e1, congrArg some (e5.trans (by decide)), e2, fun q => absurd q (by decide)⟩
    · exact ⟨S', T', v, 2, g, wx_L_give_2 l hl0 D ct ad ao hG hao p0 p1 p2 S S' g e4, e1, congrArg some (e5.trans (by decide)), e2, fun q => absurd q (by decide)⟩
theorem wr_add (l : Launch) (hl0 : l.stackTraces = false) (D : va_G) (ct : Nat → ClassId) (ad : Nat → Nat) (ao : Nat) (hG : Gd ad 70 (FC ad)) (hao : ∀ i : Nat, i < 70 → ad i ≠ ao) (p0 : Int32) (p1 : Int32) {S T : St} (h : Rel S T) (g : Nat → Int64) : ∃ (S' T' : St) (v k : Int32) (g' : Nat → Int64), MetL l yL_add cL_add 5 [(0, 10, 13, 27), (0, 10, 17, 21)] rm_L_add D ct ad ao [.ref (ad 0), .int p0, .int p1, .ref ao] k S S' g g' ∧ f_X10_add p0 p1 T = some (v, T') ∧ f_X10_thrown T' = some k ∧ Rel S' T' ∧ (k = 0 → g' 0 = Int32.toInt64 v) := by
  obtain ⟨S', T', v, e1, e2, e3⟩ := T_add h p0 p1
  rcases e3 with ⟨e4, e5⟩ | ⟨q, hq, e4, e5⟩
  · exact ⟨S', T', v, 0, _, wk_L_add l hl0 D ct ad ao hG hao p0 p1 S S' v g e4, e1, congrArg some e5, e2, fun _ => by unfold vp_updL; rw [if_pos (by decide)]⟩
  · simp only [List.mem_cons, List.not_mem_nil, or_false] at hq
    rcases hq with rfl | rfl
    · exact ⟨S', T', v, 1, g, wx_L_add_3 l hl0 D ct ad ao hG hao p0 p1 S S' g e4, e1, congrArg some (e5.trans (by decide)), e2, fun q => absurd q (by decide)⟩
    · exact ⟨S', T', v, 2, g, wx_L_add_2 l hl0 D ct ad ao hG hao p0 p1 S S' g e4, e1, congrArg some (e5.trans (by decide)), e2, fun q => absurd q (by decide)⟩
theorem wr_subtract (l : Launch) (hl0 : l.stackTraces = false) (D : va_G) (ct : Nat → ClassId) (ad : Nat → Nat) (ao : Nat) (hG : Gd ad 70 (FC ad)) (hao : ∀ i : Nat, i < 70 → ad i ≠ ao) (p0 : Int32) (p1 : Int32) {S T : St} (h : Rel S T) (g : Nat → Int64) : ∃ (S' T' : St) (v k : Int32) (g' : Nat → Int64), MetL l yL_subtract cL_subtract 5 [(0, 10, 13, 27), (0, 10, 17, 21)] rm_L_subtract D ct ad ao [.ref (ad 0), .int p0, .int p1, .ref ao] k S S' g g' ∧ f_X10_subtract p0 p1 T = some (v, T') ∧ f_X10_thrown T' = some k ∧ Rel S' T' ∧ (k = 0 → g' 0 = Int32.toInt64 v) := by
  obtain ⟨S', T', v, e1, e2, e3⟩ := T_subtract h p0 p1
  rcases e3 with ⟨e4, e5⟩ | ⟨q, hq, e4, e5⟩
  · exact ⟨S', T', v, 0, _, wk_L_subtract l hl0 D ct ad ao hG hao p0 p1 S S' v g e4, e1, congrArg some e5, e2, fun _ => by unfold vp_updL; rw [if_pos (by decide)]⟩
  · simp only [List.mem_cons, List.not_mem_nil, or_false] at hq
    rcases hq with rfl | rfl
    · exact ⟨S', T', v, 1, g, wx_L_subtract_3 l hl0 D ct ad ao hG hao p0 p1 S S' g e4, e1, congrArg some (e5.trans (by decide)), e2, fun q => absurd q (by decide)⟩
    · exact ⟨S', T', v, 2, g, wx_L_subtract_2 l hl0 D ct ad ao hG hao p0 p1 S S' g e4, e1, congrArg some (e5.trans (by decide)), e2, fun q => absurd q (by decide)⟩
theorem wr_multiply (l : Launch) (hl0 : l.stackTraces = false) (D : va_G) (ct : Nat → ClassId) (ad : Nat → Nat) (ao : Nat) (hG : Gd ad 70 (FC ad)) (hao : ∀ i : Nat, i < 70 → ad i ≠ ao) (p0 : Int32) (p1 : Int32) {S T : St} (h : Rel S T) (g : Nat → Int64) : ∃ (S' T' : St) (v k : Int32) (g' : Nat → Int64), MetL l yL_multiply cL_multiply 5 [(0, 10, 13, 27), (0, 10, 17, 35), (0, 10, 21, 21)] rm_L_multiply D ct ad ao [.ref (ad 0), .int p0, .int p1, .ref ao] k S S' g g' ∧ f_X10_multiply p0 p1 T = some (v, T') ∧ f_X10_thrown T' = some k ∧ Rel S' T' ∧ (k = 0 → g' 0 = Int32.toInt64 v) := by
  obtain ⟨S', T', v, e1, e2, e3⟩ := T_multiply h p0 p1
  rcases e3 with ⟨e4, e5⟩ | ⟨q, hq, e4, e5⟩
  · exact ⟨S', T', v, 0, _, wk_L_multiply l hl0 D ct ad ao hG hao p0 p1 S S' v g e4, e1, congrArg some e5, e2, fun _ => by unfold vp_updL; rw [if_pos (by decide)]⟩
  · simp only [List.mem_cons, List.not_mem_nil, or_false] at hq
    rcases hq with rfl | rfl | rfl
    · exact ⟨S', T', v, 1, g, wx_L_multiply_3 l hl0 D ct ad ao hG hao p0 p1 S S' g e4, e1, congrArg some (e5.trans (by decide)), e2, fun q => absurd q (by decide)⟩
    · exact ⟨S', T', v, 2, g, wx_L_multiply_4 l hl0 D ct ad ao hG hao p0 p1 S S' g e4, e1, congrArg some (e5.trans (by decide)), e2, fun q => absurd q (by decide)⟩
    · exact ⟨S', T', v, 3, g, wx_L_multiply_2 l hl0 D ct ad ao hG hao p0 p1 S S' g e4, e1, congrArg some (e5.trans (by decide)), e2, fun q => absurd q (by decide)⟩
theorem wr_divide (l : Launch) (hl0 : l.stackTraces = false) (D : va_G) (ct : Nat → ClassId) (ad : Nat → Nat) (ao : Nat) (hG : Gd ad 70 (FC ad)) (hao : ∀ i : Nat, i < 70 → ad i ≠ ao) (p0 : Int32) (p1 : Int32) {S T : St} (h : Rel S T) (g : Nat → Int64) : ∃ (S' T' : St) (v k : Int32) (g' : Nat → Int64), MetL l yL_divide cL_divide 5 [(0, 10, 13, 27), (0, 10, 17, 35), (0, 10, 21, 21)] rm_L_divide D ct ad ao [.ref (ad 0), .int p0, .int p1, .ref ao] k S S' g g' ∧ f_X10_divide p0 p1 T = some (v, T') ∧ f_X10_thrown T' = some k ∧ Rel S' T' ∧ (k = 0 → g' 0 = Int32.toInt64 v) := by
  obtain ⟨S', T', v, e1, e2, e3⟩ := T_divide h p0 p1
  rcases e3 with ⟨e4, e5⟩ | ⟨q, hq, e4, e5⟩
  · exact ⟨S', T', v, 0, _, wk_L_divide l hl0 D ct ad ao hG hao p0 p1 S S' v g e4, e1, congrArg some e5, e2, fun _ => by unfold vp_updL; rw [if_pos (by decide)]⟩
  · simp only [List.mem_cons, List.not_mem_nil, or_false] at hq
    rcases hq with rfl | rfl | rfl
    · exact ⟨S', T', v, 1, g, wx_L_divide_3 l hl0 D ct ad ao hG hao p0 p1 S S' g e4, e1, congrArg some (e5.trans (by decide)), e2, fun q => absurd q (by decide)⟩
    · exact ⟨S', T', v, 2, g, wx_L_divide_4 l hl0 D ct ad ao hG hao p0 p1 S S' g e4, e1, congrArg some (e5.trans (by decide)), e2, fun q => absurd q (by decide)⟩
    · exact ⟨S', T', v, 3, g, wx_L_divide_2 l hl0 D ct ad ao hG hao p0 p1 S S' g e4, e1, congrArg some (e5.trans (by decide)), e2, fun q => absurd q (by decide)⟩
theorem wr_root (l : Launch) (hl0 : l.stackTraces = false) (D : va_G) (ct : Nat → ClassId) (ad : Nat → Nat) (ao : Nat) (hG : Gd ad 70 (FC ad)) (hao : ∀ i : Nat, i < 70 → ad i ≠ ao) (p0 : Int32) {S T : St} (h : Rel S T) (g : Nat → Int64) : ∃ (S' T' : St) (v k : Int32) (g' : Nat → Int64), MetL l yL_root cL_root 4 [(0, 9, 12, 27), (0, 9, 15, 15), (0, 9, 18, 21)] rm_L_root D ct ad ao [.ref (ad 0), .int p0, .ref ao] k S S' g g' ∧ f_X10_root p0 T = some (v, T') ∧ f_X10_thrown T' = some k ∧ Rel S' T' ∧ (k = 0 → g' 0 = Int32.toInt64 v) := by
  obtain ⟨S', T', v, e1, e2, e3⟩ := T_root h p0
  rcases e3 with ⟨e4, e5⟩ | ⟨q, hq, e4, e5⟩
  · exact ⟨S', T', v, 0, _, wk_L_root l hl0 D ct ad ao hG hao p0 S S' v g e4, e1, congrArg some e5, e2, fun _ => by unfold vp_updL; rw [if_pos (by decide)]⟩
  · simp only [List.mem_cons, List.not_mem_nil, or_false] at hq
    rcases hq with rfl | rfl | rfl
    · exact ⟨S', T', v, 1, g, wx_L_root_3 l hl0 D ct ad ao hG hao p0 S S' g e4, e1, congrArg some (e5.trans (by decide)), e2, fun q => absurd q (by decide)⟩
    · exact ⟨S', T', v, 2, g, wx_L_root_5 l hl0 D ct ad ao hG hao p0 S S' g e4, e1, congrArg some (e5.trans (by decide)), e2, fun q => absurd q (by decide)⟩
    · exact ⟨S', T', v, 3, g, wx_L_root_2 l hl0 D ct ad ao hG hao p0 S S' g e4, e1, congrArg some (e5.trans (by decide)), e2, fun q => absurd q (by decide)⟩
theorem wr_unity (l : Launch) (hl0 : l.stackTraces = false) (D : va_G) (ct : Nat → ClassId) (ad : Nat → Nat) (ao : Nat) (hG : Gd ad 70 (FC ad)) (hao : ∀ i : Nat, i < 70 → ad i ≠ ao) (p0 : Int32) {S T : St} (h : Rel S T) (g : Nat → Int64) : ∃ (S' T' : St) (v k : Int32) (g' : Nat → Int64), MetL l yL_unity cL_unity 4 [(0, 9, 12, 27), (0, 9, 15, 15), (0, 9, 18, 21)] rm_L_unity D ct ad ao [.ref (ad 0), .int p0, .ref ao] k S S' g g' ∧ f_X10_unity p0 T = some (v, T') ∧ f_X10_thrown T' = some k ∧ Rel S' T' ∧ (k = 0 → g' 0 = Int32.toInt64 v) := by
  obtain ⟨S', T', v, e1, e2, e3⟩ := T_unity h p0
  rcases e3 with ⟨e4, e5⟩ | ⟨q, hq, e4, e5⟩
  · exact ⟨S', T', v, 0, _, wk_L_unity l hl0 D ct ad ao hG hao p0 S S' v g e4, e1, congrArg some e5, e2, fun _ => by unfold vp_updL; rw [if_pos (by decide)]⟩
  · simp only [List.mem_cons, List.not_mem_nil, or_false] at hq
    rcases hq with rfl | rfl | rfl
    · exact ⟨S', T', v, 1, g, wx_L_unity_3 l hl0 D ct ad ao hG hao p0 S S' g e4, e1, congrArg some (e5.trans (by decide)), e2, fun q => absurd q (by decide)⟩
    · exact ⟨S', T', v, 2, g, wx_L_unity_5 l hl0 D ct ad ao hG hao p0 S S' g e4, e1, congrArg some (e5.trans (by decide)), e2, fun q => absurd q (by decide)⟩
    · exact ⟨S', T', v, 3, g, wx_L_unity_2 l hl0 D ct ad ao hG hao p0 S S' g e4, e1, congrArg some (e5.trans (by decide)), e2, fun q => absurd q (by decide)⟩
theorem wr_precision (l : Launch) (hl0 : l.stackTraces = false) (D : va_G) (ct : Nat → ClassId) (ad : Nat → Nat) (ao : Nat) (hG : Gd ad 70 (FC ad)) (hao : ∀ i : Nat, i < 70 → ad i ≠ ao) (p0 : Int32) {S T : St} (h : Rel S T) (g : Nat → Int64) : ∃ (S' T' : St) (v k : Int32) (g' : Nat → Int64), MetL l yL_precision cL_precision 4 [(0, 9, 12, 27)] rm_L_precision D ct ad ao [.ref (ad 0), .int p0, .ref ao] k S S' g g' ∧ f_X10_precision p0 T = some (v, T') ∧ f_X10_thrown T' = some k ∧ Rel S' T' ∧ (k = 0 → g' 0 = Int32.toInt64 v) := by
  obtain ⟨T', v, e1, e2, e3⟩ := T_precision h p0
  rcases e3 with ⟨e4, e5⟩ | ⟨q, hq, e4, e5⟩
  · exact ⟨S, T', v, 0, _, wk_L_precision l hl0 D ct ad ao hG hao p0 S v g e4, e1, congrArg some e5, e2, fun _ => by unfold vp_updL; rw [if_pos (by decide)]⟩
  · simp only [List.mem_cons, List.not_mem_nil, or_false] at hq
    subst hq
    exact ⟨S, T', v, 1, g, wx_L_precision_3 l hl0 D ct ad ao hG hao p0 S g e4, e1, congrArg some (e5.trans (by decide)), e2, fun q => absurd q (by decide)⟩
theorem wr_valuation (l : Launch) (hl0 : l.stackTraces = false) (D : va_G) (ct : Nat → ClassId) (ad : Nat → Nat) (ao : Nat) (hG : Gd ad 70 (FC ad)) (hao : ∀ i : Nat, i < 70 → ad i ≠ ao) (p0 : Int32) {S T : St} (h : Rel S T) (g : Nat → Int64) : ∃ (S' T' : St) (v k : Int32) (g' : Nat → Int64), MetL l yL_valuation cL_valuation 4 [(0, 9, 12, 27)] rm_L_valuation D ct ad ao [.ref (ad 0), .int p0, .ref ao] k S S' g g' ∧ f_X10_valuation p0 T = some (v, T') ∧ f_X10_thrown T' = some k ∧ Rel S' T' ∧ (k = 0 → g' 0 = Int32.toInt64 v) := by
  obtain ⟨T', v, e1, e2, e3⟩ := T_valuation h p0
  rcases e3 with ⟨e4, e5⟩ | ⟨q, hq, e4, e5⟩
  · exact ⟨S, T', v, 0, _, wk_L_valuation l hl0 D ct ad ao hG hao p0 S v g e4, e1, congrArg some e5, e2, fun _ => by unfold vp_updL; rw [if_pos (by decide)]⟩
  · simp only [List.mem_cons, List.not_mem_nil, or_false] at hq
    subst hq
    exact ⟨S, T', v, 1, g, wx_L_valuation_3 l hl0 D ct ad ao hG hao p0 S g e4, e1, congrArg some (e5.trans (by decide)), e2, fun q => absurd q (by decide)⟩
theorem wr_digit (l : Launch) (hl0 : l.stackTraces = false) (D : va_G) (ct : Nat → ClassId) (ad : Nat → Nat) (ao : Nat) (hG : Gd ad 70 (FC ad)) (hao : ∀ i : Nat, i < 70 → ad i ≠ ao) (p0 : Int32) (p1 : Int32) {S T : St} (h : Rel S T) (g : Nat → Int64) : ∃ (S' T' : St) (v k : Int32) (g' : Nat → Int64), MetL l yL_digit cL_digit 5 [(0, 10, 13, 27), (0, 10, 17, 55)] rm_L_digit D ct ad ao [.ref (ad 0), .int p0, .int p1, .ref ao] k S S' g g' ∧ f_X10_digit p0 p1 T = some (v, T') ∧ f_X10_thrown T' = some k ∧ Rel S' T' ∧ (k = 0 → g' 0 = Int32.toInt64 v) := by
  obtain ⟨T', v, e1, e2, e3⟩ := T_digit h p0 p1
  rcases e3 with ⟨e4, e5⟩ | ⟨q, hq, e4, e5⟩
  · exact ⟨S, T', v, 0, _, wk_L_digit l hl0 D ct ad ao hG hao p0 p1 S v g e4, e1, congrArg some e5, e2, fun _ => by unfold vp_updL; rw [if_pos (by decide)]⟩
  · simp only [List.mem_cons, List.not_mem_nil, or_false] at hq
    rcases hq with rfl | rfl
    · exact ⟨S, T', v, 1, g, wx_L_digit_3 l hl0 D ct ad ao hG hao p0 p1 S g e4, e1, congrArg some (e5.trans (by decide)), e2, fun q => absurd q (by decide)⟩
    · exact ⟨S, T', v, 2, g, wx_L_digit_6 l hl0 D ct ad ao hG hao p0 p1 S g e4, e1, congrArg some (e5.trans (by decide)), e2, fun q => absurd q (by decide)⟩
theorem wr_refine (l : Launch) (hl0 : l.stackTraces = false) (D : va_G) (ct : Nat → ClassId) (ad : Nat → Nat) (ao : Nat) (hG : Gd ad 70 (FC ad)) (hao : ∀ i : Nat, i < 70 → ad i ≠ ao) (p0 : Int32) (p1 : Int32) {S T : St} (h : Rel S T) (g : Nat → Int64) : ∃ (S' T' : St) (v k : Int32) (g' : Nat → Int64), MetL l yL_refine cL_refine 5 [(0, 10, 13, 27), (0, 10, 17, 13), (0, 10, 21, 15)] rm_L_refine D ct ad ao [.ref (ad 0), .int p0, .int p1, .ref ao] k S S' g g' ∧ f_X10_refine p0 p1 T = some (v, T') ∧ f_X10_thrown T' = some k ∧ Rel S' T' ∧ (k = 0 → g' 0 = Int32.toInt64 v) := by
  obtain ⟨S', T', v, e1, e2, e3⟩ := T_refine h p0 p1
  rcases e3 with ⟨e4, e5⟩ | ⟨q, hq, e4, e5⟩
  · exact ⟨S', T', v, 0, _, wk_L_refine l hl0 D ct ad ao hG hao p0 p1 S S' v g e4, e1, congrArg some e5, e2, fun _ => by unfold vp_updL; rw [if_pos (by decide)]⟩
  · simp only [List.mem_cons, List.not_mem_nil, or_false] at hq
    rcases hq with rfl | rfl | rfl
    · exact ⟨S', T', v, 1, g, wx_L_refine_3 l hl0 D ct ad ao hG hao p0 p1 S S' g e4, e1, congrArg some (e5.trans (by decide)), e2, fun q => absurd q (by decide)⟩
    · exact ⟨S', T', v, 2, g, wx_L_refine_1 l hl0 D ct ad ao hG hao p0 p1 S S' g e4, e1, congrArg some (e5.trans (by decide)), e2, fun q => absurd q (by decide)⟩
    · exact ⟨S', T', v, 3, g, wx_L_refine_5 l hl0 D ct ad ao hG hao p0 p1 S S' g e4, e1, congrArg some (e5.trans (by decide)), e2, fun q => absurd q (by decide)⟩
theorem wr_like (l : Launch) (hl0 : l.stackTraces = false) (D : va_G) (ct : Nat → ClassId) (ad : Nat → Nat) (ao : Nat) (hG : Gd ad 70 (FC ad)) (hao : ∀ i : Nat, i < 70 → ad i ≠ ao) (p0 : Int32) {S T : St} (h : Rel S T) (g : Nat → Int64) : ∃ (S' T' : St) (v k : Int32) (g' : Nat → Int64), MetL l yL_like cL_like 4 [(0, 9, 12, 27)] rm_L_like D ct ad ao [.ref (ad 0), .int p0, .ref ao] k S S' g g' ∧ f_X10_like p0 T = some (v, T') ∧ f_X10_thrown T' = some k ∧ Rel S' T' ∧ (k = 0 → g' 0 = Int32.toInt64 v) := by
  obtain ⟨T', v, e1, e2, e3⟩ := T_like h p0
  rcases e3 with ⟨e4, e5⟩ | ⟨q, hq, e4, e5⟩
  · exact ⟨S, T', v, 0, _, wk_L_like l hl0 D ct ad ao hG hao p0 S v g e4, e1, congrArg some e5, e2, fun _ => by unfold vp_updL; rw [if_pos (by decide)]⟩
  · simp only [List.mem_cons, List.not_mem_nil, or_false] at hq
    subst hq
    exact ⟨S, T', v, 1, g, wx_L_like_3 l hl0 D ct ad ao hG hao p0 S g e4, e1, congrArg some (e5.trans (by decide)), e2, fun q => absurd q (by decide)⟩
theorem wr_agree (l : Launch) (hl0 : l.stackTraces = false) (D : va_G) (ct : Nat → ClassId) (ad : Nat → Nat) (ao : Nat) (hG : Gd ad 70 (FC ad)) (hao : ∀ i : Nat, i < 70 → ad i ≠ ao) (p0 : Int32) (p1 : Int32) {S T : St} (h : Rel S T) (g : Nat → Int64) : ∃ (S' T' : St) (v k : Int32) (g' : Nat → Int64), MetL l yL_agree cL_agree 5 [(0, 17, 20, 27)] rm_L_agree D ct ad ao [.ref (ad 0), .int p0, .int p1, .ref ao] k S S' g g' ∧ f_X10_agree p0 p1 T = some (v, T') ∧ f_X10_thrown T' = some k ∧ Rel S' T' ∧ (k = 0 → g' 0 = (if v = 0 then 0 else 1)) := by
  obtain ⟨S', T', v, e1, e2, e3⟩ := T_agree h p0 p1
  rcases e3 with ⟨e4, e5⟩ | ⟨q, hq, e4, e5⟩
  · exact ⟨S', T', v, 0, _, wk_L_agree l hl0 D ct ad ao hG hao p0 p1 S S' v g e4, e1, congrArg some e5, e2, fun _ => by unfold vp_updL; rw [if_pos (by decide)]⟩
  · simp only [List.mem_cons, List.not_mem_nil, or_false] at hq
    subst hq
    exact ⟨S', T', v, 1, g, wx_L_agree_3 l hl0 D ct ad ao hG hao p0 p1 S S' g e4, e1, congrArg some (e5.trans (by decide)), e2, fun q => absurd q (by decide)⟩
theorem wr_numerator (l : Launch) (hl0 : l.stackTraces = false) (D : va_G) (ct : Nat → ClassId) (ad : Nat → Nat) (ao : Nat) (hG : Gd ad 70 (FC ad)) (hao : ∀ i : Nat, i < 70 → ad i ≠ ao) (p0 : Int32) {S T : St} (h : Rel S T) (g : Nat → Int64) : ∃ (S' T' : St) (v k : Int32) (g' : Nat → Int64), MetL l yL_numerator cL_numerator 4 [(0, 9, 12, 27), (0, 9, 15, 15), (0, 9, 18, 55)] rm_L_numerator D ct ad ao [.ref (ad 0), .int p0, .ref ao] k S S' g g' ∧ f_X10_numerator p0 T = some (v, T') ∧ f_X10_thrown T' = some k ∧ Rel S' T' ∧ (k = 0 → g' 0 = Int32.toInt64 v) := by
  obtain ⟨T', v, e1, e2, e3⟩ := T_numerator h p0
  rcases e3 with ⟨e4, e5⟩ | ⟨q, hq, e4, e5⟩
  · exact ⟨S, T', v, 0, _, wk_L_numerator l hl0 D ct ad ao hG hao p0 S v g e4, e1, congrArg some e5, e2, fun _ => by unfold vp_updL; rw [if_pos (by decide)]⟩
  · simp only [List.mem_cons, List.not_mem_nil, or_false] at hq
    rcases hq with rfl | rfl | rfl
    · exact ⟨S, T', v, 1, g, wx_L_numerator_3 l hl0 D ct ad ao hG hao p0 S g e4, e1, congrArg some (e5.trans (by decide)), e2, fun q => absurd q (by decide)⟩
    · exact ⟨S, T', v, 2, g, wx_L_numerator_5 l hl0 D ct ad ao hG hao p0 S g e4, e1, congrArg some (e5.trans (by decide)), e2, fun q => absurd q (by decide)⟩
    · exact ⟨S, T', v, 3, g, wx_L_numerator_6 l hl0 D ct ad ao hG hao p0 S g e4, e1, congrArg some (e5.trans (by decide)), e2, fun q => absurd q (by decide)⟩
theorem wr_denominator (l : Launch) (hl0 : l.stackTraces = false) (D : va_G) (ct : Nat → ClassId) (ad : Nat → Nat) (ao : Nat) (hG : Gd ad 70 (FC ad)) (hao : ∀ i : Nat, i < 70 → ad i ≠ ao) (p0 : Int32) {S T : St} (h : Rel S T) (g : Nat → Int64) : ∃ (S' T' : St) (v k : Int32) (g' : Nat → Int64), MetL l yL_denominator cL_denominator 4 [(0, 9, 12, 27), (0, 9, 15, 15), (0, 9, 18, 55)] rm_L_denominator D ct ad ao [.ref (ad 0), .int p0, .ref ao] k S S' g g' ∧ f_X10_denominator p0 T = some (v, T') ∧ f_X10_thrown T' = some k ∧ Rel S' T' ∧ (k = 0 → g' 0 = Int32.toInt64 v) := by
  obtain ⟨T', v, e1, e2, e3⟩ := T_denominator h p0
  rcases e3 with ⟨e4, e5⟩ | ⟨q, hq, e4, e5⟩
  · exact ⟨S, T', v, 0, _, wk_L_denominator l hl0 D ct ad ao hG hao p0 S v g e4, e1, congrArg some e5, e2, fun _ => by unfold vp_updL; rw [if_pos (by decide)]⟩
  · simp only [List.mem_cons, List.not_mem_nil, or_false] at hq
    rcases hq with rfl | rfl | rfl
    · exact ⟨S, T', v, 1, g, wx_L_denominator_3 l hl0 D ct ad ao hG hao p0 S g e4, e1, congrArg some (e5.trans (by decide)), e2, fun q => absurd q (by decide)⟩
    · exact ⟨S, T', v, 2, g, wx_L_denominator_5 l hl0 D ct ad ao hG hao p0 S g e4, e1, congrArg some (e5.trans (by decide)), e2, fun q => absurd q (by decide)⟩
    · exact ⟨S, T', v, 3, g, wx_L_denominator_6 l hl0 D ct ad ao hG hao p0 S g e4, e1, congrArg some (e5.trans (by decide)), e2, fun q => absurd q (by decide)⟩
theorem wr_distance (l : Launch) (hl0 : l.stackTraces = false) (D : va_G) (ct : Nat → ClassId) (ad : Nat → Nat) (ao : Nat) (hG : Gd ad 70 (FC ad)) (hao : ∀ i : Nat, i < 70 → ad i ≠ ao) (p0 : Int32) (p1 : Int32) (p2 : Int32) (p3 : Int32) {S T : St} (h : Rel S T) (g : Nat → Int64) : ∃ (S' T' : St) (v k : Int32) (g' : Nat → Int64), MetL l yL_distance cL_distance 7 [(0, 14, 17, 27), (0, 14, 21, 13)] rm_L_distance D ct ad ao [.ref (ad 0), .int p0, .int p1, .int p2, .int p3, .ref ao] k S S' g g' ∧ f_X10_distance p0 p1 p2 p3 T = some (v, T') ∧ f_X10_thrown T' = some k ∧ Rel S' T' ∧ (k = 0 → g' 0 = Int32.toInt64 v) := by
  obtain ⟨S', T', v, e1, e2, e3⟩ := T_distance h p0 p1 p2 p3
  rcases e3 with ⟨e4, e5⟩ | ⟨q, hq, e4, e5⟩
  · exact ⟨S', T', v, 0, _, wk_L_distance l hl0 D ct ad ao hG hao p0 p1 p2 p3 S S' v g e4, e1, congrArg some e5, e2, fun _ => by unfold vp_updL; rw [if_pos (by decide)]⟩
  · simp only [List.mem_cons, List.not_mem_nil, or_false] at hq
    rcases hq with rfl | rfl
    · exact ⟨S', T', v, 1, g, wx_L_distance_3 l hl0 D ct ad ao hG hao p0 p1 p2 p3 S S' g e4, e1, congrArg some (e5.trans (by decide)), e2, fun q => absurd q (by decide)⟩
    · exact ⟨S', T', v, 2, g, wx_L_distance_1 l hl0 D ct ad ao hG hao p0 p1 p2 p3 S S' g e4, e1, congrArg some (e5.trans (by decide)), e2, fun q => absurd q (by decide)⟩
theorem wr_begin (l : Launch) (hl0 : l.stackTraces = false) (D : va_G) (ct : Nat → ClassId) (ad : Nat → Nat) (ao : Nat) (hG : Gd ad 70 (FC ad)) (hao : ∀ i : Nat, i < 70 → ad i ≠ ao) (p0 : Int32) {S T : St} (h : Rel S T) (g : Nat → Int64) : ∃ (S' T' : St) (v k : Int32) (g' : Nat → Int64), MetL l yL_begin cL_begin 4 [(0, 9, 12, 13), (0, 9, 15, 21)] rm_L_begin D ct ad ao [.ref (ad 0), .int p0, .ref ao] k S S' g g' ∧ f_X10_begin p0 T = some (v, T') ∧ f_X10_thrown T' = some k ∧ Rel S' T' ∧ (k = 0 → g' 0 = Int32.toInt64 v) := by
  obtain ⟨S', T', v, e1, e2, e3⟩ := T_begin h p0
  rcases e3 with ⟨e4, e5⟩ | ⟨q, hq, e4, e5⟩
  · exact ⟨S', T', v, 0, _, wk_L_begin l hl0 D ct ad ao hG hao p0 S S' v g e4, e1, congrArg some e5, e2, fun _ => by unfold vp_updL; rw [if_pos (by decide)]⟩
  · simp only [List.mem_cons, List.not_mem_nil, or_false] at hq
    rcases hq with rfl | rfl
    · exact ⟨S', T', v, 1, g, wx_L_begin_1 l hl0 D ct ad ao hG hao p0 S S' g e4, e1, congrArg some (e5.trans (by decide)), e2, fun q => absurd q (by decide)⟩
    · exact ⟨S', T', v, 2, g, wx_L_begin_2 l hl0 D ct ad ao hG hao p0 S S' g e4, e1, congrArg some (e5.trans (by decide)), e2, fun q => absurd q (by decide)⟩
theorem wr_term (l : Launch) (hl0 : l.stackTraces = false) (D : va_G) (ct : Nat → ClassId) (ad : Nat → Nat) (ao : Nat) (hG : Gd ad 70 (FC ad)) (hao : ∀ i : Nat, i < 70 → ad i ≠ ao) (p0 : Int32) (p1 : Int32) (p2 : Int32) {S T : St} (h : Rel S T) (g : Nat → Int64) : ∃ (S' T' : St) (v k : Int32) (g' : Nat → Int64), MetL l yL_term cL_term 6 [(0, 12, 15, 27), (0, 12, 19, 13)] rm_L_term D ct ad ao [.ref (ad 0), .int p0, .int p1, .int p2, .ref ao] k S S' g g' ∧ f_X10_term p0 p1 p2 T = some (v, T') ∧ f_X10_thrown T' = some k ∧ Rel S' T' ∧ (k = 0 → g' 0 = Int32.toInt64 v) := by
  obtain ⟨S', T', v, e1, e2, e3⟩ := T_term h p0 p1 p2
  rcases e3 with ⟨e4, e5⟩ | ⟨q, hq, e4, e5⟩
  · exact ⟨S', T', v, 0, _, wk_L_term l hl0 D ct ad ao hG hao p0 p1 p2 S S' v g e4, e1, congrArg some e5, e2, fun _ => by unfold vp_updL; rw [if_pos (by decide)]⟩
  · simp only [List.mem_cons, List.not_mem_nil, or_false] at hq
    rcases hq with rfl | rfl
    · exact ⟨S', T', v, 1, g, wx_L_term_3 l hl0 D ct ad ao hG hao p0 p1 p2 S S' g e4, e1, congrArg some (e5.trans (by decide)), e2, fun q => absurd q (by decide)⟩
    · exact ⟨S', T', v, 2, g, wx_L_term_1 l hl0 D ct ad ao hG hao p0 p1 p2 S S' g e4, e1, congrArg some (e5.trans (by decide)), e2, fun q => absurd q (by decide)⟩
theorem wr_sides (l : Launch) (hl0 : l.stackTraces = false) (D : va_G) (ct : Nat → ClassId) (ad : Nat → Nat) (ao : Nat) (hG : Gd ad 70 (FC ad)) (hao : ∀ i : Nat, i < 70 → ad i ≠ ao) (p0 : Int32) {S T : St} (h : Rel S T) (g : Nat → Int64) : ∃ (S' T' : St) (v k : Int32) (g' : Nat → Int64), MetL l yL_sides cL_sides 4 [(0, 9, 12, 27)] rm_L_sides D ct ad ao [.ref (ad 0), .int p0, .ref ao] k S S' g g' ∧ f_X10_sides p0 T = some (v, T') ∧ f_X10_thrown T' = some k ∧ Rel S' T' ∧ (k = 0 → g' 0 = Int32.toInt64 v) := by
  obtain ⟨T', v, e1, e2, e3⟩ := T_sides h p0
  rcases e3 with ⟨e4, e5⟩ | ⟨q, hq, e4, e5⟩
  · exact ⟨S, T', v, 0, _, wk_L_sides l hl0 D ct ad ao hG hao p0 S v g e4, e1, congrArg some e5, e2, fun _ => by unfold vp_updL; rw [if_pos (by decide)]⟩
  · simp only [List.mem_cons, List.not_mem_nil, or_false] at hq
    subst hq
    exact ⟨S, T', v, 1, g, wx_L_sides_3 l hl0 D ct ad ao hG hao p0 S g e4, e1, congrArg some (e5.trans (by decide)), e2, fun q => absurd q (by decide)⟩
theorem wr_length (l : Launch) (hl0 : l.stackTraces = false) (D : va_G) (ct : Nat → ClassId) (ad : Nat → Nat) (ao : Nat) (hG : Gd ad 70 (FC ad)) (hao : ∀ i : Nat, i < 70 → ad i ≠ ao) (p0 : Int32) (p1 : Int32) {S T : St} (h : Rel S T) (g : Nat → Int64) : ∃ (S' T' : St) (v k : Int32) (g' : Nat → Int64), MetL l yL_length cL_length 5 [(0, 10, 13, 27)] rm_L_length D ct ad ao [.ref (ad 0), .int p0, .int p1, .ref ao] k S S' g g' ∧ f_X10_length p0 p1 T = some (v, T') ∧ f_X10_thrown T' = some k ∧ Rel S' T' ∧ (k = 0 → g' 0 = Int32.toInt64 v) := by
  obtain ⟨T', v, e1, e2, e3⟩ := T_length h p0 p1
  rcases e3 with ⟨e4, e5⟩ | ⟨q, hq, e4, e5⟩
  · exact ⟨S, T', v, 0, _, wk_L_length l hl0 D ct ad ao hG hao p0 p1 S v g e4, e1, congrArg some e5, e2, fun _ => by unfold vp_updL; rw [if_pos (by decide)]⟩
  · simp only [List.mem_cons, List.not_mem_nil, or_false] at hq
    subst hq
    exact ⟨S, T', v, 1, g, wx_L_length_3 l hl0 D ct ad ao hG hao p0 p1 S g e4, e1, congrArg some (e5.trans (by decide)), e2, fun q => absurd q (by decide)⟩
theorem wr_slope (l : Launch) (hl0 : l.stackTraces = false) (D : va_G) (ct : Nat → ClassId) (ad : Nat → Nat) (ao : Nat) (hG : Gd ad 70 (FC ad)) (hao : ∀ i : Nat, i < 70 → ad i ≠ ao) (p0 : Int32) (p1 : Int32) {S T : St} (h : Rel S T) (g : Nat → Int64) : ∃ (S' T' : St) (v k : Int32) (g' : Nat → Int64), MetL l yL_slope cL_slope 5 [(0, 10, 13, 27)] rm_L_slope D ct ad ao [.ref (ad 0), .int p0, .int p1, .ref ao] k S S' g g' ∧ f_X10_slope p0 p1 T = some (v, T') ∧ f_X10_thrown T' = some k ∧ Rel S' T' ∧ (k = 0 → g' 0 = Int32.toInt64 v) := by
  obtain ⟨T', v, e1, e2, e3⟩ := T_slope h p0 p1
  rcases e3 with ⟨e4, e5⟩ | ⟨q, hq, e4, e5⟩
  · exact ⟨S, T', v, 0, _, wk_L_slope l hl0 D ct ad ao hG hao p0 p1 S v g e4, e1, congrArg some e5, e2, fun _ => by unfold vp_updL; rw [if_pos (by decide)]⟩
  · simp only [List.mem_cons, List.not_mem_nil, or_false] at hq
    subst hq
    exact ⟨S, T', v, 1, g, wx_L_slope_3 l hl0 D ct ad ao hG hao p0 p1 S g e4, e1, congrArg some (e5.trans (by decide)), e2, fun q => absurd q (by decide)⟩
theorem wr_residue (l : Launch) (hl0 : l.stackTraces = false) (D : va_G) (ct : Nat → ClassId) (ad : Nat → Nat) (ao : Nat) (hG : Gd ad 70 (FC ad)) (hao : ∀ i : Nat, i < 70 → ad i ≠ ao) (p0 : Int32) (p1 : Int32) {S T : St} (h : Rel S T) (g : Nat → Int64) : ∃ (S' T' : St) (v k : Int32) (g' : Nat → Int64), MetL l yL_residue cL_residue 5 [(0, 10, 13, 27), (0, 10, 17, 13)] rm_L_residue D ct ad ao [.ref (ad 0), .int p0, .int p1, .ref ao] k S S' g g' ∧ f_X10_residue p0 p1 T = some (v, T') ∧ f_X10_thrown T' = some k ∧ Rel S' T' ∧ (k = 0 → g' 0 = Int32.toInt64 v) := by
  obtain ⟨T', v, e1, e2, e3⟩ := T_residue h p0 p1
  rcases e3 with ⟨e4, e5⟩ | ⟨q, hq, e4, e5⟩
  · exact ⟨S, T', v, 0, _, wk_L_residue l hl0 D ct ad ao hG hao p0 p1 S v g e4, e1, congrArg some e5, e2, fun _ => by unfold vp_updL; rw [if_pos (by decide)]⟩
  · simp only [List.mem_cons, List.not_mem_nil, or_false] at hq
    rcases hq with rfl | rfl
    · exact ⟨S, T', v, 1, g, wx_L_residue_3 l hl0 D ct ad ao hG hao p0 p1 S g e4, e1, congrArg some (e5.trans (by decide)), e2, fun q => absurd q (by decide)⟩
    · exact ⟨S, T', v, 2, g, wx_L_residue_1 l hl0 D ct ad ao hG hao p0 p1 S g e4, e1, congrArg some (e5.trans (by decide)), e2, fun q => absurd q (by decide)⟩
theorem wr_lift (l : Launch) (hl0 : l.stackTraces = false) (D : va_G) (ct : Nat → ClassId) (ad : Nat → Nat) (ao : Nat) (hG : Gd ad 70 (FC ad)) (hao : ∀ i : Nat, i < 70 → ad i ≠ ao) (p0 : Int32) (p1 : Int32) (p2 : Int32) {S T : St} (h : Rel S T) (g : Nat → Int64) : ∃ (S' T' : St) (v k : Int32) (g' : Nat → Int64), MetL l yL_lift cL_lift 6 [(0, 12, 15, 27), (0, 12, 19, 13), (0, 12, 23, 15), (0, 12, 27, 21)] rm_L_lift D ct ad ao [.ref (ad 0), .int p0, .int p1, .int p2, .ref ao] k S S' g g' ∧ f_X10_lift p0 p1 p2 T = some (v, T') ∧ f_X10_thrown T' = some k ∧ Rel S' T' ∧ (k = 0 → g' 0 = Int32.toInt64 v) := by
  obtain ⟨S', T', v, e1, e2, e3⟩ := T_lift h p0 p1 p2
  rcases e3 with ⟨e4, e5⟩ | ⟨q, hq, e4, e5⟩
  · exact ⟨S', T', v, 0, _, wk_L_lift l hl0 D ct ad ao hG hao p0 p1 p2 S S' v g e4, e1, congrArg some e5, e2, fun _ => by unfold vp_updL; rw [if_pos (by decide)]⟩
  · simp only [List.mem_cons, List.not_mem_nil, or_false] at hq
    rcases hq with rfl | rfl | rfl | rfl
    · exact ⟨S', T', v, 1, g, wx_L_lift_3 l hl0 D ct ad ao hG hao p0 p1 p2 S S' g e4, e1, congrArg some (e5.trans (by decide)), e2, fun q => absurd q (by decide)⟩
    · exact ⟨S', T', v, 2, g, wx_L_lift_1 l hl0 D ct ad ao hG hao p0 p1 p2 S S' g e4, e1, congrArg some (e5.trans (by decide)), e2, fun q => absurd q (by decide)⟩
    · exact ⟨S', T', v, 3, g, wx_L_lift_5 l hl0 D ct ad ao hG hao p0 p1 p2 S S' g e4, e1, congrArg some (e5.trans (by decide)), e2, fun q => absurd q (by decide)⟩
    · exact ⟨S', T', v, 4, g, wx_L_lift_2 l hl0 D ct ad ao hG hao p0 p1 p2 S S' g e4, e1, congrArg some (e5.trans (by decide)), e2, fun q => absurd q (by decide)⟩
theorem wr_rootsModulo (l : Launch) (hl0 : l.stackTraces = false) (D : va_G) (ct : Nat → ClassId) (ad : Nat → Nat) (ao : Nat) (hG : Gd ad 70 (FC ad)) (hao : ∀ i : Nat, i < 70 → ad i ≠ ao) (p0 : Int32) (p1 : Int32) {S T : St} (h : Rel S T) (g : Nat → Int64) : ∃ (S' T' : St) (v k : Int32) (g' : Nat → Int64), MetL l yL_rootsModulo cL_rootsModulo 5 [(0, 10, 13, 27), (0, 10, 17, 13)] rm_L_rootsModulo D ct ad ao [.ref (ad 0), .int p0, .int p1, .ref ao] k S S' g g' ∧ f_X10_rootsModulo p0 p1 T = some (v, T') ∧ f_X10_thrown T' = some k ∧ Rel S' T' ∧ (k = 0 → g' 0 = Int32.toInt64 v) := by
  obtain ⟨T', v, e1, e2, e3⟩ := T_rootsModulo h p0 p1
  rcases e3 with ⟨e4, e5⟩ | ⟨q, hq, e4, e5⟩
  · exact ⟨S, T', v, 0, _, wk_L_rootsModulo l hl0 D ct ad ao hG hao p0 p1 S v g e4, e1, congrArg some e5, e2, fun _ => by unfold vp_updL; rw [if_pos (by decide)]⟩
  · simp only [List.mem_cons, List.not_mem_nil, or_false] at hq
    rcases hq with rfl | rfl
    · exact ⟨S, T', v, 1, g, wx_L_rootsModulo_3 l hl0 D ct ad ao hG hao p0 p1 S g e4, e1, congrArg some (e5.trans (by decide)), e2, fun q => absurd q (by decide)⟩
    · exact ⟨S, T', v, 2, g, wx_L_rootsModulo_1 l hl0 D ct ad ao hG hao p0 p1 S g e4, e1, congrArg some (e5.trans (by decide)), e2, fun q => absurd q (by decide)⟩
theorem wr_symbol (l : Launch) (hl0 : l.stackTraces = false) (D : va_G) (ct : Nat → ClassId) (ad : Nat → Nat) (ao : Nat) (hG : Gd ad 70 (FC ad)) (hao : ∀ i : Nat, i < 70 → ad i ≠ ao) (p0 : Int32) (p1 : Int32) (p2 : Int32) {S T : St} (h : Rel S T) (g : Nat → Int64) : ∃ (S' T' : St) (v k : Int32) (g' : Nat → Int64), MetL l yL_symbol cL_symbol 6 [(0, 12, 15, 13)] rm_L_symbol D ct ad ao [.ref (ad 0), .int p0, .int p1, .int p2, .ref ao] k S S' g g' ∧ f_X10_symbol p0 p1 p2 T = some (v, T') ∧ f_X10_thrown T' = some k ∧ Rel S' T' ∧ (k = 0 → g' 0 = Int32.toInt64 v) := by
  obtain ⟨T', v, e1, e2, e3⟩ := T_symbol h p0 p1 p2
  rcases e3 with ⟨e4, e5⟩ | ⟨q, hq, e4, e5⟩
  · exact ⟨S, T', v, 0, _, wk_L_symbol l hl0 D ct ad ao hG hao p0 p1 p2 S v g e4, e1, congrArg some e5, e2, fun _ => by unfold vp_updL; rw [if_pos (by decide)]⟩
  · simp only [List.mem_cons, List.not_mem_nil, or_false] at hq
    subst hq
    exact ⟨S, T', v, 1, g, wx_L_symbol_1 l hl0 D ct ad ao hG hao p0 p1 p2 S g e4, e1, congrArg some (e5.trans (by decide)), e2, fun q => absurd q (by decide)⟩
theorem wr_obstacle (l : Launch) (hl0 : l.stackTraces = false) (D : va_G) (ct : Nat → ClassId) (ad : Nat → Nat) (ao : Nat) (hG : Gd ad 70 (FC ad)) (hao : ∀ i : Nat, i < 70 → ad i ≠ ao) (p0 : Int32) (p1 : Int32) {S T : St} (h : Rel S T) (g : Nat → Int64) : ∃ (S' T' : St) (v k : Int32) (g' : Nat → Int64), MetL l yL_obstacle cL_obstacle 5 [(0, 10, 13, 13), (0, 10, 17, 55)] rm_L_obstacle D ct ad ao [.ref (ad 0), .int p0, .int p1, .ref ao] k S S' g g' ∧ f_X10_obstacle p0 p1 T = some (v, T') ∧ f_X10_thrown T' = some k ∧ Rel S' T' ∧ (k = 0 → g' 0 = Int32.toInt64 v) := by
  obtain ⟨T', v, e1, e2, e3⟩ := T_obstacle h p0 p1
  rcases e3 with ⟨e4, e5⟩ | ⟨q, hq, e4, e5⟩
  · exact ⟨S, T', v, 0, _, wk_L_obstacle l hl0 D ct ad ao hG hao p0 p1 S v g e4, e1, congrArg some e5, e2, fun _ => by unfold vp_updL; rw [if_pos (by decide)]⟩
  · simp only [List.mem_cons, List.not_mem_nil, or_false] at hq
    rcases hq with rfl | rfl
    · exact ⟨S, T', v, 1, g, wx_L_obstacle_1 l hl0 D ct ad ao hG hao p0 p1 S g e4, e1, congrArg some (e5.trans (by decide)), e2, fun q => absurd q (by decide)⟩
    · exact ⟨S, T', v, 2, g, wx_L_obstacle_6 l hl0 D ct ad ao hG hao p0 p1 S g e4, e1, congrArg some (e5.trans (by decide)), e2, fun q => absurd q (by decide)⟩
theorem wr_setSize (l : Launch) (hl0 : l.stackTraces = false) (D : va_G) (ct : Nat → ClassId) (ad : Nat → Nat) (ao : Nat) (hG : Gd ad 70 (FC ad)) (hao : ∀ i : Nat, i < 70 → ad i ≠ ao) (p0 : Int32) {S T : St} (h : Rel S T) (g : Nat → Int64) : ∃ (S' T' : St) (v k : Int32) (g' : Nat → Int64), MetL l yL_setSize cL_setSize 4 [(0, 9, 12, 13)] rm_L_setSize D ct ad ao [.ref (ad 0), .int p0, .ref ao] k S S' g g' ∧ f_X10_setSize p0 T = some (v, T') ∧ f_X10_thrown T' = some k ∧ Rel S' T' ∧ (k = 0 → g' 0 = Int32.toInt64 v) := by
  obtain ⟨S', T', v, e1, e2, e3⟩ := T_setSize h p0
  rcases e3 with ⟨e4, e5⟩ | ⟨q, hq, e4, e5⟩
  · exact ⟨S', T', v, 0, _, wk_L_setSize l hl0 D ct ad ao hG hao p0 S S' v g e4, e1, congrArg some e5, e2, fun _ => by unfold vp_updL; rw [if_pos (by decide)]⟩
  · simp only [List.mem_cons, List.not_mem_nil, or_false] at hq
    subst hq
    exact ⟨S', T', v, 1, g, wx_L_setSize_1 l hl0 D ct ad ao hG hao p0 S S' g e4, e1, congrArg some (e5.trans (by decide)), e2, fun q => absurd q (by decide)⟩
theorem wr_setEntry (l : Launch) (hl0 : l.stackTraces = false) (D : va_G) (ct : Nat → ClassId) (ad : Nat → Nat) (ao : Nat) (hG : Gd ad 70 (FC ad)) (hao : ∀ i : Nat, i < 70 → ad i ≠ ao) (p0 : Int32) (p1 : Int32) (p2 : Int32) {S T : St} (h : Rel S T) (g : Nat → Int64) : ∃ (S' T' : St) (v k : Int32) (g' : Nat → Int64), MetL l yL_setEntry cL_setEntry 6 [(0, 12, 15, 27), (0, 12, 19, 13)] rm_L_setEntry D ct ad ao [.ref (ad 0), .int p0, .int p1, .int p2, .ref ao] k S S' g g' ∧ f_X10_setEntry p0 p1 p2 T = some (v, T') ∧ f_X10_thrown T' = some k ∧ Rel S' T' ∧ (k = 0 → g' 0 = Int32.toInt64 v) := by
  obtain ⟨S', T', v, e1, e2, e3⟩ := T_setEntry h p0 p1 p2
  rcases e3 with ⟨e4, e5⟩ | ⟨q, hq, e4, e5⟩
  · exact ⟨S', T', v, 0, _, wk_L_setEntry l hl0 D ct ad ao hG hao p0 p1 p2 S S' v g e4, e1, congrArg some e5, e2, fun _ => by unfold vp_updL; rw [if_pos (by decide)]⟩
  · simp only [List.mem_cons, List.not_mem_nil, or_false] at hq
    rcases hq with rfl | rfl
    · exact ⟨S', T', v, 1, g, wx_L_setEntry_3 l hl0 D ct ad ao hG hao p0 p1 p2 S S' g e4, e1, congrArg some (e5.trans (by decide)), e2, fun q => absurd q (by decide)⟩
    · exact ⟨S', T', v, 2, g, wx_L_setEntry_1 l hl0 D ct ad ao hG hao p0 p1 p2 S S' g e4, e1, congrArg some (e5.trans (by decide)), e2, fun q => absurd q (by decide)⟩
theorem wr_shape (l : Launch) (hl0 : l.stackTraces = false) (D : va_G) (ct : Nat → ClassId) (ad : Nat → Nat) (ao : Nat) (hG : Gd ad 70 (FC ad)) (hao : ∀ i : Nat, i < 70 → ad i ≠ ao) (p0 : Int32) {S T : St} (h : Rel S T) (g : Nat → Int64) : ∃ (S' T' : St) (v k : Int32) (g' : Nat → Int64), MetL l yL_shape cL_shape 4 [(0, 9, 12, 55)] rm_L_shape D ct ad ao [.ref (ad 0), .int p0, .ref ao] k S S' g g' ∧ f_X10_shape p0 T = some (v, T') ∧ f_X10_thrown T' = some k ∧ Rel S' T' ∧ (k = 0 → g' 0 = Int32.toInt64 v) := by
  obtain ⟨S', T', v, e1, e2, e3⟩ := T_shape h p0
  rcases e3 with ⟨e4, e5⟩ | ⟨q, hq, e4, e5⟩
  · exact ⟨S', T', v, 0, _, wk_L_shape l hl0 D ct ad ao hG hao p0 S S' v g e4, e1, congrArg some e5, e2, fun _ => by unfold vp_updL; rw [if_pos (by decide)]⟩
  · simp only [List.mem_cons, List.not_mem_nil, or_false] at hq
    subst hq
    exact ⟨S', T', v, 1, g, wx_L_shape_6 l hl0 D ct ad ao hG hao p0 S S' g e4, e1, congrArg some (e5.trans (by decide)), e2, fun q => absurd q (by decide)⟩
theorem wr_value (l : Launch) (hl0 : l.stackTraces = false) (D : va_G) (ct : Nat → ClassId) (ad : Nat → Nat) (ao : Nat) (hG : Gd ad 70 (FC ad)) (hao : ∀ i : Nat, i < 70 → ad i ≠ ao) (p0 : Int32) {S T : St} (h : Rel S T) (g : Nat → Int64) : ∃ (S' T' : St) (v k : Int32) (g' : Nat → Int64), MetL l yL_value cL_value 4 [(0, 9, 12, 13), (0, 9, 15, 21)] rm_L_value D ct ad ao [.ref (ad 0), .int p0, .ref ao] k S S' g g' ∧ f_X10_value p0 T = some (v, T') ∧ f_X10_thrown T' = some k ∧ Rel S' T' ∧ (k = 0 → g' 0 = Int32.toInt64 v) := by
  obtain ⟨S', T', v, e1, e2, e3⟩ := T_value h p0
  rcases e3 with ⟨e4, e5⟩ | ⟨q, hq, e4, e5⟩
  · exact ⟨S', T', v, 0, _, wk_L_value l hl0 D ct ad ao hG hao p0 S S' v g e4, e1, congrArg some e5, e2, fun _ => by unfold vp_updL; rw [if_pos (by decide)]⟩
  · simp only [List.mem_cons, List.not_mem_nil, or_false] at hq
    rcases hq with rfl | rfl
    · exact ⟨S', T', v, 1, g, wx_L_value_1 l hl0 D ct ad ao hG hao p0 S S' g e4, e1, congrArg some (e5.trans (by decide)), e2, fun q => absurd q (by decide)⟩
    · exact ⟨S', T', v, 2, g, wx_L_value_2 l hl0 D ct ad ao hG hao p0 S S' g e4, e1, congrArg some (e5.trans (by decide)), e2, fun q => absurd q (by decide)⟩
theorem wr_difference (l : Launch) (hl0 : l.stackTraces = false) (D : va_G) (ct : Nat → ClassId) (ad : Nat → Nat) (ao : Nat) (hG : Gd ad 70 (FC ad)) (hao : ∀ i : Nat, i < 70 → ad i ≠ ao) (p0 : Int32) {S T : St} (h : Rel S T) (g : Nat → Int64) : ∃ (S' T' : St) (v k : Int32) (g' : Nat → Int64), MetL l yL_difference cL_difference 4 [(0, 9, 12, 55)] rm_L_difference D ct ad ao [.ref (ad 0), .int p0, .ref ao] k S S' g g' ∧ f_X10_difference p0 T = some (v, T') ∧ f_X10_thrown T' = some k ∧ Rel S' T' ∧ (k = 0 → g' 0 = Int32.toInt64 v) := by
  obtain ⟨T', v, e1, e2, e3⟩ := T_difference h p0
  rcases e3 with ⟨e4, e5⟩ | ⟨q, hq, e4, e5⟩
  · exact ⟨S, T', v, 0, _, wk_L_difference l hl0 D ct ad ao hG hao p0 S v g e4, e1, congrArg some e5, e2, fun _ => by unfold vp_updL; rw [if_pos (by decide)]⟩
  · simp only [List.mem_cons, List.not_mem_nil, or_false] at hq
    subst hq
    exact ⟨S, T', v, 1, g, wx_L_difference_6 l hl0 D ct ad ao hG hao p0 S g e4, e1, congrArg some (e5.trans (by decide)), e2, fun q => absurd q (by decide)⟩
theorem wr_at (l : Launch) (hl0 : l.stackTraces = false) (D : va_G) (ct : Nat → ClassId) (ad : Nat → Nat) (ao : Nat) (hG : Gd ad 70 (FC ad)) (hao : ∀ i : Nat, i < 70 → ad i ≠ ao) (p0 : Int32) {S T : St} (h : Rel S T) (g : Nat → Int64) : ∃ (S' T' : St) (v k : Int32) (g' : Nat → Int64), MetL l yL_at cL_at 4 [(0, 9, 12, 27), (0, 9, 15, 15), (0, 9, 18, 21)] rm_L_at D ct ad ao [.ref (ad 0), .int p0, .ref ao] k S S' g g' ∧ f_X10_at p0 T = some (v, T') ∧ f_X10_thrown T' = some k ∧ Rel S' T' ∧ (k = 0 → g' 0 = Int32.toInt64 v) := by
  obtain ⟨S', T', v, e1, e2, e3⟩ := T_at h p0
  rcases e3 with ⟨e4, e5⟩ | ⟨q, hq, e4, e5⟩
  · exact ⟨S', T', v, 0, _, wk_L_at l hl0 D ct ad ao hG hao p0 S S' v g e4, e1, congrArg some e5, e2, fun _ => by unfold vp_updL; rw [if_pos (by decide)]⟩
  · simp only [List.mem_cons, List.not_mem_nil, or_false] at hq
    rcases hq with rfl | rfl | rfl
    · exact ⟨S', T', v, 1, g, wx_L_at_3 l hl0 D ct ad ao hG hao p0 S S' g e4, e1, congrArg some (e5.trans (by decide)), e2, fun q => absurd q (by decide)⟩
    · exact ⟨S', T', v, 2, g, wx_L_at_5 l hl0 D ct ad ao hG hao p0 S S' g e4, e1, congrArg some (e5.trans (by decide)), e2, fun q => absurd q (by decide)⟩
    · exact ⟨S', T', v, 3, g, wx_L_at_2 l hl0 D ct ad ao hG hao p0 S S' g e4, e1, congrArg some (e5.trans (by decide)), e2, fun q => absurd q (by decide)⟩
