/-! the two starts -/
theorem rel_start {S T : St} (h1 : S.1 3 0 = ji 5) (h2 : S.1 3 1 = ji 12) (h3 : ∀ e : Nat, e ≤ 12 → S.2 6 e = jl (5 ^ e)) (h4 : S.1 1 3 = ji 0) (h5 : S.1 4 0 = ji 0) (h6 : ∀ f j : Nat, f < 8 → j < 7 → S.1 (62 + f) j = ji 0) (h7 : S.1 5 0 = ji 0) (h8 : S.1 2 0 = ji 1) (h9 : ∀ k : Nat, k < 16 → S.1 10 k = ji 0)
    (t18 : T.1 0 18 = ji 5) (t22 : T.1 0 22 = ji 1) (t0 : ∀ o i : Nat, ¬ (o = 0 ∧ (i = 18 ∨ i = 22)) → T.1 o i = ji 0) : Rel S T := by
  have pr5 : Pr 5 := ⟨5, rfl, by decide⟩
  have r5 : rc 5 = 12 := by decide +kernel
  have hr := pr5.rch
  rw [r5] at hr
  refine ⟨5, 12, 0, fun _ => (0, 0, 0), fun _ => (0, 0, 0), fun _ _ => 0, fun _ _ => 0, 0, fun _ => 0, fun _ _ => 0, 0, fun _ => 0, 1, fun _ => 0, ⟨pr5, hr, ⟨h1, h2, fun e he => ?_⟩, t18, h4, t0 0 19 (by omega), by omega, fun n hn => by omega⟩, ⟨h5, t0 0 20 (by omega), by omega, fun f hf => ⟨fun j hj => h6 f j hf hj, fun j => ?_, fun j hj => t0 _ _ (by omega)⟩, fun f hf => by omega, fun f _ _ j => rfl⟩, ⟨h7, t0 0 21 (by omega), by omega, fun j => ?_, fun j hj => by omega⟩, ⟨h8, t22, by omega, by omega, fun k hk => ⟨h9 k hk, t0 _ _ (by omega), ?_, ?_⟩⟩⟩
  · exact h3 e he
  · show (-10000 : Int) ≤ 0 ∧ (0 : Int) ≤ 10000
    omega
  · show (-10000 : Int) ≤ 0 ∧ (0 : Int) ≤ 10000
    omega
  · show (-999 : Int) ≤ 0
    omega
  · show (0 : Int) ≤ 999
    omega
