/-! rows and columns chosen -/
def bt (r j : Nat) : Nat := r / 2 ^ j % 2
def pop (r : Nat) : Nat := bt r 0 + bt r 1 + bt r 2 + bt r 3
def pl (r i : Nat) : Nat := ((List.range 4).filter (fun j => bt r j = 1)).getD i 0
def lst (r : Nat) : Nat := if 8 ≤ r then 3 else if 4 ≤ r then 2 else if 2 ≤ r then 1 else 0
def af (r j : Nat) : Nat := pop (r / 2 ^ (j + 1))
theorem k_bits : ∀ r, r < 16 → f_X10_bits (ji ((r : Nat) : Int)) = some (ji ((pop r : Nat) : Int)) := by decide +kernel
theorem k_place : ∀ r, r < 16 → ∀ i, i < pop r → f_X10_place (ji ((r : Nat) : Int)) (ji ((i : Nat) : Int)) = some (ji ((pl r i : Nat) : Int)) ∧ pl r i < 4 := by decide +kernel
theorem k_count : ∀ r, r < 16 → f_J6_bitCount_0f7a4 (ji ((r : Nat) : Int)) = some (ji ((pop r : Nat) : Int)) ∧ pop r ≤ 4 := by decide +kernel
theorem k_last : ∀ r, r < 16 → r ≠ 0 → f_X1_lastOf (ji ((r : Nat) : Int)) = some (ji ((lst r : Nat) : Int)) ∧ lst r < 4 ∧ bt r (lst r) = 1 ∧ ji ((r : Nat) : Int) &&& ((1 <<< (ji ((lst r : Nat) : Int) &&& 31)) ^^^ (-1)) = ji ((r - 2 ^ lst r : Nat) : Int) ∧ r - 2 ^ lst r < r ∧ pop (r - 2 ^ lst r) + 1 = pop r := by decide +kernel
theorem k_bit : ∀ c, c < 16 → ∀ j, j < 4 → ((ji ((c : Nat) : Int) >>> (ji ((j : Nat) : Int) &&& 31)) &&& 1) = ji ((bt c j : Nat) : Int) ∧ (bt c j = 0 ∨ bt c j = 1) := by decide +kernel
theorem k_take : ∀ c, c < 16 → ∀ j, j < 4 → bt c j = 1 → ji ((c : Nat) : Int) &&& ((1 <<< (ji ((j : Nat) : Int) &&& 31)) ^^^ (-1)) = ji ((c - 2 ^ j : Nat) : Int) ∧ pop (c - 2 ^ j) + 1 = pop c := by decide +kernel
theorem k_after : ∀ c, c < 16 → ∀ j, j < 4 → f_J6_bitCount_0f7a4 (ji ((c : Nat) : Int) >>> (ji (((j : Nat) : Int) + 1) &&& 31)) = some (ji ((af c j : Nat) : Int)) ∧ af c j ≤ 4 ∧ ((ji ((af c j : Nat) : Int) &&& 1) = ji ((af c j % 2 : Nat) : Int)) := by decide +kernel
theorem k_shl : ∀ s, s ≤ 4 → (1 : Int32) <<< (ji ((s : Nat) : Int) &&& 31) = ji ((2 ^ s : Nat) : Int) := by decide +kernel
theorem k_small : ∀ s, s ≤ 4 → ∀ c, c < 16 → c < 2 ^ s → ∀ j, j < 4 → bt c j = 1 → j < s := by decide +kernel
/-- a minor, along its last row -/
def lap (A : Nat → Nat → Int) : Nat → Nat → Nat → Int
  | 0, _, _ => 1
  | k + 1, r, c =>
    (if bt c 0 = 1 then (if af c 0 % 2 = 1 then -1 else 1) * (A (lst r) 0 * lap A k (r - 2 ^ lst r) (c - 2 ^ 0)) else 0) +
    (if bt c 1 = 1 then (if af c 1 % 2 = 1 then -1 else 1) * (A (lst r) 1 * lap A k (r - 2 ^ lst r) (c - 2 ^ 1)) else 0) +
    (if bt c 2 = 1 then (if af c 2 % 2 = 1 then -1 else 1) * (A (lst r) 2 * lap A k (r - 2 ^ lst r) (c - 2 ^ 2)) else 0) +
    (if bt c 3 = 1 then (if af c 3 % 2 = 1 then -1 else 1) * (A (lst r) 3 * lap A k (r - 2 ^ lst r) (c - 2 ^ 3)) else 0)
def mn (A : Nat → Nat → Int) (r c : Nat) : Int := if pop r = pop c then lap A (pop r) r c else 0
/-! the sum over all orders -/
def inv2 (x y : Nat) : Nat := if x ≤ y then 0 else 1
def okc (k a b c d : Nat) : Bool := decide (a < k ∧ (2 ≤ k → b < k) ∧ (k < 2 → b = 1) ∧ (3 ≤ k → c < k) ∧ (k < 3 → c = 2) ∧ (4 ≤ k → d < k) ∧ (k < 4 → d = 3) ∧ a ≠ b ∧ a ≠ c ∧ a ≠ d ∧ b ≠ c ∧ b ≠ d ∧ c ≠ d)
def sgc (a b c d : Nat) : Int := if (inv2 a b + inv2 a c + inv2 a d + inv2 b c + inv2 b d + inv2 c d) % 2 = 0 then 1 else -1
def dg (x i : Nat) : Nat := x / 4 ^ i % 4
def okx (k x : Nat) : Bool := okc k (dg x 0) (dg x 1) (dg x 2) (dg x 3)
def sgx (x : Nat) : Int := sgc (dg x 0) (dg x 1) (dg x 2) (dg x 3)
def pr (A : Nat → Nat → Int) (p q : Nat → Nat) (x : Nat) : Nat → Int
  | 0 => sgx x
  | i + 1 => pr A p q x i * A (p i) (q (dg x i))
def sm (A : Nat → Nat → Int) (p q : Nat → Nat) (k : Nat) : Nat → Int
  | 0 => 0
  | x + 1 => sm A p q k x + (if okx k x = true then pr A p q x k else 0)
theorem sm_fold (A : Nat → Nat → Int) (p q : Nat → Nat) (k : Nat) : ∀ n : Nat, sm A p q k n = ((List.range n).filter (okx k)).foldl (fun s x => s + pr A p q x k) 0
  | 0 => rfl
  | n + 1 => by
    rw [sm, sm_fold A p q k n, List.range_succ, List.filter_append, List.foldl_append]
    cases h : okx k n
    · simp [h]
    · simp [h]
def Sg : Nat → (Nat → Int) → Int
  | 0, G => G 0
  | 1, G => -G 0 + G 1
  | 2, G => G 0 - G 1 + G 2
  | _, G => -G 0 + G 1 - G 2 + G 3
def sk (i : Nat) (q : Nat → Nat) : Nat → Nat := fun j => if j < i then q j else q (j + 1)
def L (A : Nat → Nat → Int) : Nat → (Nat → Nat) → (Nat → Nat) → Int
  | 0, _, _ => 1
  | k + 1, p, q => Sg k (fun i => A (p k) (q i) * L A k p (sk i q))
theorem Sg_congr {k : Nat} (hk : k ≤ 3) {G H : Nat → Int} (h : ∀ i : Nat, i ≤ k → G i = H i) : Sg k G = Sg k H := by
  rcases show k = 0 ∨ k = 1 ∨ k = 2 ∨ k = 3 by omega with q | q | q | q <;> subst q
  · show G 0 = H 0
    exact h 0 (by omega)
  · show -G 0 + G 1 = -H 0 + H 1
    rw [h 0 (by omega), h 1 (by omega)]
  · show G 0 - G 1 + G 2 = H 0 - H 1 + H 2
    rw [h 0 (by omega), h 1 (by omega), h 2 (by omega)]
  · show -G 0 + G 1 - G 2 + G 3 = -H 0 + H 1 - H 2 + H 3
    rw [h 0 (by omega), h 1 (by omega), h 2 (by omega), h 3 (by omega)]
theorem L_congr {A : Nat → Nat → Int} : ∀ (k : Nat), k ≤ 4 → ∀ {p q p' q' : Nat → Nat}, (∀ i : Nat, i < k → p i = p' i ∧ q i = q' i) → L A k p q = L A k p' q'
  | 0, _, _, _, _, _, _ => rfl
  | k + 1, hk, p, q, p', q', h => by
    rw [L, L]
    apply Sg_congr (by omega)
    intro i hi
    rw [(h k (by omega)).1, (h i (by omega)).2, L_congr k (by omega) (p := p) (p' := p') (q := sk i q) (q' := sk i q') (fun j hj => ⟨(h j (by omega)).1, ?_⟩)]
    unfold sk
    split
    · exact (h j (by omega)).2
    · exact (h (j + 1) (by omega)).2
theorem k_ok1 : (List.range 256).filter (okx 1) = [228] := by decide +kernel
theorem sm_1 (A : Nat → Nat → Int) (p q : Nat → Nat) : sm A p q 1 256 = L A 1 p q := by
  rw [sm_fold, k_ok1]
  simp only [List.foldl_cons, List.foldl_nil, pr, L, Sg, sk, Nat.lt_irrefl, Nat.zero_lt_succ, Nat.not_lt_zero, if_true, if_false, show sgx 228 = 1 from by decide, show dg 228 0 = 0 from by decide]
  simp
theorem k_ok2 : (List.range 256).filter (okx 2) = [225, 228] := by decide +kernel
theorem sm_2 (A : Nat → Nat → Int) (p q : Nat → Nat) : sm A p q 2 256 = L A 2 p q := by
  rw [sm_fold, k_ok2]
  simp only [List.foldl_cons, List.foldl_nil, pr, L, Sg, sk, Nat.lt_irrefl, Nat.zero_lt_succ, Nat.not_lt_zero, if_true, if_false, show sgx 225 = -1 from by decide, show dg 225 0 = 1 from by decide, show dg 225 1 = 0 from by decide, show sgx 228 = 1 from by decide, show dg 228 0 = 0 from by decide, show dg 228 1 = 1 from by decide]
  simp
  grind
theorem k_ok3 : (List.range 256).filter (okx 3) = [198, 201, 210, 216, 225, 228] := by decide +kernel
theorem sm_3 (A : Nat → Nat → Int) (p q : Nat → Nat) : sm A p q 3 256 = L A 3 p q := by
  rw [sm_fold, k_ok3]
  simp only [List.foldl_cons, List.foldl_nil, pr, L, Sg, sk, Nat.lt_irrefl, Nat.zero_lt_succ, Nat.not_lt_zero, if_true, if_false, show sgx 198 = -1 from by decide, show dg 198 0 = 2 from by decide, show dg 198 1 = 1 from by decide, show dg 198 2 = 0 from by decide, show sgx 201 = 1 from by decide, show dg 201 0 = 1 from by decide, show dg 201 1 = 2 from by decide, show dg 201 2 = 0 from by decide, show sgx 210 = 1 from by decide, show dg 210 0 = 2 from by decide, show dg 210 1 = 0 from by decide, show dg 210 2 = 1 from by decide, show sgx 216 = -1 from by decide, show dg 216 0 = 0 from by decide, show dg 216 1 = 2 from by decide, show dg 216 2 = 1 from by decide, show sgx 225 = -1 from by decide, show dg 225 0 = 1 from by decide, show dg 225 1 = 0 from by decide, show dg 225 2 = 2 from by decide, show sgx 228 = 1 from by decide, show dg 228 0 = 0 from by decide, show dg 228 1 = 1 from by decide, show dg 228 2 = 2 from by decide]
  simp
  grind
theorem k_ok4 : (List.range 256).filter (okx 4) = [27, 30, 39, 45, 54, 57, 75, 78, 99, 108, 114, 120, 135, 141, 147, 156, 177, 180, 198, 201, 210, 216, 225, 228] := by decide +kernel
theorem sm_4 (A : Nat → Nat → Int) (p q : Nat → Nat) : sm A p q 4 256 = L A 4 p q := by
  rw [sm_fold, k_ok4]
  simp only [List.foldl_cons, List.foldl_nil, pr, L, Sg, sk, Nat.lt_irrefl, Nat.zero_lt_succ, Nat.not_lt_zero, if_true, if_false, show sgx 27 = 1 from by decide, show dg 27 0 = 3 from by decide, show dg 27 1 = 2 from by decide, show dg 27 2 = 1 from by decide, show dg 27 3 = 0 from by decide, show sgx 30 = -1 from by decide, show dg 30 0 = 2 from by decide, show dg 30 1 = 3 from by decide, show dg 30 2 = 1 from by decide, show dg 30 3 = 0 from by decide, show sgx 39 = -1 from by decide, show dg 39 0 = 3 from by decide, show dg 39 1 = 1 from by decide, show dg 39 2 = 2 from by decide, show dg 39 3 = 0 from by decide, show sgx 45 = 1 from by decide, show dg 45 0 = 1 from by decide, show dg 45 1 = 3 from by decide, show dg 45 2 = 2 from by decide, show dg 45 3 = 0 from by decide, show sgx 54 = 1 from by decide, show dg 54 0 = 2 from by decide, show dg 54 1 = 1 from by decide, show dg 54 2 = 3 from by decide, show dg 54 3 = 0 from by decide, show sgx 57 = -1 from by decide, show dg 57 0 = 1 from by decide, show dg 57 1 = 2 from by decide, show dg 57 2 = 3 from by decide, show dg 57 3 = 0 from by decide, show sgx 75 = -1 from by decide, show dg 75 0 = 3 from by decide, show dg 75 1 = 2 from by decide, show dg 75 2 = 0 from by decide, show dg 75 3 = 1 from by decide, show sgx 78 = 1 from by decide, show dg 78 0 = 2 from by decide, show dg 78 1 = 3 from by decide, show dg 78 2 = 0 from by decide, show dg 78 3 = 1 from by decide, show sgx 99 = 1 from by decide, show dg 99 0 = 3 from by decide, show dg 99 1 = 0 from by decide, show dg 99 2 = 2 from by decide, show dg 99 3 = 1 from by decide, show sgx 108 = -1 from by decide, show dg 108 0 = 0 from by decide, show dg 108 1 = 3 from by decide, show dg 108 2 = 2 from by decide, show dg 108 3 = 1 from by decide, show sgx 114 = -1 from by decide, show dg 114 0 = 2 from by decide, show dg 114 1 = 0 from by decide, show dg 114 2 = 3 from by decide, show dg 114 3 = 1 from by decide, show sgx 120 = 1 from by decide, show dg 120 0 = 0 from by decide, show dg 120 1 = 2 from by decide, show dg 120 2 = 3 from by decide, show dg 120 3 = 1 from by decide, show sgx 135 = 1 from by decide, show dg 135 0 = 3 from by decide, show dg 135 1 = 1 from by decide, show dg 135 2 = 0 from by decide, show dg 135 3 = 2 from by decide, show sgx 141 = -1 from by decide, show dg 141 0 = 1 from by decide, show dg 141 1 = 3 from by decide, show dg 141 2 = 0 from by decide, show dg 141 3 = 2 from by decide, show sgx 147 = -1 from by decide, show dg 147 0 = 3 from by decide, show dg 147 1 = 0 from by decide, show dg 147 2 = 1 from by decide, show dg 147 3 = 2 from by decide, show sgx 156 = 1 from by decide, show dg 156 0 = 0 from by decide, show dg 156 1 = 3 from by decide, show dg 156 2 = 1 from by decide, show dg 156 3 = 2 from by decide, show sgx 177 = 1 from by decide, show dg 177 0 = 1 from by decide, show dg 177 1 = 0 from by decide, show dg 177 2 = 3 from by decide, show dg 177 3 = 2 from by decide, show sgx 180 = -1 from by decide, show dg 180 0 = 0 from by decide, show dg 180 1 = 1 from by decide, show dg 180 2 = 3 from by decide, show dg 180 3 = 2 from by decide, show sgx 198 = -1 from by decide, show dg 198 0 = 2 from by decide, show dg 198 1 = 1 from by decide, show dg 198 2 = 0 from by decide, show dg 198 3 = 3 from by decide, show sgx 201 = 1 from by decide, show dg 201 0 = 1 from by decide, show dg 201 1 = 2 from by decide, show dg 201 2 = 0 from by decide, show dg 201 3 = 3 from by decide, show sgx 210 = 1 from by decide, show dg 210 0 = 2 from by decide, show dg 210 1 = 0 from by decide, show dg 210 2 = 1 from by decide, show dg 210 3 = 3 from by decide, show sgx 216 = -1 from by decide, show dg 216 0 = 0 from by decide, show dg 216 1 = 2 from by decide, show dg 216 2 = 1 from by decide, show dg 216 3 = 3 from by decide, show sgx 225 = -1 from by decide, show dg 225 0 = 1 from by decide, show dg 225 1 = 0 from by decide, show dg 225 2 = 2 from by decide, show dg 225 3 = 3 from by decide, show sgx 228 = 1 from by decide, show dg 228 0 = 0 from by decide, show dg 228 1 = 1 from by decide, show dg 228 2 = 2 from by decide, show dg 228 3 = 3 from by decide]
  simp
  grind
theorem k_lst : ∀ r, r < 16 → r ≠ 0 → lst r = pl r (pop r - 1) ∧ ∀ i, i < pop r - 1 → pl (r - 2 ^ lst r) i = pl r i := by decide +kernel
theorem k_pl : ∀ c, c < 16 → ∀ i, i < pop c → bt c (pl c i) = 1 ∧ pl c i < 4 ∧ pop (c - 2 ^ pl c i) + 1 = pop c ∧ ∀ j, j < pop c - 1 → pl (c - 2 ^ pl c i) j = if j < i then pl c j else pl c (j + 1) := by decide +kernel
theorem lap_sum (F : Nat → Int) : ∀ c : Nat, 0 < c → c < 16 → (if bt c 0 = 1 then (if af c 0 % 2 = 1 then -1 else 1) * F 0 else 0) + (if bt c 1 = 1 then (if af c 1 % 2 = 1 then -1 else 1) * F 1 else 0) + (if bt c 2 = 1 then (if af c 2 % 2 = 1 then -1 else 1) * F 2 else 0) + (if bt c 3 = 1 then (if af c 3 % 2 = 1 then -1 else 1) * F 3 else 0) = Sg (pop c - 1) (fun i => F (pl c i)) := by
  intro c h0 hc
  rcases show c = 1 ∨ c = 2 ∨ c = 3 ∨ c = 4 ∨ c = 5 ∨ c = 6 ∨ c = 7 ∨ c = 8 ∨ c = 9 ∨ c = 10 ∨ c = 11 ∨ c = 12 ∨ c = 13 ∨ c = 14 ∨ c = 15 by omega with q | q | q | q | q | q | q | q | q | q | q | q | q | q | q <;> subst q
  · simp only [show bt 1 0 = 1 from rfl, show bt 1 1 = 0 from rfl, show bt 1 2 = 0 from rfl, show bt 1 3 = 0 from rfl, show af 1 0 = 0 from rfl, show af 1 1 = 0 from rfl, show af 1 2 = 0 from rfl, show af 1 3 = 0 from rfl, show pop 1 - 1 = 0 from rfl, show pl 1 0 = 0 from rfl, Sg]
    simp
    try omega
  · simp only [show bt 2 0 = 0 from rfl, show bt 2 1 = 1 from rfl, show bt 2 2 = 0 from rfl, show bt 2 3 = 0 from rfl, show af 2 0 = 1 from rfl, show af 2 1 = 0 from rfl, show af 2 2 = 0 from rfl, show af 2 3 = 0 from rfl, show pop 2 - 1 = 0 from rfl, show pl 2 0 = 1 from rfl, Sg]
    simp
    try omega
  · simp only [show bt 3 0 = 1 from rfl, show bt 3 1 = 1 from rfl, show bt 3 2 = 0 from rfl, show bt 3 3 = 0 from rfl, show af 3 0 = 1 from rfl, show af 3 1 = 0 from rfl, show af 3 2 = 0 from rfl, show af 3 3 = 0 from rfl, show pop 3 - 1 = 1 from rfl, show pl 3 0 = 0 from rfl, show pl 3 1 = 1 from rfl, Sg]
    simp
    try omega
  · simp only [show bt 4 0 = 0 from rfl, show bt 4 1 = 0 from rfl, show bt 4 2 = 1 from rfl, show bt 4 3 = 0 from rfl, show af 4 0 = 1 from rfl, show af 4 1 = 1 from rfl, show af 4 2 = 0 from rfl, show af 4 3 = 0 from rfl, show pop 4 - 1 = 0 from rfl, show pl 4 0 = 2 from rfl, Sg]
    simp
    try omega
  · simp only [show bt 5 0 = 1 from rfl, show bt 5 1 = 0 from rfl, show bt 5 2 = 1 from rfl, show bt 5 3 = 0 from rfl, show af 5 0 = 1 from rfl, show af 5 1 = 1 from rfl, show af 5 2 = 0 from rfl, show af 5 3 = 0 from rfl, show pop 5 - 1 = 1 from rfl, show pl 5 0 = 0 from rfl, show pl 5 1 = 2 from rfl, Sg]
    simp
    try omega
  · simp only [show bt 6 0 = 0 from rfl, show bt 6 1 = 1 from rfl, show bt 6 2 = 1 from rfl, show bt 6 3 = 0 from rfl, show af 6 0 = 2 from rfl, show af 6 1 = 1 from rfl, show af 6 2 = 0 from rfl, show af 6 3 = 0 from rfl, show pop 6 - 1 = 1 from rfl, show pl 6 0 = 1 from rfl, show pl 6 1 = 2 from rfl, Sg]
    simp
    try omega
  · simp only [show bt 7 0 = 1 from rfl, show bt 7 1 = 1 from rfl, show bt 7 2 = 1 from rfl, show bt 7 3 = 0 from rfl, show af 7 0 = 2 from rfl, show af 7 1 = 1 from rfl, show af 7 2 = 0 from rfl, show af 7 3 = 0 from rfl, show pop 7 - 1 = 2 from rfl, show pl 7 0 = 0 from rfl, show pl 7 1 = 1 from rfl, show pl 7 2 = 2 from rfl, Sg]
    simp
    try omega
  · simp only [show bt 8 0 = 0 from rfl, show bt 8 1 = 0 from rfl, show bt 8 2 = 0 from rfl, show bt 8 3 = 1 from rfl, show af 8 0 = 1 from rfl, show af 8 1 = 1 from rfl, show af 8 2 = 1 from rfl, show af 8 3 = 0 from rfl, show pop 8 - 1 = 0 from rfl, show pl 8 0 = 3 from rfl, Sg]
    simp
    try omega
  · simp only [show bt 9 0 = 1 from rfl, show bt 9 1 = 0 from rfl, show bt 9 2 = 0 from rfl, show bt 9 3 = 1 from rfl, show af 9 0 = 1 from rfl, show af 9 1 = 1 from rfl, show af 9 2 = 1 from rfl, show af 9 3 = 0 from rfl, show pop 9 - 1 = 1 from rfl, show pl 9 0 = 0 from rfl, show pl 9 1 = 3 from rfl, Sg]
    simp
    try omega
  · simp only [show bt 10 0 = 0 from rfl, show bt 10 1 = 1 from rfl, show bt 10 2 = 0 from rfl, show bt 10 3 = 1 from rfl, show af 10 0 = 2 from rfl, show af 10 1 = 1 from rfl, show af 10 2 = 1 from rfl, show af 10 3 = 0 from rfl, show pop 10 - 1 = 1 from rfl, show pl 10 0 = 1 from rfl, show pl 10 1 = 3 from rfl, Sg]
    simp
    try omega
  · simp only [show bt 11 0 = 1 from rfl, show bt 11 1 = 1 from rfl, show bt 11 2 = 0 from rfl, show bt 11 3 = 1 from rfl, show af 11 0 = 2 from rfl, show af 11 1 = 1 from rfl, show af 11 2 = 1 from rfl, show af 11 3 = 0 from rfl, show pop 11 - 1 = 2 from rfl, show pl 11 0 = 0 from rfl, show pl 11 1 = 1 from rfl, show pl 11 2 = 3 from rfl, Sg]
    simp
    try omega
  · simp only [show bt 12 0 = 0 from rfl, show bt 12 1 = 0 from rfl, show bt 12 2 = 1 from rfl, show bt 12 3 = 1 from rfl, show af 12 0 = 2 from rfl, show af 12 1 = 2 from rfl, show af 12 2 = 1 from rfl, show af 12 3 = 0 from rfl, show pop 12 - 1 = 1 from rfl, show pl 12 0 = 2 from rfl, show pl 12 1 = 3 from rfl, Sg]
    simp
    try omega
  · simp only [show bt 13 0 = 1 from rfl, show bt 13 1 = 0 from rfl, show bt 13 2 = 1 from rfl, show bt 13 3 = 1 from rfl, show af 13 0 = 2 from rfl, show af 13 1 = 2 from rfl, show af 13 2 = 1 from rfl, show af 13 3 = 0 from rfl, show pop 13 - 1 = 2 from rfl, show pl 13 0 = 0 from rfl, show pl 13 1 = 2 from rfl, show pl 13 2 = 3 from rfl, Sg]
    simp
    try omega
  · simp only [show bt 14 0 = 0 from rfl, show bt 14 1 = 1 from rfl, show bt 14 2 = 1 from rfl, show bt 14 3 = 1 from rfl, show af 14 0 = 3 from rfl, show af 14 1 = 2 from rfl, show af 14 2 = 1 from rfl, show af 14 3 = 0 from rfl, show pop 14 - 1 = 2 from rfl, show pl 14 0 = 1 from rfl, show pl 14 1 = 2 from rfl, show pl 14 2 = 3 from rfl, Sg]
    simp
    try omega
  · simp only [show bt 15 0 = 1 from rfl, show bt 15 1 = 1 from rfl, show bt 15 2 = 1 from rfl, show bt 15 3 = 1 from rfl, show af 15 0 = 3 from rfl, show af 15 1 = 2 from rfl, show af 15 2 = 1 from rfl, show af 15 3 = 0 from rfl, show pop 15 - 1 = 3 from rfl, show pl 15 0 = 0 from rfl, show pl 15 1 = 1 from rfl, show pl 15 2 = 2 from rfl, show pl 15 3 = 3 from rfl, Sg]
    simp
    try omega
