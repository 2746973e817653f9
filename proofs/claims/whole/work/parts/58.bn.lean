/-! ===== binomials ===== -/
def bn : Nat → Nat → Nat
  | 0, 0 => 1
  | 0, _ + 1 => 0
  | _ + 1, 0 => 1
  | n + 1, k + 1 => bn n k + bn n (k + 1)
theorem bn_0 (n : Nat) : bn n 0 = 1 := by cases n <;> rfl
theorem bn_s (n k : Nat) : bn (n + 1) (k + 1) = bn n k + bn n (k + 1) := rfl
theorem bn_id : ∀ (n k : Nat), ((bn n (k + 1) : Nat) : Int) * ((k : Int) + 1) = ((bn n k : Nat) : Int) * ((n : Int) - k) := by
  intro n
  induction n with
  | zero =>
    intro k
    cases k with
    | zero => decide
    | succ k => show (0 : Int) * _ = 0 * _; rw [Int.zero_mul, Int.zero_mul]
  | succ n ih =>
    intro k
    cases k with
    | zero =>
      have := ih 0
      rw [bn_0] at this
      rw [bn_s, bn_0, bn_0]
      omega
    | succ k =>
      have a := ih k
      have b := ih (k + 1)
      rw [bn_s, bn_s]
      generalize hx : ((bn n (k + 1) : Nat) : Int) = x at a b
      generalize hy : ((bn n k : Nat) : Int) = y at a
      generalize hz : ((bn n (k + 1 + 1) : Nat) : Int) = z at b
      simp only [Int.natCast_add, hx, hy, hz]
      rw [Int.natCast_add k 1] at b
      have e1 : ((n : Int) + ((1 : Nat) : Int) - ((k : Int) + ((1 : Nat) : Int))) = (n : Int) - k := by omega
      have e2 : ((k : Int) + ((1 : Nat) : Int) + 1) = (k + 1) + 1 := by omega
      have e3 : (n : Int) - ((k : Int) + ((1 : Nat) : Int)) = (n - k) - 1 := by omega
      rw [e1, e2]
      rw [e2, e3] at b
      generalize (k : Int) + 1 = u at a b ⊢
      generalize (n : Int) - k = v at a b ⊢
      rw [Int.add_mul, b, Int.add_mul, ← a, Int.mul_sub, Int.mul_add]
      omega
theorem bn_le : ∀ (n k : Nat), bn n k ≤ 2 ^ n := by
  intro n
  induction n with
  | zero =>
    intro k
    cases k with
    | zero => decide
    | succ k => exact Nat.zero_le _
  | succ n ih =>
    intro k
    cases k with
    | zero => rw [bn_0]; exact Nat.one_le_two_pow
    | succ k =>
      have a := ih k
      have b := ih (k + 1)
      rw [bn_s, Nat.pow_succ]
      omega
theorem bn_gt : ∀ (n k : Nat), n < k → bn n k = 0 := by
  intro n
  induction n with
  | zero => intro k hk; cases k with
    | zero => omega
    | succ k => rfl
  | succ n ih =>
    intro k hk
    cases k with
    | zero => omega
    | succ k => rw [bn_s, ih k (by omega), ih (k + 1) (by omega)]
def bS (n : Nat) (k : Nat) : Int := sumN (fun i => ((bn n i : Nat) : Int)) k
theorem bS_s (n : Nat) : ∀ m, bS (n + 1) (m + 1) = bS n m + bS n (m + 1) := by
  intro m
  induction m with
  | zero =>
    show 0 + ((bn (n + 1) 0 : Nat) : Int) = 0 + (0 + ((bn n 0 : Nat) : Int))
    rw [bn_0, bn_0]
    omega
  | succ m ih =>
    have a : bS (n + 1) (m + 1 + 1) = bS (n + 1) (m + 1) + ((bn (n + 1) (m + 1) : Nat) : Int) := rfl
    have b : bS n (m + 1 + 1) = bS n (m + 1) + ((bn n (m + 1) : Nat) : Int) := rfl
    have c : bS n (m + 1) = bS n m + ((bn n m : Nat) : Int) := rfl
    rw [bn_s] at a
    omega
theorem bS_le : ∀ (n m : Nat), 0 ≤ bS n m ∧ bS n m ≤ ((2 ^ n : Nat) : Int) := by
  intro n
  induction n with
  | zero =>
    intro m
    cases m with
    | zero => decide
    | succ m =>
      have : ∀ m : Nat, bS 0 (m + 1) = 1 := by
        intro m
        induction m with
        | zero => rfl
        | succ m ih =>
          show bS 0 (m + 1) + 0 = 1
          rw [ih]
          rfl
      rw [this]
      decide
  | succ n ih =>
    intro m
    cases m with
    | zero => exact ⟨Int.le_refl _, Int.natCast_nonneg _⟩
    | succ m =>
      have a := ih m
      have b := ih (m + 1)
      rw [bS_s, Nat.pow_succ]
      omega
