/-! ===== scheme: numbers and boards ===== -/
def xf (p : Int → Bool) : Nat → Int → Bool
  | 0, _ => false
  | m + 1, k => p k || xf p m (k + 1)
theorem xf_iff {p : Int → Bool} : ∀ (m : Nat) (k : Int), xf p m k = true ↔ ∃ j, k ≤ j ∧ j < k + m ∧ p j = true := by
  intro m
  induction m with
  | zero =>
    intro k
    exact ⟨fun y => absurd y (by rw [xf]; decide), fun ⟨j, a, b, _⟩ => by omega⟩
  | succ m ih =>
    intro k
    rw [xf, Bool.or_eq_true, ih (k + 1)]
    constructor
    · intro y
      rcases y with y | ⟨j, a, b, c⟩
      · exact ⟨k, by omega, by omega, y⟩
      · exact ⟨j, by omega, by omega, c⟩
    · intro ⟨j, a, b, c⟩
      by_cases e : j = k
      · rw [← e]; exact Or.inl c
      · exact Or.inr ⟨j, by omega, by omega, c⟩
def Ld (e : Int) : Nat → BD → Bool
  | 0, b => isP b e
  | t + 1, b => if b.1 2 = 0 then isP b e else if b.1 5 = e then xf (fun k => Ld e t (takeB b k)) (min (b.1 4) (b.1 2) + 1).toNat 0 else Ld e t (turnB b)
def scV (e : Int) : Nat → BD → Int
  | 0, b => if isP b e = true then 0 else -9
  | t + 1, b => if b.1 2 = 0 then (if isP b e = true then 0 else -9) else if b.1 5 = e then fsN (fun k => Ld e t (takeB b k)) (min (b.1 4) (b.1 2) + 1).toNat 0 else scV e t (turnB b)
def Br (e : Int) : Nat → BD → Nat → Nat → Bool
  | 0, b, _, _ => isP b e
  | t + 1, b, x, p => if b.1 2 = 0 then isP b e else if b.1 5 = e then (if b.1 4 < ((x / p % 7 : Nat) : Int) ∨ b.1 2 < ((x / p % 7 : Nat) : Int) then false else Br e t (takeB b ((x / p % 7 : Nat) : Int)) x (if p ≤ 1 then 1 else p / 7)) else Br e t (turnB b) x p
def ow (e n : Int) : Nat → Int → Nat
  | 0, _ => 0
  | t + 1, x => ow e n t (x + 1) + (if x % n = e then 1 else 0)
theorem ow_c {e n : Int} : ∀ (t : Nat) (x y : Int), x % n = y % n → ow e n t x = ow e n t y := by
  intro t
  induction t with
  | zero => intro x y _; rfl
  | succ t ih =>
    intro x y h
    rw [ow, ow, h, ih (x + 1) (y + 1) (by rw [Int.add_emod, h, ← Int.add_emod])]
theorem ow_n {e n x : Int} (t : Nat) : ow e n t ((x + 1) % n) = ow e n t (x + 1) := ow_c t _ _ (Int.emod_emod _ _)
theorem p7 (w : Nat) : 1 ≤ 7 ^ w := Nat.one_le_pow _ _ (by decide)
theorem p7_s (w : Nat) : (if 7 ^ w ≤ 1 then 1 else 7 ^ w / 7) = 7 ^ (w - 1) := by
  cases w with
  | zero => rfl
  | succ w =>
    have := p7 w
    rw [Nat.pow_succ, if_neg (by omega), Nat.add_sub_cancel]
    omega
theorem Br_mod {e : Int} : ∀ (t : Nat) (b : BD) (x y : Nat), 0 ≤ b.1 5 → b.1 5 < b.1 1 → x % 7 ^ (ow e (b.1 1) t (b.1 5)) = y % 7 ^ (ow e (b.1 1) t (b.1 5)) → Br e t b x (7 ^ (ow e (b.1 1) t (b.1 5) - 1)) = Br e t b y (7 ^ (ow e (b.1 1) t (b.1 5) - 1)) := by
  intro t
  induction t with
  | zero => intro b x y _ _ _; rfl
  | succ t ih =>
    intro b x y b0 b5 h
    have em : b.1 5 % b.1 1 = b.1 5 := Int.emod_eq_of_lt b0 b5
    have nr := emod_r (a := b.1 5 + 1) (b := b.1 1) (by omega)
    rw [Br, Br]
    by_cases c : b.1 2 = 0
    · rw [if_pos c, if_pos c]
    rw [if_neg c, if_neg c]
    rw [ow, em] at h ⊢
    by_cases c2 : b.1 5 = e
    · rw [if_pos c2] at h
      rw [if_pos c2, if_pos c2, if_pos c2, Nat.add_sub_cancel]
      generalize hw : ow e (b.1 1) t (b.1 5 + 1) = w at h ⊢
      have ed : x / 7 ^ w % 7 = y / 7 ^ w % 7 := by
        rw [← Nat.mod_mul_right_div_self, ← Nat.mod_mul_right_div_self, ← Nat.pow_succ, h]
      rw [ed, p7_s]
      by_cases c3 : b.1 4 < ((y / 7 ^ w % 7 : Nat) : Int) ∨ b.1 2 < ((y / 7 ^ w % 7 : Nat) : Int)
      · rw [if_pos c3, if_pos c3]
      · rw [if_neg c3, if_neg c3]
        have hx : x % 7 ^ w = y % 7 ^ w := by
          have : (x % 7 ^ (w + 1)) % 7 ^ w = (y % 7 ^ (w + 1)) % 7 ^ w := congrArg (fun z => z % 7 ^ w) h
          rw [Nat.mod_mod_of_dvd _ (Nat.pow_dvd_pow 7 (Nat.le_succ w)), Nat.mod_mod_of_dvd _ (Nat.pow_dvd_pow 7 (Nat.le_succ w))] at this
          exact this
        have := ih (takeB b ((y / 7 ^ w % 7 : Nat) : Int)) x y nr.1 nr.2
        have ew : ow e ((takeB b ((y / 7 ^ w % 7 : Nat) : Int)).1 1) t ((takeB b ((y / 7 ^ w % 7 : Nat) : Int)).1 5) = w := by
          rw [← hw]
          exact ow_n t
        rw [ew] at this
        exact this hx
    · rw [if_neg c2] at h
      rw [if_neg c2, if_neg c2, if_neg c2]
      have := ih (turnB b) x y nr.1 nr.2
      have ew : ow e ((turnB b).1 1) t ((turnB b).1 5) = ow e (b.1 1) t (b.1 5 + 1) := ow_n t
      rw [ew] at this
      exact this h
theorem own_to {e : Int} {t : Nat} {b : BD} {k : Int} {y w : Nat} (b0 : 0 ≤ b.1 5) (b5 : b.1 5 < b.1 1) (m6 : b.1 4 ≤ 6) (c : ¬ b.1 2 = 0) (c2 : b.1 5 = e) (hw : ow e (b.1 1) t (b.1 5 + 1) = w) (k0 : 0 ≤ k) (km : k ≤ b.1 4) (kf : k ≤ b.1 2) (hy : y < 7 ^ w) : Br e (t + 1) b (k.toNat * 7 ^ w + y) (7 ^ w) = Br e t (takeB b k) y (7 ^ (w - 1)) := by
  have nr := emod_r (a := b.1 5 + 1) (b := b.1 1) (by omega)
  have ed : (k.toNat * 7 ^ w + y) / 7 ^ w % 7 = k.toNat := by
    rw [Nat.add_comm, Nat.add_mul_div_right _ _ (p7 w), Nat.div_eq_of_lt hy, Nat.zero_add, Nat.mod_eq_of_lt (by omega)]
  rw [Br, if_neg c, if_pos c2, ed, show ((k.toNat : Nat) : Int) = k by omega, if_neg (by omega), p7_s]
  have ew : ow e ((takeB b k).1 1) t ((takeB b k).1 5) = w := by
    rw [← hw]
    exact ow_n t
  have := Br_mod (e := e) t (takeB b k) (k.toNat * 7 ^ w + y) y nr.1 nr.2
  rw [ew] at this
  exact this (by rw [Nat.add_comm, Nat.add_mul_mod_self_right])
theorem own_from {e : Int} {t : Nat} {b : BD} {x w : Nat} (b0 : 0 ≤ b.1 5) (b5 : b.1 5 < b.1 1) (c : ¬ b.1 2 = 0) (c2 : b.1 5 = e) (hw : ow e (b.1 1) t (b.1 5 + 1) = w) (h : Br e (t + 1) b x (7 ^ w) = true) : ((x / 7 ^ w % 7 : Nat) : Int) ≤ b.1 4 ∧ ((x / 7 ^ w % 7 : Nat) : Int) ≤ b.1 2 ∧ Br e t (takeB b ((x / 7 ^ w % 7 : Nat) : Int)) (x % 7 ^ w) (7 ^ (w - 1)) = true := by
  have nr := emod_r (a := b.1 5 + 1) (b := b.1 1) (by omega)
  rw [Br, if_neg c, if_pos c2, p7_s] at h
  by_cases c3 : b.1 4 < ((x / 7 ^ w % 7 : Nat) : Int) ∨ b.1 2 < ((x / 7 ^ w % 7 : Nat) : Int)
  · rw [if_pos c3] at h
    cases h
  rw [if_neg c3] at h
  have ew : ow e ((takeB b ((x / 7 ^ w % 7 : Nat) : Int)).1 1) t ((takeB b ((x / 7 ^ w % 7 : Nat) : Int)).1 5) = w := by
    rw [← hw]
    exact ow_n t
  have := Br_mod (e := e) t (takeB b ((x / 7 ^ w % 7 : Nat) : Int)) (x % 7 ^ w) x nr.1 nr.2
  rw [ew] at this
  exact ⟨by omega, by omega, by rw [this (Nat.mod_mod _ _)]; exact h⟩
theorem Ld_Br {e : Int} : ∀ (t : Nat) (b : BD), okBd b → b.1 5 < b.1 1 → (Ld e t b = true ↔ ∃ x : Nat, x < 7 ^ ow e (b.1 1) t (b.1 5) ∧ Br e t b x (7 ^ (ow e (b.1 1) t (b.1 5) - 1)) = true) := by
  intro t
  induction t with
  | zero =>
    intro b hb hn
    exact ⟨fun y => ⟨0, by show 0 < 7 ^ 0; decide, y⟩, fun ⟨_, _, y⟩ => y⟩
  | succ t ih =>
    intro b hb hn
    have b0 : 0 ≤ b.1 5 := hb.2.2.1.2.2.2.2.2.2.1
    have m6 : b.1 4 ≤ 6 := hb.2.2.1.2.2.2.2.2.1
    have f0 : 0 ≤ b.1 2 := hb.2.2.1.1
    have em : b.1 5 % b.1 1 = b.1 5 := Int.emod_eq_of_lt b0 hn
    rw [Ld]
    by_cases c : b.1 2 = 0
    · rw [if_pos c]
      refine ⟨fun y => ⟨0, p7 _, by rw [Br, if_pos c]; exact y⟩, fun ⟨x, _, y⟩ => ?_⟩
      rw [Br, if_pos c] at y
      exact y
    rw [if_neg c, ow, em]
    by_cases c2 : b.1 5 = e
    · rw [if_pos c2, if_pos c2, Nat.add_sub_cancel, xf_iff]
      generalize hw : ow e (b.1 1) t (b.1 5 + 1) = w
      have ihk : ∀ k, 0 ≤ k → k ≤ b.1 2 → (Ld e t (takeB b k) = true ↔ ∃ x : Nat, x < 7 ^ w ∧ Br e t (takeB b k) x (7 ^ (w - 1)) = true) := by
        intro k k0 kf
        have := ih (takeB b k) (takeB_ok hb hn k0 kf) (takeB_n (by omega))
        have ew : ow e ((takeB b k).1 1) t ((takeB b k).1 5) = w := by
          rw [← hw]
          exact ow_n t
        rw [ew] at this
        exact this
      constructor
      · intro ⟨k, k0, k1, hk⟩
        obtain ⟨y, hy, hq⟩ := (ihk k k0 (by omega)).mp hk
        have ky : k.toNat * 7 ^ w ≤ 6 * 7 ^ w := Nat.mul_le_mul_right _ (by omega)
        refine ⟨k.toNat * 7 ^ w + y, by rw [Nat.pow_succ]; omega, ?_⟩
        rw [own_to b0 hn m6 c c2 hw k0 (by omega) (by omega) hy]
        exact hq
      · intro ⟨x, hx, hq⟩
        obtain ⟨q1, q2, q3⟩ := own_from b0 hn c c2 hw hq
        exact ⟨_, by omega, by omega, (ihk _ (by omega) q2).mpr ⟨_, Nat.mod_lt _ (p7 w), q3⟩⟩
    · rw [if_neg c2, if_neg c2]
      have := ih (turnB b) (turnB_ok hb hn) (turnB_n (by omega))
      have ew : ow e ((turnB b).1 1) t ((turnB b).1 5) = ow e (b.1 1) t (b.1 5 + 1) := ow_n t
      rw [ew] at this
      rw [this]
      constructor
      · intro ⟨x, hx, hq⟩
        exact ⟨x, hx, by rw [Br, if_neg c, if_neg c2]; exact hq⟩
      · intro ⟨x, hx, hq⟩
        rw [Br, if_neg c, if_neg c2] at hq
        exact ⟨x, hx, hq⟩
def rB (q : Nat → Bool) (p : Nat) : Nat → Nat → Int
  | 0, _ => -9
  | m + 1, x => if q x = true then ((x / p : Nat) : Int) else rB q p m (x + 1)
theorem rB_c {q q' : Nat → Bool} {p : Nat} (h : ∀ x, q x = q' x) : ∀ (m x : Nat), rB q p m x = rB q' p m x := by
  intro m
  induction m with
  | zero => intro x; rfl
  | succ m ih => intro x; rw [rB, rB, h, ih]
theorem rB_s {q : Nat → Bool} {p : Nat} : ∀ (m s : Nat), (rB q p m s = -9 ∧ ∀ x, s ≤ x → x < s + m → q x = false) ∨ ∃ x, s ≤ x ∧ x < s + m ∧ q x = true ∧ (∀ y, s ≤ y → y < x → q y = false) ∧ rB q p m s = ((x / p : Nat) : Int) := by
  intro m
  induction m with
  | zero => intro s; exact Or.inl ⟨rfl, fun x a b => by omega⟩
  | succ m ih =>
    intro s
    rw [rB]
    by_cases c : q s = true
    · rw [if_pos c]
      exact Or.inr ⟨s, Nat.le_refl _, by omega, c, fun y a b => by omega, rfl⟩
    · rw [if_neg c]
      rcases ih (s + 1) with ⟨a, b⟩ | ⟨x, a1, a2, a3, a4, a5⟩
      · refine Or.inl ⟨a, fun x x0 x1 => ?_⟩
        by_cases e : x = s
        · rw [e]; simpa using c
        · exact b x (by omega) (by omega)
      · refine Or.inr ⟨x, by omega, by omega, a3, fun y y0 y1 => ?_, a5⟩
        by_cases e : y = s
        · rw [e]; simpa using c
        · exact a4 y (by omega) y1
theorem sc_Br {e : Int} : ∀ (t : Nat) (b : BD), okBd b → b.1 5 < b.1 1 → scV e t b = rB (fun x => Br e t b x (7 ^ (ow e (b.1 1) t (b.1 5) - 1))) (7 ^ (ow e (b.1 1) t (b.1 5) - 1)) (7 ^ ow e (b.1 1) t (b.1 5)) 0 := by
  intro t
  have cst : ∀ (q : Nat → Bool) (v : Bool) (p m : Nat), 1 ≤ m → (∀ x, q x = v) → rB q p m 0 = if v = true then 0 else -9 := by
    intro q v p m m1 h
    rcases rB_s (q := q) (p := p) m 0 with ⟨a, b⟩ | ⟨x, a1, a2, a3, a4, a5⟩
    · rw [a, ← h 0, b 0 (by omega) (by omega), if_neg (by decide)]
    · by_cases c : x = 0
      · rw [a5, c, Nat.zero_div, ← h x, a3, if_pos rfl]; rfl
      · have := a4 0 (by omega) (by omega)
        rw [h] at this a3
        rw [this] at a3
        cases a3
  induction t with
  | zero =>
    intro b hb hn
    rw [scV]
    exact (cst _ (isP b e) _ _ (p7 _) (fun x => by show Br e 0 b x _ = _; rw [Br])).symm
  | succ t ih =>
    intro b hb hn
    have b0 : 0 ≤ b.1 5 := hb.2.2.1.2.2.2.2.2.2.1
    have m6 : b.1 4 ≤ 6 := hb.2.2.1.2.2.2.2.2.1
    have f0 : 0 ≤ b.1 2 := hb.2.2.1.1
    have em : b.1 5 % b.1 1 = b.1 5 := Int.emod_eq_of_lt b0 hn
    rw [scV]
    by_cases c : b.1 2 = 0
    · rw [if_pos c]
      exact (cst _ (isP b e) _ _ (p7 _) (fun x => by show Br e (t + 1) b x _ = _; rw [Br, if_pos c])).symm
    rw [if_neg c, ow, em]
    by_cases c2 : b.1 5 = e
    · rw [if_pos c2, if_pos c2, Nat.add_sub_cancel]
      generalize hw : ow e (b.1 1) t (b.1 5 + 1) = w
      have ihk : ∀ k, 0 ≤ k → k ≤ b.1 2 → (Ld e t (takeB b k) = true ↔ ∃ x : Nat, x < 7 ^ w ∧ Br e t (takeB b k) x (7 ^ (w - 1)) = true) := by
        intro k k0 kf
        have := Ld_Br (e := e) t (takeB b k) (takeB_ok hb hn k0 kf) (takeB_n (by omega))
        have ew : ow e ((takeB b k).1 1) t ((takeB b k).1 5) = w := by
          rw [← hw]
          exact ow_n t
        rw [ew] at this
        exact this
      have pw := p7 w
      rcases rB_s (q := fun x => Br e (t + 1) b x (7 ^ w)) (p := 7 ^ w) (7 ^ (w + 1)) 0 with ⟨a, hb2⟩ | ⟨x, a1, a2, a3, a4, a5⟩
      · rw [a]
        refine fsN_no _ _ (fun k k0 k1 => ?_)
        cases hL : Ld e t (takeB b k) with
        | false => rfl
        | true =>
          obtain ⟨y, hy, hq⟩ := (ihk k k0 (by omega)).mp hL
          have ky : k.toNat * 7 ^ w ≤ 6 * 7 ^ w := Nat.mul_le_mul_right _ (by omega)
          have := hb2 (k.toNat * 7 ^ w + y) (by omega) (by rw [Nat.pow_succ]; omega)
          rw [show Br e (t + 1) b (k.toNat * 7 ^ w + y) (7 ^ w) = Br e t (takeB b k) y (7 ^ (w - 1)) from own_to b0 hn m6 c c2 hw k0 (by omega) (by omega) hy, hq] at this
          cases this
      · rw [a5]
        have a3 : Br e (t + 1) b x (7 ^ w) = true := a3
        obtain ⟨q1, q2, q3⟩ := own_from b0 hn c c2 hw a3
        have x7 : x / 7 ^ w < 7 := by
          rw [Nat.div_lt_iff_lt_mul pw]
          rw [Nat.pow_succ] at a2
          omega
        rw [Nat.mod_eq_of_lt x7] at q1 q2 q3
        have nn : (0 : Int) ≤ ((x / 7 ^ w : Nat) : Int) := Int.natCast_nonneg _
        refine fsN_hit _ _ (by omega) (by omega) ((ihk _ (by omega) q2).mpr ⟨_, Nat.mod_lt _ pw, q3⟩) (fun k k0 k1 => ?_)
        cases hL : Ld e t (takeB b k) with
        | false => rfl
        | true =>
          obtain ⟨y, hy, hq⟩ := (ihk k k0 (by omega)).mp hL
          have ky : (k.toNat + 1) * 7 ^ w ≤ x / 7 ^ w * 7 ^ w := Nat.mul_le_mul_right _ (by omega)
          have kx : x / 7 ^ w * 7 ^ w ≤ x := Nat.div_mul_le_self _ _
          rw [Nat.add_mul, Nat.one_mul] at ky
          have := a4 (k.toNat * 7 ^ w + y) (by omega) (by omega)
          rw [show Br e (t + 1) b (k.toNat * 7 ^ w + y) (7 ^ w) = Br e t (takeB b k) y (7 ^ (w - 1)) from own_to b0 hn m6 c c2 hw k0 (by omega) (by omega) hy, hq] at this
          cases this
    · rw [if_neg c2, if_neg c2, Nat.add_zero]
      have := ih (turnB b) (turnB_ok hb hn) (turnB_n (by omega))
      have ew : ow e ((turnB b).1 1) t ((turnB b).1 5) = ow e (b.1 1) t (b.1 5 + 1) := ow_n t
      rw [ew] at this
      rw [this]
      exact rB_c (fun x => by rw [Br, if_neg c, if_neg c2]; rfl) _ _
