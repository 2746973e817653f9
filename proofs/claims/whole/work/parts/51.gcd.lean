/-! ===== the greatest common divisor, two ways ===== -/
def gI (a b : Int) : Int := ((Nat.gcd a.toNat b.toNat : Nat) : Int)
theorem gI_0 {a : Int} (h : 0 ≤ a) : gI a 0 = a := by
  unfold gI
  rw [show Int.toNat 0 = 0 from rfl, Nat.gcd_zero_right]
  omega
theorem gI_z {b : Int} (h : 0 ≤ b) : gI 0 b = b := by
  unfold gI
  rw [show Int.toNat 0 = 0 from rfl, Nat.gcd_zero_left]
  omega
theorem gI_s {a b : Int} (ha : 0 ≤ a) (hb : 0 < b) : gI b (a % b) = gI a b := by
  unfold gI
  rw [Int.toNat_emod ha (by omega), Nat.gcd_comm b.toNat, ← Nat.gcd_rec, Nat.gcd_comm]
theorem gI_pos {a b : Int} (h : 0 < a ∨ 0 < b) : 0 < gI a b := by
  unfold gI
  have : 0 < Nat.gcd a.toNat b.toNat := by
    rcases h with h | h
    · exact Nat.gcd_pos_of_pos_left _ (by omega)
    · exact Nat.gcd_pos_of_pos_right _ (by omega)
  omega
theorem gI_nn (a b : Int) : 0 ≤ gI a b := Int.natCast_nonneg _
theorem gI_l {a b : Int} (ha : 0 < a) : gI a b ≤ a := by
  unfold gI
  have := Nat.gcd_le_left (n := b.toNat) (show 0 < a.toNat by omega)
  omega
theorem gI_r {a b : Int} (hb : 0 < b) : gI a b ≤ b := by
  unfold gI
  have := Nat.gcd_le_right (m := a.toNat) (show 0 < b.toNat by omega)
  omega
theorem gI_dl {a b : Int} (ha : 0 ≤ a) : gI a b ∣ a := by
  have := Int.natCast_dvd_natCast.mpr (Nat.gcd_dvd_left a.toNat b.toNat)
  rw [Int.toNat_of_nonneg ha] at this
  exact this
theorem gI_dr {a b : Int} (hb : 0 ≤ b) : gI a b ∣ b := by
  have := Int.natCast_dvd_natCast.mpr (Nat.gcd_dvd_right a.toNat b.toNat)
  rw [Int.toNat_of_nonneg hb] at this
  exact this
theorem s_X5_commonDivisor {d : Nat} {a b : Int} {h : AH} {K : Int → AH → Prop} (ha : 0 ≤ a) (hb : 0 ≤ b) (hb2 : b < 1099511627776) (q : K (gI a b) h) : cL (tx mt (d + 1)) n_X5_commonDivisor [vL a, vL b] h K := by
  have out : ∀ (a b c : Int) (x0 x1 x2 x3 x5 x7 x9 x10 : Option AV), 0 ≤ a → b = 0 → gI a b = gI a b → K (gI a b) h → Bx z0 0 (tx mt d) k_X5_commonDivisor (fun r h' => ∃ z, r = some (.inr (.inl z)) ∧ K z h') 1 [x0, x1, x2, x3, some (vL a), x5, some (vL b), x7, some (vI c), x9, x10] [] h := by
    intro a b c x0 x1 x2 x3 x5 x7 x9 x10 a0 b0 _ q
    have go : ∀ x0 x1 x2 x3 x5 x6 x7 x8 x9 x10 : Option AV, Bx z0 0 (tx mt d) k_X5_commonDivisor (fun r h' => ∃ z, r = some (.inr (.inl z)) ∧ K z h') 2 [x0, x1, x2, x3, some (vL a), x5, x6, x7, x8, x9, x10] [] h := by
      intro x0 x1 x2 x3 x5 x6 x7 x8 x9 x10
      rw [b0, gI_0 a0] at q
      exact u_X5_commonDivisor_2 (tx_mono _ _) (exL q)
    exact u_X5_commonDivisor_1 (tx_mono _ _) ⟨fun _ => go _ _ _ _ _ _ _ _ _ _, fun _ => ⟨fun _ => go _ _ _ _ _ _ _ _ _ _, fun c => absurd ((lcz_le b 0).mpr (by omega)) c⟩⟩
  have key : ∀ (n : Nat) (a b c : Int) (x0 x1 x2 x3 x5 x7 x9 x10 : Option AV), 0 ≤ a → 0 ≤ b → b < ((2 ^ n : Nat) : Int) → 0 ≤ c → c + 2 * n ≤ 100 → K (gI a b) h → Bx z0 0 (tx mt d) k_X5_commonDivisor (fun r h' => ∃ z, r = some (.inr (.inl z)) ∧ K z h') 1 [x0, x1, x2, x3, some (vL a), x5, some (vL b), x7, some (vI c), x9, x10] [] h := by
    intro n
    induction n with
    | zero =>
      intro a b c x0 x1 x2 x3 x5 x7 x9 x10 a0 b0 b2 c0 c1 q
      exact out a b c _ _ _ _ _ _ _ _ a0 (by rw [Nat.pow_zero] at b2; omega) rfl q
    | succ n ih =>
      intro a b c x0 x1 x2 x3 x5 x7 x9 x10 a0 b0 b2 c0 c1 q
      by_cases bz : b = 0
      · exact out a b c _ _ _ _ _ _ _ _ a0 bz rfl q
      have er := emod_r (a := a) (b := b) (by omega)
      refine u_X5_commonDivisor_1 (tx_mono _ _) ⟨fun _ => by omega, fun _ => ⟨fun c => absurd ((lcz_le b 0).mp c) (by omega), fun _ => ⟨a0, by omega, ⟨by omega, by omega⟩, ?_⟩⟩⟩
      rw [← gI_s a0 (by omega)] at q
      by_cases rz : a % b = 0
      · exact out b (a % b) _ _ _ _ _ _ _ _ _ b0 rz rfl q
      have es := emod_r (a := b) (b := a % b) (by omega)
      refine u_X5_commonDivisor_1 (tx_mono _ _) ⟨fun _ => by omega, fun _ => ⟨fun c => absurd ((lcz_le (a % b) 0).mp c) (by omega), fun _ => ⟨b0, by omega, ⟨by omega, by omega⟩, ?_⟩⟩⟩
      rw [← gI_s b0 (by omega)] at q
      refine ih (a % b) (b % (a % b)) (c + 1 + 1) _ _ _ _ _ _ _ _ (by omega) es.1 ?_ (by omega) (by omega) q
      have e1 := Int.mul_ediv_add_emod b (a % b)
      have e2 : 1 ≤ b / (a % b) := Int.le_ediv_of_mul_le (by omega) (by omega)
      have e3 := Int.mul_le_mul_of_nonneg_left e2 (show 0 ≤ a % b by omega)
      rw [Nat.pow_succ] at b2
      omega
  exact cL_i (e_X5_commonDivisor (key 40 a b 0 _ _ _ _ _ _ _ _ ha hb hb2 (by decide) (by decide) q))
theorem s_X6_divisor {d : Nat} {a b : Int} {h : AH} {K : Int → AH → Prop} (ha : 0 ≤ a) (hb : 0 ≤ b) (q : K (gI a b) h) : cI (tx mt (d + 1)) n_X6_divisor [vI a, vI b] h K := by
  have out : ∀ (a b : Int) (x0 x1 x4 : Option AV), 0 ≤ a → b = 0 → K (gI a b) h → Bx z0 0 (tx mt d) k_X6_divisor (fun r h' => ∃ z, r = some (.inl z) ∧ K z h') 1 [x0, x1, some (vI a), some (vI b), x4] [] h := by
    intro a b x0 x1 x4 a0 b0 q
    rw [b0, gI_0 a0] at q
    exact u_X6_divisor_1 (tx_mono _ _) ⟨fun _ => u_X6_divisor_2 (tx_mono _ _) (exI q), fun c => absurd b0 c⟩
  have key : ∀ (n : Nat) (a b : Int) (x0 x1 x4 : Option AV), 0 ≤ a → 0 ≤ b → b ≤ (n : Int) → K (gI a b) h → Bx z0 0 (tx mt d) k_X6_divisor (fun r h' => ∃ z, r = some (.inl z) ∧ K z h') 1 [x0, x1, some (vI a), some (vI b), x4] [] h := by
    intro n
    induction n with
    | zero =>
      intro a b x0 x1 x4 a0 b0 b2 q
      exact out a b _ _ _ a0 (by omega) q
    | succ n ih =>
      intro a b x0 x1 x4 a0 b0 b2 q
      by_cases bz : b = 0
      · exact out a b _ _ _ a0 bz q
      have er := emod_r (a := a) (b := b) (by omega)
      refine u_X6_divisor_1 (tx_mono _ _) ⟨fun c => absurd c bz, fun _ => ⟨a0, by omega, ?_⟩⟩
      rw [← gI_s a0 (by omega)] at q
      exact ih b (a % b) _ _ _ b0 er.1 (by omega) q
  exact cI_i (e_X6_divisor (key b.toNat a b _ _ _ ha hb (by omega) q))
def lm (a b : Int) : Int := a / gI a b * b
theorem lm_b {a b : Int} (ha : 0 < a) (hb : 0 < b) : 0 < lm a b ∧ lm a b ≤ a * b := by
  have g := gI_pos (a := a) (b := b) (Or.inl ha)
  have h1 : 1 ≤ a / gI a b := Int.le_ediv_of_mul_le g (by have := gI_l (b := b) ha; omega)
  have h2 : a / gI a b ≤ a := Int.ediv_le_self _ (by omega)
  have h3 := Int.mul_le_mul_of_nonneg_right h1 (show 0 ≤ b by omega)
  have h4 := Int.mul_le_mul_of_nonneg_right h2 (show 0 ≤ b by omega)
  unfold lm
  omega
theorem s_X5_commonMultiple {d : Nat} {a b : Int} {h : AH} {K : Int → AH → Prop} (ha : 0 < a) (hb : 0 < b) (hb2 : b < 1099511627776) (hab : a * b ≤ 2147483647) (q : K (lm a b) h) : cI (tx mt (d + 2)) n_X5_commonMultiple [vI a, vI b] h K := by
  have g := gI_pos (a := a) (b := b) (Or.inl ha)
  have l := lm_b ha hb
  have l' : 0 < a / gI a b * b ∧ a / gI a b * b ≤ a * b := l
  refine cI_i (e_X5_commonMultiple (s_X5_commonDivisor (by omega) (by omega) hb2 ⟨fun _ => u_X5_commonMultiple_1 (tx_mono _ _) ⟨by omega, g, ⟨by omega, by omega⟩, ⟨by omega, by omega⟩, u_X5_commonMultiple_2 (tx_mono _ _) (exI q)⟩, fun c => absurd ((lcz_ge _ _).mpr (by omega)) c⟩))
def ptI (a b p : Int) : Int := if a = 0 then p else (if p = 0 then a else b) / gI a b
theorem s_X5_partOf {d : Nat} {a b p : Int} {h : AH} {K : Int → AH → Prop} (ha : 0 ≤ a) (hb : 0 ≤ b) (hb2 : b < 1099511627776) (hab : b = 0 → a = 0) (hp : p = 0 ∨ p = 1) (q : K (ptI a b p) h) : cL (tx mt (d + 2)) n_X5_partOf [vL a, vL b, vI p] h K := by
  by_cases bz : b = 0
  · have az := hab bz
    refine cL_i (e_X5_partOf (s_X5_commonDivisor ha hb hb2 ⟨fun _ => u_X5_partOf_1 (tx_mono _ _) (exL (kq q ?_)), fun c => absurd ((lcz_lt _ _).mpr ?_) c⟩))
    · rw [ptI, if_pos az]
    · rw [bz, az]; decide
  have g := gI_pos (a := a) (b := b) (Or.inr (by omega))
  have fin : ∀ z, z = (if p = 0 then a else b) → z / gI a b = ptI a b p := by
    intro z ez
    rw [ptI, ez]
    by_cases az : a = 0
    · rw [if_pos az]
      subst az
      rw [gI_z hb]
      rcases hp with hp | hp
      · rw [if_pos hp, hp, Int.zero_ediv]
      · rw [if_neg (by omega), hp, Int.ediv_self bz]
    · rw [if_neg az]
  refine cL_i (e_X5_partOf (s_X5_commonDivisor ha hb hb2 ⟨fun c => absurd ((lcz_lt _ _).mp c) (by omega), fun _ => ⟨fun _ => u_X5_partOf_2 (tx_mono _ _) ⟨fun c => u_X5_partOf_3 (tx_mono _ _) (u_X5_partOf_4 (tx_mono _ _) ⟨hb, g, exL (kq q (fin b ?_))⟩), fun c => u_X5_partOf_4 (tx_mono _ _) ⟨ha, g, exL (kq q (fin a ?_))⟩⟩, fun c => absurd ((lcz_ge _ _).mpr (by omega)) c⟩⟩))
  · rw [if_neg c]
  · rw [if_pos (by omega)]
theorem s_X6_partOf {d : Nat} {a b p : Int} {h : AH} {K : Int → AH → Prop} (ha : 0 ≤ a) (hb : 0 ≤ b) (q : K (ptI a b p) h) : cL (tx mt (d + 2)) n_X6_partOf [vI a, vI b, vI p] h K := by
  refine cL_i (e_X6_partOf ⟨fun c => u_X6_partOf_1 (tx_mono _ _) (s_X6_divisor ha hb ?_), fun c => exL (kq q ?_)⟩)
  · have g := gI_pos (a := a) (b := b) (Or.inl (by omega))
    rw [ptI, if_neg c] at q
    refine ⟨fun c2 => u_X6_partOf_2 (tx_mono _ _) ⟨hb, g, u_X6_partOf_3 (tx_mono _ _) (exL (kq q ?_))⟩, fun c2 => ⟨ha, g, u_X6_partOf_3 (tx_mono _ _) (exL (kq q ?_))⟩⟩
    · rw [if_neg c2]
    · rw [if_pos (by omega)]
  · rw [ptI, if_pos (by omega)]
