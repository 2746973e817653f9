/-! ===== both ===== -/
theorem s_X5_leastSaidByAll {d : Nat} {h : AH} {K : Int → AH → Prop} (hr : okR (fX h 1)) (h7 : h.1 0 7 = h.1 1 0) (q : ∀ z, (z = -9 ∧ ∀ m, 1 ≤ m → saA (fX h 1) (h.1 31) m (h.1 1 0).toNat = false) ∨ saI (fX h 1) (h.1 31) (h.1 1 0).toNat z → K z h) : cI (tx mt (d + 3)) n_X5_leastSaidByAll [vR 0] h K := by
  have r0 : 0 ≤ h.1 1 0 := hr.1
  have r4 : h.1 1 0 ≤ 4 := hr.2.1
  have key : ∀ (m i : Nat) (n : Int) (x : Option AV), i + m = (h.1 1 0).toNat → saI (fX h 1) (h.1 31) i n → Bx z0 0 (tx mt (d+2)) k_X5_leastSaidByAll (fun r h' => ∃ z, r = some (.inl z) ∧ K z h') 1 [some (vR 0), some (vI n), some (vI ((cyT (fX h 1) (h.1 31) i))), some (vI ((i : Int))), x] [] h := by
    intro m
    induction m with
    | zero =>
      intro i n x im hI
      rw [show i = (h.1 1 0).toNat by omega] at hI ⊢
      exact u_X5_leastSaidByAll_1 (tx_mono _ _) ⟨fun _ => u_X5_leastSaidByAll_7 (tx_mono _ _) (exI (q n (Or.inr hI))), fun c => by omega⟩
    | succ m ih =>
      intro i n x im hI
      have i0 : (i : Int) < (fX h 1).1 0 := by show (i : Int) < h.1 1 0; omega
      have cb := cyT_b (t := h.1 31) hr i (by omega)
      have l := hr.2.2 (i : Int) (by omega) i0
      have el : (fX h 1).2 1 i = h.1 2 i := rfl
      rw [el] at l
      have b := cy_b cb.1 cb.2 l.1 l.2.1 (by omega)
      have n1 := hI.1
      have n2 := hI.2.1
      by_cases c9 : h.1 31 (i : Int) = 99
      · have nx := ih (i + 1) n none (by omega) (saI_99 hI c9)
        rw [cyT, if_pos c9] at nx
        exact u_X5_leastSaidByAll_1 (tx_mono _ _) ⟨fun c => by omega, fun _ => ⟨fun c => by omega, fun _ => ⟨by omega, by omega, fun c => absurd c9 c, fun _ => u_X5_leastSaidByAll_6 (tx_mono _ _) ⟨⟨by omega, by omega⟩, nx⟩⟩⟩⟩
      have kb : ∀ k : Nat, k ≤ 12 → 0 ≤ (k : Int) * cyT (fX h 1) (h.1 31) i ∧ (k : Int) * cyT (fX h 1) (h.1 31) i ≤ 12 * 1728 := fun k hk => ⟨Int.mul_nonneg (by omega) (by omega), Int.mul_le_mul (by omega) b.1 (by omega) (by decide)⟩
      have four : ∀ (k : Nat) (c : Int) (x4 : Option AV), k ≤ 12 → c = n + (k : Int) * cyT (fX h 1) (h.1 31) i → (∀ j : Nat, j < k → ¬ wTo (fX h 1) i (n + j * cyT (fX h 1) (h.1 31) i) = h.1 31 i) → (wTo (fX h 1) i c = h.1 31 i ∨ k = 12) → Bx z0 0 (tx mt (d+2)) k_X5_leastSaidByAll (fun r h' => ∃ z, r = some (.inl z) ∧ K z h') 4 [some (vR 0), some (vI c), some (vI ((cyT (fX h 1) (h.1 31) i))), some (vI ((i : Int))), x4] [] h := by
        intro k c x4 k12 ec hk hw
        have kk := kb k k12
        refine u_X5_leastSaidByAll_4 (tx_mono _ _) (s_X0_wordTo isB1 hr (by omega) ⟨by omega, by omega, fun c2 => u_X5_leastSaidByAll_5 (tx_mono _ _) ⟨by omega, by omega, s_X5_commonMultiple cb.1 (by omega) (by omega) (by omega) ?_⟩, fun c2 => exI (q (-9) (Or.inl ⟨rfl, ?_⟩))⟩)
        · rw [ec] at c2
          have nx := ih (i + 1) _ none (by omega) (saI_s hr i0 hI c9 hk c2)
          rw [cyT, if_neg c9, ← ec] at nx
          exact u_X5_leastSaidByAll_6 (tx_mono _ _) ⟨⟨by omega, by omega⟩, nx⟩
        · have k2 : k = 12 := by
            rcases hw with hw | hw
            · exact absurd hw c2
            · exact hw
          have no := saI_no hr i0 hI c9 (fun j hj => by
            by_cases cj : j < k
            · exact hk j cj
            · rw [show j = k by omega, ← ec]; exact c2)
          intro y y1
          cases e : saA (fX h 1) (h.1 31) y (h.1 1 0).toNat with
          | false => rfl
          | true =>
            have := saA_le (i := i + 1) m (by rw [show i + 1 + m = (h.1 1 0).toNat by omega]; exact e)
            rw [no y y1] at this
            cases this
      have three : ∀ (j k : Nat) (c : Int), k + j = 12 → c = n + (k : Int) * cyT (fX h 1) (h.1 31) i → (∀ j : Nat, j < k → ¬ wTo (fX h 1) i (n + j * cyT (fX h 1) (h.1 31) i) = h.1 31 i) → Bx z0 0 (tx mt (d+2)) k_X5_leastSaidByAll (fun r h' => ∃ z, r = some (.inl z) ∧ K z h') 3 [some (vR 0), some (vI c), some (vI ((cyT (fX h 1) (h.1 31) i))), some (vI ((i : Int))), some (vI ((k : Int)))] [] h := by
        intro j
        induction j with
        | zero => intro k c kj ec hk; exact u_X5_leastSaidByAll_3 (tx_mono _ _) ⟨fun _ => four k c _ (by omega) ec hk (Or.inr (by omega)), fun c => by omega⟩
        | succ j ihj =>
          intro k c kj ec hk
          have kk := kb k (by omega)
          refine u_X5_leastSaidByAll_3 (tx_mono _ _) ⟨fun c => by omega, fun _ => s_X0_wordTo isB1 hr (by omega) ⟨by omega, by omega, fun c2 => four k c _ (by omega) ec hk (Or.inl c2), fun c2 => ⟨⟨by omega, by omega⟩, ⟨by omega, by omega⟩, ihj (k + 1) _ (by omega) ?_ (fun t ht => ?_)⟩⟩⟩
          · rw [ec, Int.natCast_add, Int.add_mul]
            omega
          · by_cases ct : t < k
            · exact hk t ct
            · rw [show t = k by omega, ← ec]
              exact c2
      exact u_X5_leastSaidByAll_1 (tx_mono _ _) ⟨fun c => by omega, fun _ => ⟨fun c => by omega, fun _ => ⟨by omega, by omega, fun _ => u_X5_leastSaidByAll_2 (tx_mono _ _) (three 12 0 n (by decide) (by rw [show ((0 : Nat) : Int) = 0 from rfl, Int.zero_mul, Int.add_zero]) (fun j hj => by omega)), fun c => absurd c9 c⟩⟩⟩
  exact cI_i (e_X5_leastSaidByAll (key (h.1 1 0).toNat 0 1 _ (by omega) (saI_0 _ _)))
theorem s_X5_cycleOfTold {d : Nat} {h : AH} {K : Int → AH → Prop} (hr : okR (fX h 1)) (h7 : h.1 0 7 = h.1 1 0) (q : K (cyT (fX h 1) (h.1 31) (h.1 1 0).toNat) h) : cI (tx mt (d + 3)) n_X5_cycleOfTold [vR 0] h K := by
  have r0 : 0 ≤ h.1 1 0 := hr.1
  have r4 : h.1 1 0 ≤ 4 := hr.2.1
  have key : ∀ (m i : Nat), i + m = (h.1 1 0).toNat → Bx z0 0 (tx mt (d+2)) k_X5_cycleOfTold (fun r h' => ∃ z, r = some (.inl z) ∧ K z h') 1 [some (vR 0), some (vI ((cyT (fX h 1) (h.1 31) i))), some (vI ((i : Int)))] [] h := by
    intro m
    induction m with
    | zero =>
      intro i im
      rw [← show i = (h.1 1 0).toNat by omega] at q
      exact u_X5_cycleOfTold_1 (tx_mono _ _) ⟨fun _ => u_X5_cycleOfTold_3 (tx_mono _ _) (exI q), fun c => by omega⟩
    | succ m ih =>
      intro i im
      have i0 : (i : Int) < (fX h 1).1 0 := by show (i : Int) < h.1 1 0; omega
      have cb := cyT_b (t := h.1 31) hr i (by omega)
      have l := hr.2.2 (i : Int) (by omega) i0
      have el : (fX h 1).2 1 i = h.1 2 i := rfl
      rw [el] at l
      have b := cy_b cb.1 cb.2 l.1 l.2.1 (by omega)
      have nx := ih (i + 1) (by omega)
      rw [cyT] at nx
      refine u_X5_cycleOfTold_1 (tx_mono _ _) ⟨fun c => by omega, fun _ => ⟨fun c => by omega, fun _ => ⟨by omega, by omega, fun c => u_X5_cycleOfTold_2 (tx_mono _ _) ⟨⟨by omega, by omega⟩, ?_⟩, fun c => ⟨by omega, by omega, s_X5_commonMultiple cb.1 (by omega) (by omega) (by omega) (u_X5_cycleOfTold_2 (tx_mono _ _) ⟨⟨by omega, by omega⟩, ?_⟩)⟩⟩⟩⟩
      · rw [if_pos c] at nx
        exact nx
      · rw [if_neg c] at nx
        exact nx
  exact cI_i (e_X5_cycleOfTold (key (h.1 1 0).toNat 0 (by omega)))
theorem s_X6_allSay {d : Nat} {m : Int} {h : AH} {K : Int → AH → Prop} (hr : okR (fM h)) (hm : 1 ≤ m ∧ m ≤ 30000) (q : K (b2i (saA (fM h) (h.1 64) m (h.1 38 0).toNat)) h) : cI (tx mt (d + 3)) n_X6_allSay [vR 38, vI m] h K := by
  have r0 : 0 ≤ h.1 38 0 := hr.1
  have r4 : h.1 38 0 ≤ 4 := hr.2.1
  have key : ∀ (j i : Nat), i + j = (h.1 38 0).toNat → Bx z0 0 (tx mt (d+2)) k_X6_allSay (fun r h' => ∃ z, r = some (.inl z) ∧ K z h') 1 [some (vR 38), some (vI m), some (vI ((b2i (saA (fM h) (h.1 64) m i)))), some (vI ((i : Int)))] [] h := by
    intro j
    induction j with
    | zero =>
      intro i im
      rw [← show i = (h.1 38 0).toNat by omega] at q
      exact u_X6_allSay_1 (tx_mono _ _) ⟨fun _ => u_X6_allSay_5 (tx_mono _ _) ⟨b2i_01 _, exI q⟩, fun c => by omega⟩
    | succ j ih =>
      intro i im
      have i0 : (i : Int) < (fM h).1 0 := by show (i : Int) < h.1 38 0; omega
      have nx := ih (i + 1) (by omega)
      rw [saA] at nx
      refine u_X6_allSay_1 (tx_mono _ _) ⟨fun c => by omega, fun _ => ⟨fun c => u_X6_allSay_3 (tx_mono _ _) (u_X6_allSay_4 (tx_mono _ _) ⟨⟨by omega, by omega⟩, ?_⟩), fun c => ⟨by omega, by omega, fun c9 => u_X6_allSay_2 (tx_mono _ _) (u_X6_allSay_4 (tx_mono _ _) ⟨⟨by omega, by omega⟩, ?_⟩), fun c9 => s_X6_saidBy hr (by omega) i0 (by omega) ⟨by omega, by omega, fun c2 => u_X6_allSay_3 (tx_mono _ _) (u_X6_allSay_4 (tx_mono _ _) ⟨⟨by omega, by omega⟩, ?_⟩), fun c2 => u_X6_allSay_2 (tx_mono _ _) (u_X6_allSay_4 (tx_mono _ _) ⟨⟨by omega, by omega⟩, ?_⟩)⟩⟩⟩⟩
      · rw [b2i_z c, Bool.false_and] at nx
        exact nx
      · rw [b2i_o c, decide_eq_true c9] at nx
        exact nx
      · rw [b2i_o c, decide_eq_false c9, decide_eq_false c2] at nx
        exact nx
      · rw [b2i_o c, decide_eq_false c9, decide_eq_true (Decidable.not_not.mp c2)] at nx
        exact nx
  exact cI_i (e_X6_allSay (key (h.1 38 0).toNat 0 (by omega)))
theorem m_both1 {d : Nat} {a : Int} {h : AH} {K : Int → AH → Prop} (hr : okR (fM h)) (ha : a < 0) : ∀ (m : Nat) (k : Int) (x2 : Option AV), k + m = 30001 → 1 ≤ k → K (fsN (fun m => saA (fM h) (h.1 64) m (h.1 38 0).toNat) m k) h → Bx z0 0 (tx mt (d + 29)) k_X6_both (fun r h' => ∃ z, r = some (.inl z) ∧ K z h') 7 [some (vR 38), some (vI a), x2, some (vI 0), some (vI 30000), some (vI k)] [] h := by
  intro m
  induction m with
  | zero => intro k x2 km k1 q; exact u_X6_both_7 (tx_mono _ _) ⟨fun _ => u_X6_both_10 (tx_mono _ _) ⟨fun c => by omega, fun _ => u_X6_both_12 (tx_mono _ _) (exI q)⟩, fun c => by omega⟩
  | succ m ih =>
    intro k x2 km k1 q
    rw [fsN] at q
    refine u_X6_both_7 (tx_mono _ _) ⟨fun c => by omega, fun _ => s_X6_allSay hr (by omega) ⟨fun c => u_X6_both_9 (tx_mono _ _) ⟨⟨by omega, by omega⟩, ih (k + 1) _ (by omega) (by omega) ?_⟩, fun c => ⟨fun c => by omega, fun _ => exI ?_⟩⟩⟩
    · rw [if_neg (by rw [b2i_z c]; decide)] at q
      exact q
    · rw [if_pos (b2i_o c)] at q
      exact q
theorem m_both2 {d : Nat} {a : Int} {h : AH} {K : Int → AH → Prop} (hr : okR (fM h)) (ha : 0 ≤ a) (a3 : a ≤ 30000) : ∀ (m i : Nat) (x2 : Option AV), (i : Int) + m = a → K (sumN (fun i => b2i (saA (fM h) (h.1 64) ((i : Int) + 1) (h.1 38 0).toNat)) a.toNat) h → Bx z0 0 (tx mt (d + 29)) k_X6_both (fun r h' => ∃ z, r = some (.inl z) ∧ K z h') 7 [some (vR 38), some (vI a), x2, some (vI ((sumN (fun i => b2i (saA (fM h) (h.1 64) ((i : Int) + 1) (h.1 38 0).toNat)) i))), some (vI a), some (vI (((i : Int) + 1)))] [] h := by
  intro m
  induction m with
  | zero =>
    intro i x2 im q
    rw [show a.toNat = i by omega] at q
    exact u_X6_both_7 (tx_mono _ _) ⟨fun _ => u_X6_both_10 (tx_mono _ _) ⟨fun _ => u_X6_both_11 (tx_mono _ _) (u_X6_both_12 (tx_mono _ _) (exI q)), fun c => by omega⟩, fun c => by omega⟩
  | succ m ih =>
    intro i x2 im q
    have nx := ih (i + 1) none (by omega) q
    have bb := sumN_b (f := fun i => b2i (saA (fM h) (h.1 64) ((i : Int) + 1) (h.1 38 0).toNat)) (c := 1) (n := i) (fun j _ => by have := b2i_01 (saA (fM h) (h.1 64) ((j : Int) + 1) (h.1 38 0).toNat); omega)
    rw [sumN] at nx
    refine u_X6_both_7 (tx_mono _ _) ⟨fun c => by omega, fun _ => s_X6_allSay hr (by omega) ⟨fun c => u_X6_both_9 (tx_mono _ _) ⟨⟨by omega, by omega⟩, ?_⟩, fun c => ⟨fun _ => u_X6_both_8 (tx_mono _ _) ⟨⟨by omega, by omega⟩, u_X6_both_9 (tx_mono _ _) ⟨⟨by omega, by omega⟩, ?_⟩⟩, fun c => by omega⟩⟩⟩
    · rw [c, Int.add_zero] at nx
      exact nx
    · rw [show b2i (saA (fM h) (h.1 64) ((i : Int) + 1) (h.1 38 0).toNat) = 1 by rw [b2i_o c]; rfl] at nx
      exact nx
theorem fsN_hit {p : Int → Bool} {z : Int} : ∀ (m : Nat) (n : Int), n ≤ z → z < n + m → p z = true → (∀ i, n ≤ i → i < z → p i = false) → fsN p m n = z := by
  intro m
  induction m with
  | zero => intro n h1 h2; omega
  | succ m ih =>
    intro n h1 h2 hz hp
    rw [fsN]
    by_cases c : n = z
    · rw [c, if_pos hz]
    · rw [hp n (Int.le_refl _) (by omega), if_neg (by decide)]
      exact ih (n + 1) (by omega) (by omega) hz (fun i a b => hp i (by omega) b)
theorem dvd_small {c x : Int} (hc : 0 < c) (h : c ∣ x) (h1 : -c < x) (h2 : x < c) : x = 0 := by
  obtain ⟨u, rfl⟩ := h
  by_cases u0 : u = 0
  · rw [u0, Int.mul_zero]
  exfalso
  by_cases c1 : 1 ≤ u
  · have := Int.mul_le_mul_of_nonneg_left c1 (show 0 ≤ c by omega)
    omega
  · have := Int.mul_le_mul_of_nonneg_left (show u ≤ -1 by omega) (show 0 ≤ c by omega)
    omega
theorem cnt_dvd {p : Nat → Bool} {z c : Int} (hc : 0 < c) (z1 : 1 ≤ z) (zc : z ≤ c) (hp : ∀ i : Nat, p i = true ↔ c ∣ (i : Int) + 1 - z) : ∀ N : Nat, sumN (fun i => b2i (p i)) N = if (N : Int) < z then 0 else ((N : Int) - z) / c + 1 := by
  intro N
  induction N with
  | zero => rw [if_pos (by omega)]; rfl
  | succ N ih =>
    rw [sumN, ih]
    by_cases c1 : ((N + 1 : Nat) : Int) < z
    · rw [if_pos (by omega), if_pos c1]
      have : p N = false := by
        cases e : p N with
        | false => rfl
        | true =>
          have := dvd_small hc ((hp N).mp e) (by omega) (by omega)
          omega
      rw [this]
      rfl
    rw [if_neg c1]
    by_cases c2 : ((N + 1 : Nat) : Int) = z
    · rw [if_pos (by omega)]
      have : p N = true := (hp N).mpr ⟨0, by omega⟩
      rw [this, c2, Int.sub_self, Int.zero_ediv]
      rfl
    rw [if_neg (by omega)]
    have e1 := Int.mul_ediv_add_emod ((N : Int) - z) c
    have e2 := emod_r (a := (N : Int) - z) (b := c) hc
    by_cases c3 : ((N : Int) - z) % c + 1 = c
    · have a1 := (Int.ediv_emod_unique (a := ((N + 1 : Nat) : Int) - z) (b := c) (r := 0) (q := ((N : Int) - z) / c + 1) hc).mpr ⟨by rw [Int.mul_add]; omega, by omega, hc⟩
      have : p N = true := (hp N).mpr (Int.dvd_of_emod_eq_zero (by rw [show (N : Int) + 1 - z = ((N + 1 : Nat) : Int) - z by omega]; exact a1.2))
      rw [this, a1.1]
      rfl
    · have a1 := (Int.ediv_emod_unique (a := ((N + 1 : Nat) : Int) - z) (b := c) (r := ((N : Int) - z) % c + 1) (q := ((N : Int) - z) / c) hc).mpr ⟨by omega, by omega, by omega⟩
      have : p N = false := by
        cases e : p N with
        | false => rfl
        | true =>
          have := Int.emod_eq_zero_of_dvd ((hp N).mp e)
          rw [show (N : Int) + 1 - z = ((N + 1 : Nat) : Int) - z by omega, a1.2] at this
          omega
      rw [this, a1.1]
      show _ + 1 + 0 = _
      omega
def boV (a z c : Int) : Int := if a = -1 then z else if z = -9 ∨ a < z then 0 else (a - z) / c + 1
theorem op_both {a : Int} : OpI n_X5_both n_X6_both [vI a] := by
  intro d n h n0 n1 H
  have fa := H.facts
  unfold Facts at fa
  obtain ⟨oR, oE, oS, oP, oZ, mE, mR, mEa, mS, mZ⟩ := H.ok
  obtain ⟨r1, r2, r3, r4⟩ := H.2.2.2.1
  by_cases c : (a < -1 ∨ 30000 < a) ∨ h.1 1 0 = 0 ∨ ¬ h.1 0 7 = h.1 1 0
  · exact both_rf n0 n1 H c
  have h7 : h.1 0 7 = h.1 1 0 := by omega
  have cb := cyT_b (t := h.1 31) oR (h.1 1 0).toNat (by show ((h.1 1 0).toNat : Int) ≤ h.1 1 0; omega)
  have cm : cyT (fX h 1) (h.1 31) (h.1 1 0).toNat ≤ 20736 := by
    have p := Nat.pow_le_pow_right (show 0 < 12 by decide) (show (h.1 1 0).toNat ≤ 4 by omega)
    generalize 12 ^ (h.1 1 0).toNat = x at cb p
    omega
  have x : ∀ K : Int → AH → Prop, (∀ z, (z = -9 ∧ ∀ m, 1 ≤ m → saA (fX h 1) (h.1 31) m (h.1 1 0).toNat = false) ∨ saI (fX h 1) (h.1 31) (h.1 1 0).toNat z → K (boV a z (cyT (fX h 1) (h.1 31) (h.1 1 0).toNat)) h) → cI (tx mt (d + 30)) n_X5_both [vR 0, vI a] h K := by
    intro K q
    refine cI_i (e_X5_both ⟨fun _ => u_X5_both_1 (tx_mono _ _) ⟨fun _ => u_X5_both_2 (tx_mono _ _) ⟨fun _ => by omega, fun _ => ⟨fun _ => u_X5_both_4 (tx_mono _ _) (s_X5_leastSaidByAll oR h7 (fun z hz => ?_)), fun _ => by omega⟩⟩, fun _ => by omega⟩, fun _ => by omega⟩)
    have q := q z hz
    have zr : z = -9 ∨ 1 ≤ z := by
      rcases hz with hz | hz
      · exact Or.inl hz.1
      · exact Or.inr hz.1
    unfold boV at q
    refine ⟨fun c1 => u_X5_both_5 (tx_mono _ _) ⟨fun c2 => u_X5_both_6 (tx_mono _ _) (exI ?_), fun c2 => ⟨fun c3 => u_X5_both_7 (tx_mono _ _) (s_X5_cycleOfTold oR h7 ⟨fun _ => u_X5_both_8 (tx_mono _ _) ⟨⟨by omega, by omega⟩, by omega, cb.1, ?_, u_X5_both_9 (tx_mono _ _) (exI ?_)⟩, fun _ => by omega⟩), fun c3 => u_X5_both_6 (tx_mono _ _) (exI ?_)⟩⟩, fun c1 => exI ?_⟩
    · rw [if_neg c1, if_pos (by omega)] at q
      exact q
    · have h1 := Int.ediv_nonneg (show 0 ≤ a - z by omega) (Int.le_of_lt cb.1)
      have h2 := Int.ediv_le_self (cyT (fX h 1) (h.1 31) (h.1 1 0).toNat) (show 0 ≤ a - z by omega)
      exact ⟨by omega, by omega⟩
    · rw [if_neg c1, if_neg (by omega)] at q
      exact q
    · rw [if_neg c1, if_pos (by omega)] at q
      exact q
    · rw [if_pos (by omega)] at q
      exact q
  refine x _ (fun z hz => ?_)
  refine cI_i (e_X6_both ?_)
  intro h1 w1
  rw [w1]
  have c0 : (upI h 38 12 0).1 38 0 = h.1 1 0 := by (simp only [inI, inL, upI_e, Nat.reduceEqDiff, Nat.reduceAdd, true_and, and_true, false_and, and_false, if_true, if_false, ite_true, ite_false, reduceIte, Int.reduceEq, not_true_eq_false, not_false_eq_true, Decidable.not_not]); omega
  have c2 : (upI h 38 12 0).1 38 43 = h.1 1 0 := by (simp only [inI, inL, upI_e, Nat.reduceEqDiff, Nat.reduceAdd, true_and, and_true, false_and, and_false, if_true, if_false, ite_true, ite_false, reduceIte, Int.reduceEq, not_true_eq_false, not_false_eq_true, Decidable.not_not]); omega
  have c5 : ∀ i, 0 ≤ i → i < h.1 1 0 → (upI h 38 12 0).1 64 i = h.1 31 i := fun i x y => by have := (r4 i x (by omega)).1; (simp only [inI, inL, upI_e, Nat.reduceEqDiff, Nat.reduceAdd, true_and, and_true, false_and, and_false, if_true, if_false, ite_true, ite_false, reduceIte, Int.reduceEq, not_true_eq_false, not_false_eq_true, Decidable.not_not]); omega
  have eA : ∀ m, saA (fM (upI h 38 12 0)) ((upI h 38 12 0).1 64) m ((upI h 38 12 0).1 38 0).toNat = saA (fX h 1) (h.1 31) m (h.1 1 0).toNat := by
    intro m
    rw [mE, c0]
    exact saA_c _ (fun j a b => c5 j a (by omega))
  refine c_X6_wrongNumber (fun y => by omega) (fun y => by omega) (fun _ => ⟨fun y => absurd rfl y, fun _ => ⟨fun y => by omega, fun _ => ⟨fun _ => u_X6_both_2 (tx_mono _ _) (u_X6_both_3 (tx_mono _ _) ⟨fun _ => u_X6_both_4 (tx_mono _ _) ⟨fun ca => u_X6_both_5 (tx_mono _ _) (u_X6_both_6 (tx_mono _ _) ?_), fun ca => u_X6_both_6 (tx_mono _ _) ?_⟩, fun y => absurd (by decide) y⟩), fun y => by omega⟩⟩⟩)
  · refine m_both2 mR ca (by omega) a.toNat 0 _ (by omega) ⟨?_, H.m12⟩
    rw [sumN_c (g := fun i => b2i (saA (fX h 1) (h.1 31) ((i : Int) + 1) (h.1 1 0).toNat)) (fun i _ => by rw [eA]), boV, if_neg (by omega)]
    rcases hz with ⟨z9, hz⟩ | ⟨z1, z2, z3⟩
    · rw [if_pos (Or.inl z9), sumN_c (g := fun _ => 0) (fun i _ => by rw [hz _ (by omega)]; rfl)]
      have : ∀ n : Nat, sumN (fun _ => 0) n = 0 := by
        intro n
        induction n with
        | zero => rfl
        | succ n ih => rw [sumN, ih]; rfl
      rw [this]
    · rw [cnt_dvd cb.1 z1 z2 (fun i => z3 ((i : Int) + 1) (by omega)), Int.toNat_of_nonneg ca]
      by_cases c3 : a < z
      · rw [if_pos (Or.inr c3), if_pos c3]
      · rw [if_neg (by omega), if_neg c3]
  · refine m_both1 mR (by omega) 30000 1 _ (by decide) (by decide) ⟨?_, H.m12⟩
    rw [show (fun m => saA (fM (upI h 38 12 0)) ((upI h 38 12 0).1 64) m ((upI h 38 12 0).1 38 0).toNat) = (fun m => saA (fX h 1) (h.1 31) m (h.1 1 0).toNat) from funext eA, boV, if_pos (by omega)]
    rcases hz with ⟨z9, hz⟩ | ⟨z1, z2, z3⟩
    · rw [fsN_no 30000 1 (fun i a b => hz i a), z9]
    · refine (fsN_hit 30000 1 z1 (by omega) ((z3 z z1).mpr ⟨0, by omega⟩) (fun i a b => ?_)).symm
      cases e : saA (fX h 1) (h.1 31) i (h.1 1 0).toNat with
      | false => rfl
      | true =>
        have := dvd_small cb.1 ((z3 i a).mp e) (by omega) (by omega)
        omega
