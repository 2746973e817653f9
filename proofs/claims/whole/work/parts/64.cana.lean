/-! ===== can: which sets ===== -/
def ln (p : Int → Bool) : Nat → Int → Int
  | 0, _ => 1000000
  | m + 1, k => if p k = true then k else ln p m (k + 1)
theorem ln_s {p : Int → Bool} : ∀ (m : Nat) (k : Int), (ln p m k = 1000000 ∧ ∀ j, k ≤ j → j < k + m → p j = false) ∨ (k ≤ ln p m k ∧ ln p m k < k + m ∧ p (ln p m k) = true ∧ ∀ j, k ≤ j → j < ln p m k → p j = false) := by
  intro m
  induction m with
  | zero => intro k; exact Or.inl ⟨rfl, fun j a b => by omega⟩
  | succ m ih =>
    intro k
    rw [ln]
    by_cases c : p k = true
    · rw [if_pos c]
      exact Or.inr ⟨Int.le_refl _, by omega, c, fun j a b => by omega⟩
    · rw [if_neg c]
      have cf : p k = false := by simpa using c
      rcases ih (k + 1) with ⟨e, x⟩ | ⟨x1, x2, x3, x4⟩
      · refine Or.inl ⟨e, fun j a b => ?_⟩
        by_cases cj : j = k
        · rw [cj]; exact cf
        · exact x j (by omega) (by omega)
      · refine Or.inr ⟨by omega, by omega, x3, fun j a b => ?_⟩
        by_cases cj : j = k
        · rw [cj]; exact cf
        · exact x4 j (by omega) b
theorem s_X4_leastNeeded {d : Nat} {e : Nat} {h : AH} {K : Int → AH → Prop} (hr : okR (fX h 1)) (he : okE (fX h 1)) (e1 : (e : Int) < h.1 1 3) (f60 : h.1 1 8 ≤ 60) (q : K (ln (plP (fX h 1) e) (h.1 1 8 + 1).toNat 0) h) : cI (tx mt (d + 3)) n_X4_leastNeeded [vR 35, vR 1, vI e] h K := by
  have e4 : h.1 1 3 ≤ 4 := he.2.1
  have f6 : (fX h 1).2 6 e = h.1 7 e := rfl
  have se := he.2.2 (e : Int) (by omega) e1
  rw [f6] at se
  have key : ∀ (n : Nat) (t : Int) (x0 : Option AV), h.1 1 8 + 1 = t + n ∨ (n = 0 ∧ h.1 1 8 < t) → 0 ≤ t → K (ln (plP (fX h 1) e) n t) h → Bx z0 0 (tx mt (d+2)) k_X4_leastNeeded (fun r h' => ∃ z, r = some (.inl z) ∧ K z h') 1 [x0, some (vR 1), some (vI ((e : Int))), some (vI t)] [] h := by
    intro n
    induction n with
    | zero =>
      intro t x0 ft t0 q
      exact u_X4_leastNeeded_1 (tx_mono _ _) isB1 ⟨fun _ => u_X4_leastNeeded_3 (tx_mono _ _) (exI q), fun c => by omega⟩
    | succ n ih =>
      intro t x0 ft t0 q
      rw [ln] at q
      refine u_X4_leastNeeded_1 (tx_mono _ _) isB1 ⟨fun c' => by omega, fun _ => ?_⟩
      simp only [Nat.reduceAdd]
      refine ⟨by omega, by omega, ⟨by omega, by omega⟩, s_X0_pleases isB1 hr he (by omega) ?_⟩
      rw [show pl (fX h 1) e (h.1 7 e + t) = plP (fX h 1) e t from rfl]
      refine ⟨fun c2 => u_X4_leastNeeded_2 (tx_mono _ _) isB1 ⟨⟨by omega, by omega⟩, ih (t + 1) _ (by omega) (by omega) ?_⟩, fun c2 => exI ?_⟩
      · rw [if_neg (by rw [b2i_z c2]; decide)] at q
        exact q
      · rw [if_pos (b2i_o c2)] at q
        exact q
  exact cI_i (e_X4_leastNeeded isB1 (key (h.1 1 8 + 1).toNat 0 _ (by omega) (by decide) q))
def bt (z : Int) (e : Nat) : Bool := decide (((z / 2 ^ e).toNat &&& 1 : Nat) = 1)
theorem bt_v {z : Int} {e : Nat} : ((Int.toNat (z / 2 ^ Int.toNat (e : Int)) &&& Int.toNat 1 : Nat) : Int) = 1 ↔ bt z e = true := by
  rw [Int.toNat_natCast, bt, decide_eq_true_eq]
  show (((z / 2 ^ e).toNat &&& 1 : Nat) : Int) = ((1 : Nat) : Int) ↔ _
  exact Int.natCast_inj
theorem bt_n (z : Nat) (e : Nat) : bt (z : Int) e = decide (((z / 2 ^ e) &&& 1 : Nat) = 1) := by
  rw [bt, show ((z : Int) / 2 ^ e) = ((z / 2 ^ e : Nat) : Int) by rw [Int.natCast_ediv, Int.natCast_pow]; rfl, Int.toNat_natCast]
theorem bt_full : ∀ (E : Fin 5) (i : Fin 4), i.val < E.val → ((2 ^ E.val - 1) / 2 ^ i.val &&& 1 : Nat) = 1 := by decide +kernel
theorem bt_miss : ∀ (E : Fin 5) (b : Fin 16), b.val < 2 ^ E.val → ¬ b.val + 1 = 2 ^ E.val → ∃ i : Fin 4, i.val < E.val ∧ ¬ (b.val / 2 ^ i.val &&& 1 : Nat) = 1 := by decide +kernel
def caP (b : BD) (z : Int) (e : Nat) (t : Int) : Bool := orP (if bt z e = true then 1 else 0) (plP b e t)
theorem caP_t {b : BD} {z : Int} {e : Nat} (h : bt z e = true) (t : Int) : caP b z e t = plP b e t := by rw [caP, if_pos h, orP, if_neg (by decide)]
theorem caP_f {b : BD} {z : Int} {e : Nat} (h : ¬ bt z e = true) (t : Int) : caP b z e t = true := by rw [caP, if_neg h, orP, if_pos rfl]
def caV (b : BD) (z : Int) : Bool := decide (0 < wW (caP b z) 1 (b.1 1).toNat (b.1 2))
def nd (b : BD) (z : Int) : Nat → Int
  | 0 => 0
  | e + 1 => if bt z e = true then nd b z e + ln (plP b e) (b.1 2 + 1).toNat 0 else nd b z e
theorem wR_0 {P : Int → Bool} {g : Int → Int} {f : Int} (hg : ∀ i, 0 ≤ i → i ≤ f → 0 ≤ g i) : ∀ (n : Nat) (t : Int), 0 ≤ t → 0 ≤ wR P g f 1 n t := by
  intro n
  induction n with
  | zero => intro t _; exact Int.le_refl _
  | succ n ih =>
    intro t t0
    have i1 := ih (t + 1) (by omega)
    rw [wR]
    split
    · exact Int.le_refl _
    · have := hg (f - t) (by omega) (by omega)
      split <;> omega
theorem wR_p {P : Int → Bool} {g : Int → Int} {f : Int} (hg : ∀ i, 0 ≤ i → i ≤ f → 0 ≤ g i) : ∀ (n : Nat) (t : Int), 0 ≤ t → (0 < wR P g f 1 n t ↔ ∃ u, t ≤ u ∧ u < t + n ∧ u ≤ f ∧ P u = true ∧ 0 < g (f - u)) := by
  intro n
  induction n with
  | zero =>
    intro t _
    rw [wR]
    exact ⟨fun c => by omega, fun ⟨u, a, b, _⟩ => by omega⟩
  | succ n ih =>
    intro t t0
    rw [wR]
    by_cases c : f < t
    · rw [if_pos c]
      exact ⟨fun c => by omega, fun ⟨u, a, b, d, _⟩ => by omega⟩
    rw [if_neg c]
    have i1 := ih (t + 1) (by omega)
    have gt := hg (f - t) (by omega) (by omega)
    have r1 : 0 ≤ wR P g f 1 n (t + 1) := wR_0 hg n (t + 1) (by omega)
    constructor
    · intro h
      by_cases c2 : P t = true ∧ 0 < g (f - t)
      · exact ⟨t, Int.le_refl _, by omega, by omega, c2.1, c2.2⟩
      · have : 0 < wR P g f 1 n (t + 1) := by
          by_cases c3 : P t = true
          · rw [if_pos c3] at h
            have : ¬ 0 < g (f - t) := fun y => c2 ⟨c3, y⟩
            omega
          · rw [if_neg c3] at h
            omega
        obtain ⟨u, a, b, x⟩ := i1.mp this
        exact ⟨u, by omega, by omega, x⟩
    · rintro ⟨u, a, b, x, y, z⟩
      by_cases c2 : u = t
      · rw [← c2, if_pos y]
        rw [c2] at z ⊢
        omega
      · have := i1.mpr ⟨u, by omega, by omega, x, y, z⟩
        split <;> omega
theorem nd_b {b : BD} {z : Int} (F60 : b.1 2 ≤ 60) : ∀ e : Nat, 0 ≤ nd b z e ∧ nd b z e ≤ e * 1000000 := by
  intro e
  induction e with
  | zero => rw [nd]; omega
  | succ e ih =>
    rw [nd]
    split
    · rcases ln_s (p := plP b e) (b.1 2 + 1).toNat 0 with ⟨x, _⟩ | ⟨x1, x2, _⟩
      · omega
      · omega
    · omega
theorem wW_s {P : Nat → Int → Bool} {e : Nat} {f : Int} (f60 : f ≤ 60) : 0 < wW P 1 (e + 1) f ↔ ∃ u, 0 ≤ u ∧ u ≤ f ∧ P e u = true ∧ 0 < wW P 1 e (f - u) := by
  rw [wW, wR_p (fun i _ _ => (wW_b (by decide) e i).1) 61 0 (Int.le_refl _)]
  exact ⟨fun ⟨u, a, b, c, x⟩ => ⟨u, a, c, x⟩, fun ⟨u, a, c, x⟩ => ⟨u, a, by omega, c, x⟩⟩
theorem ca_a {b : BD} {z : Int} (F60 : b.1 2 ≤ 60) : ∀ (e : Nat) (f : Int), f ≤ b.1 2 → 0 < wW (caP b z) 1 e f → nd b z e ≤ f := by
  intro e
  induction e with
  | zero =>
    intro f _ h
    rw [wW] at h
    rw [nd]
    by_cases c : f = 0
    · omega
    · rw [if_neg c] at h
      omega
  | succ e ih =>
    intro f ff h
    obtain ⟨u, u0, uf, pu, hu⟩ := (wW_s (by omega)).mp h
    have i1 := ih (f - u) (by omega) hu
    rw [nd]
    by_cases c : bt z e = true
    · rw [if_pos c]
      rw [caP_t c] at pu
      rcases ln_s (p := plP b e) (b.1 2 + 1).toNat 0 with ⟨_, x⟩ | ⟨x1, x2, x3, x4⟩
      · rw [x u u0 (by omega)] at pu
        cases pu
      · by_cases cu : u < ln (plP b e) (b.1 2 + 1).toNat 0
        · rw [x4 u u0 cu] at pu
          cases pu
        · omega
    · rw [if_neg c]
      omega
theorem ca_b {b : BD} {z : Int} (F60 : b.1 2 ≤ 60) : ∀ (e : Nat) (f : Int), f ≤ b.1 2 → (nd b z e = f ∨ (nd b z e ≤ f ∧ ∃ i, i < e ∧ ¬ bt z i = true)) → 0 < wW (caP b z) 1 e f := by
  intro e
  induction e with
  | zero =>
    intro f _ h
    rw [wW]
    rcases h with h | ⟨_, i, hi, _⟩
    · rw [nd] at h
      rw [if_pos h.symm]
      decide
    · omega
  | succ e ih =>
    intro f ff h
    have nb := nd_b (b := b) (z := z) F60 e
    rw [nd] at h
    refine (wW_s (by omega)).mpr ?_
    by_cases c : bt z e = true
    · rw [if_pos c] at h
      rcases ln_s (p := plP b e) (b.1 2 + 1).toNat 0 with ⟨x1, x⟩ | ⟨x1, x2, x3, x4⟩
      · omega
      · refine ⟨ln (plP b e) (b.1 2 + 1).toNat 0, x1, by omega, by rw [caP_t c]; exact x3, ih _ (by omega) ?_⟩
        rcases h with h | ⟨h, i, hi, hb⟩
        · left; omega
        · right
          refine ⟨by omega, i, ?_, hb⟩
          by_cases ci : i = e
          · rw [ci] at hb; exact absurd c hb
          · omega
    · rw [if_neg c] at h
      refine ⟨f - nd b z e, by omega, by omega, caP_f c _, ih _ (by omega) (Or.inl (by omega))⟩
theorem ca_v {b : BD} {z : Int} (F0 : 0 ≤ b.1 2) (F60 : b.1 2 ≤ 60) {E : Nat} (e4 : E ≤ 4) (hE : (b.1 1).toNat = E) (z1 : 0 ≤ z) (z2 : z < ((2 ^ E : Nat) : Int)) (zn : ¬ z = ((2 ^ E : Nat) : Int) - 1) : caV b z = decide (nd b z E ≤ b.1 2) := by
  rw [caV, hE]
  refine decide_eq_decide.mpr ⟨ca_a F60 E _ (Int.le_refl _), fun h => ca_b F60 E _ (Int.le_refl _) (Or.inr ⟨h, ?_⟩)⟩
  have hp := Nat.pow_le_pow_right (show 0 < 2 by decide) e4
  obtain ⟨i, hi, hb⟩ := bt_miss ⟨E, by omega⟩ ⟨z.toNat, by generalize 2 ^ E = x at *; omega⟩ (by show z.toNat < 2 ^ E; omega) (by show ¬ z.toNat + 1 = 2 ^ E; omega)
  refine ⟨i.val, hi, ?_⟩
  rw [show z = ((z.toNat : Nat) : Int) by omega, bt_n, decide_eq_true_eq]
  exact hb
theorem ca_f {b : BD} {z : Int} (E : Nat) (e4 : E ≤ 4) (hE : (b.1 1).toNat = E) (zn : z = ((2 ^ E : Nat) : Int) - 1) : caV b z = decide (0 < wW (plP b) 1 E (b.1 2)) := by
  rw [caV, hE]
  rw [wW_c (P' := plP b) (by decide) E _ (fun i t hi _ _ => ?_)]
  refine caP_t ?_ t
  have h1 : 1 ≤ 2 ^ E := Nat.one_le_two_pow
  rw [zn, show ((2 ^ E : Nat) : Int) - 1 = ((2 ^ E - 1 : Nat) : Int) by omega, bt_n, decide_eq_true_eq]
  exact bt_full ⟨E, by omega⟩ ⟨i, by omega⟩ hi
theorem s_X4_canPlease {d : Nat} {z : Int} {h : AH} {K : Int → AH → Prop} (hr : okR (fX h 1)) (he : okE (fX h 1)) (f0 : 0 ≤ h.1 1 8) (f60 : h.1 1 8 ≤ 60) (y0 : 0 ≤ z) (z1 : z < ((2 ^ (h.1 1 3).toNat : Nat) : Int)) (q : ∀ h1, h1.1 = h.1 → K (b2i (caV (fX h 1) z)) h1) : cI (tx mt (d + 5)) n_X4_canPlease [vR 35, vR 1, vI z] h K := by
  have e0 : 0 ≤ h.1 1 3 := he.1
  have e4 : h.1 1 3 ≤ 4 := he.2.1
  have E4 : (h.1 1 3).toNat ≤ 4 := by omega
  have p16 : 1 ≤ 2 ^ (h.1 1 3).toNat ∧ 2 ^ (h.1 1 3).toNat ≤ 16 := ⟨Nat.one_le_two_pow, Nat.pow_le_pow_right (by decide) E4⟩
  have key : ∀ (m i : Nat), i + m = (h.1 1 3).toNat → ¬ z = ((2 ^ (h.1 1 3).toNat : Nat) : Int) - 1 → Bx z0 0 (tx mt (d+4)) k_X4_canPlease (fun r h' => ∃ z, r = some (.inl z) ∧ K z h') 4 [some (vR 35), some (vR 1), some (vI z), some (vI ((nd (fX h 1) z i))), some (vI ((i : Int)))] [] h := by
    intro m
    induction m with
    | zero =>
      intro i im zn
      have v := ca_v (b := fX h 1) f0 f60 E4 rfl y0 z1 zn
      have q := q h rfl
      rw [v, ← show i = (h.1 1 3).toNat by omega] at q
      have en : (fX h 1).1 2 = h.1 1 8 := rfl
      rw [en] at q
      refine u_X4_canPlease_4 (tx_mono _ _) isB1 ⟨fun _ => u_X4_canPlease_6 (tx_mono _ _) isB1 ⟨fun c => u_X4_canPlease_7 (tx_mono _ _) (u_X4_canPlease_8 (tx_mono _ _) ⟨Or.inl rfl, exI ?_⟩), fun c => u_X4_canPlease_8 (tx_mono _ _) ⟨Or.inr rfl, exI ?_⟩⟩, fun c => by omega⟩
      · rw [decide_eq_false (by omega)] at q
        exact q
      · rw [decide_eq_true (by omega)] at q
        exact q
    | succ m ih =>
      intro i im zn
      have nx := ih (i + 1) (by omega) zn
      have nb := nd_b (b := fX h 1) (z := z) f60 i
      have nb1 := nd_b (b := fX h 1) (z := z) f60 (i + 1)
      have en : (fX h 1).1 2 = h.1 1 8 := rfl
      rw [nd] at nx nb1
      rw [en] at nx nb1
      refine u_X4_canPlease_4 (tx_mono _ _) isB1 ⟨fun c => by omega, fun _ => ⟨y0, by omega, by omega, Int.ediv_nonneg y0 (Int.le_of_lt (Int.pow_pos (by decide))), by decide, ?_⟩⟩
      rw [bt_v]
      refine ⟨fun c => u_X4_canPlease_5 (tx_mono _ _) isB1 ⟨⟨by omega, by omega⟩, ?_⟩, fun c => s_X4_leastNeeded hr he (by omega) f60 ?_⟩
      · rw [if_neg c] at nx
        exact nx
      · rw [if_pos (Decidable.not_not.mp c)] at nx nb1
        exact ⟨⟨by omega, by omega⟩, u_X4_canPlease_5 (tx_mono _ _) isB1 ⟨⟨by omega, by omega⟩, nx⟩⟩
  refine cI_i (e_X4_canPlease isB1 ⟨by decide, e0, by omega, ?_⟩)
  rw [two_n]
  refine ⟨by generalize 2 ^ (h.1 1 3).toNat = x at *; exact ⟨by omega, by omega⟩, by generalize 2 ^ (h.1 1 3).toNat = x at *; exact ⟨by omega, by omega⟩, fun c => u_X4_canPlease_3 (tx_mono _ _) isB1 (key (h.1 1 3).toNat 0 (by omega) c), fun c => ?_⟩
  have v := ca_f (b := fX h 1) (z := z) (h.1 1 3).toNat E4 rfl (Decidable.not_not.mp c)
  refine s_X4_waysToPleaseAll hr he f0 f60 (by decide) (by decide) (fun h1 e1 => ?_)
  have q := q h1 e1
  rw [v] at q
  have en : (fX h 1).1 2 = h.1 1 8 := rfl
  rw [en] at q
  rw [lcz_le]
  refine ⟨fun c => u_X4_canPlease_1 (tx_mono _ _) (u_X4_canPlease_2 (tx_mono _ _) ⟨Or.inl rfl, exI ?_⟩), fun c => u_X4_canPlease_2 (tx_mono _ _) ⟨Or.inr rfl, exI ?_⟩⟩
  · rw [decide_eq_false (by omega)] at q
    exact q
  · rw [decide_eq_true (by omega)] at q
    exact q
