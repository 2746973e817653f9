/-! ===== scheme: the component ===== -/
theorem pl_take {b : BD} {k e n : Int} : pl (takeB b k) e n = pl b e n := rfl
theorem Ld_alone {e : Int} : ∀ (t : Nat) (b : BD), okBd b → b.1 1 = 1 → e = 0 → (Ld e t b = true ↔ ∃ j, 0 ≤ j ∧ j ≤ b.1 2 ∧ j ≤ t * b.1 4 ∧ pl b e (min 99 (b.2 6 e + j)) = true) := by
  have h0 : ∀ b : BD, okBd b → b.1 1 = 1 → isP b 0 = pl b 0 (min 99 (b.2 6 0 + 0)) := by
    intro b hb h1
    have se := hb.2.1.2.2 0 (by decide) (by omega)
    rw [isP, hasE, decide_eq_true (by omega), decide_eq_true (by omega), show min 99 (b.2 6 0 + 0) = b.2 6 0 by omega]
    rfl
  intro t
  induction t with
  | zero =>
    intro b hb h1 e0
    have f0 : 0 ≤ b.1 2 := hb.2.2.1.1
    subst e0
    rw [Ld, h0 b hb h1]
    constructor
    · intro y
      exact ⟨0, by decide, f0, by omega, y⟩
    · intro ⟨j, a, _, c, y⟩
      rw [show j = 0 by omega] at y
      exact y
  | succ t ih =>
    intro b hb h1 e0
    have b0 : 0 ≤ b.1 5 := hb.2.2.1.2.2.2.2.2.2.1
    have b5 : b.1 5 < b.1 1 ∨ b.1 5 = 0 := hb.2.2.1.2.2.2.2.2.2.2
    have m1 : 1 ≤ b.1 4 := hb.2.2.1.2.2.2.2.1
    have f0 : 0 ≤ b.1 2 := hb.2.2.1.1
    have se := hb.2.1.2.2 0 (by decide) (by omega)
    have tm : ((t + 1 : Nat) : Int) * b.1 4 = t * b.1 4 + b.1 4 := by rw [show ((t + 1 : Nat) : Int) = t + 1 from rfl, Int.add_mul, Int.one_mul]
    have tn : 0 ≤ (t : Int) * b.1 4 := Int.mul_nonneg (by omega) (by omega)
    rw [tm]
    rw [Ld]
    by_cases c : b.1 2 = 0
    · rw [if_pos c]
      subst e0
      rw [h0 b hb h1]
      constructor
      · intro y
        exact ⟨0, by decide, f0, by omega, y⟩
      · intro ⟨j, a, d, _, y⟩
        rw [show j = 0 by omega] at y
        exact y
    rw [if_neg c, if_pos (by omega), xf_iff]
    have ihk : ∀ k, 0 ≤ k → k ≤ b.1 2 → (Ld e t (takeB b k) = true ↔ ∃ j, 0 ≤ j ∧ j ≤ b.1 2 - k ∧ j ≤ t * b.1 4 ∧ pl b e (min 99 (b.2 6 e + (k + j))) = true) := by
      intro k k0 kf
      rw [ih (takeB b k) (takeB_ok hb (by omega) k0 kf) h1 e0]
      have e2 : (takeB b k).1 2 = b.1 2 - k := rfl
      have e4 : (takeB b k).1 4 = b.1 4 := rfl
      have e6 : (takeB b k).2 6 e = min 99 (b.2 6 e + k) := by
        show (if 6 = 6 ∧ e = b.1 5 then min 99 (b.2 6 (b.1 5) + k) else b.2 6 e) = _
        rw [if_pos ⟨rfl, by omega⟩, show b.1 5 = e by omega]
      rw [e2, e4, e6]
      have mm : ∀ j, 0 ≤ j → min 99 (min 99 (b.2 6 e + k) + j) = min 99 (b.2 6 e + (k + j)) := fun j j0 => by omega
      constructor
      · intro ⟨j, a, x, y, z⟩
        rw [mm j a] at z
        exact ⟨j, a, x, y, z⟩
      · intro ⟨j, a, x, y, z⟩
        rw [← mm j a] at z
        exact ⟨j, a, x, y, z⟩
    constructor
    · intro ⟨k, k0, k1, hk⟩
      obtain ⟨j, a, x, y, z⟩ := (ihk k k0 (by omega)).mp hk
      exact ⟨k + j, by omega, by omega, by omega, z⟩
    · intro ⟨j, a, x, y, z⟩
      refine ⟨min j (b.1 4), by omega, by omega, (ihk _ (by omega) (by omega)).mpr ⟨j - min j (b.1 4), by omega, by omega, by omega, ?_⟩⟩
      rw [show min j (b.1 4) + (j - min j (b.1 4)) = j by omega]
      exact z
theorem bool_eq {p q : Bool} (h : p = true ↔ q = true) : p = q := by
  cases p <;> cases q <;> simp_all
theorem sx_alone {d t : Nat} {e : Int} {h h' : AH} {K : Int → AH → Prop} (F : Fx h h') (hb : okBd (fX h' 9)) (h1 : (fX h' 9).1 1 = 1) (e0 : e = 0) (t6 : t ≤ 6) (q : K (b2i (Ld e t (fX h' 9))) h') : cI (tx mt (d + 4)) n_X5_aloneLeadsToWish [vR 9, vI e, vI (t : Int)] h' K := by
  have m6 : (fX h' 9).1 4 ≤ 6 := hb.2.2.1.2.2.2.2.2.1
  have m1 : 1 ≤ (fX h' 9).1 4 := hb.2.2.1.2.2.2.2.1
  have f0 : 0 ≤ (fX h' 9).1 2 := hb.2.2.1.1
  have f60 : (fX h' 9).1 2 ≤ 60 := hb.2.2.1.2.1
  have se := hb.2.1.2.2 0 (by decide) (by omega)
  have tn : 0 ≤ (t : Int) * (fX h' 9).1 4 := Int.mul_nonneg (by omega) (by omega)
  have tx6 : (t : Int) * (fX h' 9).1 4 ≤ 6 * 6 := Int.mul_le_mul (by omega) m6 (by omega) (by decide)
  have e3 : h'.1 9 3 = (fX h' 9).1 1 := rfl
  have e10 : h'.1 9 10 = (fX h' 9).1 4 := rfl
  have e8 : h'.1 9 8 = (fX h' 9).1 2 := rfl
  have e6 : h'.1 (9 + 6) e = (fX h' 9).2 6 e := rfl
  subst e0
  have eL : Ld 0 t (fX h' 9) = xf (fun j => pl (fX h' 9) 0 (min 99 ((fX h' 9).2 6 0 + j))) (min ((fX h' 9).1 2) (t * (fX h' 9).1 4) + 1).toNat 0 := by
    refine bool_eq ?_
    rw [Ld_alone t _ hb h1 rfl, xf_iff]
    constructor
    · intro ⟨j, a, x, y, z⟩
      exact ⟨j, a, by omega, z⟩
    · intro ⟨j, a, x, z⟩
      exact ⟨j, a, by omega, by omega, z⟩
  rw [eL] at q
  have lp : ∀ (m : Nat) (k : Int) (x2 : Option AV), k + m = min ((fX h' 9).1 2) (t * (fX h' 9).1 4) + 1 → 0 ≤ k → K (b2i (xf (fun j => pl (fX h' 9) 0 (min 99 ((fX h' 9).2 6 0 + j))) m k)) h' → Bx z0 0 (tx mt (d+3)) k_X5_aloneLeadsToWish (fun r h' => ∃ z, r = some (.inl z) ∧ K z h') 2 [some (vR 9), some (vI 0), x2, some (vI ((min ((fX h' 9).1 2) (t * (fX h' 9).1 4)))), some (vI k)] [] h' := by
    intro m
    induction m with
    | zero =>
      intro k x2 km k0 q
      exact u_X5_aloneLeadsToWish_2 (tx_mono _ _) isB9 ⟨fun _ => u_X5_aloneLeadsToWish_4 (tx_mono _ _) (exI q), fun c => by omega⟩
    | succ m ih =>
      intro k x2 km k0 q
      rw [xf] at q
      refine u_X5_aloneLeadsToWish_2 (tx_mono _ _) isB9 ⟨fun c => by omega, fun _ => ⟨by omega, by omega, ?_⟩⟩
      rw [e6]
      refine ⟨⟨by omega, by omega⟩, s_X0_pleases isB9 hb.1 hb.2.1 (by omega) ⟨fun c => u_X5_aloneLeadsToWish_3 (tx_mono _ _) isB9 ⟨⟨by omega, by omega⟩, ?_⟩, fun c => exI ?_⟩⟩
      · refine ih (k + 1) _ (by omega) (by omega) ?_
        rw [b2i_z c, Bool.false_or] at q
        exact q
      · rw [b2i_o c, Bool.true_or] at q
        exact q
  refine cI_i (e_X5_aloneLeadsToWish isB9 (s_X0_hasEater isB9 ?_))
  rw [show hasE (fX h' 9) 0 = true by rw [hasE, decide_eq_true (by omega), decide_eq_true (by omega)]; rfl]
  refine ⟨fun _ => u_X5_aloneLeadsToWish_1 (tx_mono _ _) isB9 ?_, fun y => absurd (by decide) y⟩
  rw [e10, e8]
  exact ⟨⟨by omega, by omega⟩, lp _ 0 _ (by omega) (by decide) q⟩
theorem back_eq {h4 : AH} {b : BD} {k : Int} (e : fX h4 9 = takeB b k) : fX (upI (upI (upI h4 9 8 (b.1 2)) (9 + 6) (b.1 5) (b.2 6 (b.1 5))) 9 11 (b.1 5)) 9 = b := by
  rw [fX_putS, fX_put (by decide) (by decide), fX_putF, e]
  refine Prod.ext ?_ ?_
  · funext n
    show (if n = 5 then b.1 5 else if n = 2 then b.1 2 else (if n = 2 then b.1 2 - k else if n = 5 then (b.1 5 + 1) % b.1 1 else b.1 n)) = b.1 n
    by_cases c : n = 5
    · rw [if_pos c, c]
    · rw [if_neg c]
      by_cases c2 : n = 2
      · rw [if_pos c2, c2]
      · rw [if_neg c2, if_neg c2, if_neg c]
  · funext j i
    show (if j = 6 ∧ i = b.1 5 then b.2 6 (b.1 5) else (if j = 6 ∧ i = b.1 5 then min 99 (b.2 6 (b.1 5) + k) else b.2 j i)) = b.2 j i
    by_cases c : j = 6 ∧ i = b.1 5
    · rw [if_pos c, c.1, c.2]
    · rw [if_neg c, if_neg c]
def LdX (t D : Nat) : Prop := ∀ ⦃e : Int⦄ ⦃h h' : AH⦄ ⦃K : Int → AH → Prop⦄, Fx h h' → okBd (fX h' 9) → (fX h' 9).1 5 < (fX h' 9).1 1 → 0 ≤ e → e < (fX h' 9).1 1 → (∀ h1, Fx h h1 → fX h1 9 = fX h' 9 → K (b2i (Ld e t (fX h' 9))) h1) → cI (tx mt D) n_X5_leadsToWish [vR 9, vI e, vI (t : Int)] h' K
theorem sx_number {t D : Nat} (L : LdX t (D + 2)) {e k : Int} {h h' : AH} {K : Int → AH → Prop} (F : Fx h h') (hb : okBd (fX h' 9)) (hn : (fX h' 9).1 5 < (fX h' 9).1 1) (e0 : 0 ≤ e) (e1 : e < (fX h' 9).1 1) (k0 : 0 ≤ k) (k1 : k ≤ 1000) (t6 : t ≤ 6) (q : ∀ h1, Fx h h1 → fX h1 9 = fX h' 9 → K (b2i (Ld e t (takeB (fX h' 9) (min k ((fX h' 9).1 2))))) h1) : cI (tx mt (D + 3)) n_X5_numberLeadsToWish [vR 9, vI e, vI k, vI ((t : Int) + 1)] h' K := by
  have b0 : 0 ≤ (fX h' 9).1 5 := hb.2.2.1.2.2.2.2.2.2.1
  have f0 : 0 ≤ (fX h' 9).1 2 := hb.2.2.1.1
  have c4 : (fX h' 9).1 1 ≤ 4 := hb.2.1.2.1
  have e11 : h'.1 9 11 = (fX h' 9).1 5 := rfl
  refine cI_i (e_X5_numberLeadsToWish isB9 (s_X0_hasEater isB9 ?_))
  rw [e11, show hasE (fX h' 9) ((fX h' 9).1 5) = true by rw [hasE, decide_eq_true (by omega), decide_eq_true (by omega)]; rfl]
  refine ⟨fun y => absurd y (by decide), fun _ => ⟨fun _ => u_X5_numberLeadsToWish_2 (tx_mono _ _) isB9 ⟨b0, by omega, s_X0_take isB9 hb.2.1 hb.2.2.1 hn ⟨k0, k1⟩ (fun h1 w1 f1 => ⟨⟨by omega, by omega⟩, ?_⟩)⟩, fun y => by omega⟩⟩
  rw [show (t : Int) + 1 - 1 = t by omega]
  have hb1 := takeB_ok hb hn (t := min k ((fX h' 9).1 2)) (by omega) (by omega)
  refine L (h := h) (F.b f1 (by rw [w1]; exact hb1.2.2.2.2)) (by rw [w1]; exact hb1) (by rw [w1]; exact takeB_n (by omega)) e0 (by rw [w1]; exact e1) (fun h4 F4 w4 => ?_)
  rw [w1] at w4 ⊢
  intro h7 w7
  refine ⟨b0, by omega, fun h8 w8 h9 w9 => ⟨b2i_01 _, exI ?_⟩⟩
  have e9 : fX h9 9 = fX h' 9 := by
    rw [w9, w8, w7]
    exact back_eq w4
  have c9 : ∀ c, c < 9 ∨ 16 < c → h9.1 c = h.1 c := by
    intro c hc
    rw [← F4.1 c hc, w9, w8, w7]
    funext j
    simp only [upI_e]
    rw [if_neg (by omega), if_neg (by omega), if_neg (by omega)]
  exact q h9 ⟨c9, by rw [e9]; exact hb.2.2.2.2⟩ e9
theorem sx_leads : ∀ (t D : Nat), t ≤ 6 → 2 * t + 9 ≤ D → LdX t D := by
  intro t
  induction t with
  | zero =>
    intro D t6 hD e h h' K F hb hn e0 e1 q
    obtain ⟨D, rfl⟩ : ∃ D', D = D' + 9 := ⟨D - 9, by omega⟩
    refine cI_i (e_X5_leadsToWish isB9 ⟨fun _ => u_X5_leadsToWish_1 (tx_mono _ _) isB9 (s_X0_isPleased isB9 hb.1 hb.2.1 ⟨b2i_01 _, exI ?_⟩), fun c => absurd (by decide) c⟩)
    exact q h' F rfl
  | succ t ih =>
    intro D t6 hD e h h' K F hb hn e0 e1 q
    obtain ⟨D, rfl⟩ : ∃ D', D = D' + 11 := ⟨D - 11, by omega⟩
    have L := ih (D + 9) (by omega) (by omega)
    have b0 : 0 ≤ (fX h' 9).1 5 := hb.2.2.1.2.2.2.2.2.2.1
    have f0 : 0 ≤ (fX h' 9).1 2 := hb.2.2.1.1
    have f60 : (fX h' 9).1 2 ≤ 60 := hb.2.2.1.2.1
    have m1 : 1 ≤ (fX h' 9).1 4 := hb.2.2.1.2.2.2.2.1
    have m6 : (fX h' 9).1 4 ≤ 6 := hb.2.2.1.2.2.2.2.2.1
    have c4 : (fX h' 9).1 1 ≤ 4 := hb.2.1.2.1
    have e3 : h'.1 9 3 = (fX h' 9).1 1 := rfl
    have e10 : h'.1 9 10 = (fX h' 9).1 4 := rfl
    have e8 : h'.1 9 8 = (fX h' 9).1 2 := rfl
    have e11 : h'.1 9 11 = (fX h' 9).1 5 := rfl
    have ts : ((t + 1 : Nat) : Int) = (t : Int) + 1 := rfl
    refine cI_i (e_X5_leadsToWish isB9 ⟨fun y => by omega, fun _ => ⟨fun c => u_X5_leadsToWish_2 (tx_mono _ _) isB9 ⟨fun c1 => u_X5_leadsToWish_3 (tx_mono _ _) isB9 ⟨fun c2 => u_X5_leadsToWish_4 (tx_mono _ _) isB9 ?_, fun c2 => ?_⟩, fun c1 => sx_alone (t := t + 1) F hb (by omega) (by omega) t6 ⟨b2i_01 _, exI (q h' F rfl)⟩⟩, fun c => u_X5_leadsToWish_1 (tx_mono _ _) isB9 (s_X0_isPleased isB9 hb.1 hb.2.1 ⟨b2i_01 _, exI ?_⟩)⟩⟩)
    · rw [Ld, if_neg (by omega), if_pos (by omega)] at q
      have lp : ∀ (m : Nat) (k : Int) (h4 : AH), k + m = min ((fX h' 9).1 4) ((fX h' 9).1 2) + 1 → 0 ≤ k → Fx h h4 → fX h4 9 = fX h' 9 → (∀ h1, Fx h h1 → fX h1 9 = fX h' 9 → K (b2i (xf (fun k => Ld e t (takeB (fX h' 9) k)) m k)) h1) → Bx z0 0 (tx mt (D+10)) k_X5_leadsToWish (fun r h' => ∃ z, r = some (.inl z) ∧ K z h') 5 [some (vR 9), some (vI e), some (vI (((t : Int) + 1))), some (vI ((min ((fX h' 9).1 4) ((fX h' 9).1 2)))), some (vI k)] [] h4 := by
        intro m
        induction m with
        | zero =>
          intro k h4 km k0 F4 w4 q
          exact u_X5_leadsToWish_5 (tx_mono _ _) isB9 ⟨fun _ => u_X5_leadsToWish_7 (tx_mono _ _) (exI (q h4 F4 w4)), fun c => by omega⟩
        | succ m ihm =>
          intro k h4 km k0 F4 w4 q
          refine u_X5_leadsToWish_5 (tx_mono _ _) isB9 ⟨fun c => by omega, fun _ => sx_number (D := D + 7) L F4 (by rw [w4]; exact hb) (by rw [w4]; exact hn) e0 (by rw [w4]; exact e1) k0 (by omega) (by omega) (fun h5 F5 w5 => ?_)⟩
          rw [w4] at w5 ⊢
          rw [show min k ((fX h' 9).1 2) = k by omega]
          refine ⟨fun c => u_X5_leadsToWish_6 (tx_mono _ _) isB9 ⟨⟨by omega, by omega⟩, ihm (k + 1) h5 (by omega) (by omega) F5 w5 (fun h1 F1 w1 => ?_)⟩, fun c => exI ?_⟩
          · have q := q h1 F1 w1
            rw [xf, b2i_z c, Bool.false_or] at q
            exact q
          · have q := q h5 F5 w5
            rw [xf, b2i_o c, Bool.true_or] at q
            exact q
      rw [e10, e8]
      exact lp _ 0 h' (by omega) (by decide) F rfl q
    · rw [Ld, if_neg (by omega), if_neg (by omega)] at q
      have wr := wantP_r hb.2.1 hb.2.2.1 hn
      refine s_X0_wanted isB9 hb.1 hb.2.1 hb.2.2.1 hn (sx_number (D := D + 7) L F hb hn e0 e1 wr.1 wr.2 (by omega) (fun h5 F5 w5 => ⟨b2i_01 _, exI (q h5 F5 w5)⟩))
    · have q := q h' F rfl
      rw [Ld, if_pos (by omega)] at q
      exact q
theorem x_scheme {d : Nat} {e : Int} {h : AH} {K : Int → AH → Prop} (e0 : 0 ≤ e) : ∀ (t : Nat) (h' : AH) (x3 x4 : Option AV), t ≤ 6 → Fx h h' → okBd (fX h' 9) → (fX h' 9).1 5 < (fX h' 9).1 1 → e < (fX h' 9).1 1 → (∀ h1, Fx h h1 → K (scV e t (fX h' 9)) h1) → Bx z0 0 (tx mt (d + 29)) k_X5_scheme (fun r h' => ∃ z, r = some (.inl z) ∧ K z h') 3 [some (vR 0), some (vI e), some (vI ((t : Int))), x3, x4] [] h' := by
  intro t
  induction t with
  | zero =>
    intro h' x3 x4 t6 F hb hn e1 q
    have q := q h' F
    rw [scV] at q
    have n7 : ∀ b : Bool, b = isP (fX h' 9) e → (b2i b = 0 → Bx z0 0 (tx mt (d + 29)) k_X5_scheme (fun r h' => ∃ z, r = some (.inl z) ∧ K z h') 6 [some (vR 0), some (vI e), none, none, none] [] h') ∧ (¬ b2i b = 0 → Bx z0 0 (tx mt (d + 29)) k_X5_scheme (fun r h' => ∃ z, r = some (.inl z) ∧ K z h') 7 [some (vR 0), some (vI e), none, none, none] [vI 0] h') := by
      intro b eb
      rw [← eb] at q
      refine ⟨fun c => u_X5_scheme_6 (tx_mono _ _) (u_X5_scheme_7 (tx_mono _ _) (exI ?_)), fun c => u_X5_scheme_7 (tx_mono _ _) (exI ?_)⟩
      · rw [if_neg (by rw [b2i_z c]; decide)] at q
        exact q
      · rw [if_pos (b2i_o c)] at q
        exact q
    exact u_X5_scheme_3 (tx_mono _ _) ⟨fun _ => u_X5_scheme_4 (tx_mono _ _) ⟨fun _ => u_X5_scheme_5 (tx_mono _ _) (s_X0_isPleased isB9 hb.1 hb.2.1 (n7 _ rfl)), fun c => absurd rfl c⟩, fun c => absurd (by decide) c⟩
  | succ t ih =>
    intro h' x3 x4 t6 F hb hn e1 q
    have b0 : 0 ≤ (fX h' 9).1 5 := hb.2.2.1.2.2.2.2.2.2.1
    have f0 : 0 ≤ (fX h' 9).1 2 := hb.2.2.1.1
    have f60 : (fX h' 9).1 2 ≤ 60 := hb.2.2.1.2.1
    have m1 : 1 ≤ (fX h' 9).1 4 := hb.2.2.1.2.2.2.2.1
    have m6 : (fX h' 9).1 4 ≤ 6 := hb.2.2.1.2.2.2.2.2.1
    have e10 : h'.1 9 10 = (fX h' 9).1 4 := rfl
    have e8 : h'.1 9 8 = (fX h' 9).1 2 := rfl
    have e11 : h'.1 9 11 = (fX h' 9).1 5 := rfl
    have ts : ((t + 1 : Nat) : Int) = (t : Int) + 1 := rfl
    rw [scV] at q
    refine u_X5_scheme_3 (tx_mono _ _) ?_
    rw [ts, e8, e11]
    refine ⟨fun c => by omega, fun _ => ⟨fun c => ?_, fun c => ⟨fun c2 => ?_, fun c2 => sx_turn F hb hn (fun h1 w1 F1 => ⟨⟨by omega, by omega⟩, ?_⟩)⟩⟩⟩
    · have q := q h' F
      rw [if_pos (by omega)] at q
      have n7 : ∀ b : Bool, b = isP (fX h' 9) e → (b2i b = 0 → Bx z0 0 (tx mt (d + 29)) k_X5_scheme (fun r h' => ∃ z, r = some (.inl z) ∧ K z h') 6 [some (vR 0), some (vI e), none, none, none] [] h') ∧ (¬ b2i b = 0 → Bx z0 0 (tx mt (d + 29)) k_X5_scheme (fun r h' => ∃ z, r = some (.inl z) ∧ K z h') 7 [some (vR 0), some (vI e), none, none, none] [vI 0] h') := by
        intro b eb
        rw [← eb] at q
        refine ⟨fun c => u_X5_scheme_6 (tx_mono _ _) (u_X5_scheme_7 (tx_mono _ _) (exI ?_)), fun c => u_X5_scheme_7 (tx_mono _ _) (exI ?_)⟩
        · rw [if_neg (by rw [b2i_z c]; decide)] at q
          exact q
        · rw [if_pos (b2i_o c)] at q
          exact q
      exact u_X5_scheme_4 (tx_mono _ _) ⟨fun y => by omega, fun _ => ⟨fun y => by omega, fun _ => u_X5_scheme_5 (tx_mono _ _) (s_X0_isPleased isB9 hb.1 hb.2.1 (n7 _ rfl))⟩⟩
    · rw [if_neg (by omega), if_pos c2] at q
      have lp : ∀ (m : Nat) (k : Int) (h4 : AH), k + m = min ((fX h' 9).1 4) ((fX h' 9).1 2) + 1 → 0 ≤ k → Fx h h4 → fX h4 9 = fX h' 9 → (∀ h1, Fx h h1 → K (fsN (fun k => Ld e t (takeB (fX h' 9) k)) m k) h1) → Bx z0 0 (tx mt (d + 29)) k_X5_scheme (fun r h' => ∃ z, r = some (.inl z) ∧ K z h') 9 [some (vR 0), some (vI e), some (vI (((t : Int) + 1))), some (vI ((min ((fX h' 9).1 4) ((fX h' 9).1 2)))), some (vI k)] [] h4 := by
        intro m
        induction m with
        | zero =>
          intro k h4 km k0 F4 w4 q
          exact u_X5_scheme_9 (tx_mono _ _) ⟨fun _ => u_X5_scheme_11 (tx_mono _ _) (exI (q h4 F4)), fun c => by omega⟩
        | succ m ihm =>
          intro k h4 km k0 F4 w4 q
          refine u_X5_scheme_9 (tx_mono _ _) ⟨fun c => by omega, fun _ => sx_number (D := d + 26) (sx_leads t (d + 28) (by omega) (by omega)) F4 (by rw [w4]; exact hb) (by rw [w4]; exact hn) e0 (by rw [w4]; exact e1) k0 (by omega) (by omega) (fun h5 F5 w5 => ?_)⟩
          rw [w4] at w5 ⊢
          rw [show min k ((fX h' 9).1 2) = k by omega]
          refine ⟨fun c => u_X5_scheme_10 (tx_mono _ _) ⟨⟨by omega, by omega⟩, ihm (k + 1) h5 (by omega) (by omega) F5 w5 (fun h1 F1 => ?_)⟩, fun c => exI ?_⟩
          · have q := q h1 F1
            rw [fsN, if_neg (by rw [b2i_z c]; decide)] at q
            exact q
          · have q := q h5 F5
            rw [fsN, if_pos (b2i_o c)] at q
            exact q
      refine u_X5_scheme_4 (tx_mono _ _) ⟨fun y => by omega, fun _ => ⟨fun _ => u_X5_scheme_8 (tx_mono _ _) ?_, fun y => by omega⟩⟩
      rw [e10, e8]
      exact lp _ 0 h' (by omega) (by decide) F rfl q
    · rw [show (t : Int) + 1 + (-1) = t by omega]
      rw [if_neg (by omega), if_neg c2] at q
      refine ih h1 _ _ (by omega) F1 (by rw [w1]; exact turnB_ok hb hn) (by rw [w1]; exact turnB_n (by omega)) (by rw [w1]; exact e1) (fun h2 F2 => ?_)
      rw [w1]
      exact q h2 F2
