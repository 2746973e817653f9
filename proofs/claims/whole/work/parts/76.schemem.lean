/-! ===== scheme: the reference ===== -/
theorem ow_b {e n : Int} : ∀ (t : Nat) (x : Int), ow e n t x ≤ t := by
  intro t
  induction t with
  | zero => intro x; exact Nat.le_refl _
  | succ t ih =>
    intro x
    have := ih (x + 1)
    rw [ow]
    split <;> omega
theorem s_X6_ownTurns {d : Nat} {e : Int} {h : AH} {K : Int → AH → Prop} (n1 : 1 ≤ h.1 38 1) (n4 : h.1 38 1 ≤ 4) (b0 : 0 ≤ h.1 38 5) (b5 : h.1 38 5 < h.1 38 1) (q : K ((ow e (h.1 38 1) 6 (h.1 38 5) : Nat) : Int) h) : cI (tx mt (d + 1)) n_X6_ownTurns [vR 38, vI e] h K := by
  have key : ∀ (m : Nat) (i a : Int), i + m = 6 → 0 ≤ i → 0 ≤ a → a ≤ i → K (a + (ow e (h.1 38 1) m (h.1 38 5 + i) : Nat)) h → Bx z0 0 (tx mt d) k_X6_ownTurns (fun r h' => ∃ z, r = some (.inl z) ∧ K z h') 1 [some (vR 38), some (vI e), some (vI a), some (vI i)] [] h := by
    intro m
    induction m with
    | zero =>
      intro i a im i0 a0 ai q
      refine u_X6_ownTurns_1 (tx_mono _ _) ⟨fun _ => u_X6_ownTurns_4 (tx_mono _ _) (exI ?_), fun c => by omega⟩
      rw [ow, show a + ((0 : Nat) : Int) = a by omega] at q
      exact q
    | succ m ih =>
      intro i a im i0 a0 ai q
      rw [ow, show h.1 38 5 + i + 1 = h.1 38 5 + (i + 1) by omega] at q
      refine u_X6_ownTurns_1 (tx_mono _ _) ⟨fun c => by omega, fun _ => ⟨⟨by omega, by omega⟩, by omega, by omega, fun c => u_X6_ownTurns_2 (tx_mono _ _) (u_X6_ownTurns_3 (tx_mono _ _) ⟨⟨by omega, by omega⟩, ⟨by omega, by omega⟩, ih (i + 1) (a + 0) (by omega) (by omega) (by omega) (by omega) ?_⟩), fun c => u_X6_ownTurns_3 (tx_mono _ _) ⟨⟨by omega, by omega⟩, ⟨by omega, by omega⟩, ih (i + 1) (a + 1) (by omega) (by omega) (by omega) (by omega) ?_⟩⟩⟩
      · rw [if_neg c] at q
        rw [Int.add_zero]
        exact q
      · rw [if_pos (by omega)] at q
        rw [show a + 1 + ((ow e (h.1 38 1) m (h.1 38 5 + (i + 1)) : Nat) : Int) = a + ((ow e (h.1 38 1) m (h.1 38 5 + (i + 1)) + 1 : Nat) : Int) by omega]
        exact q
  refine cI_i (e_X6_ownTurns (key 6 0 0 (by decide) (by decide) (by decide) (by decide) ?_))
  rw [Int.zero_add, Int.add_zero]
  exact q
theorem nd_c (x p : Nat) : ((x : Int) / (p : Int)) % 7 = ((x / p % 7 : Nat) : Int) := rfl
theorem s_X6_bringsWish {d : Nat} {B : BD} {e : Int} {x p : Nat} {h h' : AH} {K : Int → AH → Prop} (e0 : 0 ≤ e) (e1 : e < B.1 1) (p1 : ∃ j, p = 7 ^ j) (hb : okBd B) (hn : B.1 5 < B.1 1) (G : Gm B h h') (w : fM h' = B) (q : ∀ h1, Gm B h h1 → K (b2i (Br e 6 B x p)) h1) : cI (tx mt (d + 8)) n_X6_bringsWish [vR 38, vI e, vI (x : Int), vI (p : Int)] h' K := by
  have fail : ∀ (i : Int) (p : Nat) (h' : AH) (x3 x7 : Option AV), 0 ≤ i → K 0 h' → Bx z0 0 (tx mt (d+7)) k_X6_bringsWish (fun r h' => ∃ z, r = some (.inl z) ∧ K z h') 1 [some (vR 38), some (vI e), some (vI ((x : Int))), x3, some (vI ((p : Int))), some (vI 0), some (vI i), x7] [] h' := by
    intro i p h' x3 x7 i0 q
    have f9 : Bx z0 0 (tx mt (d+7)) k_X6_bringsWish (fun r h' => ∃ z, r = some (.inl z) ∧ K z h') 9 [some (vR 38), some (vI e), some (vI ((x : Int))), none, some (vI ((p : Int))), some (vI 0), some (vI i), none] [] h' := u_X6_bringsWish_9 (tx_mono _ _) ⟨fun _ => u_X6_bringsWish_10 (tx_mono _ _) (u_X6_bringsWish_11 (tx_mono _ _) ⟨Or.inl rfl, exI q⟩), fun c => absurd rfl c⟩
    exact u_X6_bringsWish_1 (tx_mono _ _) ⟨fun _ => f9, fun _ => ⟨fun _ => f9, fun _ => ⟨fun _ => f9, fun c => absurd rfl c⟩⟩⟩
  have key : ∀ (t : Nat) (i : Int) (p : Nat) (h' : AH) (x3 x7 : Option AV), i + t = 6 → 0 ≤ i → (∃ j, p = 7 ^ j) → Gm B h h' → okBd (fM h') → (fM h').1 5 < (fM h').1 1 → e < (fM h').1 1 → (∀ h1, Gm B h h1 → K (b2i (Br e t (fM h') x p)) h1) → Bx z0 0 (tx mt (d+7)) k_X6_bringsWish (fun r h' => ∃ z, r = some (.inl z) ∧ K z h') 1 [some (vR 38), some (vI e), some (vI ((x : Int))), x3, some (vI ((p : Int))), some (vI 1), some (vI i), x7] [] h' := by
    intro t
    induction t with
    | zero =>
      intro i p h' x3 x7 it i0 p1 G hb hn e1 q
      have q := q h' G
      rw [Br] at q
      refine u_X6_bringsWish_1 (tx_mono _ _) ⟨fun _ => u_X6_bringsWish_9 (tx_mono _ _) ⟨fun c => absurd c (by decide), fun _ => s_X6_has hb.1 hb.2.1 e0 e1 ⟨fun c => u_X6_bringsWish_10 (tx_mono _ _) (u_X6_bringsWish_11 (tx_mono _ _) ⟨Or.inl rfl, exI ?_⟩), fun c => u_X6_bringsWish_11 (tx_mono _ _) ⟨Or.inr rfl, exI ?_⟩⟩⟩, fun c => by omega⟩
      · rw [c] at q
        exact q
      · rw [show b2i (isP (fM h') e) = 1 by have := b2i_01 (isP (fM h') e); omega] at q
        exact q
    | succ t ih =>
      intro i p h' x3 x7 it i0 p1 G hb hn e1 q
      have b0 : 0 ≤ (fM h').1 5 := hb.2.2.1.2.2.2.2.2.2.1
      have f0 : 0 ≤ (fM h').1 2 := hb.2.2.1.1
      have f60 : (fM h').1 2 ≤ 60 := hb.2.2.1.2.1
      have m6 : (fM h').1 4 ≤ 6 := hb.2.2.1.2.2.2.2.2.1
      have e2 : h'.1 38 2 = (fM h').1 2 := rfl
      have e4 : h'.1 38 4 = (fM h').1 4 := rfl
      have e5 : h'.1 38 5 = (fM h').1 5 := rfl
      rw [Br] at q
      have pp : 1 ≤ p := by
        obtain ⟨j, rfl⟩ := p1
        exact p7 j
      have own : ∀ np : Nat, (∃ j, np = 7 ^ j) → (fM h').1 5 = e → ¬ (fM h').1 2 = 0 → np = (if p ≤ 1 then 1 else p / 7) → ∀ x3 x4 x5, Bx z0 0 (tx mt (d+7)) k_X6_bringsWish (fun r h' => ∃ z, r = some (.inl z) ∧ K z h') 3 [some (vR 38), some (vI e), some (vI ((x : Int))), x3, x4, x5, some (vI i), some (vI (((x / p % 7 : Nat) : Int)))] [vI (np : Int)] h' := by
        intro np np1 en fn ep x3 x4 x5
        rw [if_neg fn, if_pos en, ← ep] at q
        have d0 : (0 : Int) ≤ ((x / p % 7 : Nat) : Int) := Int.natCast_nonneg _
        have d6 : ((x / p % 7 : Nat) : Int) ≤ 6 := by
          have := Nat.mod_lt (x / p) (show 0 < 7 by decide)
          generalize x / p % 7 = z at this ⊢
          omega
        have bad : ((fM h').1 4 < ((x / p % 7 : Nat) : Int) ∨ (fM h').1 2 < ((x / p % 7 : Nat) : Int)) → Bx z0 0 (tx mt (d+7)) k_X6_bringsWish (fun r h' => ∃ z, r = some (.inl z) ∧ K z h') 4 [some (vR 38), some (vI e), some (vI ((x : Int))), none, some (vI ((np : Int))), none, some (vI i), some (vI (((x / p % 7 : Nat) : Int)))] [] h' := by
          intro c
          have q := q h' G
          rw [if_pos c] at q
          exact u_X6_bringsWish_4 (tx_mono _ _) (u_X6_bringsWish_5 (tx_mono _ _) ⟨fun _ => u_X6_bringsWish_6 (tx_mono _ _) (u_X6_bringsWish_8 (tx_mono _ _) ⟨⟨by omega, by omega⟩, fail (i + 1) np h' _ _ (by omega) q⟩), fun c => absurd rfl c⟩)
        refine u_X6_bringsWish_3 (tx_mono _ _) ?_
        rw [e4, e2]
        refine ⟨fun c => bad (Or.inl c), fun c => ⟨fun c2 => bad (Or.inr c2), fun c2 => u_X6_bringsWish_5 (tx_mono _ _) ⟨fun y => absurd y (by decide), fun _ => s_X6_takeSo hb.2.1 hb.2.2.1 hn ⟨d0, by omega⟩ (fun h1 w1 f1 => u_X6_bringsWish_6 (tx_mono _ _) (u_X6_bringsWish_8 (tx_mono _ _) ⟨⟨by omega, by omega⟩, ?_⟩))⟩⟩⟩
        rw [if_neg (by omega)] at q
        rw [show min ((x / p % 7 : Nat) : Int) ((fM h').1 2) = ((x / p % 7 : Nat) : Int) by omega] at w1
        have hb1 := takeB_ok hb hn d0 (by omega : ((x / p % 7 : Nat) : Int) ≤ (fM h').1 2)
        exact ih (i + 1) np h1 _ _ (by omega) (by omega) np1 (G.b f1 (by rw [w1]; exact hb1.2.2.2.2)) (by rw [w1]; exact hb1) (by rw [w1]; exact takeB_n (by omega)) (by rw [w1]; exact e1) (by rw [w1]; exact q)
      refine u_X6_bringsWish_1 (tx_mono _ _) ?_
      rw [e2, e5]
      refine ⟨fun c => by omega, fun _ => ⟨fun c => ?_, fun c => ⟨fun y => absurd y (by decide), fun _ => ⟨fun c2 => u_X6_bringsWish_7 (tx_mono _ _) (sm_turn G hb hn (fun h1 w1 G1 => u_X6_bringsWish_8 (tx_mono _ _) ⟨⟨by omega, by omega⟩, ?_⟩)), fun c2 => ⟨by omega, by omega, Int.ediv_nonneg (by omega) (by omega), by decide, fun c3 => ?_, fun c3 => ⟨by omega, by decide, ?_⟩⟩⟩⟩⟩⟩
      · have q := q h' G
        rw [if_pos (by omega)] at q
        refine u_X6_bringsWish_9 (tx_mono _ _) ⟨fun c => absurd c (by decide), fun _ => s_X6_has hb.1 hb.2.1 e0 e1 ⟨fun c => u_X6_bringsWish_10 (tx_mono _ _) (u_X6_bringsWish_11 (tx_mono _ _) ⟨Or.inl rfl, exI ?_⟩), fun c => u_X6_bringsWish_11 (tx_mono _ _) ⟨Or.inr rfl, exI ?_⟩⟩⟩
        · rw [c] at q
          exact q
        · rw [show b2i (isP (fM h') e) = 1 by have := b2i_01 (isP (fM h') e); omega] at q
          exact q
      · rw [if_neg (by omega), if_neg c2] at q
        have hb1 := turnB_ok hb hn
        exact ih (i + 1) p h1 _ _ (by omega) (by omega) p1 G1 (by rw [w1]; exact hb1) (by rw [w1]; exact turnB_n (by omega)) (by rw [w1]; exact e1) (by rw [w1]; exact q)
      · exact u_X6_bringsWish_2 (tx_mono _ _) (own 1 ⟨0, rfl⟩ (by omega) (by omega) (by rw [if_pos (by omega)]) _ _ _)
      · exact own (p / 7) (by
          obtain ⟨j, rfl⟩ := p1
          exact ⟨j - 1, by rw [← p7_s, if_neg (by omega)]⟩) (by omega) (by omega) (by rw [if_neg (by omega)]) _ _ _
  exact cI_i (e_X6_bringsWish (key 6 0 p h' _ _ (by decide) (by decide) p1 G (by rw [w]; exact hb) (by rw [w]; exact hn) (by rw [w]; exact e1) (by rw [w]; exact q)))

theorem scheme_rf {a : Int} {d : Nat} {n : Int} {h : AH} (n0 : 0 ≤ n) (n1 : n ≤ 1000) (H : Inv n h) (c : (a < 0 ∨ h.1 1 3 ≤ a) ∨ h.1 1 0 = 0) : cI (tx mt (d + 30)) n_X5_scheme [vR 0, vI a] h (fun z h1 => cI (tx mt (d + 30)) n_X6_scheme [vR 38, vI a] h1 (fun z' h2 => z = z' ∧ Inv (n + 1) h2)) := by
  have fa := H.facts
  unfold Facts at fa
  repeat' first
    | first | exact H.m12 | exact H.rf (by decide) (by decide)
    | (with_reducible refine exI ?_)
    | (with_reducible refine exL ?_)
    | (with_reducible refine exV ?_)
    | (with_reducible apply And.intro)
    | (with_reducible refine cI_i (e_X5_scheme ?_))
    | (with_reducible refine cL_i (e_X5_scheme ?_))
    | (with_reducible refine cV_i (e_X5_scheme ?_))
    | (with_reducible refine u_X5_scheme_1 (tx_mono _ _) ?_)
    | (with_reducible refine u_X5_scheme_2 (tx_mono _ _) ?_)
    | (with_reducible refine u_X5_scheme_3 (tx_mono _ _) ?_)
    | (with_reducible refine u_X5_scheme_4 (tx_mono _ _) ?_)
    | (with_reducible refine u_X5_scheme_5 (tx_mono _ _) ?_)
    | (with_reducible refine u_X5_scheme_6 (tx_mono _ _) ?_)
    | (with_reducible refine u_X5_scheme_7 (tx_mono _ _) ?_)
    | (with_reducible refine u_X5_scheme_8 (tx_mono _ _) ?_)
    | (with_reducible refine u_X5_scheme_9 (tx_mono _ _) ?_)
    | (with_reducible refine u_X5_scheme_10 (tx_mono _ _) ?_)
    | (with_reducible refine u_X5_scheme_11 (tx_mono _ _) ?_)
    | (with_reducible refine cI_i (e_X6_scheme ?_))
    | (with_reducible refine cL_i (e_X6_scheme ?_))
    | (with_reducible refine cV_i (e_X6_scheme ?_))
    | (with_reducible refine u_X6_scheme_1 (tx_mono _ _) ?_)
    | (with_reducible refine u_X6_scheme_2 (tx_mono _ _) ?_)
    | (with_reducible refine u_X6_scheme_3 (tx_mono _ _) ?_)
    | (with_reducible refine u_X6_scheme_4 (tx_mono _ _) ?_)
    | (with_reducible refine u_X6_scheme_5 (tx_mono _ _) ?_)
    | (with_reducible refine u_X6_scheme_6 (tx_mono _ _) ?_)
    | (with_reducible refine u_X6_scheme_7 (tx_mono _ _) ?_)
    | (with_reducible refine u_X6_scheme_8 (tx_mono _ _) ?_)
    | (with_reducible refine u_X6_scheme_9 (tx_mono _ _) ?_)
    | (with_reducible refine u_X6_scheme_10 (tx_mono _ _) ?_)
    | (with_reducible refine u_X6_scheme_11 (tx_mono _ _) ?_)
    | (with_reducible refine u_X6_scheme_12 (tx_mono _ _) ?_)
    | (with_reducible apply s_X0_copyFrom)
    | (with_reducible apply c_X0_hasEater)
    | (with_reducible apply s_X0_isPleased)
    | (with_reducible apply s_X0_takeTurn)
    | (with_reducible apply s_X5_numberLeadsToWish)
    | (with_reducible apply c_X5_refuse)
    | (with_reducible apply s_X6_bringsWish)
    | (with_reducible apply c_X6_isEater)
    | (with_reducible apply s_X6_open)
    | (with_reducible apply s_X6_ownTurns)
    | (with_reducible apply s_X6_putBack)
    | (with_reducible apply c_X6_refuse)
    | exact isB1
    | exact True.intro
    | (intro _ e9; subst e9)
    | (intro c9; exfalso; first | omega | (simp only [inI, inL, upI_e, Nat.reduceEqDiff, Nat.reduceAdd, true_and, and_true, false_and, and_false, if_true, if_false, ite_true, ite_false, reduceIte, Int.reduceEq, not_true_eq_false, not_false_eq_true, Decidable.not_not] at c9; omega))
    | (intro c9; (try simp only [inI, inL, upI_e, Nat.reduceEqDiff, Nat.reduceAdd, true_and, and_true, false_and, and_false, if_true, if_false, ite_true, ite_false, reduceIte, Int.reduceEq, not_true_eq_false, not_false_eq_true, Decidable.not_not] at c9))
    | (with_reducible show _ ≤ _; first | omega | (simp only [inI, inL, upI_e, Nat.reduceEqDiff, Nat.reduceAdd, true_and, and_true, false_and, and_false, if_true, if_false, ite_true, ite_false, reduceIte, Int.reduceEq, not_true_eq_false, not_false_eq_true, Decidable.not_not]; omega))
    | (with_reducible show _ < _; first | omega | (simp only [inI, inL, upI_e, Nat.reduceEqDiff, Nat.reduceAdd, true_and, and_true, false_and, and_false, if_true, if_false, ite_true, ite_false, reduceIte, Int.reduceEq, not_true_eq_false, not_false_eq_true, Decidable.not_not]; omega))
    | (with_reducible show _ = _; first | omega | (simp only [inI, inL, upI_e, Nat.reduceEqDiff, Nat.reduceAdd, true_and, and_true, false_and, and_false, if_true, if_false, ite_true, ite_false, reduceIte, Int.reduceEq, not_true_eq_false, not_false_eq_true, Decidable.not_not]; omega))
    | (with_reducible show _ ∧ _; first | omega | (simp only [inI, inL, upI_e, Nat.reduceEqDiff, Nat.reduceAdd, true_and, and_true, false_and, and_false, if_true, if_false, ite_true, ite_false, reduceIte, Int.reduceEq, not_true_eq_false, not_false_eq_true, Decidable.not_not]; omega))
    | (with_reducible show _ ∨ _; first | omega | (simp only [inI, inL, upI_e, Nat.reduceEqDiff, Nat.reduceAdd, true_and, and_true, false_and, and_false, if_true, if_false, ite_true, ite_false, reduceIte, Int.reduceEq, not_true_eq_false, not_false_eq_true, Decidable.not_not]; omega))
    | (with_reducible show inI _; first | omega | (simp only [inI, inL, upI_e, Nat.reduceEqDiff, Nat.reduceAdd, true_and, and_true, false_and, and_false, if_true, if_false, ite_true, ite_false, reduceIte, Int.reduceEq, not_true_eq_false, not_false_eq_true, Decidable.not_not]; omega))
    | (with_reducible show inL _; first | omega | (simp only [inI, inL, upI_e, Nat.reduceEqDiff, Nat.reduceAdd, true_and, and_true, false_and, and_false, if_true, if_false, ite_true, ite_false, reduceIte, Int.reduceEq, not_true_eq_false, not_false_eq_true, Decidable.not_not]; omega))
    | (with_reducible show ¬ _; first | omega | (simp only [inI, inL, upI_e, Nat.reduceEqDiff, Nat.reduceAdd, true_and, and_true, false_and, and_false, if_true, if_false, ite_true, ite_false, reduceIte, Int.reduceEq, not_true_eq_false, not_false_eq_true, Decidable.not_not]; omega))
theorem p7_b {w : Nat} (h : w ≤ 6) : 7 ^ w ≤ 117649 := Nat.pow_le_pow_right (n := 7) (by decide) h
theorem m_scheme {d : Nat} {B : BD} {e : Int} {h h2 : AH} {K : Int → AH → Prop} (e0 : 0 ≤ e) (e1 : e < B.1 1) (hb : okBd B) (hn : B.1 5 < B.1 1) (w2 : fM h2 = B) (hop : ∀ K : AH → Prop, (∀ h3, fM h3 = B → Gm B h h3 → K h3) → cV (tx mt (d + 29)) n_X6_open [vR 38] h2 K) (q : ∀ h1, Gm B h h1 → fM h1 = B → K (scV e 6 B) h1) : Bx z0 0 (tx mt (d + 29)) k_X6_scheme (fun r h' => ∃ z, r = some (.inl z) ∧ K z h') 4 [some (vR 38), some (vI e), some (vI 0), none, none, none, none] [] h2 := by
  have b0 : 0 ≤ B.1 5 := hb.2.2.1.2.2.2.2.2.2.1
  have n4 : B.1 1 ≤ 4 := hb.2.1.2.1
  have c1 : h2.1 38 1 = B.1 1 := by rw [← w2]; rfl
  have c5 : h2.1 38 5 = B.1 5 := by rw [← w2]; rfl
  rw [sc_Br 6 B hb hn] at q
  refine u_X6_scheme_4 (tx_mono _ _) (s_X6_ownTurns (by omega) (by omega) (by omega) (by omega) ?_)
  rw [c1, c5]
  have w6 := ow_b (e := e) (n := B.1 1) 6 (B.1 5)
  generalize ow e (B.1 1) 6 (B.1 5) = w at w6 q ⊢
  have hw := p7_b w6
  have lp : ∀ (m x : Nat) (h' : AH), x + m = 7 ^ w → Gm B h h' → (∀ h1, Gm B h h1 → fM h1 = B → K (rB (fun x => Br e 6 B x (7 ^ (w - 1))) (7 ^ (w - 1)) m x) h1) → Bx z0 0 (tx mt (d + 29)) k_X6_scheme (fun r h' => ∃ z, r = some (.inl z) ∧ K z h') 9 [some (vR 38), some (vI e), none, some (vI (((7 ^ w : Nat) : Int))), some (vI ((-9))), some (vI (((7 ^ (w - 1) : Nat) : Int))), some (vI ((x : Int)))] [] h' := by
    intro m
    induction m with
    | zero =>
      intro x h' xm G q
      exact u_X6_scheme_9 (tx_mono _ _) ⟨fun _ => u_X6_scheme_12 (tx_mono _ _) (sm_put G hb.2.2.2.2 (fun h1 w1 G1 => exI (q h1 G1 w1))), fun c => by omega⟩
    | succ m ih =>
      intro x h' xm G q
      have pw := p7 (w - 1)
      refine u_X6_scheme_9 (tx_mono _ _) ⟨fun c => by omega, fun _ => ⟨fun c => by omega, fun _ => sm_put G hb.2.2.2.2 (fun h1 w1 G1 => s_X6_bringsWish e0 e1 ⟨_, rfl⟩ hb hn G1 w1 (fun h3 G3 => ⟨fun c => u_X6_scheme_10 (tx_mono _ _) (u_X6_scheme_11 (tx_mono _ _) ⟨⟨by omega, by omega⟩, ?_⟩), fun c => ⟨by omega, by omega, u_X6_scheme_11 (tx_mono _ _) ⟨⟨by omega, by omega⟩, ?_⟩⟩⟩))⟩⟩
      · refine ih (x + 1) h3 (by omega) G3 (fun h1 G1 w1 => ?_)
        have q := q h1 G1 w1
        rw [rB, if_neg (by rw [b2i_z c]; decide)] at q
        exact q
      · have dn : (0 : Int) ≤ ((x / 7 ^ (w - 1) : Nat) : Int) := Int.natCast_nonneg _
        have f12 : Bx z0 0 (tx mt (d + 29)) k_X6_scheme (fun r h' => ∃ z, r = some (.inl z) ∧ K z h') 12 [some (vR 38), some (vI e), none, some (vI (((7 ^ w : Nat) : Int))), some (vI (((x / 7 ^ (w - 1) : Nat) : Int))), some (vI (((7 ^ (w - 1) : Nat) : Int))), some (vI (((x : Int) + 1)))] [] h3 := by
          refine u_X6_scheme_12 (tx_mono _ _) (sm_put G3 hb.2.2.2.2 (fun h1 w1 G1 => exI ?_))
          have q := q h1 G1 w1
          rw [rB, if_pos (b2i_o c)] at q
          exact q
        exact u_X6_scheme_9 (tx_mono _ _) ⟨fun _ => f12, fun _ => ⟨fun _ => f12, fun c => absurd dn c⟩⟩
  have n8 : Bx z0 0 (tx mt (d + 29)) k_X6_scheme (fun r h' => ∃ z, r = some (.inl z) ∧ K z h') 8 [some (vR 38), some (vI e), none, some (vI (((7 ^ w : Nat) : Int))), some (vI ((-9))), none, none] [vI ((7 ^ (w - 1) : Nat) : Int)] h2 := u_X6_scheme_8 (tx_mono _ _) (hop _ (fun h3 w3 G3 => lp (7 ^ w) 0 h3 (by omega) G3 q))
  have n5 : ∀ (m j : Nat), j + m = w → Bx z0 0 (tx mt (d + 29)) k_X6_scheme (fun r h' => ∃ z, r = some (.inl z) ∧ K z h') 5 [some (vR 38), some (vI e), none, some (vI (((7 ^ j : Nat) : Int))), some (vI ((m : Int))), none, none] [] h2 := by
    intro m
    induction m with
    | zero =>
      intro j jm
      rw [show j = w by omega]
      have s := p7_s w
      refine u_X6_scheme_5 (tx_mono _ _) ⟨fun _ => u_X6_scheme_6 (tx_mono _ _) ⟨fun c => u_X6_scheme_7 (tx_mono _ _) ?_, fun c => ⟨by omega, by decide, ?_⟩⟩, fun c => by omega⟩
      · rw [if_pos (by omega)] at s
        rw [← s] at n8
        exact n8
      · rw [if_neg (by omega)] at s
        rw [← s] at n8
        exact n8
    | succ m ih =>
      intro j jm
      have hj := p7_b (w := j + 1) (by omega)
      have ps : 7 ^ (j + 1) = 7 ^ j * 7 := Nat.pow_succ _ _
      have nx := ih (j + 1) (by omega)
      refine u_X6_scheme_5 (tx_mono _ _) ⟨fun c => by omega, fun _ => ⟨⟨by omega, by omega⟩, ⟨by omega, by omega⟩, ?_⟩⟩
      rw [show ((7 ^ j : Nat) : Int) * 7 = ((7 ^ (j + 1) : Nat) : Int) by omega, show ((m + 1 : Nat) : Int) + (-1) = m by omega]
      exact nx
  exact n5 w 0 (by omega)
theorem op_scheme {a : Int} : OpI n_X5_scheme n_X6_scheme [vI a] := by
  intro d n h n0 n1 H
  have fa := H.facts
  unfold Facts at fa
  obtain ⟨oR, oE, oS, oP, oZ, mE, mR, mEa, mS, mZ⟩ := H.ok
  by_cases c : (a < 0 ∨ h.1 1 3 ≤ a) ∨ h.1 1 0 = 0
  · exact scheme_rf n0 n1 H c
  have gn := H.next
  have hn : (fX h 1).1 5 < (fX h 1).1 1 := by show h.1 1 11 < h.1 1 3; omega
  refine cI_i (e_X5_scheme (c_X0_hasEater isB1 (fun _ => ⟨fun _ => u_X5_scheme_1 (tx_mono _ _) ⟨fun _ => u_X5_scheme_2 (tx_mono _ _) (sx_copy (Fx.rf H.2.1.1) oZ (fun h1 x1 F1 => ?_)), fun y => by omega⟩, fun y => absurd (by decide) y⟩) (fun _ => by omega)))
  refine x_scheme (K := fun z h1 => cI (tx mt (d + 30)) n_X6_scheme [vR 38, vI a] h1 (fun z' h2 => z = z' ∧ Inv (n + 1) h2)) (by omega) 6 h1 _ _ (by decide) F1 (by rw [x1]; exact H.1.1) (by rw [x1]; exact hn) (by rw [x1]; show a < h.1 1 3; omega) (fun h1 F1 => ?_)
  rw [x1]
  have a1 := F1.e H
  refine cI_i (e_X6_scheme (fun h2 w2 => ?_))
  refine c_X6_isEater (by rw [w2]; omega) (fun _ => ⟨fun _ => u_X6_scheme_1 (tx_mono _ _) ⟨fun _ => u_X6_scheme_2 (tx_mono _ _) (u_X6_scheme_3 (tx_mono _ _) ⟨fun _ => ?_, fun y => absurd (by decide) y⟩), fun y => by rw [w2] at y; omega⟩, fun y => absurd (by decide) y⟩) (fun y => by rw [w2] at y; omega)
  rw [w2]
  exact m_scheme (K := fun z' h2 => scV a 6 (fX h 1) = z' ∧ Inv (n + 1) h2) (B := fX h 1) (h := h1) (by omega) (by show a < h.1 1 3; omega) H.1.1 hn (F1.m H) (fun K q => sm_open0 H F1 (fun h3 m3 G3 => q h3 m3 G3)) (fun h1 G1 w1 => fin2 H F1 G1 w1 rfl)
