/-! ===== wished ===== -/
def wishP (b : BD) (a t : Int) (w : Nat) : Bool := decide ((supB 100 0 (putB 5 a w b)).2.2 6 a = t)
theorem x_wished {d : Nat} {a : Int} {h : AH} {K : Int → AH → Prop} (hb : okBd (fX h 1)) (hn : (fX h 1).1 5 < (fX h 1).1 1) (a0 : 0 ≤ a) (a4 : a < 4) : ∀ (m k : Nat) (h' : AH), k + m = 12 → Fx h h' → (∀ h1, Fx h h1 → K ((bitsN (wishP (fX h 1) a (h.1 31 a)) 12 : Nat) : Int) h1) → Bx z0 0 (tx mt (d + 29)) k_X5_wished (fun r h' => ∃ z, r = some (.inl z) ∧ K z h') 3 [some (vR 0), some (vI a), some (vI ((bitsN (wishP (fX h 1) a (h.1 31 a)) k : Nat) : Int)), some (vI (k : Int))] [] h' := by
  intro m
  induction m with
  | zero =>
    intro k h' km F q
    have : k = 12 := by omega
    subst this
    exact u_X5_wished_3 (tx_mono _ _) ⟨fun _ => u_X5_wished_5 (tx_mono _ _) (exI (q h' F)), fun c => by omega⟩
  | succ m ih =>
    intro k h' km F q
    refine u_X5_wished_3 (tx_mono _ _) ⟨fun c => by omega, fun _ => sx_copy F hb.2.2.2.2 (fun h1 x1 F1 => ⟨a0, a4, fun h2 w2 => ?_⟩)⟩
    have hp := hb.put (j := 5) (e := a) (v := (k : Int)) a0 a4 (by omega)
    have x2 : fX h2 9 = putB 5 a k (fX h 1) := by rw [w2, fX_put (j := 5) (by decide) (by decide), x1]
    have F2 : Fx h h2 := by rw [w2] at x2 ⊢; exact F1.put (by decide) (by decide) (by rw [x2]; exact hp.2.2.2.2)
    refine sx_eat F2 (by rw [x2]; exact hp) (by rw [x2]; exact hn) (fun h3 x3 F3 => ?_)
    rw [x2] at x3
    have e1 : h3.1 15 a = (supB 100 0 (putB 5 a k (fX h 1))).2.2 6 a := by rw [← x3]; rfl
    have e2 : h3.1 31 a = h.1 31 a := by rw [F3.1 31 (by omega)]
    refine ⟨a0, a4, a0, by omega, fun c => u_X5_wished_4 (tx_mono _ _) ⟨⟨by omega, by omega⟩, ?_⟩, fun c => ⟨by omega, by omega, by omega, (bit_b (by omega)).1, by omega, (bit_b (by omega)).2, u_X5_wished_4 (tx_mono _ _) ⟨⟨by omega, by omega⟩, ?_⟩⟩⟩
    · rw [e1, e2] at c
      have nx := ih (k + 1) h3 (by omega) F3 q
      rw [bitsN, if_neg (by rw [wishP, decide_eq_false c]; decide)] at nx
      exact nx
    · rw [e1, e2] at c
      rw [bit_y (by rw [wishP, decide_eq_true (Decidable.not_not.mp c)])]
      exact ih (k + 1) h3 (by omega) F3 q
theorem m_wished {d : Nat} {a : Int} {h : AH} {B : BD} {K : Int → AH → Prop} {x2 : Option AV} (hb : okBd B) (hn : B.1 5 < B.1 1) (a0 : 0 ≤ a) (a4 : a < 4) : ∀ (m k : Nat) (h' : AH), k + m = 12 → Gm B h h' → (∀ h1, Gm B h h1 → fM h1 = B → K ((bitsN (wishP B a (h.1 64 a)) 12 : Nat) : Int) h1) → ∀ x2, Bx z0 0 (tx mt (d + 29)) k_X6_wished (fun r h' => ∃ z, r = some (.inl z) ∧ K z h') 5 [some (vR 38), some (vI a), x2, some (vI ((bitsN (wishP B a (h.1 64 a)) k : Nat) : Int)), some (vI (k : Int))] [] h' := by
  intro m
  induction m with
  | zero =>
    intro k h' km G q x2
    have : k = 12 := by omega
    subst this
    exact u_X6_wished_5 (tx_mono _ _) ⟨fun _ => u_X6_wished_8 (tx_mono _ _) (sm_put G hb.2.2.2.2 (fun h1 m1 G1 => exI (q h1 G1 m1))), fun c => by omega⟩
  | succ m ih =>
    intro k h' km G q x2
    refine u_X6_wished_5 (tx_mono _ _) ⟨fun c => by omega, fun _ => sm_put G hb.2.2.2.2 (fun h1 m1 G1 => ⟨a0, a4, fun h2 w2 => ?_⟩)⟩
    have hp := hb.put (j := 5) (e := a) (v := (k : Int)) a0 a4 (by omega)
    have m2 : fM h2 = putB 5 a k B := by rw [w2, fM_put (j := 5) (by decide) (by decide), m1]
    have G2 : Gm B h h2 := by rw [w2] at m2 ⊢; exact G1.put (by omega) (by rw [m2]; exact hp.2.2.2.2)
    refine sm_eat G2 (by rw [m2]; exact hp) (by rw [m2]; exact hn) (fun h3 m3 G3 => ?_)
    rw [m2] at m3
    have e1 : h3.1 44 a = (supB 100 0 (putB 5 a k B)).2.2 6 a := by rw [← m3]; rfl
    have e2 : h3.1 64 a = h.1 64 a := by rw [G3.1 64 (by omega) (by omega) (by omega)]
    refine ⟨a0, a4, a0, by omega, fun c => u_X6_wished_6 (tx_mono _ _) (u_X6_wished_7 (tx_mono _ _) ⟨by omega, by omega, ⟨by omega, by omega⟩, ?_⟩), fun c => ⟨by omega, by omega, by omega, (bit_b (by omega)).1, u_X6_wished_7 (tx_mono _ _) ⟨by omega, (bit_b (by omega)).2, ⟨by omega, by omega⟩, ?_⟩⟩⟩
    · rw [e1, e2] at c
      rw [bit_z (by rw [wishP, decide_eq_false c])]
      exact ih (k + 1) h3 (by omega) G3 q _
    · rw [e1, e2] at c
      rw [bit_y (by rw [wishP, decide_eq_true (Decidable.not_not.mp c)])]
      exact ih (k + 1) h3 (by omega) G3 q _
theorem op_wished {a : Int} : OpI n_X5_wished n_X6_wished [vI a] := by
  intro d n h n0 n1 H
  have fa := H.facts
  unfold Facts at fa
  obtain ⟨oR, oE, oS, oP, oZ, mE, mR, mEa, mS, mZ⟩ := H.ok
  have gn := H.next
  by_cases c : (a < 0 ∨ h.1 1 3 ≤ a) ∨ ¬ h.1 0 7 = h.1 1 3
  · skip
    repeat' first
      | first | exact H.m12 | exact H.rf (by decide) (by decide)
      | (with_reducible refine exI ?_)
      | (with_reducible refine exL ?_)
      | (with_reducible refine exV ?_)
      | (with_reducible apply And.intro)
      | (with_reducible refine cI_i (e_X5_wished ?_))
      | (with_reducible refine cL_i (e_X5_wished ?_))
      | (with_reducible refine cV_i (e_X5_wished ?_))
      | (with_reducible refine u_X5_wished_1 (tx_mono _ _) ?_)
      | (with_reducible refine u_X5_wished_2 (tx_mono _ _) ?_)
      | (with_reducible refine u_X5_wished_3 (tx_mono _ _) ?_)
      | (with_reducible refine u_X5_wished_4 (tx_mono _ _) ?_)
      | (with_reducible refine u_X5_wished_5 (tx_mono _ _) ?_)
      | (with_reducible refine cI_i (e_X6_wished ?_))
      | (with_reducible refine cL_i (e_X6_wished ?_))
      | (with_reducible refine cV_i (e_X6_wished ?_))
      | (with_reducible refine u_X6_wished_1 (tx_mono _ _) ?_)
      | (with_reducible refine u_X6_wished_2 (tx_mono _ _) ?_)
      | (with_reducible refine u_X6_wished_3 (tx_mono _ _) ?_)
      | (with_reducible refine u_X6_wished_4 (tx_mono _ _) ?_)
      | (with_reducible refine u_X6_wished_5 (tx_mono _ _) ?_)
      | (with_reducible refine u_X6_wished_6 (tx_mono _ _) ?_)
      | (with_reducible refine u_X6_wished_7 (tx_mono _ _) ?_)
      | (with_reducible refine u_X6_wished_8 (tx_mono _ _) ?_)
      | (with_reducible apply s_X0_copyFrom)
      | (with_reducible apply s_X0_eatUp)
      | (with_reducible apply c_X0_hasEater)
      | (with_reducible apply c_X5_refuse)
      | (with_reducible apply c_X6_isEater)
      | (with_reducible apply s_X6_open)
      | (with_reducible apply s_X6_putBack)
      | (with_reducible apply c_X6_refuse)
      | (with_reducible apply s_X6_supperNow)
      | exact isB1
      | exact True.intro
      | (intro _ e9; subst e9)
      | (intro c9; exfalso; first | omega | (simp only [inI, upI_e, Nat.reduceEqDiff, Nat.reduceAdd, true_and, and_true, false_and, and_false, if_true, if_false, ite_true, ite_false, reduceIte, Int.reduceEq, not_true_eq_false, not_false_eq_true, Decidable.not_not] at c9; omega))
      | (intro c9; (try simp only [inI, upI_e, Nat.reduceEqDiff, Nat.reduceAdd, true_and, and_true, false_and, and_false, if_true, if_false, ite_true, ite_false, reduceIte, Int.reduceEq, not_true_eq_false, not_false_eq_true, Decidable.not_not] at c9))
      | (with_reducible show _ ≤ _; first | omega | (simp only [inI, upI_e, Nat.reduceEqDiff, Nat.reduceAdd, true_and, and_true, false_and, and_false, if_true, if_false, ite_true, ite_false, reduceIte, Int.reduceEq, not_true_eq_false, not_false_eq_true, Decidable.not_not]; omega))
      | (with_reducible show _ < _; first | omega | (simp only [inI, upI_e, Nat.reduceEqDiff, Nat.reduceAdd, true_and, and_true, false_and, and_false, if_true, if_false, ite_true, ite_false, reduceIte, Int.reduceEq, not_true_eq_false, not_false_eq_true, Decidable.not_not]; omega))
      | (with_reducible show _ = _; first | omega | (simp only [inI, upI_e, Nat.reduceEqDiff, Nat.reduceAdd, true_and, and_true, false_and, and_false, if_true, if_false, ite_true, ite_false, reduceIte, Int.reduceEq, not_true_eq_false, not_false_eq_true, Decidable.not_not]; omega))
      | (with_reducible show _ ∧ _; first | omega | (simp only [inI, upI_e, Nat.reduceEqDiff, Nat.reduceAdd, true_and, and_true, false_and, and_false, if_true, if_false, ite_true, ite_false, reduceIte, Int.reduceEq, not_true_eq_false, not_false_eq_true, Decidable.not_not]; omega))
      | (with_reducible show _ ∨ _; first | omega | (simp only [inI, upI_e, Nat.reduceEqDiff, Nat.reduceAdd, true_and, and_true, false_and, and_false, if_true, if_false, ite_true, ite_false, reduceIte, Int.reduceEq, not_true_eq_false, not_false_eq_true, Decidable.not_not]; omega))
      | (with_reducible show inI _; first | omega | (simp only [inI, upI_e, Nat.reduceEqDiff, Nat.reduceAdd, true_and, and_true, false_and, and_false, if_true, if_false, ite_true, ite_false, reduceIte, Int.reduceEq, not_true_eq_false, not_false_eq_true, Decidable.not_not]; omega))
      | (with_reducible show ¬ _; first | omega | (simp only [inI, upI_e, Nat.reduceEqDiff, Nat.reduceAdd, true_and, and_true, false_and, and_false, if_true, if_false, ite_true, ite_false, reduceIte, Int.reduceEq, not_true_eq_false, not_false_eq_true, Decidable.not_not]; omega))
  have hn : (fX h 1).1 5 < (fX h 1).1 1 := by show h.1 1 11 < h.1 1 3; omega
  refine cI_i (e_X5_wished (c_X0_hasEater isB1 (fun _ => ⟨fun _ => u_X5_wished_1 (tx_mono _ _) ⟨fun _ => u_X5_wished_2 (tx_mono _ _) (x_wished H.1.1 hn (by omega) (by omega) 12 0 h (by decide) (Fx.rf H.2.1.1) (fun h2 F2 => ?_)), fun y => by omega⟩, fun y => absurd (by decide) y⟩) (fun _ => by omega)))
  have a1 := (F2.e H)
  refine cI_i (e_X6_wished ?_)
  intro h3 w3
  refine c_X6_isEater (by rw [w3]; omega) (fun _ => ⟨fun _ => u_X6_wished_1 (tx_mono _ _) ?_, fun y => absurd (by decide) y⟩) (fun y => by rw [w3] at y; omega)
  rw [w3]
  refine ⟨fun _ => u_X6_wished_2 (tx_mono _ _) (u_X6_wished_3 (tx_mono _ _) ⟨fun _ => u_X6_wished_4 (tx_mono _ _) (sm_open0 H F2 (fun h4 m4 G4 => m_wished (x2 := none) H.1.1 hn (by omega) (by omega) 12 0 h4 (by decide) G4 (fun h5 G5 m5 => fin2 H F2 G5 m5 ?_) _)), fun y => absurd (by decide) y⟩), fun y => by omega⟩
  rw [show h2.1 64 a = h.1 64 a by rw [F2.1 64 (by omega)], (H.2.2.2.1.2.2.2 a (by omega) (by omega)).1]
