/-! ===== the image, the count, the last ===== -/
theorem op_last {a : Int} : OpI n_X5_last n_X6_last [vI a] := by
  intro d n h n0 n1 H
  have fa := H.facts
  unfold Facts at fa
  obtain ⟨oR, oE, oS, oP, oZ, mE, mR, mEa, mS, mZ⟩ := H.ok
  have gn := H.next
  have e1 : h.1 38 2 % (h.1 38 4 + 1) = h.1 1 8 % (h.1 1 10 + 1) := by rw [fa.1.2.2.1, fa.1.2.2.2.2.1]
  repeat' first
    | first | exact H.m12 | exact H.rf (by decide) (by decide)
    | (with_reducible refine exI ?_)
    | (with_reducible refine exL ?_)
    | (with_reducible refine exV ?_)
    | (with_reducible apply And.intro)
    | (with_reducible refine cI_i (e_X5_last ?_))
    | (with_reducible refine cL_i (e_X5_last ?_))
    | (with_reducible refine cV_i (e_X5_last ?_))
    | (with_reducible refine u_X5_last_1 (tx_mono _ _) ?_)
    | (with_reducible refine u_X5_last_2 (tx_mono _ _) ?_)
    | (with_reducible refine u_X5_last_3 (tx_mono _ _) ?_)
    | (with_reducible refine u_X5_last_4 (tx_mono _ _) ?_)
    | (with_reducible refine u_X5_last_5 (tx_mono _ _) ?_)
    | (with_reducible refine u_X5_last_6 (tx_mono _ _) ?_)
    | (with_reducible refine u_X5_last_7 (tx_mono _ _) ?_)
    | (with_reducible refine u_X5_last_8 (tx_mono _ _) ?_)
    | (with_reducible refine cI_i (e_X6_last ?_))
    | (with_reducible refine cL_i (e_X6_last ?_))
    | (with_reducible refine cV_i (e_X6_last ?_))
    | (with_reducible refine u_X6_last_1 (tx_mono _ _) ?_)
    | (with_reducible refine u_X6_last_2 (tx_mono _ _) ?_)
    | (with_reducible refine u_X6_last_3 (tx_mono _ _) ?_)
    | (with_reducible refine u_X6_last_4 (tx_mono _ _) ?_)
    | (with_reducible refine u_X6_last_5 (tx_mono _ _) ?_)
    | (with_reducible refine u_X6_last_6 (tx_mono _ _) ?_)
    | (with_reducible refine u_X6_last_7 (tx_mono _ _) ?_)
    | (with_reducible refine u_X6_last_8 (tx_mono _ _) ?_)
    | (with_reducible refine u_X6_last_9 (tx_mono _ _) ?_)
    | (with_reducible apply s_X0_restInPlay)
    | (with_reducible apply c_X5_refuse)
    | (with_reducible apply c_X6_in)
    | (with_reducible apply c_X6_refuse)
    | assumption
    | exact isB1
    | exact True.intro
    | (intro _ e9; subst e9)
    | (intro c9; exfalso; first | omega | (simp only [inI, inL, upI_e, Nat.reduceEqDiff, Nat.reduceAdd, true_and, and_true, false_and, and_false, if_true, if_false, ite_true, ite_false, reduceIte, Int.reduceEq, not_true_eq_false, not_false_eq_true, Decidable.not_not] at c9; omega))
    | (intro c9; (try simp only [inI, inL, upI_e, Nat.reduceEqDiff, Nat.reduceAdd, true_and, and_true, false_and, and_false, if_true, if_false, ite_true, ite_false, reduceIte, Int.reduceEq, not_true_eq_false, not_false_eq_true, Decidable.not_not] at c9))
    | (with_reducible show _ ≤ _; first | omega | (simp only [inI, inL, upI_e, Nat.reduceEqDiff, Nat.reduceAdd, true_and, and_true, false_and, and_false, if_true, if_false, ite_true, ite_false, reduceIte, Int.reduceEq, not_true_eq_false, not_false_eq_true, Decidable.not_not]; omega))
    | (with_reducible show _ < _; first | omega | (simp only [inI, inL, upI_e, Nat.reduceEqDiff, Nat.reduceAdd, true_and, and_true, false_and, and_false, if_true, if_false, ite_true, ite_false, reduceIte, Int.reduceEq, not_true_eq_false, not_false_eq_true, Decidable.not_not]; omega))
    | (with_reducible show _ = _; first | omega | (simp only [inI, inL, upI_e, Nat.reduceEqDiff, Nat.reduceAdd, true_and, and_true, false_and, and_false, if_true, if_false, ite_true, ite_false, reduceIte, Int.reduceEq, not_true_eq_false, not_false_eq_true, Decidable.not_not]; omega))
    | (with_reducible show _ ∧ _; first | omega | (simp only [inI, inL, upI_e, Nat.reduceEqDiff, Nat.reduceAdd, true_and, and_true, false_and, and_false, if_true, if_false, ite_true, ite_false, reduceIte, Int.reduceEq, not_true_eq_false, not_false_eq_true, Decidable.not_not]; omega))
    | (with_reducible show _ ∨ _; first | omega | (simp only [inI, inL, upI_e, Nat.reduceEqDiff, Nat.reduceAdd, true_and, and_true, false_and, and_false, if_true, if_false, ite_true, ite_false, reduceIte, Int.reduceEq, not_true_eq_false, not_false_eq_true, Decidable.not_not]; omega))
    | (with_reducible show inI _; first | omega | (simp only [inI, inL, upI_e, Nat.reduceEqDiff, Nat.reduceAdd, true_and, and_true, false_and, and_false, if_true, if_false, ite_true, ite_false, reduceIte, Int.reduceEq, not_true_eq_false, not_false_eq_true, Decidable.not_not]; omega))
    | (with_reducible show inL _; first | omega | (simp only [inI, inL, upI_e, Nat.reduceEqDiff, Nat.reduceAdd, true_and, and_true, false_and, and_false, if_true, if_false, ite_true, ite_false, reduceIte, Int.reduceEq, not_true_eq_false, not_false_eq_true, Decidable.not_not]; omega))
    | (with_reducible show ¬ _; first | omega | (simp only [inI, inL, upI_e, Nat.reduceEqDiff, Nat.reduceAdd, true_and, and_true, false_and, and_false, if_true, if_false, ite_true, ite_false, reduceIte, Int.reduceEq, not_true_eq_false, not_false_eq_true, Decidable.not_not]; omega))
theorem op_image : OpI n_X5_image n_X6_image [] := by
  intro d n h n0 n1 H
  have fa := H.facts
  unfold Facts at fa
  obtain ⟨oR, oE, oS, oP, oZ, mE, mR, mEa, mS, mZ⟩ := H.ok
  refine cI_i (e_X5_image (s_X0_copyFrom isB17 isB1 (by decide) H.2.1.2 oZ (fun h1 w1 f1 => ?_)))
  intro h2 w2
  refine exI ?_
  have m2 : ∀ h3 : AH, h3 = upI (upI h2 38 12 0) 38 16 1 → fM h3 = fX h 1 := by
    intro h3 w3
    rw [fM_c (h := h) (fun c hc => by funext j; rw [w3, w2]; simp only [upI_e]; (repeat' rw [if_neg (by omega)]); rw [f1.1 c (by omega)]) (fun j hj => by rw [w3, w2]; simp only [upI_e]; (repeat' rw [if_neg (by omega)]); rw [f1.1 38 (by omega)])]
    exact H.1.2
  refine cI_i (e_X6_image ?_)
  intro h3 w3 h4 w4
  rw [w3] at w4
  refine s_take (Or.inr rfl) (by rw [m2 _ w4]; exact oZ) (fun h5 k1 k2 k3 => ?_)
  refine exI ?_
  have F : ∀ c, (c < 17 ∨ 24 < c) → c ≠ 38 → c ≠ 47 → c ≠ 0 → h5.1 c = h.1 c := by
    intro c c1 c2 c3 c4
    rw [k3.1 c c2 c3, w4, w2]
    funext j
    simp only [upI_e]
    (repeat' rw [if_neg (by omega)])
    rw [f1.1 c (by omega)]
  have S : ∀ j, j ≠ 12 → j ≠ 16 → j ≠ 17 → j ≠ 18 → h5.1 38 j = h.1 38 j := by
    intro j c1 c2 c3 c4
    rw [k3.2.1 j c3 c4, w4, w2]
    simp only [upI_e]
    (repeat' rw [if_neg (by omega)])
    rw [f1.1 38 (by omega)]
  have Z : ∀ j, j ≠ 3 → h5.1 0 j = h.1 0 j := by
    intro j c1
    rw [k3.1 0 (by decide) (by decide), w4, w2]
    simp only [upI_e]
    (repeat' rw [if_neg (by omega)])
    rw [f1.1 0 (by omega)]
  have Z3 : h5.1 0 3 = 1 := by
    rw [k3.1 0 (by decide) (by decide), w4, w2]
    (simp only [inI, upI_e, Nat.reduceEqDiff, Nat.reduceAdd, true_and, and_true, false_and, and_false, if_true, if_false, ite_true, ite_false, reduceIte, Int.reduceEq, not_true_eq_false, not_false_eq_true, Decidable.not_not])
  have S16 : h5.1 38 16 = 1 := by
    rw [k3.2.1 16 (by decide) (by decide), w4]
    (simp only [inI, upI_e, Nat.reduceEqDiff, Nat.reduceAdd, true_and, and_true, false_and, and_false, if_true, if_false, ite_true, ite_false, reduceIte, Int.reduceEq, not_true_eq_false, not_false_eq_true, Decidable.not_not])
  have X17 : fX h5 17 = fX h 1 := by
    rw [← w1]
    refine fX_c (fun c a b => ?_)
    rw [k3.1 c (by omega) (by omega), w4, w2]
    funext j
    simp only [upI_e]
    (repeat' rw [if_neg (by omega)])
  refine ⟨?_, H.1.c (fun c hc => F c (by omega) (by omega) (by omega) (by omega)) (fun j hj => S j (by omega) (by omega) (by omega) (by omega)), ⟨?_, ?_⟩, ⟨?_, ?_, ?_⟩, H.2.2.2.1.c (fun c hc => F c (by omega) (by omega) (by omega) (by omega)) (Z 7 (by decide)) (S 43 (by decide) (by decide) (by decide) (by decide)), H.2.2.2.2.1.c (fun c hc => F c (by omega) (by omega) (by omega) (by omega)) (by rw [F 25 (by decide) (by decide) (by decide) (by decide)]) (S 21 (by decide) (by decide) (by decide) (by decide)), H.2.2.2.2.2.1.c (fun c hc => F c (by omega) (by omega) (by omega) (by omega)), H.2.2.2.2.2.2.c (fun c hc => F c (by omega) (by omega) (by omega) (by omega)) (by rw [F 27 (by decide) (by decide) (by decide) (by decide)]) (S 31 (by decide) (by decide) (by decide) (by decide)) (by rw [F 1 (by decide) (by decide) (by decide) (by decide)])⟩
  · rw [S 2 (by decide) (by decide) (by decide) (by decide), w2]
    (simp only [inI, upI_e, Nat.reduceEqDiff, Nat.reduceAdd, true_and, and_true, false_and, and_false, if_true, if_false, ite_true, ite_false, reduceIte, Int.reduceEq, not_true_eq_false, not_false_eq_true, Decidable.not_not])
    rw [f1.1 1 (by decide)]
    exact fa.1.2.2.1.symm
  · rw [fX_c (h := h) (k := 9) (fun c a b => F c (by omega) (by omega) (by omega) (by omega))]
    exact H.2.1.1
  · rw [X17]
    exact oZ
  · rw [Z3, S16]
  · exact Or.inr Z3
  · intro _
    rw [X17, k1, m2 _ w4]
    exact ⟨H.1.1, rfl⟩
theorem op_restore : OpI n_X5_restore n_X6_restore [] := by
  intro d n h n0 n1 H
  have fa := H.facts
  unfold Facts at fa
  obtain ⟨oR, oE, oS, oP, oZ, mE, mR, mEa, mS, mZ⟩ := H.ok
  have gk := H.2.2.1.1
  by_cases c : h.1 0 3 = 0
  · skip
    repeat' first
      | first | exact H.m12 | exact H.rf (by decide) (by decide)
      | (with_reducible refine exI ?_)
      | (with_reducible refine exL ?_)
      | (with_reducible refine exV ?_)
      | (with_reducible apply And.intro)
      | (with_reducible refine cI_i (e_X5_restore ?_))
      | (with_reducible refine cL_i (e_X5_restore ?_))
      | (with_reducible refine cV_i (e_X5_restore ?_))
      | (with_reducible refine u_X5_restore_1 (tx_mono _ _) ?_)
      | (with_reducible refine cI_i (e_X6_restore ?_))
      | (with_reducible refine cL_i (e_X6_restore ?_))
      | (with_reducible refine cV_i (e_X6_restore ?_))
      | (with_reducible refine u_X6_restore_1 (tx_mono _ _) ?_)
      | (with_reducible apply s_X0_copyFrom)
      | (with_reducible apply s_X3_forget)
      | (with_reducible apply c_X5_refuse)
      | (with_reducible apply s_X6_carryAll)
      | (with_reducible apply c_X6_refuse)
      | exact isB1
      | exact True.intro
      | (intro _ e9; subst e9)
      | (intro c9; exfalso; first | omega | (simp only [inI, upI_e, Nat.reduceEqDiff, Nat.reduceAdd, true_and, and_true, false_and, and_false, if_true, if_false, ite_true, ite_false, reduceIte, Int.reduceEq, not_true_eq_false, not_false_eq_true, Decidable.not_not] at c9; omega))
      | (intro c9; (try simp only [inI, upI_e, Nat.reduceEqDiff, Nat.reduceAdd, true_and, and_true, false_and, and_false, if_true, if_false, ite_true, ite_false, reduceIte, Int.reduceEq, not_true_eq_false, not_false_eq_true, Decidable.not_not] at c9))
      | (with_reducible show _ ≤ _; first | omega | (simp only [inI, upI_e, Nat.reduceEqDiff, Nat.reduceAdd, true_and, and_true, false_and, and_false, if_true, if_false, ite_true, ite_false, reduceIte, Int.reduceEq, not_true_eq_false, not_false_eq_true, Decidable.not_not]; omega))
      | (with_reducible show _ < _; first | omega | (simp only [inI, upI_e, Nat.reduceEqDiff, Nat.reduceAdd, true_and, and_true, false_and, and_false, if_true, if_false, ite_true, ite_false, reduceIte, Int.reduceEq, not_true_eq_false, not_false_eq_true, Decidable.not_not]; omega))
      | (with_reducible show _ = _; first | omega | (simp only [inI, upI_e, Nat.reduceEqDiff, Nat.reduceAdd, true_and, and_true, false_and, and_false, if_true, if_false, ite_true, ite_false, reduceIte, Int.reduceEq, not_true_eq_false, not_false_eq_true, Decidable.not_not]; omega))
      | (with_reducible show _ ∧ _; first | omega | (simp only [inI, upI_e, Nat.reduceEqDiff, Nat.reduceAdd, true_and, and_true, false_and, and_false, if_true, if_false, ite_true, ite_false, reduceIte, Int.reduceEq, not_true_eq_false, not_false_eq_true, Decidable.not_not]; omega))
      | (with_reducible show _ ∨ _; first | omega | (simp only [inI, upI_e, Nat.reduceEqDiff, Nat.reduceAdd, true_and, and_true, false_and, and_false, if_true, if_false, ite_true, ite_false, reduceIte, Int.reduceEq, not_true_eq_false, not_false_eq_true, Decidable.not_not]; omega))
      | (with_reducible show inI _; first | omega | (simp only [inI, upI_e, Nat.reduceEqDiff, Nat.reduceAdd, true_and, and_true, false_and, and_false, if_true, if_false, ite_true, ite_false, reduceIte, Int.reduceEq, not_true_eq_false, not_false_eq_true, Decidable.not_not]; omega))
      | (with_reducible show ¬ _; first | omega | (simp only [inI, upI_e, Nat.reduceEqDiff, Nat.reduceAdd, true_and, and_true, false_and, and_false, if_true, if_false, ite_true, ite_false, reduceIte, Int.reduceEq, not_true_eq_false, not_false_eq_true, Decidable.not_not]; omega))
  obtain ⟨kb, ke⟩ := H.2.2.1.2.2 c
  refine cI_i (e_X5_restore ⟨fun _ => u_X5_restore_1 (tx_mono _ _) (s_X0_copyFrom isB1 isB17 (by decide) oZ H.2.1.2 (fun h1 w1 f1 => s_X3_forget ?_)), fun x => absurd c x⟩)
  refine exI ?_
  have e16 : (upI (upI h1 27 3 0) 38 12 0).1 38 16 = h.1 38 16 := by
    (simp only [inI, upI_e, Nat.reduceEqDiff, Nat.reduceAdd, true_and, and_true, false_and, and_false, if_true, if_false, ite_true, ite_false, reduceIte, Int.reduceEq, not_true_eq_false, not_false_eq_true, Decidable.not_not])
    rw [f1.1 38 (by decide)]
  refine cI_i (e_X6_restore ?_)
  intro h2 w2
  have m2 : fM h2 = fX h 1 := by
    rw [fM_c (h := h) (fun c hc => by funext j; rw [w2]; simp only [upI_e]; (repeat' rw [if_neg (by omega)]); rw [f1.1 c (by omega)]) (fun j hj => by rw [w2]; simp only [upI_e]; (repeat' rw [if_neg (by omega)]); rw [f1.1 38 (by omega)])]
    exact H.1.2
  refine ⟨fun _ => u_X6_restore_1 (tx_mono _ _) (s_give (Or.inr rfl) (by rw [m2]; exact oZ) (fun h3 k1 k2 => ?_)), fun x => absurd (by rw [w2, e16, ← gk]; exact c) x⟩
  intro h4 w4
  refine exI ?_
  have K2 : fK h2 47 = fX h 17 := by
    rw [← ke]
    refine fK_c ?_
    funext j
    rw [w2]
    simp only [upI_e]
    (repeat' rw [if_neg (by omega)])
    rw [f1.1 47 (by omega)]
  have F : ∀ c, 8 < c → ¬ (38 ≤ c ∧ c ≤ 44) → c ≠ 61 → c ≠ 27 → h4.1 c = h.1 c := by
    intro c c1 c2 c3 c4
    rw [w4]
    funext j
    simp only [upI_e]
    (repeat' rw [if_neg (by omega)])
    rw [k2.1 c (by omega), w2]
    simp only [upI_e]
    (repeat' rw [if_neg (by omega)])
    rw [f1.1 c (by omega)]
  have Z : ∀ j, h4.1 0 j = h.1 0 j := by
    intro j
    rw [w4]
    simp only [upI_e]
    (repeat' rw [if_neg (by omega)])
    rw [k2.1 0 (by omega), w2]
    simp only [upI_e]
    (repeat' rw [if_neg (by omega)])
    rw [f1.1 0 (by omega)]
  have S : ∀ j, (j < 0 ∨ 5 < j) → j ≠ 39 → j ≠ 12 → j ≠ 17 → j ≠ 18 → j ≠ 31 → h4.1 38 j = h.1 38 j := by
    intro j c1 c2 c3 c4 c5 c6
    rw [w4]
    simp only [upI_e]
    (repeat' rw [if_neg (by omega)])
    rw [k2.2.1 j c1 c2 c4 c5, w2]
    simp only [upI_e]
    (repeat' rw [if_neg (by omega)])
    rw [f1.1 38 (by omega)]
  have X1 : fX h4 1 = fX h 17 := by
    rw [← w1]
    refine fX_c (fun c a b => ?_)
    rw [w4]
    funext j
    simp only [upI_e]
    (repeat' rw [if_neg (by omega)])
    rw [k2.1 c (by omega), w2]
    simp only [upI_e]
    (repeat' rw [if_neg (by omega)])
  have M4 : fM h4 = fX h 17 := by
    rw [fM_c (h := h3) (fun c hc => by rw [w4]; funext j; (simp only [upI_e]; repeat' rw [if_neg (by omega)])) (fun j hj => by rw [w4]; (simp only [upI_e]; repeat' rw [if_neg (by omega)])), k1, K2]
  have B4 : IB h4 := ⟨by rw [X1]; exact kb, by rw [X1, M4]⟩
  refine ⟨?_, B4, H.2.1.c (fun c hc => F c (by omega) (by omega) (by omega) (by omega)), H.2.2.1.c (fun c hc => F c (by omega) (by omega) (by omega) (by omega)) (Z 3) (S 16 (by decide) (by decide) (by decide) (by decide) (by decide) (by decide)), H.2.2.2.1.c (fun c hc => F c (by omega) (by omega) (by omega) (by omega)) (Z 7) (S 43 (by decide) (by decide) (by decide) (by decide) (by decide) (by decide)), H.2.2.2.2.1.c (fun c hc => F c (by omega) (by omega) (by omega) (by omega)) (by rw [F 25 (by decide) (by decide) (by decide) (by decide)]) (S 21 (by decide) (by decide) (by decide) (by decide) (by decide) (by decide)), H.2.2.2.2.2.1.c (fun c hc => F c (by omega) (by omega) (by omega) (by omega)), IP.z (h := h) ?_ ?_⟩
  · have a1 : h4.1 38 2 = (fM h4).1 2 := rfl
    have a2 : (upI h1 27 3 0).1 1 8 = (fX h1 1).1 2 := by (simp only [inI, upI_e, Nat.reduceEqDiff, Nat.reduceAdd, true_and, and_true, false_and, and_false, if_true, if_false, ite_true, ite_false, reduceIte, Int.reduceEq, not_true_eq_false, not_false_eq_true, Decidable.not_not]); rfl
    rw [a1, a2, M4, w1]
  · rw [w4]
    (simp only [inI, upI_e, Nat.reduceEqDiff, Nat.reduceAdd, true_and, and_true, false_and, and_false, if_true, if_false, ite_true, ite_false, reduceIte, Int.reduceEq, not_true_eq_false, not_false_eq_true, Decidable.not_not])
    rw [k2.1 27 (by decide), w2]
    (simp only [inI, upI_e, Nat.reduceEqDiff, Nat.reduceAdd, true_and, and_true, false_and, and_false, if_true, if_false, ite_true, ite_false, reduceIte, Int.reduceEq, not_true_eq_false, not_false_eq_true, Decidable.not_not])
  · rw [w4]
    (simp only [inI, upI_e, Nat.reduceEqDiff, Nat.reduceAdd, true_and, and_true, false_and, and_false, if_true, if_false, ite_true, ite_false, reduceIte, Int.reduceEq, not_true_eq_false, not_false_eq_true, Decidable.not_not])
