/-! ===== supper, behind, best ===== -/
def bitsB (b : BD) : Int := ((bitsN (fun e => isP b (e : Int)) (b.1 1).toNat : Nat) : Int)
/-- ends both: same answer, and all holds again -/
theorem fin2 {n : Int} {h h1 h2 : AH} {z z' : Int} (H : Inv n h) (F : Fx h h1) (G : Gm (fX h 1) h1 h2) (e : fM h2 = fX h 1) (ez : z = z') : z = z' ∧ Inv (n + 1) h2 := ⟨ez, H.xm F G e⟩
theorem op_supper {a : Int} : OpI n_X5_supper n_X6_supper [vI a] := by
  intro d n h n0 n1 H
  have fa := H.facts
  unfold Facts at fa
  obtain ⟨oR, oE, oS, oP, oZ, mE, mR, mEa, mS, mZ⟩ := H.ok
  have gn := H.next
  by_cases c : (a < 0 ∨ 2 < a) ∨ h.1 1 3 = 0
  · skip
    repeat' first
      | first | exact H.m12 | exact H.rf (by decide) (by decide)
      | (with_reducible refine exI ?_)
      | (with_reducible refine exL ?_)
      | (with_reducible refine exV ?_)
      | (with_reducible apply And.intro)
      | (with_reducible refine cI_i (e_X5_supper ?_))
      | (with_reducible refine cL_i (e_X5_supper ?_))
      | (with_reducible refine cV_i (e_X5_supper ?_))
      | (with_reducible refine u_X5_supper_1 (tx_mono _ _) ?_)
      | (with_reducible refine u_X5_supper_2 (tx_mono _ _) ?_)
      | (with_reducible refine u_X5_supper_3 (tx_mono _ _) ?_)
      | (with_reducible refine u_X5_supper_4 (tx_mono _ _) ?_)
      | (with_reducible refine u_X5_supper_5 (tx_mono _ _) ?_)
      | (with_reducible refine u_X5_supper_6 (tx_mono _ _) ?_)
      | (with_reducible refine cI_i (e_X6_supper ?_))
      | (with_reducible refine cL_i (e_X6_supper ?_))
      | (with_reducible refine cV_i (e_X6_supper ?_))
      | (with_reducible refine u_X6_supper_1 (tx_mono _ _) ?_)
      | (with_reducible refine u_X6_supper_2 (tx_mono _ _) ?_)
      | (with_reducible refine u_X6_supper_3 (tx_mono _ _) ?_)
      | (with_reducible refine u_X6_supper_4 (tx_mono _ _) ?_)
      | (with_reducible refine u_X6_supper_5 (tx_mono _ _) ?_)
      | (with_reducible refine u_X6_supper_6 (tx_mono _ _) ?_)
      | (with_reducible refine u_X6_supper_7 (tx_mono _ _) ?_)
      | (with_reducible apply s_X0_copyFrom)
      | (with_reducible apply s_X0_eatUp)
      | (with_reducible apply s_X0_pleasedBits)
      | (with_reducible apply c_X5_refuse)
      | (with_reducible apply s_X6_haveBits)
      | (with_reducible apply c_X6_in)
      | (with_reducible apply s_X6_open)
      | (with_reducible apply s_X6_putBack)
      | (with_reducible apply c_X6_refuse)
      | (with_reducible apply s_X6_supperNow)
      | exact isB1
      | exact True.intro
      | (intro _ e9; subst e9)
      | (intro c9; exfalso; first | omega | (simp only [inI, upI_e, Nat.reduceEqDiff, Nat.reduceAdd, true_and, and_true, false_and, and_false, if_true, if_false, ite_true, ite_false, reduceIte, Int.reduceEq, not_true_eq_false, not_false_eq_true, Decidable.not_not] at c9; omega))
      | (intro c9; (try simp only [inI, upI_e, Nat.reduceEqDiff, Nat.reduceAdd, true_and, and_true, false_and, and_false, if_true, if_false, ite_true, ite_false, reduceIte, Int.reduceEq, not_true_eq_false, not_false_eq_true, Decidable.not_not] at c9))
      | (with_reducible show _ ≤ _; first | omega | (simp only [inI, upI_e, Nat.reduceEqDiff, Nat.reduceAdd, true_and, and_true, false_and, and_false, if_true, if_false, ite_true, ite_false, reduceIte, Int.reduceEq, not_true_eq_false, not_false_eq_true, Decidable.not_not]; omega))
      | (with_reducible show _ < _; first | omega | (simp only [inI, upI_e, Nat.reduceEqDiff, Nat.reduceAdd, true_and, and_true, false_and, and_false, if_true, if_false, ite_true, ite_false, reduceIte, Int.reduceEq, not_true_eq_false, not_false_eq_true, Decidable.not_not]; omega))
      | (with_reducible show _ = _; first | omega | (simp only [inI, upI_e, Nat.reduceEqDiff, Nat.reduceAdd, true_and, and_true, false_and, and_false, if_true, if_false, ite_true, ite_false, reduceIte, Int.reduceEq, not_true_eq_false, not_false_eq_true, Decidable.not_not]; omega))
      | (with_reducible show _ ∧ _; first | omega | (simp only [inI, upI_e, Nat.reduceEqDiff, Nat.reduceAdd, true_and, and_true, false_and, and_false, if_true, if_false, ite_true, ite_false, reduceIte, Int.reduceEq, not_true_eq_false, not_false_eq_true, Decidable.not_not]; omega))
      | (with_reducible show _ ∨ _; first | omega | (simp only [inI, upI_e, Nat.reduceEqDiff, Nat.reduceAdd, true_and, and_true, false_and, and_false, if_true, if_false, ite_true, ite_false, reduceIte, Int.reduceEq, not_true_eq_false, not_false_eq_true, Decidable.not_not]; omega))
      | (with_reducible show inI _; first | omega | (simp only [inI, upI_e, Nat.reduceEqDiff, Nat.reduceAdd, true_and, and_true, false_and, and_false, if_true, if_false, ite_true, ite_false, reduceIte, Int.reduceEq, not_true_eq_false, not_false_eq_true, Decidable.not_not]; omega))
      | (with_reducible show ¬ _; first | omega | (simp only [inI, upI_e, Nat.reduceEqDiff, Nat.reduceAdd, true_and, and_true, false_and, and_false, if_true, if_false, ite_true, ite_false, reduceIte, Int.reduceEq, not_true_eq_false, not_false_eq_true, Decidable.not_not]; omega))
  have hn : (fX h 1).1 5 < (fX h 1).1 1 := by show h.1 1 11 < h.1 1 3; omega
  have sk := supB_ok 100 0 _ H.1.1 hn
  have x : ∀ K : Int → AH → Prop, (∀ h1, Fx h h1 → K (if a = 0 then (supB 100 0 (fX h 1)).1 else if a = 1 then (supB 100 0 (fX h 1)).2.1 2 else bitsB (supB 100 0 (fX h 1)).2) h1) → cI (tx mt (d + 30)) n_X5_supper [vR 0, vI a] h K := by
    intro K q
    refine cI_i (e_X5_supper ⟨fun _ => by omega, fun _ => ⟨fun _ => u_X5_supper_2 (tx_mono _ _) ⟨fun _ => u_X5_supper_3 (tx_mono _ _) (sx_copy (Fx.rf H.2.1.1) oZ (fun h1 x1 F1 => sx_eat F1 (by rw [x1]; exact H.1.1) (by rw [x1]; exact hn) (fun h2 x2 F2 => ?_))), fun c2 => by omega⟩, fun _ => by omega⟩⟩)
    rw [x1] at x2 ⊢
    have q2 := q h2 F2
    refine ⟨fun c1 => u_X5_supper_4 (tx_mono _ _) ⟨fun c2 => u_X5_supper_5 (tx_mono _ _) (s_X0_pleasedBits isB9 (by rw [x2]; exact sk.1.1) (by rw [x2]; exact sk.1.2.1) (u_X5_supper_6 (tx_mono _ _) (exI ?_))), fun c2 => u_X5_supper_6 (tx_mono _ _) (exI ?_)⟩, fun c1 => exI ?_⟩
    · rw [if_neg c1, if_neg c2] at q2
      rw [x2]
      exact q2
    · rw [if_neg c1, if_pos (by omega)] at q2
      rw [show h2.1 9 8 = (fX h2 9).1 2 from rfl, x2]
      exact q2
    · rw [if_pos (by omega)] at q2
      exact q2
  refine x _ (fun h1 F1 => ?_)
  have a1 : (upI h1 38 12 0).1 38 1 = h.1 38 1 := by simp only [upI_e]; rw [if_neg (by omega), F1.1 38 (by omega)]
  refine cI_i (e_X6_supper ?_)
  intro h2 w2
  refine c_X6_in (fun _ => ⟨fun y => absurd y (by decide), fun _ => ⟨fun _ => u_X6_supper_4 (tx_mono _ _) ?_, fun y => absurd (by rw [w2]; omega) y⟩⟩) (fun y => by omega)
  rw [w2]
  refine sm_open0 H F1 (fun h3 m3 G3 => sm_eat G3 (by rw [m3]; exact H.1.1) (by rw [m3]; exact hn) (fun h4 m4 G4 => ?_))
  rw [m3] at m4 ⊢
  refine ⟨fun c1 => u_X6_supper_5 (tx_mono _ _) ⟨fun c2 => u_X6_supper_6 (tx_mono _ _) (s_X6_haveBits (by rw [m4]; exact sk.1.1) (by rw [m4]; exact sk.1.2.1) (u_X6_supper_7 (tx_mono _ _) (sm_put G4 oZ (fun h5 m5 G5 => exI ?_)))), fun c2 => u_X6_supper_7 (tx_mono _ _) (sm_put G4 oZ (fun h5 m5 G5 => exI ?_))⟩, fun c1 => u_X6_supper_7 (tx_mono _ _) (sm_put G4 oZ (fun h5 m5 G5 => exI ?_))⟩
  · rw [if_neg c1, if_neg c2]
    exact fin2 H F1 G5 m5 (by rw [m4]; rfl)
  · rw [if_neg c1, if_pos (by omega)]
    exact fin2 H F1 G5 m5 (by rw [show h4.1 38 2 = (fM h4).1 2 from rfl, m4])
  · rw [if_pos (by omega)]
    exact fin2 H F1 G5 m5 rfl
theorem Fx.e {n : Int} {h h1 : AH} (H : Inv n h) (F : Fx h h1) : (upI h1 38 12 0).1 38 1 = h.1 1 3 ∧ (upI h1 38 12 0).1 38 0 = h.1 1 0 ∧ (upI h1 38 12 0).1 38 43 = h.1 0 7 := by
  have a : ∀ j, j ≠ 12 → (upI h1 38 12 0).1 38 j = h.1 38 j := fun j hj => by simp only [upI_e]; rw [if_neg (by omega), F.1 38 (by omega)]
  have f := H.facts
  unfold Facts at f
  rw [a 1 (by decide), a 0 (by decide), a 43 (by decide)]
  omega
theorem op_behind {a : Int} : OpI n_X5_behind n_X6_behind [vI a] := by
  intro d n h n0 n1 H
  have fa := H.facts
  unfold Facts at fa
  obtain ⟨oR, oE, oS, oP, oZ, mE, mR, mEa, mS, mZ⟩ := H.ok
  have gn := H.next
  by_cases c : a < 0 ∨ h.1 1 3 ≤ a
  · skip
    repeat' first
      | first | exact H.m12 | exact H.rf (by decide) (by decide)
      | (with_reducible refine exI ?_)
      | (with_reducible refine exL ?_)
      | (with_reducible refine exV ?_)
      | (with_reducible apply And.intro)
      | (with_reducible refine cI_i (e_X5_behind ?_))
      | (with_reducible refine cL_i (e_X5_behind ?_))
      | (with_reducible refine cV_i (e_X5_behind ?_))
      | (with_reducible refine u_X5_behind_1 (tx_mono _ _) ?_)
      | (with_reducible refine cI_i (e_X6_behind ?_))
      | (with_reducible refine cL_i (e_X6_behind ?_))
      | (with_reducible refine cV_i (e_X6_behind ?_))
      | (with_reducible refine u_X6_behind_1 (tx_mono _ _) ?_)
      | (with_reducible apply s_X0_copyFrom)
      | (with_reducible apply s_X0_eatUp)
      | (with_reducible apply c_X0_hasEater)
      | (with_reducible apply c_X5_refuse)
      | (with_reducible apply c_X6_isEater)
      | (with_reducible apply s_X6_open)
      | (with_reducible apply s_X6_putBack)
      | (with_reducible apply c_X6_refuse)
      | (with_reducible apply s_X6_supperNow)
      | exact isB1
      | exact True.intro
      | (intro _ e9; subst e9)
      | (intro c9; exfalso; first | omega | (simp only [inI, upI_e, Nat.reduceEqDiff, Nat.reduceAdd, true_and, and_true, false_and, and_false, if_true, if_false, ite_true, ite_false, reduceIte, Int.reduceEq, not_true_eq_false, not_false_eq_true, Decidable.not_not] at c9; omega))
      | (intro c9; (try simp only [inI, upI_e, Nat.reduceEqDiff, Nat.reduceAdd, true_and, and_true, false_and, and_false, if_true, if_false, ite_true, ite_false, reduceIte, Int.reduceEq, not_true_eq_false, not_false_eq_true, Decidable.not_not] at c9))
      | (with_reducible show _ ≤ _; first | omega | (simp only [inI, upI_e, Nat.reduceEqDiff, Nat.reduceAdd, true_and, and_true, false_and, and_false, if_true, if_false, ite_true, ite_false, reduceIte, Int.reduceEq, not_true_eq_false, not_false_eq_true, Decidable.not_not]; omega))
      | (with_reducible show _ < _; first | omega | (simp only [inI, upI_e, Nat.reduceEqDiff, Nat.reduceAdd, true_and, and_true, false_and, and_false, if_true, if_false, ite_true, ite_false, reduceIte, Int.reduceEq, not_true_eq_false, not_false_eq_true, Decidable.not_not]; omega))
      | (with_reducible show _ = _; first | omega | (simp only [inI, upI_e, Nat.reduceEqDiff, Nat.reduceAdd, true_and, and_true, false_and, and_false, if_true, if_false, ite_true, ite_false, reduceIte, Int.reduceEq, not_true_eq_false, not_false_eq_true, Decidable.not_not]; omega))
      | (with_reducible show _ ∧ _; first | omega | (simp only [inI, upI_e, Nat.reduceEqDiff, Nat.reduceAdd, true_and, and_true, false_and, and_false, if_true, if_false, ite_true, ite_false, reduceIte, Int.reduceEq, not_true_eq_false, not_false_eq_true, Decidable.not_not]; omega))
      | (with_reducible show _ ∨ _; first | omega | (simp only [inI, upI_e, Nat.reduceEqDiff, Nat.reduceAdd, true_and, and_true, false_and, and_false, if_true, if_false, ite_true, ite_false, reduceIte, Int.reduceEq, not_true_eq_false, not_false_eq_true, Decidable.not_not]; omega))
      | (with_reducible show inI _; first | omega | (simp only [inI, upI_e, Nat.reduceEqDiff, Nat.reduceAdd, true_and, and_true, false_and, and_false, if_true, if_false, ite_true, ite_false, reduceIte, Int.reduceEq, not_true_eq_false, not_false_eq_true, Decidable.not_not]; omega))
      | (with_reducible show ¬ _; first | omega | (simp only [inI, upI_e, Nat.reduceEqDiff, Nat.reduceAdd, true_and, and_true, false_and, and_false, if_true, if_false, ite_true, ite_false, reduceIte, Int.reduceEq, not_true_eq_false, not_false_eq_true, Decidable.not_not]; omega))
  have hn : (fX h 1).1 5 < (fX h 1).1 1 := by show h.1 1 11 < h.1 1 3; omega
  refine cI_i (e_X5_behind (c_X0_hasEater isB1 (fun _ => ⟨fun _ => u_X5_behind_1 (tx_mono _ _) (sx_copy (Fx.rf H.2.1.1) oZ (fun h1 x1 F1 => sx_eat F1 (by rw [x1]; exact H.1.1) (by rw [x1]; exact hn) (fun h2 x2 F2 => ⟨by omega, by omega, exI ?_⟩))), fun y => absurd (by decide) y⟩) (fun _ => by omega)))
  have a1 := (F2.e H).1
  refine cI_i (e_X6_behind ?_)
  intro h3 w3
  refine c_X6_isEater (by rw [w3]; omega) (fun _ => ⟨fun _ => u_X6_behind_1 (tx_mono _ _) ?_, fun y => absurd (by decide) y⟩) (fun y => by rw [w3] at y; omega)
  rw [w3]
  refine sm_open0 H F2 (fun h4 m4 G4 => sm_eat G4 (by rw [m4]; exact H.1.1) (by rw [m4]; exact hn) (fun h5 m5 G5 => ⟨by omega, by omega, sm_put G5 oZ (fun h6 m6 G6 => exI (fin2 H F2 G6 m6 ?_))⟩))
  rw [m4] at m5
  rw [x1] at x2
  rw [show h2.1 15 a = (fX h2 9).2 6 a from rfl, show h5.1 44 a = (fM h5).2 6 a from rfl, x2, m5]
