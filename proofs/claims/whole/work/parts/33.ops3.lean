/-! ===== eaters, settings ===== -/
theorem op_eater {a b : Int} : OpI n_X5_eater n_X6_eater [vI a, vI b] := by
  intro d n h n0 n1 H
  have fa := H.facts
  unfold Facts at fa
  obtain ⟨oR, oE, oS, oP, oZ, mE, mR, mEa, mS, mZ⟩ := H.ok
  have ge := H.1.get.2.1 a
  have ga := H.1.arr a
  have f1 : (fM (upI h 38 12 0)).1 1 = h.1 1 3 := by rw [mE]; rfl
  have f2 : b2i (isP (fM (upI h 38 12 0)) a) = b2i (isP (fX h 1) a) := by rw [mE]
  repeat' first
    | first | exact H.m12 | exact H.rf (by decide) (by decide)
    | (with_reducible refine exI ?_)
    | (with_reducible refine exL ?_)
    | (with_reducible refine exV ?_)
    | (with_reducible apply And.intro)
    | (with_reducible refine cI_i (e_X5_eater ?_))
    | (with_reducible refine cL_i (e_X5_eater ?_))
    | (with_reducible refine cV_i (e_X5_eater ?_))
    | (with_reducible refine u_X5_eater_1 (tx_mono _ _) ?_)
    | (with_reducible refine u_X5_eater_2 (tx_mono _ _) ?_)
    | (with_reducible refine u_X5_eater_3 (tx_mono _ _) ?_)
    | (with_reducible refine u_X5_eater_4 (tx_mono _ _) ?_)
    | (with_reducible refine u_X5_eater_5 (tx_mono _ _) ?_)
    | (with_reducible refine u_X5_eater_6 (tx_mono _ _) ?_)
    | (with_reducible refine u_X5_eater_7 (tx_mono _ _) ?_)
    | (with_reducible refine u_X5_eater_8 (tx_mono _ _) ?_)
    | (with_reducible refine u_X5_eater_9 (tx_mono _ _) ?_)
    | (with_reducible refine u_X5_eater_10 (tx_mono _ _) ?_)
    | (with_reducible refine cI_i (e_X6_eater ?_))
    | (with_reducible refine cL_i (e_X6_eater ?_))
    | (with_reducible refine cV_i (e_X6_eater ?_))
    | (with_reducible refine u_X6_eater_1 (tx_mono _ _) ?_)
    | (with_reducible refine u_X6_eater_2 (tx_mono _ _) ?_)
    | (with_reducible refine u_X6_eater_3 (tx_mono _ _) ?_)
    | (with_reducible refine u_X6_eater_4 (tx_mono _ _) ?_)
    | (with_reducible refine u_X6_eater_5 (tx_mono _ _) ?_)
    | (with_reducible refine u_X6_eater_6 (tx_mono _ _) ?_)
    | (with_reducible refine u_X6_eater_7 (tx_mono _ _) ?_)
    | (with_reducible refine u_X6_eater_8 (tx_mono _ _) ?_)
    | (with_reducible refine u_X6_eater_9 (tx_mono _ _) ?_)
    | (with_reducible refine u_X6_eater_10 (tx_mono _ _) ?_)
    | (with_reducible refine u_X6_eater_11 (tx_mono _ _) ?_)
    | (with_reducible refine u_X6_eater_12 (tx_mono _ _) ?_)
    | (with_reducible apply c_X0_hasEater)
    | (with_reducible apply s_X0_isPleased)
    | (with_reducible apply s_X0_wordTo)
    | (with_reducible apply c_X5_refuse)
    | (with_reducible apply s_X6_has)
    | (with_reducible apply c_X6_in)
    | (with_reducible apply c_X6_isEater)
    | (with_reducible apply c_X6_refuse)
    | (with_reducible apply s_X6_wordTo)
    | assumption
    | exact isB1
    | exact True.intro
    | (intro _ e9; subst e9)
    | (intro c9; exfalso; first | omega | (simp only [inI, upI_e, Nat.reduceEqDiff, Nat.reduceAdd, true_and, and_true, false_and, and_false, if_true, if_false, ite_true, ite_false, reduceIte, Int.reduceEq, not_true_eq_false, not_false_eq_true, Decidable.not_not] at c9; omega))
    | (intro c9; (try simp only [inI, upI_e, Nat.reduceEqDiff, Nat.reduceAdd, true_and, and_true, false_and, and_false, if_true, if_false, ite_true, ite_false, reduceIte, Int.reduceEq, not_true_eq_false, not_false_eq_true, Decidable.not_not] at c9))
    | (with_reducible show _ ≤ _; first | omega | (simp only [inI, upI_e, Nat.reduceEqDiff, Nat.reduceAdd, true_and, and_true, false_and, and_false, if_true, if_false, ite_true, ite_false, reduceIte, Int.reduceEq, not_true_eq_false, not_false_eq_true, Decidable.not_not]; omega))
    | (with_reducible show _ < _; first | omega | (simp only [inI, upI_e, Nat.reduceEqDiff, Nat.reduceAdd, true_and, and_true, false_and, and_false, if_true, if_false, ite_true, ite_false, reduceIte, Int.reduceEq, not_true_eq_false, not_false_eq_true, Decidable.not_not]; omega))
    | (with_reducible show _ = _; first | omega | (simp only [inI, upI_e, Nat.reduceEqDiff, Nat.reduceAdd, true_and, and_true, false_and, and_false, if_true, if_false, ite_true, ite_false, reduceIte, Int.reduceEq, not_true_eq_false, not_false_eq_true, Decidable.not_not]; omega))
    | (with_reducible show _ ∧ _; first | omega | (simp only [inI, upI_e, Nat.reduceEqDiff, Nat.reduceAdd, true_and, and_true, false_and, and_false, if_true, if_false, ite_true, ite_false, reduceIte, Int.reduceEq, not_true_eq_false, not_false_eq_true, Decidable.not_not]; omega))
    | (with_reducible show _ ∨ _; first | omega | (simp only [inI, upI_e, Nat.reduceEqDiff, Nat.reduceAdd, true_and, and_true, false_and, and_false, if_true, if_false, ite_true, ite_false, reduceIte, Int.reduceEq, not_true_eq_false, not_false_eq_true, Decidable.not_not]; omega))
    | (with_reducible show inI _; first | omega | (simp only [inI, upI_e, Nat.reduceEqDiff, Nat.reduceAdd, true_and, and_true, false_and, and_false, if_true, if_false, ite_true, ite_false, reduceIte, Int.reduceEq, not_true_eq_false, not_false_eq_true, Decidable.not_not]; omega))
    | (with_reducible show ¬ _; first | omega | (simp only [inI, upI_e, Nat.reduceEqDiff, Nat.reduceAdd, true_and, and_true, false_and, and_false, if_true, if_false, ite_true, ite_false, reduceIte, Int.reduceEq, not_true_eq_false, not_false_eq_true, Decidable.not_not]; omega))
  rw [mE]
  (simp only [inI, upI_e, Nat.reduceEqDiff, Nat.reduceAdd, true_and, and_true, false_and, and_false, if_true, if_false, ite_true, ite_false, reduceIte, Int.reduceEq, not_true_eq_false, not_false_eq_true, Decidable.not_not])
  rw [ga.2.2.2.2.2.1]
theorem op_lay {a b c : Int} : OpI n_X5_lay n_X6_lay [vI a, vI b, vI c] := by
  intro d n h n0 n1 H
  have fa := H.facts
  unfold Facts at fa
  obtain ⟨oR, oE, oS, oP, oZ, mE, mR, mEa, mS, mZ⟩ := H.ok
  have ga := H.1.arr a
  repeat' first
    | first | exact H.m12 | exact H.rf (by decide) (by decide)
    | (with_reducible refine exI ?_)
    | (with_reducible refine exL ?_)
    | (with_reducible refine exV ?_)
    | (with_reducible apply And.intro)
    | (with_reducible refine cI_i (e_X5_lay ?_))
    | (with_reducible refine cL_i (e_X5_lay ?_))
    | (with_reducible refine cV_i (e_X5_lay ?_))
    | (with_reducible refine u_X5_lay_1 (tx_mono _ _) ?_)
    | (with_reducible refine u_X5_lay_2 (tx_mono _ _) ?_)
    | (with_reducible refine u_X5_lay_3 (tx_mono _ _) ?_)
    | (with_reducible refine u_X5_lay_4 (tx_mono _ _) ?_)
    | (with_reducible refine u_X5_lay_5 (tx_mono _ _) ?_)
    | (with_reducible refine u_X5_lay_6 (tx_mono _ _) ?_)
    | (with_reducible refine u_X5_lay_7 (tx_mono _ _) ?_)
    | (with_reducible refine u_X5_lay_8 (tx_mono _ _) ?_)
    | (with_reducible refine cI_i (e_X6_lay ?_))
    | (with_reducible refine cL_i (e_X6_lay ?_))
    | (with_reducible refine cV_i (e_X6_lay ?_))
    | (with_reducible refine u_X6_lay_1 (tx_mono _ _) ?_)
    | (with_reducible refine u_X6_lay_2 (tx_mono _ _) ?_)
    | (with_reducible refine u_X6_lay_3 (tx_mono _ _) ?_)
    | (with_reducible refine u_X6_lay_4 (tx_mono _ _) ?_)
    | (with_reducible refine u_X6_lay_5 (tx_mono _ _) ?_)
    | (with_reducible refine u_X6_lay_6 (tx_mono _ _) ?_)
    | (with_reducible refine u_X6_lay_7 (tx_mono _ _) ?_)
    | (with_reducible refine u_X6_lay_8 (tx_mono _ _) ?_)
    | (with_reducible refine u_X6_lay_9 (tx_mono _ _) ?_)
    | (with_reducible refine u_X6_lay_10 (tx_mono _ _) ?_)
    | (with_reducible refine u_X6_lay_11 (tx_mono _ _) ?_)
    | (with_reducible refine u_X6_lay_12 (tx_mono _ _) ?_)
    | (with_reducible apply c_X0_hasEater)
    | (with_reducible apply s_X3_forget)
    | (with_reducible apply c_X5_refuse)
    | (with_reducible apply c_X6_in)
    | (with_reducible apply c_X6_isEater)
    | (with_reducible apply c_X6_refuse)
    | (with_reducible apply c_X6_wrongNumber)
    | assumption
    | (simp only [sh_6, sh_7]; omega)
    | (simp only [sh_6, sh_7])
    | exact isB1
    | exact True.intro
    | (intro _ e9; subst e9)
    | (intro c9; exfalso; first | omega | (simp only [inI, upI_e, Nat.reduceEqDiff, Nat.reduceAdd, true_and, and_true, false_and, and_false, if_true, if_false, ite_true, ite_false, reduceIte, Int.reduceEq, not_true_eq_false, not_false_eq_true, Decidable.not_not] at c9; omega))
    | (intro c9; (try simp only [inI, upI_e, Nat.reduceEqDiff, Nat.reduceAdd, true_and, and_true, false_and, and_false, if_true, if_false, ite_true, ite_false, reduceIte, Int.reduceEq, not_true_eq_false, not_false_eq_true, Decidable.not_not] at c9))
    | (with_reducible show _ ≤ _; first | omega | (simp only [inI, upI_e, Nat.reduceEqDiff, Nat.reduceAdd, true_and, and_true, false_and, and_false, if_true, if_false, ite_true, ite_false, reduceIte, Int.reduceEq, not_true_eq_false, not_false_eq_true, Decidable.not_not]; omega))
    | (with_reducible show _ < _; first | omega | (simp only [inI, upI_e, Nat.reduceEqDiff, Nat.reduceAdd, true_and, and_true, false_and, and_false, if_true, if_false, ite_true, ite_false, reduceIte, Int.reduceEq, not_true_eq_false, not_false_eq_true, Decidable.not_not]; omega))
    | (with_reducible show _ = _; first | omega | (simp only [inI, upI_e, Nat.reduceEqDiff, Nat.reduceAdd, true_and, and_true, false_and, and_false, if_true, if_false, ite_true, ite_false, reduceIte, Int.reduceEq, not_true_eq_false, not_false_eq_true, Decidable.not_not]; omega))
    | (with_reducible show _ ∧ _; first | omega | (simp only [inI, upI_e, Nat.reduceEqDiff, Nat.reduceAdd, true_and, and_true, false_and, and_false, if_true, if_false, ite_true, ite_false, reduceIte, Int.reduceEq, not_true_eq_false, not_false_eq_true, Decidable.not_not]; omega))
    | (with_reducible show _ ∨ _; first | omega | (simp only [inI, upI_e, Nat.reduceEqDiff, Nat.reduceAdd, true_and, and_true, false_and, and_false, if_true, if_false, ite_true, ite_false, reduceIte, Int.reduceEq, not_true_eq_false, not_false_eq_true, Decidable.not_not]; omega))
    | (with_reducible show inI _; first | omega | (simp only [inI, upI_e, Nat.reduceEqDiff, Nat.reduceAdd, true_and, and_true, false_and, and_false, if_true, if_false, ite_true, ite_false, reduceIte, Int.reduceEq, not_true_eq_false, not_false_eq_true, Decidable.not_not]; omega))
    | (with_reducible show ¬ _; first | omega | (simp only [inI, upI_e, Nat.reduceEqDiff, Nat.reduceAdd, true_and, and_true, false_and, and_false, if_true, if_false, ite_true, ite_false, reduceIte, Int.reduceEq, not_true_eq_false, not_false_eq_true, Decidable.not_not]; omega))
  · (simp only [inI, upI_e, Nat.reduceEqDiff, Nat.reduceAdd, true_and, and_true, false_and, and_false, if_true, if_false, ite_true, ite_false, reduceIte, Int.reduceEq, not_true_eq_false, not_false_eq_true, Decidable.not_not])
    refine ⟨?_, H.2.1.c (fun c hc => by (funext j; simp only [upI_e]; repeat' rw [if_neg (by omega)])), H.2.2.1.c (fun c hc => by (funext j; simp only [upI_e]; repeat' rw [if_neg (by omega)])) (by simp only [upI_e]; repeat' rw [if_neg (by omega)]) (by simp only [upI_e]; repeat' rw [if_neg (by omega)]), H.2.2.2.1.c (fun c hc => by (funext j; simp only [upI_e]; repeat' rw [if_neg (by omega)])) (by simp only [upI_e]; repeat' rw [if_neg (by omega)]) (by simp only [upI_e]; repeat' rw [if_neg (by omega)]), H.2.2.2.2.1.c (fun c hc => by (funext j; simp only [upI_e]; repeat' rw [if_neg (by omega)])) (by simp only [upI_e]; repeat' rw [if_neg (by omega)]) (by simp only [upI_e]; repeat' rw [if_neg (by omega)]), H.2.2.2.2.2.1.c (fun c hc => by (funext j; simp only [upI_e]; repeat' rw [if_neg (by omega)])), IP.z (h := h) (by (simp only [inI, upI_e, Nat.reduceEqDiff, Nat.reduceAdd, true_and, and_true, false_and, and_false, if_true, if_false, ite_true, ite_false, reduceIte, Int.reduceEq, not_true_eq_false, not_false_eq_true, Decidable.not_not])) (by (simp only [inI, upI_e, Nat.reduceEqDiff, Nat.reduceAdd, true_and, and_true, false_and, and_false, if_true, if_false, ite_true, ite_false, reduceIte, Int.reduceEq, not_true_eq_false, not_false_eq_true, Decidable.not_not]))⟩
    refine IB.put (by have := H.next; (simp only [inI, upI_e, Nat.reduceEqDiff, Nat.reduceAdd, true_and, and_true, false_and, and_false, if_true, if_false, ite_true, ite_false, reduceIte, Int.reduceEq, not_true_eq_false, not_false_eq_true, Decidable.not_not]); omega) (by have := H.next; (simp only [inI, upI_e, Nat.reduceEqDiff, Nat.reduceAdd, true_and, and_true, false_and, and_false, if_true, if_false, ite_true, ite_false, reduceIte, Int.reduceEq, not_true_eq_false, not_false_eq_true, Decidable.not_not]); omega) (fun i => ?_) (fun i c1 c2 => ?_) (fun i c1 c2 => ?_) (fun i c1 c2 => ?_) (fun i c => ?_)
    · have x := H.1.arr i
      (simp only [inI, upI_e, Nat.reduceEqDiff, Nat.reduceAdd, true_and, and_true, false_and, and_false, if_true, if_false, ite_true, ite_false, reduceIte, Int.reduceEq, not_true_eq_false, not_false_eq_true, Decidable.not_not] at *)
      refine ⟨?_, ?_, ?_, ?_, ?_, ?_, ?_⟩ <;> (repeat' split) <;> (try subst_vars) <;> omega
    · have x := H.1.get.1 i
      (simp only [inI, upI_e, Nat.reduceEqDiff, Nat.reduceAdd, true_and, and_true, false_and, and_false, if_true, if_false, ite_true, ite_false, reduceIte, Int.reduceEq, not_true_eq_false, not_false_eq_true, Decidable.not_not] at *)
      (repeat' split) <;> (try subst_vars) <;> omega
    · have x := H.1.get.2.1 i
      (simp only [inI, upI_e, Nat.reduceEqDiff, Nat.reduceAdd, true_and, and_true, false_and, and_false, if_true, if_false, ite_true, ite_false, reduceIte, Int.reduceEq, not_true_eq_false, not_false_eq_true, Decidable.not_not] at *)
      (repeat' split) <;> (try subst_vars) <;> omega
    · have x := H.1.get.2.2.1 i
      (simp only [inI, upI_e, Nat.reduceEqDiff, Nat.reduceAdd, true_and, and_true, false_and, and_false, if_true, if_false, ite_true, ite_false, reduceIte, Int.reduceEq, not_true_eq_false, not_false_eq_true, Decidable.not_not] at *)
      (repeat' split) <;> (try subst_vars) <;> omega
    · have x := H.1.get.2.2.2 i c
      (simp only [inI, upI_e, Nat.reduceEqDiff, Nat.reduceAdd, true_and, and_true, false_and, and_false, if_true, if_false, ite_true, ite_false, reduceIte, Int.reduceEq, not_true_eq_false, not_false_eq_true, Decidable.not_not] at *)
      (repeat' split) <;> (try subst_vars) <;> omega
  · (simp only [inI, upI_e, Nat.reduceEqDiff, Nat.reduceAdd, true_and, and_true, false_and, and_false, if_true, if_false, ite_true, ite_false, reduceIte, Int.reduceEq, not_true_eq_false, not_false_eq_true, Decidable.not_not])
    refine ⟨?_, H.2.1.c (fun c hc => by (funext j; simp only [upI_e]; repeat' rw [if_neg (by omega)])), H.2.2.1.c (fun c hc => by (funext j; simp only [upI_e]; repeat' rw [if_neg (by omega)])) (by simp only [upI_e]; repeat' rw [if_neg (by omega)]) (by simp only [upI_e]; repeat' rw [if_neg (by omega)]), H.2.2.2.1.c (fun c hc => by (funext j; simp only [upI_e]; repeat' rw [if_neg (by omega)])) (by simp only [upI_e]; repeat' rw [if_neg (by omega)]) (by simp only [upI_e]; repeat' rw [if_neg (by omega)]), H.2.2.2.2.1.c (fun c hc => by (funext j; simp only [upI_e]; repeat' rw [if_neg (by omega)])) (by simp only [upI_e]; repeat' rw [if_neg (by omega)]) (by simp only [upI_e]; repeat' rw [if_neg (by omega)]), H.2.2.2.2.2.1.c (fun c hc => by (funext j; simp only [upI_e]; repeat' rw [if_neg (by omega)])), IP.z (h := h) (by (simp only [inI, upI_e, Nat.reduceEqDiff, Nat.reduceAdd, true_and, and_true, false_and, and_false, if_true, if_false, ite_true, ite_false, reduceIte, Int.reduceEq, not_true_eq_false, not_false_eq_true, Decidable.not_not])) (by (simp only [inI, upI_e, Nat.reduceEqDiff, Nat.reduceAdd, true_and, and_true, false_and, and_false, if_true, if_false, ite_true, ite_false, reduceIte, Int.reduceEq, not_true_eq_false, not_false_eq_true, Decidable.not_not]))⟩
    refine IB.put (by have := H.next; (simp only [inI, upI_e, Nat.reduceEqDiff, Nat.reduceAdd, true_and, and_true, false_and, and_false, if_true, if_false, ite_true, ite_false, reduceIte, Int.reduceEq, not_true_eq_false, not_false_eq_true, Decidable.not_not]); omega) (by have := H.next; (simp only [inI, upI_e, Nat.reduceEqDiff, Nat.reduceAdd, true_and, and_true, false_and, and_false, if_true, if_false, ite_true, ite_false, reduceIte, Int.reduceEq, not_true_eq_false, not_false_eq_true, Decidable.not_not]); omega) (fun i => ?_) (fun i c1 c2 => ?_) (fun i c1 c2 => ?_) (fun i c1 c2 => ?_) (fun i c => ?_)
    · have x := H.1.arr i
      (simp only [inI, upI_e, Nat.reduceEqDiff, Nat.reduceAdd, true_and, and_true, false_and, and_false, if_true, if_false, ite_true, ite_false, reduceIte, Int.reduceEq, not_true_eq_false, not_false_eq_true, Decidable.not_not] at *)
      refine ⟨?_, ?_, ?_, ?_, ?_, ?_, ?_⟩ <;> (repeat' split) <;> (try subst_vars) <;> omega
    · have x := H.1.get.1 i
      (simp only [inI, upI_e, Nat.reduceEqDiff, Nat.reduceAdd, true_and, and_true, false_and, and_false, if_true, if_false, ite_true, ite_false, reduceIte, Int.reduceEq, not_true_eq_false, not_false_eq_true, Decidable.not_not] at *)
      (repeat' split) <;> (try subst_vars) <;> omega
    · have x := H.1.get.2.1 i
      (simp only [inI, upI_e, Nat.reduceEqDiff, Nat.reduceAdd, true_and, and_true, false_and, and_false, if_true, if_false, ite_true, ite_false, reduceIte, Int.reduceEq, not_true_eq_false, not_false_eq_true, Decidable.not_not] at *)
      (repeat' split) <;> (try subst_vars) <;> omega
    · have x := H.1.get.2.2.1 i
      (simp only [inI, upI_e, Nat.reduceEqDiff, Nat.reduceAdd, true_and, and_true, false_and, and_false, if_true, if_false, ite_true, ite_false, reduceIte, Int.reduceEq, not_true_eq_false, not_false_eq_true, Decidable.not_not] at *)
      (repeat' split) <;> (try subst_vars) <;> omega
    · have x := H.1.get.2.2.2 i c
      (simp only [inI, upI_e, Nat.reduceEqDiff, Nat.reduceAdd, true_and, and_true, false_and, and_false, if_true, if_false, ite_true, ite_false, reduceIte, Int.reduceEq, not_true_eq_false, not_false_eq_true, Decidable.not_not] at *)
      (repeat' split) <;> (try subst_vars) <;> omega
theorem op_kind {a b c : Int} : OpI n_X5_kind n_X6_kind [vI a, vI b, vI c] := by
  intro d n h n0 n1 H
  have fa := H.facts
  unfold Facts at fa
  obtain ⟨oR, oE, oS, oP, oZ, mE, mR, mEa, mS, mZ⟩ := H.ok
  have ge := H.1.get.2.1 a
  have ga := H.1.arr a
  repeat' first
    | first | exact H.m12 | exact H.rf (by decide) (by decide)
    | (with_reducible refine exI ?_)
    | (with_reducible refine exL ?_)
    | (with_reducible refine exV ?_)
    | (with_reducible apply And.intro)
    | (with_reducible refine cI_i (e_X5_kind ?_))
    | (with_reducible refine cL_i (e_X5_kind ?_))
    | (with_reducible refine cV_i (e_X5_kind ?_))
    | (with_reducible refine u_X5_kind_1 (tx_mono _ _) ?_)
    | (with_reducible refine u_X5_kind_2 (tx_mono _ _) ?_)
    | (with_reducible refine u_X5_kind_3 (tx_mono _ _) ?_)
    | (with_reducible refine u_X5_kind_4 (tx_mono _ _) ?_)
    | (with_reducible refine u_X5_kind_5 (tx_mono _ _) ?_)
    | (with_reducible refine cI_i (e_X6_kind ?_))
    | (with_reducible refine cL_i (e_X6_kind ?_))
    | (with_reducible refine cV_i (e_X6_kind ?_))
    | (with_reducible refine u_X6_kind_1 (tx_mono _ _) ?_)
    | (with_reducible refine u_X6_kind_2 (tx_mono _ _) ?_)
    | (with_reducible refine u_X6_kind_3 (tx_mono _ _) ?_)
    | (with_reducible refine u_X6_kind_4 (tx_mono _ _) ?_)
    | (with_reducible apply c_X0_hasEater)
    | (with_reducible apply s_X3_forget)
    | (with_reducible apply c_X5_refuse)
    | (with_reducible apply c_X6_in)
    | (with_reducible apply c_X6_isEater)
    | (with_reducible apply c_X6_refuse)
    | (with_reducible apply c_X6_wrongNumber)
    | assumption
    | exact isB1
    | exact True.intro
    | (intro _ e9; subst e9)
    | (intro c9; exfalso; first | omega | (simp only [inI, upI_e, Nat.reduceEqDiff, Nat.reduceAdd, true_and, and_true, false_and, and_false, if_true, if_false, ite_true, ite_false, reduceIte, Int.reduceEq, not_true_eq_false, not_false_eq_true, Decidable.not_not] at c9; omega))
    | (intro c9; (try simp only [inI, upI_e, Nat.reduceEqDiff, Nat.reduceAdd, true_and, and_true, false_and, and_false, if_true, if_false, ite_true, ite_false, reduceIte, Int.reduceEq, not_true_eq_false, not_false_eq_true, Decidable.not_not] at c9))
    | (with_reducible show _ ≤ _; first | omega | (simp only [inI, upI_e, Nat.reduceEqDiff, Nat.reduceAdd, true_and, and_true, false_and, and_false, if_true, if_false, ite_true, ite_false, reduceIte, Int.reduceEq, not_true_eq_false, not_false_eq_true, Decidable.not_not]; omega))
    | (with_reducible show _ < _; first | omega | (simp only [inI, upI_e, Nat.reduceEqDiff, Nat.reduceAdd, true_and, and_true, false_and, and_false, if_true, if_false, ite_true, ite_false, reduceIte, Int.reduceEq, not_true_eq_false, not_false_eq_true, Decidable.not_not]; omega))
    | (with_reducible show _ = _; first | omega | (simp only [inI, upI_e, Nat.reduceEqDiff, Nat.reduceAdd, true_and, and_true, false_and, and_false, if_true, if_false, ite_true, ite_false, reduceIte, Int.reduceEq, not_true_eq_false, not_false_eq_true, Decidable.not_not]; omega))
    | (with_reducible show _ ∧ _; first | omega | (simp only [inI, upI_e, Nat.reduceEqDiff, Nat.reduceAdd, true_and, and_true, false_and, and_false, if_true, if_false, ite_true, ite_false, reduceIte, Int.reduceEq, not_true_eq_false, not_false_eq_true, Decidable.not_not]; omega))
    | (with_reducible show _ ∨ _; first | omega | (simp only [inI, upI_e, Nat.reduceEqDiff, Nat.reduceAdd, true_and, and_true, false_and, and_false, if_true, if_false, ite_true, ite_false, reduceIte, Int.reduceEq, not_true_eq_false, not_false_eq_true, Decidable.not_not]; omega))
    | (with_reducible show inI _; first | omega | (simp only [inI, upI_e, Nat.reduceEqDiff, Nat.reduceAdd, true_and, and_true, false_and, and_false, if_true, if_false, ite_true, ite_false, reduceIte, Int.reduceEq, not_true_eq_false, not_false_eq_true, Decidable.not_not]; omega))
    | (with_reducible show ¬ _; first | omega | (simp only [inI, upI_e, Nat.reduceEqDiff, Nat.reduceAdd, true_and, and_true, false_and, and_false, if_true, if_false, ite_true, ite_false, reduceIte, Int.reduceEq, not_true_eq_false, not_false_eq_true, Decidable.not_not]; omega))
  · try (simp only [inI, upI_e, Nat.reduceEqDiff, Nat.reduceAdd, true_and, and_true, false_and, and_false, if_true, if_false, ite_true, ite_false, reduceIte, Int.reduceEq, not_true_eq_false, not_false_eq_true, Decidable.not_not])
    refine ⟨?_, H.2.1.c (fun c hc => by (funext j; simp only [upI_e]; repeat' rw [if_neg (by omega)])), H.2.2.1.c (fun c hc => by (funext j; simp only [upI_e]; repeat' rw [if_neg (by omega)])) (by simp only [upI_e]; repeat' rw [if_neg (by omega)]) (by simp only [upI_e]; repeat' rw [if_neg (by omega)]), H.2.2.2.1.c (fun c hc => by (funext j; simp only [upI_e]; repeat' rw [if_neg (by omega)])) (by simp only [upI_e]; repeat' rw [if_neg (by omega)]) (by simp only [upI_e]; repeat' rw [if_neg (by omega)]), H.2.2.2.2.1.c (fun c hc => by (funext j; simp only [upI_e]; repeat' rw [if_neg (by omega)])) (by simp only [upI_e]; repeat' rw [if_neg (by omega)]) (by simp only [upI_e]; repeat' rw [if_neg (by omega)]), H.2.2.2.2.2.1.c (fun c hc => by (funext j; simp only [upI_e]; repeat' rw [if_neg (by omega)])), IP.z (h := h) (by (simp only [inI, upI_e, Nat.reduceEqDiff, Nat.reduceAdd, true_and, and_true, false_and, and_false, if_true, if_false, ite_true, ite_false, reduceIte, Int.reduceEq, not_true_eq_false, not_false_eq_true, Decidable.not_not])) (by (simp only [inI, upI_e, Nat.reduceEqDiff, Nat.reduceAdd, true_and, and_true, false_and, and_false, if_true, if_false, ite_true, ite_false, reduceIte, Int.reduceEq, not_true_eq_false, not_false_eq_true, Decidable.not_not]))⟩
    refine IB.put (by have := H.next; (simp only [inI, upI_e, Nat.reduceEqDiff, Nat.reduceAdd, true_and, and_true, false_and, and_false, if_true, if_false, ite_true, ite_false, reduceIte, Int.reduceEq, not_true_eq_false, not_false_eq_true, Decidable.not_not]); omega) (by have := H.next; (simp only [inI, upI_e, Nat.reduceEqDiff, Nat.reduceAdd, true_and, and_true, false_and, and_false, if_true, if_false, ite_true, ite_false, reduceIte, Int.reduceEq, not_true_eq_false, not_false_eq_true, Decidable.not_not]); omega) (fun i => ?_) (fun i c1 c2 => ?_) (fun i c1 c2 => ?_) (fun i c1 c2 => ?_) (fun i c => ?_)
    · have x := H.1.arr i
      (simp only [inI, upI_e, Nat.reduceEqDiff, Nat.reduceAdd, true_and, and_true, false_and, and_false, if_true, if_false, ite_true, ite_false, reduceIte, Int.reduceEq, not_true_eq_false, not_false_eq_true, Decidable.not_not] at *)
      refine ⟨?_, ?_, ?_, ?_, ?_, ?_, ?_⟩ <;> (repeat' split) <;> (try subst_vars) <;> omega
    · have x := H.1.get.1 i
      (simp only [inI, upI_e, Nat.reduceEqDiff, Nat.reduceAdd, true_and, and_true, false_and, and_false, if_true, if_false, ite_true, ite_false, reduceIte, Int.reduceEq, not_true_eq_false, not_false_eq_true, Decidable.not_not] at *)
      (repeat' split) <;> (try subst_vars) <;> omega
    · have x := H.1.get.2.1 i
      (simp only [inI, upI_e, Nat.reduceEqDiff, Nat.reduceAdd, true_and, and_true, false_and, and_false, if_true, if_false, ite_true, ite_false, reduceIte, Int.reduceEq, not_true_eq_false, not_false_eq_true, Decidable.not_not] at *)
      (repeat' split) <;> (try subst_vars) <;> omega
    · have x := H.1.get.2.2.1 i
      (simp only [inI, upI_e, Nat.reduceEqDiff, Nat.reduceAdd, true_and, and_true, false_and, and_false, if_true, if_false, ite_true, ite_false, reduceIte, Int.reduceEq, not_true_eq_false, not_false_eq_true, Decidable.not_not] at *)
      (repeat' split) <;> (try subst_vars) <;> omega
    · have x := H.1.get.2.2.2 i c
      (simp only [inI, upI_e, Nat.reduceEqDiff, Nat.reduceAdd, true_and, and_true, false_and, and_false, if_true, if_false, ite_true, ite_false, reduceIte, Int.reduceEq, not_true_eq_false, not_false_eq_true, Decidable.not_not] at *)
      (repeat' split) <;> (try subst_vars) <;> omega
theorem c_X5_refusalToSet {d : Nat} {w v : Int} {h : AH} {k : Int → AH → Prop} (q1 : w < 0 ∨ 3 < w → k (-2) h) (q2 : w = 3 ∧ (v < 0 ∨ h.1 1 3 ≤ v) → k (-1) h) (q3 : w = 0 ∧ v < 0 ∨ (w = 1 ∨ w = 2) ∧ v < 1 → k (-4) h) (q4 : w = 0 ∧ 60 < v ∨ w = 1 ∧ 4 < v ∨ w = 2 ∧ 6 < v → k (-6) h) (q5 : w = 3 ∧ 0 ≤ v ∧ v < h.1 1 3 → k 0 h) (q6 : w = 0 ∧ 0 ≤ v ∧ v ≤ 60 → k 0 h) (q7 : w = 1 ∧ 1 ≤ v ∧ v ≤ 4 → k 0 h) (q8 : w = 2 ∧ 1 ≤ v ∧ v ≤ 6 → k 0 h) : cI (tx mt (d + 2)) n_X5_refusalToSet [vR 0, vI w, vI v] h k := by
  repeat' first
    | (with_reducible refine exI ?_)
    | (with_reducible refine exL ?_)
    | (with_reducible refine exV ?_)
    | (with_reducible apply And.intro)
    | (with_reducible refine cI_i (e_X5_refusalToSet ?_))
    | (with_reducible refine cL_i (e_X5_refusalToSet ?_))
    | (with_reducible refine cV_i (e_X5_refusalToSet ?_))
    | (with_reducible refine u_X5_refusalToSet_1 (tx_mono _ _) ?_)
    | (with_reducible refine u_X5_refusalToSet_2 (tx_mono _ _) ?_)
    | (with_reducible refine u_X5_refusalToSet_3 (tx_mono _ _) ?_)
    | (with_reducible refine u_X5_refusalToSet_4 (tx_mono _ _) ?_)
    | (with_reducible refine u_X5_refusalToSet_5 (tx_mono _ _) ?_)
    | (with_reducible refine u_X5_refusalToSet_6 (tx_mono _ _) ?_)
    | (with_reducible refine u_X5_refusalToSet_7 (tx_mono _ _) ?_)
    | (with_reducible refine u_X5_refusalToSet_8 (tx_mono _ _) ?_)
    | (with_reducible refine u_X5_refusalToSet_9 (tx_mono _ _) ?_)
    | (with_reducible refine u_X5_refusalToSet_10 (tx_mono _ _) ?_)
    | (with_reducible refine u_X5_refusalToSet_11 (tx_mono _ _) ?_)
    | (with_reducible refine u_X5_refusalToSet_12 (tx_mono _ _) ?_)
    | (with_reducible refine u_X5_refusalToSet_13 (tx_mono _ _) ?_)
    | (with_reducible apply c_X0_hasEater)
    | exact q1 (by omega)
    | exact q2 (by omega)
    | exact q3 (by omega)
    | exact q4 (by omega)
    | exact q5 (by omega)
    | exact q6 (by omega)
    | exact q7 (by omega)
    | exact q8 (by omega)
    | exact isB1
    | exact True.intro
    | (intro _ e9; subst e9)
    | (intro c9; exfalso; first | omega | (simp only [inI, upI_e, Nat.reduceEqDiff, Nat.reduceAdd, true_and, and_true, false_and, and_false, if_true, if_false, ite_true, ite_false, reduceIte, Int.reduceEq, not_true_eq_false, not_false_eq_true, Decidable.not_not] at c9; omega))
    | (intro c9; (try simp only [inI, upI_e, Nat.reduceEqDiff, Nat.reduceAdd, true_and, and_true, false_and, and_false, if_true, if_false, ite_true, ite_false, reduceIte, Int.reduceEq, not_true_eq_false, not_false_eq_true, Decidable.not_not] at c9))
    | (with_reducible show _ ≤ _; first | omega | (simp only [inI, upI_e, Nat.reduceEqDiff, Nat.reduceAdd, true_and, and_true, false_and, and_false, if_true, if_false, ite_true, ite_false, reduceIte, Int.reduceEq, not_true_eq_false, not_false_eq_true, Decidable.not_not]; omega))
    | (with_reducible show _ < _; first | omega | (simp only [inI, upI_e, Nat.reduceEqDiff, Nat.reduceAdd, true_and, and_true, false_and, and_false, if_true, if_false, ite_true, ite_false, reduceIte, Int.reduceEq, not_true_eq_false, not_false_eq_true, Decidable.not_not]; omega))
    | (with_reducible show _ = _; first | omega | (simp only [inI, upI_e, Nat.reduceEqDiff, Nat.reduceAdd, true_and, and_true, false_and, and_false, if_true, if_false, ite_true, ite_false, reduceIte, Int.reduceEq, not_true_eq_false, not_false_eq_true, Decidable.not_not]; omega))
    | (with_reducible show _ ∧ _; first | omega | (simp only [inI, upI_e, Nat.reduceEqDiff, Nat.reduceAdd, true_and, and_true, false_and, and_false, if_true, if_false, ite_true, ite_false, reduceIte, Int.reduceEq, not_true_eq_false, not_false_eq_true, Decidable.not_not]; omega))
    | (with_reducible show _ ∨ _; first | omega | (simp only [inI, upI_e, Nat.reduceEqDiff, Nat.reduceAdd, true_and, and_true, false_and, and_false, if_true, if_false, ite_true, ite_false, reduceIte, Int.reduceEq, not_true_eq_false, not_false_eq_true, Decidable.not_not]; omega))
    | (with_reducible show inI _; first | omega | (simp only [inI, upI_e, Nat.reduceEqDiff, Nat.reduceAdd, true_and, and_true, false_and, and_false, if_true, if_false, ite_true, ite_false, reduceIte, Int.reduceEq, not_true_eq_false, not_false_eq_true, Decidable.not_not]; omega))
    | (with_reducible show ¬ _; first | omega | (simp only [inI, upI_e, Nat.reduceEqDiff, Nat.reduceAdd, true_and, and_true, false_and, and_false, if_true, if_false, ite_true, ite_false, reduceIte, Int.reduceEq, not_true_eq_false, not_false_eq_true, Decidable.not_not]; omega))
theorem c_X6_wrongSetting {d : Nat} {w v : Int} {h : AH} {k : Int → AH → Prop} (h0 : 0 ≤ h.1 38 1 ∧ h.1 38 1 ≤ 4) (q1 : w < 0 ∨ 3 < w → k (-2) h) (q2 : w = 3 ∧ (v < 0 ∨ h.1 38 1 ≤ v) → k (-1) h) (q3 : w = 0 ∧ v < 0 ∨ (w = 1 ∨ w = 2) ∧ v < 1 → k (-4) h) (q4 : w = 0 ∧ 60 < v ∨ w = 1 ∧ 4 < v ∨ w = 2 ∧ 6 < v → k (-6) h) (q5 : w = 3 ∧ 0 ≤ v ∧ v < h.1 38 1 → k 0 h) (q6 : w = 0 ∧ 0 ≤ v ∧ v ≤ 60 → k 0 h) (q7 : w = 1 ∧ 1 ≤ v ∧ v ≤ 4 → k 0 h) (q8 : w = 2 ∧ 1 ≤ v ∧ v ≤ 6 → k 0 h) : cI (tx mt (d + 3)) n_X6_wrongSetting [vR 38, vI w, vI v] h k := by
  repeat' first
    | (with_reducible refine exI ?_)
    | (with_reducible refine exL ?_)
    | (with_reducible refine exV ?_)
    | (with_reducible apply And.intro)
    | (with_reducible refine cI_i (e_X6_wrongSetting ?_))
    | (with_reducible refine cL_i (e_X6_wrongSetting ?_))
    | (with_reducible refine cV_i (e_X6_wrongSetting ?_))
    | (with_reducible refine u_X6_wrongSetting_1 (tx_mono _ _) ?_)
    | (with_reducible refine u_X6_wrongSetting_2 (tx_mono _ _) ?_)
    | (with_reducible refine u_X6_wrongSetting_3 (tx_mono _ _) ?_)
    | (with_reducible refine u_X6_wrongSetting_4 (tx_mono _ _) ?_)
    | (with_reducible refine u_X6_wrongSetting_5 (tx_mono _ _) ?_)
    | (with_reducible refine u_X6_wrongSetting_6 (tx_mono _ _) ?_)
    | (with_reducible refine u_X6_wrongSetting_7 (tx_mono _ _) ?_)
    | (with_reducible apply c_X6_isEater)
    | (with_reducible apply c_X6_wrongNumber)
    | exact q1 (by omega)
    | exact q2 (by omega)
    | exact q3 (by omega)
    | exact q4 (by omega)
    | exact q5 (by omega)
    | exact q6 (by omega)
    | exact q7 (by omega)
    | exact q8 (by omega)
    | exact isB1
    | exact True.intro
    | (intro _ e9; subst e9)
    | (intro c9; exfalso; first | omega | (simp only [inI, upI_e, Nat.reduceEqDiff, Nat.reduceAdd, true_and, and_true, false_and, and_false, if_true, if_false, ite_true, ite_false, reduceIte, Int.reduceEq, not_true_eq_false, not_false_eq_true, Decidable.not_not] at c9; omega))
    | (intro c9; (try simp only [inI, upI_e, Nat.reduceEqDiff, Nat.reduceAdd, true_and, and_true, false_and, and_false, if_true, if_false, ite_true, ite_false, reduceIte, Int.reduceEq, not_true_eq_false, not_false_eq_true, Decidable.not_not] at c9))
    | (with_reducible show _ ≤ _; first | omega | (simp only [inI, upI_e, Nat.reduceEqDiff, Nat.reduceAdd, true_and, and_true, false_and, and_false, if_true, if_false, ite_true, ite_false, reduceIte, Int.reduceEq, not_true_eq_false, not_false_eq_true, Decidable.not_not]; omega))
    | (with_reducible show _ < _; first | omega | (simp only [inI, upI_e, Nat.reduceEqDiff, Nat.reduceAdd, true_and, and_true, false_and, and_false, if_true, if_false, ite_true, ite_false, reduceIte, Int.reduceEq, not_true_eq_false, not_false_eq_true, Decidable.not_not]; omega))
    | (with_reducible show _ = _; first | omega | (simp only [inI, upI_e, Nat.reduceEqDiff, Nat.reduceAdd, true_and, and_true, false_and, and_false, if_true, if_false, ite_true, ite_false, reduceIte, Int.reduceEq, not_true_eq_false, not_false_eq_true, Decidable.not_not]; omega))
    | (with_reducible show _ ∧ _; first | omega | (simp only [inI, upI_e, Nat.reduceEqDiff, Nat.reduceAdd, true_and, and_true, false_and, and_false, if_true, if_false, ite_true, ite_false, reduceIte, Int.reduceEq, not_true_eq_false, not_false_eq_true, Decidable.not_not]; omega))
    | (with_reducible show _ ∨ _; first | omega | (simp only [inI, upI_e, Nat.reduceEqDiff, Nat.reduceAdd, true_and, and_true, false_and, and_false, if_true, if_false, ite_true, ite_false, reduceIte, Int.reduceEq, not_true_eq_false, not_false_eq_true, Decidable.not_not]; omega))
    | (with_reducible show inI _; first | omega | (simp only [inI, upI_e, Nat.reduceEqDiff, Nat.reduceAdd, true_and, and_true, false_and, and_false, if_true, if_false, ite_true, ite_false, reduceIte, Int.reduceEq, not_true_eq_false, not_false_eq_true, Decidable.not_not]; omega))
    | (with_reducible show ¬ _; first | omega | (simp only [inI, upI_e, Nat.reduceEqDiff, Nat.reduceAdd, true_and, and_true, false_and, and_false, if_true, if_false, ite_true, ite_false, reduceIte, Int.reduceEq, not_true_eq_false, not_false_eq_true, Decidable.not_not]; omega))
theorem op_set {a b : Int} : OpI n_X5_set n_X6_set [vI a, vI b] := by
  intro d n h n0 n1 H
  have fa := H.facts
  unfold Facts at fa
  obtain ⟨oR, oE, oS, oP, oZ, mE, mR, mEa, mS, mZ⟩ := H.ok
  repeat' first
    | first | exact H.m12 | exact H.rf (by decide) (by decide)
    | (with_reducible refine exI ?_)
    | (with_reducible refine exL ?_)
    | (with_reducible refine exV ?_)
    | (with_reducible apply And.intro)
    | (with_reducible refine cI_i (e_X5_set ?_))
    | (with_reducible refine cL_i (e_X5_set ?_))
    | (with_reducible refine cV_i (e_X5_set ?_))
    | (with_reducible refine u_X5_set_1 (tx_mono _ _) ?_)
    | (with_reducible refine u_X5_set_2 (tx_mono _ _) ?_)
    | (with_reducible refine u_X5_set_3 (tx_mono _ _) ?_)
    | (with_reducible refine u_X5_set_4 (tx_mono _ _) ?_)
    | (with_reducible refine u_X5_set_5 (tx_mono _ _) ?_)
    | (with_reducible refine u_X5_set_6 (tx_mono _ _) ?_)
    | (with_reducible refine cI_i (e_X6_set ?_))
    | (with_reducible refine cL_i (e_X6_set ?_))
    | (with_reducible refine cV_i (e_X6_set ?_))
    | (with_reducible refine u_X6_set_1 (tx_mono _ _) ?_)
    | (with_reducible refine u_X6_set_2 (tx_mono _ _) ?_)
    | (with_reducible refine u_X6_set_3 (tx_mono _ _) ?_)
    | (with_reducible refine u_X6_set_4 (tx_mono _ _) ?_)
    | (with_reducible refine u_X6_set_5 (tx_mono _ _) ?_)
    | (with_reducible refine u_X6_set_6 (tx_mono _ _) ?_)
    | (with_reducible refine u_X6_set_7 (tx_mono _ _) ?_)
    | (with_reducible refine u_X6_set_8 (tx_mono _ _) ?_)
    | (with_reducible refine u_X6_set_9 (tx_mono _ _) ?_)
    | (with_reducible refine u_X6_set_10 (tx_mono _ _) ?_)
    | (with_reducible refine u_X6_set_11 (tx_mono _ _) ?_)
    | (with_reducible refine u_X6_set_12 (tx_mono _ _) ?_)
    | (with_reducible refine u_X6_set_13 (tx_mono _ _) ?_)
    | (with_reducible apply s_X3_forget)
    | (with_reducible apply c_X5_refusalToSet)
    | (with_reducible apply c_X5_refuse)
    | (with_reducible apply c_X6_refuse)
    | (with_reducible apply c_X6_wrongSetting)
    | assumption
    | exact isB1
    | exact True.intro
    | (intro _ e9; subst e9)
    | (intro c9; exfalso; first | omega | (simp only [inI, upI_e, Nat.reduceEqDiff, Nat.reduceAdd, true_and, and_true, false_and, and_false, if_true, if_false, ite_true, ite_false, reduceIte, Int.reduceEq, not_true_eq_false, not_false_eq_true, Decidable.not_not] at c9; omega))
    | (intro c9; (try simp only [inI, upI_e, Nat.reduceEqDiff, Nat.reduceAdd, true_and, and_true, false_and, and_false, if_true, if_false, ite_true, ite_false, reduceIte, Int.reduceEq, not_true_eq_false, not_false_eq_true, Decidable.not_not] at c9))
    | (with_reducible show _ ≤ _; first | omega | (simp only [inI, upI_e, Nat.reduceEqDiff, Nat.reduceAdd, true_and, and_true, false_and, and_false, if_true, if_false, ite_true, ite_false, reduceIte, Int.reduceEq, not_true_eq_false, not_false_eq_true, Decidable.not_not]; omega))
    | (with_reducible show _ < _; first | omega | (simp only [inI, upI_e, Nat.reduceEqDiff, Nat.reduceAdd, true_and, and_true, false_and, and_false, if_true, if_false, ite_true, ite_false, reduceIte, Int.reduceEq, not_true_eq_false, not_false_eq_true, Decidable.not_not]; omega))
    | (with_reducible show _ = _; first | omega | (simp only [inI, upI_e, Nat.reduceEqDiff, Nat.reduceAdd, true_and, and_true, false_and, and_false, if_true, if_false, ite_true, ite_false, reduceIte, Int.reduceEq, not_true_eq_false, not_false_eq_true, Decidable.not_not]; omega))
    | (with_reducible show _ ∧ _; first | omega | (simp only [inI, upI_e, Nat.reduceEqDiff, Nat.reduceAdd, true_and, and_true, false_and, and_false, if_true, if_false, ite_true, ite_false, reduceIte, Int.reduceEq, not_true_eq_false, not_false_eq_true, Decidable.not_not]; omega))
    | (with_reducible show _ ∨ _; first | omega | (simp only [inI, upI_e, Nat.reduceEqDiff, Nat.reduceAdd, true_and, and_true, false_and, and_false, if_true, if_false, ite_true, ite_false, reduceIte, Int.reduceEq, not_true_eq_false, not_false_eq_true, Decidable.not_not]; omega))
    | (with_reducible show inI _; first | omega | (simp only [inI, upI_e, Nat.reduceEqDiff, Nat.reduceAdd, true_and, and_true, false_and, and_false, if_true, if_false, ite_true, ite_false, reduceIte, Int.reduceEq, not_true_eq_false, not_false_eq_true, Decidable.not_not]; omega))
    | (with_reducible show ¬ _; first | omega | (simp only [inI, upI_e, Nat.reduceEqDiff, Nat.reduceAdd, true_and, and_true, false_and, and_false, if_true, if_false, ite_true, ite_false, reduceIte, Int.reduceEq, not_true_eq_false, not_false_eq_true, Decidable.not_not]; omega))
  all_goals
    (simp only [inI, upI_e, Nat.reduceEqDiff, Nat.reduceAdd, true_and, and_true, false_and, and_false, if_true, if_false, ite_true, ite_false, reduceIte, Int.reduceEq, not_true_eq_false, not_false_eq_true, Decidable.not_not])
    refine ⟨?_, H.2.1.c (fun c hc => by (funext j; simp only [upI_e]; repeat' rw [if_neg (by omega)])), H.2.2.1.c (fun c hc => by (funext j; simp only [upI_e]; repeat' rw [if_neg (by omega)])) (by simp only [upI_e]; repeat' rw [if_neg (by omega)]) (by simp only [upI_e]; repeat' rw [if_neg (by omega)]), H.2.2.2.1.c (fun c hc => by (funext j; simp only [upI_e]; repeat' rw [if_neg (by omega)])) (by simp only [upI_e]; repeat' rw [if_neg (by omega)]) (by simp only [upI_e]; repeat' rw [if_neg (by omega)]), H.2.2.2.2.1.c (fun c hc => by (funext j; simp only [upI_e]; repeat' rw [if_neg (by omega)])) (by simp only [upI_e]; repeat' rw [if_neg (by omega)]) (by simp only [upI_e]; repeat' rw [if_neg (by omega)]), H.2.2.2.2.2.1.c (fun c hc => by (funext j; simp only [upI_e]; repeat' rw [if_neg (by omega)])), IP.z (h := h) (by (simp only [inI, upI_e, Nat.reduceEqDiff, Nat.reduceAdd, true_and, and_true, false_and, and_false, if_true, if_false, ite_true, ite_false, reduceIte, Int.reduceEq, not_true_eq_false, not_false_eq_true, Decidable.not_not])) (by (simp only [inI, upI_e, Nat.reduceEqDiff, Nat.reduceAdd, true_and, and_true, false_and, and_false, if_true, if_false, ite_true, ite_false, reduceIte, Int.reduceEq, not_true_eq_false, not_false_eq_true, Decidable.not_not]))⟩
    refine IB.put (by have := H.next; (simp only [inI, upI_e, Nat.reduceEqDiff, Nat.reduceAdd, true_and, and_true, false_and, and_false, if_true, if_false, ite_true, ite_false, reduceIte, Int.reduceEq, not_true_eq_false, not_false_eq_true, Decidable.not_not]); omega) (by have := H.next; (simp only [inI, upI_e, Nat.reduceEqDiff, Nat.reduceAdd, true_and, and_true, false_and, and_false, if_true, if_false, ite_true, ite_false, reduceIte, Int.reduceEq, not_true_eq_false, not_false_eq_true, Decidable.not_not]); omega) (fun i => ?_) (fun i c1 c2 => ?_) (fun i c1 c2 => ?_) (fun i c1 c2 => ?_) (fun i c => ?_)
    · have x := H.1.arr i
      (simp only [inI, upI_e, Nat.reduceEqDiff, Nat.reduceAdd, true_and, and_true, false_and, and_false, if_true, if_false, ite_true, ite_false, reduceIte, Int.reduceEq, not_true_eq_false, not_false_eq_true, Decidable.not_not] at *)
      refine ⟨?_, ?_, ?_, ?_, ?_, ?_, ?_⟩ <;> (repeat' split) <;> (try subst_vars) <;> omega
    · have x := H.1.get.1 i
      (simp only [inI, upI_e, Nat.reduceEqDiff, Nat.reduceAdd, true_and, and_true, false_and, and_false, if_true, if_false, ite_true, ite_false, reduceIte, Int.reduceEq, not_true_eq_false, not_false_eq_true, Decidable.not_not] at *)
      (repeat' split) <;> (try subst_vars) <;> omega
    · have x := H.1.get.2.1 i
      (simp only [inI, upI_e, Nat.reduceEqDiff, Nat.reduceAdd, true_and, and_true, false_and, and_false, if_true, if_false, ite_true, ite_false, reduceIte, Int.reduceEq, not_true_eq_false, not_false_eq_true, Decidable.not_not] at *)
      (repeat' split) <;> (try subst_vars) <;> omega
    · have x := H.1.get.2.2.1 i
      (simp only [inI, upI_e, Nat.reduceEqDiff, Nat.reduceAdd, true_and, and_true, false_and, and_false, if_true, if_false, ite_true, ite_false, reduceIte, Int.reduceEq, not_true_eq_false, not_false_eq_true, Decidable.not_not] at *)
      (repeat' split) <;> (try subst_vars) <;> omega
    · have x := H.1.get.2.2.2 i c
      (simp only [inI, upI_e, Nat.reduceEqDiff, Nat.reduceAdd, true_and, and_true, false_and, and_false, if_true, if_false, ite_true, ite_false, reduceIte, Int.reduceEq, not_true_eq_false, not_false_eq_true, Decidable.not_not] at *)
      (repeat' split) <;> (try subst_vars) <;> omega
