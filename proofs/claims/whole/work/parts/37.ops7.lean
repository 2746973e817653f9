/-! ===== back ===== -/
theorem op_back : OpI n_X5_back n_X6_back [] := by
  intro d n h n0 n1 H
  have fa := H.facts
  unfold Facts at fa
  obtain ⟨oR, oE, oS, oP, oZ, mE, mR, mEa, mS, mZ⟩ := H.ok
  obtain ⟨p1, p2, p3, p4⟩ := H.2.2.2.2.2.2
  have gn := H.next
  have gE := H.1.get.2.1
  have ga := H.1.arr
  by_cases c : h.1 27 3 = 0
  · skip
    repeat' first
      | first | exact H.m12 | exact H.rf (by decide) (by decide)
      | (with_reducible refine exI ?_)
      | (with_reducible refine exL ?_)
      | (with_reducible refine exV ?_)
      | (with_reducible apply And.intro)
      | (with_reducible refine cI_i (e_X5_back ?_))
      | (with_reducible refine cL_i (e_X5_back ?_))
      | (with_reducible refine cV_i (e_X5_back ?_))
      | (with_reducible refine u_X5_back_1 (tx_mono _ _) ?_)
      | (with_reducible refine cI_i (e_X6_back ?_))
      | (with_reducible refine cL_i (e_X6_back ?_))
      | (with_reducible refine cV_i (e_X6_back ?_))
      | (with_reducible refine u_X6_back_1 (tx_mono _ _) ?_)
      | (with_reducible apply s_X3_undo)
      | (with_reducible apply c_X5_refuse)
      | (with_reducible apply c_X6_refuse)
      | exact isB1
      | exact True.intro
      | (intro _ e9; subst e9)
      | (intro c9; exfalso; first | omega | (simp only [inI, upI_e, Nat.reduceEqDiff, Nat.reduceAdd, true_and, and_true, false_and, and_false, if_true, if_false, ite_true, ite_false, reduceIte, Int.reduceEq, not_true_eq_false, not_false_eq_true, Decidable.not_not] at c9; omega))
      | (intro c9; (try simp only [inI, upI_e, Nat.reduceEqDiff, Nat.reduceAdd, true_and, and_true, false_and, and_false, if_true, if_false, ite_true, ite_false, reduceIte, Int.reduceEq, not_true_eq_false, not_false_eq_true, Decidable.not_not] at c9))
      | (with_reducible show _ ≤ _; first | omega | (simp only [inI, upI_e, Nat.reduceEqDiff, Nat.reduceAdd, true_and, and_true, false_and, and_false, if_true, if_false, ite_true, ite_false, reduceIte, Int.reduceEq, not_true_eq_false, not_false_eq_true, Decidable.not_not]; omega))
      | (with_reducible show _ < _; first | omega | (simp only [inI, upI_e, Nat.reduceEqDiff, Nat.reduceAdd, true_and, and_true, false_and, and_false, if_true, if_false, ite_true, ite_false, reduceIte, Int.reduceEq, not_true_eq_false, not_false_eq_true, Decidable.not_not]; omega))
      | (with_reducible show _ = _; first | omega | (simp only [inI, upI_e, Nat.reduceEqDiff, Nat.reduceAdd, true_and, and_true, false_and, and_false, if_true, if_false, ite_true, ite_false, reduceIte, Int.reduceEq, not_true_eq_false, not_false_eq_true, Decidable.not_not]; omega))
      | (with_reducible show _ ∧ _; first | omega | (simp only [inI, upI_e, Nat.reduceEqDiff, Nat.reduceAdd, true_and, and_true, false_and, and_false, if_true, if_false, ite_true, ite_false, reduceIte, Int.reduceEq, not_true_eq_false, not_false_eq_true, Decidable.not_not]; omega))
      | (with_reducible show _ ∨ _; first | omega | (simp only [inI, upI_e, Nat.reduceEqDiff, Nat.reduceAdd, true_and, and_true, false_and, and_false, if_true, if_false, ite_true, ite_false, reduceIte, Int.reduceEq, not_true_eq_false, not_false_eq_true, Decidable.not_not]; omega))
      | (with_reducible show inI _; first | omega | (simp only [inI, upI_e, Nat.reduceEqDiff, Nat.reduceAdd, true_and, and_true, false_and, and_false, if_true, if_false, ite_true, ite_false, reduceIte, Int.reduceEq, not_true_eq_false, not_false_eq_true, Decidable.not_not]; omega))
      | (with_reducible show ¬ _; first | omega | (simp only [inI, upI_e, Nat.reduceEqDiff, Nat.reduceAdd, true_and, and_true, false_and, and_false, if_true, if_false, ite_true, ite_false, reduceIte, Int.reduceEq, not_true_eq_false, not_false_eq_true, Decidable.not_not]; omega))
  have p4s := p4 (h.1 27 3 - 1) (by omega) (by omega)
  obtain ⟨s1, s2, s3, s4, s5, s6, s7, s8, s9⟩ := p4s
  have und : ∀ (K : Int → AH → Prop), K (h.1 28 (h.1 27 3 - 1)) (upI (upI (upI (upI h 27 3 (h.1 27 3 - 1)) 1 11 (h.1 28 (h.1 27 3 - 1))) 1 8 (h.1 29 (h.1 27 3 - 1))) 7 (h.1 28 (h.1 27 3 - 1)) (h.1 30 (h.1 27 3 - 1))) → cI (tx mt (d + 29)) n_X3_undo [vR 27, vR 1] h K := by
    intro K q
    refine cI_i (e_X3_undo isB1 ⟨fun x => by omega, fun _ => ⟨⟨by omega, by omega⟩, by omega, by omega, c_X0_hasEater isB1 (fun x => ⟨fun _ => ?_, fun x => absurd (by decide) x⟩) (fun x => by omega)⟩⟩)
    refine u_X3_undo_2 (tx_mono _ _) isB1 ⟨⟨by omega, by omega⟩, fun h1 w1 => ?_⟩
    have b1 : h1.1 27 3 = h.1 27 3 - 1 := by rw [w1]; (simp only [inI, upI_e, Nat.reduceEqDiff, Nat.reduceAdd, true_and, and_true, false_and, and_false, if_true, if_false, ite_true, ite_false, reduceIte, Int.reduceEq, not_true_eq_false, not_false_eq_true, Decidable.not_not])
    refine ⟨by omega, by omega, fun h2 w2 => ?_⟩
    have b2 : h2.1 27 3 = h.1 27 3 - 1 := by rw [w2]; (simp only [inI, upI_e, Nat.reduceEqDiff, Nat.reduceAdd, true_and, and_true, false_and, and_false, if_true, if_false, ite_true, ite_false, reduceIte, Int.reduceEq, not_true_eq_false, not_false_eq_true, Decidable.not_not]); exact b1
    refine ⟨by omega, by omega, fun h3 w3 => ?_⟩
    have b3 : h3.1 27 3 = h.1 27 3 - 1 := by rw [w3]; (simp only [inI, upI_e, Nat.reduceEqDiff, Nat.reduceAdd, true_and, and_true, false_and, and_false, if_true, if_false, ite_true, ite_false, reduceIte, Int.reduceEq, not_true_eq_false, not_false_eq_true, Decidable.not_not]); exact b2
    have e28 : ∀ j, h1.1 28 j = h.1 28 j := fun j => by rw [w1]; (simp only [inI, upI_e, Nat.reduceEqDiff, Nat.reduceAdd, true_and, and_true, false_and, and_false, if_true, if_false, ite_true, ite_false, reduceIte, Int.reduceEq, not_true_eq_false, not_false_eq_true, Decidable.not_not])
    have e29 : ∀ j, h2.1 29 j = h.1 29 j := fun j => by rw [w2, w1]; (simp only [inI, upI_e, Nat.reduceEqDiff, Nat.reduceAdd, true_and, and_true, false_and, and_false, if_true, if_false, ite_true, ite_false, reduceIte, Int.reduceEq, not_true_eq_false, not_false_eq_true, Decidable.not_not])
    have e30 : ∀ j, h3.1 30 j = h.1 30 j := fun j => by rw [w3, w2, w1]; (simp only [inI, upI_e, Nat.reduceEqDiff, Nat.reduceAdd, true_and, and_true, false_and, and_false, if_true, if_false, ite_true, ite_false, reduceIte, Int.reduceEq, not_true_eq_false, not_false_eq_true, Decidable.not_not])
    rw [b1, e28] at w2 ⊢
    rw [b2, e29] at w3
    rw [b3, e30]
    refine ⟨by omega, by omega, by omega, by omega, fun h4 w4 => exI ?_⟩
    rw [w4, w3, w2, w1]
    exact q
  refine cI_i (e_X5_back ⟨fun _ => u_X5_back_1 (tx_mono _ _) (und _ (exI ?_)), fun x => absurd c x⟩)
  refine cI_i (e_X6_back ?_)
  intro h1 w1
  have a31 : h1.1 38 31 = h.1 38 31 := by rw [w1]; (simp only [inI, upI_e, Nat.reduceEqDiff, Nat.reduceAdd, true_and, and_true, false_and, and_false, if_true, if_false, ite_true, ite_false, reduceIte, Int.reduceEq, not_true_eq_false, not_false_eq_true, Decidable.not_not])
  refine ⟨fun _ => u_X6_back_1 (tx_mono _ _) ⟨⟨by omega, by omega⟩, fun h2 w2 => ?_⟩, fun x => absurd (by omega) x⟩
  rw [a31, ← p1] at w2
  have b2 : h2.1 38 31 = h.1 27 3 - 1 := by rw [w2]; (simp only [inI, upI_e, Nat.reduceEqDiff, Nat.reduceAdd, true_and, and_true, false_and, and_false, if_true, if_false, ite_true, ite_false, reduceIte, Int.reduceEq, not_true_eq_false, not_false_eq_true, Decidable.not_not])
  refine ⟨by omega, by omega, fun h3 w3 => ?_⟩
  have e52 : ∀ j, h2.1 52 j = h.1 52 j := fun j => by rw [w2, w1]; (simp only [inI, upI_e, Nat.reduceEqDiff, Nat.reduceAdd, true_and, and_true, false_and, and_false, if_true, if_false, ite_true, ite_false, reduceIte, Int.reduceEq, not_true_eq_false, not_false_eq_true, Decidable.not_not])
  rw [b2, e52, s1] at w3
  have b3 : h3.1 38 31 = h.1 27 3 - 1 := by rw [w3]; (simp only [inI, upI_e, Nat.reduceEqDiff, Nat.reduceAdd, true_and, and_true, false_and, and_false, if_true, if_false, ite_true, ite_false, reduceIte, Int.reduceEq, not_true_eq_false, not_false_eq_true, Decidable.not_not]); exact b2
  have b5 : h3.1 38 5 = h.1 28 (h.1 27 3 - 1) := by rw [w3]; (simp only [inI, upI_e, Nat.reduceEqDiff, Nat.reduceAdd, true_and, and_true, false_and, and_false, if_true, if_false, ite_true, ite_false, reduceIte, Int.reduceEq, not_true_eq_false, not_false_eq_true, Decidable.not_not])
  refine ⟨by omega, by omega, by omega, by omega, fun h4 w4 => ?_⟩
  have e53 : ∀ j, h3.1 53 j = h.1 53 j := fun j => by rw [w3, w2, w1]; (simp only [inI, upI_e, Nat.reduceEqDiff, Nat.reduceAdd, true_and, and_true, false_and, and_false, if_true, if_false, ite_true, ite_false, reduceIte, Int.reduceEq, not_true_eq_false, not_false_eq_true, Decidable.not_not])
  rw [b3, b5, e53, s3] at w4
  have b4 : h4.1 38 31 = h.1 27 3 - 1 := by rw [w4]; (simp only [inI, upI_e, Nat.reduceEqDiff, Nat.reduceAdd, true_and, and_true, false_and, and_false, if_true, if_false, ite_true, ite_false, reduceIte, Int.reduceEq, not_true_eq_false, not_false_eq_true, Decidable.not_not]); exact b3
  refine ⟨by omega, by omega, fun h5 w5 => exI ?_⟩
  have e54 : ∀ j, h4.1 54 j = h.1 54 j := fun j => by rw [w4, w3, w2, w1]; (simp only [inI, upI_e, Nat.reduceEqDiff, Nat.reduceAdd, true_and, and_true, false_and, and_false, if_true, if_false, ite_true, ite_false, reduceIte, Int.reduceEq, not_true_eq_false, not_false_eq_true, Decidable.not_not])
  rw [b4, e54, s2] at w5
  rw [w5, w4, w3, w2, w1]
  refine ⟨by (simp only [inI, upI_e, Nat.reduceEqDiff, Nat.reduceAdd, true_and, and_true, false_and, and_false, if_true, if_false, ite_true, ite_false, reduceIte, Int.reduceEq, not_true_eq_false, not_false_eq_true, Decidable.not_not]), ?_⟩
  generalize h.1 28 (h.1 27 3 - 1) = u1 at *
  generalize h.1 29 (h.1 27 3 - 1) = u2 at *
  generalize h.1 30 (h.1 27 3 - 1) = u3 at *
  clear w1 w2 w3 w4 w5
  refine ⟨?_, H.2.1.c (fun c hc => by (funext j; simp only [upI_e]; repeat' rw [if_neg (by omega)])), H.2.2.1.c (fun c hc => by (funext j; simp only [upI_e]; repeat' rw [if_neg (by omega)])) (by simp only [upI_e]; repeat' rw [if_neg (by omega)]) (by simp only [upI_e]; repeat' rw [if_neg (by omega)]), H.2.2.2.1.c (fun c hc => by (funext j; simp only [upI_e]; repeat' rw [if_neg (by omega)])) (by simp only [upI_e]; repeat' rw [if_neg (by omega)]) (by simp only [upI_e]; repeat' rw [if_neg (by omega)]), H.2.2.2.2.1.c (fun c hc => by (funext j; simp only [upI_e]; repeat' rw [if_neg (by omega)])) (by simp only [upI_e]; repeat' rw [if_neg (by omega)]) (by simp only [upI_e]; repeat' rw [if_neg (by omega)]), H.2.2.2.2.2.1.c (fun c hc => by (funext j; simp only [upI_e]; repeat' rw [if_neg (by omega)])), ?_⟩
  · refine IB.put (by have := H.next; (simp only [inI, upI_e, Nat.reduceEqDiff, Nat.reduceAdd, true_and, and_true, false_and, and_false, if_true, if_false, ite_true, ite_false, reduceIte, Int.reduceEq, not_true_eq_false, not_false_eq_true, Decidable.not_not]); omega) (by have := H.next; (simp only [inI, upI_e, Nat.reduceEqDiff, Nat.reduceAdd, true_and, and_true, false_and, and_false, if_true, if_false, ite_true, ite_false, reduceIte, Int.reduceEq, not_true_eq_false, not_false_eq_true, Decidable.not_not]); omega) (fun i => ?_) (fun i c1 c2 => ?_) (fun i c1 c2 => ?_) (fun i c1 c2 => ?_) (fun i c => ?_)
    · have x := H.1.arr i
      (simp only [inI, upI_e, Nat.reduceEqDiff, Nat.reduceAdd, true_and, and_true, false_and, and_false, if_true, if_false, ite_true, ite_false, reduceIte, Int.reduceEq, not_true_eq_false, not_false_eq_true, Decidable.not_not] at *)
      refine ⟨?_, ?_, ?_, ?_, ?_, ?_, ?_⟩ <;> (repeat' split) <;> (try subst_vars) <;> omega
    · have x := H.1.get.1 i
      (simp only [inI, upI_e, Nat.reduceEqDiff, Nat.reduceAdd, true_and, and_true, false_and, and_false, if_true, if_false, ite_true, ite_false, reduceIte, Int.reduceEq, not_true_eq_false, not_false_eq_true, Decidable.not_not] at *)
      (repeat' split) <;> (try subst_vars) <;> omega
    · have x := H.1.get.2.1 i
      (simp only [inI, upI_e, Nat.reduceEqDiff, Nat.reduceAdd, true_and, and_true, false_and, and_false, if_true, if_false, ite_true, ite_false, reduceIte, Int.reduceEq, not_true_eq_false, not_false_eq_true, Decidable.not_not] at *)
      (repeat' split) <;> (try subst_vars) <;> omega
    · have x := H.1.get.2.2.1 i
      (simp only [inI, upI_e, Nat.reduceEqDiff, Nat.reduceAdd, true_and, and_true, false_and, and_false, if_true, if_false, ite_true, ite_false, reduceIte, Int.reduceEq, not_true_eq_false, not_false_eq_true, Decidable.not_not] at *)
      (repeat' split) <;> (try subst_vars) <;> omega
    · have x := H.1.get.2.2.2 i c
      (simp only [inI, upI_e, Nat.reduceEqDiff, Nat.reduceAdd, true_and, and_true, false_and, and_false, if_true, if_false, ite_true, ite_false, reduceIte, Int.reduceEq, not_true_eq_false, not_false_eq_true, Decidable.not_not] at *)
      (repeat' split) <;> (try subst_vars) <;> omega
  · refine ⟨by (simp only [inI, upI_e, Nat.reduceEqDiff, Nat.reduceAdd, true_and, and_true, false_and, and_false, if_true, if_false, ite_true, ite_false, reduceIte, Int.reduceEq, not_true_eq_false, not_false_eq_true, Decidable.not_not]), by (simp only [inI, upI_e, Nat.reduceEqDiff, Nat.reduceAdd, true_and, and_true, false_and, and_false, if_true, if_false, ite_true, ite_false, reduceIte, Int.reduceEq, not_true_eq_false, not_false_eq_true, Decidable.not_not]); omega, by (simp only [inI, upI_e, Nat.reduceEqDiff, Nat.reduceAdd, true_and, and_true, false_and, and_false, if_true, if_false, ite_true, ite_false, reduceIte, Int.reduceEq, not_true_eq_false, not_false_eq_true, Decidable.not_not]); omega, fun i i0 i1 => ?_⟩
    (simp only [inI, upI_e, Nat.reduceEqDiff, Nat.reduceAdd, true_and, and_true, false_and, and_false, if_true, if_false, ite_true, ite_false, reduceIte, Int.reduceEq, not_true_eq_false, not_false_eq_true, Decidable.not_not] at i1 ⊢)
    exact p4 i i0 (by omega)
