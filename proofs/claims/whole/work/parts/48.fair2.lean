/-! ===== fair ===== -/
theorem op_fair {a : Int} : OpI n_X5_fair n_X6_fair [vI a] := by
  intro d n h n0 n1 H
  have fa := H.facts
  unfold Facts at fa
  obtain ⟨oR, oE, oS, oP, oZ, mE, mR, mEa, mS, mZ⟩ := H.ok
  have gn := H.next
  by_cases c : (a < 0 ∨ 1 < a) ∨ h.1 1 0 = 0
  · skip
    repeat' first
      | first | exact H.m12 | exact H.rf (by decide) (by decide)
      | (with_reducible refine exI ?_)
      | (with_reducible refine exL ?_)
      | (with_reducible refine exV ?_)
      | (with_reducible apply And.intro)
      | (with_reducible refine cI_i (e_X5_fair ?_))
      | (with_reducible refine cL_i (e_X5_fair ?_))
      | (with_reducible refine cV_i (e_X5_fair ?_))
      | (with_reducible refine u_X5_fair_1 (tx_mono _ _) ?_)
      | (with_reducible refine u_X5_fair_2 (tx_mono _ _) ?_)
      | (with_reducible refine u_X5_fair_3 (tx_mono _ _) ?_)
      | (with_reducible refine u_X5_fair_4 (tx_mono _ _) ?_)
      | (with_reducible refine u_X5_fair_5 (tx_mono _ _) ?_)
      | (with_reducible refine u_X5_fair_6 (tx_mono _ _) ?_)
      | (with_reducible refine u_X5_fair_7 (tx_mono _ _) ?_)
      | (with_reducible refine cI_i (e_X6_fair ?_))
      | (with_reducible refine cL_i (e_X6_fair ?_))
      | (with_reducible refine cV_i (e_X6_fair ?_))
      | (with_reducible refine u_X6_fair_1 (tx_mono _ _) ?_)
      | (with_reducible refine u_X6_fair_2 (tx_mono _ _) ?_)
      | (with_reducible refine u_X6_fair_3 (tx_mono _ _) ?_)
      | (with_reducible refine u_X6_fair_4 (tx_mono _ _) ?_)
      | (with_reducible refine u_X6_fair_5 (tx_mono _ _) ?_)
      | (with_reducible refine u_X6_fair_6 (tx_mono _ _) ?_)
      | (with_reducible refine u_X6_fair_7 (tx_mono _ _) ?_)
      | (with_reducible refine u_X6_fair_8 (tx_mono _ _) ?_)
      | (with_reducible refine u_X6_fair_9 (tx_mono _ _) ?_)
      | (with_reducible refine u_X6_fair_10 (tx_mono _ _) ?_)
      | (with_reducible apply s_X0_pleasedBy)
      | (with_reducible apply c_X5_refuse)
      | (with_reducible apply s_X6_haveBy)
      | (with_reducible apply c_X6_in)
      | (with_reducible apply c_X6_refuse)
      | exact isB1
      | exact True.intro
      | (intro _ e9; subst e9)
      | (intro c9; exfalso; first | omega | (simp only [inI, upI_e, Nat.reduceEqDiff, Nat.reduceAdd, true_and, and_true, false_and, and_false, if_true, if_false, ite_true, ite_false, reduceIte, Int.reduceEq, not_true_eq_false, not_false_eq_true, Decidable.not_not] at c9; omega))
      | (intro c9; (try simp only [inI, upI_e, Nat.reduceEqDiff, Nat.reduceAdd, true_and, and_true, false_and, and_false, if_true, if_false, ite_true, ite_false, reduceIte, Int.reduceEq, not_true_eq_false, not_false_eq_true, Decidable.not_not] at c9))
      | (with_reducible show _ ≤ _; first | omega | (simp only [inI, upI_e, Nat.reduceEqDiff, Nat.reduceAdd, true_and, and_true, false_and, and_false, if_true, if_false, ite_true, ite_false, reduceIte, Int.reduceEq, not_true_eq_false, not_false_eq_true, Decidable.not_not]; omega))
      | (with_reducible show _ < _; first | omega | (simp only [inI, upI_e, Nat.reduceEqDiff, Nat.reduceAdd, true_and, and_true, false_and, and_false, if_true, if_false, ite_true, ite_false, reduceIte, Int.reduceEq, not_true_eq_false, not_false_eq_true, Decidable.not_not]; omega))
      | (with_reducible show _ = _; first | omega | (simp only [inI, upI_e, Nat.reduceEqDiff, Nat.reduceAdd, true_and, and_true, false_and, and_false, if_true, if_false, ite_true, ite_false, reduceIte, Int.reduceEq, not_true_eq_false, not_false_eq_true, Decidable.not_not]; omega))
      | (with_reducible show _ ∧ _; first | omega | (simp only [inI, upI_e, Nat.reduceEqDiff, Nat.reduceAdd, true_and, and_true, false_and, and_false, if_true, if_false, ite_true, ite_false, reduceIte, Int.reduceEq, not_true_eq_false, not_false_eq_true, Decidable.not_not]; omega))
      | (with_reducible show _ ∨ _; first | omega | (simp only [inI, upI_e, Nat.reduceEqDiff, Nat.reduceAdd, true_and, and_true, false_and, and_false, if_true, if_false, ite_true, ite_false, reduceIte, Int.reduceEq, not_true_eq_false, not_false_eq_true, Decidable.not_not]; omega))
      | (with_reducible show inI _; first | omega | (simp only [inI, upI_e, Nat.reduceEqDiff, Nat.reduceAdd, true_and, and_true, false_and, and_false, if_true, if_false, ite_true, ite_false, reduceIte, Int.reduceEq, not_true_eq_false, not_false_eq_true, Decidable.not_not]; omega))
      | (with_reducible show ¬ _; first | omega | (simp only [inI, upI_e, Nat.reduceEqDiff, Nat.reduceAdd, true_and, and_true, false_and, and_false, if_true, if_false, ite_true, ite_false, reduceIte, Int.reduceEq, not_true_eq_false, not_false_eq_true, Decidable.not_not]; omega))
  have fb : ∀ l, 2 ≤ l → l ≤ 12 → 0 ≤ frF (fX h 1) l ∧ frF (fX h 1) l ≤ 4 := fun l _ _ => pby_b oE _ _
  have r0 : 0 ≤ h.1 3 0 := (H.1.get.1 0 (by decide) (by omega)).2.2.1
  have kx : ∀ (K : AK) (x : Option AV), (∀ b, b = amx (frF (fX h 1)) 10 3 2 → ∀ x y, Bx z0 0 (tx mt (d + 29)) k_X5_fair K 5 [some (vR 0), some (vI a), some (vI b), some (vI (frF (fX h 1) b)), x, y] [] h) → ∀ (m : Nat) (l b : Int) (x : Option AV), l + m = 13 → 3 ≤ l → 2 ≤ b → b < l → amx (frF (fX h 1)) m l b = amx (frF (fX h 1)) 10 3 2 → Bx z0 0 (tx mt (d + 29)) k_X5_fair K 3 [some (vR 0), some (vI a), some (vI b), some (vI (frF (fX h 1) b)), some (vI l), x] [] h := by
    intro K x q m
    induction m with
    | zero =>
      intro l b x lm l3 b2 bl e
      exact u_X5_fair_3 (tx_mono _ _) ⟨fun _ => q b e _ _, fun c => by omega⟩
    | succ m ih =>
      intro l b x lm l3 b2 bl e
      have er := emod_r (a := h.1 3 0) (b := l) (by omega)
      have f0 := fb l (by omega) (by omega)
      rw [amx] at e
      refine u_X5_fair_3 (tx_mono _ _) ⟨fun c => by omega, fun _ => ⟨r0, by omega, s_X0_pleasedBy oE ⟨by omega, by omega⟩ ⟨er.1, by omega⟩ ⟨fun c2 => u_X5_fair_4 (tx_mono _ _) ⟨⟨by omega, by omega⟩, ?_⟩, fun c2 => u_X5_fair_4 (tx_mono _ _) ⟨⟨by omega, by omega⟩, ?_⟩⟩⟩⟩
      · have c3 : frF (fX h 1) l ≤ frF (fX h 1) b := c2
        rw [if_pos c3] at e
        exact ih (l + 1) b _ (by omega) (by omega) b2 (by omega) e
      · have c3 : ¬ frF (fX h 1) l ≤ frF (fX h 1) b := c2
        rw [if_neg c3] at e
        exact ih (l + 1) l _ (by omega) (by omega) (by omega) (by omega) e
  have x : ∀ K : Int → AH → Prop, K (if a = 0 then amx (frF (fX h 1)) 10 3 2 else frF (fX h 1) (amx (frF (fX h 1)) 10 3 2)) h → cI (tx mt (d + 30)) n_X5_fair [vR 0, vI a] h K := by
    intro K q
    have go : Bx z0 0 (tx mt (d + 29)) k_X5_fair (fun r h' => ∃ z, r = some (.inl z) ∧ K z h') 1 [some (vR 0), some (vI a), none, none, none, none] [] h := by
      have k3 := fun l b x => kx (fun r h' => ∃ z, r = some (.inl z) ∧ K z h') none (fun b eb x y => u_X5_fair_5 (tx_mono _ _) ⟨fun c1 => u_X5_fair_6 (tx_mono _ _) (u_X5_fair_7 (tx_mono _ _) (exI (kq q (by rw [if_neg c1, eb])))), fun c1 => u_X5_fair_7 (tx_mono _ _) (exI (kq q (by rw [if_pos (by omega), eb])))⟩) 10 l b x
      refine u_X5_fair_1 (tx_mono _ _) ⟨fun _ => u_X5_fair_2 (tx_mono _ _) (u_X5_fair_3 (tx_mono _ _) ⟨fun c => by omega, fun _ => ⟨r0, by decide, s_X0_pleasedBy oE (by decide) ⟨(emod_r (by decide)).1, by have := (emod_r (a := h.1 3 0) (b := 2) (by decide)).2; omega⟩ ⟨fun c2 => ?_, fun c2 => u_X5_fair_4 (tx_mono _ _) ⟨⟨by decide, by decide⟩, k3 3 2 _ (by decide) (by decide) (by decide) (by decide) rfl⟩⟩⟩⟩), fun c2 => by omega⟩
      have := (pby_b oE 2 (h.1 3 0 % 2)).1
      omega
    exact cI_i (e_X5_fair ⟨fun _ => go, fun _ => ⟨fun _ => go, fun _ => by omega⟩⟩)
  refine x _ ?_
  have a1 := (Fx.rf H.2.1.1).e H
  have f40 : (upI h 38 12 0).1 40 0 = h.1 3 0 := by
    have := (H.1.arr 0).2.1
    (simp only [inI, upI_e, Nat.reduceEqDiff, Nat.reduceAdd, true_and, and_true, false_and, and_false, if_true, if_false, ite_true, ite_false, reduceIte, Int.reduceEq, not_true_eq_false, not_false_eq_true, Decidable.not_not])
    exact this
  have fe : ∀ l, pby (fM (upI h 38 12 0)) l ((upI h 38 12 0).1 40 0 % l) = frF (fX h 1) l := by
    intro l
    rw [mE, f40]
    rfl
  refine cI_i (e_X6_fair ?_)
  intro h1 w1
  rw [w1]
  refine c_X6_in (fun _ => ⟨fun _ => u_X6_fair_1 (tx_mono _ _) ⟨fun _ => u_X6_fair_2 (tx_mono _ _) (u_X6_fair_3 (tx_mono _ _) ⟨fun _ => u_X6_fair_4 (tx_mono _ _) ?_, fun y => absurd (by decide) y⟩), fun y => by omega⟩, fun y => absurd (by decide) y⟩) (fun y => by omega)
  have km : ∀ (m : Nat) (l b : Int) (x : Option AV), l + m = 13 → 3 ≤ l → 2 ≤ b → b < l → amx (frF (fX h 1)) m l b = amx (frF (fX h 1)) 10 3 2 → Bx z0 0 (tx mt (d + 29)) k_X6_fair (fun r h' => ∃ z, r = some (.inl z) ∧ ((if a = 0 then amx (frF (fX h 1)) 10 3 2 else frF (fX h 1) (amx (frF (fX h 1)) 10 3 2)) = z ∧ Inv (n + 1) h')) 5 [some (vR 38), some (vI a), x, some (vI b), some (vI l)] [] (upI h 38 12 0) := by
    intro m
    induction m with
    | zero =>
      intro l b x lm l3 b2 bl e
      have e' : b = amx (frF (fX h 1)) 10 3 2 := e
      refine u_X6_fair_5 (tx_mono _ _) ⟨fun _ => u_X6_fair_8 (tx_mono _ _) ⟨fun c1 => u_X6_fair_9 (tx_mono _ _) (s_X6_haveBy mEa ⟨by omega, by omega⟩ (by omega) (u_X6_fair_10 (tx_mono _ _) (exI ⟨?_, H.m12⟩))), fun c1 => u_X6_fair_10 (tx_mono _ _) (exI ⟨?_, H.m12⟩)⟩, fun c => by omega⟩
      · rw [if_neg c1, fe, e']
      · rw [if_pos (by omega), e']
    | succ m ih =>
      intro l b x lm l3 b2 bl e
      rw [amx] at e
      refine u_X6_fair_5 (tx_mono _ _) ⟨fun c => by omega, fun _ => s_X6_haveBy mEa ⟨by omega, by omega⟩ (by omega) (s_X6_haveBy mEa ⟨by omega, by omega⟩ (by omega) ?_)⟩
      rw [fe, fe]
      refine ⟨fun c2 => u_X6_fair_6 (tx_mono _ _) (u_X6_fair_7 (tx_mono _ _) ⟨⟨by omega, by omega⟩, ?_⟩), fun c2 => u_X6_fair_7 (tx_mono _ _) ⟨⟨by omega, by omega⟩, ?_⟩⟩
      · rw [if_pos c2] at e
        exact ih (l + 1) b _ (by omega) (by omega) b2 (by omega) e
      · rw [if_neg c2] at e
        exact ih (l + 1) l _ (by omega) (by omega) (by omega) (by omega) e
  exact km 10 3 2 _ (by decide) (by decide) (by decide) (by decide) rfl
