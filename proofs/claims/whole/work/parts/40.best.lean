/-! ===== best, rims, wished ===== -/
def bestF (b : BD) (a : Int) : Nat → Int → Int
  | 0, _ => -9
  | m + 1, k => if isP (supB 100 0 (putB 3 a k b)).2 a = true then k else bestF b a m (k + 1)
theorem x_best {d : Nat} {a : Int} {h : AH} {K : Int → AH → Prop} (hb : okBd (fX h 1)) (hn : (fX h 1).1 5 < (fX h 1).1 1) (a0 : 0 ≤ a) (a4 : a < 4) : ∀ (m : Nat) (k : Int) (h' : AH), k + m = 6 → 0 ≤ k → Fx h h' → (∀ h1, Fx h h1 → K (bestF (fX h 1) a m k) h1) → Bx z0 0 (tx mt (d + 29)) k_X5_best (fun r h' => ∃ z, r = some (.inl z) ∧ K z h') 2 [some (vR 0), some (vI a), some (vI k)] [] h' := by
  intro m
  induction m with
  | zero =>
    intro k h' km k0 F q
    exact u_X5_best_2 (tx_mono _ _) ⟨fun _ => u_X5_best_4 (tx_mono _ _) (exI (q h' F)), fun c => by omega⟩
  | succ m ih =>
    intro k h' km k0 F q
    refine u_X5_best_2 (tx_mono _ _) ⟨fun c => by omega, fun _ => sx_copy F hb.2.2.2.2 (fun h1 x1 F1 => ⟨a0, a4, fun h2 w2 => ?_⟩)⟩
    have hp := hb.put (j := 3) (e := a) (v := k) a0 a4 (by omega)
    have x2 : fX h2 9 = putB 3 a k (fX h 1) := by rw [w2, fX_put (j := 3) (by decide) (by decide), x1]
    have F2 : Fx h h2 := by rw [w2] at x2 ⊢; exact F1.put (by decide) (by decide) (by rw [x2]; exact hp.2.2.2.2)
    refine sx_eat F2 (by rw [x2]; exact hp) (by rw [x2]; exact hn) (fun h3 x3 F3 => ?_)
    rw [x2] at x3
    have sk := supB_ok 100 0 _ hp hn
    refine s_X0_isPleased isB9 (by rw [x3]; exact sk.1.1) (by rw [x3]; exact sk.1.2.1) ?_
    rw [x3]
    rw [bestF] at q
    refine ⟨fun c => u_X5_best_3 (tx_mono _ _) ⟨⟨by omega, by omega⟩, ih (k + 1) h3 (by omega) (by omega) F3 ?_⟩, fun c => exI ?_⟩
    · rw [b2i_z c] at q
      exact q
    · rw [if_pos (b2i_o c)] at q
      exact q h3 F3
theorem m_best {d : Nat} {a : Int} {h : AH} {B : BD} {K : Int → AH → Prop} (hb : okBd B) (hn : B.1 5 < B.1 1) (a0 : 0 ≤ a) (a4 : a < B.1 1) : ∀ (m : Nat) (k : Int) (h' : AH), k + m = 6 → 0 ≤ k → Gm B h h' → (∀ h1, Gm B h h1 → fM h1 = B → K (bestF B a m k) h1) → Bx z0 0 (tx mt (d + 29)) k_X6_best (fun r h' => ∃ z, r = some (.inl z) ∧ K z h') 2 [some (vR 38), some (vI a), some (vI (-9)), some (vI k)] [] h' := by
  have e4 := hb.2.1.2.1
  intro m
  induction m with
  | zero =>
    intro k h' km k0 G q
    exact u_X6_best_2 (tx_mono _ _) ⟨fun _ => u_X6_best_5 (tx_mono _ _) (sm_put G hb.2.2.2.2 (fun h1 m1 G1 => exI (q h1 G1 m1))), fun c => by omega⟩
  | succ m ih =>
    intro k h' km k0 G q
    refine u_X6_best_2 (tx_mono _ _) ⟨fun c => by omega, fun _ => ⟨fun c => by omega, fun _ => sm_put G hb.2.2.2.2 (fun h1 m1 G1 => ⟨a0, by omega, fun h2 w2 => ?_⟩)⟩⟩
    have hp := hb.put (j := 3) (e := a) (v := k) a0 (by omega) (by omega)
    have m2 : fM h2 = putB 3 a k B := by rw [w2, fM_put (j := 3) (by decide) (by decide), m1]
    have G2 : Gm B h h2 := by rw [w2] at m2 ⊢; exact G1.put (by omega) (by rw [m2]; exact hp.2.2.2.2)
    refine sm_eat G2 (by rw [m2]; exact hp) (by rw [m2]; exact hn) (fun h3 m3 G3 => ?_)
    rw [m2] at m3
    have sk := supB_ok 100 0 _ hp hn
    have e1 : (supB 100 0 (putB 3 a k B)).2.1 1 = B.1 1 := sk.2.2.1
    refine s_X6_has (by rw [m3]; exact sk.1.1) (by rw [m3]; exact sk.1.2.1) a0 (by rw [m3, e1]; exact a4) ?_
    rw [m3]
    rw [bestF] at q
    refine ⟨fun c => u_X6_best_3 (tx_mono _ _) (u_X6_best_4 (tx_mono _ _) ⟨⟨by omega, by omega⟩, ih (k + 1) h3 (by omega) (by omega) G3 ?_⟩), fun c => u_X6_best_4 (tx_mono _ _) ⟨⟨by omega, by omega⟩, ?_⟩⟩
    · rw [b2i_z c] at q
      exact q
    · rw [if_pos (b2i_o c)] at q
      have ex := u_X6_best_5 (T := tx mt (d + 29)) (K := (fun r h' => ∃ z, r = some (.inl z) ∧ K z h')) (h := h3) (a2 := k) (x1 := some (vI a)) (x3 := some (vI (k + 1))) (tx_mono _ _) (sm_put G3 hb.2.2.2.2 (fun h1 m1 G1 => exI (q h1 G1 m1)))
      exact u_X6_best_2 (tx_mono _ _) ⟨fun _ => ex, fun _ => ⟨fun _ => ex, fun y => by omega⟩⟩
theorem op_best {a : Int} : OpI n_X5_best n_X6_best [vI a] := by
  intro d n h n0 n1 H
  have fa := H.facts
  unfold Facts at fa
  obtain ⟨oR, oE, oS, oP, oZ, mE, mR, mEa, mS, mZ⟩ := H.ok
  have gn := H.next
  by_cases c : a < 0 ∨ h.1 1 3 ≤ a
  · skip
    repeat' first
      | first | exact H.m12 | exact H.rf (by decide) (by decide)
      | (with_reducible refine exI ?_)
      | (with_reducible refine exL ?_)
      | (with_reducible refine exV ?_)
      | (with_reducible apply And.intro)
      | (with_reducible refine cI_i (e_X5_best ?_))
      | (with_reducible refine cL_i (e_X5_best ?_))
      | (with_reducible refine cV_i (e_X5_best ?_))
      | (with_reducible refine u_X5_best_1 (tx_mono _ _) ?_)
      | (with_reducible refine u_X5_best_2 (tx_mono _ _) ?_)
      | (with_reducible refine u_X5_best_3 (tx_mono _ _) ?_)
      | (with_reducible refine u_X5_best_4 (tx_mono _ _) ?_)
      | (with_reducible refine cI_i (e_X6_best ?_))
      | (with_reducible refine cL_i (e_X6_best ?_))
      | (with_reducible refine cV_i (e_X6_best ?_))
      | (with_reducible refine u_X6_best_1 (tx_mono _ _) ?_)
      | (with_reducible refine u_X6_best_2 (tx_mono _ _) ?_)
      | (with_reducible refine u_X6_best_3 (tx_mono _ _) ?_)
      | (with_reducible refine u_X6_best_4 (tx_mono _ _) ?_)
      | (with_reducible refine u_X6_best_5 (tx_mono _ _) ?_)
      | (with_reducible apply s_X0_copyFrom)
      | (with_reducible apply s_X0_eatUp)
      | (with_reducible apply c_X0_hasEater)
      | (with_reducible apply s_X0_isPleased)
      | (with_reducible apply c_X5_refuse)
      | (with_reducible apply s_X6_has)
      | (with_reducible apply c_X6_isEater)
      | (with_reducible apply s_X6_open)
      | (with_reducible apply s_X6_putBack)
      | (with_reducible apply c_X6_refuse)
      | (with_reducible apply s_X6_supperNow)
      | exact isB1
      | exact True.intro
      | (intro _ e9; subst e9)
      | (intro c9; exfalso; first | omega | (simp only [inI, upI_e, Nat.reduceEqDiff, Nat.reduceAdd, true_and, and_true, false_and, and_false, if_true, if_false, ite_true, ite_false, reduceIte, Int.reduceEq, not_true_eq_false, not_false_eq_true, Decidable.not_not] at c9; omega))
      | (intro c9; (try simp only [inI, upI_e, Nat.reduceEqDiff, Nat.reduceAdd, true_and, and_true, false_and, and_false, if_true, if_false, ite_true, ite_false, reduceIte, Int.reduceEq, not_true_eq_false, not_false_eq_true, Decidable.not_not] at c9))
      | (with_reducible show _ ≤ _; first | omega | (simp only [inI, upI_e, Nat.reduceEqDiff, Nat.reduceAdd, true_and, and_true, false_and, and_false, if_true, if_false, ite_true, ite_false, reduceIte, Int.reduceEq, not_true_eq_false, not_false_eq_true, Decidable.not_not]; omega))
      | (with_reducible show _ < _; first | omega | (simp only [inI, upI_e, Nat.reduceEqDiff, Nat.reduceAdd, true_and, and_true, false_and, and_false, if_true, if_false, ite_true, ite_false, reduceIte, Int.reduceEq, not_true_eq_false, not_false_eq_true, Decidable.not_not]; omega))
      | (with_reducible show _ = _; first | omega | (simp only [inI, upI_e, Nat.reduceEqDiff, Nat.reduceAdd, true_and, and_true, false_and, and_false, if_true, if_false, ite_true, ite_false, reduceIte, Int.reduceEq, not_true_eq_false, not_false_eq_true, Decidable.not_not]; omega))
      | (with_reducible show _ ∧ _; first | omega | (simp only [inI, upI_e, Nat.reduceEqDiff, Nat.reduceAdd, true_and, and_true, false_and, and_false, if_true, if_false, ite_true, ite_false, reduceIte, Int.reduceEq, not_true_eq_false, not_false_eq_true, Decidable.not_not]; omega))
      | (with_reducible show _ ∨ _; first | omega | (simp only [inI, upI_e, Nat.reduceEqDiff, Nat.reduceAdd, true_and, and_true, false_and, and_false, if_true, if_false, ite_true, ite_false, reduceIte, Int.reduceEq, not_true_eq_false, not_false_eq_true, Decidable.not_not]; omega))
      | (with_reducible show inI _; first | omega | (simp only [inI, upI_e, Nat.reduceEqDiff, Nat.reduceAdd, true_and, and_true, false_and, and_false, if_true, if_false, ite_true, ite_false, reduceIte, Int.reduceEq, not_true_eq_false, not_false_eq_true, Decidable.not_not]; omega))
      | (with_reducible show ¬ _; first | omega | (simp only [inI, upI_e, Nat.reduceEqDiff, Nat.reduceAdd, true_and, and_true, false_and, and_false, if_true, if_false, ite_true, ite_false, reduceIte, Int.reduceEq, not_true_eq_false, not_false_eq_true, Decidable.not_not]; omega))
  have hn : (fX h 1).1 5 < (fX h 1).1 1 := by show h.1 1 11 < h.1 1 3; omega
  refine cI_i (e_X5_best (c_X0_hasEater isB1 (fun _ => ⟨fun _ => u_X5_best_1 (tx_mono _ _) (x_best H.1.1 hn (by omega) (by omega) 6 0 h (by decide) (by decide) (Fx.rf H.2.1.1) (fun h2 F2 => ?_)), fun y => absurd (by decide) y⟩) (fun _ => by omega)))
  have a1 := (F2.e H).1
  refine cI_i (e_X6_best ?_)
  intro h3 w3
  refine c_X6_isEater (by rw [w3]; omega) (fun _ => ⟨fun _ => u_X6_best_1 (tx_mono _ _) ?_, fun y => absurd (by decide) y⟩) (fun y => by rw [w3] at y; omega)
  rw [w3]
  exact sm_open0 H F2 (fun h4 m4 G4 => m_best H.1.1 hn (by omega) (by show a < h.1 1 3; omega) 6 0 h4 (by decide) (by decide) G4 (fun h5 G5 m5 => fin2 H F2 G5 m5 rfl))
