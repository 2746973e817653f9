/-! ===== rhymed ===== -/
def wlF (b : BD) (l : Int) : Nat → Int → Int × Int → Int × Int
  | 0, _, s => s
  | m + 1, w, s => wlF b l m (w + 1) (if pby b l w ≤ s.2 then s else (100 * l + w, pby b l w))
def llF (b : BD) : Nat → Int → Int × Int → Int × Int
  | 0, _, s => s
  | m + 1, l, s => llF b m (l + 1) (wlF b l l.toNat 0 s)
theorem llF_0 {b : BD} (he : okE b) : llF b 11 2 (200, -1) = llF b 11 2 (200, pby b 2 0) := by
  have h := (pby_b he 2 0).1
  show llF b 10 3 (wlF b 2 1 1 (if pby b 2 0 ≤ -1 then (200, -1) else (200, pby b 2 0))) = llF b 10 3 (wlF b 2 1 1 (if pby b 2 0 ≤ pby b 2 0 then (200, pby b 2 0) else (200, pby b 2 0)))
  rw [if_neg (by omega), if_pos (by omega)]
theorem x_rhymed {d : Nat} {a : Int} {h : AH} {K : AK} (he : okE (fX h 1)) (q : ∀ x y z, Bx z0 0 (tx mt (d + 29)) k_X5_rhymed K 6 [some (vR 0), some (vI a), some (vI (llF (fX h 1) 11 2 (200, -1)).1), some (vI (llF (fX h 1) 11 2 (200, -1)).2), x, y, z] [] h) : ∀ (m : Nat) (l : Int) (s : Int × Int) (x y : Option AV), l + m = 13 → 2 ≤ l → llF (fX h 1) m l s = llF (fX h 1) 11 2 (200, -1) → Bx z0 0 (tx mt (d + 29)) k_X5_rhymed K 2 [some (vR 0), some (vI a), some (vI s.1), some (vI s.2), some (vI l), x, y] [] h := by
  intro m
  induction m with
  | zero =>
    intro l s x y lm l2 e
    have e' : s = llF (fX h 1) 11 2 (200, -1) := e
    exact u_X5_rhymed_2 (tx_mono _ _) ⟨fun _ => by rw [e']; exact q _ _ _, fun c => by omega⟩
  | succ m ih =>
    intro l s x y lm l2 e
    rw [llF] at e
    have inner : ∀ (j : Nat) (w : Int) (s : Int × Int) (y : Option AV), w + j = l → 0 ≤ w → llF (fX h 1) m (l + 1) (wlF (fX h 1) l j w s) = llF (fX h 1) 11 2 (200, -1) → Bx z0 0 (tx mt (d + 29)) k_X5_rhymed K 3 [some (vR 0), some (vI a), some (vI s.1), some (vI s.2), some (vI l), some (vI w), y] [] h := by
      intro j
      induction j with
      | zero =>
        intro w s y wj w0 e
        exact u_X5_rhymed_3 (tx_mono _ _) ⟨fun _ => u_X5_rhymed_5 (tx_mono _ _) ⟨⟨by omega, by omega⟩, ih (l + 1) s _ _ (by omega) (by omega) e⟩, fun c => by omega⟩
      | succ j ihj =>
        intro w s y wj w0 e
        rw [wlF] at e
        refine u_X5_rhymed_3 (tx_mono _ _) ⟨fun c => by omega, fun _ => s_X0_pleasedBy he ⟨by omega, by omega⟩ ⟨by omega, by omega⟩ ⟨fun c => u_X5_rhymed_4 (tx_mono _ _) ⟨⟨by omega, by omega⟩, ?_⟩, fun c => ⟨⟨by omega, by omega⟩, ⟨by omega, by omega⟩, u_X5_rhymed_4 (tx_mono _ _) ⟨⟨by omega, by omega⟩, ?_⟩⟩⟩⟩
        · rw [if_pos c] at e
          exact ihj (w + 1) s _ (by omega) (by omega) e
        · rw [if_neg c] at e
          exact ihj (w + 1) (100 * l + w, pby (fX h 1) l w) _ (by omega) (by omega) e
    exact u_X5_rhymed_2 (tx_mono _ _) ⟨fun c => by omega, fun _ => inner l.toNat 0 s _ (by omega) (by decide) e⟩
theorem m_rhymed {d : Nat} {a : Int} {h : AH} {B : BD} {K : AK} (he : okE (fM h)) (hm : fM h = B) (q : ∀ x y z, Bx z0 0 (tx mt (d + 29)) k_X6_rhymed K 9 [some (vR 38), some (vI a), some (vI (llF B 11 2 (200, -1)).1), some (vI (llF B 11 2 (200, -1)).2), x, y, z] [] h) : ∀ (m : Nat) (l : Int) (s : Int × Int) (x y : Option AV), l + m = 13 → 2 ≤ l → llF B m l s = llF B 11 2 (200, -1) → Bx z0 0 (tx mt (d + 29)) k_X6_rhymed K 2 [some (vR 38), some (vI a), some (vI s.1), some (vI s.2), some (vI l), x, y] [] h := by
  intro m
  induction m with
  | zero =>
    intro l s x y lm l2 e
    have e' : s = llF B 11 2 (200, -1) := e
    exact u_X6_rhymed_2 (tx_mono _ _) ⟨fun _ => by rw [e']; exact q _ _ _, fun c => by omega⟩
  | succ m ih =>
    intro l s x y lm l2 e
    rw [llF] at e
    have inner : ∀ (j : Nat) (w : Int) (s : Int × Int) (y : Option AV), w + j = l → 0 ≤ w → llF B m (l + 1) (wlF B l j w s) = llF B 11 2 (200, -1) → Bx z0 0 (tx mt (d + 29)) k_X6_rhymed K 3 [some (vR 38), some (vI a), some (vI s.1), some (vI s.2), some (vI l), some (vI w), y] [] h := by
      intro j
      induction j with
      | zero =>
        intro w s y wj w0 e
        exact u_X6_rhymed_3 (tx_mono _ _) ⟨fun _ => u_X6_rhymed_8 (tx_mono _ _) ⟨⟨by omega, by omega⟩, ih (l + 1) s _ _ (by omega) (by omega) e⟩, fun c => by omega⟩
      | succ j ihj =>
        intro w s y wj w0 e
        rw [wlF] at e
        refine u_X6_rhymed_3 (tx_mono _ _) ⟨fun c => by omega, fun _ => s_X6_haveWith he ⟨by omega, by omega⟩ ⟨by omega, by omega⟩ ?_⟩
        rw [hm]
        refine ⟨fun c => u_X6_rhymed_4 (tx_mono _ _) (u_X6_rhymed_5 (tx_mono _ _) ⟨fun _ => u_X6_rhymed_6 (tx_mono _ _) (u_X6_rhymed_7 (tx_mono _ _) ⟨⟨by omega, by omega⟩, ?_⟩), fun y => absurd c y⟩), fun c => ⟨⟨by omega, by omega⟩, ⟨by omega, by omega⟩, u_X6_rhymed_5 (tx_mono _ _) ⟨fun y => absurd y c, fun _ => u_X6_rhymed_7 (tx_mono _ _) ⟨⟨by omega, by omega⟩, ?_⟩⟩⟩⟩
        · rw [if_pos c] at e
          exact ihj (w + 1) s _ (by omega) (by omega) e
        · rw [if_neg c] at e
          exact ihj (w + 1) (100 * l + w, pby B l w) _ (by omega) (by omega) e
    exact u_X6_rhymed_2 (tx_mono _ _) ⟨fun c => by omega, fun _ => inner l.toNat 0 s _ (by omega) (by decide) e⟩
theorem op_rhymed {a : Int} : OpI n_X5_rhymed n_X6_rhymed [vI a] := by
  intro d n h n0 n1 H
  have fa := H.facts
  unfold Facts at fa
  obtain ⟨oR, oE, oS, oP, oZ, mE, mR, mEa, mS, mZ⟩ := H.ok
  by_cases c : a < 0 ∨ 1 < a
  · skip
    repeat' first
      | first | exact H.m12 | exact H.rf (by decide) (by decide)
      | (with_reducible refine exI ?_)
      | (with_reducible refine exL ?_)
      | (with_reducible refine exV ?_)
      | (with_reducible apply And.intro)
      | (with_reducible refine cI_i (e_X5_rhymed ?_))
      | (with_reducible refine cL_i (e_X5_rhymed ?_))
      | (with_reducible refine cV_i (e_X5_rhymed ?_))
      | (with_reducible refine u_X5_rhymed_1 (tx_mono _ _) ?_)
      | (with_reducible refine u_X5_rhymed_2 (tx_mono _ _) ?_)
      | (with_reducible refine u_X5_rhymed_3 (tx_mono _ _) ?_)
      | (with_reducible refine u_X5_rhymed_4 (tx_mono _ _) ?_)
      | (with_reducible refine u_X5_rhymed_5 (tx_mono _ _) ?_)
      | (with_reducible refine u_X5_rhymed_6 (tx_mono _ _) ?_)
      | (with_reducible refine u_X5_rhymed_7 (tx_mono _ _) ?_)
      | (with_reducible refine u_X5_rhymed_8 (tx_mono _ _) ?_)
      | (with_reducible refine cI_i (e_X6_rhymed ?_))
      | (with_reducible refine cL_i (e_X6_rhymed ?_))
      | (with_reducible refine cV_i (e_X6_rhymed ?_))
      | (with_reducible refine u_X6_rhymed_1 (tx_mono _ _) ?_)
      | (with_reducible refine u_X6_rhymed_2 (tx_mono _ _) ?_)
      | (with_reducible refine u_X6_rhymed_3 (tx_mono _ _) ?_)
      | (with_reducible refine u_X6_rhymed_4 (tx_mono _ _) ?_)
      | (with_reducible refine u_X6_rhymed_5 (tx_mono _ _) ?_)
      | (with_reducible refine u_X6_rhymed_6 (tx_mono _ _) ?_)
      | (with_reducible refine u_X6_rhymed_7 (tx_mono _ _) ?_)
      | (with_reducible refine u_X6_rhymed_8 (tx_mono _ _) ?_)
      | (with_reducible refine u_X6_rhymed_9 (tx_mono _ _) ?_)
      | (with_reducible refine u_X6_rhymed_10 (tx_mono _ _) ?_)
      | (with_reducible refine u_X6_rhymed_11 (tx_mono _ _) ?_)
      | (with_reducible apply s_X0_pleasedBy)
      | (with_reducible apply c_X5_refuse)
      | (with_reducible apply s_X6_haveWith)
      | (with_reducible apply c_X6_in)
      | (with_reducible apply c_X6_refuse)
      | exact isB1
      | exact True.intro
      | (intro _ e9; subst e9)
      | (intro c9; exfalso; first | omega | (simp only [inI, upI_e, Nat.reduceEqDiff, Nat.reduceAdd, true_and, and_true, false_and, and_false, if_true, if_false, ite_true, ite_false, reduceIte, Int.reduceEq, not_true_eq_false, not_false_eq_true, Decidable.not_not] at c9; omega))
      | (intro c9; (try simp only [inI, upI_e, Nat.reduceEqDiff, Nat.reduceAdd, true_and, and_true, false_and, and_false, if_true, if_false, ite_true, ite_false, reduceIte, Int.reduceEq, not_true_eq_false, not_false_eq_true, Decidable.not_not] at c9))
      | (with_reducible show _ ≤ _; first | omega | (simp only [inI, upI_e, Nat.reduceEqDiff, Nat.reduceAdd, true_and, and_true, false_and, and_false, if_true, if_false, ite_true, ite_false, reduceIte, Int.reduceEq, not_true_eq_false, not_false_eq_true, Decidable.not_not]; omega))
      | (with_reducible show _ < _; first | omega | (simp only [inI, upI_e, Nat.reduceEqDiff, Nat.reduceAdd, true_and, and_true, false_and, and_false, if_true, if_false, ite_true, ite_false, reduceIte, Int.reduceEq, not_true_eq_false, not_false_eq_true, Decidable.not_not]; omega))
      | (with_reducible show _ = _; first | omega | (simp only [inI, upI_e, Nat.reduceEqDiff, Nat.reduceAdd, true_and, and_true, false_and, and_false, if_true, if_false, ite_true, ite_false, reduceIte, Int.reduceEq, not_true_eq_false, not_false_eq_true, Decidable.not_not]; omega))
      | (with_reducible show _ ∧ _; first | omega | (simp only [inI, upI_e, Nat.reduceEqDiff, Nat.reduceAdd, true_and, and_true, false_and, and_false, if_true, if_false, ite_true, ite_false, reduceIte, Int.reduceEq, not_true_eq_false, not_false_eq_true, Decidable.not_not]; omega))
      | (with_reducible show _ ∨ _; first | omega | (simp only [inI, upI_e, Nat.reduceEqDiff, Nat.reduceAdd, true_and, and_true, false_and, and_false, if_true, if_false, ite_true, ite_false, reduceIte, Int.reduceEq, not_true_eq_false, not_false_eq_true, Decidable.not_not]; omega))
      | (with_reducible show inI _; first | omega | (simp only [inI, upI_e, Nat.reduceEqDiff, Nat.reduceAdd, true_and, and_true, false_and, and_false, if_true, if_false, ite_true, ite_false, reduceIte, Int.reduceEq, not_true_eq_false, not_false_eq_true, Decidable.not_not]; omega))
      | (with_reducible show ¬ _; first | omega | (simp only [inI, upI_e, Nat.reduceEqDiff, Nat.reduceAdd, true_and, and_true, false_and, and_false, if_true, if_false, ite_true, ite_false, reduceIte, Int.reduceEq, not_true_eq_false, not_false_eq_true, Decidable.not_not]; omega))
  have x : ∀ K : Int → AH → Prop, K (if a = 0 then (llF (fX h 1) 11 2 (200, -1)).1 else (llF (fX h 1) 11 2 (200, -1)).2) h → cI (tx mt (d + 30)) n_X5_rhymed [vR 0, vI a] h K := by
    intro K q
    have go : Bx z0 0 (tx mt (d + 29)) k_X5_rhymed (fun r h' => ∃ z, r = some (.inl z) ∧ K z h') 1 [some (vR 0), some (vI a), none, none, none, none, none] [] h :=
      u_X5_rhymed_1 (tx_mono _ _) (x_rhymed oE (fun x y z => u_X5_rhymed_6 (tx_mono _ _) ⟨fun c1 => u_X5_rhymed_7 (tx_mono _ _) (u_X5_rhymed_8 (tx_mono _ _) (exI (kq q (by rw [if_neg c1])))), fun c1 => u_X5_rhymed_8 (tx_mono _ _) (exI (kq q (by rw [if_pos (by omega)])))⟩) 11 2 (200, -1) _ _ (by decide) (by decide) rfl)
    exact cI_i (e_X5_rhymed ⟨fun _ => go, fun _ => ⟨fun _ => go, fun _ => by omega⟩⟩)
  refine x _ ?_
  refine cI_i (e_X6_rhymed ?_)
  intro h1 w1
  rw [w1]
  refine c_X6_in (fun _ => ⟨fun _ => u_X6_rhymed_1 (tx_mono _ _) (s_X6_haveWith mEa (by decide) (by decide) ?_), fun y => absurd (by decide) y⟩) (fun y => by omega)
  have mm := m_rhymed (d := d) (a := a) (K := (fun r h' => ∃ z, r = some (.inl z) ∧ ((if a = 0 then (llF (fX h 1) 11 2 (200, -1)).1 else (llF (fX h 1) 11 2 (200, -1)).2) = z ∧ Inv (n + 1) h'))) mEa mE (fun x y z => u_X6_rhymed_9 (tx_mono _ _) ⟨fun c1 => u_X6_rhymed_10 (tx_mono _ _) (u_X6_rhymed_11 (tx_mono _ _) (exI ⟨by rw [if_neg c1], H.m12⟩)), fun c1 => u_X6_rhymed_11 (tx_mono _ _) (exI ⟨by rw [if_pos (by omega)], H.m12⟩)⟩)
  rw [mE]
  exact mm 11 2 (200, pby (fX h 1) 2 0) _ _ (by decide) (by decide) (llF_0 oE).symm
