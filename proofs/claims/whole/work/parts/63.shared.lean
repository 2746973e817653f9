/-! ===== shared ===== -/
theorem c_X6_wrongShare {d : Nat} {a : Int} {h : AH} {k : Int → AH → Prop} (q1 : a < 0 ∨ 1 < a → k (-2) h) (q2 : (0 ≤ a ∧ a ≤ 1) ∧ (h.1 38 1 = 0 ∨ h.1 38 0 = 0) → k (-3) h) (q3 : (0 ≤ a ∧ a ≤ 1) ∧ ¬ h.1 38 1 = 0 ∧ ¬ h.1 38 0 = 0 → k 0 h) : cI (tx mt (d + 3)) n_X6_wrongShare [vR 38, vI a] h k :=
  cI_i (e_X6_wrongShare (c_X6_in (fun c => ⟨fun _ => u_X6_wrongShare_1 (tx_mono _ _) ⟨fun c2 => u_X6_wrongShare_2 (tx_mono _ _) (u_X6_wrongShare_4 (tx_mono _ _) (exI (q2 (by omega)))), fun c2 => ⟨fun c3 => u_X6_wrongShare_3 (tx_mono _ _) (u_X6_wrongShare_4 (tx_mono _ _) (exI (q3 (by omega)))), fun c3 => u_X6_wrongShare_2 (tx_mono _ _) (u_X6_wrongShare_4 (tx_mono _ _) (exI (q2 (by omega))))⟩⟩, fun y => absurd (by decide) y⟩) (fun c => ⟨fun y => absurd rfl y, fun _ => u_X6_wrongShare_4 (tx_mono _ _) (exI (q1 c))⟩)))
set_option maxHeartbeats 8000000 in
theorem shared_rf {a : Int} {d : Nat} {n : Int} {h : AH} (n0 : 0 ≤ n) (n1 : n ≤ 1000) (H : Inv n h) (c : (a < 0 ∨ 1 < a) ∨ h.1 1 3 = 0 ∨ h.1 1 0 = 0) : cL (tx mt (d + 30)) n_X5_shared [vR 0, vI a] h (fun z h1 => cL (tx mt (d + 30)) n_X6_shared [vR 38, vI a] h1 (fun z' h2 => z = z' ∧ Inv (n + 1) h2)) := by
  have fa := H.facts
  unfold Facts at fa
  repeat' first
    | first | exact H.m12 | exact H.rf (by decide) (by decide)
    | (with_reducible refine exI ?_)
    | (with_reducible refine exL ?_)
    | (with_reducible refine exV ?_)
    | (with_reducible apply And.intro)
    | (with_reducible refine cI_i (e_X5_shared ?_))
    | (with_reducible refine cL_i (e_X5_shared ?_))
    | (with_reducible refine cV_i (e_X5_shared ?_))
    | (with_reducible refine u_X5_shared_1 (tx_mono _ _) ?_)
    | (with_reducible refine u_X5_shared_2 (tx_mono _ _) ?_)
    | (with_reducible refine u_X5_shared_3 (tx_mono _ _) ?_)
    | (with_reducible refine u_X5_shared_4 (tx_mono _ _) ?_)
    | (with_reducible refine u_X5_shared_5 (tx_mono _ _) ?_)
    | (with_reducible refine cI_i (e_X6_shared ?_))
    | (with_reducible refine cL_i (e_X6_shared ?_))
    | (with_reducible refine cV_i (e_X6_shared ?_))
    | (with_reducible refine u_X6_shared_1 (tx_mono _ _) ?_)
    | (with_reducible refine u_X6_shared_2 (tx_mono _ _) ?_)
    | (with_reducible refine u_X6_shared_3 (tx_mono _ _) ?_)
    | (with_reducible refine u_X6_shared_4 (tx_mono _ _) ?_)
    | (with_reducible refine u_X6_shared_5 (tx_mono _ _) ?_)
    | (with_reducible apply s_X4_waysToPleaseAll)
    | (with_reducible apply c_X5_refuseLong)
    | (with_reducible apply s_X6_beginWays)
    | (with_reducible apply s_X6_eatsToo)
    | (with_reducible apply c_X6_refuse)
    | (with_reducible apply c_X6_wrongShare)
    | exact isB1
    | exact True.intro
    | (intro _ e9; subst e9)
    | (intro c9; exfalso; first | omega | (simp only [inI, inL, upI_e, Nat.reduceEqDiff, Nat.reduceAdd, true_and, and_true, false_and, and_false, if_true, if_false, ite_true, ite_false, reduceIte, Int.reduceEq, not_true_eq_false, not_false_eq_true, Decidable.not_not] at c9; omega))
    | (intro c9; (try simp only [inI, inL, upI_e, Nat.reduceEqDiff, Nat.reduceAdd, true_and, and_true, false_and, and_false, if_true, if_false, ite_true, ite_false, reduceIte, Int.reduceEq, not_true_eq_false, not_false_eq_true, Decidable.not_not] at c9))
    | (with_reducible show _ ≤ _; first | omega | (simp only [inI, inL, upI_e, Nat.reduceEqDiff, Nat.reduceAdd, true_and, and_true, false_and, and_false, if_true, if_false, ite_true, ite_false, reduceIte, Int.reduceEq, not_true_eq_false, not_false_eq_true, Decidable.not_not]; omega))
    | (with_reducible show _ < _; first | omega | (simp only [inI, inL, upI_e, Nat.reduceEqDiff, Nat.reduceAdd, true_and, and_true, false_and, and_false, if_true, if_false, ite_true, ite_false, reduceIte, Int.reduceEq, not_true_eq_false, not_false_eq_true, Decidable.not_not]; omega))
    | (with_reducible show _ = _; first | omega | (simp only [inI, inL, upI_e, Nat.reduceEqDiff, Nat.reduceAdd, true_and, and_true, false_and, and_false, if_true, if_false, ite_true, ite_false, reduceIte, Int.reduceEq, not_true_eq_false, not_false_eq_true, Decidable.not_not]; omega))
    | (with_reducible show _ ∧ _; first | omega | (simp only [inI, inL, upI_e, Nat.reduceEqDiff, Nat.reduceAdd, true_and, and_true, false_and, and_false, if_true, if_false, ite_true, ite_false, reduceIte, Int.reduceEq, not_true_eq_false, not_false_eq_true, Decidable.not_not]; omega))
    | (with_reducible show _ ∨ _; first | omega | (simp only [inI, inL, upI_e, Nat.reduceEqDiff, Nat.reduceAdd, true_and, and_true, false_and, and_false, if_true, if_false, ite_true, ite_false, reduceIte, Int.reduceEq, not_true_eq_false, not_false_eq_true, Decidable.not_not]; omega))
    | (with_reducible show inI _; first | omega | (simp only [inI, inL, upI_e, Nat.reduceEqDiff, Nat.reduceAdd, true_and, and_true, false_and, and_false, if_true, if_false, ite_true, ite_false, reduceIte, Int.reduceEq, not_true_eq_false, not_false_eq_true, Decidable.not_not]; omega))
    | (with_reducible show inL _; first | omega | (simp only [inI, inL, upI_e, Nat.reduceEqDiff, Nat.reduceAdd, true_and, and_true, false_and, and_false, if_true, if_false, ite_true, ite_false, reduceIte, Int.reduceEq, not_true_eq_false, not_false_eq_true, Decidable.not_not]; omega))
    | (with_reducible show ¬ _; first | omega | (simp only [inI, inL, upI_e, Nat.reduceEqDiff, Nat.reduceAdd, true_and, and_true, false_and, and_false, if_true, if_false, ite_true, ite_false, reduceIte, Int.reduceEq, not_true_eq_false, not_false_eq_true, Decidable.not_not]; omega))
theorem m12_1 {h h1 : AH} (e : h1.1 = h.1) : (upI h1 38 12 0).1 = (upI h 38 12 0).1 := by
  unfold upI
  rw [e]
theorem op_shared {a : Int} : OpL n_X5_shared n_X6_shared [vI a] := by
  intro d n h n0 n1 H
  have fa := H.facts
  unfold Facts at fa
  obtain ⟨oR, oE, oS, oP, oZ, mE, mR, mEa, mS, mZ⟩ := H.ok
  by_cases c : (a < 0 ∨ 1 < a) ∨ h.1 1 3 = 0 ∨ h.1 1 0 = 0
  · exact shared_rf n0 n1 H c
  generalize es : (if a = 0 then 1 else h.1 1 9) = s
  have s14 : 1 ≤ s ∧ s ≤ 4 := by rw [← es]; split <;> omega
  have x : ∀ K : Int → AH → Prop, (∀ h1, h1.1 = h.1 → K (wW (plP (fX h 1)) s (h.1 1 3).toNat (h.1 1 8)) h1) → cL (tx mt (d + 30)) n_X5_shared [vR 0, vI a] h K := by
    intro K q
    have g : ∀ s', s' = s → Bx z0 0 (tx mt (d + 29)) k_X5_shared (fun r h' => ∃ z, r = some (.inr (.inl z)) ∧ K z h') 5 [some (vR 0), some (vI a)] [vI s', vR 1, vR 35] h := by
      intro s' e
      rw [e]
      exact u_X5_shared_5 (tx_mono _ _) (s_X4_waysToPleaseAll oR oE (by omega) (by omega) s14.1 s14.2 (fun h1 e1 => exL (q h1 e1)))
    have g1 : Bx z0 0 (tx mt (d + 29)) k_X5_shared (fun r h' => ∃ z, r = some (.inr (.inl z)) ∧ K z h') 1 [some (vR 0), some (vI a)] [] h := u_X5_shared_1 (tx_mono _ _) ⟨fun _ => by omega, fun _ => ⟨fun _ => u_X5_shared_3 (tx_mono _ _) ⟨fun c2 => u_X5_shared_4 (tx_mono _ _) (u_X5_shared_5 (tx_mono _ _) (s_X4_waysToPleaseAll oR oE (by omega) (by omega) (by omega) (by omega) (fun h1 e1 => exL (by have := q h1 e1; rw [← es, if_neg c2] at this; exact this)))), fun c2 => g 1 (by rw [← es, if_pos (by omega)])⟩, fun _ => by omega⟩⟩
    exact cL_i (e_X5_shared ⟨fun _ => g1, fun _ => ⟨fun _ => g1, fun _ => by omega⟩⟩)
  refine x _ (fun h1 e1 => cL_i (e_X6_shared (fun h2 w2 => ?_)))
  have e2 : h2.1 = (upI h 38 12 0).1 := by rw [w2]; exact m12_1 e1
  have c0 : h2.1 38 0 = h.1 1 0 := by rw [e2]; (simp only [inI, inL, upI_e, Nat.reduceEqDiff, Nat.reduceAdd, true_and, and_true, false_and, and_false, if_true, if_false, ite_true, ite_false, reduceIte, Int.reduceEq, not_true_eq_false, not_false_eq_true, Decidable.not_not]); omega
  have c1 : h2.1 38 1 = h.1 1 3 := by rw [e2]; (simp only [inI, inL, upI_e, Nat.reduceEqDiff, Nat.reduceAdd, true_and, and_true, false_and, and_false, if_true, if_false, ite_true, ite_false, reduceIte, Int.reduceEq, not_true_eq_false, not_false_eq_true, Decidable.not_not]); omega
  have c2 : h2.1 38 2 = h.1 1 8 := by rw [e2]; (simp only [inI, inL, upI_e, Nat.reduceEqDiff, Nat.reduceAdd, true_and, and_true, false_and, and_false, if_true, if_false, ite_true, ite_false, reduceIte, Int.reduceEq, not_true_eq_false, not_false_eq_true, Decidable.not_not]); omega
  have c3 : h2.1 38 3 = h.1 1 9 := by rw [e2]; (simp only [inI, inL, upI_e, Nat.reduceEqDiff, Nat.reduceAdd, true_and, and_true, false_and, and_false, if_true, if_false, ite_true, ite_false, reduceIte, Int.reduceEq, not_true_eq_false, not_false_eq_true, Decidable.not_not]); omega
  have m2 : fM h2 = fX h 1 := by rw [fM_1 e2]; exact mE
  have lp : ∀ (m i : Nat) (h' : AH), i + m = (h.1 1 3).toNat → h'.1 = h2.1 → (∀ j, 0 ≤ j → j ≤ h.1 1 8 → h'.2.1 55 j = wW (plP (fX h 1)) s i j) → Bx z0 0 (tx mt (d + 29)) k_X6_shared (fun r h' => ∃ z', r = some (.inr (.inl z')) ∧ wW (plP (fX h 1)) s (h.1 1 3).toNat (h.1 1 8) = z' ∧ Inv (n + 1) h') 2 [some (vR 38), some (vI a), some (vI ((i : Int)))] [] h' := by
    intro m
    induction m with
    | zero =>
      intro i h' im e' hc
      refine u_X6_shared_2 (tx_mono _ _) ⟨fun _ => u_X6_shared_5 (tx_mono _ _) ?_, fun y => by rw [e'] at y; omega⟩
      rw [e', c2, hc (h.1 1 8) (by omega) (Int.le_refl _), show i = (h.1 1 3).toNat by omega]
      exact ⟨by omega, by omega, exL ⟨rfl, H.scr (fun c _ _ _ _ _ _ => by rw [e', e2])⟩⟩
    | succ m ih =>
      intro i h' im e' hc
      have mm : fM h' = fX h 1 := by rw [fM_1 e', m2]
      have g : ∀ s', s' = s → Bx z0 0 (tx mt (d + 29)) k_X6_shared (fun r h' => ∃ z', r = some (.inr (.inl z')) ∧ wW (plP (fX h 1)) s (h.1 1 3).toNat (h.1 1 8) = z' ∧ Inv (n + 1) h') 4 [some (vR 38), some (vI a), some (vI ((i : Int)))] [vI s', vI 1, vI (i : Int), vR 38] h' := by
        intro s' es'
        rw [es']
        refine u_X6_shared_4 (tx_mono _ _) (s_X6_eatsToo (g := wW (plP (fX h 1)) s i) (by rw [mm]; exact oR) (by rw [mm]; exact oE) (by rw [e']; omega) (by rw [e']; omega) (by rw [e']; omega) s14.1 s14.2 (fun j a b => ⟨hc j a (by rw [e'] at b; omega), wW_b4 s14.1 (by omega) j⟩) (fun h3 e3 hc3 => ⟨⟨by omega, by omega⟩, ih (i + 1) h3 (by omega) (by rw [e3, e']) (fun j a b => ?_)⟩))
        rw [hc3 j a (by rw [e']; omega), mm]
        exact wR_c s14.1 (fun t _ _ => by rw [orP, if_neg (by decide)]) (fun _ _ _ => rfl) 61 0 (Int.le_refl _)
      refine u_X6_shared_2 (tx_mono _ _) ⟨fun y => by rw [e'] at y; omega, fun _ => ⟨fun y => u_X6_shared_3 (tx_mono _ _) (g _ (by rw [e', c3, ← es, if_neg y])), fun y => g 1 (by rw [← es, if_pos (by omega)])⟩⟩
  exact c_X6_wrongShare (fun _ => by omega) (fun y => by omega) (fun _ => ⟨fun _ => u_X6_shared_1 (tx_mono _ _) (s_X6_beginWays (P := plP (fX h 1)) (s := s) (fun h3 e3 hc => lp (h.1 1 3).toNat 0 h3 (by omega) e3 (fun j a b => hc j a (by omega)))), fun y => absurd (by decide) y⟩)
