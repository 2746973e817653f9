/-! ===== simple operations ===== -/
theorem cI_i {T : AT} {id : Nat} {as : List AV} {h : AH} {k : Int → AH → Prop} (q : T id as h (fun r h' => ∃ z, r = some (.inl z) ∧ k z h')) : cI T id as h k := q
theorem cL_i {T : AT} {id : Nat} {as : List AV} {h : AH} {k : Int → AH → Prop} (q : T id as h (fun r h' => ∃ z, r = some (.inr (.inl z)) ∧ k z h')) : cL T id as h k := q
theorem cV_i {T : AT} {id : Nat} {as : List AV} {h : AH} {k : AH → Prop} (q : T id as h (fun r h' => r = none ∧ k h')) : cV T id as h k := q
theorem exI {P : Int → Prop} {x : Int} (p : P x) : ∃ z, some (vI x) = some (Sum.inl z) ∧ P z := ⟨x, rfl, p⟩
theorem exL {P : Int → Prop} {x : Int} (p : P x) : ∃ z, some (vL x) = some (Sum.inr (Sum.inl z)) ∧ P z := ⟨x, rfl, p⟩
theorem exV {P : Prop} (p : P) : (none : Option AV) = none ∧ P := ⟨rfl, p⟩
theorem isB1 : isB 1 := Or.inl rfl
theorem isB9 : isB 9 := Or.inr (Or.inl rfl)
theorem isB17 : isB 17 := Or.inr (Or.inr rfl)
/-- both refused, nothing else is changed -/
theorem Inv.rf {n i : Int} {h : AH} (H : Inv n h) (h1 : 1 ≤ i) (h6 : i ≤ 6) : Inv (n + 1) (upI (upI (upI h 32 i (h.1 32 i + 1)) 38 12 0) 45 i (h.1 45 i + 1)) := by
  refine H.refuse h1 h6 (fun c j a1 a2 a3 a4 => ?_) (fun j a1 => ?_) ?_ (fun j => ?_) (fun j => ?_)
  · simp only [upI_e]
    repeat' rw [if_neg (by omega)]
  · unfold scS at a1
    simp only [upI_e]
    repeat' rw [if_neg (by omega)]
  · rw [fX_c (h := h) (k := 9) (fun c a b => by funext j; simp only [upI_e]; repeat' rw [if_neg (by omega)])]
    exact H.2.1.1
  · simp only [upI_e]
    by_cases hj : j = i
    · subst hj; simp
    · simp [hj]
  · simp only [upI_e]
    by_cases hj : j = i
    · subst hj; simp
    · simp [hj]
theorem c_X0_hasEater {d k0 : Nat} {e : Int} {h : AH} {k : Int → AH → Prop} (hB : isB k0) (q1 : 0 ≤ e ∧ e < h.1 k0 3 → k 1 h) (q2 : e < 0 ∨ h.1 k0 3 ≤ e → k 0 h) : cI (tx mt (d + 1)) n_X0_hasEater [vR k0, vI e] h k := by
  refine s_X0_hasEater hB ?_
  have f1 : (fX h k0).1 1 = h.1 k0 3 := rfl
  by_cases c : 0 ≤ e ∧ e < h.1 k0 3
  · rw [hasE_i c.1 c.2]; exact q1 c
  · rw [show hasE (fX h k0) e = false by simp only [hasE, f1, Bool.and_eq_false_iff, decide_eq_false_iff_not]; omega]; exact q2 (by omega)
theorem c_X0_hasRhyme {d k0 : Nat} {e : Int} {h : AH} {k : Int → AH → Prop} (hB : isB k0) (q1 : 0 ≤ e ∧ e < h.1 k0 0 → k 1 h) (q2 : e < 0 ∨ h.1 k0 0 ≤ e → k 0 h) : cI (tx mt (d + 1)) n_X0_hasRhyme [vR k0, vI e] h k := by
  refine s_X0_hasRhyme hB ?_
  have f1 : (fX h k0).1 0 = h.1 k0 0 := rfl
  by_cases c : 0 ≤ e ∧ e < h.1 k0 0
  · rw [show hasR (fX h k0) e = true by simp [hasR, f1, c.1, c.2]]; exact q1 c
  · rw [show hasR (fX h k0) e = false by simp only [hasR, f1, Bool.and_eq_false_iff, decide_eq_false_iff_not]; omega]; exact q2 (by omega)
theorem c_X6_in {d : Nat} {a b c : Int} {h : AH} {k : Int → AH → Prop} (q1 : b ≤ a ∧ a ≤ c → k 1 h) (q2 : a < b ∨ c < a → k 0 h) : cI (tx mt (d + 1)) n_X6_in [vL a, vL b, vL c] h k := by
  refine s_X6_in ?_
  by_cases x : b ≤ a ∧ a ≤ c
  · rw [show inB a b c = true by simp [inB, x.1, x.2]]; exact q1 x
  · rw [show inB a b c = false by simp only [inB, Bool.and_eq_false_iff, decide_eq_false_iff_not]; omega]; exact q2 (by omega)
theorem c_X6_isEater {d : Nat} {e : Int} {h : AH} {k : Int → AH → Prop} (h0 : 0 ≤ h.1 38 1 ∧ h.1 38 1 ≤ 4) (q1 : 0 ≤ e ∧ e < h.1 38 1 → k 1 h) (q2 : e < 0 ∨ h.1 38 1 ≤ e → k 0 h) : cI (tx mt (d + 2)) n_X6_isEater [vR 38, vI e] h k :=
  e_X6_isEater ⟨⟨by omega, by omega⟩, c_X6_in (fun x => ⟨Or.inr rfl, ⟨_, rfl, q1 (by omega)⟩⟩) (fun x => ⟨Or.inl rfl, ⟨_, rfl, q2 (by omega)⟩⟩)⟩
theorem c_X6_isRhyme {d : Nat} {e : Int} {h : AH} {k : Int → AH → Prop} (h0 : 0 ≤ h.1 38 0 ∧ h.1 38 0 ≤ 4) (q1 : 0 ≤ e ∧ e < h.1 38 0 → k 1 h) (q2 : e < 0 ∨ h.1 38 0 ≤ e → k 0 h) : cI (tx mt (d + 2)) n_X6_isRhyme [vR 38, vI e] h k :=
  e_X6_isRhyme ⟨⟨by omega, by omega⟩, c_X6_in (fun x => ⟨Or.inr rfl, ⟨_, rfl, q1 (by omega)⟩⟩) (fun x => ⟨Or.inl rfl, ⟨_, rfl, q2 (by omega)⟩⟩)⟩
theorem c_X6_wrongNumber {d : Nat} {a b c : Int} {h : AH} {k : Int → AH → Prop} (q1 : a < b → k (-4) h) (q2 : b ≤ a ∧ c < a → k (-6) h) (q3 : b ≤ a ∧ a ≤ c → k 0 h) : cI (tx mt (d + 1)) n_X6_wrongNumber [vI a, vI b, vI c] h k := by
  refine s_X6_wrongNumber ?_
  unfold wrongN
  split
  · exact q1 (by omega)
  · split
    · exact q2 (by omega)
    · exact q3 (by omega)
theorem c_X5_refuse {d : Nat} {i : Int} {h : AH} {k : Int → AH → Prop} (hb : 0 ≤ h.1 32 i ∧ h.1 32 i ≤ 100000) (h1 : 1 ≤ i) (h6 : i ≤ 6) (q : k (-i) (upI h 32 i (h.1 32 i + 1))) : cI (tx mt (d + 1)) n_X5_refuse [vR 0, vI (-i)] h k := s_X5_refuse h1 h6 hb q
theorem c_X5_refuseLong {d : Nat} {i : Int} {h : AH} {k : Int → AH → Prop} (hb : 0 ≤ h.1 32 i ∧ h.1 32 i ≤ 100000) (h1 : 1 ≤ i) (h6 : i ≤ 6) (q : k (4000000000000000000 + i) (upI h 32 i (h.1 32 i + 1))) : cL (tx mt (d + 2)) n_X5_refuseLong [vR 0, vI (-i)] h k := s_X5_refuseLong h1 h6 hb q
theorem c_X6_refuse {d : Nat} {i : Int} {h : AH} {k : Int → AH → Prop} (hb : 0 ≤ h.1 45 i ∧ h.1 45 i ≤ 100000) (h1 : 1 ≤ i) (h6 : i ≤ 6) (q : k (-i) (upI h 45 i (h.1 45 i + 1))) : cI (tx mt (d + 1)) n_X6_refuse [vR 38, vI (-i)] h k := s_X6_refuse h1 h6 hb q
/-- what omega needs of the invariant -/
def Facts (n : Int) (h : AH) : Prop := (h.1 38 0 = h.1 1 0 ∧ h.1 38 1 = h.1 1 3 ∧ h.1 38 2 = h.1 1 8 ∧ h.1 38 3 = h.1 1 9 ∧ h.1 38 4 = h.1 1 10 ∧ h.1 38 5 = h.1 1 11 ∧ h.1 38 39 = h.1 1 12) ∧ (0 ≤ h.1 1 0 ∧ h.1 1 0 ≤ 4 ∧ 0 ≤ h.1 1 3 ∧ h.1 1 3 ≤ 4 ∧ 0 ≤ h.1 1 8 ∧ h.1 1 8 ≤ 60 ∧ 1 ≤ h.1 1 9 ∧ h.1 1 9 ≤ 4 ∧ 1 ≤ h.1 1 10 ∧ h.1 1 10 ≤ 6 ∧ 0 ≤ h.1 1 11 ∧ 0 ≤ h.1 1 12 ∧ h.1 1 12 ≤ 4) ∧ (h.1 45 1 = h.1 32 1 ∧ 0 ≤ h.1 32 1 ∧ h.1 32 1 ≤ n) ∧ (h.1 45 2 = h.1 32 2 ∧ 0 ≤ h.1 32 2 ∧ h.1 32 2 ≤ n) ∧ (h.1 45 3 = h.1 32 3 ∧ 0 ≤ h.1 32 3 ∧ h.1 32 3 ≤ n) ∧ (h.1 45 4 = h.1 32 4 ∧ 0 ≤ h.1 32 4 ∧ h.1 32 4 ≤ n) ∧ (h.1 45 6 = h.1 32 6 ∧ 0 ≤ h.1 32 6 ∧ h.1 32 6 ≤ n) ∧ (h.1 0 7 = h.1 38 43 ∧ 0 ≤ h.1 0 7 ∧ h.1 0 7 ≤ 12) ∧ (h.1 25 1 = h.1 38 21 ∧ 0 ≤ h.1 25 1 ∧ h.1 25 1 ≤ 96) ∧ (h.1 27 3 = h.1 38 31 ∧ 0 ≤ h.1 27 3 ∧ h.1 27 3 ≤ 8)
theorem Inv.facts {n : Int} {h : AH} (H : Inv n h) : Facts n h := by
  obtain ⟨⟨⟨hr, he, hs, hp, -⟩, hm⟩, -, -, ⟨r1, r2, r3, -⟩, ⟨l1, l2, l3, -⟩, hF, ⟨p1, p2, p3, -⟩⟩ := H
  have m0 : ∀ n, (fM h).1 n = (fX h 1).1 n := fun n => by rw [hm]
  obtain ⟨s1, s2, s3, s4, s5, s6, s7, s8⟩ := hs
  exact ⟨⟨m0 0, m0 1, m0 2, m0 3, m0 4, m0 5, m0 6⟩, ⟨hr.1, hr.2.1, he.1, he.2.1, s1, s2, s3, s4, s5, s6, s7, hp.1, hp.2.1⟩, hF 1 (by decide) (by decide), hF 2 (by decide) (by decide), hF 3 (by decide) (by decide), hF 4 (by decide) (by decide), hF 6 (by decide) (by decide), ⟨r1, r2, r3⟩, ⟨l1, l2, l3⟩, ⟨p1, p2, p3⟩⟩
/-- the reference's rows are the component's -/
theorem IB.arr {h : AH} (H : IB h) : ∀ i, h.1 39 i = h.1 2 i ∧ h.1 40 i = h.1 3 i ∧ h.1 41 i = h.1 4 i ∧ h.1 42 i = h.1 5 i ∧ h.1 43 i = h.1 6 i ∧ h.1 44 i = h.1 7 i ∧ h.1 61 i = h.1 8 i := by
  intro i
  have m : ∀ j i, (fM h).2 j i = (fX h 1).2 j i := fun j i => by rw [H.2]
  exact ⟨m 1 i, m 2 i, m 3 i, m 4 i, m 5 i, m 6 i, m 7 i⟩
theorem op_row {v : Int} (hv : inI v) : OpI n_X5_row n_X6_row [vI v] := by
  intro d n h n0 n1 H
  obtain ⟨hB, hZ, hK, ⟨r1, r2, r3, r4⟩, hL, hF, hP⟩ := id H
  have fa := H.facts
  unfold Facts at fa
  by_cases c1 : v < 0
  · skip
    repeat' first
      | exact H.rf (by decide) (by decide)
      | (with_reducible refine exI ?_)
      | (with_reducible refine exL ?_)
      | (with_reducible refine exV ?_)
      | (with_reducible apply And.intro)
      | (with_reducible refine cI_i (e_X5_row ?_))
      | (with_reducible refine cL_i (e_X5_row ?_))
      | (with_reducible refine cV_i (e_X5_row ?_))
      | (with_reducible refine u_X5_row_1 (tx_mono _ _) ?_)
      | (with_reducible refine u_X5_row_2 (tx_mono _ _) ?_)
      | (with_reducible refine u_X5_row_3 (tx_mono _ _) ?_)
      | (with_reducible refine cI_i (e_X6_row ?_))
      | (with_reducible refine cL_i (e_X6_row ?_))
      | (with_reducible refine cV_i (e_X6_row ?_))
      | (with_reducible refine u_X6_row_1 (tx_mono _ _) ?_)
      | (with_reducible refine u_X6_row_2 (tx_mono _ _) ?_)
      | (with_reducible refine u_X6_row_3 (tx_mono _ _) ?_)
      | (with_reducible apply c_X5_refuse)
      | (with_reducible apply c_X6_refuse)
      | exact isB1
      | (intro _ e9; subst e9)
      | (intro c9; exfalso; first | omega | (simp only [inI, upI_e, Nat.reduceEqDiff, Nat.reduceAdd, true_and, and_true, false_and, and_false, if_true, if_false, ite_true, ite_false, reduceIte, Int.reduceEq, not_true_eq_false, not_false_eq_true, Decidable.not_not] at c9; omega))
      | (intro c9; (try simp only [inI, upI_e, Nat.reduceEqDiff, Nat.reduceAdd, true_and, and_true, false_and, and_false, if_true, if_false, ite_true, ite_false, reduceIte, Int.reduceEq, not_true_eq_false, not_false_eq_true, Decidable.not_not] at c9))
      | (with_reducible show _ ≤ _; first | omega | (simp only [inI, upI_e, Nat.reduceEqDiff, Nat.reduceAdd, true_and, and_true, false_and, and_false, if_true, if_false, ite_true, ite_false, reduceIte, Int.reduceEq, not_true_eq_false, not_false_eq_true, Decidable.not_not]; omega))
      | (with_reducible show _ < _; first | omega | (simp only [inI, upI_e, Nat.reduceEqDiff, Nat.reduceAdd, true_and, and_true, false_and, and_false, if_true, if_false, ite_true, ite_false, reduceIte, Int.reduceEq, not_true_eq_false, not_false_eq_true, Decidable.not_not]; omega))
      | (with_reducible show _ = _; first | omega | (simp only [inI, upI_e, Nat.reduceEqDiff, Nat.reduceAdd, true_and, and_true, false_and, and_false, if_true, if_false, ite_true, ite_false, reduceIte, Int.reduceEq, not_true_eq_false, not_false_eq_true, Decidable.not_not]; omega))
      | (with_reducible show _ ∧ _; first | omega | (simp only [inI, upI_e, Nat.reduceEqDiff, Nat.reduceAdd, true_and, and_true, false_and, and_false, if_true, if_false, ite_true, ite_false, reduceIte, Int.reduceEq, not_true_eq_false, not_false_eq_true, Decidable.not_not]; omega))
      | (with_reducible show _ ∨ _; first | omega | (simp only [inI, upI_e, Nat.reduceEqDiff, Nat.reduceAdd, true_and, and_true, false_and, and_false, if_true, if_false, ite_true, ite_false, reduceIte, Int.reduceEq, not_true_eq_false, not_false_eq_true, Decidable.not_not]; omega))
      | (with_reducible show inI _; first | omega | (simp only [inI, upI_e, Nat.reduceEqDiff, Nat.reduceAdd, true_and, and_true, false_and, and_false, if_true, if_false, ite_true, ite_false, reduceIte, Int.reduceEq, not_true_eq_false, not_false_eq_true, Decidable.not_not]; omega))
      | (with_reducible show ¬ _; first | omega | (simp only [inI, upI_e, Nat.reduceEqDiff, Nat.reduceAdd, true_and, and_true, false_and, and_false, if_true, if_false, ite_true, ite_false, reduceIte, Int.reduceEq, not_true_eq_false, not_false_eq_true, Decidable.not_not]; omega))
  by_cases c2 : 99 < v ∨ h.1 0 7 = 12
  · skip
    repeat' first
      | exact H.rf (by decide) (by decide)
      | (with_reducible refine exI ?_)
      | (with_reducible refine exL ?_)
      | (with_reducible refine exV ?_)
      | (with_reducible apply And.intro)
      | (with_reducible refine cI_i (e_X5_row ?_))
      | (with_reducible refine cL_i (e_X5_row ?_))
      | (with_reducible refine cV_i (e_X5_row ?_))
      | (with_reducible refine u_X5_row_1 (tx_mono _ _) ?_)
      | (with_reducible refine u_X5_row_2 (tx_mono _ _) ?_)
      | (with_reducible refine u_X5_row_3 (tx_mono _ _) ?_)
      | (with_reducible refine cI_i (e_X6_row ?_))
      | (with_reducible refine cL_i (e_X6_row ?_))
      | (with_reducible refine cV_i (e_X6_row ?_))
      | (with_reducible refine u_X6_row_1 (tx_mono _ _) ?_)
      | (with_reducible refine u_X6_row_2 (tx_mono _ _) ?_)
      | (with_reducible refine u_X6_row_3 (tx_mono _ _) ?_)
      | (with_reducible apply c_X5_refuse)
      | (with_reducible apply c_X6_refuse)
      | exact isB1
      | (intro _ e9; subst e9)
      | (intro c9; exfalso; first | omega | (simp only [inI, upI_e, Nat.reduceEqDiff, Nat.reduceAdd, true_and, and_true, false_and, and_false, if_true, if_false, ite_true, ite_false, reduceIte, Int.reduceEq, not_true_eq_false, not_false_eq_true, Decidable.not_not] at c9; omega))
      | (intro c9; (try simp only [inI, upI_e, Nat.reduceEqDiff, Nat.reduceAdd, true_and, and_true, false_and, and_false, if_true, if_false, ite_true, ite_false, reduceIte, Int.reduceEq, not_true_eq_false, not_false_eq_true, Decidable.not_not] at c9))
      | (with_reducible show _ ≤ _; first | omega | (simp only [inI, upI_e, Nat.reduceEqDiff, Nat.reduceAdd, true_and, and_true, false_and, and_false, if_true, if_false, ite_true, ite_false, reduceIte, Int.reduceEq, not_true_eq_false, not_false_eq_true, Decidable.not_not]; omega))
      | (with_reducible show _ < _; first | omega | (simp only [inI, upI_e, Nat.reduceEqDiff, Nat.reduceAdd, true_and, and_true, false_and, and_false, if_true, if_false, ite_true, ite_false, reduceIte, Int.reduceEq, not_true_eq_false, not_false_eq_true, Decidable.not_not]; omega))
      | (with_reducible show _ = _; first | omega | (simp only [inI, upI_e, Nat.reduceEqDiff, Nat.reduceAdd, true_and, and_true, false_and, and_false, if_true, if_false, ite_true, ite_false, reduceIte, Int.reduceEq, not_true_eq_false, not_false_eq_true, Decidable.not_not]; omega))
      | (with_reducible show _ ∧ _; first | omega | (simp only [inI, upI_e, Nat.reduceEqDiff, Nat.reduceAdd, true_and, and_true, false_and, and_false, if_true, if_false, ite_true, ite_false, reduceIte, Int.reduceEq, not_true_eq_false, not_false_eq_true, Decidable.not_not]; omega))
      | (with_reducible show _ ∨ _; first | omega | (simp only [inI, upI_e, Nat.reduceEqDiff, Nat.reduceAdd, true_and, and_true, false_and, and_false, if_true, if_false, ite_true, ite_false, reduceIte, Int.reduceEq, not_true_eq_false, not_false_eq_true, Decidable.not_not]; omega))
      | (with_reducible show inI _; first | omega | (simp only [inI, upI_e, Nat.reduceEqDiff, Nat.reduceAdd, true_and, and_true, false_and, and_false, if_true, if_false, ite_true, ite_false, reduceIte, Int.reduceEq, not_true_eq_false, not_false_eq_true, Decidable.not_not]; omega))
      | (with_reducible show ¬ _; first | omega | (simp only [inI, upI_e, Nat.reduceEqDiff, Nat.reduceAdd, true_and, and_true, false_and, and_false, if_true, if_false, ite_true, ite_false, reduceIte, Int.reduceEq, not_true_eq_false, not_false_eq_true, Decidable.not_not]; omega))
  · skip
    repeat' first
      | exact H.rf (by decide) (by decide)
      | (with_reducible refine exI ?_)
      | (with_reducible refine exL ?_)
      | (with_reducible refine exV ?_)
      | (with_reducible apply And.intro)
      | (with_reducible refine cI_i (e_X5_row ?_))
      | (with_reducible refine cL_i (e_X5_row ?_))
      | (with_reducible refine cV_i (e_X5_row ?_))
      | (with_reducible refine u_X5_row_1 (tx_mono _ _) ?_)
      | (with_reducible refine u_X5_row_2 (tx_mono _ _) ?_)
      | (with_reducible refine u_X5_row_3 (tx_mono _ _) ?_)
      | (with_reducible refine cI_i (e_X6_row ?_))
      | (with_reducible refine cL_i (e_X6_row ?_))
      | (with_reducible refine cV_i (e_X6_row ?_))
      | (with_reducible refine u_X6_row_1 (tx_mono _ _) ?_)
      | (with_reducible refine u_X6_row_2 (tx_mono _ _) ?_)
      | (with_reducible refine u_X6_row_3 (tx_mono _ _) ?_)
      | (with_reducible apply c_X5_refuse)
      | (with_reducible apply c_X6_refuse)
      | assumption
      | exact isB1
      | (intro _ e9; subst e9)
      | (intro c9; exfalso; first | omega | (simp only [inI, upI_e, Nat.reduceEqDiff, Nat.reduceAdd, true_and, and_true, false_and, and_false, if_true, if_false, ite_true, ite_false, reduceIte, Int.reduceEq, not_true_eq_false, not_false_eq_true, Decidable.not_not] at c9; omega))
      | (intro c9; (try simp only [inI, upI_e, Nat.reduceEqDiff, Nat.reduceAdd, true_and, and_true, false_and, and_false, if_true, if_false, ite_true, ite_false, reduceIte, Int.reduceEq, not_true_eq_false, not_false_eq_true, Decidable.not_not] at c9))
      | (with_reducible show _ ≤ _; first | omega | (simp only [inI, upI_e, Nat.reduceEqDiff, Nat.reduceAdd, true_and, and_true, false_and, and_false, if_true, if_false, ite_true, ite_false, reduceIte, Int.reduceEq, not_true_eq_false, not_false_eq_true, Decidable.not_not]; omega))
      | (with_reducible show _ < _; first | omega | (simp only [inI, upI_e, Nat.reduceEqDiff, Nat.reduceAdd, true_and, and_true, false_and, and_false, if_true, if_false, ite_true, ite_false, reduceIte, Int.reduceEq, not_true_eq_false, not_false_eq_true, Decidable.not_not]; omega))
      | (with_reducible show _ = _; first | omega | (simp only [inI, upI_e, Nat.reduceEqDiff, Nat.reduceAdd, true_and, and_true, false_and, and_false, if_true, if_false, ite_true, ite_false, reduceIte, Int.reduceEq, not_true_eq_false, not_false_eq_true, Decidable.not_not]; omega))
      | (with_reducible show _ ∧ _; first | omega | (simp only [inI, upI_e, Nat.reduceEqDiff, Nat.reduceAdd, true_and, and_true, false_and, and_false, if_true, if_false, ite_true, ite_false, reduceIte, Int.reduceEq, not_true_eq_false, not_false_eq_true, Decidable.not_not]; omega))
      | (with_reducible show _ ∨ _; first | omega | (simp only [inI, upI_e, Nat.reduceEqDiff, Nat.reduceAdd, true_and, and_true, false_and, and_false, if_true, if_false, ite_true, ite_false, reduceIte, Int.reduceEq, not_true_eq_false, not_false_eq_true, Decidable.not_not]; omega))
      | (with_reducible show inI _; first | omega | (simp only [inI, upI_e, Nat.reduceEqDiff, Nat.reduceAdd, true_and, and_true, false_and, and_false, if_true, if_false, ite_true, ite_false, reduceIte, Int.reduceEq, not_true_eq_false, not_false_eq_true, Decidable.not_not]; omega))
      | (with_reducible show ¬ _; first | omega | (simp only [inI, upI_e, Nat.reduceEqDiff, Nat.reduceAdd, true_and, and_true, false_and, and_false, if_true, if_false, ite_true, ite_false, reduceIte, Int.reduceEq, not_true_eq_false, not_false_eq_true, Decidable.not_not]; omega))
    · refine ⟨H.1.c (fun c hc => by (funext j; simp only [upI_e]; repeat' rw [if_neg (by omega)])) (by intro j hj; (simp only [upI_e]; repeat' rw [if_neg (by omega)])), H.2.1.c (fun c hc => by (funext j; simp only [upI_e]; repeat' rw [if_neg (by omega)])), H.2.2.1.c (fun c hc => by (funext j; simp only [upI_e]; repeat' rw [if_neg (by omega)])) (by simp only [upI_e]; repeat' rw [if_neg (by omega)]) (by simp only [upI_e]; repeat' rw [if_neg (by omega)]), ?_, H.2.2.2.2.1.c (fun c hc => by (funext j; simp only [upI_e]; repeat' rw [if_neg (by omega)])) (by simp only [upI_e]; repeat' rw [if_neg (by omega)]) (by simp only [upI_e]; repeat' rw [if_neg (by omega)]), H.2.2.2.2.2.1.c (fun c hc => by (funext j; simp only [upI_e]; repeat' rw [if_neg (by omega)])), H.2.2.2.2.2.2.c (fun c hc => by (funext j; simp only [upI_e]; repeat' rw [if_neg (by omega)])) (by simp only [upI_e]; repeat' rw [if_neg (by omega)]) (by simp only [upI_e]; repeat' rw [if_neg (by omega)]) (by simp only [upI_e]; repeat' rw [if_neg (by omega)])⟩
      refine ⟨by simp [upI_e]; omega, by simp [upI_e]; omega, by simp [upI_e]; omega, fun i a b => ?_⟩
      simp [upI_e] at b ⊢
      by_cases hi : i = h.1 0 7
      · subst hi
        simp [← r1]
        omega
      · rw [if_neg (by omega), if_neg (by omega)]
        exact r4 i a (by omega)
