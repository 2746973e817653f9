/-! ===== rhymes, piles ===== -/
theorem Inv.ok {n : Int} {h : AH} (H : Inv n h) : okR (fX h 1) ∧ okE (fX h 1) ∧ okS (fX h 1) ∧ okP (fX h 1) ∧ okZ (fX h 1) ∧ fM (upI h 38 12 0) = fX h 1 ∧ okR (fM (upI h 38 12 0)) ∧ okE (fM (upI h 38 12 0)) ∧ okS (fM (upI h 38 12 0)) ∧ okZ (fM (upI h 38 12 0)) := by
  obtain ⟨hb, hm⟩ := H.1
  have e : fM (upI h 38 12 0) = fX h 1 := by
    rw [fM_c (h := h) (fun c hc => by (funext j; simp only [upI_e]; repeat' rw [if_neg (by omega)])) (by intro j hj; (simp only [upI_e]; repeat' rw [if_neg (by omega)])), hm]
  rw [e]
  exact ⟨hb.1, hb.2.1, hb.2.2.1, hb.2.2.2.1, hb.2.2.2.2, rfl, hb.1, hb.2.1, hb.2.2.1, hb.2.2.2.2⟩
/-- nothing changed -/
theorem Inv.m12 {n : Int} {h : AH} (H : Inv n h) : Inv (n + 1) (upI h 38 12 0) := by
  refine ⟨H.1.c (fun c hc => by (funext j; simp only [upI_e]; repeat' rw [if_neg (by omega)])) (by intro j hj; (simp only [upI_e]; repeat' rw [if_neg (by omega)])), H.2.1.c (fun c hc => by (funext j; simp only [upI_e]; repeat' rw [if_neg (by omega)])), H.2.2.1.c (fun c hc => by (funext j; simp only [upI_e]; repeat' rw [if_neg (by omega)])) (by simp only [upI_e]; repeat' rw [if_neg (by omega)]) (by simp only [upI_e]; repeat' rw [if_neg (by omega)]), H.2.2.2.1.c (fun c hc => by (funext j; simp only [upI_e]; repeat' rw [if_neg (by omega)])) (by simp only [upI_e]; repeat' rw [if_neg (by omega)]) (by simp only [upI_e]; repeat' rw [if_neg (by omega)]), H.2.2.2.2.1.c (fun c hc => by (funext j; simp only [upI_e]; repeat' rw [if_neg (by omega)])) (by simp only [upI_e]; repeat' rw [if_neg (by omega)]) (by simp only [upI_e]; repeat' rw [if_neg (by omega)]), H.2.2.2.2.2.1.c (fun c hc => by (funext j; simp only [upI_e]; repeat' rw [if_neg (by omega)])), H.2.2.2.2.2.2.c (fun c hc => by (funext j; simp only [upI_e]; repeat' rw [if_neg (by omega)])) (by simp only [upI_e]; repeat' rw [if_neg (by omega)]) (by simp only [upI_e]; repeat' rw [if_neg (by omega)]) (by simp only [upI_e]; repeat' rw [if_neg (by omega)])⟩
theorem Inv.next {n : Int} {h : AH} (H : Inv n h) : h.1 1 11 < h.1 1 3 ∨ h.1 1 11 = 0 := H.1.1.2.2.1.2.2.2.2.2.2.2
theorem c_X0_hasWord {d k0 : Nat} {r w : Int} {h : AH} {k : Int → AH → Prop} (hB : isB k0) (h4 : h.1 k0 0 ≤ 4) (q1 : 0 ≤ r ∧ r < h.1 k0 0 ∧ 0 ≤ w ∧ w < h.1 (k0 + 1) r → k 1 h) (q2 : (r < 0 ∨ h.1 k0 0 ≤ r) ∨ 0 ≤ r ∧ r < h.1 k0 0 ∧ (w < 0 ∨ h.1 (k0 + 1) r ≤ w) → k 0 h) : cI (tx mt (d + 2)) n_X0_hasWord [vR k0, vI r, vI w] h k := by
  refine e_X0_hasWord hB ?_
  apply c_X0_hasRhyme hB
  · intro c
    refine ⟨fun c => by omega, fun _ => ⟨fun c2 => ?_, fun c2 => ⟨by omega, by omega, fun c3 => ?_, fun c3 => ?_⟩⟩⟩
    · refine u_X0_hasWord_1 (tx_mono _ _) (u_X0_hasWord_2 (tx_mono _ _) ⟨Or.inl rfl, ⟨_, rfl, q2 (by omega)⟩⟩)
    · refine u_X0_hasWord_1 (tx_mono _ _) (u_X0_hasWord_2 (tx_mono _ _) ⟨Or.inl rfl, ⟨_, rfl, q2 (by omega)⟩⟩)
    · refine (u_X0_hasWord_2 (tx_mono _ _) ⟨Or.inr rfl, ⟨_, rfl, q1 (by omega)⟩⟩)
  · intro c
    refine ⟨fun _ => ?_, fun c => by omega⟩
    exact u_X0_hasWord_1 (tx_mono _ _) (u_X0_hasWord_2 (tx_mono _ _) ⟨Or.inl rfl, ⟨_, rfl, q2 (by omega)⟩⟩)
theorem s_X2_hasRoom {d : Nat} {h : AH} {k : Int → AH → Prop} (q1 : h.1 25 1 < 96 → k 1 h) (q2 : 96 ≤ h.1 25 1 → k 0 h) : cI (tx mt (d + 1)) n_X2_hasRoom [vR 25] h k := by
  refine e_X2_hasRoom ?_
  repeat' first
    | (with_reducible refine exI ?_)
    | (with_reducible refine exL ?_)
    | (with_reducible refine exV ?_)
    | (with_reducible apply And.intro)
    | (with_reducible refine cI_i (e_X2_hasRoom ?_))
    | (with_reducible refine cL_i (e_X2_hasRoom ?_))
    | (with_reducible refine cV_i (e_X2_hasRoom ?_))
    | (with_reducible refine u_X2_hasRoom_1 (tx_mono _ _) ?_)
    | (with_reducible refine u_X2_hasRoom_2 (tx_mono _ _) ?_)
    | exact isB1
    | (intro _ e9; subst e9)
    | (intro c9; exfalso; first | omega | (simp only [inI, upI_e, Nat.reduceEqDiff, Nat.reduceAdd, true_and, and_true, false_and, and_false, if_true, if_false, ite_true, ite_false, reduceIte, Int.reduceEq, not_true_eq_false, not_false_eq_true, Decidable.not_not] at c9; omega))
    | (intro c9; (try simp only [inI, upI_e, Nat.reduceEqDiff, Nat.reduceAdd, true_and, and_true, false_and, and_false, if_true, if_false, ite_true, ite_false, reduceIte, Int.reduceEq, not_true_eq_false, not_false_eq_true, Decidable.not_not] at c9))
    | (with_reducible show _ ≤ _; first | omega | (simp only [inI, upI_e, Nat.reduceEqDiff, Nat.reduceAdd, true_and, and_true, false_and, and_false, if_true, if_false, ite_true, ite_false, reduceIte, Int.reduceEq, not_true_eq_false, not_false_eq_true, Decidable.not_not]; omega))
    | (with_reducible show _ < _; first | omega | (simp only [inI, upI_e, Nat.reduceEqDiff, Nat.reduceAdd, true_and, and_true, false_and, and_false, if_true, if_false, ite_true, ite_false, reduceIte, Int.reduceEq, not_true_eq_false, not_false_eq_true, Decidable.not_not]; omega))
    | (with_reducible show _ = _; first | omega | (simp only [inI, upI_e, Nat.reduceEqDiff, Nat.reduceAdd, true_and, and_true, false_and, and_false, if_true, if_false, ite_true, ite_false, reduceIte, Int.reduceEq, not_true_eq_false, not_false_eq_true, Decidable.not_not]; omega))
    | (with_reducible show _ ∧ _; first | omega | (simp only [inI, upI_e, Nat.reduceEqDiff, Nat.reduceAdd, true_and, and_true, false_and, and_false, if_true, if_false, ite_true, ite_false, reduceIte, Int.reduceEq, not_true_eq_false, not_false_eq_true, Decidable.not_not]; omega))
    | (with_reducible show _ ∨ _; first | omega | (simp only [inI, upI_e, Nat.reduceEqDiff, Nat.reduceAdd, true_and, and_true, false_and, and_false, if_true, if_false, ite_true, ite_false, reduceIte, Int.reduceEq, not_true_eq_false, not_false_eq_true, Decidable.not_not]; omega))
    | (with_reducible show inI _; first | omega | (simp only [inI, upI_e, Nat.reduceEqDiff, Nat.reduceAdd, true_and, and_true, false_and, and_false, if_true, if_false, ite_true, ite_false, reduceIte, Int.reduceEq, not_true_eq_false, not_false_eq_true, Decidable.not_not]; omega))
    | (with_reducible show ¬ _; first | omega | (simp only [inI, upI_e, Nat.reduceEqDiff, Nat.reduceAdd, true_and, and_true, false_and, and_false, if_true, if_false, ite_true, ite_false, reduceIte, Int.reduceEq, not_true_eq_false, not_false_eq_true, Decidable.not_not]; omega))
  · exact q2 (by omega)
  · exact q1 (by omega)
theorem s_X2_add {d : Nat} {v : Int} {h : AH} {k : AH → Prop} (h0 : 0 ≤ h.1 25 1) (h1 : h.1 25 1 < 96) (q : k (upI (upI h 26 (h.1 25 1) v) 25 1 (h.1 25 1 + 1))) : cV (tx mt (d + 1)) n_X2_add [vR 25, vI v] h k := by
  refine e_X2_add ?_
  repeat' first
    | (with_reducible refine exI ?_)
    | (with_reducible refine exL ?_)
    | (with_reducible refine exV ?_)
    | (with_reducible apply And.intro)
    | (with_reducible refine cI_i (e_X2_add ?_))
    | (with_reducible refine cL_i (e_X2_add ?_))
    | (with_reducible refine cV_i (e_X2_add ?_))
    | (with_reducible refine u_X2_add_1 (tx_mono _ _) ?_)
    | (with_reducible refine u_X2_add_2 (tx_mono _ _) ?_)
    | exact isB1
    | (intro _ e9; subst e9)
    | (intro c9; exfalso; first | omega | (simp only [inI, upI_e, Nat.reduceEqDiff, Nat.reduceAdd, true_and, and_true, false_and, and_false, if_true, if_false, ite_true, ite_false, reduceIte, Int.reduceEq, not_true_eq_false, not_false_eq_true, Decidable.not_not] at c9; omega))
    | (intro c9; (try simp only [inI, upI_e, Nat.reduceEqDiff, Nat.reduceAdd, true_and, and_true, false_and, and_false, if_true, if_false, ite_true, ite_false, reduceIte, Int.reduceEq, not_true_eq_false, not_false_eq_true, Decidable.not_not] at c9))
    | (with_reducible show _ ≤ _; first | omega | (simp only [inI, upI_e, Nat.reduceEqDiff, Nat.reduceAdd, true_and, and_true, false_and, and_false, if_true, if_false, ite_true, ite_false, reduceIte, Int.reduceEq, not_true_eq_false, not_false_eq_true, Decidable.not_not]; omega))
    | (with_reducible show _ < _; first | omega | (simp only [inI, upI_e, Nat.reduceEqDiff, Nat.reduceAdd, true_and, and_true, false_and, and_false, if_true, if_false, ite_true, ite_false, reduceIte, Int.reduceEq, not_true_eq_false, not_false_eq_true, Decidable.not_not]; omega))
    | (with_reducible show _ = _; first | omega | (simp only [inI, upI_e, Nat.reduceEqDiff, Nat.reduceAdd, true_and, and_true, false_and, and_false, if_true, if_false, ite_true, ite_false, reduceIte, Int.reduceEq, not_true_eq_false, not_false_eq_true, Decidable.not_not]; omega))
    | (with_reducible show _ ∧ _; first | omega | (simp only [inI, upI_e, Nat.reduceEqDiff, Nat.reduceAdd, true_and, and_true, false_and, and_false, if_true, if_false, ite_true, ite_false, reduceIte, Int.reduceEq, not_true_eq_false, not_false_eq_true, Decidable.not_not]; omega))
    | (with_reducible show _ ∨ _; first | omega | (simp only [inI, upI_e, Nat.reduceEqDiff, Nat.reduceAdd, true_and, and_true, false_and, and_false, if_true, if_false, ite_true, ite_false, reduceIte, Int.reduceEq, not_true_eq_false, not_false_eq_true, Decidable.not_not]; omega))
    | (with_reducible show inI _; first | omega | (simp only [inI, upI_e, Nat.reduceEqDiff, Nat.reduceAdd, true_and, and_true, false_and, and_false, if_true, if_false, ite_true, ite_false, reduceIte, Int.reduceEq, not_true_eq_false, not_false_eq_true, Decidable.not_not]; omega))
    | (with_reducible show ¬ _; first | omega | (simp only [inI, upI_e, Nat.reduceEqDiff, Nat.reduceAdd, true_and, and_true, false_and, and_false, if_true, if_false, ite_true, ite_false, reduceIte, Int.reduceEq, not_true_eq_false, not_false_eq_true, Decidable.not_not]; omega))
  (simp only [inI, upI_e, Nat.reduceEqDiff, Nat.reduceAdd, true_and, and_true, false_and, and_false, if_true, if_false, ite_true, ite_false, reduceIte, Int.reduceEq, not_true_eq_false, not_false_eq_true, Decidable.not_not])
  exact q
theorem s_X3_forget {d : Nat} {h : AH} {k : AH → Prop} (q : k (upI h 27 3 0)) : cV (tx mt (d + 1)) n_X3_forget [vR 27] h k := by
  refine e_X3_forget ?_
  repeat' first
    | (with_reducible refine exI ?_)
    | (with_reducible refine exL ?_)
    | (with_reducible refine exV ?_)
    | (with_reducible apply And.intro)
    | (with_reducible refine cI_i (e_X3_forget ?_))
    | (with_reducible refine cL_i (e_X3_forget ?_))
    | (with_reducible refine cV_i (e_X3_forget ?_))
    | exact isB1
    | (intro _ e9; subst e9)
    | (intro c9; exfalso; first | omega | (simp only [inI, upI_e, Nat.reduceEqDiff, Nat.reduceAdd, true_and, and_true, false_and, and_false, if_true, if_false, ite_true, ite_false, reduceIte, Int.reduceEq, not_true_eq_false, not_false_eq_true, Decidable.not_not] at c9; omega))
    | (intro c9; (try simp only [inI, upI_e, Nat.reduceEqDiff, Nat.reduceAdd, true_and, and_true, false_and, and_false, if_true, if_false, ite_true, ite_false, reduceIte, Int.reduceEq, not_true_eq_false, not_false_eq_true, Decidable.not_not] at c9))
    | (with_reducible show _ ≤ _; first | omega | (simp only [inI, upI_e, Nat.reduceEqDiff, Nat.reduceAdd, true_and, and_true, false_and, and_false, if_true, if_false, ite_true, ite_false, reduceIte, Int.reduceEq, not_true_eq_false, not_false_eq_true, Decidable.not_not]; omega))
    | (with_reducible show _ < _; first | omega | (simp only [inI, upI_e, Nat.reduceEqDiff, Nat.reduceAdd, true_and, and_true, false_and, and_false, if_true, if_false, ite_true, ite_false, reduceIte, Int.reduceEq, not_true_eq_false, not_false_eq_true, Decidable.not_not]; omega))
    | (with_reducible show _ = _; first | omega | (simp only [inI, upI_e, Nat.reduceEqDiff, Nat.reduceAdd, true_and, and_true, false_and, and_false, if_true, if_false, ite_true, ite_false, reduceIte, Int.reduceEq, not_true_eq_false, not_false_eq_true, Decidable.not_not]; omega))
    | (with_reducible show _ ∧ _; first | omega | (simp only [inI, upI_e, Nat.reduceEqDiff, Nat.reduceAdd, true_and, and_true, false_and, and_false, if_true, if_false, ite_true, ite_false, reduceIte, Int.reduceEq, not_true_eq_false, not_false_eq_true, Decidable.not_not]; omega))
    | (with_reducible show _ ∨ _; first | omega | (simp only [inI, upI_e, Nat.reduceEqDiff, Nat.reduceAdd, true_and, and_true, false_and, and_false, if_true, if_false, ite_true, ite_false, reduceIte, Int.reduceEq, not_true_eq_false, not_false_eq_true, Decidable.not_not]; omega))
    | (with_reducible show inI _; first | omega | (simp only [inI, upI_e, Nat.reduceEqDiff, Nat.reduceAdd, true_and, and_true, false_and, and_false, if_true, if_false, ite_true, ite_false, reduceIte, Int.reduceEq, not_true_eq_false, not_false_eq_true, Decidable.not_not]; omega))
    | (with_reducible show ¬ _; first | omega | (simp only [inI, upI_e, Nat.reduceEqDiff, Nat.reduceAdd, true_and, and_true, false_and, and_false, if_true, if_false, ite_true, ite_false, reduceIte, Int.reduceEq, not_true_eq_false, not_false_eq_true, Decidable.not_not]; omega))
  exact q
/-- the board, cell by cell -/
theorem IB.put {h : AH} (s : h.1 38 0 = h.1 1 0 ∧ h.1 38 1 = h.1 1 3 ∧ h.1 38 2 = h.1 1 8 ∧ h.1 38 3 = h.1 1 9 ∧ h.1 38 4 = h.1 1 10 ∧ h.1 38 5 = h.1 1 11 ∧ h.1 38 39 = h.1 1 12) (b : 0 ≤ h.1 1 0 ∧ h.1 1 0 ≤ 4 ∧ 0 ≤ h.1 1 3 ∧ h.1 1 3 ≤ 4 ∧ 0 ≤ h.1 1 8 ∧ h.1 1 8 ≤ 60 ∧ 1 ≤ h.1 1 9 ∧ h.1 1 9 ≤ 4 ∧ 1 ≤ h.1 1 10 ∧ h.1 1 10 ≤ 6 ∧ 0 ≤ h.1 1 11 ∧ (h.1 1 11 < h.1 1 3 ∨ h.1 1 11 = 0) ∧ 0 ≤ h.1 1 12 ∧ h.1 1 12 ≤ 4)
    (a : ∀ i, h.1 39 i = h.1 2 i ∧ h.1 40 i = h.1 3 i ∧ h.1 41 i = h.1 4 i ∧ h.1 42 i = h.1 5 i ∧ h.1 43 i = h.1 6 i ∧ h.1 44 i = h.1 7 i ∧ h.1 61 i = h.1 8 i)
    (r : ∀ i, 0 ≤ i → i < h.1 1 0 → 2 ≤ h.1 2 i ∧ h.1 2 i ≤ 12 ∧ 0 ≤ h.1 3 i ∧ h.1 3 i < h.1 2 i) (e : ∀ i, 0 ≤ i → i < h.1 1 3 → 0 ≤ h.1 4 i ∧ h.1 4 i ≤ 5 ∧ 0 ≤ h.1 5 i ∧ h.1 5 i ≤ 9 ∧ 0 ≤ h.1 6 i ∧ h.1 6 i ≤ 11 ∧ 0 ≤ h.1 7 i ∧ h.1 7 i ≤ 99) (p : ∀ i, 0 ≤ i → i < 4 → 0 ≤ h.1 8 i ∧ h.1 8 i ≤ 12 ∧ (h.1 1 12 ≤ i → h.1 8 i = 0))
    (z : ∀ i, (i < 0 ∨ 4 ≤ i) → h.1 2 i = 0 ∧ h.1 3 i = 0 ∧ h.1 4 i = 0 ∧ h.1 5 i = 0 ∧ h.1 6 i = 0 ∧ h.1 7 i = 0 ∧ h.1 8 i = 0) : IB h := by
  obtain ⟨s0, s1, s2, s3, s4, s5, s6⟩ := s
  obtain ⟨b1, b2, b3, b4, b5, b6, b7, b8, b9, b10, b11, b12, b13, b14⟩ := b
  refine ⟨⟨⟨b1, b2, r⟩, ⟨b3, b4, e⟩, ⟨b5, b6, b7, b8, b9, b10, b11, b12⟩, ⟨b13, b14, p⟩, ?_⟩, Prod.ext (funext ?_) (funext ?_)⟩
  · intro j i c
    obtain ⟨z1, z2, z3, z4, z5, z6, z7⟩ := z i c
    match j with
    | 0 => exact z7
    | 1 => exact z1
    | 2 => exact z2
    | 3 => exact z3
    | 4 => exact z4
    | 5 => exact z5
    | 6 => exact z6
    | j + 7 => exact z7
  · intro n
    match n with
    | 0 => exact s0
    | 1 => exact s1
    | 2 => exact s2
    | 3 => exact s3
    | 4 => exact s4
    | 5 => exact s5
    | n + 6 => exact s6
  · intro j
    funext i
    obtain ⟨z1, z2, z3, z4, z5, z6, z7⟩ := a i
    match j with
    | 0 => exact z7
    | 1 => exact z1
    | 2 => exact z2
    | 3 => exact z3
    | 4 => exact z4
    | 5 => exact z5
    | 6 => exact z6
    | j + 7 => exact z7
theorem IB.get {h : AH} (H : IB h) : (∀ i, 0 ≤ i → i < h.1 1 0 → 2 ≤ h.1 2 i ∧ h.1 2 i ≤ 12 ∧ 0 ≤ h.1 3 i ∧ h.1 3 i < h.1 2 i) ∧ (∀ i, 0 ≤ i → i < h.1 1 3 → 0 ≤ h.1 4 i ∧ h.1 4 i ≤ 5 ∧ 0 ≤ h.1 5 i ∧ h.1 5 i ≤ 9 ∧ 0 ≤ h.1 6 i ∧ h.1 6 i ≤ 11 ∧ 0 ≤ h.1 7 i ∧ h.1 7 i ≤ 99) ∧ (∀ i, 0 ≤ i → i < 4 → 0 ≤ h.1 8 i ∧ h.1 8 i ≤ 12 ∧ (h.1 1 12 ≤ i → h.1 8 i = 0)) ∧ (∀ i, (i < 0 ∨ 4 ≤ i) → h.1 2 i = 0 ∧ h.1 3 i = 0 ∧ h.1 4 i = 0 ∧ h.1 5 i = 0 ∧ h.1 6 i = 0 ∧ h.1 7 i = 0 ∧ h.1 8 i = 0) := by
  obtain ⟨⟨r, e, s, p, z⟩, -⟩ := H
  exact ⟨r.2.2, e.2.2, p.2.2, fun i c => ⟨z 1 i c, z 2 i c, z 3 i c, z 4 i c, z 5 i c, z 6 i c, z 7 i c⟩⟩
theorem op_clear : OpI n_X5_clear n_X6_clear [] := by
  intro d n h n0 n1 H
  have fa := H.facts
  unfold Facts at fa
  obtain ⟨oR, oE, oS, oP, oZ, mE, mR, mEa, mS, mZ⟩ := H.ok
  repeat' first
    | first | exact H.m12 | exact H.rf (by decide) (by decide)
    | (with_reducible refine exI ?_)
    | (with_reducible refine exL ?_)
    | (with_reducible refine exV ?_)
    | (with_reducible apply And.intro)
    | (with_reducible refine cI_i (e_X5_clear ?_))
    | (with_reducible refine cL_i (e_X5_clear ?_))
    | (with_reducible refine cV_i (e_X5_clear ?_))
    | (with_reducible refine cI_i (e_X6_clear ?_))
    | (with_reducible refine cL_i (e_X6_clear ?_))
    | (with_reducible refine cV_i (e_X6_clear ?_))
    | assumption
    | exact isB1
    | (intro _ e9; subst e9)
    | (intro c9; exfalso; first | omega | (simp only [inI, upI_e, Nat.reduceEqDiff, Nat.reduceAdd, true_and, and_true, false_and, and_false, if_true, if_false, ite_true, ite_false, reduceIte, Int.reduceEq, not_true_eq_false, not_false_eq_true, Decidable.not_not] at c9; omega))
    | (intro c9; (try simp only [inI, upI_e, Nat.reduceEqDiff, Nat.reduceAdd, true_and, and_true, false_and, and_false, if_true, if_false, ite_true, ite_false, reduceIte, Int.reduceEq, not_true_eq_false, not_false_eq_true, Decidable.not_not] at c9))
    | (with_reducible show _ ≤ _; first | omega | (simp only [inI, upI_e, Nat.reduceEqDiff, Nat.reduceAdd, true_and, and_true, false_and, and_false, if_true, if_false, ite_true, ite_false, reduceIte, Int.reduceEq, not_true_eq_false, not_false_eq_true, Decidable.not_not]; omega))
    | (with_reducible show _ < _; first | omega | (simp only [inI, upI_e, Nat.reduceEqDiff, Nat.reduceAdd, true_and, and_true, false_and, and_false, if_true, if_false, ite_true, ite_false, reduceIte, Int.reduceEq, not_true_eq_false, not_false_eq_true, Decidable.not_not]; omega))
    | (with_reducible show _ = _; first | omega | (simp only [inI, upI_e, Nat.reduceEqDiff, Nat.reduceAdd, true_and, and_true, false_and, and_false, if_true, if_false, ite_true, ite_false, reduceIte, Int.reduceEq, not_true_eq_false, not_false_eq_true, Decidable.not_not]; omega))
    | (with_reducible show _ ∧ _; first | omega | (simp only [inI, upI_e, Nat.reduceEqDiff, Nat.reduceAdd, true_and, and_true, false_and, and_false, if_true, if_false, ite_true, ite_false, reduceIte, Int.reduceEq, not_true_eq_false, not_false_eq_true, Decidable.not_not]; omega))
    | (with_reducible show _ ∨ _; first | omega | (simp only [inI, upI_e, Nat.reduceEqDiff, Nat.reduceAdd, true_and, and_true, false_and, and_false, if_true, if_false, ite_true, ite_false, reduceIte, Int.reduceEq, not_true_eq_false, not_false_eq_true, Decidable.not_not]; omega))
    | (with_reducible show inI _; first | omega | (simp only [inI, upI_e, Nat.reduceEqDiff, Nat.reduceAdd, true_and, and_true, false_and, and_false, if_true, if_false, ite_true, ite_false, reduceIte, Int.reduceEq, not_true_eq_false, not_false_eq_true, Decidable.not_not]; omega))
    | (with_reducible show ¬ _; first | omega | (simp only [inI, upI_e, Nat.reduceEqDiff, Nat.reduceAdd, true_and, and_true, false_and, and_false, if_true, if_false, ite_true, ite_false, reduceIte, Int.reduceEq, not_true_eq_false, not_false_eq_true, Decidable.not_not]; omega))
  refine ⟨H.1.c (fun c hc => by (funext j; simp only [upI_e]; repeat' rw [if_neg (by omega)])) (by intro j hj; (simp only [upI_e]; repeat' rw [if_neg (by omega)])), H.2.1.c (fun c hc => by (funext j; simp only [upI_e]; repeat' rw [if_neg (by omega)])), H.2.2.1.c (fun c hc => by (funext j; simp only [upI_e]; repeat' rw [if_neg (by omega)])) (by simp only [upI_e]; repeat' rw [if_neg (by omega)]) (by simp only [upI_e]; repeat' rw [if_neg (by omega)]), ?_, H.2.2.2.2.1.c (fun c hc => by (funext j; simp only [upI_e]; repeat' rw [if_neg (by omega)])) (by simp only [upI_e]; repeat' rw [if_neg (by omega)]) (by simp only [upI_e]; repeat' rw [if_neg (by omega)]), H.2.2.2.2.2.1.c (fun c hc => by (funext j; simp only [upI_e]; repeat' rw [if_neg (by omega)])), H.2.2.2.2.2.2.c (fun c hc => by (funext j; simp only [upI_e]; repeat' rw [if_neg (by omega)])) (by simp only [upI_e]; repeat' rw [if_neg (by omega)]) (by simp only [upI_e]; repeat' rw [if_neg (by omega)]) (by simp only [upI_e]; repeat' rw [if_neg (by omega)])⟩
  refine ⟨by (simp only [inI, upI_e, Nat.reduceEqDiff, Nat.reduceAdd, true_and, and_true, false_and, and_false, if_true, if_false, ite_true, ite_false, reduceIte, Int.reduceEq, not_true_eq_false, not_false_eq_true, Decidable.not_not]), by (simp only [inI, upI_e, Nat.reduceEqDiff, Nat.reduceAdd, true_and, and_true, false_and, and_false, if_true, if_false, ite_true, ite_false, reduceIte, Int.reduceEq, not_true_eq_false, not_false_eq_true, Decidable.not_not]); omega, by (simp only [inI, upI_e, Nat.reduceEqDiff, Nat.reduceAdd, true_and, and_true, false_and, and_false, if_true, if_false, ite_true, ite_false, reduceIte, Int.reduceEq, not_true_eq_false, not_false_eq_true, Decidable.not_not]); omega, fun i a b => ?_⟩
  simp [upI_e] at b
  omega
theorem op_feed {v : Int} : OpI n_X5_feed n_X6_feed [vI v] := by
  intro d n h n0 n1 H
  have fa := H.facts
  unfold Facts at fa
  obtain ⟨oR, oE, oS, oP, oZ, mE, mR, mEa, mS, mZ⟩ := H.ok
  repeat' first
    | first | exact H.m12 | exact H.rf (by decide) (by decide)
    | (with_reducible refine exI ?_)
    | (with_reducible refine exL ?_)
    | (with_reducible refine exV ?_)
    | (with_reducible apply And.intro)
    | (with_reducible refine cI_i (e_X5_feed ?_))
    | (with_reducible refine cL_i (e_X5_feed ?_))
    | (with_reducible refine cV_i (e_X5_feed ?_))
    | (with_reducible refine u_X5_feed_1 (tx_mono _ _) ?_)
    | (with_reducible refine u_X5_feed_2 (tx_mono _ _) ?_)
    | (with_reducible refine u_X5_feed_3 (tx_mono _ _) ?_)
    | (with_reducible refine cI_i (e_X6_feed ?_))
    | (with_reducible refine cL_i (e_X6_feed ?_))
    | (with_reducible refine cV_i (e_X6_feed ?_))
    | (with_reducible refine u_X6_feed_1 (tx_mono _ _) ?_)
    | (with_reducible refine u_X6_feed_2 (tx_mono _ _) ?_)
    | (with_reducible refine u_X6_feed_3 (tx_mono _ _) ?_)
    | (with_reducible apply s_X2_add)
    | (with_reducible apply s_X2_hasRoom)
    | (with_reducible apply c_X5_refuse)
    | (with_reducible apply c_X6_refuse)
    | assumption
    | exact isB1
    | (intro _ e9; subst e9)
    | (intro c9; exfalso; first | omega | (simp only [inI, upI_e, Nat.reduceEqDiff, Nat.reduceAdd, true_and, and_true, false_and, and_false, if_true, if_false, ite_true, ite_false, reduceIte, Int.reduceEq, not_true_eq_false, not_false_eq_true, Decidable.not_not] at c9; omega))
    | (intro c9; (try simp only [inI, upI_e, Nat.reduceEqDiff, Nat.reduceAdd, true_and, and_true, false_and, and_false, if_true, if_false, ite_true, ite_false, reduceIte, Int.reduceEq, not_true_eq_false, not_false_eq_true, Decidable.not_not] at c9))
    | (with_reducible show _ ≤ _; first | omega | (simp only [inI, upI_e, Nat.reduceEqDiff, Nat.reduceAdd, true_and, and_true, false_and, and_false, if_true, if_false, ite_true, ite_false, reduceIte, Int.reduceEq, not_true_eq_false, not_false_eq_true, Decidable.not_not]; omega))
    | (with_reducible show _ < _; first | omega | (simp only [inI, upI_e, Nat.reduceEqDiff, Nat.reduceAdd, true_and, and_true, false_and, and_false, if_true, if_false, ite_true, ite_false, reduceIte, Int.reduceEq, not_true_eq_false, not_false_eq_true, Decidable.not_not]; omega))
    | (with_reducible show _ = _; first | omega | (simp only [inI, upI_e, Nat.reduceEqDiff, Nat.reduceAdd, true_and, and_true, false_and, and_false, if_true, if_false, ite_true, ite_false, reduceIte, Int.reduceEq, not_true_eq_false, not_false_eq_true, Decidable.not_not]; omega))
    | (with_reducible show _ ∧ _; first | omega | (simp only [inI, upI_e, Nat.reduceEqDiff, Nat.reduceAdd, true_and, and_true, false_and, and_false, if_true, if_false, ite_true, ite_false, reduceIte, Int.reduceEq, not_true_eq_false, not_false_eq_true, Decidable.not_not]; omega))
    | (with_reducible show _ ∨ _; first | omega | (simp only [inI, upI_e, Nat.reduceEqDiff, Nat.reduceAdd, true_and, and_true, false_and, and_false, if_true, if_false, ite_true, ite_false, reduceIte, Int.reduceEq, not_true_eq_false, not_false_eq_true, Decidable.not_not]; omega))
    | (with_reducible show inI _; first | omega | (simp only [inI, upI_e, Nat.reduceEqDiff, Nat.reduceAdd, true_and, and_true, false_and, and_false, if_true, if_false, ite_true, ite_false, reduceIte, Int.reduceEq, not_true_eq_false, not_false_eq_true, Decidable.not_not]; omega))
    | (with_reducible show ¬ _; first | omega | (simp only [inI, upI_e, Nat.reduceEqDiff, Nat.reduceAdd, true_and, and_true, false_and, and_false, if_true, if_false, ite_true, ite_false, reduceIte, Int.reduceEq, not_true_eq_false, not_false_eq_true, Decidable.not_not]; omega))
  (simp only [inI, upI_e, Nat.reduceEqDiff, Nat.reduceAdd, true_and, and_true, false_and, and_false, if_true, if_false, ite_true, ite_false, reduceIte, Int.reduceEq, not_true_eq_false, not_false_eq_true, Decidable.not_not])
  obtain ⟨l1, l2, l3, l4⟩ := H.2.2.2.2.1
  refine ⟨H.1.c (fun c hc => by (funext j; simp only [upI_e]; repeat' rw [if_neg (by omega)])) (by intro j hj; (simp only [upI_e]; repeat' rw [if_neg (by omega)])), H.2.1.c (fun c hc => by (funext j; simp only [upI_e]; repeat' rw [if_neg (by omega)])), H.2.2.1.c (fun c hc => by (funext j; simp only [upI_e]; repeat' rw [if_neg (by omega)])) (by simp only [upI_e]; repeat' rw [if_neg (by omega)]) (by simp only [upI_e]; repeat' rw [if_neg (by omega)]), H.2.2.2.1.c (fun c hc => by (funext j; simp only [upI_e]; repeat' rw [if_neg (by omega)])) (by simp only [upI_e]; repeat' rw [if_neg (by omega)]) (by simp only [upI_e]; repeat' rw [if_neg (by omega)]), ?_, H.2.2.2.2.2.1.c (fun c hc => by (funext j; simp only [upI_e]; repeat' rw [if_neg (by omega)])), H.2.2.2.2.2.2.c (fun c hc => by (funext j; simp only [upI_e]; repeat' rw [if_neg (by omega)])) (by simp only [upI_e]; repeat' rw [if_neg (by omega)]) (by simp only [upI_e]; repeat' rw [if_neg (by omega)]) (by simp only [upI_e]; repeat' rw [if_neg (by omega)])⟩
  refine ⟨by (simp only [inI, upI_e, Nat.reduceEqDiff, Nat.reduceAdd, true_and, and_true, false_and, and_false, if_true, if_false, ite_true, ite_false, reduceIte, Int.reduceEq, not_true_eq_false, not_false_eq_true, Decidable.not_not]); omega, by (simp only [inI, upI_e, Nat.reduceEqDiff, Nat.reduceAdd, true_and, and_true, false_and, and_false, if_true, if_false, ite_true, ite_false, reduceIte, Int.reduceEq, not_true_eq_false, not_false_eq_true, Decidable.not_not]); omega, by (simp only [inI, upI_e, Nat.reduceEqDiff, Nat.reduceAdd, true_and, and_true, false_and, and_false, if_true, if_false, ite_true, ite_false, reduceIte, Int.reduceEq, not_true_eq_false, not_false_eq_true, Decidable.not_not]); omega, fun i a b => ?_⟩
  (simp only [inI, upI_e, Nat.reduceEqDiff, Nat.reduceAdd, true_and, and_true, false_and, and_false, if_true, if_false, ite_true, ite_false, reduceIte, Int.reduceEq, not_true_eq_false, not_false_eq_true, Decidable.not_not] at b ⊢)
  by_cases hi : i = h.1 25 1
  · subst hi
    simp [← l1]
    omega
  · rw [if_neg (by omega), if_neg (by omega)]
    exact l4 i a (by omega)
theorem s_X0_wordTo {d k0 : Nat} {r n : Int} {h : AH} {k : Int → AH → Prop} (hB : isB k0) (hr : okR (fX h k0)) (hn : n ≤ 1000000) (q : k (wTo (fX h k0) r n) h) : cI (tx mt (d + 2)) n_X0_wordTo [vR k0, vI r, vI n] h k := by
  have gr : h.1 k0 0 ≤ 4 := hr.2.1
  refine e_X0_wordTo hB (c_X0_hasRhyme hB (fun c => ⟨fun x => by omega, fun _ => ⟨by omega, by omega, by omega, by omega, ?_⟩⟩) (fun c => ⟨fun _ => ?_, fun x => by omega⟩))
  · have g : 2 ≤ h.1 (k0 + 1) r ∧ h.1 (k0 + 1) r ≤ 12 ∧ 0 ≤ h.1 (k0 + 2) r ∧ h.1 (k0 + 2) r < h.1 (k0 + 1) r := hr.2.2 r c.1 c.2
    refine s_X5_spoken (by omega) hn (u_X0_wordTo_2 (tx_mono _ _) ⟨_, rfl, kq q ?_⟩)
    unfold wTo
    rw [if_pos]
    · rfl
    · exact c
  · refine u_X0_wordTo_1 (tx_mono _ _) (u_X0_wordTo_2 (tx_mono _ _) ⟨_, rfl, kq q ?_⟩)
    unfold wTo
    rw [if_neg]
    intro x
    have : 0 ≤ r ∧ r < h.1 k0 0 := x
    omega
theorem op_rhyme {a b : Int} : OpI n_X5_rhyme n_X6_rhyme [vI a, vI b] := by
  intro d n h n0 n1 H
  have fa := H.facts
  unfold Facts at fa
  obtain ⟨oR, oE, oS, oP, oZ, mE, mR, mEa, mS, mZ⟩ := H.ok
  have ga := H.1.arr a
  repeat' first
    | first | exact H.m12 | exact H.rf (by decide) (by decide)
    | (with_reducible refine exI ?_)
    | (with_reducible refine exL ?_)
    | (with_reducible refine exV ?_)
    | (with_reducible apply And.intro)
    | (with_reducible refine cI_i (e_X5_rhyme ?_))
    | (with_reducible refine cL_i (e_X5_rhyme ?_))
    | (with_reducible refine cV_i (e_X5_rhyme ?_))
    | (with_reducible refine u_X5_rhyme_1 (tx_mono _ _) ?_)
    | (with_reducible refine u_X5_rhyme_2 (tx_mono _ _) ?_)
    | (with_reducible refine u_X5_rhyme_3 (tx_mono _ _) ?_)
    | (with_reducible refine u_X5_rhyme_4 (tx_mono _ _) ?_)
    | (with_reducible refine cI_i (e_X6_rhyme ?_))
    | (with_reducible refine cL_i (e_X6_rhyme ?_))
    | (with_reducible refine cV_i (e_X6_rhyme ?_))
    | (with_reducible refine u_X6_rhyme_1 (tx_mono _ _) ?_)
    | (with_reducible refine u_X6_rhyme_2 (tx_mono _ _) ?_)
    | (with_reducible refine u_X6_rhyme_3 (tx_mono _ _) ?_)
    | (with_reducible refine u_X6_rhyme_4 (tx_mono _ _) ?_)
    | (with_reducible refine u_X6_rhyme_5 (tx_mono _ _) ?_)
    | (with_reducible refine u_X6_rhyme_6 (tx_mono _ _) ?_)
    | (with_reducible apply c_X0_hasRhyme)
    | (with_reducible apply c_X5_refuse)
    | (with_reducible apply c_X6_in)
    | (with_reducible apply c_X6_isRhyme)
    | (with_reducible apply c_X6_refuse)
    | assumption
    | exact isB1
    | (intro _ e9; subst e9)
    | (intro c9; exfalso; first | omega | (simp only [inI, upI_e, Nat.reduceEqDiff, Nat.reduceAdd, true_and, and_true, false_and, and_false, if_true, if_false, ite_true, ite_false, reduceIte, Int.reduceEq, not_true_eq_false, not_false_eq_true, Decidable.not_not] at c9; omega))
    | (intro c9; (try simp only [inI, upI_e, Nat.reduceEqDiff, Nat.reduceAdd, true_and, and_true, false_and, and_false, if_true, if_false, ite_true, ite_false, reduceIte, Int.reduceEq, not_true_eq_false, not_false_eq_true, Decidable.not_not] at c9))
    | (with_reducible show _ ≤ _; first | omega | (simp only [inI, upI_e, Nat.reduceEqDiff, Nat.reduceAdd, true_and, and_true, false_and, and_false, if_true, if_false, ite_true, ite_false, reduceIte, Int.reduceEq, not_true_eq_false, not_false_eq_true, Decidable.not_not]; omega))
    | (with_reducible show _ < _; first | omega | (simp only [inI, upI_e, Nat.reduceEqDiff, Nat.reduceAdd, true_and, and_true, false_and, and_false, if_true, if_false, ite_true, ite_false, reduceIte, Int.reduceEq, not_true_eq_false, not_false_eq_true, Decidable.not_not]; omega))
    | (with_reducible show _ = _; first | omega | (simp only [inI, upI_e, Nat.reduceEqDiff, Nat.reduceAdd, true_and, and_true, false_and, and_false, if_true, if_false, ite_true, ite_false, reduceIte, Int.reduceEq, not_true_eq_false, not_false_eq_true, Decidable.not_not]; omega))
    | (with_reducible show _ ∧ _; first | omega | (simp only [inI, upI_e, Nat.reduceEqDiff, Nat.reduceAdd, true_and, and_true, false_and, and_false, if_true, if_false, ite_true, ite_false, reduceIte, Int.reduceEq, not_true_eq_false, not_false_eq_true, Decidable.not_not]; omega))
    | (with_reducible show _ ∨ _; first | omega | (simp only [inI, upI_e, Nat.reduceEqDiff, Nat.reduceAdd, true_and, and_true, false_and, and_false, if_true, if_false, ite_true, ite_false, reduceIte, Int.reduceEq, not_true_eq_false, not_false_eq_true, Decidable.not_not]; omega))
    | (with_reducible show inI _; first | omega | (simp only [inI, upI_e, Nat.reduceEqDiff, Nat.reduceAdd, true_and, and_true, false_and, and_false, if_true, if_false, ite_true, ite_false, reduceIte, Int.reduceEq, not_true_eq_false, not_false_eq_true, Decidable.not_not]; omega))
    | (with_reducible show ¬ _; first | omega | (simp only [inI, upI_e, Nat.reduceEqDiff, Nat.reduceAdd, true_and, and_true, false_and, and_false, if_true, if_false, ite_true, ite_false, reduceIte, Int.reduceEq, not_true_eq_false, not_false_eq_true, Decidable.not_not]; omega))
theorem op_begins {a b : Int} : OpI n_X5_begins n_X6_begins [vI a, vI b] := by
  intro d n h n0 n1 H
  have fa := H.facts
  unfold Facts at fa
  obtain ⟨oR, oE, oS, oP, oZ, mE, mR, mEa, mS, mZ⟩ := H.ok
  have gr := H.1.get.1 a
  have ga := H.1.arr a
  repeat' first
    | first | exact H.m12 | exact H.rf (by decide) (by decide)
    | (with_reducible refine exI ?_)
    | (with_reducible refine exL ?_)
    | (with_reducible refine exV ?_)
    | (with_reducible apply And.intro)
    | (with_reducible refine cI_i (e_X5_begins ?_))
    | (with_reducible refine cL_i (e_X5_begins ?_))
    | (with_reducible refine cV_i (e_X5_begins ?_))
    | (with_reducible refine u_X5_begins_1 (tx_mono _ _) ?_)
    | (with_reducible refine cI_i (e_X6_begins ?_))
    | (with_reducible refine cL_i (e_X6_begins ?_))
    | (with_reducible refine cV_i (e_X6_begins ?_))
    | (with_reducible refine u_X6_begins_1 (tx_mono _ _) ?_)
    | (with_reducible refine u_X6_begins_2 (tx_mono _ _) ?_)
    | (with_reducible apply c_X0_hasWord)
    | (with_reducible apply c_X5_refuse)
    | (with_reducible apply c_X6_in)
    | (with_reducible apply c_X6_isRhyme)
    | (with_reducible apply c_X6_refuse)
    | assumption
    | exact isB1
    | (intro _ e9; subst e9)
    | (intro c9; exfalso; first | omega | (simp only [inI, upI_e, Nat.reduceEqDiff, Nat.reduceAdd, true_and, and_true, false_and, and_false, if_true, if_false, ite_true, ite_false, reduceIte, Int.reduceEq, not_true_eq_false, not_false_eq_true, Decidable.not_not] at c9; omega))
    | (intro c9; (try simp only [inI, upI_e, Nat.reduceEqDiff, Nat.reduceAdd, true_and, and_true, false_and, and_false, if_true, if_false, ite_true, ite_false, reduceIte, Int.reduceEq, not_true_eq_false, not_false_eq_true, Decidable.not_not] at c9))
    | (with_reducible show _ ≤ _; first | omega | (simp only [inI, upI_e, Nat.reduceEqDiff, Nat.reduceAdd, true_and, and_true, false_and, and_false, if_true, if_false, ite_true, ite_false, reduceIte, Int.reduceEq, not_true_eq_false, not_false_eq_true, Decidable.not_not]; omega))
    | (with_reducible show _ < _; first | omega | (simp only [inI, upI_e, Nat.reduceEqDiff, Nat.reduceAdd, true_and, and_true, false_and, and_false, if_true, if_false, ite_true, ite_false, reduceIte, Int.reduceEq, not_true_eq_false, not_false_eq_true, Decidable.not_not]; omega))
    | (with_reducible show _ = _; first | omega | (simp only [inI, upI_e, Nat.reduceEqDiff, Nat.reduceAdd, true_and, and_true, false_and, and_false, if_true, if_false, ite_true, ite_false, reduceIte, Int.reduceEq, not_true_eq_false, not_false_eq_true, Decidable.not_not]; omega))
    | (with_reducible show _ ∧ _; first | omega | (simp only [inI, upI_e, Nat.reduceEqDiff, Nat.reduceAdd, true_and, and_true, false_and, and_false, if_true, if_false, ite_true, ite_false, reduceIte, Int.reduceEq, not_true_eq_false, not_false_eq_true, Decidable.not_not]; omega))
    | (with_reducible show _ ∨ _; first | omega | (simp only [inI, upI_e, Nat.reduceEqDiff, Nat.reduceAdd, true_and, and_true, false_and, and_false, if_true, if_false, ite_true, ite_false, reduceIte, Int.reduceEq, not_true_eq_false, not_false_eq_true, Decidable.not_not]; omega))
    | (with_reducible show inI _; first | omega | (simp only [inI, upI_e, Nat.reduceEqDiff, Nat.reduceAdd, true_and, and_true, false_and, and_false, if_true, if_false, ite_true, ite_false, reduceIte, Int.reduceEq, not_true_eq_false, not_false_eq_true, Decidable.not_not]; omega))
    | (with_reducible show ¬ _; first | omega | (simp only [inI, upI_e, Nat.reduceEqDiff, Nat.reduceAdd, true_and, and_true, false_and, and_false, if_true, if_false, ite_true, ite_false, reduceIte, Int.reduceEq, not_true_eq_false, not_false_eq_true, Decidable.not_not]; omega))
  · refine ⟨?_, H.2.1.c (fun c hc => by (funext j; simp only [upI_e]; repeat' rw [if_neg (by omega)])), H.2.2.1.c (fun c hc => by (funext j; simp only [upI_e]; repeat' rw [if_neg (by omega)])) (by simp only [upI_e]; repeat' rw [if_neg (by omega)]) (by simp only [upI_e]; repeat' rw [if_neg (by omega)]), H.2.2.2.1.c (fun c hc => by (funext j; simp only [upI_e]; repeat' rw [if_neg (by omega)])) (by simp only [upI_e]; repeat' rw [if_neg (by omega)]) (by simp only [upI_e]; repeat' rw [if_neg (by omega)]), H.2.2.2.2.1.c (fun c hc => by (funext j; simp only [upI_e]; repeat' rw [if_neg (by omega)])) (by simp only [upI_e]; repeat' rw [if_neg (by omega)]) (by simp only [upI_e]; repeat' rw [if_neg (by omega)]), H.2.2.2.2.2.1.c (fun c hc => by (funext j; simp only [upI_e]; repeat' rw [if_neg (by omega)])), H.2.2.2.2.2.2.c (fun c hc => by (funext j; simp only [upI_e]; repeat' rw [if_neg (by omega)])) (by simp only [upI_e]; repeat' rw [if_neg (by omega)]) (by simp only [upI_e]; repeat' rw [if_neg (by omega)]) (by simp only [upI_e]; repeat' rw [if_neg (by omega)])⟩
    refine IB.put (by have := H.next; (simp only [inI, upI_e, Nat.reduceEqDiff, Nat.reduceAdd, true_and, and_true, false_and, and_false, if_true, if_false, ite_true, ite_false, reduceIte, Int.reduceEq, not_true_eq_false, not_false_eq_true, Decidable.not_not]); omega) (by have := H.next; (simp only [inI, upI_e, Nat.reduceEqDiff, Nat.reduceAdd, true_and, and_true, false_and, and_false, if_true, if_false, ite_true, ite_false, reduceIte, Int.reduceEq, not_true_eq_false, not_false_eq_true, Decidable.not_not]); omega) (fun i => ?_) (fun i c1 c2 => ?_) (fun i c1 c2 => ?_) (fun i c1 c2 => ?_) (fun i c => ?_)
    · have x := H.1.arr i
      (simp only [inI, upI_e, Nat.reduceEqDiff, Nat.reduceAdd, true_and, and_true, false_and, and_false, if_true, if_false, ite_true, ite_false, reduceIte, Int.reduceEq, not_true_eq_false, not_false_eq_true, Decidable.not_not] at *)
      refine ⟨?_, ?_, ?_, ?_, ?_, ?_, ?_⟩ <;> (repeat' split) <;> (try subst_vars) <;> omega
    · have x := H.1.get.1 i
      (simp only [inI, upI_e, Nat.reduceEqDiff, Nat.reduceAdd, true_and, and_true, false_and, and_false, if_true, if_false, ite_true, ite_false, reduceIte, Int.reduceEq, not_true_eq_false, not_false_eq_true, Decidable.not_not] at *)
      (repeat' split) <;> (try subst_vars) <;> omega
    · have x := H.1.get.2.1 i
      (simp only [inI, upI_e, Nat.reduceEqDiff, Nat.reduceAdd, true_and, and_true, false_and, and_false, if_true, if_false, ite_true, ite_false, reduceIte, Int.reduceEq, not_true_eq_false, not_false_eq_true, Decidable.not_not] at *)
      (repeat' split) <;> (try subst_vars) <;> omega
    · have x := H.1.get.2.2.1 i
      (simp only [inI, upI_e, Nat.reduceEqDiff, Nat.reduceAdd, true_and, and_true, false_and, and_false, if_true, if_false, ite_true, ite_false, reduceIte, Int.reduceEq, not_true_eq_false, not_false_eq_true, Decidable.not_not] at *)
      (repeat' split) <;> (try subst_vars) <;> omega
    · have x := H.1.get.2.2.2 i c
      (simp only [inI, upI_e, Nat.reduceEqDiff, Nat.reduceAdd, true_and, and_true, false_and, and_false, if_true, if_false, ite_true, ite_false, reduceIte, Int.reduceEq, not_true_eq_false, not_false_eq_true, Decidable.not_not] at *)
      (repeat' split) <;> (try subst_vars) <;> omega
theorem op_says {a b : Int} : OpI n_X5_says n_X6_says [vI a, vI b] := by
  intro d n h n0 n1 H
  have fa := H.facts
  unfold Facts at fa
  obtain ⟨oR, oE, oS, oP, oZ, mE, mR, mEa, mS, mZ⟩ := H.ok
  have f1 : (fM (upI h 38 12 0)).1 0 = h.1 1 0 := by rw [mE]; rfl
  repeat' first
    | first | exact H.m12 | exact H.rf (by decide) (by decide)
    | (with_reducible refine exI ?_)
    | (with_reducible refine exL ?_)
    | (with_reducible refine exV ?_)
    | (with_reducible apply And.intro)
    | (with_reducible refine cI_i (e_X5_says ?_))
    | (with_reducible refine cL_i (e_X5_says ?_))
    | (with_reducible refine cV_i (e_X5_says ?_))
    | (with_reducible refine u_X5_says_1 (tx_mono _ _) ?_)
    | (with_reducible refine u_X5_says_2 (tx_mono _ _) ?_)
    | (with_reducible refine u_X5_says_3 (tx_mono _ _) ?_)
    | (with_reducible refine cI_i (e_X6_says ?_))
    | (with_reducible refine cL_i (e_X6_says ?_))
    | (with_reducible refine cV_i (e_X6_says ?_))
    | (with_reducible refine u_X6_says_1 (tx_mono _ _) ?_)
    | (with_reducible refine u_X6_says_2 (tx_mono _ _) ?_)
    | (with_reducible refine u_X6_says_3 (tx_mono _ _) ?_)
    | (with_reducible refine u_X6_says_4 (tx_mono _ _) ?_)
    | (with_reducible apply c_X0_hasRhyme)
    | (with_reducible apply s_X0_wordTo)
    | (with_reducible apply c_X5_refuse)
    | (with_reducible apply c_X6_isRhyme)
    | (with_reducible apply c_X6_refuse)
    | (with_reducible apply s_X6_saidBy)
    | (with_reducible apply c_X6_wrongNumber)
    | assumption
    | exact isB1
    | (intro _ e9; subst e9)
    | (intro c9; exfalso; first | omega | (simp only [inI, upI_e, Nat.reduceEqDiff, Nat.reduceAdd, true_and, and_true, false_and, and_false, if_true, if_false, ite_true, ite_false, reduceIte, Int.reduceEq, not_true_eq_false, not_false_eq_true, Decidable.not_not] at c9; omega))
    | (intro c9; (try simp only [inI, upI_e, Nat.reduceEqDiff, Nat.reduceAdd, true_and, and_true, false_and, and_false, if_true, if_false, ite_true, ite_false, reduceIte, Int.reduceEq, not_true_eq_false, not_false_eq_true, Decidable.not_not] at c9))
    | (with_reducible show _ ≤ _; first | omega | (simp only [inI, upI_e, Nat.reduceEqDiff, Nat.reduceAdd, true_and, and_true, false_and, and_false, if_true, if_false, ite_true, ite_false, reduceIte, Int.reduceEq, not_true_eq_false, not_false_eq_true, Decidable.not_not]; omega))
    | (with_reducible show _ < _; first | omega | (simp only [inI, upI_e, Nat.reduceEqDiff, Nat.reduceAdd, true_and, and_true, false_and, and_false, if_true, if_false, ite_true, ite_false, reduceIte, Int.reduceEq, not_true_eq_false, not_false_eq_true, Decidable.not_not]; omega))
    | (with_reducible show _ = _; first | omega | (simp only [inI, upI_e, Nat.reduceEqDiff, Nat.reduceAdd, true_and, and_true, false_and, and_false, if_true, if_false, ite_true, ite_false, reduceIte, Int.reduceEq, not_true_eq_false, not_false_eq_true, Decidable.not_not]; omega))
    | (with_reducible show _ ∧ _; first | omega | (simp only [inI, upI_e, Nat.reduceEqDiff, Nat.reduceAdd, true_and, and_true, false_and, and_false, if_true, if_false, ite_true, ite_false, reduceIte, Int.reduceEq, not_true_eq_false, not_false_eq_true, Decidable.not_not]; omega))
    | (with_reducible show _ ∨ _; first | omega | (simp only [inI, upI_e, Nat.reduceEqDiff, Nat.reduceAdd, true_and, and_true, false_and, and_false, if_true, if_false, ite_true, ite_false, reduceIte, Int.reduceEq, not_true_eq_false, not_false_eq_true, Decidable.not_not]; omega))
    | (with_reducible show inI _; first | omega | (simp only [inI, upI_e, Nat.reduceEqDiff, Nat.reduceAdd, true_and, and_true, false_and, and_false, if_true, if_false, ite_true, ite_false, reduceIte, Int.reduceEq, not_true_eq_false, not_false_eq_true, Decidable.not_not]; omega))
    | (with_reducible show ¬ _; first | omega | (simp only [inI, upI_e, Nat.reduceEqDiff, Nat.reduceAdd, true_and, and_true, false_and, and_false, if_true, if_false, ite_true, ite_false, reduceIte, Int.reduceEq, not_true_eq_false, not_false_eq_true, Decidable.not_not]; omega))
  rw [mE]
theorem op_pile {a : Int} : OpI n_X5_pile n_X6_pile [vI a] := by
  intro d n h n0 n1 H
  have fa := H.facts
  unfold Facts at fa
  obtain ⟨oR, oE, oS, oP, oZ, mE, mR, mEa, mS, mZ⟩ := H.ok
  repeat' first
    | first | exact H.m12 | exact H.rf (by decide) (by decide)
    | (with_reducible refine exI ?_)
    | (with_reducible refine exL ?_)
    | (with_reducible refine exV ?_)
    | (with_reducible apply And.intro)
    | (with_reducible refine cI_i (e_X5_pile ?_))
    | (with_reducible refine cL_i (e_X5_pile ?_))
    | (with_reducible refine cV_i (e_X5_pile ?_))
    | (with_reducible refine u_X5_pile_1 (tx_mono _ _) ?_)
    | (with_reducible refine u_X5_pile_2 (tx_mono _ _) ?_)
    | (with_reducible refine u_X5_pile_3 (tx_mono _ _) ?_)
    | (with_reducible refine cI_i (e_X6_pile ?_))
    | (with_reducible refine cL_i (e_X6_pile ?_))
    | (with_reducible refine cV_i (e_X6_pile ?_))
    | (with_reducible refine u_X6_pile_1 (tx_mono _ _) ?_)
    | (with_reducible refine u_X6_pile_2 (tx_mono _ _) ?_)
    | (with_reducible refine u_X6_pile_3 (tx_mono _ _) ?_)
    | (with_reducible apply c_X5_refuse)
    | (with_reducible apply c_X6_refuse)
    | (with_reducible apply c_X6_wrongNumber)
    | assumption
    | exact isB1
    | (intro _ e9; subst e9)
    | (intro c9; exfalso; first | omega | (simp only [inI, upI_e, Nat.reduceEqDiff, Nat.reduceAdd, true_and, and_true, false_and, and_false, if_true, if_false, ite_true, ite_false, reduceIte, Int.reduceEq, not_true_eq_false, not_false_eq_true, Decidable.not_not] at c9; omega))
    | (intro c9; (try simp only [inI, upI_e, Nat.reduceEqDiff, Nat.reduceAdd, true_and, and_true, false_and, and_false, if_true, if_false, ite_true, ite_false, reduceIte, Int.reduceEq, not_true_eq_false, not_false_eq_true, Decidable.not_not] at c9))
    | (with_reducible show _ ≤ _; first | omega | (simp only [inI, upI_e, Nat.reduceEqDiff, Nat.reduceAdd, true_and, and_true, false_and, and_false, if_true, if_false, ite_true, ite_false, reduceIte, Int.reduceEq, not_true_eq_false, not_false_eq_true, Decidable.not_not]; omega))
    | (with_reducible show _ < _; first | omega | (simp only [inI, upI_e, Nat.reduceEqDiff, Nat.reduceAdd, true_and, and_true, false_and, and_false, if_true, if_false, ite_true, ite_false, reduceIte, Int.reduceEq, not_true_eq_false, not_false_eq_true, Decidable.not_not]; omega))
    | (with_reducible show _ = _; first | omega | (simp only [inI, upI_e, Nat.reduceEqDiff, Nat.reduceAdd, true_and, and_true, false_and, and_false, if_true, if_false, ite_true, ite_false, reduceIte, Int.reduceEq, not_true_eq_false, not_false_eq_true, Decidable.not_not]; omega))
    | (with_reducible show _ ∧ _; first | omega | (simp only [inI, upI_e, Nat.reduceEqDiff, Nat.reduceAdd, true_and, and_true, false_and, and_false, if_true, if_false, ite_true, ite_false, reduceIte, Int.reduceEq, not_true_eq_false, not_false_eq_true, Decidable.not_not]; omega))
    | (with_reducible show _ ∨ _; first | omega | (simp only [inI, upI_e, Nat.reduceEqDiff, Nat.reduceAdd, true_and, and_true, false_and, and_false, if_true, if_false, ite_true, ite_false, reduceIte, Int.reduceEq, not_true_eq_false, not_false_eq_true, Decidable.not_not]; omega))
    | (with_reducible show inI _; first | omega | (simp only [inI, upI_e, Nat.reduceEqDiff, Nat.reduceAdd, true_and, and_true, false_and, and_false, if_true, if_false, ite_true, ite_false, reduceIte, Int.reduceEq, not_true_eq_false, not_false_eq_true, Decidable.not_not]; omega))
    | (with_reducible show ¬ _; first | omega | (simp only [inI, upI_e, Nat.reduceEqDiff, Nat.reduceAdd, true_and, and_true, false_and, and_false, if_true, if_false, ite_true, ite_false, reduceIte, Int.reduceEq, not_true_eq_false, not_false_eq_true, Decidable.not_not]; omega))
  · (simp only [inI, upI_e, Nat.reduceEqDiff, Nat.reduceAdd, true_and, and_true, false_and, and_false, if_true, if_false, ite_true, ite_false, reduceIte, Int.reduceEq, not_true_eq_false, not_false_eq_true, Decidable.not_not])
    refine ⟨?_, H.2.1.c (fun c hc => by (funext j; simp only [upI_e]; repeat' rw [if_neg (by omega)])), H.2.2.1.c (fun c hc => by (funext j; simp only [upI_e]; repeat' rw [if_neg (by omega)])) (by simp only [upI_e]; repeat' rw [if_neg (by omega)]) (by simp only [upI_e]; repeat' rw [if_neg (by omega)]), H.2.2.2.1.c (fun c hc => by (funext j; simp only [upI_e]; repeat' rw [if_neg (by omega)])) (by simp only [upI_e]; repeat' rw [if_neg (by omega)]) (by simp only [upI_e]; repeat' rw [if_neg (by omega)]), H.2.2.2.2.1.c (fun c hc => by (funext j; simp only [upI_e]; repeat' rw [if_neg (by omega)])) (by simp only [upI_e]; repeat' rw [if_neg (by omega)]) (by simp only [upI_e]; repeat' rw [if_neg (by omega)]), H.2.2.2.2.2.1.c (fun c hc => by (funext j; simp only [upI_e]; repeat' rw [if_neg (by omega)])), H.2.2.2.2.2.2.c (fun c hc => by (funext j; simp only [upI_e]; repeat' rw [if_neg (by omega)])) (by simp only [upI_e]; repeat' rw [if_neg (by omega)]) (by simp only [upI_e]; repeat' rw [if_neg (by omega)]) (by simp only [upI_e]; repeat' rw [if_neg (by omega)])⟩
    refine IB.put (by have := H.next; (simp only [inI, upI_e, Nat.reduceEqDiff, Nat.reduceAdd, true_and, and_true, false_and, and_false, if_true, if_false, ite_true, ite_false, reduceIte, Int.reduceEq, not_true_eq_false, not_false_eq_true, Decidable.not_not]); omega) (by have := H.next; (simp only [inI, upI_e, Nat.reduceEqDiff, Nat.reduceAdd, true_and, and_true, false_and, and_false, if_true, if_false, ite_true, ite_false, reduceIte, Int.reduceEq, not_true_eq_false, not_false_eq_true, Decidable.not_not]); omega) (fun i => ?_) (fun i c1 c2 => ?_) (fun i c1 c2 => ?_) (fun i c1 c2 => ?_) (fun i c => ?_)
    · have x := H.1.arr i
      (simp only [inI, upI_e, Nat.reduceEqDiff, Nat.reduceAdd, true_and, and_true, false_and, and_false, if_true, if_false, ite_true, ite_false, reduceIte, Int.reduceEq, not_true_eq_false, not_false_eq_true, Decidable.not_not] at *)
      refine ⟨?_, ?_, ?_, ?_, ?_, ?_, ?_⟩ <;> (repeat' split) <;> (try subst_vars) <;> omega
    · have x := H.1.get.1 i
      (simp only [inI, upI_e, Nat.reduceEqDiff, Nat.reduceAdd, true_and, and_true, false_and, and_false, if_true, if_false, ite_true, ite_false, reduceIte, Int.reduceEq, not_true_eq_false, not_false_eq_true, Decidable.not_not] at *)
      (repeat' split) <;> (try subst_vars) <;> omega
    · have x := H.1.get.2.1 i
      (simp only [inI, upI_e, Nat.reduceEqDiff, Nat.reduceAdd, true_and, and_true, false_and, and_false, if_true, if_false, ite_true, ite_false, reduceIte, Int.reduceEq, not_true_eq_false, not_false_eq_true, Decidable.not_not] at *)
      (repeat' split) <;> (try subst_vars) <;> omega
    · have x := H.1.get.2.2.1 i
      (simp only [inI, upI_e, Nat.reduceEqDiff, Nat.reduceAdd, true_and, and_true, false_and, and_false, if_true, if_false, ite_true, ite_false, reduceIte, Int.reduceEq, not_true_eq_false, not_false_eq_true, Decidable.not_not] at *)
      (repeat' split) <;> (try subst_vars) <;> omega
    · have x := H.1.get.2.2.2 i c
      (simp only [inI, upI_e, Nat.reduceEqDiff, Nat.reduceAdd, true_and, and_true, false_and, and_false, if_true, if_false, ite_true, ite_false, reduceIte, Int.reduceEq, not_true_eq_false, not_false_eq_true, Decidable.not_not] at *)
      (repeat' split) <;> (try subst_vars) <;> omega
theorem op_move {a b : Int} : OpI n_X5_move n_X6_move [vI a, vI b] := by
  intro d n h n0 n1 H
  have fa := H.facts
  unfold Facts at fa
  obtain ⟨oR, oE, oS, oP, oZ, mE, mR, mEa, mS, mZ⟩ := H.ok
  have gp := H.1.get.2.2.1 a
  have ga := H.1.arr a
  repeat' first
    | first | exact H.m12 | exact H.rf (by decide) (by decide)
    | (with_reducible refine exI ?_)
    | (with_reducible refine exL ?_)
    | (with_reducible refine exV ?_)
    | (with_reducible apply And.intro)
    | (with_reducible refine cI_i (e_X5_move ?_))
    | (with_reducible refine cL_i (e_X5_move ?_))
    | (with_reducible refine cV_i (e_X5_move ?_))
    | (with_reducible refine u_X5_move_1 (tx_mono _ _) ?_)
    | (with_reducible refine u_X5_move_2 (tx_mono _ _) ?_)
    | (with_reducible refine u_X5_move_3 (tx_mono _ _) ?_)
    | (with_reducible refine u_X5_move_4 (tx_mono _ _) ?_)
    | (with_reducible refine u_X5_move_5 (tx_mono _ _) ?_)
    | (with_reducible refine cI_i (e_X6_move ?_))
    | (with_reducible refine cL_i (e_X6_move ?_))
    | (with_reducible refine cV_i (e_X6_move ?_))
    | (with_reducible refine u_X6_move_1 (tx_mono _ _) ?_)
    | (with_reducible refine u_X6_move_2 (tx_mono _ _) ?_)
    | (with_reducible refine u_X6_move_3 (tx_mono _ _) ?_)
    | (with_reducible refine u_X6_move_4 (tx_mono _ _) ?_)
    | (with_reducible refine u_X6_move_5 (tx_mono _ _) ?_)
    | (with_reducible refine u_X6_move_6 (tx_mono _ _) ?_)
    | (with_reducible apply c_X5_refuse)
    | (with_reducible apply c_X6_in)
    | (with_reducible apply c_X6_refuse)
    | assumption
    | exact isB1
    | (intro _ e9; subst e9)
    | (intro c9; exfalso; first | omega | (simp only [inI, upI_e, Nat.reduceEqDiff, Nat.reduceAdd, true_and, and_true, false_and, and_false, if_true, if_false, ite_true, ite_false, reduceIte, Int.reduceEq, not_true_eq_false, not_false_eq_true, Decidable.not_not] at c9; omega))
    | (intro c9; (try simp only [inI, upI_e, Nat.reduceEqDiff, Nat.reduceAdd, true_and, and_true, false_and, and_false, if_true, if_false, ite_true, ite_false, reduceIte, Int.reduceEq, not_true_eq_false, not_false_eq_true, Decidable.not_not] at c9))
    | (with_reducible show _ ≤ _; first | omega | (simp only [inI, upI_e, Nat.reduceEqDiff, Nat.reduceAdd, true_and, and_true, false_and, and_false, if_true, if_false, ite_true, ite_false, reduceIte, Int.reduceEq, not_true_eq_false, not_false_eq_true, Decidable.not_not]; omega))
    | (with_reducible show _ < _; first | omega | (simp only [inI, upI_e, Nat.reduceEqDiff, Nat.reduceAdd, true_and, and_true, false_and, and_false, if_true, if_false, ite_true, ite_false, reduceIte, Int.reduceEq, not_true_eq_false, not_false_eq_true, Decidable.not_not]; omega))
    | (with_reducible show _ = _; first | omega | (simp only [inI, upI_e, Nat.reduceEqDiff, Nat.reduceAdd, true_and, and_true, false_and, and_false, if_true, if_false, ite_true, ite_false, reduceIte, Int.reduceEq, not_true_eq_false, not_false_eq_true, Decidable.not_not]; omega))
    | (with_reducible show _ ∧ _; first | omega | (simp only [inI, upI_e, Nat.reduceEqDiff, Nat.reduceAdd, true_and, and_true, false_and, and_false, if_true, if_false, ite_true, ite_false, reduceIte, Int.reduceEq, not_true_eq_false, not_false_eq_true, Decidable.not_not]; omega))
    | (with_reducible show _ ∨ _; first | omega | (simp only [inI, upI_e, Nat.reduceEqDiff, Nat.reduceAdd, true_and, and_true, false_and, and_false, if_true, if_false, ite_true, ite_false, reduceIte, Int.reduceEq, not_true_eq_false, not_false_eq_true, Decidable.not_not]; omega))
    | (with_reducible show inI _; first | omega | (simp only [inI, upI_e, Nat.reduceEqDiff, Nat.reduceAdd, true_and, and_true, false_and, and_false, if_true, if_false, ite_true, ite_false, reduceIte, Int.reduceEq, not_true_eq_false, not_false_eq_true, Decidable.not_not]; omega))
    | (with_reducible show ¬ _; first | omega | (simp only [inI, upI_e, Nat.reduceEqDiff, Nat.reduceAdd, true_and, and_true, false_and, and_false, if_true, if_false, ite_true, ite_false, reduceIte, Int.reduceEq, not_true_eq_false, not_false_eq_true, Decidable.not_not]; omega))
  · (simp only [inI, upI_e, Nat.reduceEqDiff, Nat.reduceAdd, true_and, and_true, false_and, and_false, if_true, if_false, ite_true, ite_false, reduceIte, Int.reduceEq, not_true_eq_false, not_false_eq_true, Decidable.not_not])
    refine ⟨?_, H.2.1.c (fun c hc => by (funext j; simp only [upI_e]; repeat' rw [if_neg (by omega)])), H.2.2.1.c (fun c hc => by (funext j; simp only [upI_e]; repeat' rw [if_neg (by omega)])) (by simp only [upI_e]; repeat' rw [if_neg (by omega)]) (by simp only [upI_e]; repeat' rw [if_neg (by omega)]), H.2.2.2.1.c (fun c hc => by (funext j; simp only [upI_e]; repeat' rw [if_neg (by omega)])) (by simp only [upI_e]; repeat' rw [if_neg (by omega)]) (by simp only [upI_e]; repeat' rw [if_neg (by omega)]), H.2.2.2.2.1.c (fun c hc => by (funext j; simp only [upI_e]; repeat' rw [if_neg (by omega)])) (by simp only [upI_e]; repeat' rw [if_neg (by omega)]) (by simp only [upI_e]; repeat' rw [if_neg (by omega)]), H.2.2.2.2.2.1.c (fun c hc => by (funext j; simp only [upI_e]; repeat' rw [if_neg (by omega)])), H.2.2.2.2.2.2.c (fun c hc => by (funext j; simp only [upI_e]; repeat' rw [if_neg (by omega)])) (by simp only [upI_e]; repeat' rw [if_neg (by omega)]) (by simp only [upI_e]; repeat' rw [if_neg (by omega)]) (by simp only [upI_e]; repeat' rw [if_neg (by omega)])⟩
    refine IB.put (by have := H.next; (simp only [inI, upI_e, Nat.reduceEqDiff, Nat.reduceAdd, true_and, and_true, false_and, and_false, if_true, if_false, ite_true, ite_false, reduceIte, Int.reduceEq, not_true_eq_false, not_false_eq_true, Decidable.not_not]); omega) (by have := H.next; (simp only [inI, upI_e, Nat.reduceEqDiff, Nat.reduceAdd, true_and, and_true, false_and, and_false, if_true, if_false, ite_true, ite_false, reduceIte, Int.reduceEq, not_true_eq_false, not_false_eq_true, Decidable.not_not]); omega) (fun i => ?_) (fun i c1 c2 => ?_) (fun i c1 c2 => ?_) (fun i c1 c2 => ?_) (fun i c => ?_)
    · have x := H.1.arr i
      (simp only [inI, upI_e, Nat.reduceEqDiff, Nat.reduceAdd, true_and, and_true, false_and, and_false, if_true, if_false, ite_true, ite_false, reduceIte, Int.reduceEq, not_true_eq_false, not_false_eq_true, Decidable.not_not] at *)
      refine ⟨?_, ?_, ?_, ?_, ?_, ?_, ?_⟩ <;> (repeat' split) <;> (try subst_vars) <;> omega
    · have x := H.1.get.1 i
      (simp only [inI, upI_e, Nat.reduceEqDiff, Nat.reduceAdd, true_and, and_true, false_and, and_false, if_true, if_false, ite_true, ite_false, reduceIte, Int.reduceEq, not_true_eq_false, not_false_eq_true, Decidable.not_not] at *)
      (repeat' split) <;> (try subst_vars) <;> omega
    · have x := H.1.get.2.1 i
      (simp only [inI, upI_e, Nat.reduceEqDiff, Nat.reduceAdd, true_and, and_true, false_and, and_false, if_true, if_false, ite_true, ite_false, reduceIte, Int.reduceEq, not_true_eq_false, not_false_eq_true, Decidable.not_not] at *)
      (repeat' split) <;> (try subst_vars) <;> omega
    · have x := H.1.get.2.2.1 i
      (simp only [inI, upI_e, Nat.reduceEqDiff, Nat.reduceAdd, true_and, and_true, false_and, and_false, if_true, if_false, ite_true, ite_false, reduceIte, Int.reduceEq, not_true_eq_false, not_false_eq_true, Decidable.not_not] at *)
      (repeat' split) <;> (try subst_vars) <;> omega
    · have x := H.1.get.2.2.2 i c
      (simp only [inI, upI_e, Nat.reduceEqDiff, Nat.reduceAdd, true_and, and_true, false_and, and_false, if_true, if_false, ite_true, ite_false, reduceIte, Int.reduceEq, not_true_eq_false, not_false_eq_true, Decidable.not_not] at *)
      (repeat' split) <;> (try subst_vars) <;> omega
