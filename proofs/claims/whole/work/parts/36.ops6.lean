/-! ===== turns, and back ===== -/
/-- a row of the turns remembered, one more at its end -/
def sfF (s : Int) (f : Int → Int) (i : Int) : Int := if s < 8 then f i else f (i + 1)
def rmF (s v : Int) (f : Int → Int) (i : Int) : Int := if i = min s 7 then v else sfF s f i
theorem s_X3_dropOldest {d : Nat} {h : AH} {k : AH → Prop} (q : k (upI (cpI (cpI (cpI h 28 1 28 0 7) 29 1 29 0 7) 30 1 30 0 7) 27 3 7)) : cV (tx mt (d + 1)) n_X3_dropOldest [vR 27] h k :=
  e_X3_dropOldest (fun _ w1 _ w2 _ w3 _ w4 => ⟨rfl, by rw [w4, w3, w2, w1]; exact q⟩)
theorem s_X3_remember {d : Nat} {h : AH} {k : AH → Prop} (hs : 0 ≤ h.1 27 3 ∧ h.1 27 3 ≤ 8) (h0 : 0 ≤ h.1 1 11) (h1 : h.1 1 11 < h.1 1 3) (h4 : h.1 1 3 ≤ 4)
    (q : ∀ h', h'.1 27 3 = min (h.1 27 3) 7 + 1 → (∀ i, 0 ≤ i → i < 8 → h'.1 28 i = rmF (h.1 27 3) (h.1 1 11) (h.1 28) i ∧ h'.1 29 i = rmF (h.1 27 3) (h.1 1 8) (h.1 29) i ∧ h'.1 30 i = rmF (h.1 27 3) (h.1 7 (h.1 1 11)) (h.1 30) i) → (∀ c, c < 27 ∨ 30 < c → h'.1 c = h.1 c) → k h') : cV (tx mt (d + 2)) n_X3_remember [vR 27, vR 1] h k := by
  have fin : ∀ h', h'.1 27 3 = min (h.1 27 3) 7 → (∀ i, 0 ≤ i → i < 8 → i ≠ min (h.1 27 3) 7 → h'.1 28 i = sfF (h.1 27 3) (h.1 28) i ∧ h'.1 29 i = sfF (h.1 27 3) (h.1 29) i ∧ h'.1 30 i = sfF (h.1 27 3) (h.1 30) i) → (∀ c, c < 27 ∨ 30 < c → h'.1 c = h.1 c) → Bx z0 0 (tx mt (d + 1)) k_X3_remember (fun r h' => r = none ∧ k h') 2 [some (vR 27), some (vR 1)] [] h' := by
    intro h' a3 a4 a6
    have e1 : h'.1 1 = h.1 1 := a6 1 (by decide)
    have e7 : h'.1 7 = h.1 7 := a6 7 (by decide)
    refine u_X3_remember_2 (tx_mono _ _) isB1 ⟨by omega, by omega, fun h1 w1 => ?_⟩
    have b1 : h1.1 27 3 = h'.1 27 3 := by rw [w1]; (simp only [upI_e]; repeat' rw [if_neg (by omega)])
    refine ⟨by omega, by omega, fun h2 w2 => ?_⟩
    have b2 : h2.1 27 3 = h'.1 27 3 := by rw [w2]; simp only [upI_e]; rw [if_neg (by omega)]; exact b1
    have c2 : h2.1 1 11 = h.1 1 11 := by rw [w2, w1]; simp only [upI_e]; (repeat' rw [if_neg (by omega)]); rw [e1]
    refine ⟨by omega, by omega, by omega, by omega, fun h3 w3 => ?_⟩
    have b3 : h3.1 27 3 = h'.1 27 3 := by rw [w3]; simp only [upI_e]; rw [if_neg (by omega)]; exact b2
    refine ⟨⟨by omega, by omega⟩, fun h4 w4 => ⟨rfl, q h4 ?_ ?_ ?_⟩⟩
    · rw [w4, upI_e, if_pos ⟨rfl, rfl⟩, b3, a3]
    · rw [b3, a3] at w4
      rw [b2, c2, a3] at w3
      rw [b1, a3] at w2
      rw [a3] at w1
      intro i i0 i8
      rw [w4, w3, w2, w1]
      unfold rmF
      (simp only [inI, upI_e, Nat.reduceEqDiff, Nat.reduceAdd, true_and, and_true, false_and, and_false, if_true, if_false, ite_true, ite_false, reduceIte, Int.reduceEq, not_true_eq_false, not_false_eq_true, Decidable.not_not])
      by_cases c : i = min (h.1 27 3) 7
      · simp only [c, if_true, e1, e7]
        exact ⟨trivial, trivial, trivial⟩
      · simp only [c, if_false]
        exact a4 i i0 i8 c
    · intro c hc
      rw [w4, w3, w2, w1]
      funext j
      simp only [upI_e]
      (repeat' rw [if_neg (by omega)])
      rw [a6 c hc]
  refine cV_i (e_X3_remember isB1 (c_X0_hasEater isB1 (fun c => ⟨fun _ => ?_, fun x => absurd (by decide) x⟩) (fun c => by omega)))
  refine u_X3_remember_1 (tx_mono _ _) isB1 ⟨fun c => fin h (by omega) (fun i a b c' => by simp only [sfF, if_pos c]; exact ⟨trivial, trivial, trivial⟩) (fun c _ => rfl), fun c => s_X3_dropOldest (fin _ ?_ (fun i a b c' => ?_) (fun c hc => ?_))⟩
  · rw [upI_e, if_pos ⟨rfl, rfl⟩]
    omega
  · simp only [sfF, if_neg c]
    have x : 1 + (i - 0) = i + 1 := by omega
    simp only [upI_e, cpI_e, Nat.reduceEqDiff, false_and, true_and, if_false, x]
    rw [if_pos (by omega), if_pos (by omega), if_pos (by omega)]
    exact ⟨rfl, rfl, rfl⟩
  · funext j
    simp only [upI_e, cpI_e]
    (repeat' rw [if_neg (by omega)])
theorem s_X6_keepTurn {d : Nat} {h : AH} {k : AH → Prop} (hs : 0 ≤ h.1 38 31 ∧ h.1 38 31 ≤ 8) (h0 : 0 ≤ h.1 38 5) (h1 : h.1 38 5 < 4)
    (q : ∀ h', h'.1 38 31 = min (h.1 38 31) 7 + 1 → (∀ i, 0 ≤ i → i < 8 → h'.1 52 i = rmF (h.1 38 31) (h.1 38 5) (h.1 52) i ∧ h'.1 54 i = rmF (h.1 38 31) (h.1 38 2) (h.1 54) i ∧ h'.1 53 i = rmF (h.1 38 31) (h.1 44 (h.1 38 5)) (h.1 53) i) → (∀ c, c ≠ 38 → c < 52 ∨ 54 < c → h'.1 c = h.1 c) → (∀ j, j ≠ 31 → h'.1 38 j = h.1 38 j) → k h') : cV (tx mt (d + 1)) n_X6_keepTurn [vR 38] h k := by
  have fin : ∀ h' x, h'.1 38 31 = min (h.1 38 31) 7 → (∀ i, 0 ≤ i → i < 8 → i ≠ min (h.1 38 31) 7 → h'.1 52 i = sfF (h.1 38 31) (h.1 52) i ∧ h'.1 54 i = sfF (h.1 38 31) (h.1 54) i ∧ h'.1 53 i = sfF (h.1 38 31) (h.1 53) i) → (∀ c, c ≠ 38 → c < 52 ∨ 54 < c → h'.1 c = h.1 c) → (∀ j, j ≠ 31 → h'.1 38 j = h.1 38 j) → Bx z0 0 (tx mt d) k_X6_keepTurn (fun r h' => r = none ∧ k h') 3 [some (vR 38), x] [] h' := by
    intro h' x a3 a4 a6 a7
    have e7 : h'.1 44 = h.1 44 := a6 44 (by decide) (by decide)
    have e5 := a7 5 (by decide)
    have e2 := a7 2 (by decide)
    refine u_X6_keepTurn_3 (tx_mono _ _) ⟨by omega, by omega, fun h1 w1 => ?_⟩
    have b1 : h1.1 38 31 = h'.1 38 31 := by rw [w1]; (simp only [upI_e]; repeat' rw [if_neg (by omega)])
    have c1 : h1.1 38 5 = h.1 38 5 := by rw [w1]; simp only [upI_e]; (repeat' rw [if_neg (by omega)]); exact e5
    refine ⟨by omega, by omega, by omega, by omega, fun h2 w2 => ?_⟩
    have b2 : h2.1 38 31 = h'.1 38 31 := by rw [w2]; simp only [upI_e]; rw [if_neg (by omega)]; exact b1
    refine ⟨by omega, by omega, fun h3 w3 => ?_⟩
    have b3 : h3.1 38 31 = h'.1 38 31 := by rw [w3]; simp only [upI_e]; rw [if_neg (by omega)]; exact b2
    refine ⟨⟨by omega, by omega⟩, fun h4 w4 => ⟨rfl, q h4 ?_ ?_ ?_ ?_⟩⟩
    · rw [w4, upI_e, if_pos ⟨rfl, rfl⟩, b3, a3]
    · rw [b3, a3] at w4
      rw [b2, a3] at w3
      rw [b1, c1, a3] at w2
      rw [a3, e5] at w1
      intro i i0 i8
      rw [w4, w3, w2, w1]
      unfold rmF
      (simp only [inI, upI_e, Nat.reduceEqDiff, Nat.reduceAdd, true_and, and_true, false_and, and_false, if_true, if_false, ite_true, ite_false, reduceIte, Int.reduceEq, not_true_eq_false, not_false_eq_true, Decidable.not_not])
      by_cases c : i = min (h.1 38 31) 7
      · simp only [c, if_true, e2, e7]
        exact ⟨trivial, trivial, trivial⟩
      · simp only [c, if_false]
        exact a4 i i0 i8 c
    · intro c hc hd
      rw [w4, w3, w2, w1]
      funext j
      simp only [upI_e]
      (repeat' rw [if_neg (by omega)])
      rw [a6 c hc hd]
    · intro j hj
      rw [w4, w3, w2, w1]
      simp only [upI_e]
      (repeat' rw [if_neg (by omega)])
      rw [a7 j hj]
  refine cV_i (e_X6_keepTurn ⟨fun c => fin h _ (by omega) (fun i a b c' => by simp only [sfF, if_pos (show h.1 38 31 < 8 by omega)]; exact ⟨trivial, trivial, trivial⟩) (fun c _ _ => rfl) (fun _ _ => rfl), fun c => ?_⟩)
  have lp : ∀ (m : Nat) (t : Int) (h' : AH), 1 ≤ t → t + m = 8 → (∀ i, h'.1 52 i = (if 0 ≤ i ∧ i < t - 1 then h.1 52 (i + 1) else h.1 52 i) ∧ h'.1 54 i = (if 0 ≤ i ∧ i < t - 1 then h.1 54 (i + 1) else h.1 54 i) ∧ h'.1 53 i = (if 0 ≤ i ∧ i < t - 1 then h.1 53 (i + 1) else h.1 53 i)) → (∀ c, c < 52 ∨ 54 < c → h'.1 c = h.1 c) → Bx z0 0 (tx mt d) k_X6_keepTurn (fun r h' => r = none ∧ k h') 1 [some (vR 38), some (vI t)] [] h' := by
    intro m
    induction m with
    | zero =>
      intro t h' t1 tm g f
      refine u_X6_keepTurn_1 (tx_mono _ _) ⟨fun _ => ?_, fun c => absurd (by omega) c⟩
      have e := f 38 (by decide)
      refine u_X6_keepTurn_2 (tx_mono _ _) ⟨by rw [e]; exact ⟨by omega, by omega⟩, fun h1 w1 => fin _ _ ?_ (fun i a b c' => ?_) (fun c hc hd => ?_) (fun j hj => ?_)⟩
      · rw [w1, upI_e, if_pos ⟨rfl, rfl⟩, e]
        omega
      · rw [w1]
        simp only [sfF, if_neg (show ¬ h.1 38 31 < 8 by omega)]
        have g := g i
        rw [if_pos (by omega), if_pos (by omega), if_pos (by omega)] at g
        simp only [upI_e]
        rw [if_neg (by omega), if_neg (by omega), if_neg (by omega)]
        exact g
      · rw [w1]
        funext j
        simp only [upI_e]
        rw [if_neg (by omega), f c hd]
      · rw [w1]
        simp only [upI_e]
        rw [if_neg (by omega), e]
    | succ m ih =>
      intro t h' t1 tm g f
      refine u_X6_keepTurn_1 (tx_mono _ _) ⟨fun c => absurd c (by omega), fun _ => ⟨⟨by omega, by omega⟩, by omega, by omega, by omega, by omega, fun h1 w1 => ⟨⟨by omega, by omega⟩, by omega, by omega, by omega, by omega, fun h2 w2 => ⟨⟨by omega, by omega⟩, by omega, by omega, by omega, by omega, fun h3 w3 => ⟨⟨by omega, by omega⟩, ih (t + 1) h3 (by omega) (by omega) (fun i => ?_) (fun c hc => ?_)⟩⟩⟩⟩⟩
      · have gi := g i
        have gt := g t
        rw [if_neg (by omega), if_neg (by omega), if_neg (by omega)] at gt
        rw [w3, w2, w1]
        (simp only [inI, upI_e, Nat.reduceEqDiff, Nat.reduceAdd, true_and, and_true, false_and, and_false, if_true, if_false, ite_true, ite_false, reduceIte, Int.reduceEq, not_true_eq_false, not_false_eq_true, Decidable.not_not])
        by_cases c : i = t - 1
        · have e : i + 1 = t := by omega
          rw [if_pos c, if_pos c, if_pos c, if_pos (by omega), if_pos (by omega), if_pos (by omega), e]
          exact gt
        · rw [if_neg c, if_neg c, if_neg c]
          by_cases c2 : 0 ≤ i ∧ i < t - 1
          · rw [if_pos c2, if_pos c2, if_pos c2] at gi
            rw [if_pos (by omega), if_pos (by omega), if_pos (by omega)]
            exact gi
          · rw [if_neg c2, if_neg c2, if_neg c2] at gi
            rw [if_neg (by omega), if_neg (by omega), if_neg (by omega)]
            exact gi
      · rw [w3, w2, w1]
        funext j
        simp only [upI_e]
        (repeat' rw [if_neg (by omega)])
        rw [f c hc]
  exact lp 7 1 h (by decide) (by decide) (fun i => by rw [if_neg (by omega), if_neg (by omega), if_neg (by omega)]; exact ⟨rfl, rfl, rfl⟩) (fun _ _ => rfl)
theorem op_turn : OpI n_X5_turn n_X6_turn [] := by
  intro d n h n0 n1 H
  have fa := H.facts
  unfold Facts at fa
  obtain ⟨oR, oE, oS, oP, oZ, mE, mR, mEa, mS, mZ⟩ := H.ok
  obtain ⟨p1, p2, p3, p4⟩ := H.2.2.2.2.2.2
  have gn := H.next
  have gE := H.1.get.2.1
  have ga := H.1.arr
  by_cases c : h.1 1 3 = 0
  · skip
    repeat' first
      | first | exact H.m12 | exact H.rf (by decide) (by decide)
      | (with_reducible refine exI ?_)
      | (with_reducible refine exL ?_)
      | (with_reducible refine exV ?_)
      | (with_reducible apply And.intro)
      | (with_reducible refine cI_i (e_X5_turn ?_))
      | (with_reducible refine cL_i (e_X5_turn ?_))
      | (with_reducible refine cV_i (e_X5_turn ?_))
      | (with_reducible refine u_X5_turn_1 (tx_mono _ _) ?_)
      | (with_reducible refine cI_i (e_X6_turn ?_))
      | (with_reducible refine cL_i (e_X6_turn ?_))
      | (with_reducible refine cV_i (e_X6_turn ?_))
      | (with_reducible refine u_X6_turn_1 (tx_mono _ _) ?_)
      | (with_reducible apply s_X0_takeTurn)
      | (with_reducible apply s_X3_remember)
      | (with_reducible apply c_X5_refuse)
      | (with_reducible apply s_X6_keepTurn)
      | (with_reducible apply c_X6_refuse)
      | (with_reducible apply s_X6_turnOne)
      | exact isB1
      | exact True.intro
      | (intro _ e9; subst e9)
      | (intro c9; exfalso; first | omega | (simp only [inI, upI_e, Nat.reduceEqDiff, Nat.reduceAdd, true_and, and_true, false_and, and_false, if_true, if_false, ite_true, ite_false, reduceIte, Int.reduceEq, not_true_eq_false, not_false_eq_true, Decidable.not_not] at c9; omega))
      | (intro c9; (try simp only [inI, upI_e, Nat.reduceEqDiff, Nat.reduceAdd, true_and, and_true, false_and, and_false, if_true, if_false, ite_true, ite_false, reduceIte, Int.reduceEq, not_true_eq_false, not_false_eq_true, Decidable.not_not] at c9))
      | (with_reducible show _ ≤ _; first | omega | (simp only [inI, upI_e, Nat.reduceEqDiff, Nat.reduceAdd, true_and, and_true, false_and, and_false, if_true, if_false, ite_true, ite_false, reduceIte, Int.reduceEq, not_true_eq_false, not_false_eq_true, Decidable.not_not]; omega))
      | (with_reducible show _ < _; first | omega | (simp only [inI, upI_e, Nat.reduceEqDiff, Nat.reduceAdd, true_and, and_true, false_and, and_false, if_true, if_false, ite_true, ite_false, reduceIte, Int.reduceEq, not_true_eq_false, not_false_eq_true, Decidable.not_not]; omega))
      | (with_reducible show _ = _; first | omega | (simp only [inI, upI_e, Nat.reduceEqDiff, Nat.reduceAdd, true_and, and_true, false_and, and_false, if_true, if_false, ite_true, ite_false, reduceIte, Int.reduceEq, not_true_eq_false, not_false_eq_true, Decidable.not_not]; omega))
      | (with_reducible show _ ∧ _; first | omega | (simp only [inI, upI_e, Nat.reduceEqDiff, Nat.reduceAdd, true_and, and_true, false_and, and_false, if_true, if_false, ite_true, ite_false, reduceIte, Int.reduceEq, not_true_eq_false, not_false_eq_true, Decidable.not_not]; omega))
      | (with_reducible show _ ∨ _; first | omega | (simp only [inI, upI_e, Nat.reduceEqDiff, Nat.reduceAdd, true_and, and_true, false_and, and_false, if_true, if_false, ite_true, ite_false, reduceIte, Int.reduceEq, not_true_eq_false, not_false_eq_true, Decidable.not_not]; omega))
      | (with_reducible show inI _; first | omega | (simp only [inI, upI_e, Nat.reduceEqDiff, Nat.reduceAdd, true_and, and_true, false_and, and_false, if_true, if_false, ite_true, ite_false, reduceIte, Int.reduceEq, not_true_eq_false, not_false_eq_true, Decidable.not_not]; omega))
      | (with_reducible show ¬ _; first | omega | (simp only [inI, upI_e, Nat.reduceEqDiff, Nat.reduceAdd, true_and, and_true, false_and, and_false, if_true, if_false, ite_true, ite_false, reduceIte, Int.reduceEq, not_true_eq_false, not_false_eq_true, Decidable.not_not]; omega))
  refine cI_i (e_X5_turn ⟨fun _ => u_X5_turn_1 (tx_mono _ _) (s_X3_remember ⟨by omega, by omega⟩ (by omega) (by omega) (by omega) (fun h1 r1 r2 r3 => ?_)), fun x => absurd c x⟩)
  have x1 : fX h1 1 = fX h 1 := fX_c (fun c a b => r3 c (by omega))
  refine s_X0_takeTurn isB1 (by rw [x1]; exact oR) (by rw [x1]; exact oE) (by rw [x1]; exact oS) (by rw [x1]; show h.1 1 11 < h.1 1 3; omega) (fun h2 x2 f2 => exI ?_)
  have m0 : fM (upI h2 38 12 0) = fX h 1 := by
    rw [fM_c (h := h) (fun c hc => by funext j; simp only [upI_e]; rw [if_neg (by omega), f2.1 c (by omega) (by omega), r3 c (by omega)]) (fun j hj => by simp only [upI_e]; rw [if_neg (by omega), f2.1 38 (by omega) (by omega), r3 38 (by omega)])]
    exact H.1.2
  have e2 : ∀ c j, c < 38 ∨ 38 < c → c ≠ 1 → c ≠ 7 → c < 27 ∨ 30 < c → (upI h2 38 12 0).1 c j = h.1 c j := by
    intro c j c1 c2 c3 c4
    simp only [upI_e]
    rw [if_neg (by omega), f2.1 c c2 c3, r3 c c4]
  have e3 : ∀ j, j ≠ 12 → (upI h2 38 12 0).1 38 j = h.1 38 j := by
    intro j c1
    simp only [upI_e]
    rw [if_neg (by omega), f2.1 38 (by decide) (by decide), r3 38 (by decide)]
  refine cI_i (e_X6_turn ?_)
  intro h3 w3
  rw [← w3] at m0 e2 e3
  have a1 := e3 1 (by decide)
  have a31 := e3 31 (by decide)
  have a5 := e3 5 (by decide)
  have a2 := e3 2 (by decide)
  refine ⟨fun _ => u_X6_turn_1 (tx_mono _ _) (s_X6_keepTurn (by omega) (by omega) (by omega) (fun h4 k1 k2 k3 k4 => ?_)), fun x => absurd (by omega) x⟩
  have m4 : fM h4 = fX h 1 := by
    rw [← m0]
    exact fM_c (fun c hc => k3 c (by omega) (by omega)) (fun j hj => k4 j (by omega))
  refine s_X6_turnOne (by rw [m4]; exact oR) (by rw [m4]; exact oE) (by rw [m4]; exact oS) (by rw [m4]; show h.1 1 11 < h.1 1 3; omega) (fun h5 x5 f5 => exI ?_)
  rw [m4] at x5
  rw [x1] at x2
  have F : ∀ c, c < 27 ∨ 30 < c → c < 52 ∨ 54 < c → c ≠ 38 → c ≠ 44 → c ≠ 1 → c ≠ 7 → h5.1 c = h.1 c := by
    intro c c1 c2 c3 c4 c5 c6
    rw [f5.1 c c3 c4, k3 c c3 c2]
    funext j
    exact e2 c j (by omega) c5 c6 c1
  have S : ∀ j, j ≠ 12 → j ≠ 31 → j ≠ 2 → j ≠ 5 → h5.1 38 j = h.1 38 j := by
    intro j c1 c2 c3 c4
    rw [f5.2.1 j c3 c4, k4 j c2, e3 j c1]
  have X5 : fX h5 1 = turnB (fX h 1) := by
    rw [← x2]
    refine fX_c (fun c a b => ?_)
    rw [f5.1 c (by omega) (by omega), k3 c (by omega) (by omega), w3]
    funext j
    simp only [upI_e]
    rw [if_neg (by omega)]
  have n3 : h5.1 1 3 = h.1 1 3 := by
    have : (fX h5 1).1 1 = (fX h 1).1 1 := by rw [X5]; rfl
    exact this
  have P1 : h5.1 27 3 = min (h.1 27 3) 7 + 1 := by
    rw [f5.1 27 (by decide) (by decide), k3 27 (by decide) (by decide), w3]
    simp only [upI_e]
    rw [if_neg (by decide), f2.1 27 (by decide) (by decide), r1]
  have P2 : h5.1 38 31 = min (h.1 38 31) 7 + 1 := by
    rw [f5.2.1 31 (by decide) (by decide), k1, a31]
  have P3 : ∀ c j, 27 < c → c < 31 → h5.1 c j = h1.1 c j := by
    intro c j c1 c2
    rw [f5.1 c (by omega) (by omega), k3 c (by omega) (by omega), w3]
    simp only [upI_e]
    rw [if_neg (by omega), f2.1 c (by omega) (by omega)]
  have P4 : ∀ c j, 51 < c → c < 55 → h5.1 c j = h4.1 c j := by
    intro c j c1 c2
    rw [f5.1 c (by omega) (by omega)]
  refine ⟨by rw [x1, m4], ⟨?_, ?_⟩, H.2.1.c (fun c hc => F c (by omega) (by omega) (by omega) (by omega) (by omega) (by omega)), H.2.2.1.c (fun c hc => F c (by omega) (by omega) (by omega) (by omega) (by omega) (by omega)) (by rw [F 0 (by decide) (by decide) (by decide) (by decide) (by decide) (by decide)]) (S 16 (by decide) (by decide) (by decide) (by decide)), H.2.2.2.1.c (fun c hc => F c (by omega) (by omega) (by omega) (by omega) (by omega) (by omega)) (by rw [F 0 (by decide) (by decide) (by decide) (by decide) (by decide) (by decide)]) (S 43 (by decide) (by decide) (by decide) (by decide)), H.2.2.2.2.1.c (fun c hc => F c (by omega) (by omega) (by omega) (by omega) (by omega) (by omega)) (by rw [F 25 (by decide) (by decide) (by decide) (by decide) (by decide) (by decide)]) (S 21 (by decide) (by decide) (by decide) (by decide)), H.2.2.2.2.2.1.c (fun c hc => F c (by omega) (by omega) (by omega) (by omega) (by omega) (by omega)), by omega, by omega, by omega, fun i i0 i1 => ?_⟩
  · rw [X5]
    exact turnB_ok H.1.1 (by show h.1 1 11 < h.1 1 3; omega)
  · rw [X5, x5]
  · have i8 : i < 8 := by omega
    obtain ⟨z1, z2, z3⟩ := r2 i i0 i8
    obtain ⟨z4, z5, z6⟩ := k2 i i0 i8
    rw [P3 28 i (by decide) (by decide), P3 29 i (by decide) (by decide), P3 30 i (by decide) (by decide), P4 52 i (by decide) (by decide), P4 53 i (by decide) (by decide), P4 54 i (by decide) (by decide), n3, z1, z2, z3, z4, z5, z6, a31, a5, a2]
    have d52 : h3.1 52 = h.1 52 := by funext j; exact e2 52 j (by decide) (by decide) (by decide) (by decide)
    have d53 : h3.1 53 = h.1 53 := by funext j; exact e2 53 j (by decide) (by decide) (by decide) (by decide)
    have d54 : h3.1 54 = h.1 54 := by funext j; exact e2 54 j (by decide) (by decide) (by decide) (by decide)
    have d44 : h3.1 44 = h.1 44 := by funext j; exact e2 44 j (by decide) (by decide) (by decide) (by decide)
    rw [d52, d53, d54, d44, ← p1]
    unfold rmF
    by_cases ci : i = min (h.1 27 3) 7
    · simp only [ci, if_true]
      have q1 := (ga (h.1 38 5)).2.2.2.2.2.1
      rw [q1, fa.1.2.2.1, fa.1.2.2.2.2.2.1]
      have q2 := gE (h.1 1 11) (by omega) (by omega)
      omega
    · simp only [ci, if_false]
      unfold sfF
      split
      · exact p4 i i0 (by omega)
      · exact p4 (i + 1) (by omega) (by omega)
