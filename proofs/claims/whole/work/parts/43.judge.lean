/-! ===== judge ===== -/
def jud (t : Int → Int) : Nat → Int → BD → Int
  | 0, _, _ => -9
  | m + 1, i, b => if b.1 1 = 0 then i else if turnT b = t i then jud t m (i + 1) (turnB b) else i
theorem jud_c {t t' : Int → Int} : ∀ (m : Nat) (i : Int) (b : BD), (∀ j, i ≤ j → j < i + m → t j = t' j) → jud t m i b = jud t' m i b := by
  intro m
  induction m with
  | zero => intro i b _; rfl
  | succ m ih => intro i b hj; rw [jud, jud, hj i (by omega) (by omega), ih (i + 1) (turnB b) (fun j a b => hj j (by omega) (by omega))]
theorem okBd.nx {b : BD} (hb : okBd b) (h : ¬ b.1 1 = 0) : b.1 5 < b.1 1 := by
  have h1 := hb.2.2.1.2.2.2.2.2.2.2
  have h2 := hb.2.1.1
  omega
theorem x_judge {d : Nat} {h : AH} {K : Int → AH → Prop} (h7 : 0 ≤ h.1 0 7 ∧ h.1 0 7 ≤ 12) : ∀ (m : Nat) (i : Int) (h' : AH), i + m = h.1 0 7 → 0 ≤ i → Fx h h' → okBd (fX h' 9) → (∀ h1, Fx h h1 → K (jud (h.1 31) m i (fX h' 9)) h1) → Bx z0 0 (tx mt (d + 28)) k_X5_firstNotSo (fun r h' => ∃ z, r = some (.inl z) ∧ K z h') 1 [some (vR 0), some (vI i)] [] h' := by
  intro m
  induction m with
  | zero =>
    intro i h' im i0 F hb q
    have g : h'.1 0 7 = h.1 0 7 := by rw [F.1 0 (by omega)]
    exact u_X5_firstNotSo_1 (tx_mono _ _) ⟨fun _ => u_X5_firstNotSo_4 (tx_mono _ _) (exI (q h' F)), fun c => by omega⟩
  | succ m ih =>
    intro i h' im i0 F hb q
    have g : h'.1 0 7 = h.1 0 7 := by rw [F.1 0 (by omega)]
    have f1 : (fX h' 9).1 1 = h'.1 9 3 := rfl
    rw [jud] at q
    refine u_X5_firstNotSo_1 (tx_mono _ _) ⟨fun c => by omega, fun _ => ⟨fun c => u_X5_firstNotSo_2 (tx_mono _ _) (exI (kq (q h' F) (by rw [if_pos (by omega)]))), fun c => ?_⟩⟩
    have hn := hb.nx (by omega)
    refine sx_turn F hb hn (fun h1 x1 F1 => ⟨by omega, by omega, fun c2 => u_X5_firstNotSo_3 (tx_mono _ _) ⟨⟨by omega, by omega⟩, ih (i + 1) h1 (by omega) (by omega) F1 (by rw [x1]; exact turnB_ok hb hn) ?_⟩, fun c2 => u_X5_firstNotSo_2 (tx_mono _ _) (exI (kq (q h1 F1) ?_))⟩)
    · rw [F1.1 31 (by omega)] at c2
      rw [if_neg (by omega), if_pos c2] at q
      rw [x1]
      exact q
    · rw [F1.1 31 (by omega)] at c2
      rw [if_neg (by omega), if_neg c2]
theorem m_judge {d : Nat} {h : AH} {B : BD} {n : Int} {K : Int → AH → Prop} (hB : okBd B) (h7 : 0 ≤ n ∧ n ≤ 12) : ∀ (m : Nat) (i : Int) (h' : AH), i + m = n → 0 ≤ i → Gm B h h' → okBd (fM h') → (∀ h1, Gm B h h1 → fM h1 = B → K (jud (h.1 64) m i (fM h')) h1) → Bx z0 0 (tx mt (d + 29)) k_X6_judge (fun r h' => ∃ z, r = some (.inl z) ∧ K z h') 1 [some (vR 38), some (vI n), some (vI (-9)), some (vI i)] [] h' := by
  have fin : ∀ (i a : Int) (h' : AH), 0 ≤ a → Gm B h h' → (∀ h1, Gm B h h1 → fM h1 = B → K a h1) → Bx z0 0 (tx mt (d + 29)) k_X6_judge (fun r h' => ∃ z, r = some (.inl z) ∧ K z h') 1 [some (vR 38), some (vI n), some (vI a), some (vI i)] [] h' := by
    intro i a h' a0 G q
    have ex : ∀ x y, Bx z0 0 (tx mt (d + 29)) k_X6_judge (fun r h' => ∃ z, r = some (.inl z) ∧ K z h') 5 [some (vR 38), x, some (vI a), y] [] h' := fun x y => u_X6_judge_5 (tx_mono _ _) (sm_put G hB.2.2.2.2 (fun h1 m1 G1 => exI (q h1 G1 m1)))
    exact u_X6_judge_1 (tx_mono _ _) ⟨fun _ => ex _ _, fun _ => ⟨fun _ => ex _ _, fun c => by omega⟩⟩
  intro m
  induction m with
  | zero =>
    intro i h' im i0 G hb q
    exact u_X6_judge_1 (tx_mono _ _) ⟨fun _ => u_X6_judge_5 (tx_mono _ _) (sm_put G hB.2.2.2.2 (fun h1 m1 G1 => exI (q h1 G1 m1))), fun c => by omega⟩
  | succ m ih =>
    intro i h' im i0 G hb q
    have f1 : (fM h').1 1 = h'.1 38 1 := rfl
    rw [jud] at q
    refine u_X6_judge_1 (tx_mono _ _) ⟨fun c => by omega, fun _ => ⟨fun c => by omega, fun _ => ⟨fun c => u_X6_judge_2 (tx_mono _ _) (u_X6_judge_4 (tx_mono _ _) ⟨⟨by omega, by omega⟩, fin _ _ _ i0 G ?_⟩), fun c => ?_⟩⟩⟩
    · rw [if_pos (by omega)] at q
      exact q
    have hn := hb.nx (by omega)
    refine sm_turn G hb hn (fun h1 m1 G1 => ⟨by omega, by omega, fun c2 => u_X6_judge_3 (tx_mono _ _) (u_X6_judge_4 (tx_mono _ _) ⟨⟨by omega, by omega⟩, ih (i + 1) h1 (by omega) (by omega) G1 (by rw [m1]; exact turnB_ok hb hn) ?_⟩), fun c2 => u_X6_judge_2 (tx_mono _ _) (u_X6_judge_4 (tx_mono _ _) ⟨⟨by omega, by omega⟩, fin _ _ _ i0 G1 ?_⟩)⟩)
    · rw [G1.1 64 (by omega) (by omega) (by omega)] at c2
      rw [if_neg (by omega), if_pos c2] at q
      rw [m1]
      exact q
    · rw [G1.1 64 (by omega) (by omega) (by omega)] at c2
      rw [if_neg (by omega), if_neg c2] at q
      exact q
theorem Inv.clr {n : Int} {h : AH} (H : Inv n h) : Inv n (upI (upI h 0 7 0) 38 43 0) := by
  have F : IF n (upI (upI h 0 7 0) 38 43 0) := fun i a b => by
    have := H.2.2.2.2.2.1 i a b
    (simp only [inI, upI_e, Nat.reduceEqDiff, Nat.reduceAdd, true_and, and_true, false_and, and_false, if_true, if_false, ite_true, ite_false, reduceIte, Int.reduceEq, not_true_eq_false, not_false_eq_true, Decidable.not_not])
    exact this
  refine ⟨H.1.c (fun c hc => by (funext j; simp only [upI_e]; repeat' rw [if_neg (by omega)])) (by intro j hj; (simp only [upI_e]; repeat' rw [if_neg (by omega)])), H.2.1.c (fun c hc => by (funext j; simp only [upI_e]; repeat' rw [if_neg (by omega)])), H.2.2.1.c (fun c hc => by (funext j; simp only [upI_e]; repeat' rw [if_neg (by omega)])) (by simp only [upI_e]; repeat' rw [if_neg (by omega)]) (by simp only [upI_e]; repeat' rw [if_neg (by omega)]), ?_, H.2.2.2.2.1.c (fun c hc => by (funext j; simp only [upI_e]; repeat' rw [if_neg (by omega)])) (by simp only [upI_e]; repeat' rw [if_neg (by omega)]) (by simp only [upI_e]; repeat' rw [if_neg (by omega)]), F, H.2.2.2.2.2.2.c (fun c hc => by (funext j; simp only [upI_e]; repeat' rw [if_neg (by omega)])) (by simp only [upI_e]; repeat' rw [if_neg (by omega)]) (by simp only [upI_e]; repeat' rw [if_neg (by omega)]) (by simp only [upI_e]; repeat' rw [if_neg (by omega)])⟩
  refine ⟨by (simp only [inI, upI_e, Nat.reduceEqDiff, Nat.reduceAdd, true_and, and_true, false_and, and_false, if_true, if_false, ite_true, ite_false, reduceIte, Int.reduceEq, not_true_eq_false, not_false_eq_true, Decidable.not_not]), by (simp only [inI, upI_e, Nat.reduceEqDiff, Nat.reduceAdd, true_and, and_true, false_and, and_false, if_true, if_false, ite_true, ite_false, reduceIte, Int.reduceEq, not_true_eq_false, not_false_eq_true, Decidable.not_not]); omega, by (simp only [inI, upI_e, Nat.reduceEqDiff, Nat.reduceAdd, true_and, and_true, false_and, and_false, if_true, if_false, ite_true, ite_false, reduceIte, Int.reduceEq, not_true_eq_false, not_false_eq_true, Decidable.not_not]); omega, fun i a b => ?_⟩
  simp [upI_e] at b
  omega
theorem op_judge : OpI n_X5_judge n_X6_judge [] := by
  intro d n h n0 n1 H
  have fa := H.facts
  unfold Facts at fa
  obtain ⟨oR, oE, oS, oP, oZ, mE, mR, mEa, mS, mZ⟩ := H.ok
  obtain ⟨r1, r2, r3, r4⟩ := H.2.2.2.1
  refine cI_i (e_X5_judge (cI_i (e_X5_firstNotSo (sx_copy (Fx.rf H.2.1.1) oZ (fun h1 x1 F1 => x_judge ⟨r2, r3⟩ (h.1 0 7).toNat 0 h1 (by omega) (by decide) F1 (by rw [x1]; exact H.1.1) (fun h2 F2 => ?_))))))
  rw [x1]
  intro h3 w3
  refine exI ?_
  have a1 := F2.e H
  have e43 : ∀ h4 : AH, h4 = upI h3 38 12 0 → h4.1 38 43 = h.1 0 7 := by
    intro h4 w4
    rw [w4, w3]
    have := a1.2.2
    (simp only [inI, upI_e, Nat.reduceEqDiff, Nat.reduceAdd, true_and, and_true, false_and, and_false, if_true, if_false, ite_true, ite_false, reduceIte, Int.reduceEq, not_true_eq_false, not_false_eq_true, Decidable.not_not] at this ⊢)
    exact this
  have F3 : Fx (upI (upI h 0 7 0) 38 43 0) (upI h3 38 43 0) := by
    refine ⟨fun c hc => ?_, ?_⟩
    · funext j
      rw [w3]
      simp only [upI_e]
      rw [F2.1 c hc]
    · rw [fX_c (h := h2) (k := 9) (fun c a b => by funext j; rw [w3]; (simp only [upI_e]; repeat' rw [if_neg (by omega)]))]
      exact F2.2
  have xg : fX (upI (upI h 0 7 0) 38 43 0) 1 = fX h 1 := fX_c (fun c a b => by funext j; (simp only [upI_e]; repeat' rw [if_neg (by omega)]))
  refine cI_i (e_X6_judge ?_)
  intro h4 w4 h5 w5
  have m5 : fM h5 = fX h 1 := by
    rw [← xg, ← F3.m H.clr]
    refine fM_c (fun c hc => ?_) (fun j hj => ?_)
    · funext j
      rw [w5, w4]
      simp only [upI_e]
      (repeat' rw [if_neg (by omega)])
    · rw [w5, w4]
      simp only [upI_e]
      (repeat' rw [if_neg (by omega)])
  refine sm_open (h := upI h3 38 43 0) m5 oZ (fun c hc => ?_) (fun j hj => ?_) (fun h6 m6 G6 => ?_)
  · funext j
    rw [w5, w4]
    simp only [upI_e]
    (repeat' rw [if_neg (by omega)])
  · rw [w5, w4]
    simp only [upI_e]
    by_cases c : j = 43
    · simp [c]
    · simp [c, hj]
  rw [e43 h4 w4]
  refine m_judge H.1.1 ⟨r2, r3⟩ (h.1 0 7).toNat 0 h6 (by omega) (by decide) G6 (by rw [m6]; exact H.1.1) (fun h7 G7 m7 => ⟨?_, ?_⟩)
  · rw [m6]
    refine jud_c _ _ _ (fun j a b => ?_)
    rw [w3]
    (simp only [inI, upI_e, Nat.reduceEqDiff, Nat.reduceAdd, true_and, and_true, false_and, and_false, if_true, if_false, ite_true, ite_false, reduceIte, Int.reduceEq, not_true_eq_false, not_false_eq_true, Decidable.not_not])
    rw [F2.1 64 (by omega)]
    exact ((r4 j a (by omega)).1).symm
  · rw [← xg] at G7 m7
    exact H.clr.xm F3 G7 m7
