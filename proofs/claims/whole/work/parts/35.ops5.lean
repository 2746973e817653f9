/-! ===== count ===== -/
def sumN (f : Nat → Int) : Nat → Int
  | 0 => 0
  | n + 1 => sumN f n + f n
theorem sumN_b {f : Nat → Int} {c : Int} {n : Nat} (hf : ∀ i, i < n → 0 ≤ f i ∧ f i ≤ c) : 0 ≤ sumN f n ∧ sumN f n ≤ c * n := by
  induction n with
  | zero => simp [sumN]
  | succ n ih =>
    have h1 := ih (fun i hi => hf i (by omega))
    have h2 := hf n (by omega)
    have h3 : c * ((n + 1 : Nat) : Int) = c * n + c := by rw [Int.natCast_succ, Int.mul_add, Int.mul_one]
    rw [sumN, h3]
    omega
theorem sumN_c {f g : Nat → Int} {n : Nat} (hf : ∀ i, i < n → f i = g i) : sumN f n = sumN g n := by
  induction n with
  | zero => rfl
  | succ n ih => rw [sumN, sumN, ih (fun i hi => hf i (by omega)), hf n (by omega)]
theorem s_X0_allStones {d k0 : Nat} {h : AH} {k : Int → AH → Prop} (hB : isB k0) (he : okE (fX h k0)) (q : k (sumN (fun e => h.1 (k0 + 6) e) (h.1 k0 3).toNat) h) : cI (tx mt (d + 1)) n_X0_allStones [vR k0] h k := by
  refine e_X0_allStones hB ?_
  have e4 : h.1 k0 3 ≤ 4 := he.2.1
  have e0 : 0 ≤ h.1 k0 3 := he.1
  have hs : ∀ i : Nat, i < (h.1 k0 3).toNat → 0 ≤ h.1 (k0 + 6) i ∧ h.1 (k0 + 6) i ≤ 99 := fun i hi => (he.2.2 i (by omega) (by show (i : Int) < h.1 k0 3; omega)).2.2.2.2.2.2
  have key : ∀ (m e : Nat), e + m = (h.1 k0 3).toNat → Bx z0 0 (tx mt d) k_X0_allStones (fun r h' => ∃ z, r = some (.inl z) ∧ k z h') 1 [some (vR k0), some (vI (sumN (fun e => h.1 (k0 + 6) e) e)), some (vI (e : Int))] [] h := by
    intro m
    induction m with
    | zero =>
      intro e hm
      refine u_X0_allStones_1 (tx_mono _ _) hB ⟨fun c => ?_, fun c => absurd c (by omega)⟩
      exact u_X0_allStones_2 (tx_mono _ _) ⟨_, rfl, kq q (by rw [show e = (h.1 k0 3).toNat by omega])⟩
    | succ m ih =>
      intro e hm
      have h1 := sumN_b (f := fun e => h.1 (k0 + 6) e) (c := 99) (n := e) (fun i hi => hs i (by omega))
      have h2 := hs e (by omega)
      exact u_X0_allStones_1 (tx_mono _ _) hB ⟨fun c => absurd c (by omega), fun c => ⟨by omega, by omega, ⟨by omega, by omega⟩, ⟨by omega, by omega⟩, ih (e + 1) (by omega)⟩⟩
  exact key (h.1 k0 3).toNat 0 (by omega)
theorem s_X0_allOnPiles {d k0 : Nat} {h : AH} {k : Int → AH → Prop} (hB : isB k0) (he : okP (fX h k0)) (q : k (sumN (fun e => h.1 (k0 + 7) e) (h.1 k0 12).toNat) h) : cI (tx mt (d + 1)) n_X0_allOnPiles [vR k0] h k := by
  refine e_X0_allOnPiles hB ?_
  have e4 : h.1 k0 12 ≤ 4 := he.2.1
  have e0 : 0 ≤ h.1 k0 12 := he.1
  have hs : ∀ i : Nat, i < (h.1 k0 12).toNat → 0 ≤ h.1 (k0 + 7) i ∧ h.1 (k0 + 7) i ≤ 12 := fun i hi => have x := he.2.2 i (by omega) (by omega); ⟨x.1, x.2.1⟩
  have key : ∀ (m e : Nat), e + m = (h.1 k0 12).toNat → Bx z0 0 (tx mt d) k_X0_allOnPiles (fun r h' => ∃ z, r = some (.inl z) ∧ k z h') 1 [some (vR k0), some (vI (sumN (fun e => h.1 (k0 + 7) e) e)), some (vI (e : Int))] [] h := by
    intro m
    induction m with
    | zero =>
      intro e hm
      refine u_X0_allOnPiles_1 (tx_mono _ _) hB ⟨fun c => ?_, fun c => absurd c (by omega)⟩
      exact u_X0_allOnPiles_2 (tx_mono _ _) ⟨_, rfl, kq q (by rw [show e = (h.1 k0 12).toNat by omega])⟩
    | succ m ih =>
      intro e hm
      have h1 := sumN_b (f := fun e => h.1 (k0 + 7) e) (c := 12) (n := e) (fun i hi => hs i (by omega))
      have h2 := hs e (by omega)
      exact u_X0_allOnPiles_1 (tx_mono _ _) hB ⟨fun c => absurd c (by omega), fun c => ⟨by omega, by omega, ⟨by omega, by omega⟩, ⟨by omega, by omega⟩, ih (e + 1) (by omega)⟩⟩
  exact key (h.1 k0 12).toNat 0 (by omega)
/-- the piles, all four -/
theorem sum4 {f : Nat → Int} {n : Nat} (hn : n ≤ 4) (hz : ∀ i, n ≤ i → i < 4 → f i = 0) : sumN f n = f 0 + f 1 + f 2 + f 3 := by
  rcases (show n = 0 ∨ n = 1 ∨ n = 2 ∨ n = 3 ∨ n = 4 by omega) with rfl | rfl | rfl | rfl | rfl
  · have := hz 0; have := hz 1; have := hz 2; have := hz 3; simp only [sumN]; omega
  · have := hz 1; have := hz 2; have := hz 3; simp only [sumN]; omega
  · have := hz 2; have := hz 3; simp only [sumN]; omega
  · have := hz 3; simp only [sumN]; omega
  · simp only [sumN]; omega
theorem op_count {a : Int} : OpI n_X5_count n_X6_count [vI a] := by
  intro d n h n0 n1 H
  have fa := H.facts
  unfold Facts at fa
  obtain ⟨oR, oE, oS, oP, oZ, mE, mR, mEa, mS, mZ⟩ := H.ok
  have ga := fun i => H.1.arr i
  have f1 : (fM (upI h 38 12 0)).1 1 = h.1 1 3 := by rw [mE]; rfl
  have p4 : sumN (fun e => h.1 (1 + 7) e) (h.1 1 12).toNat = h.1 8 0 + h.1 8 1 + h.1 8 2 + h.1 8 3 := sum4 (by omega) (fun i a b => (oP.2.2 i (by omega) (by omega)).2.2 (by show h.1 1 12 ≤ (i : Int); omega))
  have p0 := H.1.get.2.2.1 0 (by decide) (by decide)
  have p1 := H.1.get.2.2.1 1 (by decide) (by decide)
  have p2 := H.1.get.2.2.1 2 (by decide) (by decide)
  have p3 := H.1.get.2.2.1 3 (by decide) (by decide)
  have g0 := (ga 0).2.2.2.2.2.2
  have g1 := (ga 1).2.2.2.2.2.2
  have g2 := (ga 2).2.2.2.2.2.2
  have g3 := (ga 3).2.2.2.2.2.2
  have e6 : sumN (fun e => h.1 44 e) (h.1 1 3).toNat = sumN (fun e => h.1 (1 + 6) e) (h.1 1 3).toNat := sumN_c (fun i _ => (ga i).2.2.2.2.2.1)
  have hs : ∀ i : Nat, i < (h.1 1 3).toNat → 0 ≤ h.1 44 i ∧ h.1 44 i ≤ 99 := fun i hi => by
    rw [(ga i).2.2.2.2.2.1]
    exact (H.1.get.2.1 i (by omega) (by omega)).2.2.2.2.2.2
  have key : ∀ (K : AK) (m e : Nat), e + m = (h.1 1 3).toNat → (∀ x, Bx z0 0 (tx mt (d + 29)) k_X6_count K 2 [some (vR 38), some (vI a), some (vI (sumN (fun e => h.1 44 e) (h.1 1 3).toNat)), x] [] (upI h 38 12 0)) → Bx z0 0 (tx mt (d + 29)) k_X6_count K 1 [some (vR 38), some (vI a), some (vI (sumN (fun e => h.1 44 e) e)), some (vI (e : Int))] [] (upI h 38 12 0) := by
    intro K m
    induction m with
    | zero =>
      intro e hm q
      refine u_X6_count_1 (tx_mono _ _) ⟨fun c => ?_, fun c => absurd (by (simp only [inI, upI_e, Nat.reduceEqDiff, Nat.reduceAdd, true_and, and_true, false_and, and_false, if_true, if_false, ite_true, ite_false, reduceIte, Int.reduceEq, not_true_eq_false, not_false_eq_true, Decidable.not_not]); omega) c⟩
      rw [show e = (h.1 1 3).toNat by omega]
      exact q _
    | succ m ih =>
      intro e hm q
      have h1 := sumN_b (f := fun e => h.1 44 e) (c := 99) (n := e) (fun i hi => hs i (by omega))
      have h2 := hs e (by omega)
      exact u_X6_count_1 (tx_mono _ _) ⟨fun c => absurd c (by (simp only [inI, upI_e, Nat.reduceEqDiff, Nat.reduceAdd, true_and, and_true, false_and, and_false, if_true, if_false, ite_true, ite_false, reduceIte, Int.reduceEq, not_true_eq_false, not_false_eq_true, Decidable.not_not]); omega), fun c => ⟨by omega, by omega, (by (simp only [inI, upI_e, Nat.reduceEqDiff, Nat.reduceAdd, true_and, and_true, false_and, and_false, if_true, if_false, ite_true, ite_false, reduceIte, Int.reduceEq, not_true_eq_false, not_false_eq_true, Decidable.not_not]); omega), ⟨by omega, by omega⟩, ih (e + 1) (by omega) q⟩⟩
  by_cases c1 : 11 ≤ a ∧ a ≤ 16
  · have hF := H.2.2.2.2.2.1 (a - 10) (by omega) (by omega)
    repeat' first
      | first | exact H.m12 | exact H.rf (by decide) (by decide)
      | (with_reducible refine exI ?_)
      | (with_reducible refine exL ?_)
      | (with_reducible refine exV ?_)
      | (with_reducible apply And.intro)
      | (with_reducible refine cI_i (e_X5_count ?_))
      | (with_reducible refine cL_i (e_X5_count ?_))
      | (with_reducible refine cV_i (e_X5_count ?_))
      | (with_reducible refine u_X5_count_1 (tx_mono _ _) ?_)
      | (with_reducible refine u_X5_count_2 (tx_mono _ _) ?_)
      | (with_reducible refine u_X5_count_3 (tx_mono _ _) ?_)
      | (with_reducible refine u_X5_count_4 (tx_mono _ _) ?_)
      | (with_reducible refine u_X5_count_5 (tx_mono _ _) ?_)
      | (with_reducible refine u_X5_count_6 (tx_mono _ _) ?_)
      | (with_reducible refine u_X5_count_7 (tx_mono _ _) ?_)
      | (with_reducible refine u_X5_count_8 (tx_mono _ _) ?_)
      | (with_reducible refine u_X5_count_9 (tx_mono _ _) ?_)
      | (with_reducible refine u_X5_count_10 (tx_mono _ _) ?_)
      | (with_reducible refine u_X5_count_11 (tx_mono _ _) ?_)
      | (with_reducible refine u_X5_count_12 (tx_mono _ _) ?_)
      | (with_reducible refine u_X5_count_13 (tx_mono _ _) ?_)
      | (with_reducible refine u_X5_count_14 (tx_mono _ _) ?_)
      | (with_reducible refine u_X5_count_15 (tx_mono _ _) ?_)
      | (with_reducible refine cI_i (e_X6_count ?_))
      | (with_reducible refine cL_i (e_X6_count ?_))
      | (with_reducible refine cV_i (e_X6_count ?_))
      | (with_reducible refine u_X6_count_2 (tx_mono _ _) ?_)
      | (with_reducible refine u_X6_count_3 (tx_mono _ _) ?_)
      | (with_reducible refine u_X6_count_4 (tx_mono _ _) ?_)
      | (with_reducible refine u_X6_count_5 (tx_mono _ _) ?_)
      | (with_reducible refine u_X6_count_6 (tx_mono _ _) ?_)
      | (with_reducible refine u_X6_count_7 (tx_mono _ _) ?_)
      | (with_reducible refine u_X6_count_8 (tx_mono _ _) ?_)
      | (with_reducible refine u_X6_count_9 (tx_mono _ _) ?_)
      | (with_reducible refine u_X6_count_10 (tx_mono _ _) ?_)
      | (with_reducible refine u_X6_count_11 (tx_mono _ _) ?_)
      | (with_reducible refine u_X6_count_12 (tx_mono _ _) ?_)
      | (with_reducible refine u_X6_count_13 (tx_mono _ _) ?_)
      | (with_reducible refine u_X6_count_14 (tx_mono _ _) ?_)
      | (with_reducible refine u_X6_count_15 (tx_mono _ _) ?_)
      | (with_reducible refine u_X6_count_16 (tx_mono _ _) ?_)
      | (with_reducible refine u_X6_count_17 (tx_mono _ _) ?_)
      | (with_reducible refine u_X6_count_18 (tx_mono _ _) ?_)
      | (with_reducible apply s_X0_allOnPiles)
      | (with_reducible apply s_X0_allStones)
      | (with_reducible apply s_X0_pleasedBits)
      | (with_reducible apply s_X6_haveBits)
      | (with_reducible apply c_X6_in)
      | assumption
      | (refine key _ (h.1 1 3).toNat 0 (by omega) (fun _ => ?_))
      | exact isB1
      | exact True.intro
      | (intro _ e9; subst e9)
      | (intro c9; exfalso; first | omega | (simp only [inI, upI_e, Nat.reduceEqDiff, Nat.reduceAdd, true_and, and_true, false_and, and_false, if_true, if_false, ite_true, ite_false, reduceIte, Int.reduceEq, not_true_eq_false, not_false_eq_true, Decidable.not_not] at c9; omega))
      | (intro c9; (try simp only [inI, upI_e, Nat.reduceEqDiff, Nat.reduceAdd, true_and, and_true, false_and, and_false, if_true, if_false, ite_true, ite_false, reduceIte, Int.reduceEq, not_true_eq_false, not_false_eq_true, Decidable.not_not] at c9))
      | (with_reducible show _ ≤ _; first | omega | (simp only [inI, upI_e, Nat.reduceEqDiff, Nat.reduceAdd, true_and, and_true, false_and, and_false, if_true, if_false, ite_true, ite_false, reduceIte, Int.reduceEq, not_true_eq_false, not_false_eq_true, Decidable.not_not]; omega))
      | (with_reducible show _ < _; first | omega | (simp only [inI, upI_e, Nat.reduceEqDiff, Nat.reduceAdd, true_and, and_true, false_and, and_false, if_true, if_false, ite_true, ite_false, reduceIte, Int.reduceEq, not_true_eq_false, not_false_eq_true, Decidable.not_not]; omega))
      | (with_reducible show _ = _; first | omega | (simp only [inI, upI_e, Nat.reduceEqDiff, Nat.reduceAdd, true_and, and_true, false_and, and_false, if_true, if_false, ite_true, ite_false, reduceIte, Int.reduceEq, not_true_eq_false, not_false_eq_true, Decidable.not_not]; omega))
      | (with_reducible show _ ∧ _; first | omega | (simp only [inI, upI_e, Nat.reduceEqDiff, Nat.reduceAdd, true_and, and_true, false_and, and_false, if_true, if_false, ite_true, ite_false, reduceIte, Int.reduceEq, not_true_eq_false, not_false_eq_true, Decidable.not_not]; omega))
      | (with_reducible show _ ∨ _; first | omega | (simp only [inI, upI_e, Nat.reduceEqDiff, Nat.reduceAdd, true_and, and_true, false_and, and_false, if_true, if_false, ite_true, ite_false, reduceIte, Int.reduceEq, not_true_eq_false, not_false_eq_true, Decidable.not_not]; omega))
      | (with_reducible show inI _; first | omega | (simp only [inI, upI_e, Nat.reduceEqDiff, Nat.reduceAdd, true_and, and_true, false_and, and_false, if_true, if_false, ite_true, ite_false, reduceIte, Int.reduceEq, not_true_eq_false, not_false_eq_true, Decidable.not_not]; omega))
      | (with_reducible show ¬ _; first | omega | (simp only [inI, upI_e, Nat.reduceEqDiff, Nat.reduceAdd, true_and, and_true, false_and, and_false, if_true, if_false, ite_true, ite_false, reduceIte, Int.reduceEq, not_true_eq_false, not_false_eq_true, Decidable.not_not]; omega))
  · skip
    repeat' first
      | first | exact H.m12 | exact H.rf (by decide) (by decide)
      | (with_reducible refine exI ?_)
      | (with_reducible refine exL ?_)
      | (with_reducible refine exV ?_)
      | (with_reducible apply And.intro)
      | (with_reducible refine cI_i (e_X5_count ?_))
      | (with_reducible refine cL_i (e_X5_count ?_))
      | (with_reducible refine cV_i (e_X5_count ?_))
      | (with_reducible refine u_X5_count_1 (tx_mono _ _) ?_)
      | (with_reducible refine u_X5_count_2 (tx_mono _ _) ?_)
      | (with_reducible refine u_X5_count_3 (tx_mono _ _) ?_)
      | (with_reducible refine u_X5_count_4 (tx_mono _ _) ?_)
      | (with_reducible refine u_X5_count_5 (tx_mono _ _) ?_)
      | (with_reducible refine u_X5_count_6 (tx_mono _ _) ?_)
      | (with_reducible refine u_X5_count_7 (tx_mono _ _) ?_)
      | (with_reducible refine u_X5_count_8 (tx_mono _ _) ?_)
      | (with_reducible refine u_X5_count_9 (tx_mono _ _) ?_)
      | (with_reducible refine u_X5_count_10 (tx_mono _ _) ?_)
      | (with_reducible refine u_X5_count_11 (tx_mono _ _) ?_)
      | (with_reducible refine u_X5_count_12 (tx_mono _ _) ?_)
      | (with_reducible refine u_X5_count_13 (tx_mono _ _) ?_)
      | (with_reducible refine u_X5_count_14 (tx_mono _ _) ?_)
      | (with_reducible refine u_X5_count_15 (tx_mono _ _) ?_)
      | (with_reducible refine cI_i (e_X6_count ?_))
      | (with_reducible refine cL_i (e_X6_count ?_))
      | (with_reducible refine cV_i (e_X6_count ?_))
      | (with_reducible refine u_X6_count_2 (tx_mono _ _) ?_)
      | (with_reducible refine u_X6_count_3 (tx_mono _ _) ?_)
      | (with_reducible refine u_X6_count_4 (tx_mono _ _) ?_)
      | (with_reducible refine u_X6_count_5 (tx_mono _ _) ?_)
      | (with_reducible refine u_X6_count_6 (tx_mono _ _) ?_)
      | (with_reducible refine u_X6_count_7 (tx_mono _ _) ?_)
      | (with_reducible refine u_X6_count_8 (tx_mono _ _) ?_)
      | (with_reducible refine u_X6_count_9 (tx_mono _ _) ?_)
      | (with_reducible refine u_X6_count_10 (tx_mono _ _) ?_)
      | (with_reducible refine u_X6_count_11 (tx_mono _ _) ?_)
      | (with_reducible refine u_X6_count_12 (tx_mono _ _) ?_)
      | (with_reducible refine u_X6_count_13 (tx_mono _ _) ?_)
      | (with_reducible refine u_X6_count_14 (tx_mono _ _) ?_)
      | (with_reducible refine u_X6_count_15 (tx_mono _ _) ?_)
      | (with_reducible refine u_X6_count_16 (tx_mono _ _) ?_)
      | (with_reducible refine u_X6_count_17 (tx_mono _ _) ?_)
      | (with_reducible refine u_X6_count_18 (tx_mono _ _) ?_)
      | (with_reducible apply s_X0_allOnPiles)
      | (with_reducible apply s_X0_allStones)
      | (with_reducible apply s_X0_pleasedBits)
      | (with_reducible apply s_X6_haveBits)
      | (with_reducible apply c_X6_in)
      | assumption
      | (refine key _ (h.1 1 3).toNat 0 (by omega) (fun _ => ?_))
      | exact isB1
      | exact True.intro
      | (intro _ e9; subst e9)
      | (intro c9; exfalso; first | omega | (simp only [inI, upI_e, Nat.reduceEqDiff, Nat.reduceAdd, true_and, and_true, false_and, and_false, if_true, if_false, ite_true, ite_false, reduceIte, Int.reduceEq, not_true_eq_false, not_false_eq_true, Decidable.not_not] at c9; omega))
      | (intro c9; (try simp only [inI, upI_e, Nat.reduceEqDiff, Nat.reduceAdd, true_and, and_true, false_and, and_false, if_true, if_false, ite_true, ite_false, reduceIte, Int.reduceEq, not_true_eq_false, not_false_eq_true, Decidable.not_not] at c9))
      | (with_reducible show _ ≤ _; first | omega | (simp only [inI, upI_e, Nat.reduceEqDiff, Nat.reduceAdd, true_and, and_true, false_and, and_false, if_true, if_false, ite_true, ite_false, reduceIte, Int.reduceEq, not_true_eq_false, not_false_eq_true, Decidable.not_not]; omega))
      | (with_reducible show _ < _; first | omega | (simp only [inI, upI_e, Nat.reduceEqDiff, Nat.reduceAdd, true_and, and_true, false_and, and_false, if_true, if_false, ite_true, ite_false, reduceIte, Int.reduceEq, not_true_eq_false, not_false_eq_true, Decidable.not_not]; omega))
      | (with_reducible show _ = _; first | omega | (simp only [inI, upI_e, Nat.reduceEqDiff, Nat.reduceAdd, true_and, and_true, false_and, and_false, if_true, if_false, ite_true, ite_false, reduceIte, Int.reduceEq, not_true_eq_false, not_false_eq_true, Decidable.not_not]; omega))
      | (with_reducible show _ ∧ _; first | omega | (simp only [inI, upI_e, Nat.reduceEqDiff, Nat.reduceAdd, true_and, and_true, false_and, and_false, if_true, if_false, ite_true, ite_false, reduceIte, Int.reduceEq, not_true_eq_false, not_false_eq_true, Decidable.not_not]; omega))
      | (with_reducible show _ ∨ _; first | omega | (simp only [inI, upI_e, Nat.reduceEqDiff, Nat.reduceAdd, true_and, and_true, false_and, and_false, if_true, if_false, ite_true, ite_false, reduceIte, Int.reduceEq, not_true_eq_false, not_false_eq_true, Decidable.not_not]; omega))
      | (with_reducible show inI _; first | omega | (simp only [inI, upI_e, Nat.reduceEqDiff, Nat.reduceAdd, true_and, and_true, false_and, and_false, if_true, if_false, ite_true, ite_false, reduceIte, Int.reduceEq, not_true_eq_false, not_false_eq_true, Decidable.not_not]; omega))
      | (with_reducible show ¬ _; first | omega | (simp only [inI, upI_e, Nat.reduceEqDiff, Nat.reduceAdd, true_and, and_true, false_and, and_false, if_true, if_false, ite_true, ite_false, reduceIte, Int.reduceEq, not_true_eq_false, not_false_eq_true, Decidable.not_not]; omega))
    · rw [mE]
    · rw [p4]
      (simp only [inI, upI_e, Nat.reduceEqDiff, Nat.reduceAdd, true_and, and_true, false_and, and_false, if_true, if_false, ite_true, ite_false, reduceIte, Int.reduceEq, not_true_eq_false, not_false_eq_true, Decidable.not_not])
      omega
