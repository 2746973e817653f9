/-! ===== cycle, same, unknown ===== -/
def cyF (b : BD) : Nat → Int → Int → Int
  | 0, _, a => a
  | m + 1, r, a => cyF b m (r + 1) (lm a (b.2 1 r))
theorem cy_b {a l : Int} {i : Nat} (a0 : 0 < a) (ha : a ≤ ((12 ^ i : Nat) : Int)) (l0 : 2 ≤ l) (l12 : l ≤ 12) (i3 : i ≤ 3) : a ≤ 1728 ∧ a * l ≤ 20736 ∧ 0 < lm a l ∧ lm a l ≤ ((12 ^ (i + 1) : Nat) : Int) ∧ lm a l ≤ 20736 := by
  have p := Nat.pow_le_pow_right (show 0 < 12 by decide) i3
  have h1 := Int.mul_le_mul_of_nonneg_left l12 (show 0 ≤ a by omega)
  have h2 := lm_b a0 (show 0 < l by omega)
  rw [Nat.pow_succ]
  generalize 12 ^ i = x at ha p ⊢
  omega
theorem x_cycle {d : Nat} {h : AH} {K : Int → AH → Prop} (hr : okR (fX h 1)) : ∀ (m i : Nat) (a : Int), i + m = (h.1 1 0).toNat → 0 < a → a ≤ ((12 ^ i : Nat) : Int) → K (cyF (fX h 1) m i a) h → Bx z0 0 (tx mt (d + 29)) k_X5_cycle (fun r h' => ∃ z, r = some (.inl z) ∧ K z h') 1 [some (vR 0), some (vI a), some (vI ((i : Int)))] [] h := by
  have h4 : h.1 1 0 ≤ 4 := hr.2.1
  have h0 : 0 ≤ h.1 1 0 := hr.1
  intro m
  induction m with
  | zero => intro i a im a0 ai q; exact u_X5_cycle_1 (tx_mono _ _) ⟨fun _ => u_X5_cycle_2 (tx_mono _ _) (exI q), fun c => by omega⟩
  | succ m ih =>
    intro i a im a0 ai q
    have l := hr.2.2 (i : Int) (by omega) (by show (i : Int) < h.1 1 0; omega)
    have e : (fX h 1).2 1 i = h.1 2 i := rfl
    have b := cy_b a0 ai l.1 l.2.1 (by omega)
    rw [e] at b
    exact u_X5_cycle_1 (tx_mono _ _) ⟨fun c => by omega, fun _ => ⟨by omega, by omega, s_X5_commonMultiple a0 (by omega) (by omega) (by omega) ⟨⟨by omega, by omega⟩, ih (i + 1) _ (by omega) b.2.2.1 b.2.2.2.1 q⟩⟩⟩
theorem m_cycle {d : Nat} {h : AH} {K : Int → AH → Prop} (hr : okR (fM h)) : ∀ (m i : Nat) (a : Int), i + m = (h.1 38 0).toNat → 0 < a → a ≤ ((12 ^ i : Nat) : Int) → K (cyF (fM h) m i a) h → Bx z0 0 (tx mt (d + 29)) k_X6_cycle (fun r h' => ∃ z, r = some (.inl z) ∧ K z h') 1 [some (vR 38), some (vI a), some (vI ((i : Int)))] [] h := by
  have h4 : h.1 38 0 ≤ 4 := hr.2.1
  have h0 : 0 ≤ h.1 38 0 := hr.1
  intro m
  induction m with
  | zero => intro i a im a0 ai q; exact u_X6_cycle_1 (tx_mono _ _) ⟨fun _ => u_X6_cycle_2 (tx_mono _ _) (exI q), fun c => by omega⟩
  | succ m ih =>
    intro i a im a0 ai q
    have l := hr.2.2 (i : Int) (by omega) (by show (i : Int) < h.1 38 0; omega)
    have e : (fM h).2 1 i = h.1 39 i := rfl
    have b := cy_b a0 ai l.1 l.2.1 (by omega)
    rw [e] at b l
    have b3 : 0 < a / gI a (h.1 39 i) * h.1 39 i ∧ a / gI a (h.1 39 i) * h.1 39 i ≤ 20736 := ⟨b.2.2.1, b.2.2.2.2⟩
    exact u_X6_cycle_1 (tx_mono _ _) ⟨fun c => by omega, fun _ => ⟨by omega, by omega, s_X6_divisor (by omega) (by omega) ⟨by omega, gI_pos (Or.inl a0), by omega, by omega, ⟨by omega, by omega⟩, ⟨by omega, by omega⟩, ih (i + 1) _ (by omega) b.2.2.1 b.2.2.2.1 q⟩⟩⟩
theorem op_cycle : OpI n_X5_cycle n_X6_cycle [] := by
  intro d n h n0 n1 H
  have fa := H.facts
  unfold Facts at fa
  obtain ⟨oR, oE, oS, oP, oZ, mE, mR, mEa, mS, mZ⟩ := H.ok
  refine cI_i (e_X5_cycle (x_cycle oR (h.1 1 0).toNat 0 1 (by omega) (by decide) (by decide) ?_))
  refine cI_i (e_X6_cycle ?_)
  intro h1 w1
  rw [w1]
  have c0 : (upI h 38 12 0).1 38 0 = h.1 1 0 := by (simp only [inI, inL, upI_e, Nat.reduceEqDiff, Nat.reduceAdd, true_and, and_true, false_and, and_false, if_true, if_false, ite_true, ite_false, reduceIte, Int.reduceEq, not_true_eq_false, not_false_eq_true, Decidable.not_not]); omega
  refine m_cycle mR (h.1 1 0).toNat 0 1 (by omega) (by decide) (by decide) ⟨?_, H.m12⟩
  rw [mE]
def fsN (p : Int → Bool) : Nat → Int → Int
  | 0, _ => -9
  | m + 1, n => if p n = true then n else fsN p m (n + 1)
theorem fsN_no {p : Int → Bool} : ∀ (j : Nat) (n : Int), (∀ i, n ≤ i → i < n + j → p i = false) → fsN p j n = -9 := by
  intro j
  induction j with
  | zero => intro n _; rfl
  | succ j ih =>
    intro n hp
    rw [fsN, hp n (by omega) (by omega), if_neg (by decide)]
    exact ih (n + 1) (fun i a b => hp i (by omega) (by omega))
theorem fsN_ext {p : Int → Bool} : ∀ (m j : Nat) (n : Int), ((∀ i, n + m ≤ i → i < n + m + j → p i = false) ∨ (∃ i, n ≤ i ∧ i < n + m ∧ p i = true)) → fsN p (m + j) n = fsN p m n := by
  intro m
  induction m with
  | zero =>
    intro j n hp
    rw [Nat.zero_add]
    rcases hp with hp | ⟨i, i1, i2, -⟩
    · exact fsN_no j n (fun i a b => hp i (by omega) (by omega))
    · omega
  | succ m ih =>
    intro j n hp
    rw [show m + 1 + j = (m + j) + 1 by omega, fsN, fsN]
    by_cases c : p n = true
    · rw [if_pos c, if_pos c]
    · rw [if_neg c, if_neg c]
      refine ih j (n + 1) ?_
      rcases hp with hp | ⟨i, i1, i2, i3⟩
      · exact Or.inl (fun i a b => hp i (by omega) (by omega))
      · refine Or.inr ⟨i, ?_, by omega, i3⟩
        by_cases e : n = i
        · rw [e] at c; exact absurd i3 c
        · omega
theorem lm_m {a b : Int} (ha : 0 < a) (hb : 0 < b) : ∃ p q : Nat, lm a b = a * (p : Int) ∧ lm a b = b * (q : Int) := by
  obtain ⟨u, hu⟩ := gI_dl (a := a) (b := b) (by omega)
  obtain ⟨v, hv⟩ := gI_dr (a := a) (b := b) (by omega)
  have g := gI_pos (a := a) (b := b) (Or.inl ha)
  have eu : a / gI a b = u := Int.ediv_eq_of_eq_mul_right (by omega) hu
  have ev : b / gI a b = v := Int.ediv_eq_of_eq_mul_right (by omega) hv
  have u0 : 0 ≤ u := by rw [← eu]; exact Int.ediv_nonneg (by omega) (by omega)
  have v0 : 0 ≤ v := by rw [← ev]; exact Int.ediv_nonneg (by omega) (by omega)
  refine ⟨v.toNat, u.toNat, ?_, ?_⟩
  · rw [Int.toNat_of_nonneg v0, lm, eu]
    generalize gI a b = x at hu hv
    rw [hu, hv, ← Int.mul_assoc, Int.mul_comm u x]
  · rw [Int.toNat_of_nonneg u0, lm, eu, Int.mul_comm]
def smP (b : BD) (r s n : Int) : Bool := decide (wTo b r n = wTo b s n)
theorem same_eq {b : BD} {r s : Int} (hr : okR b) (r0 : 0 ≤ r) (r1 : r < b.1 0) (s0 : 0 ≤ s) (s1 : s < b.1 0) : fsN (smP b r s) (b.2 1 r * b.2 1 s).toNat 1 = fsN (smP b r s) (lm (b.2 1 r) (b.2 1 s)).toNat 1 := by
  have lr := hr.2.2 r r0 r1
  have ls := hr.2.2 s s0 s1
  have lb := lm_b (a := b.2 1 r) (b := b.2 1 s) (by omega) (by omega)
  obtain ⟨p, q, ep, eq⟩ := lm_m (a := b.2 1 r) (b := b.2 1 s) (by omega) (by omega)
  generalize hL : lm (b.2 1 r) (b.2 1 s) = L at lb ep eq ⊢
  have per : ∀ n, 1 ≤ n → smP b r s (n + L) = smP b r s n := by
    intro n n1
    unfold smP wTo
    rw [if_pos ⟨r0, r1⟩, if_pos ⟨s0, s1⟩, if_pos ⟨r0, r1⟩, if_pos ⟨s0, s1⟩]
    conv => lhs; rw [ep]
    rw [wordP_mul (by omega) n1, ← ep, eq, wordP_mul (by omega) n1]
  rw [show (b.2 1 r * b.2 1 s).toNat = L.toNat + ((b.2 1 r * b.2 1 s).toNat - L.toNat) by omega]
  refine fsN_ext _ _ _ ?_
  by_cases ex : ∃ i, 1 ≤ i ∧ i < 1 + (L.toNat : Int) ∧ smP b r s i = true
  · exact Or.inr ex
  · refine Or.inl (fun i i1 _ => ?_)
    have all : ∀ (m : Nat) (i : Int), 1 ≤ i → i ≤ m → smP b r s i = false := by
      intro m
      induction m with
      | zero => intro i i1 i2; omega
      | succ m ih =>
        intro i i1 i2
        by_cases c : i < 1 + (L.toNat : Int)
        · cases e : smP b r s i with
          | false => rfl
          | true => exact absurd ⟨i, i1, c, e⟩ ex
        · have := ih (i - L) (by omega) (by omega)
          rw [← per (i - L) (by omega), show i - L + L = i by omega] at this
          exact this
    exact all i.toNat i (by omega) (by omega)
theorem x_same {d : Nat} {r s L : Int} {h : AH} {K : Int → AH → Prop} (hr : okR (fX h 1)) (L1 : L ≤ 10000) : ∀ (m : Nat) (n : Int), n + m = L + 1 → 1 ≤ n → K (fsN (smP (fX h 1) r s) m n) h → Bx z0 0 (tx mt (d + 29)) k_X5_same (fun r h' => ∃ z, r = some (.inl z) ∧ K z h') 3 [some (vR 0), some (vI r), some (vI s), some (vI L), some (vI n)] [] h := by
  intro m
  induction m with
  | zero => intro n nm n1 q; exact u_X5_same_3 (tx_mono _ _) ⟨fun _ => u_X5_same_5 (tx_mono _ _) (exI q), fun c => by omega⟩
  | succ m ih =>
    intro n nm n1 q
    rw [fsN] at q
    refine u_X5_same_3 (tx_mono _ _) ⟨fun c => by omega, fun _ => s_X0_wordTo isB1 hr (by omega) (s_X0_wordTo isB1 hr (by omega) ⟨fun c => u_X5_same_4 (tx_mono _ _) ⟨⟨by omega, by omega⟩, ih (n + 1) (by omega) (by omega) ?_⟩, fun c => exI ?_⟩)⟩
    · rw [if_neg (by rw [smP, decide_eq_false c]; decide)] at q
      exact q
    · rw [if_pos (by rw [smP, decide_eq_true (Decidable.not_not.mp c)])] at q
      exact q
theorem m_same {d : Nat} {r s : Int} {h : AH} {K : Int → AH → Prop} (hr : okR (fM h)) (r0 : 0 ≤ r) (r1 : r < h.1 38 0) (s0 : 0 ≤ s) (s1 : s < h.1 38 0) (hP : h.1 39 r * h.1 39 s ≤ 144) : ∀ (m : Nat) (n : Int), n + m = h.1 39 r * h.1 39 s + 1 → 1 ≤ n → K (fsN (smP (fM h) r s) m n) h → Bx z0 0 (tx mt (d + 29)) k_X6_same (fun r h' => ∃ z, r = some (.inl z) ∧ K z h') 3 [some (vR 38), some (vI r), some (vI s), some (vI n)] [] h := by
  have h4 : h.1 38 0 ≤ 4 := hr.2.1
  intro m
  induction m with
  | zero => intro n nm n1 q; exact u_X6_same_3 (tx_mono _ _) ⟨r0, by omega, s0, by omega, ⟨by omega, by omega⟩, fun _ => u_X6_same_5 (tx_mono _ _) (exI q), fun c => by omega⟩
  | succ m ih =>
    intro n nm n1 q
    rw [fsN] at q
    refine u_X6_same_3 (tx_mono _ _) ⟨r0, by omega, s0, by omega, ⟨by omega, by omega⟩, fun c => by omega, fun _ => s_X6_saidBy hr r0 r1 (by omega) (s_X6_saidBy hr s0 s1 (by omega) ⟨fun c => u_X6_same_4 (tx_mono _ _) ⟨⟨by omega, by omega⟩, ih (n + 1) (by omega) (by omega) ?_⟩, fun c => exI ?_⟩)⟩
    · rw [if_neg (by rw [smP, decide_eq_false c]; decide)] at q
      exact q
    · rw [if_pos (by rw [smP, decide_eq_true (Decidable.not_not.mp c)])] at q
      exact q
theorem op_same {r s : Int} : OpI n_X5_same n_X6_same [vI r, vI s] := by
  intro d n h n0 n1 H
  have fa := H.facts
  unfold Facts at fa
  obtain ⟨oR, oE, oS, oP, oZ, mE, mR, mEa, mS, mZ⟩ := H.ok
  by_cases c : (r < 0 ∨ h.1 1 0 ≤ r) ∨ (s < 0 ∨ h.1 1 0 ≤ s) ∨ r = s
  · skip
    repeat' first
      | first | exact H.m12 | exact H.rf (by decide) (by decide)
      | (with_reducible refine exI ?_)
      | (with_reducible refine exL ?_)
      | (with_reducible refine exV ?_)
      | (with_reducible apply And.intro)
      | (with_reducible refine cI_i (e_X5_same ?_))
      | (with_reducible refine cL_i (e_X5_same ?_))
      | (with_reducible refine cV_i (e_X5_same ?_))
      | (with_reducible refine u_X5_same_1 (tx_mono _ _) ?_)
      | (with_reducible refine u_X5_same_2 (tx_mono _ _) ?_)
      | (with_reducible refine u_X5_same_3 (tx_mono _ _) ?_)
      | (with_reducible refine u_X5_same_4 (tx_mono _ _) ?_)
      | (with_reducible refine u_X5_same_5 (tx_mono _ _) ?_)
      | (with_reducible refine cI_i (e_X6_same ?_))
      | (with_reducible refine cL_i (e_X6_same ?_))
      | (with_reducible refine cV_i (e_X6_same ?_))
      | (with_reducible refine u_X6_same_1 (tx_mono _ _) ?_)
      | (with_reducible refine u_X6_same_2 (tx_mono _ _) ?_)
      | (with_reducible refine u_X6_same_3 (tx_mono _ _) ?_)
      | (with_reducible refine u_X6_same_4 (tx_mono _ _) ?_)
      | (with_reducible refine u_X6_same_5 (tx_mono _ _) ?_)
      | (with_reducible apply c_X0_hasRhyme)
      | (with_reducible apply s_X0_wordTo)
      | (with_reducible apply s_X5_commonMultiple)
      | (with_reducible apply c_X5_refuse)
      | (with_reducible apply c_X6_isRhyme)
      | (with_reducible apply c_X6_refuse)
      | (with_reducible apply s_X6_saidBy)
      | exact isB1
      | exact True.intro
      | (intro _ e9; subst e9)
      | (intro c9; exfalso; first | omega | (simp only [inI, inL, upI_e, Nat.reduceEqDiff, Nat.reduceAdd, true_and, and_true, false_and, and_false, if_true, if_false, ite_true, ite_false, reduceIte, Int.reduceEq, not_true_eq_false, not_false_eq_true, Decidable.not_not] at c9; omega))
      | (intro c9; (try simp only [inI, inL, upI_e, Nat.reduceEqDiff, Nat.reduceAdd, true_and, and_true, false_and, and_false, if_true, if_false, ite_true, ite_false, reduceIte, Int.reduceEq, not_true_eq_false, not_false_eq_true, Decidable.not_not] at c9))
      | (with_reducible show _ ≤ _; first | omega | (simp only [inI, inL, upI_e, Nat.reduceEqDiff, Nat.reduceAdd, true_and, and_true, false_and, and_false, if_true, if_false, ite_true, ite_false, reduceIte, Int.reduceEq, not_true_eq_false, not_false_eq_true, Decidable.not_not]; omega))
      | (with_reducible show _ < _; first | omega | (simp only [inI, inL, upI_e, Nat.reduceEqDiff, Nat.reduceAdd, true_and, and_true, false_and, and_false, if_true, if_false, ite_true, ite_false, reduceIte, Int.reduceEq, not_true_eq_false, not_false_eq_true, Decidable.not_not]; omega))
      | (with_reducible show _ = _; first | omega | (simp only [inI, inL, upI_e, Nat.reduceEqDiff, Nat.reduceAdd, true_and, and_true, false_and, and_false, if_true, if_false, ite_true, ite_false, reduceIte, Int.reduceEq, not_true_eq_false, not_false_eq_true, Decidable.not_not]; omega))
      | (with_reducible show _ ∧ _; first | omega | (simp only [inI, inL, upI_e, Nat.reduceEqDiff, Nat.reduceAdd, true_and, and_true, false_and, and_false, if_true, if_false, ite_true, ite_false, reduceIte, Int.reduceEq, not_true_eq_false, not_false_eq_true, Decidable.not_not]; omega))
      | (with_reducible show _ ∨ _; first | omega | (simp only [inI, inL, upI_e, Nat.reduceEqDiff, Nat.reduceAdd, true_and, and_true, false_and, and_false, if_true, if_false, ite_true, ite_false, reduceIte, Int.reduceEq, not_true_eq_false, not_false_eq_true, Decidable.not_not]; omega))
      | (with_reducible show inI _; first | omega | (simp only [inI, inL, upI_e, Nat.reduceEqDiff, Nat.reduceAdd, true_and, and_true, false_and, and_false, if_true, if_false, ite_true, ite_false, reduceIte, Int.reduceEq, not_true_eq_false, not_false_eq_true, Decidable.not_not]; omega))
      | (with_reducible show inL _; first | omega | (simp only [inI, inL, upI_e, Nat.reduceEqDiff, Nat.reduceAdd, true_and, and_true, false_and, and_false, if_true, if_false, ite_true, ite_false, reduceIte, Int.reduceEq, not_true_eq_false, not_false_eq_true, Decidable.not_not]; omega))
      | (with_reducible show ¬ _; first | omega | (simp only [inI, inL, upI_e, Nat.reduceEqDiff, Nat.reduceAdd, true_and, and_true, false_and, and_false, if_true, if_false, ite_true, ite_false, reduceIte, Int.reduceEq, not_true_eq_false, not_false_eq_true, Decidable.not_not]; omega))
  have r0 : 0 ≤ r := by omega
  have s0 : 0 ≤ s := by omega
  have r1 : r < h.1 1 0 := by omega
  have s1 : s < h.1 1 0 := by omega
  have lr := oR.2.2 r r0 r1
  have ls := oR.2.2 s s0 s1
  have er : (fX h 1).2 1 r = h.1 2 r := rfl
  have es : (fX h 1).2 1 s = h.1 2 s := rfl
  rw [er] at lr
  rw [es] at ls
  have hP := Int.mul_le_mul lr.2.1 ls.2.1 (show 0 ≤ h.1 2 s by omega) (by decide)
  have lb := lm_b (a := h.1 2 r) (b := h.1 2 s) (by omega) (by omega)
  refine cI_i (e_X5_same (c_X0_hasRhyme isB1 (fun _ => ⟨fun y => absurd y (by decide), fun _ => c_X0_hasRhyme isB1 (fun _ => ⟨fun y => absurd y (by decide), fun _ => ⟨fun _ => u_X5_same_2 (tx_mono _ _) ⟨r0, by omega, s0, by omega, s_X5_commonMultiple (by omega) (by omega) (by omega) (by omega) (x_same oR (by omega) (lm (h.1 2 r) (h.1 2 s)).toNat 1 (by omega) (by decide) ?_)⟩, fun y => by omega⟩⟩) (fun y => by omega)⟩) (fun y => by omega)))
  refine cI_i (e_X6_same ?_)
  intro h1 w1
  rw [w1]
  have c0 : (upI h 38 12 0).1 38 0 = h.1 1 0 := by (simp only [inI, inL, upI_e, Nat.reduceEqDiff, Nat.reduceAdd, true_and, and_true, false_and, and_false, if_true, if_false, ite_true, ite_false, reduceIte, Int.reduceEq, not_true_eq_false, not_false_eq_true, Decidable.not_not]); omega
  have eP : (upI h 38 12 0).1 39 r = h.1 2 r ∧ (upI h 38 12 0).1 39 s = h.1 2 s := by
    have a := (H.1.arr r).1
    have b := (H.1.arr s).1
    (simp only [inI, inL, upI_e, Nat.reduceEqDiff, Nat.reduceAdd, true_and, and_true, false_and, and_false, if_true, if_false, ite_true, ite_false, reduceIte, Int.reduceEq, not_true_eq_false, not_false_eq_true, Decidable.not_not])
    exact ⟨a, b⟩
  refine c_X6_isRhyme (by omega) (fun _ => ⟨fun y => absurd y (by decide), fun _ => c_X6_isRhyme (by omega) (fun _ => ⟨fun y => absurd y (by decide), fun _ => ⟨fun _ => u_X6_same_2 (tx_mono _ _) ?_, fun y => by omega⟩⟩) (fun y => by omega)⟩) (fun y => by omega)
  refine m_same mR r0 (by omega) s0 (by omega) (by rw [eP.1, eP.2]; omega) (h.1 2 r * h.1 2 s).toNat 1 (by rw [eP.1, eP.2]; omega) (by decide) ⟨?_, H.m12⟩
  rw [mE]
  exact (same_eq oR r0 r1 s0 s1).symm
def ukF (b : BD) (r w : Int) (i : Nat) : Int := b2i (decide (wTo b r ((i : Int) + 1) = w))
theorem ukF_b (b : BD) (r w : Int) (n : Nat) : 0 ≤ sumN (ukF b r w) n ∧ sumN (ukF b r w) n ≤ n := by
  have := sumN_b (f := ukF b r w) (c := 1) (n := n) (fun i _ => by unfold ukF; rcases b2i_01 (decide (wTo b r ((i : Int) + 1) = w)) with e | e <;> omega)
  omega
theorem x_unknown {d : Nat} {r n w p : Int} {h : AH} {K : AK} (hr : okR (fX h 1)) (n9 : n ≤ 999) : ∀ (m i : Nat), i + m = n → (∀ x, Bx z0 0 (tx mt (d + 29)) k_X5_unknown K 7 [some (vR 0), some (vI r), some (vI n), some (vI w), some (vI p), some (vI ((sumN (ukF (fX h 1) r w) n.toNat))), x] [] h) → Bx z0 0 (tx mt (d + 29)) k_X5_unknown K 5 [some (vR 0), some (vI r), some (vI n), some (vI w), some (vI p), some (vI ((sumN (ukF (fX h 1) r w) i))), some (vI (((i : Int) + 1)))] [] h := by
  intro m
  induction m with
  | zero => intro i im q; exact u_X5_unknown_5 (tx_mono _ _) ⟨fun _ => by rw [show i = n.toNat by omega]; exact q _, fun c => by omega⟩
  | succ m ih =>
    intro i im q
    have nx := ih (i + 1) (by omega) q
    have bb := ukF_b (fX h 1) r w i
    rw [sumN] at nx
    refine u_X5_unknown_5 (tx_mono _ _) ⟨fun c => by omega, fun _ => s_X0_wordTo isB1 hr (by omega) ⟨fun c => u_X5_unknown_6 (tx_mono _ _) ⟨⟨by omega, by omega⟩, ?_⟩, fun c => ⟨⟨by omega, by omega⟩, u_X5_unknown_6 (tx_mono _ _) ⟨⟨by omega, by omega⟩, ?_⟩⟩⟩⟩
    · rw [ukF, decide_eq_false c, show b2i false = 0 from rfl, Int.add_zero] at nx
      exact nx
    · rw [ukF, decide_eq_true (Decidable.not_not.mp c), show b2i true = 1 from rfl] at nx
      exact nx
theorem m_unknown {d : Nat} {r n w p : Int} {h : AH} {K : AK} (hr : okR (fM h)) (r0 : 0 ≤ r) (r1 : r < h.1 38 0) (n9 : n ≤ 999) : ∀ (m i : Nat) (x5 : Option AV), i + m = n → (∀ x y, Bx z0 0 (tx mt (d + 29)) k_X6_unknown K 10 [some (vR 38), some (vI r), some (vI n), some (vI w), some (vI p), x, some (vI ((sumN (ukF (fM h) r w) n.toNat))), y] [] h) → Bx z0 0 (tx mt (d + 29)) k_X6_unknown K 7 [some (vR 38), some (vI r), some (vI n), some (vI w), some (vI p), x5, some (vI ((sumN (ukF (fM h) r w) i))), some (vI (((i : Int) + 1)))] [] h := by
  intro m
  induction m with
  | zero => intro i x5 im q; exact u_X6_unknown_7 (tx_mono _ _) ⟨fun _ => by rw [show i = n.toNat by omega]; exact q _ _, fun c => by omega⟩
  | succ m ih =>
    intro i x5 im q
    have nx := ih (i + 1) none (by omega) q
    have bb := ukF_b (fM h) r w i
    rw [sumN] at nx
    refine u_X6_unknown_7 (tx_mono _ _) ⟨fun c => by omega, fun _ => s_X6_saidBy hr r0 r1 (by omega) ⟨fun c => u_X6_unknown_8 (tx_mono _ _) (u_X6_unknown_9 (tx_mono _ _) ⟨⟨by omega, by omega⟩, ⟨by omega, by omega⟩, ?_⟩), fun c => u_X6_unknown_9 (tx_mono _ _) ⟨⟨by omega, by omega⟩, ⟨by omega, by omega⟩, ?_⟩⟩⟩
    · rw [ukF, decide_eq_false c] at nx
      exact nx
    · rw [ukF, decide_eq_true (Decidable.not_not.mp c)] at nx
      exact nx
