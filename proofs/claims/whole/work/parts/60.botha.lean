/-! ===== both: refused; numbers that all say ===== -/
set_option maxHeartbeats 8000000 in
theorem both_rf {a : Int} {d : Nat} {n : Int} {h : AH} (n0 : 0 ≤ n) (n1 : n ≤ 1000) (H : Inv n h) (c : (a < -1 ∨ 30000 < a) ∨ h.1 1 0 = 0 ∨ ¬ h.1 0 7 = h.1 1 0) : cI (tx mt (d + 30)) n_X5_both [vR 0, vI a] h (fun z h1 => cI (tx mt (d + 30)) n_X6_both [vR 38, vI a] h1 (fun z' h2 => z = z' ∧ Inv (n + 1) h2)) := by
  have fa := H.facts
  unfold Facts at fa
  repeat' first
    | first | exact H.m12 | exact H.rf (by decide) (by decide)
    | (with_reducible refine exI ?_)
    | (with_reducible refine exL ?_)
    | (with_reducible refine exV ?_)
    | (with_reducible apply And.intro)
    | (with_reducible refine cI_i (e_X5_both ?_))
    | (with_reducible refine cL_i (e_X5_both ?_))
    | (with_reducible refine cV_i (e_X5_both ?_))
    | (with_reducible refine u_X5_both_1 (tx_mono _ _) ?_)
    | (with_reducible refine u_X5_both_2 (tx_mono _ _) ?_)
    | (with_reducible refine u_X5_both_3 (tx_mono _ _) ?_)
    | (with_reducible refine u_X5_both_4 (tx_mono _ _) ?_)
    | (with_reducible refine u_X5_both_5 (tx_mono _ _) ?_)
    | (with_reducible refine u_X5_both_6 (tx_mono _ _) ?_)
    | (with_reducible refine u_X5_both_7 (tx_mono _ _) ?_)
    | (with_reducible refine u_X5_both_8 (tx_mono _ _) ?_)
    | (with_reducible refine u_X5_both_9 (tx_mono _ _) ?_)
    | (with_reducible refine cI_i (e_X6_both ?_))
    | (with_reducible refine cL_i (e_X6_both ?_))
    | (with_reducible refine cV_i (e_X6_both ?_))
    | (with_reducible refine u_X6_both_1 (tx_mono _ _) ?_)
    | (with_reducible refine u_X6_both_2 (tx_mono _ _) ?_)
    | (with_reducible refine u_X6_both_3 (tx_mono _ _) ?_)
    | (with_reducible refine u_X6_both_4 (tx_mono _ _) ?_)
    | (with_reducible refine u_X6_both_5 (tx_mono _ _) ?_)
    | (with_reducible refine u_X6_both_6 (tx_mono _ _) ?_)
    | (with_reducible refine u_X6_both_7 (tx_mono _ _) ?_)
    | (with_reducible refine u_X6_both_8 (tx_mono _ _) ?_)
    | (with_reducible refine u_X6_both_9 (tx_mono _ _) ?_)
    | (with_reducible refine u_X6_both_10 (tx_mono _ _) ?_)
    | (with_reducible refine u_X6_both_11 (tx_mono _ _) ?_)
    | (with_reducible refine u_X6_both_12 (tx_mono _ _) ?_)
    | (with_reducible apply s_X5_cycleOfTold)
    | (with_reducible apply s_X5_leastSaidByAll)
    | (with_reducible apply c_X5_refuse)
    | (with_reducible apply s_X6_allSay)
    | (with_reducible apply c_X6_refuse)
    | (with_reducible apply c_X6_wrongNumber)
    | exact isB1
    | exact True.intro
    | (intro _ e9; subst e9)
    | (intro c9; exfalso; first | omega | (simp only [inI, inL, upI_e, Nat.reduceEqDiff, Nat.reduceAdd, true_and, and_true, false_and, and_false, if_true, if_false, ite_true, ite_false, reduceIte, Int.reduceEq, not_true_eq_false, not_false_eq_true, Decidable.not_not] at c9; omega))
    | (intro c9; (try simp only [inI, inL, upI_e, Nat.reduceEqDiff, Nat.reduceAdd, true_and, and_true, false_and, and_false, if_true, if_false, ite_true, ite_false, reduceIte, Int.reduceEq, not_true_eq_false, not_false_eq_true, Decidable.not_not] at c9))
    | (with_reducible show _ ≤ _; first | omega | (simp only [inI, inL, upI_e, Nat.reduceEqDiff, Nat.reduceAdd, true_and, and_true, false_and, and_false, if_true, if_false, ite_true, ite_false, reduceIte, Int.reduceEq, not_true_eq_false, not_false_eq_true, Decidable.not_not]; omega))
    | (with_reducible show _ < _; first | omega | (simp only [inI, inL, upI_e, Nat.reduceEqDiff, Nat.reduceAdd, true_and, and_true, false_and, and_false, if_true, if_false, ite_true, ite_false, reduceIte, Int.reduceEq, not_true_eq_false, not_false_eq_true, Decidable.not_not]; omega))
    | (with_reducible show _ = _; first | omega | (simp only [inI, inL, upI_e, Nat.reduceEqDiff, Nat.reduceAdd, true_and, and_true, false_and, and_false, if_true, if_false, ite_true, ite_false, reduceIte, Int.reduceEq, not_true_eq_false, not_false_eq_true, Decidable.not_not]; omega))
    | (with_reducible show _ ∧ _; first | omega | (simp only [inI, inL, upI_e, Nat.reduceEqDiff, Nat.reduceAdd, true_and, and_true, false_and, and_false, if_true, if_false, ite_true, ite_false, reduceIte, Int.reduceEq, not_true_eq_false, not_false_eq_true, Decidable.not_not]; omega))
    | (with_reducible show _ ∨ _; first | omega | (simp only [inI, inL, upI_e, Nat.reduceEqDiff, Nat.reduceAdd, true_and, and_true, false_and, and_false, if_true, if_false, ite_true, ite_false, reduceIte, Int.reduceEq, not_true_eq_false, not_false_eq_true, Decidable.not_not]; omega))
    | (with_reducible show inI _; first | omega | (simp only [inI, inL, upI_e, Nat.reduceEqDiff, Nat.reduceAdd, true_and, and_true, false_and, and_false, if_true, if_false, ite_true, ite_false, reduceIte, Int.reduceEq, not_true_eq_false, not_false_eq_true, Decidable.not_not]; omega))
    | (with_reducible show inL _; first | omega | (simp only [inI, inL, upI_e, Nat.reduceEqDiff, Nat.reduceAdd, true_and, and_true, false_and, and_false, if_true, if_false, ite_true, ite_false, reduceIte, Int.reduceEq, not_true_eq_false, not_false_eq_true, Decidable.not_not]; omega))
    | (with_reducible show ¬ _; first | omega | (simp only [inI, inL, upI_e, Nat.reduceEqDiff, Nat.reduceAdd, true_and, and_true, false_and, and_false, if_true, if_false, ite_true, ite_false, reduceIte, Int.reduceEq, not_true_eq_false, not_false_eq_true, Decidable.not_not]; omega))
theorem lm_lcm {a b : Int} (ha : 0 < a) (hb : 0 < b) : lm a b = ((Nat.lcm a.toNat b.toNat : Nat) : Int) := by
  have h1 : a = ((a.toNat : Nat) : Int) := by omega
  have h2 : b = ((b.toNat : Nat) : Int) := by omega
  unfold lm gI
  conv => lhs; rw [h1, h2]
  rw [Int.toNat_natCast, Int.toNat_natCast, Nat.lcm, ← Int.natCast_ediv, ← Int.natCast_mul, Nat.div_mul_right_comm (Nat.gcd_dvd_left _ _)]
theorem lm_dvd {a b x : Int} (ha : 0 < a) (hb : 0 < b) (h1 : a ∣ x) (h2 : b ∣ x) : lm a b ∣ x := by
  rw [lm_lcm ha hb]
  have e1 : a.toNat ∣ x.natAbs := by
    have := Int.natAbs_dvd_natAbs.mpr h1
    rw [show a.natAbs = a.toNat by omega] at this
    exact this
  have e2 : b.toNat ∣ x.natAbs := by
    have := Int.natAbs_dvd_natAbs.mpr h2
    rw [show b.natAbs = b.toNat by omega] at this
    exact this
  exact Int.natAbs_dvd_natAbs.mp (by rw [Int.natAbs_natCast]; exact Nat.lcm_dvd e1 e2)
theorem word_iff {L f m n : Int} (hL : 1 ≤ L) (hm : 1 ≤ m) (hn : 1 ≤ n) : wordP L f m = wordP L f n ↔ L ∣ m - n := by
  rw [wordP, wordP, if_neg (by omega), if_neg (by omega), Int.emod_eq_emod_iff_emod_sub_eq_zero, show f + m - 1 - (f + n - 1) = m - n by omega]
  exact ⟨Int.dvd_of_emod_eq_zero, Int.emod_eq_zero_of_dvd⟩
def cyT (b : BD) (t : Int → Int) : Nat → Int
  | 0 => 1
  | i + 1 => if t i = 99 then cyT b t i else lm (cyT b t i) (b.2 1 i)
def saA (b : BD) (t : Int → Int) (m : Int) : Nat → Bool
  | 0 => true
  | i + 1 => saA b t m i && (decide (t i = 99) || decide (wTo b i m = t i))
theorem saA_le {b : BD} {t : Int → Int} {m : Int} {i : Nat} : ∀ j : Nat, saA b t m (i + j) = true → saA b t m i = true := by
  intro j
  induction j with
  | zero => intro h; exact h
  | succ j ih =>
    intro h
    rw [show i + (j + 1) = (i + j) + 1 by omega, saA, Bool.and_eq_true] at h
    exact ih h.1
theorem saA_c {b : BD} {t t' : Int → Int} {m : Int} : ∀ i : Nat, (∀ j, 0 ≤ j → j < (i : Int) → t j = t' j) → saA b t m i = saA b t' m i := by
  intro i
  induction i with
  | zero => intro _; rfl
  | succ i ih =>
    intro h
    rw [saA, saA, ih (fun j a b => h j a (by omega)), h i (by omega) (by omega)]
theorem cyT_b {b : BD} {t : Int → Int} (hr : okR b) : ∀ i : Nat, (i : Int) ≤ b.1 0 → 0 < cyT b t i ∧ cyT b t i ≤ ((12 ^ i : Nat) : Int) := by
  intro i
  induction i with
  | zero => intro _; show (0 : Int) < 1 ∧ (1 : Int) ≤ ((12 ^ 0 : Nat) : Int); decide
  | succ i ih =>
    intro hi
    have h1 := ih (by omega)
    have l := hr.2.2 (i : Int) (by omega) (by omega)
    have h4 := hr.2.1
    have b := cy_b (i := i) h1.1 h1.2 l.1 l.2.1 (by omega)
    rw [cyT]
    split
    · rw [Nat.pow_succ]
      generalize 12 ^ i = x at h1
      omega
    · exact ⟨b.2.2.1, b.2.2.2.1⟩
/-- what is known of the RHYMES seen so far: the least number, the step -/
def saI (b : BD) (t : Int → Int) (i : Nat) (n : Int) : Prop := 1 ≤ n ∧ n ≤ cyT b t i ∧ ∀ m, 1 ≤ m → (saA b t m i = true ↔ cyT b t i ∣ m - n)
theorem saI_0 (b : BD) (t : Int → Int) : saI b t 0 1 := ⟨by decide, by show (1 : Int) ≤ 1; decide, fun m _ => ⟨fun _ => Int.one_dvd _, fun _ => rfl⟩⟩
theorem saI_99 {b : BD} {t : Int → Int} {i : Nat} {n : Int} (h : saI b t i n) (ht : t i = 99) : saI b t (i + 1) n := by
  obtain ⟨h1, h2, h3⟩ := h
  refine ⟨h1, by rw [cyT, if_pos ht]; exact h2, fun m hm => ?_⟩
  rw [saA, cyT, if_pos ht, decide_eq_true ht, Bool.true_or, Bool.and_true]
  exact h3 m hm
theorem wTo_r {b : BD} {i : Nat} (hi : (i : Int) < b.1 0) (m : Int) : wTo b i m = wordP (b.2 1 i) (b.2 2 i) m := by rw [wTo, if_pos ⟨by omega, hi⟩]
theorem saI_s {b : BD} {t : Int → Int} {i k : Nat} {n : Int} (hr : okR b) (hi : (i : Int) < b.1 0) (h : saI b t i n) (ht : ¬ t i = 99) (hk : ∀ j : Nat, j < k → ¬ wTo b i (n + j * cyT b t i) = t i) (hw : wTo b i (n + k * cyT b t i) = t i) : saI b t (i + 1) (n + k * cyT b t i) := by
  obtain ⟨h1, h2, h3⟩ := h
  have l := hr.2.2 (i : Int) (by omega) hi
  have cb := cyT_b (t := t) hr i (by omega)
  obtain ⟨p, q, ep, eq⟩ := lm_m cb.1 (show 0 < b.2 1 i by omega)
  have lb := lm_b cb.1 (show 0 < b.2 1 i by omega)
  have hks : 0 ≤ (k : Int) * cyT b t i := Int.mul_nonneg (by omega) (by omega)
  have kp : k < p := by
    by_cases c : k < p
    · exact c
    exfalso
    obtain ⟨j, rfl⟩ : ∃ j, k = j + p := ⟨k - p, by omega⟩
    have hj : 0 ≤ (j : Int) * cyT b t i := Int.mul_nonneg (by omega) (by omega)
    refine hk j ?_ ?_
    · have : p ≠ 0 := by
        intro e
        rw [e] at ep
        rw [show ((0 : Nat) : Int) = 0 from rfl, Int.mul_zero] at ep
        omega
      omega
    · rw [← hw, wTo_r hi, wTo_r hi, Int.natCast_add, Int.add_mul, ← Int.add_assoc, Int.mul_comm (p : Int), ← ep, eq, wordP_mul (by omega) (by omega)]
  have e1 : cyT b t (i + 1) = lm (cyT b t i) (b.2 1 i) := by rw [cyT, if_neg ht]
  have s1 : cyT b t i ∣ lm (cyT b t i) (b.2 1 i) := ⟨p, ep⟩
  have s2 : b.2 1 i ∣ lm (cyT b t i) (b.2 1 i) := ⟨q, eq⟩
  refine ⟨by omega, ?_, fun m hm => ?_⟩
  · rw [e1, ep]
    have := Int.mul_le_mul_of_nonneg_right (show (k : Int) + 1 ≤ p by omega) (show 0 ≤ cyT b t i by omega)
    rw [Int.add_mul, Int.one_mul] at this
    rw [Int.mul_comm (cyT b t i)]
    omega
  · rw [saA, decide_eq_false ht, Bool.false_or, e1, Bool.and_eq_true, decide_eq_true_eq, h3 m hm]
    have sk : cyT b t i ∣ (k : Int) * cyT b t i := ⟨k, by rw [Int.mul_comm]⟩
    constructor
    · intro ⟨a1, a2⟩
      refine lm_dvd cb.1 (by omega) ?_ ?_
      · rw [show m - (n + (k : Int) * cyT b t i) = (m - n) - (k : Int) * cyT b t i by omega]
        exact Int.dvd_sub a1 sk
      · rw [← hw, wTo_r hi, wTo_r hi] at a2
        exact (word_iff (by omega) hm (by omega)).mp a2
    · intro a
      constructor
      · have := Int.dvd_add (Int.dvd_trans s1 a) sk
        rw [show m - (n + (k : Int) * cyT b t i) + (k : Int) * cyT b t i = m - n by omega] at this
        exact this
      · rw [← hw, wTo_r hi, wTo_r hi]
        exact (word_iff (by omega) hm (by omega)).mpr (Int.dvd_trans s2 a)
theorem saI_no {b : BD} {t : Int → Int} {i : Nat} {n : Int} (hr : okR b) (hi : (i : Int) < b.1 0) (h : saI b t i n) (ht : ¬ t i = 99) (hk : ∀ j : Nat, j ≤ 12 → ¬ wTo b i (n + j * cyT b t i) = t i) : ∀ m, 1 ≤ m → saA b t m (i + 1) = false := by
  intro m hm
  obtain ⟨h1, h2, h3⟩ := h
  have l := hr.2.2 (i : Int) (by omega) hi
  have cb := cyT_b (t := t) hr i (by omega)
  cases hs : saA b t m (i + 1) with
  | false => rfl
  | true =>
    exfalso
    rw [saA, decide_eq_false ht, Bool.false_or, Bool.and_eq_true, decide_eq_true_eq, h3 m hm] at hs
    obtain ⟨⟨j, ej⟩, hw⟩ := hs
    have j0 : 0 ≤ j := by
      by_cases c : 0 ≤ j
      · exact c
      exfalso
      have := Int.mul_le_mul_of_nonneg_left (show j ≤ -1 by omega) (show 0 ≤ cyT b t i by omega)
      omega
    have er := emod_r (a := j) (b := b.2 1 i) (by omega)
    have ed := Int.mul_ediv_add_emod j (b.2 1 i)
    have dn : 0 ≤ j / b.2 1 i := Int.ediv_nonneg j0 (by omega)
    refine hk (j % b.2 1 i).toNat (by omega) ?_
    rw [← hw, Int.toNat_of_nonneg er.1, wTo_r hi, wTo_r hi]
    have hj : 0 ≤ (j % b.2 1 i) * cyT b t i := Int.mul_nonneg (by omega) (by omega)
    refine (word_iff (by omega) (by omega) hm).mpr ⟨-(cyT b t i * (j / b.2 1 i)), ?_⟩
    rw [show m = n + cyT b t i * j by omega]
    generalize j / b.2 1 i = u at *
    generalize hv : j % b.2 1 i = v at *
    rw [← ed, Int.mul_add, Int.mul_neg, Int.mul_comm v, Int.mul_left_comm (cyT b t i)]
    omega
