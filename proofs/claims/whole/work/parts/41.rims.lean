/-! ===== rims, wished ===== -/
def eqN (f g : Nat → Int) : Nat → Bool
  | 0 => true
  | n + 1 => eqN f g n && decide (f n = g n)
theorem eqN_c {f g f' g' : Nat → Int} {n : Nat} (h : ∀ i, i < n → f i = f' i ∧ g i = g' i) : eqN f g n = eqN f' g' n := by
  induction n with
  | zero => rfl
  | succ n ih => rw [eqN, eqN, ih (fun i hi => h i (by omega)), (h n (by omega)).1, (h n (by omega)).2]
theorem eqN_no {f g : Nat → Int} {e : Nat} (hne : f e ≠ g e) : ∀ n, e < n → eqN f g n = false := by
  intro n
  induction n with
  | zero => intro h; omega
  | succ n ih =>
    intro h
    rw [eqN]
    by_cases c : e < n
    · rw [ih c]; rfl
    · have : e = n := by omega
      subst this
      rw [decide_eq_false hne, Bool.and_false]
theorem bit_y {p : Nat → Bool} {n : Nat} (hp : p n = true) : ((Int.toNat ((bitsN p n : Nat) : Int) ||| Int.toNat (1 * 2 ^ Int.toNat (n : Int)) : Nat) : Int) = ((bitsN p (n + 1) : Nat) : Int) := by
  rw [bitsN, if_pos hp, Int.toNat_natCast, Int.toNat_natCast, show (1 * 2 ^ n : Int) = ((2 ^ n : Nat) : Int) by simp, Int.toNat_natCast]
theorem bit_z {p : Nat → Bool} {n : Nat} (hp : p n = false) : ((Int.toNat ((bitsN p n : Nat) : Int) ||| Int.toNat 0 : Nat) : Int) = ((bitsN p (n + 1) : Nat) : Int) := by
  rw [bitsN, if_neg (by rw [hp]; decide), Int.toNat_natCast, show Int.toNat 0 = 0 from rfl, Nat.or_zero]
theorem bit_b {n : Nat} (h : n ≤ 12) : inI (1 * 2 ^ Int.toNat (n : Int)) ∧ 0 ≤ (1 * 2 ^ Int.toNat (n : Int) : Int) := by
  have h1 : 2 ^ n ≤ 2 ^ 12 := Nat.pow_le_pow_right (by decide) h
  have e : (1 * 2 ^ Int.toNat (n : Int) : Int) = ((2 ^ n : Nat) : Int) := by rw [Int.toNat_natCast]; simp
  rw [e]
  generalize 2 ^ n = x at h1
  exact ⟨⟨by omega, by omega⟩, by omega⟩
theorem s_X5_bringsTold {d : Nat} {h : AH} {k : Int → AH → Prop} (e : h.1 0 7 = h.1 9 3) (h0 : 0 ≤ h.1 9 3 ∧ h.1 9 3 ≤ 4) (q : k (b2i (eqN (fun i => h.1 15 i) (fun i => h.1 31 i) (h.1 9 3).toNat)) h) : cI (tx mt (d + 1)) n_X5_bringsTold [vR 0, vR 9] h k := by
  refine cI_i (e_X5_bringsTold isB9 ?_)
  have key : ∀ (m i : Nat), i + m = (h.1 9 3).toNat → eqN (fun i => h.1 15 i) (fun i => h.1 31 i) i = true → Bx z0 0 (tx mt d) k_X5_bringsTold (fun r h' => ∃ z, r = some (.inl z) ∧ k z h') 1 [some (vR 0), some (vR 9), some (vI (i : Int))] [] h := by
    intro m
    induction m with
    | zero =>
      intro i im ht
      refine u_X5_bringsTold_1 (tx_mono _ _) isB9 ⟨fun c => u_X5_bringsTold_3 (tx_mono _ _) (exI (kq q ?_)), fun c => absurd c (by omega)⟩
      rw [← show i = (h.1 9 3).toNat by omega, ht]
      rfl
    | succ m ih =>
      intro i im ht
      refine u_X5_bringsTold_1 (tx_mono _ _) isB9 ⟨fun c => absurd c (by omega), fun c => ⟨fun c => absurd c (by omega), fun c => ⟨by omega, by omega, by omega, by omega, fun c2 => u_X5_bringsTold_2 (tx_mono _ _) isB9 ⟨⟨by omega, by omega⟩, ih (i + 1) (by omega) ?_⟩, fun c2 => exI (kq q ?_)⟩⟩⟩
      · rw [eqN, ht, decide_eq_true c2]; rfl
      · rw [eqN_no (e := i) c2 _ (by omega)]; rfl
  exact key (h.1 9 3).toNat 0 (by omega) rfl
theorem s_X6_areRims {d : Nat} {h : AH} {k : Int → AH → Prop} (h0 : 0 ≤ h.1 38 1 ∧ h.1 38 1 ≤ 4) (q : k (b2i (eqN (fun i => h.1 44 i) (fun i => h.1 64 i) (h.1 38 1).toNat)) h) : cI (tx mt (d + 1)) n_X6_areRims [vR 38] h k := by
  refine cI_i (e_X6_areRims ?_)
  have key : ∀ (m i : Nat), i + m = (h.1 38 1).toNat → Bx z0 0 (tx mt d) k_X6_areRims (fun r h' => ∃ z, r = some (.inl z) ∧ k z h') 1 [some (vR 38), some (vI (b2i (eqN (fun i => h.1 44 i) (fun i => h.1 64 i) i))), some (vI (i : Int))] [] h := by
    intro m
    induction m with
    | zero =>
      intro i im
      refine u_X6_areRims_1 (tx_mono _ _) ⟨fun c => u_X6_areRims_4 (tx_mono _ _) ⟨b2i_01 _, exI (kq q ?_)⟩, fun c => absurd c (by omega)⟩
      rw [← show i = (h.1 38 1).toNat by omega]
    | succ m ih =>
      intro i im
      have nx := ih (i + 1) (by omega)
      rw [eqN] at nx
      refine u_X6_areRims_1 (tx_mono _ _) ⟨fun c => absurd c (by omega), fun c => ⟨fun c2 => u_X6_areRims_2 (tx_mono _ _) (u_X6_areRims_3 (tx_mono _ _) ⟨⟨by omega, by omega⟩, ?_⟩), fun c2 => ⟨by omega, by omega, by omega, by omega, fun c3 => u_X6_areRims_2 (tx_mono _ _) (u_X6_areRims_3 (tx_mono _ _) ⟨⟨by omega, by omega⟩, ?_⟩), fun c3 => u_X6_areRims_3 (tx_mono _ _) ⟨⟨by omega, by omega⟩, ?_⟩⟩⟩⟩
      · rw [b2i_z c2] at nx
        exact nx
      · rw [decide_eq_false c3, Bool.and_false] at nx
        exact nx
      · rw [decide_eq_true (Decidable.not_not.mp c3), b2i_o c2] at nx
        exact nx
  exact key (h.1 38 1).toNat 0 (by omega)
def rimP (b : BD) (t : Nat → Int) (e : Nat) : Bool := eqN (fun i => (supB 100 0 (putS 5 e b)).2.2 6 i) t (b.1 1).toNat
theorem x_rims {d : Nat} {h : AH} {K : Int → AH → Prop} (hb : okBd (fX h 1)) (h7 : h.1 0 7 = h.1 1 3) : ∀ (m k : Nat) (h' : AH), k + m = ((fX h 1).1 1).toNat → Fx h h' → (∀ h1, Fx h h1 → K ((bitsN (rimP (fX h 1) (fun i => h.1 31 i)) ((fX h 1).1 1).toNat : Nat) : Int) h1) → Bx z0 0 (tx mt (d + 29)) k_X5_rims (fun r h' => ∃ z, r = some (.inl z) ∧ K z h') 3 [some (vR 0), some (vI ((bitsN (rimP (fX h 1) (fun i => h.1 31 i)) k : Nat) : Int)), some (vI (k : Int))] [] h' := by
  have f1 : (fX h 1).1 1 = h.1 1 3 := rfl
  have e0 := hb.2.1.1
  have e4 := hb.2.1.2.1
  intro m
  induction m with
  | zero =>
    intro k h' km F q
    have g : h'.1 1 3 = h.1 1 3 := by rw [F.1 1 (by omega)]
    refine u_X5_rims_3 (tx_mono _ _) ⟨fun _ => u_X5_rims_5 (tx_mono _ _) (exI (kq (q h' F) ?_)), fun c => by omega⟩
    rw [show k = ((fX h 1).1 1).toNat by omega]
  | succ m ih =>
    intro k h' km F q
    have g : h'.1 1 3 = h.1 1 3 := by rw [F.1 1 (by omega)]
    refine u_X5_rims_3 (tx_mono _ _) ⟨fun c => by omega, fun _ => sx_copy F hb.2.2.2.2 (fun h1 x1 F1 => fun h2 w2 => ?_)⟩
    have hp := hb.pus (j := 5) (v := (k : Int)) (by omega)
    have x2 : fX h2 9 = putS 5 (k : Int) (fX h 1) := by rw [w2, fX_putS, x1]
    have F2 : Fx h h2 := by rw [w2] at x2 ⊢; exact F1.put (by decide) (by decide) (by rw [x2]; exact hp.2.2.2.2)
    have hn : (putS 5 (k : Int) (fX h 1)).1 5 < (putS 5 (k : Int) (fX h 1)).1 1 := by show (k : Int) < (fX h 1).1 1; omega
    refine sx_eat F2 (by rw [x2]; exact hp) (by rw [x2]; exact hn) (fun h3 x3 F3 => ?_)
    rw [x2] at x3
    have sk := supB_ok 100 0 _ hp hn
    have n3 : h3.1 9 3 = (fX h 1).1 1 := by
      rw [show h3.1 9 3 = (fX h3 9).1 1 from rfl, x3, sk.2.2.1]; rfl
    refine s_X5_bringsTold (by rw [n3, F3.1 0 (by omega)]; exact h7) (by omega) ?_
    have eP : eqN (fun i => h3.1 15 i) (fun i => h3.1 31 i) (h3.1 9 3).toNat = rimP (fX h 1) (fun i => h.1 31 i) k := by
      rw [n3]
      refine eqN_c (fun i hi => ⟨?_, by rw [F3.1 31 (by omega)]⟩)
      rw [show h3.1 15 i = (fX h3 9).2 6 i from rfl, x3]
    rw [eP]
    refine ⟨fun c => u_X5_rims_4 (tx_mono _ _) ⟨⟨by omega, by omega⟩, ?_⟩, fun c => ⟨by omega, by omega, by omega, (bit_b (by omega)).1, by omega, (bit_b (by omega)).2, u_X5_rims_4 (tx_mono _ _) ⟨⟨by omega, by omega⟩, ?_⟩⟩⟩
    · have nx := ih (k + 1) h3 (by omega) F3 q
      rw [bitsN, if_neg (by rw [b2i_z c]; decide)] at nx
      exact nx
    · rw [bit_y (b2i_o c)]
      exact ih (k + 1) h3 (by omega) F3 q
theorem m_rims {d : Nat} {h : AH} {B : BD} {K : Int → AH → Prop} (hb : okBd B) : ∀ (m k : Nat) (h' : AH), k + m = (B.1 1).toNat → (fM h').1 1 = B.1 1 → Gm B h h' → (∀ h1, Gm B h h1 → fM h1 = B → K ((bitsN (rimP B (fun i => h.1 64 i)) (B.1 1).toNat : Nat) : Int) h1) → Bx z0 0 (tx mt (d + 29)) k_X6_rims (fun r h' => ∃ z, r = some (.inl z) ∧ K z h') 3 [some (vR 38), some (vI ((bitsN (rimP B (fun i => h.1 64 i)) k : Nat) : Int)), some (vI (k : Int))] [] h' := by
  have e0 := hb.2.1.1
  have e4 := hb.2.1.2.1
  intro m
  induction m with
  | zero =>
    intro k h' km g G q
    have g : h'.1 38 1 = B.1 1 := g
    refine u_X6_rims_3 (tx_mono _ _) ⟨fun _ => u_X6_rims_6 (tx_mono _ _) (sm_put G hb.2.2.2.2 (fun h1 m1 G1 => exI (kq (q h1 G1 m1) ?_))), fun c => by omega⟩
    rw [show k = (B.1 1).toNat by omega]
  | succ m ih =>
    intro k h' km g G q
    have g : h'.1 38 1 = B.1 1 := g
    refine u_X6_rims_3 (tx_mono _ _) ⟨fun c => by omega, fun _ => sm_put G hb.2.2.2.2 (fun h1 m1 G1 => fun h2 w2 => ?_)⟩
    have hp := hb.pus (j := 5) (v := (k : Int)) (by omega)
    have m2 : fM h2 = putS 5 (k : Int) B := by rw [w2, fM_putS, m1]
    have G2 : Gm B h h2 := by rw [w2] at m2 ⊢; exact G1.put (by omega) (by rw [m2]; exact hp.2.2.2.2)
    have hn : (putS 5 (k : Int) B).1 5 < (putS 5 (k : Int) B).1 1 := by show (k : Int) < B.1 1; omega
    refine sm_eat G2 (by rw [m2]; exact hp) (by rw [m2]; exact hn) (fun h3 m3 G3 => ?_)
    rw [m2] at m3
    have sk := supB_ok 100 0 _ hp hn
    have n3' : (fM h3).1 1 = B.1 1 := by rw [m3, sk.2.2.1]; rfl
    have n3 : h3.1 38 1 = B.1 1 := n3'
    refine s_X6_areRims (by omega) ?_
    have eP : eqN (fun i => h3.1 44 i) (fun i => h3.1 64 i) (h3.1 38 1).toNat = rimP B (fun i => h.1 64 i) k := by
      rw [n3]
      refine eqN_c (fun i hi => ⟨?_, by rw [G3.1 64 (by omega) (by omega) (by omega)]⟩)
      rw [show h3.1 44 i = (fM h3).2 6 i from rfl, m3]
    rw [eP]
    refine ⟨fun c => u_X6_rims_4 (tx_mono _ _) (u_X6_rims_5 (tx_mono _ _) ⟨by omega, by omega, ⟨by omega, by omega⟩, ?_⟩), fun c => ⟨by omega, by omega, by omega, (bit_b (by omega)).1, u_X6_rims_5 (tx_mono _ _) ⟨by omega, (bit_b (by omega)).2, ⟨by omega, by omega⟩, ?_⟩⟩⟩
    · rw [bit_z (b2i_z c)]
      exact ih (k + 1) h3 (by omega) n3' G3 q
    · rw [bit_y (b2i_o c)]
      exact ih (k + 1) h3 (by omega) n3' G3 q
theorem bitsN_c {p q : Nat → Bool} {n : Nat} (h : ∀ i, i < n → p i = q i) : bitsN p n = bitsN q n := by
  induction n with
  | zero => rfl
  | succ n ih => rw [bitsN, bitsN, ih (fun i hi => h i (by omega)), h n (by omega)]
theorem op_rims : OpI n_X5_rims n_X6_rims [] := by
  intro d n h n0 n1 H
  have fa := H.facts
  unfold Facts at fa
  obtain ⟨oR, oE, oS, oP, oZ, mE, mR, mEa, mS, mZ⟩ := H.ok
  by_cases c : h.1 1 3 = 0 ∨ ¬ h.1 0 7 = h.1 1 3
  · skip
    repeat' first
      | first | exact H.m12 | exact H.rf (by decide) (by decide)
      | (with_reducible refine exI ?_)
      | (with_reducible refine exL ?_)
      | (with_reducible refine exV ?_)
      | (with_reducible apply And.intro)
      | (with_reducible refine cI_i (e_X5_rims ?_))
      | (with_reducible refine cL_i (e_X5_rims ?_))
      | (with_reducible refine cV_i (e_X5_rims ?_))
      | (with_reducible refine u_X5_rims_1 (tx_mono _ _) ?_)
      | (with_reducible refine u_X5_rims_2 (tx_mono _ _) ?_)
      | (with_reducible refine u_X5_rims_3 (tx_mono _ _) ?_)
      | (with_reducible refine u_X5_rims_4 (tx_mono _ _) ?_)
      | (with_reducible refine u_X5_rims_5 (tx_mono _ _) ?_)
      | (with_reducible refine cI_i (e_X6_rims ?_))
      | (with_reducible refine cL_i (e_X6_rims ?_))
      | (with_reducible refine cV_i (e_X6_rims ?_))
      | (with_reducible refine u_X6_rims_1 (tx_mono _ _) ?_)
      | (with_reducible refine u_X6_rims_2 (tx_mono _ _) ?_)
      | (with_reducible refine u_X6_rims_3 (tx_mono _ _) ?_)
      | (with_reducible refine u_X6_rims_4 (tx_mono _ _) ?_)
      | (with_reducible refine u_X6_rims_5 (tx_mono _ _) ?_)
      | (with_reducible refine u_X6_rims_6 (tx_mono _ _) ?_)
      | (with_reducible apply s_X0_copyFrom)
      | (with_reducible apply s_X0_eatUp)
      | (with_reducible apply s_X5_bringsTold)
      | (with_reducible apply c_X5_refuse)
      | (with_reducible apply s_X6_areRims)
      | (with_reducible apply s_X6_open)
      | (with_reducible apply s_X6_putBack)
      | (with_reducible apply c_X6_refuse)
      | (with_reducible apply s_X6_supperNow)
      | exact isB1
      | exact True.intro
      | (intro _ e9; subst e9)
      | (intro c9; exfalso; first | omega | (simp only [inI, upI_e, Nat.reduceEqDiff, Nat.reduceAdd, true_and, and_true, false_and, and_false, if_true, if_false, ite_true, ite_false, reduceIte, Int.reduceEq, not_true_eq_false, not_false_eq_true, Decidable.not_not] at c9; omega))
      | (intro c9; (try simp only [inI, upI_e, Nat.reduceEqDiff, Nat.reduceAdd, true_and, and_true, false_and, and_false, if_true, if_false, ite_true, ite_false, reduceIte, Int.reduceEq, not_true_eq_false, not_false_eq_true, Decidable.not_not] at c9))
      | (with_reducible show _ ≤ _; first | omega | (simp only [inI, upI_e, Nat.reduceEqDiff, Nat.reduceAdd, true_and, and_true, false_and, and_false, if_true, if_false, ite_true, ite_false, reduceIte, Int.reduceEq, not_true_eq_false, not_false_eq_true, Decidable.not_not]; omega))
      | (with_reducible show _ < _; first | omega | (simp only [inI, upI_e, Nat.reduceEqDiff, Nat.reduceAdd, true_and, and_true, false_and, and_false, if_true, if_false, ite_true, ite_false, reduceIte, Int.reduceEq, not_true_eq_false, not_false_eq_true, Decidable.not_not]; omega))
      | (with_reducible show _ = _; first | omega | (simp only [inI, upI_e, Nat.reduceEqDiff, Nat.reduceAdd, true_and, and_true, false_and, and_false, if_true, if_false, ite_true, ite_false, reduceIte, Int.reduceEq, not_true_eq_false, not_false_eq_true, Decidable.not_not]; omega))
      | (with_reducible show _ ∧ _; first | omega | (simp only [inI, upI_e, Nat.reduceEqDiff, Nat.reduceAdd, true_and, and_true, false_and, and_false, if_true, if_false, ite_true, ite_false, reduceIte, Int.reduceEq, not_true_eq_false, not_false_eq_true, Decidable.not_not]; omega))
      | (with_reducible show _ ∨ _; first | omega | (simp only [inI, upI_e, Nat.reduceEqDiff, Nat.reduceAdd, true_and, and_true, false_and, and_false, if_true, if_false, ite_true, ite_false, reduceIte, Int.reduceEq, not_true_eq_false, not_false_eq_true, Decidable.not_not]; omega))
      | (with_reducible show inI _; first | omega | (simp only [inI, upI_e, Nat.reduceEqDiff, Nat.reduceAdd, true_and, and_true, false_and, and_false, if_true, if_false, ite_true, ite_false, reduceIte, Int.reduceEq, not_true_eq_false, not_false_eq_true, Decidable.not_not]; omega))
      | (with_reducible show ¬ _; first | omega | (simp only [inI, upI_e, Nat.reduceEqDiff, Nat.reduceAdd, true_and, and_true, false_and, and_false, if_true, if_false, ite_true, ite_false, reduceIte, Int.reduceEq, not_true_eq_false, not_false_eq_true, Decidable.not_not]; omega))
  have h7 : h.1 0 7 = h.1 1 3 := by omega
  have f1 : (fX h 1).1 1 = h.1 1 3 := rfl
  refine cI_i (e_X5_rims ⟨fun _ => by omega, fun _ => ⟨fun _ => u_X5_rims_2 (tx_mono _ _) (x_rims H.1.1 h7 (h.1 1 3).toNat 0 h (by omega) (Fx.rf H.2.1.1) (fun h1 F1 => ?_)), fun _ => by omega⟩⟩)
  have a1 := F1.e H
  refine cI_i (e_X6_rims ?_)
  intro h2 w2
  rw [w2]
  refine ⟨fun _ => by omega, fun _ => ⟨fun _ => u_X6_rims_2 (tx_mono _ _) (sm_open0 H F1 (fun h3 m3 G3 => m_rims H.1.1 (h.1 1 3).toNat 0 h3 (by omega) (by rw [m3]) G3 (fun h4 G4 m4 => fin2 H F1 G4 m4 ?_))), fun _ => by omega⟩⟩
  rw [bitsN_c (fun i hi => ?_)]
  refine eqN_c (fun j hj => ⟨rfl, ?_⟩)
  rw [show h1.1 64 (j : Int) = h.1 64 (j : Int) by rw [F1.1 64 (by omega)]]
  exact ((H.2.2.2.1.2.2.2 j (by omega) (by omega)).1).symm
