/-! ===== wins ===== -/
def piS (b : BD) : Nat → Int
  | 0 => 0
  | n + 1 => piS b n + b.2 7 n * pw n
theorem piS_n {b : BD} (hp : okP b) : piS b (b.1 6).toNat = b.2 7 0 + 13 * b.2 7 1 + 169 * b.2 7 2 + 2197 * b.2 7 3 := by
  have h0 := hp.2.2 0 (by decide) (by decide)
  have h1 := hp.2.2 1 (by decide) (by decide)
  have h2 := hp.2.2 2 (by decide) (by decide)
  have h3 := hp.2.2 3 (by decide) (by decide)
  have a0 := hp.1
  have a4 := hp.2.1
  generalize b.1 6 = n at *
  have p0 : pw 0 = 1 := rfl
  have p1 : pw 1 = 13 := rfl
  have p2 : pw 2 = 169 := rfl
  have p3 : pw 3 = 2197 := rfl
  rcases (show n = 0 ∨ n = 1 ∨ n = 2 ∨ n = 3 ∨ n = 4 by omega) with rfl | rfl | rfl | rfl | rfl
  · show (0 : Int) = _
    omega
  · show (0 : Int) + b.2 7 0 * 1 = _
    omega
  · show (0 : Int) + b.2 7 0 * 1 + b.2 7 1 * 13 = _
    omega
  · show (0 : Int) + b.2 7 0 * 1 + b.2 7 1 * 13 + b.2 7 2 * 169 = _
    omega
  · show (0 : Int) + b.2 7 0 * 1 + b.2 7 1 * 13 + b.2 7 2 * 169 + b.2 7 3 * 2197 = _
    omega
def stP (b : BD) : Int := piS b (b.1 6).toNat
theorem stP_d {b : BD} (hp : okP b) : 0 ≤ stP b ∧ stP b < 28561 ∧ ∀ i, 0 ≤ i → i < 4 → dgI (stP b) i = b.2 7 i := by
  have h0 := hp.2.2 0 (by decide) (by decide)
  have h1 := hp.2.2 1 (by decide) (by decide)
  have h2 := hp.2.2 2 (by decide) (by decide)
  have h3 := hp.2.2 3 (by decide) (by decide)
  have e := piS_n hp
  rw [show piS b (b.1 6).toNat = stP b from rfl] at e
  refine ⟨by omega, by omega, fun i i0 i4 => ?_⟩
  obtain ⟨v0, v1, v2, v3⟩ := dg_v (stP b)
  rcases four i0 i4 with rfl | rfl | rfl | rfl
  · rw [v0]; omega
  · rw [v1]; omega
  · rw [v2]; omega
  · rw [v3]; omega
theorem stP_m {b : BD} (hp : okP b) {mo : Int} {ll : Bool} {p t : Int} (p0 : 0 ≤ p) (p4 : p < 4) (t0 : 0 ≤ t) (tp : t ≤ b.2 7 p) : loS mo ll (stP b - t * pw p) = loH mo ll (fun i => b.2 7 i - (if i = p then t else 0)) := by
  obtain ⟨s0, s1, sd⟩ := stP_d hp
  obtain ⟨v0, v1, v2, v3⟩ := dg_mv s0 s1
  have d0 := sd 0 (by decide) (by decide)
  have d1 := sd 1 (by decide) (by decide)
  have d2 := sd 2 (by decide) (by decide)
  have d3 := sd 3 (by decide) (by decide)
  have dp := sd p p0 p4
  refine loH_c (fun i i0 i4 => ?_)
  rcases four p0 p4 with rfl | rfl | rfl | rfl
  · have w := v0 t t0 (by omega)
    rcases four i0 i4 with rfl | rfl | rfl | rfl <;> simp only [Int.reduceEq, if_true, if_false, reduceIte] <;> omega
  · have w := v1 t t0 (by omega)
    rcases four i0 i4 with rfl | rfl | rfl | rfl <;> simp only [Int.reduceEq, if_true, if_false, reduceIte] <;> omega
  · have w := v2 t t0 (by omega)
    rcases four i0 i4 with rfl | rfl | rfl | rfl <;> simp only [Int.reduceEq, if_true, if_false, reduceIte] <;> omega
  · have w := v3 t t0 (by omega)
    rcases four i0 i4 with rfl | rfl | rfl | rfl <;> simp only [Int.reduceEq, if_true, if_false, reduceIte] <;> omega
def fmT (P : Int → Bool) : Nat → Int → Int
  | 0, _ => 0
  | m + 1, t => if P t = true then t else fmT P m (t + 1)
def fmP (G : Int → Int) : Nat → Int → Int
  | 0, _ => -9
  | m + 1, p => if G p = 0 then fmP G m (p + 1) else 10 * p + G p
def fmG (b : BD) (ll : Bool) (p : Int) : Int := fmT (fun t => loS (b.1 4) ll (stP b - t * pw p)) (min (b.1 4) (b.2 7 p)).toNat 1
def wnV (b : BD) (a : Int) (ll : Bool) : Int := if a ≤ 1 then b2i (!(loS (b.1 4) ll (stP b))) else fmP (fmG b ll) (b.1 6).toNat 0
theorem fmT_b {P : Int → Bool} : ∀ (m : Nat) (t : Int), 1 ≤ t → fmT P m t = 0 ∨ (t ≤ fmT P m t ∧ fmT P m t < t + m) := by
  intro m
  induction m with
  | zero => intro t _; exact Or.inl rfl
  | succ m ih =>
    intro t t1
    rw [fmT]
    by_cases c : P t = true
    · rw [if_pos c]; omega
    · rw [if_neg c]
      have := ih (t + 1) (by omega)
      omega
theorem wins_rf {a : Int} {d : Nat} {n : Int} {h : AH} (n0 : 0 ≤ n) (n1 : n ≤ 1000) (H : Inv n h) (c : a < 0 ∨ 3 < a) : cI (tx mt (d + 30)) n_X5_wins [vR 0, vI a] h (fun z h1 => cI (tx mt (d + 30)) n_X6_wins [vR 38, vI a] h1 (fun z' h2 => z = z' ∧ Inv (n + 1) h2)) := by
  have fa := H.facts
  unfold Facts at fa
  repeat' first
    | first | exact H.m12 | exact H.rf (by decide) (by decide)
    | (with_reducible refine exI ?_)
    | (with_reducible refine exL ?_)
    | (with_reducible refine exV ?_)
    | (with_reducible apply And.intro)
    | (with_reducible refine cI_i (e_X5_wins ?_))
    | (with_reducible refine cL_i (e_X5_wins ?_))
    | (with_reducible refine cV_i (e_X5_wins ?_))
    | (with_reducible refine u_X5_wins_1 (tx_mono _ _) ?_)
    | (with_reducible refine u_X5_wins_2 (tx_mono _ _) ?_)
    | (with_reducible refine u_X5_wins_3 (tx_mono _ _) ?_)
    | (with_reducible refine u_X5_wins_4 (tx_mono _ _) ?_)
    | (with_reducible refine u_X5_wins_5 (tx_mono _ _) ?_)
    | (with_reducible refine u_X5_wins_6 (tx_mono _ _) ?_)
    | (with_reducible refine u_X5_wins_7 (tx_mono _ _) ?_)
    | (with_reducible refine u_X5_wins_8 (tx_mono _ _) ?_)
    | (with_reducible refine u_X5_wins_9 (tx_mono _ _) ?_)
    | (with_reducible refine u_X5_wins_10 (tx_mono _ _) ?_)
    | (with_reducible refine u_X5_wins_11 (tx_mono _ _) ?_)
    | (with_reducible refine u_X5_wins_12 (tx_mono _ _) ?_)
    | (with_reducible refine u_X5_wins_13 (tx_mono _ _) ?_)
    | (with_reducible refine cI_i (e_X6_wins ?_))
    | (with_reducible refine cL_i (e_X6_wins ?_))
    | (with_reducible refine cV_i (e_X6_wins ?_))
    | (with_reducible refine u_X6_wins_1 (tx_mono _ _) ?_)
    | (with_reducible refine u_X6_wins_2 (tx_mono _ _) ?_)
    | (with_reducible refine u_X6_wins_3 (tx_mono _ _) ?_)
    | (with_reducible refine u_X6_wins_4 (tx_mono _ _) ?_)
    | (with_reducible refine u_X6_wins_5 (tx_mono _ _) ?_)
    | (with_reducible refine u_X6_wins_6 (tx_mono _ _) ?_)
    | (with_reducible apply s_X1_moverLoses)
    | (with_reducible apply c_X5_refuse)
    | (with_reducible apply s_X6_firstMove)
    | (with_reducible apply c_X6_in)
    | (with_reducible apply s_X6_layWins)
    | (with_reducible apply s_X6_pileState)
    | (with_reducible apply c_X6_refuse)
    | exact isB1
    | exact True.intro
    | (intro _ e9; subst e9)
    | (intro c9; exfalso; first | omega | (simp only [inI, inL, upI_e, Nat.reduceEqDiff, Nat.reduceAdd, true_and, and_true, false_and, and_false, if_true, if_false, ite_true, ite_false, reduceIte, Int.reduceEq, not_true_eq_false, not_false_eq_true, Decidable.not_not] at c9; omega))
    | (intro c9; (try simp only [inI, inL, upI_e, Nat.reduceEqDiff, Nat.reduceAdd, true_and, and_true, false_and, and_false, if_true, if_false, ite_true, ite_false, reduceIte, Int.reduceEq, not_true_eq_false, not_false_eq_true, Decidable.not_not] at c9))
    | (with_reducible show _ ≤ _; first | omega | (simp only [inI, inL, upI_e, Nat.reduceEqDiff, Nat.reduceAdd, true_and, and_true, false_and, and_false, if_true, if_false, ite_true, ite_false, reduceIte, Int.reduceEq, not_true_eq_false, not_false_eq_true, Decidable.not_not]; omega))
    | (with_reducible show _ < _; first | omega | (simp only [inI, inL, upI_e, Nat.reduceEqDiff, Nat.reduceAdd, true_and, and_true, false_and, and_false, if_true, if_false, ite_true, ite_false, reduceIte, Int.reduceEq, not_true_eq_false, not_false_eq_true, Decidable.not_not]; omega))
    | (with_reducible show _ = _; first | omega | (simp only [inI, inL, upI_e, Nat.reduceEqDiff, Nat.reduceAdd, true_and, and_true, false_and, and_false, if_true, if_false, ite_true, ite_false, reduceIte, Int.reduceEq, not_true_eq_false, not_false_eq_true, Decidable.not_not]; omega))
    | (with_reducible show _ ∧ _; first | omega | (simp only [inI, inL, upI_e, Nat.reduceEqDiff, Nat.reduceAdd, true_and, and_true, false_and, and_false, if_true, if_false, ite_true, ite_false, reduceIte, Int.reduceEq, not_true_eq_false, not_false_eq_true, Decidable.not_not]; omega))
    | (with_reducible show _ ∨ _; first | omega | (simp only [inI, inL, upI_e, Nat.reduceEqDiff, Nat.reduceAdd, true_and, and_true, false_and, and_false, if_true, if_false, ite_true, ite_false, reduceIte, Int.reduceEq, not_true_eq_false, not_false_eq_true, Decidable.not_not]; omega))
    | (with_reducible show inI _; first | omega | (simp only [inI, inL, upI_e, Nat.reduceEqDiff, Nat.reduceAdd, true_and, and_true, false_and, and_false, if_true, if_false, ite_true, ite_false, reduceIte, Int.reduceEq, not_true_eq_false, not_false_eq_true, Decidable.not_not]; omega))
    | (with_reducible show inL _; first | omega | (simp only [inI, inL, upI_e, Nat.reduceEqDiff, Nat.reduceAdd, true_and, and_true, false_and, and_false, if_true, if_false, ite_true, ite_false, reduceIte, Int.reduceEq, not_true_eq_false, not_false_eq_true, Decidable.not_not]; omega))
    | (with_reducible show ¬ _; first | omega | (simp only [inI, inL, upI_e, Nat.reduceEqDiff, Nat.reduceAdd, true_and, and_true, false_and, and_false, if_true, if_false, ite_true, ite_false, reduceIte, Int.reduceEq, not_true_eq_false, not_false_eq_true, Decidable.not_not]; omega))
theorem x_wins {d : Nat} {a : Int} {ll : Bool} {h : AH} {K : Int → AH → Prop} (hs : okS (fX h 1)) (hp : okP (fX h 1)) (a0 : 0 ≤ a) (q : K (wnV (fX h 1) a ll) h) : Bx z0 0 (tx mt (d + 29)) k_X5_wins (fun r h' => ∃ z, r = some (.inl z) ∧ K z h') 5 [some (vR 0), some (vI a), none, none, none, none] [vI (b2i ll)] h := by
  have m1 : 1 ≤ h.1 1 10 := hs.2.2.2.2.1
  have m6 : h.1 1 10 ≤ 6 := hs.2.2.2.2.2.1
  have p0 : 0 ≤ h.1 1 12 := hp.1
  have p4 : h.1 1 12 ≤ 4 := hp.2.1
  have e4 : (fX h 1).1 4 = h.1 1 10 := rfl
  have e6 : (fX h 1).1 6 = h.1 1 12 := rfl
  have e7 : ∀ i, (fX h 1).2 7 i = h.1 8 i := fun _ => rfl
  have pz := hp.2.2
  rw [e6] at pz
  have nx : ∀ (k : Nat) (p : Int), p + k = h.1 1 12 → 0 ≤ p → K (fmP (fmG (fX h 1) ll) k p) h → ∀ x4 x5, Bx z0 0 (tx mt (d + 29)) k_X5_wins (fun r h' => ∃ z, r = some (.inl z) ∧ K z h') 9 [some (vR 0), none, some (vI ((b2i ll))), some (vI p), x4, x5] [] h := by
    intro k
    induction k with
    | zero =>
      intro p pk p0 q x4 x5
      exact u_X5_wins_9 (tx_mono _ _) ⟨fun _ => u_X5_wins_13 (tx_mono _ _) (exI q), fun c => by omega⟩
    | succ k ih =>
      intro p pk p0 q x4 x5
      have bp := pz p p0 (by omega)
      rw [e7] at bp
      have lp : ∀ (m : Nat) (t : Int), t + m = min (h.1 1 10) (h.1 8 p) + 1 → 1 ≤ t → K (if fmT (fun t => loS (h.1 1 10) ll (stP (fX h 1) - t * pw p)) m t = 0 then fmP (fmG (fX h 1) ll) k (p + 1) else 10 * p + fmT (fun t => loS (h.1 1 10) ll (stP (fX h 1) - t * pw p)) m t) h → Bx z0 0 (tx mt (d + 29)) k_X5_wins (fun r h' => ∃ z, r = some (.inl z) ∧ K z h') 10 [some (vR 0), none, some (vI ((b2i ll))), some (vI p), some (vI ((min (h.1 1 10) (h.1 8 p)))), some (vI t)] [] h := by
        intro m
        induction m with
        | zero =>
          intro t tm t1 q
          rw [fmT, if_pos rfl] at q
          exact u_X5_wins_10 (tx_mono _ _) ⟨fun _ => u_X5_wins_12 (tx_mono _ _) ⟨⟨by omega, by omega⟩, ih (p + 1) (by omega) (by omega) q _ _⟩, fun c => by omega⟩
        | succ m iht =>
          intro t tm t1 q
          rw [fmT] at q
          refine u_X5_wins_10 (tx_mono _ _) ⟨fun c => by omega, fun _ => s_X1_moverLoses (f := fun i => (fX h 1).2 7 i - (if i = p then t else 0)) hs hp (fun i _ _ => rfl) (fun i i0 i4 => ?_) (fun i i0 i4 => ?_) ?_⟩
          · have := pz i i0 i4
            simp only [e7] at this ⊢
            by_cases c : i = p
            · subst c; rw [if_pos rfl]; omega
            · rw [if_neg c]; omega
          · have := pz i (by omega) i4
            simp only [e7] at this ⊢
            rw [if_neg (by omega)]
            omega
          · rw [← stP_m hp p0 (by omega) (by omega) (by rw [e7]; omega)]
            refine ⟨fun c => u_X5_wins_11 (tx_mono _ _) ⟨⟨by omega, by omega⟩, iht (t + 1) (by omega) (by omega) ?_⟩, fun c => ⟨⟨by omega, by omega⟩, ⟨by omega, by omega⟩, ?_⟩⟩
            · rw [if_neg (by rw [b2i_z c]; decide : ¬ loS (h.1 1 10) ll (stP (fX h 1) - t * pw p) = true)] at q
              exact q
            · rw [if_pos (b2i_o c : loS (h.1 1 10) ll (stP (fX h 1) - t * pw p) = true), if_neg (by omega)] at q
              exact exI q
      rw [fmP] at q
      exact u_X5_wins_9 (tx_mono _ _) ⟨fun c => by omega, fun _ => ⟨p0, by omega, lp (min (h.1 1 10) (h.1 8 p)).toNat 1 (by omega) (by decide) q⟩⟩
  rw [wnV] at q
  refine u_X5_wins_5 (tx_mono _ _) ⟨fun c => u_X5_wins_8 (tx_mono _ _) (nx (h.1 1 12).toNat 0 (by omega) (by decide) (by rw [if_neg (by omega)] at q; exact q) _ _), fun c => s_X1_moverLoses (f := fun i => (fX h 1).2 7 i) hs hp (fun i i0 _ => by rw [if_neg (by omega), e7, Int.sub_zero]) (fun i i0 i4 => by have := pz i i0 i4; show 0 ≤ (fX h 1).2 7 i ∧ (fX h 1).2 7 i ≤ 12; omega) (fun i i0 i4 => (pz i (by omega) i4).2.2 i0) ?_⟩
  have el : loH (h.1 1 10) ll (fun i => (fX h 1).2 7 i) = loS (h.1 1 10) ll (stP (fX h 1)) := loH_c (fun i i0 i4 => ((stP_d hp).2.2 i i0 i4).symm)
  rw [el]
  rw [if_pos (by omega), e4] at q
  refine ⟨fun c => u_X5_wins_6 (tx_mono _ _) (u_X5_wins_7 (tx_mono _ _) (exI ?_)), fun c => u_X5_wins_7 (tx_mono _ _) (exI ?_)⟩
  · rw [b2i_z c] at q
    exact q
  · rw [b2i_o c] at q
    exact q
theorem s_X6_pileState {d : Nat} {h : AH} {K : Int → AH → Prop} (hp : okP (fM h)) (q : K (stP (fM h)) h) : cI (tx mt (d + 2)) n_X6_pileState [vR 38] h K := by
  have p0 : 0 ≤ h.1 38 39 := hp.1
  have p4 : h.1 38 39 ≤ 4 := hp.2.1
  have e6 : (fM h).1 6 = h.1 38 39 := rfl
  have pz := hp.2.2
  have bd : ∀ n : Nat, n ≤ 4 → 0 ≤ piS (fM h) n ∧ piS (fM h) n ≤ n * 30000 := by
    intro n
    induction n with
    | zero => intro _; exact ⟨Int.le_refl (0 : Int), Int.le_refl (0 : Int)⟩
    | succ n ih =>
      intro n4
      have h1 := ih (by omega)
      have h2 := pz (n : Int) (by omega) (by omega)
      have h3 := pw_b (p := (n : Int)) (by omega) (by omega)
      have h4 : 0 ≤ (fM h).2 7 n * pw n := Int.mul_nonneg h2.1 (by omega)
      have h5 : (fM h).2 7 n * pw n ≤ 12 * 2197 := Int.mul_le_mul h2.2.1 h3.2 (by omega) (by decide)
      rw [piS]
      omega
  have key : ∀ (m i : Nat), i + m = (h.1 38 39).toNat → Bx z0 0 (tx mt (d+1)) k_X6_pileState (fun r h' => ∃ z, r = some (.inl z) ∧ K z h') 1 [some (vR 38), some (vI ((piS (fM h) i))), some (vI ((i : Int)))] [] h := by
    intro m
    induction m with
    | zero =>
      intro i im
      have e : piS (fM h) i = stP (fM h) := by rw [stP, e6, show i = (h.1 38 39).toNat by omega]
      exact u_X6_pileState_1 (tx_mono _ _) ⟨fun _ => u_X6_pileState_2 (tx_mono _ _) (exI (by rw [e]; exact q)), fun c => by omega⟩
    | succ m ih =>
      intro i im
      have b1 := bd i (by omega)
      have b2 := bd (i + 1) (by omega)
      have nx := ih (i + 1) (by omega)
      have e7 : (fM h).2 7 i = h.1 61 i := rfl
      rw [piS, e7] at b2 nx
      exact u_X6_pileState_1 (tx_mono _ _) ⟨fun c => by omega, fun _ => ⟨by omega, by omega, s_X6_placeOf (by omega) (by omega) ⟨⟨by omega, by omega⟩, ⟨by omega, by omega⟩, ⟨by omega, by omega⟩, nx⟩⟩⟩
  exact cI_i (e_X6_pileState (key (h.1 38 39).toNat 0 (by omega)))
theorem s_X6_firstMove {d : Nat} {ll : Bool} {h : AH} {K : Int → AH → Prop} (hs : okS (fM h)) (hp : okP (fM h)) (hc : ∀ j, 0 ≤ j → j < 28561 → h.1 62 j = b2i (!(loS (h.1 38 4) ll j))) (q : K (fmP (fmG (fM h) ll) (h.1 38 39).toNat 0) h) : cI (tx mt (d + 3)) n_X6_firstMove [vR 38] h K := by
  have m1 : 1 ≤ h.1 38 4 := hs.2.2.2.2.1
  have m6 : h.1 38 4 ≤ 6 := hs.2.2.2.2.2.1
  have p0 : 0 ≤ h.1 38 39 := hp.1
  have p4 : h.1 38 39 ≤ 4 := hp.2.1
  have e6 : (fM h).1 6 = h.1 38 39 := rfl
  have e7 : ∀ i, (fM h).2 7 i = h.1 61 i := fun _ => rfl
  have pz := hp.2.2
  obtain ⟨s0, s1, sd⟩ := stP_d hp
  have nx : ∀ (k : Nat) (p : Int) (x : Option AV), p + k = h.1 38 39 → 0 ≤ p → K (fmP (fmG (fM h) ll) k p) h → Bx z0 0 (tx mt (d+2)) k_X6_firstMove (fun r h' => ∃ z, r = some (.inl z) ∧ K z h') 1 [some (vR 38), some (vI p), x] [] h := by
    intro k
    induction k with
    | zero =>
      intro p x pk p0 q
      exact u_X6_firstMove_1 (tx_mono _ _) ⟨fun _ => u_X6_firstMove_5 (tx_mono _ _) (exI q), fun c => by omega⟩
    | succ k ih =>
      intro p x pk p0 q
      have bp := pz p p0 (by omega)
      rw [e7] at bp
      have dp := sd p p0 (by omega)
      rw [e7] at dp
      have lp : ∀ (m : Nat) (t : Int), t + m = min (h.1 38 4) (h.1 61 p) + 1 → 1 ≤ t → K (if fmT (fun t => loS (h.1 38 4) ll (stP (fM h) - t * pw p)) m t = 0 then fmP (fmG (fM h) ll) k (p + 1) else 10 * p + fmT (fun t => loS (h.1 38 4) ll (stP (fM h) - t * pw p)) m t) h → Bx z0 0 (tx mt (d+2)) k_X6_firstMove (fun r h' => ∃ z, r = some (.inl z) ∧ K z h') 2 [some (vR 38), some (vI p), some (vI t)] [] h := by
        intro m
        induction m with
        | zero =>
          intro t tm t1 q
          rw [fmT, if_pos rfl] at q
          exact u_X6_firstMove_2 (tx_mono _ _) ⟨fun _ => u_X6_firstMove_4 (tx_mono _ _) ⟨⟨by omega, by omega⟩, ih (p + 1) _ (by omega) (by omega) q⟩, fun c => ⟨p0, by omega, fun _ => u_X6_firstMove_4 (tx_mono _ _) ⟨⟨by omega, by omega⟩, ih (p + 1) _ (by omega) (by omega) q⟩, fun c => by omega⟩⟩
        | succ m iht =>
          intro t tm t1 q
          rw [fmT] at q
          have le := dg_le (t := t) s0 s1 p0 (by omega) t1 (by omega)
          have hw := hc (stP (fM h) - t * pw p) (by omega) (by omega)
          refine u_X6_firstMove_2 (tx_mono _ _) ⟨fun c => by omega, fun _ => ⟨p0, by omega, fun c => by omega, fun _ => s_X6_pileState hp (s_X6_placeOf p0 (by omega) ⟨⟨by omega, by omega⟩, ⟨by omega, by omega⟩, by omega, by omega, fun c => u_X6_firstMove_3 (tx_mono _ _) ⟨⟨by omega, by omega⟩, iht (t + 1) (by omega) (by omega) ?_⟩, fun c => ⟨⟨by omega, by omega⟩, ⟨by omega, by omega⟩, ?_⟩⟩)⟩⟩
          · rw [hw] at c
            have c2 := b2i_o c
            have c3 : loS (h.1 38 4) ll (stP (fM h) - t * pw p) = false := by simpa using c2
            rw [if_neg (by rw [c3]; decide : ¬ loS (h.1 38 4) ll (stP (fM h) - t * pw p) = true)] at q
            exact q
          · rw [hw] at c
            have c2 : loS (h.1 38 4) ll (stP (fM h) - t * pw p) = true := by simpa using b2i_z (by omega : b2i (!(loS (h.1 38 4) ll (stP (fM h) - t * pw p))) = 0)
            rw [if_pos c2, if_neg (by omega)] at q
            exact exI q
      rw [fmP] at q
      exact u_X6_firstMove_1 (tx_mono _ _) ⟨fun c => by omega, fun _ => lp (min (h.1 38 4) (h.1 61 p)).toNat 1 (by omega) (by decide) q⟩
  exact cI_i (e_X6_firstMove (nx (h.1 38 39).toNat 0 _ (by omega) (by decide) q))
theorem m_wins {d : Nat} {a : Int} {ll : Bool} {h : AH} {K : Int → AH → Prop} (hs : okS (fM h)) (hp : okP (fM h)) (q : ∀ h1, Gx 62 62 h h1 → K (wnV (fM h) a ll) h1) : Bx z0 0 (tx mt (d + 29)) k_X6_wins (fun r h' => ∃ z, r = some (.inl z) ∧ K z h') 3 [some (vR 38), some (vI a)] [vI (b2i ll), vR 38] h := by
  refine u_X6_wins_3 (tx_mono _ _) (s_X6_layWins hs.2.2.2.2.1 hs.2.2.2.2.2.1 (fun h1 G hc => ?_))
  have q := q h1 G
  have m1 : fM h1 = fM h := G.M (by decide) (by decide)
  have c38 : h1.1 38 = h.1 38 := G 38 (by decide) (by decide)
  rw [wnV, ← m1] at q
  rw [← m1] at hs hp
  rw [← c38] at hc
  obtain ⟨s0, s1, sd⟩ := stP_d hp
  refine ⟨fun c => u_X6_wins_4 (tx_mono _ _) (s_X6_pileState hp ⟨s0, s1, ?_⟩), fun c => s_X6_firstMove hs hp hc (u_X6_wins_6 (tx_mono _ _) (exI ?_))⟩
  · rw [hc _ s0 s1]
    rw [if_pos c] at q
    have q : K (b2i (!(loS (h1.1 38 4) ll (stP (fM h1))))) h1 := q
    refine ⟨fun c2 => u_X6_wins_5 (tx_mono _ _) (u_X6_wins_6 (tx_mono _ _) (exI ?_)), fun c2 => u_X6_wins_6 (tx_mono _ _) (exI ?_)⟩
    · rw [c2] at q
      exact q
    · have := b2i_01 (!(loS (h1.1 38 4) ll (stP (fM h1))))
      rw [show b2i (!(loS (h1.1 38 4) ll (stP (fM h1)))) = 1 by omega] at q
      exact q
  · rw [if_neg c] at q
    exact q
theorem op_wins {a : Int} : OpI n_X5_wins n_X6_wins [vI a] := by
  intro d n h n0 n1 H
  have fa := H.facts
  unfold Facts at fa
  obtain ⟨oR, oE, oS, oP, oZ, mE, mR, mEa, mS, mZ⟩ := H.ok
  by_cases c : a < 0 ∨ 3 < a
  · exact wins_rf n0 n1 H c
  have mS' : okS (fM (upI h 38 12 0)) := by rw [mE]; exact oS
  have mP' : okP (fM (upI h 38 12 0)) := by rw [mE]; exact oP
  have ref : ∀ ll : Bool, (ll = true ↔ a % 2 = 1) → cI (tx mt (d + 30)) n_X6_wins [vR 38, vI a] h (fun z' h2 => wnV (fX h 1) a ll = z' ∧ Inv (n + 1) h2) := by
    intro ll hl
    refine cI_i (e_X6_wins (fun h1 w1 => c_X6_in (fun _ => ⟨fun _ => ?_, fun y => absurd (by decide) y⟩) (fun y => by omega)))
    subst w1
    have q := m_wins (d := d) (a := a) (ll := ll) (K := fun z' h2 => wnV (fX h 1) a ll = z' ∧ Inv (n + 1) h2) mS' mP' (fun h1 G => ⟨by rw [mE], H.scr (fun c _ _ _ _ e _ => G c e e)⟩)
    refine u_X6_wins_1 (tx_mono _ _) ⟨by omega, by decide, fun c => u_X6_wins_2 (tx_mono _ _) ?_, fun c => ?_⟩
    · obtain rfl : ll = false := by cases ll with
        | false => rfl
        | true => exact absurd (hl.mp rfl) c
      exact q
    · obtain rfl : ll = true := hl.mpr (by omega)
      exact q
  refine cI_i (e_X5_wins ⟨fun y => by omega, fun _ => ⟨fun _ => u_X5_wins_2 (tx_mono _ _) ⟨fun c => u_X5_wins_3 (tx_mono _ _) (x_wins (ll := true) oS oP (by omega) (ref true ⟨fun _ => by omega, fun _ => rfl⟩)), fun c => ⟨fun c2 => u_X5_wins_4 (tx_mono _ _) (x_wins (ll := false) oS oP (by omega) (ref false ⟨fun y => absurd y (by decide), fun y => by omega⟩)), fun c2 => u_X5_wins_3 (tx_mono _ _) (x_wins (ll := true) oS oP (by omega) (ref true ⟨fun _ => by omega, fun _ => rfl⟩))⟩⟩, fun y => by omega⟩⟩)
