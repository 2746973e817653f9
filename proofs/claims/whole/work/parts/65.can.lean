/-! ===== can ===== -/
theorem s_X6_canAll {d : Nat} {z : Int} {h : AH} {K : Int → AH → Prop} (hr : okR (fM h)) (he : okE (fM h)) (f0 : 0 ≤ h.1 38 2) (f60 : h.1 38 2 ≤ 60) (y0 : 0 ≤ z) (q : ∀ h1, h1.1 = h.1 → K (b2i (caV (fM h) z)) h1) : cI (tx mt (d + 5)) n_X6_canAll [vR 38, vI z] h K := by
  have e0 : 0 ≤ h.1 38 1 := he.1
  have e4 : h.1 38 1 ≤ 4 := he.2.1
  have ev : caV (fM h) z = decide (0 < wW (caP (fM h) z) 1 (h.1 38 1).toNat (h.1 38 2)) := rfl
  rw [ev] at q
  have key : ∀ (m i : Nat) (h' : AH), i + m = (h.1 38 1).toNat → h'.1 = h.1 → (∀ j, 0 ≤ j → j ≤ h.1 38 2 → h'.2.1 55 j = wW (caP (fM h) z) 1 i j) → Bx z0 0 (tx mt (d+4)) k_X6_canAll (fun r h' => ∃ z, r = some (.inl z) ∧ K z h') 1 [some (vR 38), some (vI z), some (vI ((i : Int)))] [] h' := by
    intro m
    induction m with
    | zero =>
      intro i h' im e hc
      have q := q h' e
      refine u_X6_canAll_1 (tx_mono _ _) ⟨fun _ => u_X6_canAll_4 (tx_mono _ _) ?_, fun c => by rw [e] at c; omega⟩
      rw [e, hc _ f0 (Int.le_refl _), lcz_le, show i = (h.1 38 1).toNat by omega]
      refine ⟨f0, by omega, fun c => u_X6_canAll_5 (tx_mono _ _) (u_X6_canAll_6 (tx_mono _ _) ⟨Or.inl rfl, exI ?_⟩), fun c => u_X6_canAll_6 (tx_mono _ _) ⟨Or.inr rfl, exI ?_⟩⟩
      · rw [decide_eq_false (by omega)] at q
        exact q
      · rw [decide_eq_true (by omega)] at q
        exact q
    | succ m ih =>
      intro i h' im e hc
      have mm : fM h' = fM h := fM_1 e
      have g : ∀ w, w = (if bt z i = true then (1 : Int) else 0) → Bx z0 0 (tx mt (d+4)) k_X6_canAll (fun r h' => ∃ z, r = some (.inl z) ∧ K z h') 3 [some (vR 38), some (vI z), some (vI ((i : Int)))] [vI w, vI (i : Int), vR 38] h' := by
        intro w ew
        refine u_X6_canAll_3 (tx_mono _ _) (s_X6_eatsToo (g := wW (caP (fM h) z) 1 i) (by rw [mm]; exact hr) (by rw [mm]; exact he) (by rw [e]; omega) (by rw [e]; omega) (by rw [e]; omega) (by decide) (by decide) (fun j a b => ⟨hc j a (by rw [e] at b; omega), wW_b4 (by decide) (by omega) j⟩) (fun h3 e3 hc3 => ⟨⟨by omega, by omega⟩, ih (i + 1) h3 (by omega) (by rw [e3, e]) (fun j a b => ?_)⟩))
        rw [hc3 j a (by rw [e]; omega), mm, ew]
        rfl
      refine u_X6_canAll_1 (tx_mono _ _) ⟨fun c => by rw [e] at c; omega, fun _ => ⟨y0, by omega, by omega, Int.ediv_nonneg y0 (Int.le_of_lt (Int.pow_pos (by decide))), by decide, ?_⟩⟩
      rw [bt_v]
      exact ⟨fun c => u_X6_canAll_2 (tx_mono _ _) (g 0 (by rw [if_neg c])), fun c => g 1 (by rw [if_pos (Decidable.not_not.mp c)])⟩
  exact cI_i (e_X6_canAll (s_X6_beginWays (P := caP (fM h) z) (s := 1) (fun h3 e3 hc => key (h.1 38 1).toNat 0 h3 (by omega) e3 (fun j a b => hc j a (by omega)))))
set_option maxHeartbeats 8000000 in
theorem can_rf {a : Int} {d : Nat} {n : Int} {h : AH} (n0 : 0 ≤ n) (n1 : n ≤ 1000) (H : Inv n h) (c : (a < 0 ∨ 1 < a) ∨ h.1 1 3 = 0 ∨ h.1 1 0 = 0) : cI (tx mt (d + 30)) n_X5_can [vR 0, vI a] h (fun z h1 => cI (tx mt (d + 30)) n_X6_can [vR 38, vI a] h1 (fun z' h2 => z = z' ∧ Inv (n + 1) h2)) := by
  have fa := H.facts
  unfold Facts at fa
  repeat' first
    | first | exact H.m12 | exact H.rf (by decide) (by decide)
    | (with_reducible refine exI ?_)
    | (with_reducible refine exL ?_)
    | (with_reducible refine exV ?_)
    | (with_reducible apply And.intro)
    | (with_reducible refine cI_i (e_X5_can ?_))
    | (with_reducible refine cL_i (e_X5_can ?_))
    | (with_reducible refine cV_i (e_X5_can ?_))
    | (with_reducible refine u_X5_can_1 (tx_mono _ _) ?_)
    | (with_reducible refine u_X5_can_2 (tx_mono _ _) ?_)
    | (with_reducible refine u_X5_can_3 (tx_mono _ _) ?_)
    | (with_reducible refine u_X5_can_4 (tx_mono _ _) ?_)
    | (with_reducible refine u_X5_can_5 (tx_mono _ _) ?_)
    | (with_reducible refine u_X5_can_6 (tx_mono _ _) ?_)
    | (with_reducible refine u_X5_can_7 (tx_mono _ _) ?_)
    | (with_reducible refine u_X5_can_8 (tx_mono _ _) ?_)
    | (with_reducible refine cI_i (e_X6_can ?_))
    | (with_reducible refine cL_i (e_X6_can ?_))
    | (with_reducible refine cV_i (e_X6_can ?_))
    | (with_reducible refine u_X6_can_1 (tx_mono _ _) ?_)
    | (with_reducible refine u_X6_can_2 (tx_mono _ _) ?_)
    | (with_reducible refine u_X6_can_3 (tx_mono _ _) ?_)
    | (with_reducible refine u_X6_can_4 (tx_mono _ _) ?_)
    | (with_reducible refine u_X6_can_5 (tx_mono _ _) ?_)
    | (with_reducible refine u_X6_can_6 (tx_mono _ _) ?_)
    | (with_reducible refine u_X6_can_7 (tx_mono _ _) ?_)
    | (with_reducible apply s_J6_bitCount_0f7a4)
    | (with_reducible apply s_X4_canPlease)
    | (with_reducible apply c_X5_refuse)
    | (with_reducible apply s_X6_canAll)
    | (with_reducible apply s_X6_ones)
    | (with_reducible apply c_X6_refuse)
    | (with_reducible apply c_X6_wrongShare)
    | exact isB1
    | exact True.intro
    | (intro _ e9; subst e9)
    | (intro c9; exfalso; first | omega | (simp only [inI, inL, upI_e, Nat.reduceEqDiff, Nat.reduceAdd, true_and, and_true, false_and, and_false, if_true, if_false, ite_true, ite_false, reduceIte, Int.reduceEq, not_true_eq_false, not_false_eq_true, Decidable.not_not] at c9; omega))
    | (intro c9; (try simp only [inI, inL, upI_e, Nat.reduceEqDiff, Nat.reduceAdd, true_and, and_true, false_and, and_false, if_true, if_false, ite_true, ite_false, reduceIte, Int.reduceEq, not_true_eq_false, not_false_eq_true, Decidable.not_not] at c9))
    | (with_reducible show _ ≤ _; first | omega | (simp only [inI, inL, upI_e, Nat.reduceEqDiff, Nat.reduceAdd, true_and, and_true, false_and, and_false, if_true, if_false, ite_true, ite_false, reduceIte, Int.reduceEq, not_true_eq_false, not_false_eq_true, Decidable.not_not]; omega))
    | (with_reducible show _ < _; first | omega | (simp only [inI, inL, upI_e, Nat.reduceEqDiff, Nat.reduceAdd, true_and, and_true, false_and, and_false, if_true, if_false, ite_true, ite_false, reduceIte, Int.reduceEq, not_true_eq_false, not_false_eq_true, Decidable.not_not]; omega))
    | (with_reducible show _ = _; first | omega | (simp only [inI, inL, upI_e, Nat.reduceEqDiff, Nat.reduceAdd, true_and, and_true, false_and, and_false, if_true, if_false, ite_true, ite_false, reduceIte, Int.reduceEq, not_true_eq_false, not_false_eq_true, Decidable.not_not]; omega))
    | (with_reducible show _ ∧ _; first | omega | (simp only [inI, inL, upI_e, Nat.reduceEqDiff, Nat.reduceAdd, true_and, and_true, false_and, and_false, if_true, if_false, ite_true, ite_false, reduceIte, Int.reduceEq, not_true_eq_false, not_false_eq_true, Decidable.not_not]; omega))
    | (with_reducible show _ ∨ _; first | omega | (simp only [inI, inL, upI_e, Nat.reduceEqDiff, Nat.reduceAdd, true_and, and_true, false_and, and_false, if_true, if_false, ite_true, ite_false, reduceIte, Int.reduceEq, not_true_eq_false, not_false_eq_true, Decidable.not_not]; omega))
    | (with_reducible show inI _; first | omega | (simp only [inI, inL, upI_e, Nat.reduceEqDiff, Nat.reduceAdd, true_and, and_true, false_and, and_false, if_true, if_false, ite_true, ite_false, reduceIte, Int.reduceEq, not_true_eq_false, not_false_eq_true, Decidable.not_not]; omega))
    | (with_reducible show inL _; first | omega | (simp only [inI, inL, upI_e, Nat.reduceEqDiff, Nat.reduceAdd, true_and, and_true, false_and, and_false, if_true, if_false, ite_true, ite_false, reduceIte, Int.reduceEq, not_true_eq_false, not_false_eq_true, Decidable.not_not]; omega))
    | (with_reducible show ¬ _; first | omega | (simp only [inI, inL, upI_e, Nat.reduceEqDiff, Nat.reduceAdd, true_and, and_true, false_and, and_false, if_true, if_false, ite_true, ite_false, reduceIte, Int.reduceEq, not_true_eq_false, not_false_eq_true, Decidable.not_not]; omega))
def caF (b : BD) : Nat → Int → Int → Int
  | 0, _, s => s
  | m + 1, k, s => caF b m (k + 1) (if pop k ≤ pop s then s else if caV b k = true then k else s)
theorem x_can {d : Nat} {a : Int} {h : AH} {K : Int → AH → Prop} (hr : okR (fX h 1)) (he : okE (fX h 1)) (f0 : 0 ≤ h.1 1 8) (f60 : h.1 1 8 ≤ 60) : ∀ (m : Nat) (k s : Int) (h' : AH) (x6 : Option AV), k + m = ((2 ^ (h.1 1 3).toNat : Nat) : Int) → 1 ≤ k → 0 ≤ s → s < 16 → h'.1 = h.1 → (∀ h1, h1.1 = h.1 → K (if a = 0 then pop (caF (fX h 1) m k s) else caF (fX h 1) m k s) h1) → Bx z0 0 (tx mt (d + 29)) k_X5_can (fun r h' => ∃ z, r = some (.inl z) ∧ K z h') 4 [some (vR 0), some (vI a), some (vI s), some (vI ((pop s))), some (vI (((2 ^ (h.1 1 3).toNat : Nat) : Int))), some (vI k), x6] [] h' := by
  have e0 : 0 ≤ h.1 1 3 := he.1
  have e4 : h.1 1 3 ≤ 4 := he.2.1
  have E4 : (h.1 1 3).toNat ≤ 4 := by omega
  have p16 : 1 ≤ 2 ^ (h.1 1 3).toNat ∧ 2 ^ (h.1 1 3).toNat ≤ 16 := ⟨Nat.one_le_two_pow, Nat.pow_le_pow_right (by decide) E4⟩
  generalize hN : 2 ^ (h.1 1 3).toNat = N at p16 ⊢
  intro m
  induction m with
  | zero =>
    intro k s h' x6 km k1 s0 s16 e q
    have q := q h' e
    rw [caF] at q
    refine u_X5_can_4 (tx_mono _ _) ⟨fun _ => u_X5_can_6 (tx_mono _ _) ⟨fun c => u_X5_can_7 (tx_mono _ _) (u_X5_can_8 (tx_mono _ _) (exI ?_)), fun c => u_X5_can_8 (tx_mono _ _) (exI ?_)⟩, fun c => by omega⟩
    · rw [if_neg c] at q
      exact q
    · rw [if_pos (by omega)] at q
      exact q
  | succ m ih =>
    intro k s h' x6 km k1 s0 s16 e q
    have x1 : fX h' 1 = fX h 1 := fX_1 e 1
    rw [caF] at q
    refine u_X5_can_4 (tx_mono _ _) ⟨fun c => by omega, fun _ => s_J6_bitCount_0f7a4 (by omega) (by omega) ⟨fun c => u_X5_can_5 (tx_mono _ _) ⟨⟨by omega, by omega⟩, ih (k + 1) s h' _ (by omega) (by omega) s0 s16 e ?_⟩, fun c => s_X4_canPlease (by rw [x1]; exact hr) (by rw [x1]; exact he) (by rw [e]; exact f0) (by rw [e]; exact f60) (by omega) (by rw [e, hN]; omega) (fun h1 e1 => ⟨fun c2 => u_X5_can_5 (tx_mono _ _) ⟨⟨by omega, by omega⟩, ih (k + 1) s h1 _ (by omega) (by omega) s0 s16 (by rw [e1, e]) ?_⟩, fun c2 => u_X5_can_5 (tx_mono _ _) ⟨⟨by omega, by omega⟩, ih (k + 1) k h1 _ (by omega) (by omega) (by omega) (by omega) (by rw [e1, e]) ?_⟩⟩)⟩⟩
    · rw [if_pos c] at q
      exact q
    · rw [x1] at c2
      rw [if_neg c, if_neg (show ¬ caV (fX h 1) k = true by rw [b2i_z c2]; decide)] at q
      exact q
    · rw [x1] at c2
      rw [if_neg c, if_pos (b2i_o c2)] at q
      exact q
theorem m_can {d : Nat} {a : Int} {h : AH} {K : Int → AH → Prop} (hr : okR (fM h)) (he : okE (fM h)) (f0 : 0 ≤ h.1 38 2) (f60 : h.1 38 2 ≤ 60) : ∀ (m : Nat) (k s : Int) (h' : AH), k + m = ((2 ^ (h.1 38 1).toNat : Nat) : Int) → 1 ≤ k → 0 ≤ s → s < 16 → h'.1 = h.1 → (∀ h1, h1.1 = h.1 → K (if a = 0 then pop (caF (fM h) m k s) else caF (fM h) m k s) h1) → Bx z0 0 (tx mt (d + 29)) k_X6_can (fun r h' => ∃ z, r = some (.inl z) ∧ K z h') 2 [some (vR 38), some (vI a), some (vI s), some (vI k)] [] h' := by
  have e0 : 0 ≤ h.1 38 1 := he.1
  have e4 : h.1 38 1 ≤ 4 := he.2.1
  have E4 : (h.1 38 1).toNat ≤ 4 := by omega
  have p16 : 1 ≤ 2 ^ (h.1 38 1).toNat ∧ 2 ^ (h.1 38 1).toNat ≤ 16 := ⟨Nat.one_le_two_pow, Nat.pow_le_pow_right (by decide) E4⟩
  intro m
  induction m with
  | zero =>
    intro k s h' km k1 s0 s16 e q
    have q := q h' e
    rw [caF] at q
    refine u_X6_can_2 (tx_mono _ _) ?_
    rw [e, two_n]
    generalize 2 ^ (h.1 38 1).toNat = N at p16 km ⊢
    refine ⟨by decide, e0, by omega, ⟨by omega, by omega⟩, fun _ => u_X6_can_5 (tx_mono _ _) ⟨fun c => u_X6_can_6 (tx_mono _ _) (u_X6_can_7 (tx_mono _ _) (exI ?_)), fun c => s_X6_ones s0 s16 (u_X6_can_7 (tx_mono _ _) (exI ?_))⟩, fun c => by omega⟩
    · rw [if_neg c] at q
      exact q
    · rw [if_pos (by omega)] at q
      exact q
  | succ m ih =>
    intro k s h' km k1 s0 s16 e q
    have mm : fM h' = fM h := fM_1 e
    rw [caF] at q
    refine u_X6_can_2 (tx_mono _ _) ?_
    rw [e, two_n]
    generalize 2 ^ (h.1 38 1).toNat = N at p16 km ih ⊢
    refine ⟨by decide, e0, by omega, ⟨by omega, by omega⟩, fun c => by omega, fun _ => s_X6_ones (by omega) (by omega) (s_X6_ones s0 s16 ⟨fun c => u_X6_can_3 (tx_mono _ _) (u_X6_can_4 (tx_mono _ _) ⟨⟨by omega, by omega⟩, ih (k + 1) s h' (by omega) (by omega) s0 s16 e ?_⟩), fun c => s_X6_canAll (by rw [mm]; exact hr) (by rw [mm]; exact he) (by rw [e]; exact f0) (by rw [e]; exact f60) (by omega) (fun h1 e1 => ⟨fun c2 => u_X6_can_3 (tx_mono _ _) (u_X6_can_4 (tx_mono _ _) ⟨⟨by omega, by omega⟩, ih (k + 1) s h1 (by omega) (by omega) s0 s16 (by rw [e1, e]) ?_⟩), fun c2 => u_X6_can_4 (tx_mono _ _) ⟨⟨by omega, by omega⟩, ih (k + 1) k h1 (by omega) (by omega) (by omega) (by omega) (by rw [e1, e]) ?_⟩⟩)⟩)⟩
    · rw [if_pos c] at q
      exact q
    · rw [mm] at c2
      rw [if_neg c, if_neg (show ¬ caV (fM h) k = true by rw [b2i_z c2]; decide)] at q
      exact q
    · rw [mm] at c2
      rw [if_neg c, if_pos (b2i_o c2)] at q
      exact q
theorem op_can {a : Int} : OpI n_X5_can n_X6_can [vI a] := by
  intro d n h n0 n1 H
  have fa := H.facts
  unfold Facts at fa
  obtain ⟨oR, oE, oS, oP, oZ, mE, mR, mEa, mS, mZ⟩ := H.ok
  by_cases c : (a < 0 ∨ 1 < a) ∨ h.1 1 3 = 0 ∨ h.1 1 0 = 0
  · exact can_rf n0 n1 H c
  have p1 : 1 ≤ 2 ^ (h.1 1 3).toNat := Nat.one_le_two_pow
  have p16 : 2 ^ (h.1 1 3).toNat ≤ 2 ^ 4 := Nat.pow_le_pow_right (by decide) (by omega)
  have x : ∀ K : Int → AH → Prop, (∀ h1, h1.1 = h.1 → K (if a = 0 then pop (caF (fX h 1) (2 ^ (h.1 1 3).toNat - 1) 1 0) else caF (fX h 1) (2 ^ (h.1 1 3).toNat - 1) 1 0) h1) → cI (tx mt (d + 30)) n_X5_can [vR 0, vI a] h K := by
    intro K q
    have g1 : Bx z0 0 (tx mt (d + 29)) k_X5_can (fun r h' => ∃ z, r = some (.inl z) ∧ K z h') 1 [some (vR 0), some (vI a), none, none, none, none, none] [] h := by
      refine u_X5_can_1 (tx_mono _ _) ⟨fun _ => by omega, fun _ => ⟨fun _ => u_X5_can_3 (tx_mono _ _) ⟨by decide, by omega, by omega, ?_⟩, fun _ => by omega⟩⟩
      rw [two_n]
      have y := x_can (d := d) (a := a) (K := K) oR oE (by omega) (by omega) (2 ^ (h.1 1 3).toNat - 1) 1 0 h none (by omega) (by decide) (by decide) (by decide) rfl q
      exact ⟨⟨by generalize 2 ^ (h.1 1 3).toNat = N at *; omega, by generalize 2 ^ (h.1 1 3).toNat = N at *; omega⟩, y⟩
    exact cI_i (e_X5_can ⟨fun _ => g1, fun _ => ⟨fun _ => g1, fun _ => by omega⟩⟩)
  refine x _ (fun h1 e1 => cI_i (e_X6_can (fun h2 w2 => ?_)))
  have e2 : h2.1 = (upI h 38 12 0).1 := by rw [w2]; exact m12_1 e1
  have c0 : h2.1 38 0 = h.1 1 0 := by rw [e2]; (simp only [inI, inL, upI_e, Nat.reduceEqDiff, Nat.reduceAdd, true_and, and_true, false_and, and_false, if_true, if_false, ite_true, ite_false, reduceIte, Int.reduceEq, not_true_eq_false, not_false_eq_true, Decidable.not_not]); omega
  have c1 : h2.1 38 1 = h.1 1 3 := by rw [e2]; (simp only [inI, inL, upI_e, Nat.reduceEqDiff, Nat.reduceAdd, true_and, and_true, false_and, and_false, if_true, if_false, ite_true, ite_false, reduceIte, Int.reduceEq, not_true_eq_false, not_false_eq_true, Decidable.not_not]); omega
  have c2 : h2.1 38 2 = h.1 1 8 := by rw [e2]; (simp only [inI, inL, upI_e, Nat.reduceEqDiff, Nat.reduceAdd, true_and, and_true, false_and, and_false, if_true, if_false, ite_true, ite_false, reduceIte, Int.reduceEq, not_true_eq_false, not_false_eq_true, Decidable.not_not]); omega
  have m2 : fM h2 = fX h 1 := by rw [fM_1 e2]; exact mE
  refine c_X6_wrongShare (fun _ => by omega) (fun y => by omega) (fun _ => ⟨fun _ => u_X6_can_1 (tx_mono _ _) (m_can (by rw [m2]; exact oR) (by rw [m2]; exact oE) (by omega) (by omega) (2 ^ (h.1 1 3).toNat - 1) 1 0 h2 (by rw [c1]; omega) (by decide) (by decide) (by decide) rfl (fun h3 e3 => ⟨?_, H.scr (fun c _ _ _ _ _ _ => by rw [e3, e2])⟩)), fun y => absurd (by decide) y⟩)
  rw [m2]
