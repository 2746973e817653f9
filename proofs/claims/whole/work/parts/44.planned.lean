/-! ===== planned ===== -/
theorem s_X6_takeSo {d : Nat} {n : Int} {h : AH} {k : AH → Prop} (he : okE (fM h)) (hS : okS (fM h)) (hn : (fM h).1 5 < (fM h).1 1) (hN : 0 ≤ n ∧ n ≤ 1000) (q : ∀ h', fM h' = takeB (fM h) (min n ((fM h).1 2)) → frM h h' → k h') : cV (tx mt (d + 1)) n_X6_takeSo [vR 38, vI n] h k := by
  have e4 : (fM h).1 1 ≤ 4 := he.2.1
  have f5 : (fM h).1 5 = h.1 38 5 := rfl
  have f2 : (fM h).1 2 = h.1 38 2 := rfl
  have f1 : (fM h).1 1 = h.1 38 1 := rfl
  have g6 : (fM h).2 6 ((fM h).1 5) = h.1 44 (h.1 38 5) := rfl
  obtain ⟨a1, a2, a3, a4, a5, a6, a7, -⟩ := hS
  have hk := he.2.2 ((fM h).1 5) a7 hn
  have q := q (tkM h (min n ((fM h).1 2))) (tkM_fM h _) (tkM_fr h _)
  have two : ∀ t, t = min n ((fM h).1 2) → ∀ x : Option AV, Bx z0 0 (tx mt d) k_X6_takeSo (fun r h' => r = none ∧ k h') 2 [some (vR 38), some (vI n), x] [vI t] h := by
    intro t ht x
    have t0 : 0 ≤ t ∧ t ≤ h.1 38 2 := by omega
    have four : ∀ (y : Option AV) (h1 : AH) (v : Int), h1 = upI h 38 2 (h.1 38 2 - t) → v = min 99 (h.1 44 (h.1 38 5) + t) → ∀ x, Bx z0 0 (tx mt d) k_X6_takeSo (fun r h' => r = none ∧ k h') 4 [some (vR 38), y, x] [vI v, vI (h.1 38 5), vR 44] h1 := by
      intro y h1 v w1 wv x
      refine u_X6_takeSo_4 (tx_mono _ _) ⟨by omega, by omega, fun h2 w2 => ?_⟩
      have y1 : h2.1 38 5 = h.1 38 5 := by rw [w2, upI_e, if_neg (by omega), w1, upI_e, if_neg (by omega)]
      have y2 : h2.1 38 1 = h.1 38 1 := by rw [w2, upI_e, if_neg (by omega), w1, upI_e, if_neg (by omega)]
      rw [y1, y2]
      refine ⟨⟨by omega, by omega⟩, by omega, by omega, fun h3 w3 => ⟨rfl, ?_⟩⟩
      rw [w3, w2, w1, wv, ht]
      exact q
    refine u_X6_takeSo_2 (tx_mono _ _) ⟨⟨by omega, by omega⟩, fun h1 w1 => ?_⟩
    have x1 : h1.1 38 5 = h.1 38 5 := by rw [w1, upI_e, if_neg (by omega)]
    have x2 : h1.1 44 (h.1 38 5) = h.1 44 (h.1 38 5) := by rw [w1, upI_e, if_neg (by omega)]
    rw [x1, x2]
    refine ⟨by omega, by omega, ⟨by omega, by omega⟩, fun c => u_X6_takeSo_3 (tx_mono _ _) ?_, fun c => four _ h1 99 w1 (by omega) _⟩
    rw [x1, x2]
    exact ⟨by omega, by omega, ⟨by omega, by omega⟩, four _ h1 _ w1 (by omega) _⟩
  exact cV_i (e_X6_takeSo ⟨fun c => u_X6_takeSo_1 (tx_mono _ _) (two _ (by omega) _), fun c => two _ (by omega) _⟩)
def plB (t : Int → Int) : Nat → Int → BD → BD
  | 0, _, b => b
  | m + 1, i, b => plB t m (i + 1) (takeB b (min (t i) (b.1 2)))
theorem plB_c {t t' : Int → Int} : ∀ (m : Nat) (i : Int) (b : BD), (∀ j, i ≤ j → j < i + m → t j = t' j) → plB t m i b = plB t' m i b := by
  intro m
  induction m with
  | zero => intro i b _; rfl
  | succ m ih => intro i b hj; rw [plB, plB, hj i (by omega) (by omega), ih (i + 1) _ (fun j a b => hj j (by omega) (by omega))]
theorem takeB_n {b : BD} {t : Int} (h : 0 < b.1 1) : (takeB b t).1 5 < (takeB b t).1 1 := (emod_r (a := b.1 5 + 1) h).2
theorem plB_ok {t : Int → Int} : ∀ (m : Nat) (i : Int) (b : BD), okBd b → b.1 5 < b.1 1 → (∀ j, i ≤ j → j < i + m → 0 ≤ t j ∧ t j ≤ 99) → okBd (plB t m i b) ∧ (plB t m i b).1 1 = b.1 1 := by
  intro m
  induction m with
  | zero => intro i b hb hn _; exact ⟨hb, rfl⟩
  | succ m ih =>
    intro i b hb hn hj
    have h0 := hb.2.2.1.1
    have h5 := hb.2.2.1.2.2.2.2.2.2.1
    have ti := hj i (by omega) (by omega)
    exact ih (i + 1) _ (takeB_ok hb hn (by omega) (by omega)) (takeB_n (by omega)) (fun j a c => hj j (by omega) (by omega))
theorem x_plan {d : Nat} {a : Int} {h : AH} {K : AK} (h7 : 0 ≤ h.1 0 7 ∧ h.1 0 7 ≤ 12) (ht : ∀ j, 0 ≤ j → j < h.1 0 7 → 0 ≤ h.1 31 j ∧ h.1 31 j ≤ 99) : ∀ (m : Nat) (i : Int) (h' : AH), i + m = h.1 0 7 → 0 ≤ i → Fx h h' → okBd (fX h' 9) → (fX h' 9).1 5 < (fX h' 9).1 1 → (∀ h1 x, Fx h h1 → fX h1 9 = plB (h.1 31) m i (fX h' 9) → Bx z0 0 (tx mt (d + 29)) k_X5_planned K 4 [some (vR 0), some (vI a), x] [] h1) → Bx z0 0 (tx mt (d + 29)) k_X5_planned K 3 [some (vR 0), some (vI a), some (vI i)] [] h' := by
  intro m
  induction m with
  | zero =>
    intro i h' im i0 F hb hn q
    have g : h'.1 0 7 = h.1 0 7 := by rw [F.1 0 (by omega)]
    exact u_X5_planned_3 (tx_mono _ _) ⟨fun _ => q h' _ F rfl, fun c => by omega⟩
  | succ m ih =>
    intro i h' im i0 F hb hn q
    have g : h'.1 0 7 = h.1 0 7 := by rw [F.1 0 (by omega)]
    have h0 := hb.2.2.1.1
    have h5 := hb.2.2.1.2.2.2.2.2.2.1
    have e31 : h'.1 31 i = h.1 31 i := by rw [F.1 31 (by omega)]
    have ti := ht i i0 (by omega)
    have tk := takeB_ok hb hn (t := min (h.1 31 i) ((fX h' 9).1 2)) (by omega) (by omega)
    refine u_X5_planned_3 (tx_mono _ _) ⟨fun c => by omega, fun _ => ⟨by omega, by omega, s_X0_take isB9 hb.2.1 hb.2.2.1 hn (by omega) (fun h1 x1 f1 => ⟨⟨by omega, by omega⟩, ?_⟩)⟩⟩
    rw [e31] at x1
    refine ih (i + 1) h1 (by omega) (by omega) (F.b f1 (by rw [x1]; exact tk.2.2.2.2)) (by rw [x1]; exact tk) (by rw [x1]; exact takeB_n (by omega)) (fun h2 x F2 x2 => q h2 x F2 ?_)
    rw [x2, x1, plB]
theorem m_plan {d : Nat} {a : Int} {h : AH} {B : BD} {K : AK} (h7 : 0 ≤ h.1 38 43 ∧ h.1 38 43 ≤ 12) (ht : ∀ j, 0 ≤ j → j < h.1 38 43 → 0 ≤ h.1 64 j ∧ h.1 64 j ≤ 99) : ∀ (m : Nat) (i : Int) (h' : AH), i + m = h.1 38 43 → 0 ≤ i → Gm B h h' → okBd (fM h') → (fM h').1 5 < (fM h').1 1 → (∀ h1 x, Gm B h h1 → fM h1 = plB (h.1 64) m i (fM h') → Bx z0 0 (tx mt (d + 29)) k_X6_planned K 6 [some (vR 38), some (vI a), x] [] h1) → Bx z0 0 (tx mt (d + 29)) k_X6_planned K 5 [some (vR 38), some (vI a), some (vI i)] [] h' := by
  intro m
  induction m with
  | zero =>
    intro i h' im i0 G hb hn q
    have g : h'.1 38 43 = h.1 38 43 := G.2.1 43 (by decide) (by decide) (by decide) (by decide) (by decide)
    exact u_X6_planned_5 (tx_mono _ _) ⟨fun _ => q h' _ G rfl, fun c => by omega⟩
  | succ m ih =>
    intro i h' im i0 G hb hn q
    have g : h'.1 38 43 = h.1 38 43 := G.2.1 43 (by decide) (by decide) (by decide) (by decide) (by decide)
    have h0 := hb.2.2.1.1
    have h5 := hb.2.2.1.2.2.2.2.2.2.1
    have e31 : h'.1 64 i = h.1 64 i := by rw [G.1 64 (by omega) (by omega) (by omega)]
    have ti := ht i i0 (by omega)
    have tk := takeB_ok hb hn (t := min (h.1 64 i) ((fM h').1 2)) (by omega) (by omega)
    refine u_X6_planned_5 (tx_mono _ _) ⟨fun c => by omega, fun _ => ⟨by omega, by omega, s_X6_takeSo hb.2.1 hb.2.2.1 hn (by omega) (fun h1 x1 f1 => ⟨⟨by omega, by omega⟩, ?_⟩)⟩⟩
    rw [e31] at x1
    refine ih (i + 1) h1 (by omega) (by omega) (G.b f1 (by rw [x1]; exact tk.2.2.2.2)) (by rw [x1]; exact tk) (by rw [x1]; exact takeB_n (by omega)) (fun h2 x F2 x2 => q h2 x F2 ?_)
    rw [x2, x1, plB]
theorem op_planned {a : Int} : OpI n_X5_planned n_X6_planned [vI a] := by
  intro d n h n0 n1 H
  have fa := H.facts
  unfold Facts at fa
  obtain ⟨oR, oE, oS, oP, oZ, mE, mR, mEa, mS, mZ⟩ := H.ok
  have gn := H.next
  obtain ⟨r1, r2, r3, r4⟩ := H.2.2.2.1
  by_cases c : (a < 0 ∨ 1 < a) ∨ h.1 1 3 = 0
  · skip
    repeat' first
      | first | exact H.m12 | exact H.rf (by decide) (by decide)
      | (with_reducible refine exI ?_)
      | (with_reducible refine exL ?_)
      | (with_reducible refine exV ?_)
      | (with_reducible apply And.intro)
      | (with_reducible refine cI_i (e_X5_planned ?_))
      | (with_reducible refine cL_i (e_X5_planned ?_))
      | (with_reducible refine cV_i (e_X5_planned ?_))
      | (with_reducible refine u_X5_planned_1 (tx_mono _ _) ?_)
      | (with_reducible refine u_X5_planned_2 (tx_mono _ _) ?_)
      | (with_reducible refine u_X5_planned_3 (tx_mono _ _) ?_)
      | (with_reducible refine u_X5_planned_4 (tx_mono _ _) ?_)
      | (with_reducible refine u_X5_planned_5 (tx_mono _ _) ?_)
      | (with_reducible refine u_X5_planned_6 (tx_mono _ _) ?_)
      | (with_reducible refine cI_i (e_X6_planned ?_))
      | (with_reducible refine cL_i (e_X6_planned ?_))
      | (with_reducible refine cV_i (e_X6_planned ?_))
      | (with_reducible refine u_X6_planned_1 (tx_mono _ _) ?_)
      | (with_reducible refine u_X6_planned_2 (tx_mono _ _) ?_)
      | (with_reducible refine u_X6_planned_3 (tx_mono _ _) ?_)
      | (with_reducible refine u_X6_planned_4 (tx_mono _ _) ?_)
      | (with_reducible refine u_X6_planned_5 (tx_mono _ _) ?_)
      | (with_reducible refine u_X6_planned_6 (tx_mono _ _) ?_)
      | (with_reducible refine u_X6_planned_7 (tx_mono _ _) ?_)
      | (with_reducible refine u_X6_planned_8 (tx_mono _ _) ?_)
      | (with_reducible apply s_X0_copyFrom)
      | (with_reducible apply s_X0_pleasedBits)
      | (with_reducible apply s_X0_take)
      | (with_reducible apply c_X5_refuse)
      | (with_reducible apply s_X6_haveBits)
      | (with_reducible apply c_X6_in)
      | (with_reducible apply s_X6_open)
      | (with_reducible apply s_X6_putBack)
      | (with_reducible apply c_X6_refuse)
      | (with_reducible apply s_X6_takeSo)
      | exact isB1
      | exact True.intro
      | (intro _ e9; subst e9)
      | (intro c9; exfalso; first | omega | (simp only [inI, upI_e, Nat.reduceEqDiff, Nat.reduceAdd, true_and, and_true, false_and, and_false, if_true, if_false, ite_true, ite_false, reduceIte, Int.reduceEq, not_true_eq_false, not_false_eq_true, Decidable.not_not] at c9; omega))
      | (intro c9; (try simp only [inI, upI_e, Nat.reduceEqDiff, Nat.reduceAdd, true_and, and_true, false_and, and_false, if_true, if_false, ite_true, ite_false, reduceIte, Int.reduceEq, not_true_eq_false, not_false_eq_true, Decidable.not_not] at c9))
      | (with_reducible show _ ≤ _; first | omega | (simp only [inI, upI_e, Nat.reduceEqDiff, Nat.reduceAdd, true_and, and_true, false_and, and_false, if_true, if_false, ite_true, ite_false, reduceIte, Int.reduceEq, not_true_eq_false, not_false_eq_true, Decidable.not_not]; omega))
      | (with_reducible show _ < _; first | omega | (simp only [inI, upI_e, Nat.reduceEqDiff, Nat.reduceAdd, true_and, and_true, false_and, and_false, if_true, if_false, ite_true, ite_false, reduceIte, Int.reduceEq, not_true_eq_false, not_false_eq_true, Decidable.not_not]; omega))
      | (with_reducible show _ = _; first | omega | (simp only [inI, upI_e, Nat.reduceEqDiff, Nat.reduceAdd, true_and, and_true, false_and, and_false, if_true, if_false, ite_true, ite_false, reduceIte, Int.reduceEq, not_true_eq_false, not_false_eq_true, Decidable.not_not]; omega))
      | (with_reducible show _ ∧ _; first | omega | (simp only [inI, upI_e, Nat.reduceEqDiff, Nat.reduceAdd, true_and, and_true, false_and, and_false, if_true, if_false, ite_true, ite_false, reduceIte, Int.reduceEq, not_true_eq_false, not_false_eq_true, Decidable.not_not]; omega))
      | (with_reducible show _ ∨ _; first | omega | (simp only [inI, upI_e, Nat.reduceEqDiff, Nat.reduceAdd, true_and, and_true, false_and, and_false, if_true, if_false, ite_true, ite_false, reduceIte, Int.reduceEq, not_true_eq_false, not_false_eq_true, Decidable.not_not]; omega))
      | (with_reducible show inI _; first | omega | (simp only [inI, upI_e, Nat.reduceEqDiff, Nat.reduceAdd, true_and, and_true, false_and, and_false, if_true, if_false, ite_true, ite_false, reduceIte, Int.reduceEq, not_true_eq_false, not_false_eq_true, Decidable.not_not]; omega))
      | (with_reducible show ¬ _; first | omega | (simp only [inI, upI_e, Nat.reduceEqDiff, Nat.reduceAdd, true_and, and_true, false_and, and_false, if_true, if_false, ite_true, ite_false, reduceIte, Int.reduceEq, not_true_eq_false, not_false_eq_true, Decidable.not_not]; omega))
  have hn : (fX h 1).1 5 < (fX h 1).1 1 := by show h.1 1 11 < h.1 1 3; omega
  have pk := plB_ok (t := h.1 31) (h.1 0 7).toNat 0 (fX h 1) H.1.1 hn (fun j a b => (r4 j a (by omega)).2)
  have x : ∀ K : Int → AH → Prop, (∀ h1, Fx h h1 → K (if a = 0 then bitsB (plB (h.1 31) (h.1 0 7).toNat 0 (fX h 1)) else (plB (h.1 31) (h.1 0 7).toNat 0 (fX h 1)).1 2) h1) → cI (tx mt (d + 30)) n_X5_planned [vR 0, vI a] h K := by
    intro K q
    have go : Bx z0 0 (tx mt (d + 29)) k_X5_planned (fun r h' => ∃ z, r = some (.inl z) ∧ K z h') 1 [some (vR 0), some (vI a), none] [] h := by
      refine u_X5_planned_1 (tx_mono _ _) ⟨fun _ => u_X5_planned_2 (tx_mono _ _) (sx_copy (Fx.rf H.2.1.1) oZ (fun h1 x1 F1 => x_plan ⟨r2, r3⟩ (fun j a b => (r4 j a b).2) (h.1 0 7).toNat 0 h1 (by omega) (by decide) F1 (by rw [x1]; exact H.1.1) (by rw [x1]; exact hn) (fun h2 x F2 x2 => ?_))), fun c2 => by omega⟩
      rw [x1] at x2
      have q2 := q h2 F2
      refine u_X5_planned_4 (tx_mono _ _) ⟨fun c1 => u_X5_planned_5 (tx_mono _ _) (u_X5_planned_6 (tx_mono _ _) (exI ?_)), fun c1 => s_X0_pleasedBits isB9 (by rw [x2]; exact pk.1.1) (by rw [x2]; exact pk.1.2.1) (u_X5_planned_6 (tx_mono _ _) (exI ?_))⟩
      · rw [if_neg c1] at q2
        rw [show h2.1 9 8 = (fX h2 9).1 2 from rfl, x2]
        exact q2
      · rw [if_pos (by omega)] at q2
        rw [x2]
        exact q2
    exact cI_i (e_X5_planned ⟨fun _ => go, fun _ => ⟨fun _ => go, fun _ => by omega⟩⟩)
  refine x _ (fun h1 F1 => ?_)
  have a1 := F1.e H
  have e64 : ∀ j, h1.1 64 j = h.1 64 j := fun j => by rw [F1.1 64 (by omega)]
  have e43 : h1.1 38 43 = h.1 38 43 := by rw [F1.1 38 (by omega)]
  refine cI_i (e_X6_planned ?_)
  intro h2 w2
  refine c_X6_in (fun _ => ⟨fun y => absurd y (by decide), fun _ => ⟨fun _ => u_X6_planned_4 (tx_mono _ _) ?_, fun y => absurd (by rw [w2]; omega) y⟩⟩) (fun y => by omega)
  rw [w2]
  have ep : plB (h1.1 64) (h.1 0 7).toNat 0 (fX h 1) = plB (h.1 31) (h.1 0 7).toNat 0 (fX h 1) := plB_c _ _ _ (fun j a b => by rw [e64]; exact (r4 j a (by omega)).1)
  refine sm_open0 H F1 (fun h3 m3 G3 => m_plan (by omega) (fun j a b => by rw [e64, (r4 j a (by omega)).1]; exact (r4 j a (by omega)).2) (h.1 0 7).toNat 0 h3 (by omega) (by decide) G3 (by rw [m3]; exact H.1.1) (by rw [m3]; exact hn) (fun h4 x G4 m4 => ?_))
  rw [m3, ep] at m4
  refine u_X6_planned_6 (tx_mono _ _) ⟨fun c1 => u_X6_planned_7 (tx_mono _ _) (u_X6_planned_8 (tx_mono _ _) (sm_put G4 oZ (fun h5 m5 G5 => exI (fin2 H F1 G5 m5 ?_)))), fun c1 => s_X6_haveBits (by rw [m4]; exact pk.1.1) (by rw [m4]; exact pk.1.2.1) (u_X6_planned_8 (tx_mono _ _) (sm_put G4 oZ (fun h5 m5 G5 => exI (fin2 H F1 G5 m5 ?_))))⟩
  · rw [if_neg c1, show h4.1 38 2 = (fM h4).1 2 from rfl, m4]
  · rw [if_pos (by omega), m4]
    rfl
