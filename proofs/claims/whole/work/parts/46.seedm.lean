/-! ===== seeds, the reference ===== -/
theorem Gm.sd {B : BD} {h h' : AH} (G : Gm B h h') (s : Int) : Gm B (upI h 38 44 s) (upI h' 38 44 s) := by
  refine ⟨fun c a1 a2 a3 => ?_, fun j a1 a2 a3 a4 a5 => ?_, ?_, ?_⟩
  · funext j
    simp only [upI_e]
    rw [if_neg (by omega), if_neg (by omega), G.1 c a1 a2 a3]
  · simp only [upI_e]
    rw [G.2.1 j a1 a2 a3 a4 a5]
  · rw [fK_c (h := h') (by funext j; simp only [upI_e]; rw [if_neg (by omega)])]
    exact G.2.2.1
  · rw [fM_c (h := h') (fun c hc => by funext j; simp only [upI_e]; rw [if_neg (by omega)]) (fun j hj => by simp only [upI_e]; rw [if_neg (by omega)])]
    exact G.2.2.2
theorem Gm.s2 {B : BD} {h h' : AH} {s t : Int} (G : Gm B (upI h 38 44 s) h') : Gm B (upI h 38 44 t) (upI h' 38 44 t) := by
  have e : upI (upI h 38 44 s) 38 44 t = upI h 38 44 t := by
    refine Prod.ext (funext fun c => funext fun j => ?_) rfl
    simp only [upI_e]
    split <;> rfl
  rw [← e]
  exact G.sd t
theorem fM_sd {h : AH} {s : Int} : fM (upI h 38 44 s) = fM h := fM_c (fun c hc => by funext j; simp only [upI_e]; rw [if_neg (by omega)]) (fun j hj => by simp only [upI_e]; rw [if_neg (by omega)])
theorem Gm.s44 {B : BD} {h h' : AH} {s : Int} (G : Gm B (upI h 38 44 s) h') : h'.1 38 44 = s := by
  rw [G.2.1 44 (by decide) (by decide) (by decide) (by decide) (by decide)]
  (simp only [inI, upI_e, Nat.reduceEqDiff, Nat.reduceAdd, true_and, and_true, false_and, and_false, if_true, if_false, ite_true, ite_false, reduceIte, Int.reduceEq, not_true_eq_false, not_false_eq_true, Decidable.not_not])
theorem m_seeds {d : Nat} {a n : Int} {h : AH} {B : BD} {K : AK} {a4 : Int} (hb : okBd B) (hn : B.1 5 < B.1 1) (a0 : 0 ≤ a) (a1 : a < B.1 1) (n20 : n ≤ 20) : ∀ (m : Nat) (i s o l : Int) (h' : AH), i + m = n → 0 ≤ i → 0 ≤ o → o ≤ i → 0 ≤ l → l ≤ 60 * i → Gm B (upI h 38 44 s) h' → (∀ h1 x y z s', Gm B (upI h 38 44 s') h1 → Bx z0 0 (tx mt (d + 29)) k_X6_seeds K 9 [some (vR 38), some (vI a), some (vI n), x, some (vI a4), y, some (vI (sdF B a m s o l).1), some (vI (sdF B a m s o l).2), z] [] h1) → ∀ x y, Bx z0 0 (tx mt (d + 29)) k_X6_seeds K 6 [some (vR 38), some (vI a), some (vI n), x, some (vI a4), y, some (vI o), some (vI l), some (vI i)] [] h' := by
  intro m
  induction m with
  | zero =>
    intro i s o l h' im i0 o0 oi l0 li G q x y
    exact u_X6_seeds_6 (tx_mono _ _) ⟨fun _ => q h' _ _ _ s G, fun c => by omega⟩
  | succ m ih =>
    intro i s o l h' im i0 o0 oi l0 li G q x y
    have h5 := hb.2.2.1.2.2.2.2.2.2.1
    have sb := sdB_ok (s := s) hb hn
    have d1 := drS_r (s := nxS s) (n := 61) (by decide)
    have p1 := hb.pus (j := 2) (v := drS (nxS s) 61) (by omega)
    have sk := supB_ok 100 0 _ sb.1 sb.2
    have f2 := sk.1.2.2.1
    refine u_X6_seeds_6 (tx_mono _ _) ⟨fun c => by omega, fun _ => sm_put G hb.2.2.2.2 (fun h1 m1 G1 => s_X6_draw (by decide) (fun h2 w2 => s_X6_draw ?_ (fun h3 w3 => ?_)))⟩
    · rw [w2]
      simp only [upI_e]
      rw [if_neg (by omega), if_neg (by omega)]
      show 0 < (fM h1).1 1
      rw [m1]
      omega
    rw [G1.s44] at w2
    have G2' : Gm B (upI h 38 44 (nxS s)) (upI h1 38 44 (nxS s)) := G1.s2
    have x2 : fM h2 = putS 2 (drS (nxS s) 61) B := by rw [w2, fM_putF, fM_sd, m1]
    have G2 : Gm B (upI h 38 44 (nxS s)) h2 := by rw [w2] at x2 ⊢; exact G2'.put (by omega) (by rw [x2]; exact p1.2.2.2.2)
    have e13 : h2.1 38 1 = B.1 1 := by rw [show h2.1 38 1 = (fM h2).1 1 from rfl, x2]; rfl
    rw [e13, G2.s44] at w3
    have G3' : Gm B (upI h 38 44 (nxS (nxS s))) (upI h2 38 44 (nxS (nxS s))) := G2.s2
    have x3 : fM h3 = sdB B s := by rw [w3, fM_putS, fM_sd, x2]; rfl
    have G3 : Gm B (upI h 38 44 (nxS (nxS s))) h3 := by rw [w3] at x3 ⊢; exact G3'.put (by omega) (by rw [x3]; exact sb.1.2.2.2.2)
    refine sm_eat G3 (by rw [x3]; exact sb.1) (by rw [x3]; exact sb.2) (fun h4 x4 G4 => ?_)
    rw [x3] at x4
    have e8 : h4.1 38 2 = (supB 100 0 (sdB B s)).2.1 2 := by rw [← x4]; rfl
    refine s_X6_has (by rw [x4]; exact sk.1.1) (by rw [x4]; exact sk.1.2.1) a0 (by rw [x4, sk.2.2.1]; exact a1) ?_
    rw [x4]
    have g1 := f2.1
    have g2 := f2.2.1
    have ih := ih (i + 1) (nxS (nxS s)) (o + b2i (isP (supB 100 0 (sdB B s)).2 a)) (l + (supB 100 0 (sdB B s)).2.1 2) h4 (by omega) (by omega) (by rcases b2i_01 (isP (supB 100 0 (sdB B s)).2 a) with e | e <;> omega) (by rcases b2i_01 (isP (supB 100 0 (sdB B s)).2 a) with e | e <;> omega) (by omega) (by omega) G4 q
    refine ⟨fun c => u_X6_seeds_7 (tx_mono _ _) (u_X6_seeds_8 (tx_mono _ _) ?_), fun c => u_X6_seeds_8 (tx_mono _ _) ?_⟩
    · rw [e8]
      rw [c] at ih
      exact ⟨⟨by omega, by omega⟩, ⟨by omega, by omega⟩, ⟨by omega, by omega⟩, ih _ _⟩
    · rw [e8]
      have c1 : b2i (isP (supB 100 0 (sdB B s)).2 a) = 1 := by rcases b2i_01 (isP (supB 100 0 (sdB B s)).2 a) with e | e <;> omega
      rw [c1] at ih
      exact ⟨⟨by omega, by omega⟩, ⟨by omega, by omega⟩, ⟨by omega, by omega⟩, ih _ _⟩
theorem Inv.sd {n : Int} {h : AH} (H : Inv n h) (s : Int) : Inv n (upI h 38 44 s) := by
  have F : IF n (upI h 38 44 s) := fun i a b => by
    have := H.2.2.2.2.2.1 i a b
    (simp only [inI, upI_e, Nat.reduceEqDiff, Nat.reduceAdd, true_and, and_true, false_and, and_false, if_true, if_false, ite_true, ite_false, reduceIte, Int.reduceEq, not_true_eq_false, not_false_eq_true, Decidable.not_not])
    exact this
  exact ⟨H.1.c (fun c hc => by (funext j; simp only [upI_e]; repeat' rw [if_neg (by omega)])) (by intro j hj; (simp only [upI_e]; repeat' rw [if_neg (by omega)])), H.2.1.c (fun c hc => by (funext j; simp only [upI_e]; repeat' rw [if_neg (by omega)])), H.2.2.1.c (fun c hc => by (funext j; simp only [upI_e]; repeat' rw [if_neg (by omega)])) (by simp only [upI_e]; repeat' rw [if_neg (by omega)]) (by simp only [upI_e]; repeat' rw [if_neg (by omega)]), H.2.2.2.1.c (fun c hc => by (funext j; simp only [upI_e]; repeat' rw [if_neg (by omega)])) (by simp only [upI_e]; repeat' rw [if_neg (by omega)]) (by simp only [upI_e]; repeat' rw [if_neg (by omega)]), H.2.2.2.2.1.c (fun c hc => by (funext j; simp only [upI_e]; repeat' rw [if_neg (by omega)])) (by simp only [upI_e]; repeat' rw [if_neg (by omega)]) (by simp only [upI_e]; repeat' rw [if_neg (by omega)]), F, H.2.2.2.2.2.2.c (fun c hc => by (funext j; simp only [upI_e]; repeat' rw [if_neg (by omega)])) (by simp only [upI_e]; repeat' rw [if_neg (by omega)]) (by simp only [upI_e]; repeat' rw [if_neg (by omega)]) (by simp only [upI_e]; repeat' rw [if_neg (by omega)])⟩
theorem Fx.sd {h h1 : AH} (F : Fx h h1) (s : Int) : Fx (upI h 38 44 s) (upI h1 38 44 s) := by
  refine ⟨fun c hc => ?_, ?_⟩
  · funext j
    simp only [upI_e]
    rw [F.1 c hc]
  · rw [fX_c (h := h1) (k := 9) (fun c a b => by funext j; (simp only [upI_e]; repeat' rw [if_neg (by omega)]))]
    exact F.2
theorem op_seeds {a n z w : Int} : OpI n_X5_seeds n_X6_seeds [vI a, vI n, vI z, vI w] := by
  intro d n0 h n1 n2 H
  have fa := H.facts
  unfold Facts at fa
  obtain ⟨oR, oE, oS, oP, oZ, mE, mR, mEa, mS, mZ⟩ := H.ok
  have gn := H.next
  by_cases c : (a < 0 ∨ h.1 1 3 ≤ a) ∨ n < 1 ∨ 20 < n ∨ w < 0 ∨ 1 < w
  · skip
    repeat' first
      | first | exact H.m12 | exact H.rf (by decide) (by decide)
      | (with_reducible refine exI ?_)
      | (with_reducible refine exL ?_)
      | (with_reducible refine exV ?_)
      | (with_reducible apply And.intro)
      | (with_reducible refine cI_i (e_X5_seeds ?_))
      | (with_reducible refine cL_i (e_X5_seeds ?_))
      | (with_reducible refine cV_i (e_X5_seeds ?_))
      | (with_reducible refine u_X5_seeds_1 (tx_mono _ _) ?_)
      | (with_reducible refine u_X5_seeds_2 (tx_mono _ _) ?_)
      | (with_reducible refine u_X5_seeds_3 (tx_mono _ _) ?_)
      | (with_reducible refine u_X5_seeds_4 (tx_mono _ _) ?_)
      | (with_reducible refine u_X5_seeds_5 (tx_mono _ _) ?_)
      | (with_reducible refine u_X5_seeds_6 (tx_mono _ _) ?_)
      | (with_reducible refine u_X5_seeds_7 (tx_mono _ _) ?_)
      | (with_reducible refine u_X5_seeds_8 (tx_mono _ _) ?_)
      | (with_reducible refine u_X5_seeds_9 (tx_mono _ _) ?_)
      | (with_reducible refine cI_i (e_X6_seeds ?_))
      | (with_reducible refine cL_i (e_X6_seeds ?_))
      | (with_reducible refine cV_i (e_X6_seeds ?_))
      | (with_reducible refine u_X6_seeds_1 (tx_mono _ _) ?_)
      | (with_reducible refine u_X6_seeds_2 (tx_mono _ _) ?_)
      | (with_reducible refine u_X6_seeds_3 (tx_mono _ _) ?_)
      | (with_reducible refine u_X6_seeds_4 (tx_mono _ _) ?_)
      | (with_reducible refine u_X6_seeds_5 (tx_mono _ _) ?_)
      | (with_reducible refine u_X6_seeds_6 (tx_mono _ _) ?_)
      | (with_reducible refine u_X6_seeds_7 (tx_mono _ _) ?_)
      | (with_reducible refine u_X6_seeds_8 (tx_mono _ _) ?_)
      | (with_reducible refine u_X6_seeds_9 (tx_mono _ _) ?_)
      | (with_reducible refine u_X6_seeds_10 (tx_mono _ _) ?_)
      | (with_reducible refine u_X6_seeds_11 (tx_mono _ _) ?_)
      | (with_reducible apply s_X0_copyFrom)
      | (with_reducible apply s_X0_eatUp)
      | (with_reducible apply c_X0_hasEater)
      | (with_reducible apply s_X0_isPleased)
      | (with_reducible apply s_X5_drawBelow)
      | (with_reducible apply s_X5_nextSeed)
      | (with_reducible apply c_X5_refuse)
      | (with_reducible apply s_X6_draw)
      | (with_reducible apply s_X6_has)
      | (with_reducible apply c_X6_in)
      | (with_reducible apply c_X6_isEater)
      | (with_reducible apply s_X6_open)
      | (with_reducible apply s_X6_putBack)
      | (with_reducible apply c_X6_refuse)
      | (with_reducible apply s_X6_supperNow)
      | (with_reducible apply c_X6_wrongNumber)
      | exact isB1
      | exact True.intro
      | (intro _ e9; subst e9)
      | (intro c9; exfalso; first | omega | (simp only [inI, upI_e, Nat.reduceEqDiff, Nat.reduceAdd, true_and, and_true, false_and, and_false, if_true, if_false, ite_true, ite_false, reduceIte, Int.reduceEq, not_true_eq_false, not_false_eq_true, Decidable.not_not] at c9; omega))
      | (intro c9; (try simp only [inI, upI_e, Nat.reduceEqDiff, Nat.reduceAdd, true_and, and_true, false_and, and_false, if_true, if_false, ite_true, ite_false, reduceIte, Int.reduceEq, not_true_eq_false, not_false_eq_true, Decidable.not_not] at c9))
      | (with_reducible show _ ≤ _; first | omega | (simp only [inI, upI_e, Nat.reduceEqDiff, Nat.reduceAdd, true_and, and_true, false_and, and_false, if_true, if_false, ite_true, ite_false, reduceIte, Int.reduceEq, not_true_eq_false, not_false_eq_true, Decidable.not_not]; omega))
      | (with_reducible show _ < _; first | omega | (simp only [inI, upI_e, Nat.reduceEqDiff, Nat.reduceAdd, true_and, and_true, false_and, and_false, if_true, if_false, ite_true, ite_false, reduceIte, Int.reduceEq, not_true_eq_false, not_false_eq_true, Decidable.not_not]; omega))
      | (with_reducible show _ = _; first | omega | (simp only [inI, upI_e, Nat.reduceEqDiff, Nat.reduceAdd, true_and, and_true, false_and, and_false, if_true, if_false, ite_true, ite_false, reduceIte, Int.reduceEq, not_true_eq_false, not_false_eq_true, Decidable.not_not]; omega))
      | (with_reducible show _ ∧ _; first | omega | (simp only [inI, upI_e, Nat.reduceEqDiff, Nat.reduceAdd, true_and, and_true, false_and, and_false, if_true, if_false, ite_true, ite_false, reduceIte, Int.reduceEq, not_true_eq_false, not_false_eq_true, Decidable.not_not]; omega))
      | (with_reducible show _ ∨ _; first | omega | (simp only [inI, upI_e, Nat.reduceEqDiff, Nat.reduceAdd, true_and, and_true, false_and, and_false, if_true, if_false, ite_true, ite_false, reduceIte, Int.reduceEq, not_true_eq_false, not_false_eq_true, Decidable.not_not]; omega))
      | (with_reducible show inI _; first | omega | (simp only [inI, upI_e, Nat.reduceEqDiff, Nat.reduceAdd, true_and, and_true, false_and, and_false, if_true, if_false, ite_true, ite_false, reduceIte, Int.reduceEq, not_true_eq_false, not_false_eq_true, Decidable.not_not]; omega))
      | (with_reducible show ¬ _; first | omega | (simp only [inI, upI_e, Nat.reduceEqDiff, Nat.reduceAdd, true_and, and_true, false_and, and_false, if_true, if_false, ite_true, ite_false, reduceIte, Int.reduceEq, not_true_eq_false, not_false_eq_true, Decidable.not_not]; omega))
  have hn : (fX h 1).1 5 < (fX h 1).1 1 := by show h.1 1 11 < h.1 1 3; omega
  have x : ∀ K : Int → AH → Prop, (∀ h1, Fx h h1 → K (if w = 0 then (sdF (fX h 1) a n.toNat z 0 0).1 else (sdF (fX h 1) a n.toNat z 0 0).2) h1) → cI (tx mt (d + 30)) n_X5_seeds [vR 0, vI a, vI n, vI z, vI w] h K := by
    intro K q
    have go : Bx z0 0 (tx mt (d + 29)) k_X5_seeds (fun r h' => ∃ z, r = some (.inl z) ∧ K z h') 4 [some (vR 0), some (vI a), some (vI n), some (vI z), some (vI w), none, none, none, none] [] h := by
      refine u_X5_seeds_4 (tx_mono _ _) (x_seeds (x4 := none) H.1.1 hn (by omega) n.toNat 0 z 0 0 h (by omega) (by decide) (by decide) (by decide) (by decide) (by decide) (Fx.rf H.2.1.1) (fun h1 x y z F1 => ?_) _)
      have q2 := q h1 F1
      refine u_X5_seeds_7 (tx_mono _ _) ⟨fun c1 => u_X5_seeds_8 (tx_mono _ _) (u_X5_seeds_9 (tx_mono _ _) (exI ?_)), fun c1 => u_X5_seeds_9 (tx_mono _ _) (exI ?_)⟩
      · rw [if_neg c1] at q2
        exact q2
      · rw [if_pos (by omega)] at q2
        exact q2
    refine cI_i (e_X5_seeds (c_X0_hasEater isB1 (fun _ => ⟨fun _ => u_X5_seeds_1 (tx_mono _ _) ⟨fun _ => u_X5_seeds_2 (tx_mono _ _) ⟨fun _ => u_X5_seeds_3 (tx_mono _ _) ⟨fun _ => go, fun _ => ⟨fun _ => go, fun _ => by omega⟩⟩, fun _ => by omega⟩, fun _ => by omega⟩, fun y => absurd (by decide) y⟩) (fun _ => by omega)))
  refine x _ (fun h1 F1 => ?_)
  have a1 := F1.e H
  have ex : (upI (upI h 38 44 z) 38 12 0).1 38 1 = (upI h 38 12 0).1 38 1 := by (simp only [inI, upI_e, Nat.reduceEqDiff, Nat.reduceAdd, true_and, and_true, false_and, and_false, if_true, if_false, ite_true, ite_false, reduceIte, Int.reduceEq, not_true_eq_false, not_false_eq_true, Decidable.not_not])
  refine cI_i (e_X6_seeds ?_)
  intro h2 w2
  refine c_X6_isEater (by rw [w2]; omega) (fun _ => ⟨fun y => absurd y (by decide), fun _ => c_X6_wrongNumber (fun _ => by omega) (fun _ => by omega) (fun _ => ?_)⟩) (fun y => by rw [w2] at y; omega)
  rw [w2]
  refine u_X6_seeds_2 (tx_mono _ _) ⟨fun y => absurd rfl y, fun _ => c_X6_in (fun _ => ⟨fun _ => u_X6_seeds_3 (tx_mono _ _) (u_X6_seeds_4 (tx_mono _ _) ⟨fun _ => u_X6_seeds_5 (tx_mono _ _) (sm_open0 H F1 (fun h3 m3 G3 h4 w4 => ?_)), fun y => absurd (by decide) y⟩), fun y => absurd (by decide) y⟩) (fun _ => by omega)⟩
  have fin : ∀ (h5 : AH) (s' z' : Int), Gm (fX h 1) (upI h1 38 44 s') h5 → fM h5 = fX h 1 → ∀ z : Int, z = z' → z = z' ∧ Inv (n0 + 1) h5 := by
    intro h5 s' z' G5 m5 z ez
    have xs : fX (upI h 38 44 s') 1 = fX h 1 := fX_c (fun c a b => by funext j; (simp only [upI_e]; repeat' rw [if_neg (by omega)]))
    rw [← xs] at G5 m5
    exact fin2 (H.sd s') (F1.sd s') G5 m5 ez
  refine m_seeds H.1.1 hn (by omega) (by show a < h.1 1 3; omega) (by omega) n.toNat 0 z 0 0 h4 (by omega) (by decide) (by decide) (by decide) (by decide) (by decide) (by rw [w4]; exact G3.sd z) (fun h5 x y z s' G5 => u_X6_seeds_9 (tx_mono _ _) (sm_put G5 oZ (fun h6 m6 G6 => ⟨fun c1 => u_X6_seeds_10 (tx_mono _ _) (u_X6_seeds_11 (tx_mono _ _) (exI (fin h6 s' _ G6 m6 _ ?_))), fun c1 => u_X6_seeds_11 (tx_mono _ _) (exI (fin h6 s' _ G6 m6 _ ?_))⟩))) _ _
  · rw [if_neg c1]
  · rw [if_pos (by omega)]
