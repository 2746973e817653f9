/-! ===== pushes ===== -/
def puV (b : BD) : Int := if gv b (b.1 1).toNat (stS b (b.1 1).toNat) < 99999 then gv b (b.1 1).toNat (stS b (b.1 1).toNat) else -9
theorem s_X4_fewestPushes {d : Nat} {h : AH} {K : Int → AH → Prop} (hr : okR (fX h 1)) (he : okE (fX h 1)) (r0 : 0 < h.1 1 0) (q : ∀ h1, Gx 37 37 h h1 → K (puV (fX h 1)) h1) : cI (tx mt (d + 5)) n_X4_fewestPushes [vR 35, vR 1] h K := by
  have e0 : 0 ≤ h.1 1 3 := he.1
  have e4 : h.1 1 3 ≤ 4 := he.2.1
  have en : (fX h 1).1 1 = h.1 1 3 := rfl
  have sb := stS_b he (h.1 1 3).toNat (by omega)
  refine cI_i (e_X4_fewestPushes isB1 (s_X0_allStones isB1 he ?_))
  rw [show sumN (fun e => h.1 (1 + 6) e) (h.1 1 3).toNat = stS (fX h 1) (h.1 1 3).toNat from rfl, show min (stS (fX h 1) (h.1 1 3).toNat) 396 = stS (fX h 1) (h.1 1 3).toNat by omega]
  rw [puV, en] at q
  generalize hA : stS (fX h 1) (h.1 1 3).toNat = A at sb q ⊢
  have ls : ∀ (i : Nat) (fs : Int) (n : Nat) (s : Int) (h' : AH), i < (h.1 1 3).toNat → fstP (pl (fX h 1) i) fs → s + 1 = n → s ≤ A → Gx 37 37 h h' → (∀ j, 0 ≤ j → j ≤ A → h'.1 37 j = if j ≤ s then coF (fX h 1) i j else coF (fX h 1) (i + 1) j) → (∀ h1 x4 x5, Gx 37 37 h h1 → (∀ j, 0 ≤ j → j ≤ A → h1.1 37 j = coF (fX h 1) (i + 1) j) → Bx z0 0 (tx mt (d+4)) k_X4_fewestPushes (fun r h' => ∃ z, r = some (.inl z) ∧ K z h') 7 [some (vR 35), some (vR 1), some (vI A), some (vI ((i : Int))), x4, x5] [] h1) → Bx z0 0 (tx mt (d+4)) k_X4_fewestPushes (fun r h' => ∃ z, r = some (.inl z) ∧ K z h') 6 [some (vR 35), some (vR 1), some (vI A), some (vI ((i : Int))), some (vI fs), some (vI s)] [] h' := by
    intro i fs n
    induction n with
    | zero =>
      intro s h' hi hf sn sA G hc q
      exact u_X4_fewestPushes_6 (tx_mono _ _) isB1 ⟨fun _ => q h' _ _ G (fun j a b => by rw [hc j a b, if_neg (by omega)]), fun c => by omega⟩
    | succ n ih =>
      intro s h' hi hf sn sA G hc q
      refine u_X4_fewestPushes_6 (tx_mono _ _) isB1 ⟨fun c => by omega, fun _ => s_X4_costWith (G.X (by decide) (by decide)) hr he r0 (by omega) (by omega) (by omega) hf (fun j a b => by rw [hc j a (by omega), if_pos b]) ⟨by omega, by omega, fun h4 w4 => ⟨⟨by omega, by omega⟩, ih (s + (-1)) h4 hi hf (by omega) (by omega) (by rw [w4]; exact G.up (Or.inl rfl) _ _) (fun j a b => ?_) q⟩⟩⟩
      rw [w4, upI_e]
      by_cases c : j = s
      · rw [if_pos ⟨rfl, c⟩, if_neg (by omega), c]
      · rw [if_neg (by omega), hc j a b]
        by_cases c2 : j ≤ s
        · rw [if_pos c2, if_pos (by omega)]
        · rw [if_neg c2, if_neg (by omega)]
  have le : ∀ (m i : Nat) (h' : AH) (x4 x5 : Option AV), i + m = (h.1 1 3).toNat → Gx 37 37 h h' → (∀ j, 0 ≤ j → j ≤ A → h'.1 37 j = coF (fX h 1) i j) → Bx z0 0 (tx mt (d+4)) k_X4_fewestPushes (fun r h' => ∃ z, r = some (.inl z) ∧ K z h') 5 [some (vR 35), some (vR 1), some (vI A), some (vI ((i : Int))), x4, x5] [] h' := by
    intro m
    induction m with
    | zero =>
      intro i h' x4 x5 im G hc
      have q := q h' G
      have c1 : h'.1 1 = h.1 1 := G 1 (by decide) (by decide)
      refine u_X4_fewestPushes_5 (tx_mono _ _) isB1 ⟨fun _ => u_X4_fewestPushes_8 (tx_mono _ _) ⟨by omega, by omega, ?_⟩, fun c => by rw [c1] at c; omega⟩
      have iE : i = (h.1 1 3).toNat := by omega
      have g1 := gv_b he i A (by rw [en]; omega)
      rw [hc A (by omega) (Int.le_refl _), coF, show stS (fX h 1) i = A by rw [iE]; exact hA]
      rw [← iE] at q
      by_cases c : gv (fX h 1) i A < 99999
      · rw [if_pos c] at q ⊢
        refine ⟨fun c2 => by omega, fun c2 => ⟨by omega, by omega, u_X4_fewestPushes_10 (tx_mono _ _) (exI ?_)⟩⟩
        rw [show gv (fX h 1) i A + A - A = gv (fX h 1) i A by omega]
        exact q
      · rw [if_neg c] at q ⊢
        exact ⟨fun c2 => u_X4_fewestPushes_9 (tx_mono _ _) (u_X4_fewestPushes_10 (tx_mono _ _) (exI q)), fun c2 => by omega⟩
    | succ m ih =>
      intro i h' x4 x5 im G hc
      have c1 : h'.1 1 = h.1 1 := G 1 (by decide) (by decide)
      have x1 : fX h' 1 = fX h 1 := G.X (by decide) (by decide)
      refine u_X4_fewestPushes_5 (tx_mono _ _) isB1 ⟨fun c => by rw [c1] at c; omega, fun _ => s_X0_leastPleasing (by rw [x1]; exact hr) (by rw [x1]; exact he) (by rw [c1]; exact r0) (by omega) (by rw [c1]; omega) (fun fs hf => ?_)⟩
      rw [x1] at hf
      exact ls i fs (A + 1).toNat A h' (by omega) hf (by omega) (Int.le_refl _) G (fun j a b => by rw [hc j a b, if_pos b]) (fun h1 x4 x5 G1 hc1 => u_X4_fewestPushes_7 (tx_mono _ _) isB1 ⟨⟨by omega, by omega⟩, ih (i + 1) h1 _ _ (by omega) G1 hc1⟩)
  have l1 : ∀ (m : Nat) (f : Int) (h' : AH) (x4 x5 : Option AV), f + m = A + 1 → 0 ≤ f → Gx 37 37 h h' → (∀ j, 0 ≤ j → j < f → h'.1 37 j = coF (fX h 1) 0 j) → Bx z0 0 (tx mt (d+4)) k_X4_fewestPushes (fun r h' => ∃ z, r = some (.inl z) ∧ K z h') 1 [some (vR 35), some (vR 1), some (vI A), some (vI f), x4, x5] [] h' := by
    intro m
    induction m with
    | zero =>
      intro f h' x4 x5 fm f0 G hc
      exact u_X4_fewestPushes_1 (tx_mono _ _) isB1 ⟨fun _ => u_X4_fewestPushes_4 (tx_mono _ _) isB1 (le (h.1 1 3).toNat 0 h' _ _ (by omega) G (fun j a b => hc j a (by omega))), fun c => by omega⟩
    | succ m ih =>
      intro f h' x4 x5 fm f0 G hc
      have aux : ∀ v, v = coF (fX h 1) 0 f → Bx z0 0 (tx mt (d+4)) k_X4_fewestPushes (fun r h' => ∃ z, r = some (.inl z) ∧ K z h') 3 [some (vR 35), some (vR 1), some (vI A), some (vI f), none, none] [vI v, vI f, vR 37] h' := by
        intro v ev
        refine u_X4_fewestPushes_3 (tx_mono _ _) isB1 ⟨by omega, by omega, fun h1 w1 => ⟨⟨by omega, by omega⟩, ih (f + 1) h1 _ _ (by omega) (by omega) (by rw [w1]; exact G.up (Or.inl rfl) _ _) (fun j a b => ?_)⟩⟩
        rw [w1, upI_e]
        by_cases c : j = f
        · rw [if_pos ⟨rfl, c⟩, ev, c]
        · rw [if_neg (by omega)]
          exact hc j a (by omega)
      refine u_X4_fewestPushes_1 (tx_mono _ _) isB1 ⟨fun c => by omega, fun _ => ⟨fun c => u_X4_fewestPushes_2 (tx_mono _ _) isB1 (aux 1000000 ?_), fun c => aux 0 ?_⟩⟩
      · rw [coF, gv, if_neg c]
        rfl
      · rw [show f = 0 by omega]
        rfl
  exact l1 (A + 1).toNat 0 h _ _ (by omega) (by decide) Gx.rf (fun j a b => by omega)
theorem s_X6_givesToo {d : Nat} {e : Nat} {h : AH} {K : AH → Prop} (hr : okR (fM h)) (he : okE (fM h)) (e1 : (e : Int) < h.1 38 1) (hg : ∀ j, 0 ≤ j → j < 397 → h.1 59 j = gv (fM h) e j) (q : ∀ h1, Gx 59 60 h h1 → (∀ j, 0 ≤ j → j < 397 → h1.1 59 j = gv (fM h) (e + 1) j) → K h1) : cV (tx mt (d + 4)) n_X6_givesToo [vR 38, vI e] h K := by
  have e4 : h.1 38 1 ≤ 4 := he.2.1
  have f6 : (fM h).2 6 e = h.1 44 e := rfl
  have se := he.2.2 (e : Int) (by omega) e1
  rw [f6] at se
  have l8 : ∀ (m : Nat) (f : Int) (h' : AH) (x1 x3 x4 x5 x6 : Option AV), f + m = 397 → 0 ≤ f → Gx 59 60 h h' → (∀ j, 0 ≤ j → j < 397 → h'.1 60 j = gv (fM h) (e + 1) j) → (∀ j, 0 ≤ j → j < f → h'.1 59 j = gv (fM h) (e + 1) j) → Bx z0 0 (tx mt (d+3)) k_X6_givesToo (fun r h' => r = none ∧ K h') 11 [some (vR 38), x1, some (vI f), x3, x4, x5, x6] [] h' := by
    intro m
    induction m with
    | zero =>
      intro f h' x1 x3 x4 x5 x6 fm f0 G hc hd
      exact u_X6_givesToo_11 (tx_mono _ _) ⟨fun _ => u_X6_givesToo_12 (tx_mono _ _) (exV (q h' G (fun j a b => hd j a (by omega)))), fun c => by omega⟩
    | succ m ih =>
      intro f h' x1 x3 x4 x5 x6 fm f0 G hc hd
      refine u_X6_givesToo_11 (tx_mono _ _) ⟨fun c => by omega, fun _ => ⟨by omega, by omega, by omega, by omega, fun h1 w1 => ⟨⟨by omega, by omega⟩, ih (f + 1) h1 _ _ _ _ _ (by omega) (by omega) (by rw [w1]; exact G.up (Or.inl rfl) _ _) (fun j a b => ?_) (fun j a b => ?_)⟩⟩⟩
      · rw [w1, upI_e, if_neg (by omega)]
        exact hc j a b
      · rw [w1, upI_e]
        by_cases c : j = f
        · rw [if_pos ⟨rfl, c⟩, c, hc f f0 (by omega)]
        · rw [if_neg (by omega)]
          exact hd j a (by omega)
  have l2 : ∀ (al : Int) (h' : AH), 0 ≤ al → al < 397 → Gx 59 60 h h' → (∀ i, 0 ≤ i → i < 397 → h'.1 59 i = gv (fM h) e i) → ∀ (m : Nat) (n l : Int) (x5 x6 : Option AV), n + m = 100 → 0 ≤ n → 0 ≤ l → l ≤ 99999 → (∀ x4 x5 x6, Bx z0 0 (tx mt (d+3)) k_X6_givesToo (fun r h' => r = none ∧ K h') 9 [some (vR 38), some (vI ((e : Int))), some (vI al), some (vI ((gvR (pl (fM h) e) (gv (fM h) e) (h.1 44 e) al m n l))), x4, x5, x6] [] h') → Bx z0 0 (tx mt (d+3)) k_X6_givesToo (fun r h' => r = none ∧ K h') 2 [some (vR 38), some (vI ((e : Int))), some (vI al), some (vI l), some (vI n), x5, x6] [] h' := by
    intro al h' a0 a1 G hc m
    have mm : fM h' = fM h := G.M (by decide) (by decide)
    have c44 : h'.1 44 = h.1 44 := G 44 (by decide) (by decide)
    have c38 : h'.1 38 = h.1 38 := G 38 (by decide) (by decide)
    induction m with
    | zero =>
      intro n l x5 x6 nm n0 l0 l9 q
      exact u_X6_givesToo_2 (tx_mono _ _) ⟨fun _ => q _ _ _, fun c => by omega⟩
    | succ m ih =>
      intro n l x5 x6 nm n0 l0 l9 q
      rw [gvR] at q
      by_cases c : al < n
      · rw [if_pos (Or.inr c)] at q
        exact u_X6_givesToo_2 (tx_mono _ _) ⟨fun _ => q _ _ _, fun _ => ⟨fun _ => q _ _ _, fun y => by omega⟩⟩
      rw [if_neg (by omega)] at q
      have gt := gv_b he e (al - n) (Int.le_of_lt e1)
      have ci := hc (al - n) (by omega) (by omega)
      have g8 : ∀ v x3 x5 x6, v = (if pl (fM h) e n = true ∧ gv (fM h) e (al - n) < 99999 ∧ gv (fM h) e (al - n) + max 0 (h.1 44 e - n) < l then gv (fM h) e (al - n) + max 0 (h.1 44 e - n) else l) → Bx z0 0 (tx mt (d+3)) k_X6_givesToo (fun r h' => r = none ∧ K h') 8 [some (vR 38), some (vI ((e : Int))), some (vI al), x3, some (vI n), x5, x6] [vI v] h' := by
        intro v x3 x5 x6 ev
        rw [← ev] at q
        exact u_X6_givesToo_8 (tx_mono _ _) ⟨⟨by omega, by omega⟩, ih (n + 1) v _ _ (by omega) (by omega) (by rw [ev]; split <;> omega) (by rw [ev]; split <;> omega) q⟩
      have g5 : ¬ (pl (fM h) e n = true ∧ gv (fM h) e (al - n) < 99999) → ∀ g, Bx z0 0 (tx mt (d+3)) k_X6_givesToo (fun r h' => r = none ∧ K h') 5 [some (vR 38), some (vI ((e : Int))), some (vI al), some (vI l), some (vI n), some (vI g), none] [] h' := by
        intro y g
        exact u_X6_givesToo_5 (tx_mono _ _) (u_X6_givesToo_6 (tx_mono _ _) ⟨fun _ => u_X6_givesToo_7 (tx_mono _ _) (g8 l _ _ _ (by rw [if_neg (fun z => y ⟨z.1, z.2.1⟩)])), fun z => absurd rfl z⟩)
      have g4 : ∀ g, g = max 0 (h.1 44 e - n) → Bx z0 0 (tx mt (d+3)) k_X6_givesToo (fun r h' => r = none ∧ K h') 4 [some (vR 38), some (vI ((e : Int))), some (vI al), some (vI l), some (vI n), none, none] [vI g] h' := by
        intro g eg
        refine u_X6_givesToo_4 (tx_mono _ _) (s_X6_wouldHave (by rw [mm]; exact hr) (by rw [mm]; exact he) (by omega) (by rw [mm]; exact e1) (by omega) ?_)
        rw [mm, ci]
        refine ⟨fun c2 => g5 (fun z => ?_) g, fun c2 => ⟨⟨by omega, by omega⟩, by omega, by omega, fun c3 => g5 (fun z => by omega) g, fun c3 => u_X6_givesToo_6 (tx_mono _ _) ⟨fun z => absurd z (by decide), fun _ => ⟨⟨by omega, by omega⟩, by omega, by omega, ?_⟩⟩⟩⟩
        · rw [b2i_z c2] at z
          exact absurd z.1 (by decide)
        · rw [ci]
          refine ⟨⟨by omega, by omega⟩, fun c4 => u_X6_givesToo_7 (tx_mono _ _) (g8 l _ _ _ ?_), fun c4 => ⟨⟨by omega, by omega⟩, by omega, by omega, ⟨by omega, by omega⟩, g8 _ _ _ _ ?_⟩⟩
          · rw [if_neg (fun z => by omega)]
          · rw [if_pos ⟨b2i_o c2, by omega, by omega⟩, eg]
      refine u_X6_givesToo_2 (tx_mono _ _) ⟨fun y => by omega, fun _ => ⟨fun y => by omega, fun _ => ?_⟩⟩
      rw [c44]
      exact ⟨by omega, by omega, fun y => u_X6_givesToo_3 (tx_mono _ _) (g4 0 (by omega)), fun y => ⟨by omega, by omega, ⟨by omega, by omega⟩, g4 _ (by omega)⟩⟩
  have l1 : ∀ (m : Nat) (f : Int) (h' : AH) (x3 x4 x5 x6 : Option AV), f + m = 397 → 0 ≤ f → Gx 59 60 h h' → (∀ i, 0 ≤ i → i < 397 → h'.1 59 i = gv (fM h) e i) → (∀ j, 0 ≤ j → j < f → h'.1 60 j = gv (fM h) (e + 1) j) → Bx z0 0 (tx mt (d+3)) k_X6_givesToo (fun r h' => r = none ∧ K h') 1 [some (vR 38), some (vI ((e : Int))), some (vI f), x3, x4, x5, x6] [] h' := by
    intro m
    induction m with
    | zero =>
      intro f h' x3 x4 x5 x6 fm f0 G hc hd
      exact u_X6_givesToo_1 (tx_mono _ _) ⟨fun _ => u_X6_givesToo_10 (tx_mono _ _) (l8 397 0 h' _ _ _ _ _ (by decide) (by decide) G (fun j a b => hd j a (by omega)) (fun j a b => by omega)), fun c => by omega⟩
    | succ m ih =>
      intro f h' x3 x4 x5 x6 fm f0 G hc hd
      refine u_X6_givesToo_1 (tx_mono _ _) ⟨fun c => by omega, fun _ => l2 f h' f0 (by omega) G hc 100 0 99999 _ _ (by decide) (by decide) (by decide) (by decide) (fun x4 x5 x6 => u_X6_givesToo_9 (tx_mono _ _) ⟨f0, by omega, fun h1 w1 => ⟨⟨by omega, by omega⟩, ih (f + 1) h1 _ _ _ _ (by omega) (by omega) (by rw [w1]; exact G.up (Or.inr rfl) _ _) (fun i a b => ?_) (fun j a b => ?_)⟩⟩)⟩
      · rw [w1, upI_e, if_neg (by omega)]
        exact hc i a b
      · rw [w1, upI_e]
        by_cases c : j = f
        · rw [if_pos ⟨rfl, c⟩, c]
          rfl
        · rw [if_neg (by omega)]
          exact hd j a (by omega)
  exact cV_i (e_X6_givesToo (l1 397 0 h _ _ _ _ (by decide) (by decide) Gx.rf hg (fun j a b => by omega)))
set_option maxHeartbeats 8000000 in
theorem pushes_rf {d : Nat} {n : Int} {h : AH} (n0 : 0 ≤ n) (n1 : n ≤ 1000) (H : Inv n h) (c : h.1 1 0 = 0) : cI (tx mt (d + 30)) n_X5_pushes [vR 0] h (fun z h1 => cI (tx mt (d + 30)) n_X6_pushes [vR 38] h1 (fun z' h2 => z = z' ∧ Inv (n + 1) h2)) := by
  have fa := H.facts
  unfold Facts at fa
  repeat' first
    | first | exact H.m12 | exact H.rf (by decide) (by decide)
    | (with_reducible refine exI ?_)
    | (with_reducible refine exL ?_)
    | (with_reducible refine exV ?_)
    | (with_reducible apply And.intro)
    | (with_reducible refine cI_i (e_X5_pushes ?_))
    | (with_reducible refine cL_i (e_X5_pushes ?_))
    | (with_reducible refine cV_i (e_X5_pushes ?_))
    | (with_reducible refine u_X5_pushes_1 (tx_mono _ _) ?_)
    | (with_reducible refine cI_i (e_X6_pushes ?_))
    | (with_reducible refine cL_i (e_X6_pushes ?_))
    | (with_reducible refine cV_i (e_X6_pushes ?_))
    | (with_reducible refine u_X6_pushes_1 (tx_mono _ _) ?_)
    | (with_reducible refine u_X6_pushes_2 (tx_mono _ _) ?_)
    | (with_reducible refine u_X6_pushes_3 (tx_mono _ _) ?_)
    | (with_reducible refine u_X6_pushes_4 (tx_mono _ _) ?_)
    | (with_reducible refine u_X6_pushes_5 (tx_mono _ _) ?_)
    | (with_reducible refine u_X6_pushes_6 (tx_mono _ _) ?_)
    | (with_reducible refine u_X6_pushes_7 (tx_mono _ _) ?_)
    | (with_reducible refine u_X6_pushes_8 (tx_mono _ _) ?_)
    | (with_reducible refine u_X6_pushes_9 (tx_mono _ _) ?_)
    | (with_reducible apply s_X4_fewestPushes)
    | (with_reducible apply c_X5_refuse)
    | (with_reducible apply s_X6_givesToo)
    | (with_reducible apply c_X6_refuse)
    | exact isB1
    | exact True.intro
    | (intro _ e9; subst e9)
    | (intro c9; exfalso; first | omega | (simp only [inI, inL, upI_e, Nat.reduceEqDiff, Nat.reduceAdd, true_and, and_true, false_and, and_false, if_true, if_false, ite_true, ite_false, reduceIte, Int.reduceEq, not_true_eq_false, not_false_eq_true, Decidable.not_not] at c9; omega))
    | (intro c9; (try simp only [inI, inL, upI_e, Nat.reduceEqDiff, Nat.reduceAdd, true_and, and_true, false_and, and_false, if_true, if_false, ite_true, ite_false, reduceIte, Int.reduceEq, not_true_eq_false, not_false_eq_true, Decidable.not_not] at c9))
    | (with_reducible show _ ≤ _; first | omega | (simp only [inI, inL, upI_e, Nat.reduceEqDiff, Nat.reduceAdd, true_and, and_true, false_and, and_false, if_true, if_false, ite_true, ite_false, reduceIte, Int.reduceEq, not_true_eq_false, not_false_eq_true, Decidable.not_not]; omega))
    | (with_reducible show _ < _; first | omega | (simp only [inI, inL, upI_e, Nat.reduceEqDiff, Nat.reduceAdd, true_and, and_true, false_and, and_false, if_true, if_false, ite_true, ite_false, reduceIte, Int.reduceEq, not_true_eq_false, not_false_eq_true, Decidable.not_not]; omega))
    | (with_reducible show _ = _; first | omega | (simp only [inI, inL, upI_e, Nat.reduceEqDiff, Nat.reduceAdd, true_and, and_true, false_and, and_false, if_true, if_false, ite_true, ite_false, reduceIte, Int.reduceEq, not_true_eq_false, not_false_eq_true, Decidable.not_not]; omega))
    | (with_reducible show _ ∧ _; first | omega | (simp only [inI, inL, upI_e, Nat.reduceEqDiff, Nat.reduceAdd, true_and, and_true, false_and, and_false, if_true, if_false, ite_true, ite_false, reduceIte, Int.reduceEq, not_true_eq_false, not_false_eq_true, Decidable.not_not]; omega))
    | (with_reducible show _ ∨ _; first | omega | (simp only [inI, inL, upI_e, Nat.reduceEqDiff, Nat.reduceAdd, true_and, and_true, false_and, and_false, if_true, if_false, ite_true, ite_false, reduceIte, Int.reduceEq, not_true_eq_false, not_false_eq_true, Decidable.not_not]; omega))
    | (with_reducible show inI _; first | omega | (simp only [inI, inL, upI_e, Nat.reduceEqDiff, Nat.reduceAdd, true_and, and_true, false_and, and_false, if_true, if_false, ite_true, ite_false, reduceIte, Int.reduceEq, not_true_eq_false, not_false_eq_true, Decidable.not_not]; omega))
    | (with_reducible show inL _; first | omega | (simp only [inI, inL, upI_e, Nat.reduceEqDiff, Nat.reduceAdd, true_and, and_true, false_and, and_false, if_true, if_false, ite_true, ite_false, reduceIte, Int.reduceEq, not_true_eq_false, not_false_eq_true, Decidable.not_not]; omega))
    | (with_reducible show ¬ _; first | omega | (simp only [inI, inL, upI_e, Nat.reduceEqDiff, Nat.reduceAdd, true_and, and_true, false_and, and_false, if_true, if_false, ite_true, ite_false, reduceIte, Int.reduceEq, not_true_eq_false, not_false_eq_true, Decidable.not_not]; omega))
theorem op_pushes : OpI n_X5_pushes n_X6_pushes [] := by
  intro d n h n0 n1 H
  have fa := H.facts
  unfold Facts at fa
  obtain ⟨oR, oE, oS, oP, oZ, mE, mR, mEa, mS, mZ⟩ := H.ok
  by_cases c : h.1 1 0 = 0
  · exact pushes_rf n0 n1 H c
  refine cI_i (e_X5_pushes ⟨fun _ => u_X5_pushes_1 (tx_mono _ _) (s_X4_fewestPushes oR oE (by omega) (fun h1 G1 => exI ?_)), fun y => absurd c y⟩)
  refine cI_i (e_X6_pushes (fun h2 w2 => ?_))
  have u2 : ∀ c j, c ≠ 37 → h2.1 c j = (upI h 38 12 0).1 c j := by
    intro c j hc
    rw [w2, upI_e, upI_e, G1 c hc hc]
  have u2' : ∀ c, c ≠ 37 → h2.1 c = (upI h 38 12 0).1 c := fun c hc => funext (fun j => u2 c j hc)
  have c0 : h2.1 38 0 = h.1 1 0 := by rw [u2 38 0 (by decide)]; (simp only [inI, inL, upI_e, Nat.reduceEqDiff, Nat.reduceAdd, true_and, and_true, false_and, and_false, if_true, if_false, ite_true, ite_false, reduceIte, Int.reduceEq, not_true_eq_false, not_false_eq_true, Decidable.not_not]); omega
  have c1 : h2.1 38 1 = h.1 1 3 := by rw [u2 38 1 (by decide)]; (simp only [inI, inL, upI_e, Nat.reduceEqDiff, Nat.reduceAdd, true_and, and_true, false_and, and_false, if_true, if_false, ite_true, ite_false, reduceIte, Int.reduceEq, not_true_eq_false, not_false_eq_true, Decidable.not_not]); omega
  have m2 : fM h2 = fX h 1 := by
    rw [← mE]
    exact fM_c (fun c hc => u2' c (by omega)) (fun j _ => u2 38 j (by decide))
  have x2 : ∀ i, h2.1 44 i = (fX h 1).2 6 i := fun i => by rw [← m2]; rfl
  have en : (fX h 1).1 1 = h.1 1 3 := rfl
  have e4 := oE.2.1
  have e0 := oE.1
  have lp : ∀ (m i : Nat) (h' : AH), i + m = (h.1 1 3).toNat → Gx 59 60 h2 h' → (∀ j, 0 ≤ j → j < 397 → h'.1 59 j = gv (fX h 1) i j) → Bx z0 0 (tx mt (d + 29)) k_X6_pushes (fun r h' => ∃ z', r = some (.inl z') ∧ puV (fX h 1) = z' ∧ Inv (n + 1) h') 6 [some (vR 38), some (vI ((stS (fX h 1) i))), some (vI ((i : Int)))] [] h' := by
    intro m
    induction m with
    | zero =>
      intro i h' im G hc
      have sb := stS_b oE i (by omega)
      have c38 : h'.1 38 = h2.1 38 := G 38 (by decide) (by decide)
      have iE : i = (h.1 1 3).toNat := by omega
      have fin : Inv (n + 1) h' := H.scr (fun c _ _ a _ _ _ => by rw [G c (by omega) (by omega), u2' c (by omega)])
      have ev : puV (fX h 1) = if gv (fX h 1) i (stS (fX h 1) i) < 99999 then gv (fX h 1) i (stS (fX h 1) i) else -9 := by rw [iE]; rfl
      refine u_X6_pushes_6 (tx_mono _ _) ⟨fun _ => u_X6_pushes_7 (tx_mono _ _) ⟨by omega, by omega, ?_⟩, fun y => by rw [c38] at y; omega⟩
      rw [hc _ (by omega) (by omega)]
      refine ⟨fun y => u_X6_pushes_8 (tx_mono _ _) (u_X6_pushes_9 (tx_mono _ _) (exI ⟨?_, fin⟩)), fun y => ⟨by omega, by omega, u_X6_pushes_9 (tx_mono _ _) (exI ⟨?_, fin⟩)⟩⟩
      · rw [ev, if_neg (by omega)]
      · rw [ev, if_pos (by omega)]
    | succ m ih =>
      intro i h' im G hc
      have sb := stS_b oE i (by omega)
      have se := oE.2.2 (i : Int) (by omega) (by omega)
      have mm : fM h' = fX h 1 := by rw [G.M (by decide) (by decide), m2]
      have c38 : h'.1 38 = h2.1 38 := G 38 (by decide) (by decide)
      refine u_X6_pushes_6 (tx_mono _ _) ⟨fun y => by rw [c38] at y; omega, fun _ => s_X6_givesToo (e := i) (by rw [mm]; exact oR) (by rw [mm]; exact oE) (by rw [c38]; omega) (fun j a b => by rw [mm]; exact hc j a b) (fun h3 G3 hc3 => ?_)⟩
      rw [mm] at hc3
      have x3 : h3.1 44 i = (fX h 1).2 6 i := by rw [G3 44 (by decide) (by decide), G 44 (by decide) (by decide), x2]
      rw [x3]
      exact ⟨by omega, by omega, ⟨by omega, by omega⟩, ⟨by omega, by omega⟩, ih (i + 1) h3 (by omega) (G.tr G3) hc3⟩
  have l1 : ∀ (m : Nat) (f : Int) (h' : AH) (x : Option AV), f + m = 397 → 0 ≤ f → Gx 59 60 h2 h' → (∀ j, 0 ≤ j → j < f → h'.1 59 j = gv (fX h 1) 0 j) → Bx z0 0 (tx mt (d + 29)) k_X6_pushes (fun r h' => ∃ z', r = some (.inl z') ∧ puV (fX h 1) = z' ∧ Inv (n + 1) h') 2 [some (vR 38), some (vI f), x] [] h' := by
    intro m
    induction m with
    | zero =>
      intro f h' x fm f0 G hc
      exact u_X6_pushes_2 (tx_mono _ _) ⟨fun _ => u_X6_pushes_5 (tx_mono _ _) (lp (h.1 1 3).toNat 0 h' (by omega) G (fun j a b => hc j a (by omega))), fun c => by omega⟩
    | succ m ih =>
      intro f h' x fm f0 G hc
      have aux : ∀ v, v = gv (fX h 1) 0 f → Bx z0 0 (tx mt (d + 29)) k_X6_pushes (fun r h' => ∃ z', r = some (.inl z') ∧ puV (fX h 1) = z' ∧ Inv (n + 1) h') 4 [some (vR 38), some (vI f), none] [vI v, vI f, vR 59] h' := by
        intro v ev
        refine u_X6_pushes_4 (tx_mono _ _) ⟨by omega, by omega, fun h1 w1 => ⟨⟨by omega, by omega⟩, ih (f + 1) h1 _ (by omega) (by omega) (by rw [w1]; exact G.up (Or.inl rfl) _ _) (fun j a b => ?_)⟩⟩
        rw [w1, upI_e]
        by_cases c : j = f
        · rw [if_pos ⟨rfl, c⟩, ev, c]
        · rw [if_neg (by omega)]
          exact hc j a (by omega)
      exact u_X6_pushes_2 (tx_mono _ _) ⟨fun c => by omega, fun _ => ⟨fun c => u_X6_pushes_3 (tx_mono _ _) (aux 99999 (by rw [gv, if_neg c])), fun c => aux 0 (by rw [gv, if_pos (by omega)])⟩⟩
  exact ⟨fun _ => u_X6_pushes_1 (tx_mono _ _) (l1 397 0 h2 _ (by decide) (by decide) Gx.rf (fun j a b => by omega)), fun y => by omega⟩
