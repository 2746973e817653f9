/-! ===== the reference's turns and suppers ===== -/
theorem s_X6_leastFor {d : Nat} {e s : Int} {h : AH} {k : Int → AH → Prop} (hr : okR (fM h)) (he : okE (fM h)) (hS : okS (fM h)) (h0 : 0 ≤ e) (h1 : e < (fM h).1 1) (hs : s = 1 ∨ s = 2 ∨ s = 3 ∨ s = 4) (q : k (leastP (fM h) e s) h) : cI (tx mt (d + 4)) n_X6_leastFor [vR 38, vI e, vI s] h k := by
  have e4 : (fM h).1 1 ≤ 4 := he.2.1
  have f2 : (fM h).1 2 = h.1 38 2 := rfl
  have f6 : (fM h).2 6 e = h.1 44 e := rfl
  have ht := he.2.2 e h0 h1
  obtain ⟨b1, b2, -⟩ := hS
  refine e_X6_leastFor ?_
  have key : ∀ (m i : Nat), i + m = 61 → (∀ j, j < i → hitB (fM h) e s j = false) → Bx z0 0 (tx mt (d + 3)) k_X6_leastFor (fun r h' => ∃ z, r = some (.inl z) ∧ k z h') 1 [some (vR 38), some (vI e), some (vI s), some (vI ((i : Int) * s))] [] h := by
    intro m
    have done : ∀ i : Nat, (b2 : (fM h).1 2 < (i : Int) * s ∨ 100 ≤ (fM h).2 6 e + (i : Int) * s) → (∀ j, j < i → hitB (fM h) e s j = false) → Bx z0 0 (tx mt (d + 3)) k_X6_leastFor (fun r h' => ∃ z, r = some (.inl z) ∧ k z h') 3 [some (vR 38), some (vI e), some (vI s), some (vI ((i : Int) * s))] [] h := by
      intro i hi hno
      refine u_X6_leastFor_3 (tx_mono _ _) ⟨_, rfl, kq q ?_⟩
      rw [leastP, findN_miss (fun j _ => ?_), if_neg (by omega)]
      by_cases hj : j < i
      · exact hno j hj
      · have := Int.mul_le_mul_of_nonneg_right (show (i : Int) ≤ (j : Int) by omega) (show 0 ≤ s by omega)
        unfold hitB
        rcases hi with hi | hi
        · rw [decide_eq_false (by omega)]; rfl
        · rw [decide_eq_false (p := (fM h).2 6 e + (j : Int) * s ≤ 99) (by omega)]; simp
    induction m with
    | zero =>
      intro i hm hno
      obtain ⟨m1, m2, m3⟩ := mulS (i := i) hs
      refine u_X6_leastFor_1 (tx_mono _ _) ⟨fun c => done i (Or.inl (by omega)) hno, fun c => absurd c (by omega)⟩
    | succ m ih =>
      intro i hm hno
      obtain ⟨m1, m2, m3⟩ := mulS (i := i) hs
      refine u_X6_leastFor_1 (tx_mono _ _) ⟨fun c => done i (Or.inl (by omega)) hno, fun c => ⟨h0, by omega, ⟨by omega, by omega⟩, fun c2 => done i (Or.inr (by omega)) hno, fun c2 => ⟨h0, by omega, ⟨by omega, by omega⟩, s_X6_wouldHave hr he h0 h1 (by omega) ⟨fun c3 => ?_, fun c3 => ?_⟩⟩⟩⟩
      · refine u_X6_leastFor_2 (tx_mono _ _) ⟨⟨by omega, by omega⟩, ?_⟩
        have := ih (i + 1) (by omega) (fun j hj => by
          by_cases hji : j < i
          · exact hno j hji
          · rw [show j = i by omega, hitB, show pl (fM h) e ((fM h).2 6 e + (i : Int) * s) = false from b2i_z c3]
            simp)
        rw [show ((i + 1 : Nat) : Int) * s = (i : Int) * s + s by rw [Int.natCast_add]; exact m2] at this
        exact this
      · refine ⟨_, rfl, kq q ?_⟩
        rw [leastP, findN_hit (m := i) hno (by
          simp only [hitB, Bool.and_eq_true, decide_eq_true_eq]
          exact ⟨by omega, by omega, b2i_o c3⟩) (by omega), if_pos (by omega)]
  have := key 61 0 rfl (fun j hj => by omega)
  rw [show ((0 : Nat) : Int) * s = 0 by simp] at this
  exact this
theorem s_X6_playful {d : Nat} {h : AH} {k : Int → AH → Prop} (hS : okS (fM h)) (q : k (playP (fM h)) h) : cI (tx mt (d + 1)) n_X6_playful [vR 38] h k := by
  have f2 : (fM h).1 2 = h.1 38 2 := rfl
  have f4 : (fM h).1 4 = h.1 38 4 := rfl
  obtain ⟨b1, b2, b3, b4, b5, b6, -⟩ := hS
  refine e_X6_playful ?_
  rw [playP, f2, f4] at q
  have key : ∀ (m : Nat) (i : Int), i + m = 7 → 1 ≤ i → (∀ j : Int, 1 ≤ j → j < i → ¬ (h.1 38 2 - j) % (h.1 38 4 + 1) = 0) → Bx z0 0 (tx mt d) k_X6_playful (fun r h' => ∃ z, r = some (.inl z) ∧ k z h') 1 [some (vR 38), some (vI i)] [] h := by
    intro m
    have hemod : ∀ j : Int, (h.1 38 2 - j) % (h.1 38 4 + 1) = 0 ↔ h.1 38 2 % (h.1 38 4 + 1) = j % (h.1 38 4 + 1) := fun j => by
      rw [Int.emod_emod_of_dvd _ (Int.dvd_refl _) |>.symm, Int.emod_eq_emod_iff_emod_sub_eq_zero, Int.emod_emod_of_dvd _ (Int.dvd_refl _)]
    have hr := emod_r (a := h.1 38 2) (b := h.1 38 4 + 1) (by omega)
    have done : ∀ i : Int, (h.1 38 4 < i ∨ h.1 38 2 < i) → (∀ j : Int, 1 ≤ j → j < i → ¬ (h.1 38 2 - j) % (h.1 38 4 + 1) = 0) → h.1 38 2 % (h.1 38 4 + 1) = 0 := fun i hi hno => by
      rcases Int.lt_or_le 0 (h.1 38 2 % (h.1 38 4 + 1)) with h0 | h0
      · exfalso
        have hle := Int.emod_def (h.1 38 2) (h.1 38 4 + 1)
        have hle2 : 0 ≤ (h.1 38 4 + 1) * (h.1 38 2 / (h.1 38 4 + 1)) := Int.mul_nonneg (by omega) (Int.ediv_nonneg (by omega) (by omega))
        exact hno (h.1 38 2 % (h.1 38 4 + 1)) (by omega) (by omega) ((hemod _).mpr (Int.emod_emod_of_dvd _ (Int.dvd_refl _)).symm)
      · omega
    induction m with
    | zero =>
      intro i hm h1 hno
      refine u_X6_playful_1 (tx_mono _ _) ⟨fun c => ?_, fun c => absurd c (by omega)⟩
      exact u_X6_playful_3 (tx_mono _ _) ⟨_, rfl, kq q (by rw [if_pos (done i (Or.inl c) hno)])⟩
    | succ m ih =>
      intro i hm h1 hno
      refine u_X6_playful_1 (tx_mono _ _) ⟨fun c => ?_, fun c => ⟨fun c2 => ?_, fun c2 => ⟨⟨by omega, by omega⟩, ⟨by omega, by omega⟩, by omega, by omega, fun c3 => ?_, fun c3 => ?_⟩⟩⟩
      · exact u_X6_playful_3 (tx_mono _ _) ⟨_, rfl, kq q (by rw [if_pos (done i (Or.inl c) hno)])⟩
      · exact u_X6_playful_3 (tx_mono _ _) ⟨_, rfl, kq q (by rw [if_pos (done i (Or.inr c2) hno)])⟩
      · refine u_X6_playful_2 (tx_mono _ _) ⟨⟨by omega, by omega⟩, ih (i + 1) (by omega) (by omega) (fun j j1 j2 => ?_)⟩
        by_cases hj : j < i
        · exact hno j j1 hj
        · rw [show j = i by omega]; exact c3
      · refine ⟨_, rfl, kq q ?_⟩
        have h3 : (h.1 38 2 - i) % (h.1 38 4 + 1) = 0 := by omega
        have h4 := (hemod i).mp h3
        rw [h4, Int.emod_eq_of_lt (by omega) (by omega), if_neg (by omega)]
  exact key 6 1 (by omega) (by omega) (fun j h1 h2 => by omega)
theorem s_X6_wants {d : Nat} {h : AH} {k : Int → AH → Prop} (hr : okR (fM h)) (he : okE (fM h)) (hS : okS (fM h)) (hn : (fM h).1 5 < (fM h).1 1) (q : k (wantP (fM h)) h) : cI (tx mt (d + 5)) n_X6_wants [vR 38, vI (h.1 38 5)] h k := by
  have e4 : (fM h).1 1 ≤ 4 := he.2.1
  have f5 : (fM h).1 5 = h.1 38 5 := rfl
  have f3 : (fM h).1 3 = h.1 38 3 := rfl
  have g3 : (fM h).2 3 ((fM h).1 5) = h.1 41 (h.1 38 5) := rfl
  have g4 : (fM h).2 4 ((fM h).1 5) = h.1 42 (h.1 38 5) := rfl
  have hp := playP_r hS
  have hS' := hS
  obtain ⟨a1, a2, a3, a4, a5, a6, a7, -⟩ := hS
  have hk := he.2.2 ((fM h).1 5) a7 hn
  refine e_X6_wants ⟨by omega, by omega, fun c => ?_, fun c => ?_, fun c => ?_, fun c => ?_, fun c => ?_, fun c => ?_, trivial⟩
  · have w : wantP (fM h) = max 1 (playP (fM h) - 1) := by
      rw [wantP, g3, if_neg (by omega), if_neg (by omega), if_neg (by omega), if_neg (by omega), if_pos (by omega)]
    refine u_X6_wants_8 (tx_mono _ _) (s_X6_playful hS' ⟨fun c2 => u_X6_wants_9 (tx_mono _ _) (s_X6_playful hS' ⟨⟨by omega, by omega⟩, u_X6_wants_10 (tx_mono _ _) ⟨_, rfl, kq q ?_⟩⟩), fun c2 => u_X6_wants_10 (tx_mono _ _) ⟨_, rfl, kq q ?_⟩⟩)
    · omega
    · omega
  · exact u_X6_wants_1 (tx_mono _ _) ⟨_, rfl, kq q (by rw [wantP, g3, if_neg (by omega), if_neg (by omega), if_neg (by omega), if_neg (by omega), if_neg (by omega)])⟩
  · exact u_X6_wants_2 (tx_mono _ _) (s_X6_leastFor hr he hS' (by omega) (by omega) (by omega) ⟨_, rfl, kq q (by rw [wantP, g3, if_pos c, f5])⟩)
  · have w : wantP (fM h) = max 1 (h.1 42 (h.1 38 5)) := by rw [wantP, g3, g4, if_neg (by omega), if_pos c]
    refine u_X6_wants_3 (tx_mono _ _) ⟨by omega, by omega, fun c2 => u_X6_wants_4 (tx_mono _ _) ⟨by omega, by omega, u_X6_wants_5 (tx_mono _ _) ⟨_, rfl, kq q (by omega)⟩⟩, fun c2 => u_X6_wants_5 (tx_mono _ _) ⟨_, rfl, kq q (by omega)⟩⟩
  · exact u_X6_wants_6 (tx_mono _ _) (s_X6_leastFor hr he hS' (by omega) (by omega) (by omega) ⟨_, rfl, kq q (by rw [wantP, g3, if_neg (by omega), if_neg (by omega), if_pos c, f5, f3])⟩)
  · exact u_X6_wants_7 (tx_mono _ _) (s_X6_playful hS' ⟨_, rfl, kq q (by rw [wantP, g3, if_neg (by omega), if_neg (by omega), if_neg (by omega), if_pos c])⟩)
def tkM (h : AH) (t : Int) : AH := upI (upI (upI h 38 2 (h.1 38 2 - t)) 44 (h.1 38 5) (min 99 (h.1 44 (h.1 38 5) + t))) 38 5 ((h.1 38 5 + 1) % h.1 38 1)
theorem tkM_fr (h : AH) (t : Int) : frM h (tkM h t) := by
  refine ⟨fun c h1 h2 => ?_, fun j h1 h2 => ?_, rfl⟩
  · funext j
    simp only [tkM, upI_e]
    rw [if_neg (by omega), if_neg (by omega), if_neg (by omega)]
  · simp only [tkM, upI_e]
    rw [if_neg (by omega), if_neg (by omega), if_neg (by omega)]
theorem tkM_fM (h : AH) (t : Int) : fM (tkM h t) = takeB (fM h) t := by
  have e1 : (fM (tkM h t)).1 = (takeB (fM h) t).1 := by
    funext n
    match n with
    | 0 | 1 | 2 | 3 | 4 | 5 => simp [fM, tkM, takeB, upI_e, ms]
    | n + 6 => simp [fM, tkM, takeB, upI_e, ms]
  have e2 : (fM (tkM h t)).2 = (takeB (fM h) t).2 := by
    funext j i
    match j with
    | 0 | 1 | 2 | 3 | 4 | 5 | 6 => simp [fM, tkM, takeB, upI_e, ms, ma]
    | j + 7 => simp [fM, tkM, takeB, upI_e, ms, ma]
  exact Prod.ext e1 e2
theorem s_X6_turnOne {d : Nat} {h : AH} {k : Int → AH → Prop} (hr : okR (fM h)) (he : okE (fM h)) (hS : okS (fM h)) (hn : (fM h).1 5 < (fM h).1 1) (q : ∀ h', fM h' = turnB (fM h) → frM h h' → k (turnT (fM h)) h') : cI (tx mt (d + 6)) n_X6_turnOne [vR 38] h k := by
  have e4 : (fM h).1 1 ≤ 4 := he.2.1
  have f5 : (fM h).1 5 = h.1 38 5 := rfl
  have f2 : (fM h).1 2 = h.1 38 2 := rfl
  have f1 : (fM h).1 1 = h.1 38 1 := rfl
  have g6 : (fM h).2 6 ((fM h).1 5) = h.1 44 (h.1 38 5) := rfl
  have hw := wantP_r he hS hn
  have hS' := hS
  obtain ⟨a1, a2, a3, a4, a5, a6, a7, -⟩ := hS
  have hk := he.2.2 ((fM h).1 5) a7 hn
  have q := q (tkM h (turnT (fM h))) (tkM_fM h _) (tkM_fr h _)
  have two : ∀ t, t = turnT (fM h) → ∀ x : Option AV, Bx z0 0 (tx mt (d + 5)) k_X6_turnOne (fun r h' => ∃ z, r = some (.inl z) ∧ k z h') 2 [some (vR 38), x] [vI t] h := by
    intro t ht x
    have t0 : 0 ≤ t ∧ t ≤ h.1 38 2 := by unfold turnT at ht; omega
    have four : ∀ (h1 : AH) (v : Int), h1 = upI h 38 2 (h.1 38 2 - t) → v = min 99 (h.1 44 (h.1 38 5) + t) → Bx z0 0 (tx mt (d + 5)) k_X6_turnOne (fun r h' => ∃ z, r = some (.inl z) ∧ k z h') 4 [some (vR 38), some (vI t)] [vI v, vI (h.1 38 5), vR 44] h1 := by
      intro h1 v w1 wv
      refine u_X6_turnOne_4 (tx_mono _ _) ⟨by omega, by omega, fun h2 w2 => ?_⟩
      have y1 : h2.1 38 5 = h.1 38 5 := by rw [w2, upI_e, if_neg (by omega), w1, upI_e, if_neg (by omega)]
      have y2 : h2.1 38 1 = h.1 38 1 := by rw [w2, upI_e, if_neg (by omega), w1, upI_e, if_neg (by omega)]
      rw [y1, y2]
      refine ⟨⟨by omega, by omega⟩, by omega, by omega, fun h3 w3 => ⟨_, rfl, ?_⟩⟩
      rw [w3, w2, w1, wv, ht]
      exact q
    refine u_X6_turnOne_2 (tx_mono _ _) ⟨⟨by omega, by omega⟩, fun h1 w1 => ?_⟩
    have x1 : h1.1 38 5 = h.1 38 5 := by rw [w1, upI_e, if_neg (by omega)]
    have x2 : h1.1 44 (h.1 38 5) = h.1 44 (h.1 38 5) := by rw [w1, upI_e, if_neg (by omega)]
    rw [x1, x2]
    refine ⟨by omega, by omega, ⟨by omega, by omega⟩, fun c => u_X6_turnOne_3 (tx_mono _ _) ?_, fun c => four h1 99 w1 (by omega)⟩
    rw [x1, x2]
    exact ⟨by omega, by omega, ⟨by omega, by omega⟩, four h1 _ w1 (by omega)⟩
  refine e_X6_turnOne (s_X6_wants hr he hS' hn ⟨fun c => u_X6_turnOne_1 (tx_mono _ _) (two _ (by unfold turnT; omega) _), fun c => two _ (by unfold turnT; omega) _⟩)
theorem s_X6_supperNow {d : Nat} {h : AH} {k : Int → AH → Prop} (hb : okBd (fM h)) (hn : (fM h).1 5 < (fM h).1 1) (q : ∀ h', fM h' = (supB 100 0 (fM h)).2 → frM h h' → k (supB 100 0 (fM h)).1 h') : cI (tx mt (d + 7)) n_X6_supperNow [vR 38] h k := by
  refine e_X6_supperNow ?_
  have key : ∀ (n : Nat) (t idle : Int) (h : AH), okBd (fM h) → (fM h).1 5 < (fM h).1 1 → t + n = 100 → 0 ≤ t → 0 ≤ idle → idle ≤ 4 → (∀ h', fM h' = (supB n idle (fM h)).2 → frM h h' → k (t + (supB n idle (fM h)).1) h') → Bx z0 0 (tx mt (d + 6)) k_X6_supperNow (fun r h' => ∃ z, r = some (.inl z) ∧ k z h') 1 [some (vR 38), some (vI t), some (vI idle)] [] h := by
    intro n
    induction n with
    | zero =>
      intro t idle h hb hn ht t0 i0 i4 q
      have fin : Bx z0 0 (tx mt (d + 6)) k_X6_supperNow (fun r h' => ∃ z, r = some (.inl z) ∧ k z h') 4 [some (vR 38), some (vI t), some (vI idle)] [] h := u_X6_supperNow_4 (tx_mono _ _) ⟨_, rfl, kq (q h rfl frM.rf) (by show t = t + 0; omega)⟩
      exact u_X6_supperNow_1 (tx_mono _ _) ⟨fun c => fin, fun c => ⟨fun c => fin, fun c => ⟨fun c => fin, fun c => absurd c (by omega)⟩⟩⟩
    | succ n ih =>
      intro t idle h hb hn ht t0 i0 i4 q
      have f2 : (fM h).1 2 = h.1 38 2 := rfl
      have f1 : (fM h).1 1 = h.1 38 1 := rfl
      have e4 : (fM h).1 1 ≤ 4 := hb.2.1.2.1
      have hpos : 0 < (fM h).1 1 := by have := hb.2.2.1.2.2.2.2.2.2.1; omega
      refine u_X6_supperNow_1 (tx_mono _ _) ⟨fun c2 => ?_, fun c2 => ⟨fun c3 => ?_, fun c3 => ⟨fun c => absurd c (by omega), fun c => ?_⟩⟩⟩
      · rw [supB, if_neg (by omega)] at q
        exact u_X6_supperNow_4 (tx_mono _ _) ⟨_, rfl, kq (q h rfl frM.rf) (by show t = t + 0; omega)⟩
      · rw [supB, if_neg (by omega)] at q
        exact u_X6_supperNow_4 (tx_mono _ _) ⟨_, rfl, kq (q h rfl frM.rf) (by show t = t + 0; omega)⟩
      · rw [supB, if_pos (by omega)] at q
        refine s_X6_turnOne hb.1 hb.2.1 hb.2.2.1 hn (fun h1 w1 w2 => ⟨fun c4 => ?_, fun c4 => ?_⟩)
        · rw [if_neg c4] at q
          refine u_X6_supperNow_2 (tx_mono _ _) (u_X6_supperNow_3 (tx_mono _ _) ⟨⟨by omega, by omega⟩, ih _ _ h1 (by rw [w1]; exact turnB_ok hb hn) (by rw [w1]; exact turnB_n hpos) (by omega) (by omega) (by omega) (by omega) (fun h' x1 x2 => ?_)⟩)
          rw [w1] at x1 ⊢
          exact kq (q h' x1 (w2.tr x2)) (by omega)
        · have c5 : turnT (fM h) = 0 := by omega
          rw [if_pos c5] at q
          refine ⟨⟨by omega, by omega⟩, u_X6_supperNow_3 (tx_mono _ _) ⟨⟨by omega, by omega⟩, ih _ _ h1 (by rw [w1]; exact turnB_ok hb hn) (by rw [w1]; exact turnB_n hpos) (by omega) (by omega) (by omega) (by omega) (fun h' x1 x2 => ?_)⟩⟩
          rw [w1] at x1 ⊢
          exact kq (q h' x1 (w2.tr x2)) (by omega)
  exact key 100 0 0 h hb hn (by omega) (by omega) (by omega) (by omega) (fun h' x1 x2 => kq (q h' x1 x2) (by omega))
