/-! ===== simple operations ===== -/
theorem isB1 : isB 1 := Or.inl rfl
theorem isB9 : isB 9 := Or.inr (Or.inl rfl)
theorem isB17 : isB 17 := Or.inr (Or.inr rfl)
/-- both refused, nothing else is changed -/
theorem Inv.rf {n i : Int} {h : AH} (H : Inv n h) (h1 : 1 ≤ i) (h6 : i ≤ 6) : Inv (n + 1) (upI (upI (upI h 32 i (h.1 32 i + 1)) 38 12 0) 45 i (h.1 45 i + 1)) := by
  refine H.refuse h1 h6 (fun c j a1 a2 a3 a4 => ?_) (fun j a1 => ?_) ?_ (fun j => ?_) (fun j => ?_)
  · simp only [upI_e]
    repeat' rw [if_neg (by omega)]
  · unfold scS at a1
    simp only [upI_e]
    repeat' rw [if_neg (by omega)]
  · rw [fX_c (h := h) (k := 9) (fun c a b => by funext j; simp only [upI_e]; repeat' rw [if_neg (by omega)])]
    exact H.2.1.1
  · simp only [upI_e]
    by_cases hj : j = i
    · subst hj; simp
    · simp [hj]
  · simp only [upI_e]
    by_cases hj : j = i
    · subst hj; simp
    · simp [hj]
theorem op_row {v : Int} (hv : inI v) : OpI n_X5_row n_X6_row [vI v] := by
  intro d n h n0 n1 H
  obtain ⟨hB, hZ, hK, ⟨r1, r2, r3, r4⟩, hL, hF, hP⟩ := id H
  have f4 := hF 4 (by decide) (by decide)
  have f6 := hF 6 (by decide) (by decide)
  by_cases c1 : v < 0
  · refine e_X5_row ?_
    repeat' first
      | (exfalso; omega)
      | refine u_X5_row_1 (tx_mono _ _) ?_
      | refine u_X5_row_2 (tx_mono _ _) ?_
      | refine u_X5_row_3 (tx_mono _ _) ?_
      | apply s_X5_refuse
      | (intro _ e9; subst e9)
      | apply And.intro
      | intro _
    all_goals try omega
    refine ⟨_, rfl, e_X6_row ?_⟩
    repeat' first
      | (exfalso; omega)
      | refine u_X6_row_1 (tx_mono _ _) ?_
      | refine u_X6_row_2 (tx_mono _ _) ?_
      | refine u_X6_row_3 (tx_mono _ _) ?_
      | apply s_X6_refuse
      | (intro _ e9; subst e9)
      | apply And.intro
      | intro _
    all_goals try simp only [upI_e]
    all_goals try omega
    exact ⟨_, rfl, rfl, H.rf (by decide) (by decide)⟩
  by_cases c2 : 99 < v ∨ h.1 0 7 = 12
  · have m2 : ∀ h1 : AH, h1 = upI h 32 6 (h.1 32 6 + 1) → cI (tx mt (d + 30)) n_X6_row [vR 38, vI v] h1 (fun z' h2 => -6 = z' ∧ Inv (n + 1) h2) := by
      intro h1 w1
      subst w1
      refine e_X6_row (fun h2 w2 => ?_)
      have w3 : h2.1 38 43 = h.1 38 43 := by rw [w2]; (simp only [upI_e]; repeat' rw [if_neg (by omega)])
      have w4 : h2.1 45 6 = h.1 45 6 := by rw [w2]; (simp only [upI_e]; repeat' rw [if_neg (by omega)])
      repeat' first
        | (exfalso; omega)
        | refine u_X6_row_1 (tx_mono _ _) ?_
        | refine u_X6_row_2 (tx_mono _ _) ?_
        | refine u_X6_row_3 (tx_mono _ _) ?_
        | apply s_X6_refuse
        | (intro _ e9; subst e9)
        | apply And.intro
        | intro _
      all_goals try omega
      all_goals (rw [w2]; exact ⟨_, rfl, rfl, H.rf (by decide) (by decide)⟩)
    refine e_X5_row ?_
    repeat' first
      | (exfalso; omega)
      | refine u_X5_row_1 (tx_mono _ _) ?_
      | refine u_X5_row_2 (tx_mono _ _) ?_
      | refine u_X5_row_3 (tx_mono _ _) ?_
      | apply s_X5_refuse
      | (intro _ e9; subst e9)
      | apply And.intro
      | intro _
    all_goals try omega
    all_goals exact ⟨_, rfl, m2 _ rfl⟩
  · have m3 : ∀ h1 : AH, h1 = upI (upI h 31 (h.1 0 7) v) 0 7 (h.1 0 7 + 1) → cI (tx mt (d + 30)) n_X6_row [vR 38, vI v] h1 (fun z' h2 => h.1 0 7 + 1 = z' ∧ Inv (n + 1) h2) := by
      intro h1 w1
      refine e_X6_row (fun h2 w2 => ?_)
      have w3 : h2.1 38 43 = h.1 38 43 := by rw [w2, w1]; (simp only [upI_e]; repeat' rw [if_neg (by omega)])
      refine ⟨fun _ => u_X6_row_1 (tx_mono _ _) ⟨fun c => absurd c (by omega), fun _ => ⟨fun _ => u_X6_row_3 (tx_mono _ _) ⟨by omega, by omega, fun h3 w4 => ?_⟩, fun c => absurd c (by omega)⟩⟩, fun c => absurd (by omega) c⟩
      have w5 : h3.1 38 43 = h.1 38 43 := by rw [w4, upI_e, if_neg (by omega), w3]
      refine ⟨⟨by omega, by omega⟩, fun h4 w6 => ⟨_, rfl, ?_⟩⟩
      have w7 : h4.1 38 43 = h.1 38 43 + 1 := by rw [w6, upI_e, if_pos ⟨rfl, rfl⟩, w5]
      refine ⟨by omega, ?_⟩
      rw [w5] at w6
      rw [w3] at w4
      rw [w6, w4, w2, w1]
      refine ⟨hB.c (fun c hc => by (funext j; simp only [upI_e]; repeat' rw [if_neg (by omega)])) (by intro j hj; (simp only [upI_e]; repeat' rw [if_neg (by omega)])), hZ.c (fun c hc => by (funext j; simp only [upI_e]; repeat' rw [if_neg (by omega)])), hK.c (fun c hc => by (funext j; simp only [upI_e]; repeat' rw [if_neg (by omega)])) (by simp only [upI_e]; repeat' rw [if_neg (by omega)]) (by simp only [upI_e]; repeat' rw [if_neg (by omega)]), ?_, hL.c (fun c hc => by (funext j; simp only [upI_e]; repeat' rw [if_neg (by omega)])) (by simp only [upI_e]; repeat' rw [if_neg (by omega)]) (by simp only [upI_e]; repeat' rw [if_neg (by omega)]), hF.c (fun c hc => by (funext j; simp only [upI_e]; repeat' rw [if_neg (by omega)])), hP.c (fun c hc => by (funext j; simp only [upI_e]; repeat' rw [if_neg (by omega)])) (by simp only [upI_e]; repeat' rw [if_neg (by omega)]) (by simp only [upI_e]; repeat' rw [if_neg (by omega)]) (by simp only [upI_e]; repeat' rw [if_neg (by omega)])⟩
      refine ⟨by simp [upI_e]; omega, by simp [upI_e]; omega, by simp [upI_e]; omega, fun i a b => ?_⟩
      simp [upI_e] at b ⊢
      by_cases hi : i = h.1 0 7
      · subst hi
        simp [← r1]
        omega
      · rw [if_neg (by omega), if_neg (by omega)]
        exact r4 i a (by omega)
    refine e_X5_row ?_
    repeat' first
      | (exfalso; omega)
      | refine u_X5_row_1 (tx_mono _ _) ?_
      | refine u_X5_row_2 (tx_mono _ _) ?_
      | refine u_X5_row_3 (tx_mono _ _) ?_
      | apply s_X5_refuse
      | (intro _ e9; subst e9)
      | apply And.intro
      | intro _
    all_goals try simp only [upI_e]
    all_goals try omega
    exact ⟨_, rfl, m3 _ rfl⟩
