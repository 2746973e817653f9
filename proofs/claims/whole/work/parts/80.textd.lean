/-! ===== table: a statement comes to the component's board ===== -/
theorem fX_s0 {h : AH} {v : Int} : fX (upI h 9 0 v) 9 = putS 0 v (fX h 9) := by
  refine Prod.ext (funext fun n => ?_) (funext fun j' => funext fun i => ?_)
  · match n with
    | 0 | 1 | 2 | 3 | 4 | 5 => rfl
    | n + 6 => rfl
  · match j' with
    | 0 | 1 | 2 | 3 | 4 | 5 | 6 => rfl
    | j' + 7 => rfl
theorem fX_s1 {h : AH} {v : Int} : fX (upI h 9 3 v) 9 = putS 1 v (fX h 9) := by
  refine Prod.ext (funext fun n => ?_) (funext fun j' => funext fun i => ?_)
  · match n with
    | 0 | 1 | 2 | 3 | 4 | 5 => rfl
    | n + 6 => rfl
  · match j' with
    | 0 | 1 | 2 | 3 | 4 | 5 | 6 => rfl
    | j' + 7 => rfl
theorem fX_s3 {h : AH} {v : Int} : fX (upI h 9 9 v) 9 = putS 3 v (fX h 9) := by
  refine Prod.ext (funext fun n => ?_) (funext fun j' => funext fun i => ?_)
  · match n with
    | 0 | 1 | 2 | 3 | 4 | 5 => rfl
    | n + 6 => rfl
  · match j' with
    | 0 | 1 | 2 | 3 | 4 | 5 | 6 => rfl
    | j' + 7 => rfl
theorem fX_s4 {h : AH} {v : Int} : fX (upI h 9 10 v) 9 = putS 4 v (fX h 9) := by
  refine Prod.ext (funext fun n => ?_) (funext fun j' => funext fun i => ?_)
  · match n with
    | 0 | 1 | 2 | 3 | 4 | 5 => rfl
    | n + 6 => rfl
  · match j' with
    | 0 | 1 | 2 | 3 | 4 | 5 | 6 => rfl
    | j' + 7 => rfl
def fr9 (h h1 : AH) : Prop := ∀ c, c < 9 ∨ 16 < c → h1.1 c = h.1 c
theorem fr9.up {h h1 : AH} (f : fr9 h h1) {c : Nat} (c1 : 9 ≤ c) (c2 : c ≤ 16) (j v : Int) : fr9 h (upI h1 c j v) := fun c' hc => by
  rw [← f c' hc]
  funext i
  rw [upI_e, if_neg (by omega)]
theorem sx_addR {d : Nat} {L : Int} {h : AH} {K : Int → AH → Prop} (hb : okBd (fX h 9)) (q1 : (fX h 9).1 0 < 4 ∧ 2 ≤ L ∧ L ≤ 12 → ∀ h1, fX h1 9 = adR (fX h 9) L → fr9 h h1 → K 1 h1) (q0 : ¬ ((fX h 9).1 0 < 4 ∧ 2 ≤ L ∧ L ≤ 12) → K 0 h) : cI (tx mt (d + 1)) n_X0_addRhyme [vR 9, vI L] h K := by
  have e0 : (fX h 9).1 0 = h.1 9 0 := rfl
  have r0 : 0 ≤ (fX h 9).1 0 := hb.1.1
  have r4 : (fX h 9).1 0 ≤ 4 := hb.1.2.1
  rw [e0] at r0 r4 q1 q0
  refine cI_i (e_X0_addRhyme isB9 ⟨fun c => u_X0_addRhyme_1 (tx_mono _ _) (exI (q0 (by omega))), fun c => ⟨fun c2 => u_X0_addRhyme_1 (tx_mono _ _) (exI (q0 (by omega))), fun c2 => ⟨fun c3 => u_X0_addRhyme_2 (tx_mono _ _) isB9 ⟨r0, by omega, fun h1 w1 => ?_⟩, fun c3 => u_X0_addRhyme_1 (tx_mono _ _) (exI (q0 (by omega)))⟩⟩⟩)
  have e1 : h1.1 9 0 = h.1 9 0 := by rw [w1, upI_e, if_neg (by omega)]
  rw [e1]
  refine ⟨r0, by omega, fun h2 w2 => ?_⟩
  have e2 : h2.1 9 0 = h.1 9 0 := by rw [w2, upI_e, if_neg (by omega), e1]
  rw [e2]
  refine ⟨⟨by omega, by omega⟩, fun h3 w3 => exI (q1 (by omega) h3 ?_ ?_)⟩
  · rw [w3, fX_s0, w2, fX_put (by decide) (by decide), w1, fX_put (by decide) (by decide)]
    rfl
  · rw [w3, w2, w1]
    exact fr9.up (fr9.up (fr9.up (fun _ _ => rfl) (by decide) (by decide) _ _) (by decide) (by decide) _ _) (by decide) (by decide) _ _
theorem sx_addE {d : Nat} {k f w s : Int} {h : AH} {K : Int → AH → Prop} (hb : okBd (fX h 9)) (q1 : k < 6 ∧ w < 12 ∧ (fX h 9).1 1 < 4 → ∀ h1, fX h1 9 = adE (fX h 9) k f w s → fr9 h h1 → K 1 h1) (q0 : ¬ (k < 6 ∧ w < 12 ∧ (fX h 9).1 1 < 4) → K 0 h) : cI (tx mt (d + 1)) n_X0_addEater [vR 9, vI k, vI f, vI w, vI s] h K := by
  have e0 : (fX h 9).1 1 = h.1 9 3 := rfl
  have r0 : 0 ≤ (fX h 9).1 1 := hb.2.1.1
  have r4 : (fX h 9).1 1 ≤ 4 := hb.2.1.2.1
  rw [e0] at r0 r4 q1 q0
  refine cI_i (e_X0_addEater isB9 ⟨fun c => u_X0_addEater_1 (tx_mono _ _) (exI (q0 (by omega))), fun c => ⟨fun c2 => u_X0_addEater_1 (tx_mono _ _) (exI (q0 (by omega))), fun c2 => ⟨fun c3 => u_X0_addEater_2 (tx_mono _ _) isB9 ⟨r0, by omega, fun h1 w1 => ?_⟩, fun c3 => u_X0_addEater_1 (tx_mono _ _) (exI (q0 (by omega)))⟩⟩⟩)
  have e1 : h1.1 9 3 = h.1 9 3 := by rw [w1, upI_e, if_neg (by omega)]
  rw [e1]
  refine ⟨r0, by omega, fun h2 w2 => ?_⟩
  have e2 : h2.1 9 3 = h.1 9 3 := by rw [w2, upI_e, if_neg (by omega), e1]
  rw [e2]
  refine ⟨r0, by omega, fun h3 w3 => ?_⟩
  have e3 : h3.1 9 3 = h.1 9 3 := by rw [w3, upI_e, if_neg (by omega), e2]
  rw [e3]
  refine ⟨r0, by omega, fun h4 w4 => ?_⟩
  have e4 : h4.1 9 3 = h.1 9 3 := by rw [w4, upI_e, if_neg (by omega), e3]
  rw [e4]
  refine ⟨⟨by omega, by omega⟩, fun h5 w5 => exI (q1 (by omega) h5 ?_ ?_)⟩
  · rw [w5, fX_s1, w4, fX_put (by decide) (by decide), w3, fX_put (by decide) (by decide), w2, fX_put (by decide) (by decide), w1, fX_put (by decide) (by decide)]
    rfl
  · rw [w5, w4, w3, w2, w1]
    exact fr9.up (fr9.up (fr9.up (fr9.up (fr9.up (fun _ _ => rfl) (by decide) (by decide) _ _) (by decide) (by decide) _ _) (by decide) (by decide) _ _) (by decide) (by decide) _ _) (by decide) (by decide) _ _
theorem sx_fill {d : Nat} {f u m : Int} {h : AH} {K : Int → AH → Prop} (q1 : f ≤ 60 ∧ 1 ≤ u ∧ u ≤ 4 ∧ 1 ≤ m ∧ m ≤ 6 → ∀ h1, fX h1 9 = fiB (fX h 9) f u m → fr9 h h1 → K 1 h1) (q0 : ¬ (f ≤ 60 ∧ 1 ≤ u ∧ u ≤ 4 ∧ 1 ≤ m ∧ m ≤ 6) → K 0 h) : cI (tx mt (d + 1)) n_X0_fillBowl [vR 9, vI f, vI u, vI m] h K := by
  refine cI_i (e_X0_fillBowl isB9 ⟨fun c => u_X0_fillBowl_1 (tx_mono _ _) (exI (q0 (by omega))), fun c => ⟨fun c2 => u_X0_fillBowl_1 (tx_mono _ _) (exI (q0 (by omega))), fun c2 => ⟨fun c3 => u_X0_fillBowl_2 (tx_mono _ _) isB9 ⟨fun c4 => u_X0_fillBowl_3 (tx_mono _ _) (exI (q0 (by omega))), fun c4 => ⟨fun c5 => u_X0_fillBowl_4 (tx_mono _ _) isB9 (fun h1 w1 h2 w2 h3 w3 => exI (q1 (by omega) h3 ?_ ?_)), fun c5 => u_X0_fillBowl_3 (tx_mono _ _) (exI (q0 (by omega)))⟩⟩, fun c3 => u_X0_fillBowl_1 (tx_mono _ _) (exI (q0 (by omega)))⟩⟩⟩)
  · rw [w3, fX_s4, w2, fX_s3, w1, fX_putF]
    rfl
  · rw [w3, w2, w1]
    exact fr9.up (fr9.up (fr9.up (fun _ _ => rfl) (by decide) (by decide) _ _) (by decide) (by decide) _ _) (by decide) (by decide) _ _
theorem sx_begin {d : Nat} {r w : Int} {h : AH} {K : Int → AH → Prop} (hb : okBd (fX h 9)) (r0 : 0 ≤ r) (w0 : 0 ≤ w) (q1 : r < (fX h 9).1 0 ∧ w < (fX h 9).2 1 r → ∀ h1, fX h1 9 = putB 2 r w (fX h 9) → fr9 h h1 → K 1 h1) (q0 : ¬ (r < (fX h 9).1 0 ∧ w < (fX h 9).2 1 r) → K 0 h) : cI (tx mt (d + 3)) n_X0_beginWith [vR 9, vI r, vI w] h K := by
  have e0 : (fX h 9).1 0 = h.1 9 0 := rfl
  have e1 : (fX h 9).2 1 r = h.1 (9 + 1) r := rfl
  have r4 : (fX h 9).1 0 ≤ 4 := hb.1.2.1
  rw [e0] at r4
  rw [e0, e1] at q1 q0
  refine cI_i (e_X0_beginWith isB9 (c_X0_hasWord isB9 r4 (fun c => ⟨fun _ => u_X0_beginWith_1 (tx_mono _ _) isB9 ⟨r0, by omega, fun h1 w1 => exI (q1 (by omega) h1 ?_ ?_)⟩, fun y => absurd (by decide) y⟩) (fun c => ⟨fun y => absurd rfl y, fun _ => exI (q0 (by omega))⟩)))
  · rw [w1, fX_put (by decide) (by decide)]
  · rw [w1]
    exact fr9.up (fun _ _ => rfl) (by decide) (by decide) _ _
theorem sx_num12 {d : Nat} {p z : Int} {h : AH} {K : Int → AH → Prop} (S96 : h.1 25 1 ≤ 96) (p0 : 0 ≤ p) (p1 : p ≤ 96) (D1 : dg (sgF (h.1 26) (h.1 25 1) (p + 1)) = true) (D2 : dg (sgF (h.1 26) (h.1 25 1) (p + 2)) = true → dg (sgF (h.1 26) (h.1 25 1) (p + 3)) = false) (z0 : 0 ≤ z) (hz : ∀ i, 0 ≤ i → i < z → dg (sgF (h.1 26) (h.1 25 1) (p + 1 + i)) = true) (hz2 : z = 96 ∨ dg (sgF (h.1 26) (h.1 25 1) (p + 1 + z)) = false) (q : (z = if dg (sgF (h.1 26) (h.1 25 1) (p + 2)) = true then 2 else 1) → K (ar12 (sgF (h.1 26) (h.1 25 1)) p) h) : cI (tx mt (d + 2)) n_X2_numberAt [vR 25, vI (p + 1), vI z] h K := by
  have tf : ∀ {b : Bool}, b = true → b = false → False := fun a b => by rw [a] at b; cases b
  by_cases c : dg (sgF (h.1 26) (h.1 25 1) (p + 2)) = true
  · have z2 : z = 2 := by
      by_cases a0 : z = 0
      · rw [a0, Int.add_zero] at hz2
        exact absurd (tf D1 (hz2.resolve_left (by decide))) id
      by_cases a1 : z = 1
      · rw [a1, show p + 1 + 1 = p + 2 by omega] at hz2
        exact absurd (tf c (hz2.resolve_left (by decide))) id
      by_cases a2 : z = 2
      · exact a2
      · have := hz 2 (by decide) (by omega)
        rw [show p + 1 + 2 = p + 3 by omega] at this
        exact absurd (tf this (D2 c)) id
    rw [if_pos c] at q
    subst z2
    have q := q rfl
    rw [ar12, if_pos c] at q
    refine s_X2_number2 S96 (by omega) (by omega) D1 ?_ ?_
    · rw [show p + 1 + 1 = p + 2 by omega]; exact c
    · rw [show p + 1 + 1 = p + 2 by omega]; exact q
  · have z1 : z = 1 := by
      by_cases a0 : z = 0
      · rw [a0, Int.add_zero] at hz2
        exact absurd (tf D1 (hz2.resolve_left (by decide))) id
      by_cases a1 : z = 1
      · exact a1
      · have := hz 1 (by decide) (by omega)
        rw [show p + 1 + 1 = p + 2 by omega] at this
        exact absurd this c
    rw [if_neg c] at q
    subst z1
    have q := q rfl
    rw [ar12, if_neg c] at q
    exact s_X2_number1 S96 (by omega) (by omega) D1 q
theorem sx_bring {d : Nat} {p : Int} {h h' : AH} {K : Int → AH → Prop} {sg : Int → Int} (F : Fx h h') (hb : okBd (fX h' 9)) (hsg : sgF (h'.1 26) (h'.1 25 1) = sg) (S96 : h'.1 25 1 ≤ 96) (p0 : 0 ≤ p) (p1 : p < 96) (ok : (stp sg p).2 = false) (q1 : oksT sg p (fX h' 9) = true → ∀ h1, Fx h h1 → fX h1 9 = apT sg p (fX h' 9) → K 1 h1) (q0 : oksT sg p (fX h' 9) = false → K 0 h') : cI (tx mt (d + 7)) n_X2_bring [vR 25, vR 9, vI p] h' K := by
  have nf : ∀ {x : Int}, x = 59 ∨ x = 44 → dg x = false := fun hx => by rw [dg_f]; omega
  have fin : ∀ h1, oksT sg p (fX h' 9) = true → fX h1 9 = apT sg p (fX h' 9) → fr9 h' h1 → K 1 h1 := by
    intro h1 ho w f
    have ab := apT_ok ok hb ho
    exact q1 ho h1 ⟨fun c hc => by rw [f c hc]; exact F.1 c hc, by rw [w]; exact ab.2.2.2.2⟩ w
  refine cI_i (e_X2_bring isB9 ⟨⟨by omega, by omega⟩, s_X2_digitsFrom S96 (by omega) (by omega) (fun z z0 z1 hz hz2 => ⟨⟨by omega, by omega⟩, s_X2_signAt S96 ?_⟩)⟩)
  rw [hsg]
  rcases ok_l ok with l | l | l | l | l
  · rw [l]
    refine ⟨fun y => absurd y (by decide), fun _ => ⟨fun y => absurd y (by decide), fun _ => ⟨fun _ => u_X2_bring_1 (tx_mono _ _) isB9 ?_, fun y => absurd rfl y⟩⟩⟩
    have okr := ok_r l ok
    refine sx_num12 S96 p0 (by omega) (by rw [hsg]; exact okr.1) (fun c => ?_) z0 hz hz2 (fun _ => ?_)
    · rw [hsg] at c ⊢
      rcases okr.2 with ⟨_, b, _⟩ | ⟨a, _, _⟩
      · exact nf (Or.inl b)
      · rw [a] at c; cases c
    rw [hsg]
    have ea : ar12 sg p = arg sg p 0 := by rw [arg, if_neg (by omega), if_neg (by omega), if_neg (by omega)]
    rw [ea]
    have ko : oksT sg p (fX h' 9) = decide ((fX h' 9).1 0 < 4 ∧ 2 ≤ arg sg p 0 ∧ arg sg p 0 ≤ 12) := by rw [oksT, if_pos l]
    refine sx_addR hb (fun c h1 w1 f1 => ⟨Or.inr rfl, exI (fin h1 (by rw [ko]; exact decide_eq_true c) (by rw [w1, apT, if_pos l]) f1)⟩) (fun c => ⟨Or.inl rfl, exI (q0 (by rw [ko]; exact decide_eq_false c))⟩)
  · rw [l]
    refine ⟨fun y => absurd y (by decide), fun _ => ⟨fun _ => u_X2_bring_2 (tx_mono _ _) isB9 ?_, fun y => absurd rfl y⟩⟩
    obtain ⟨d1, d2, d3, d4, d5, d6, _⟩ := ok_e l ok
    refine s_X2_number1 S96 (by omega) (by omega) (by rw [hsg]; exact d1) ⟨⟨by omega, by omega⟩, s_X2_number1 S96 (by omega) (by omega) (by rw [hsg, show p + 1 + 1 = p + 2 by omega]; exact d2) ⟨⟨by omega, by omega⟩, s_X2_number2 S96 (by omega) (by omega) (by rw [hsg, show p + 1 + 2 = p + 3 by omega]; exact d3) (by rw [hsg, show p + 1 + 2 + 1 = p + 4 by omega]; exact d4) ⟨⟨by omega, by omega⟩, s_X2_number2 S96 (by omega) (by omega) (by rw [hsg, show p + 1 + 4 = p + 5 by omega]; exact d5) (by rw [hsg, show p + 1 + 4 + 1 = p + 6 by omega]; exact d6) ?_⟩⟩⟩
    rw [hsg]
    simp only [Int.add_assoc, Int.reduceAdd]
    have a0 : arg sg p 0 = sg (p + 1) - 48 := by rw [arg, if_pos l, if_pos rfl]
    have a1 : arg sg p 1 = sg (p + 2) - 48 := by rw [arg, if_pos l, if_neg (by decide), if_pos rfl]
    have a2 : arg sg p 2 = 10 * (sg (p + 3) - 48) + (sg (p + 4) - 48) := by rw [arg, if_pos l, if_neg (by decide), if_neg (by decide), if_pos rfl]
    have a3 : arg sg p 3 = 10 * (sg (p + 5) - 48) + (sg (p + 6) - 48) := by rw [arg, if_pos l, if_neg (by decide), if_neg (by decide), if_neg (by decide)]
    rw [← a0, ← a1, ← a2, ← a3]
    have ko : oksT sg p (fX h' 9) = decide (arg sg p 0 < 6 ∧ arg sg p 2 < 12 ∧ (fX h' 9).1 1 < 4) := by rw [oksT, if_neg (by omega), if_pos l]
    refine sx_addE hb (fun c h1 w1 f1 => ⟨Or.inr rfl, exI (fin h1 (by rw [ko]; exact decide_eq_true c) (by rw [w1, apT, if_neg (by omega), if_pos l]) f1)⟩) (fun c => ⟨Or.inl rfl, exI (q0 (by rw [ko]; exact decide_eq_false c))⟩)
  · rw [l]
    refine ⟨fun _ => u_X2_bring_3 (tx_mono _ _) isB9 ?_, fun y => absurd rfl y⟩
    have okb := ok_b l ok
    refine sx_num12 S96 p0 (by omega) (by rw [hsg]; exact okb.1) (fun c => ?_) z0 hz hz2 (fun ez => ?_)
    · rw [hsg] at c ⊢
      rcases okb.2 with ⟨_, b, _⟩ | ⟨a, _⟩
      · exact nf (Or.inr b)
      · rw [a] at c; cases c
    rw [hsg] at ez ⊢
    have eo : p + 1 + z + 1 = arO sg p + 3 ∧ p + 1 + z + 2 = arO sg p + 4 := by
      rw [ez, arO]
      split <;> omega
    have zb : 1 ≤ z ∧ z ≤ 2 := by rw [ez]; split <;> omega
    have D : dg (sg (arO sg p + 3)) = true ∧ dg (sg (arO sg p + 4)) = true := by
      rw [arO]
      rcases okb.2 with ⟨a, _, b, c, _⟩ | ⟨a, _, b, c, _⟩
      · rw [if_pos a, show p + 1 + 3 = p + 4 by omega, show p + 1 + 4 = p + 5 by omega]
        exact ⟨b, c⟩
      · rw [if_neg (by rw [a]; decide)]
        exact ⟨b, c⟩
    have a0 : arg sg p 0 = ar12 sg p := by rw [arg, if_neg (by omega), if_neg (by omega), if_pos l, if_pos rfl]
    have a1 : arg sg p 1 = sg (arO sg p + 3) - 48 := by rw [arg, if_neg (by omega), if_neg (by omega), if_pos l, if_neg (by decide), if_pos rfl]
    have a2 : arg sg p 2 = sg (arO sg p + 4) - 48 := by rw [arg, if_neg (by omega), if_neg (by omega), if_pos l, if_neg (by decide), if_neg (by decide)]
    rw [eo.1, eo.2]
    refine ⟨⟨by omega, by omega⟩, ⟨by omega, by omega⟩, s_X2_number1 S96 (by omega) (by omega) (by rw [hsg]; exact D.1) ⟨⟨by omega, by omega⟩, ⟨by omega, by omega⟩, s_X2_number1 S96 (by omega) (by omega) (by rw [hsg]; exact D.2) ?_⟩⟩
    rw [hsg, ← a0, ← a1, ← a2]
    have ko : oksT sg p (fX h' 9) = decide (arg sg p 0 ≤ 60 ∧ 1 ≤ arg sg p 1 ∧ arg sg p 1 ≤ 4 ∧ 1 ≤ arg sg p 2 ∧ arg sg p 2 ≤ 6) := by rw [oksT, if_neg (by omega), if_neg (by omega), if_pos l]
    refine sx_fill (fun c h1 w1 f1 => ⟨Or.inr rfl, exI (fin h1 (by rw [ko]; exact decide_eq_true c) (by rw [w1, apT, if_neg (by omega), if_neg (by omega), if_pos l]) f1)⟩) (fun c => ⟨Or.inl rfl, exI (q0 (by rw [ko]; exact decide_eq_false c))⟩)
  · rw [l]
    refine ⟨fun y => absurd y (by decide), fun _ => ⟨fun y => absurd y (by decide), fun _ => ⟨fun y => absurd y (by decide), fun _ => ⟨fun y => absurd y (by decide), fun _ => ⟨fun _ => u_X2_bring_4 (tx_mono _ _) isB9 ?_, fun y => absurd rfl y⟩⟩⟩⟩⟩
    obtain ⟨d1, d2, d3, _⟩ := ok_w l ok
    refine s_X2_number1 S96 (by omega) (by omega) (by rw [hsg]; exact d1) ⟨⟨by omega, by omega⟩, s_X2_number2 S96 (by omega) (by omega) (by rw [hsg, show p + 1 + 1 = p + 2 by omega]; exact d2) (by rw [hsg, show p + 1 + 1 + 1 = p + 3 by omega]; exact d3) ?_⟩
    rw [hsg]
    simp only [Int.add_assoc, Int.reduceAdd]
    have a0 : arg sg p 0 = sg (p + 1) - 48 := by rw [arg, if_neg (by omega), if_pos l, if_pos rfl]
    have a1 : arg sg p 1 = 10 * (sg (p + 2) - 48) + (sg (p + 3) - 48) := by rw [arg, if_neg (by omega), if_pos l, if_neg (by decide)]
    rw [← a0, ← a1]
    have b0 := arg_b ok (by omega) 0
    have b1 := arg_b ok (by omega) 1
    have ko : oksT sg p (fX h' 9) = decide (arg sg p 0 < (fX h' 9).1 0 ∧ arg sg p 1 < (fX h' 9).2 1 (arg sg p 0)) := by rw [oksT, if_neg (by omega), if_neg (by omega), if_neg (by omega), if_pos l]
    refine sx_begin hb b0.1 b1.1 (fun c h1 w1 f1 => ⟨Or.inr rfl, exI (fin h1 (by rw [ko]; exact decide_eq_true c) (by rw [w1, apT, if_neg (by omega), if_neg (by omega), if_neg (by omega), if_pos l]) f1)⟩) (fun c => ⟨Or.inl rfl, exI (q0 (by rw [ko]; exact decide_eq_false c))⟩)
  · rw [l]
    refine ⟨fun y => absurd y (by decide), fun _ => ⟨fun y => absurd y (by decide), fun _ => ⟨fun y => absurd y (by decide), fun _ => ⟨fun _ => u_X2_bring_5 (tx_mono _ _) isB9 ?_, fun y => absurd rfl y⟩⟩⟩⟩
    have ko : oksT sg p (fX h' 9) = decide (¬ (fX h' 9).1 1 = 0) := by rw [oksT, if_neg (by omega), if_neg (by omega), if_neg (by omega), if_neg (by omega)]
    refine ⟨fun c => u_X2_bring_6 (tx_mono _ _) isB9 (sx_turn F hb (hb.nx c) (fun h1 w1 F1 => exI (q1 (by rw [ko]; exact decide_eq_true c) h1 F1 ?_))), fun c => exI (q0 (by rw [ko]; exact decide_eq_false c))⟩
    rw [w1, apT, if_neg (by omega), if_neg (by omega), if_neg (by omega), if_neg (by omega)]
