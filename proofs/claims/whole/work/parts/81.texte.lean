/-! ===== table: the component ===== -/
def runT (sg : Int → Int) (S : Int) : Nat → Int → Int → BD → Int × Int × BD
  | 0, c, p, b => (c, p, b)
  | m + 1, c, p, b => if p < S ∧ oksT sg p b = true then runT sg S m (c + 1) (stp sg p).1 (apT sg p b) else (c, p, b)
def tabV (sg : Int → Int) (S : Int) (b : BD) : Int × BD := if 0 ≤ tp sg S 97 0 then (-1000 - tp sg S 97 0, b) else if (runT sg S 97 0 0 b).2.1 < S then (-2000 - (runT sg S 97 0 0 b).2.1, b) else ((runT sg S 97 0 0 b).1, (runT sg S 97 0 0 b).2.2)
theorem tp_b {sg : Int → Int} {S : Int} (S96 : S ≤ 96) : ∀ (m : Nat) (p : Int), 0 ≤ p → p ≤ 96 → tp sg S m p = -9 ∨ (0 ≤ tp sg S m p ∧ tp sg S m p ≤ 104) := by
  intro m
  induction m with
  | zero => intro p _ _; exact Or.inl rfl
  | succ m ih =>
    intro p p0 p1
    have le := stp_le (sg := sg) (p := p)
    rw [tp]
    split
    · exact Or.inr ⟨by omega, by omega⟩
    · split
      · exact Or.inl rfl
      · exact ih _ (by omega) (by omega)
theorem tp_n {sg : Int → Int} {S : Int} {m : Nat} {p : Int} (p0 : 0 ≤ p) (h : tp sg S (m + 1) p = -9) : (stp sg p).2 = false ∧ (S ≤ (stp sg p).1 ∨ tp sg S m (stp sg p).1 = -9) := by
  have le := stp_le (sg := sg) (p := p)
  rw [tp] at h
  by_cases c : (stp sg p).2 = true
  · rw [if_pos c] at h
    omega
  · rw [if_neg c] at h
    refine ⟨by simpa using c, ?_⟩
    by_cases c2 : S ≤ (stp sg p).1
    · exact Or.inl c2
    · rw [if_neg c2] at h
      exact Or.inr h
theorem sg_lt {c : Int → Int} {S i : Int} (h : sgF c S i = 59) : 0 ≤ i ∧ i < S := by
  unfold sgF at h
  by_cases y : 0 ≤ i ∧ i < S
  · exact y
  · rw [if_neg y] at h
    omega
theorem x_tloop {d : Nat} {h : AH} {sg : Int → Int} {S : Int} {K : AK} (hS : h.1 25 1 = S) (hsg : sgF (h.1 26) S = sg) (S96 : S ≤ 96) : ∀ (m : Nat) (p c : Int) (h' : AH), S < p + m → 0 ≤ p → p ≤ 104 → 0 ≤ c → c ≤ p → Fx h h' → okBd (fX h' 9) → (S ≤ p ∨ tp sg S m p = -9) → (∀ h1, Fx h h1 → okBd (fX h1 9) → fX h1 9 = (runT sg S m c p (fX h' 9)).2.2 → 0 ≤ (runT sg S m c p (fX h' 9)).1 → 0 ≤ (runT sg S m c p (fX h' 9)).2.1 → (runT sg S m c p (fX h' 9)).2.1 ≤ 104 → Bx z0 0 (tx mt (d + 29)) k_X5_table K 2 [some (vR 0), some (vI ((-9))), some (vI S), some (vI ((runT sg S m c p (fX h' 9)).1)), some (vI ((runT sg S m c p (fX h' 9)).2.1))] [] h1) → Bx z0 0 (tx mt (d + 29)) k_X5_table K 1 [some (vR 0), some (vI ((-9))), some (vI S), some (vI c), some (vI p)] [] h' := by
  intro m
  induction m with
  | zero =>
    intro p c h' pm p0 p1 c0 cp F hb hp q
    exact u_X5_table_1 (tx_mono _ _) ⟨fun _ => q h' F hb rfl c0 p0 p1, fun _ => ⟨fun _ => q h' F hb rfl c0 p0 p1, fun y => by omega⟩⟩
  | succ m ih =>
    intro p c h' pm p0 p1 c0 cp F hb hp q
    rw [runT] at q
    by_cases pS : p < S
    · have h25 : h'.1 25 = h.1 25 := F.1 25 (by omega)
      have h26 : h'.1 26 = h.1 26 := F.1 26 (by omega)
      have hsg' : sgF (h'.1 26) (h'.1 25 1) = sg := by rw [h25, h26, hS]; exact hsg
      have S96' : h'.1 25 1 ≤ 96 := by rw [h25, hS]; exact S96
      obtain ⟨ok, nx⟩ := tp_n p0 (hp.resolve_left (by omega))
      refine u_X5_table_1 (tx_mono _ _) ⟨fun y => absurd y (by decide), fun _ => ⟨fun y => by omega, fun _ => sx_bring F hb hsg' S96' p0 (by omega) ok (fun ho h1 F1 w1 => ⟨fun y => absurd y (by decide), fun _ => ⟨⟨by omega, by omega⟩, ⟨by omega, by omega⟩, ?_⟩⟩) (fun ho => ⟨fun _ => ?_, fun y => absurd rfl y⟩)⟩⟩
      · rw [if_pos ⟨pS, ho⟩] at q
        have hb1 : okBd (fX h1 9) := by rw [w1]; exact apT_ok ok hb ho
        have k25 : h1.1 25 = h.1 25 := F1.1 25 (by omega)
        have k26 : h1.1 26 = h.1 26 := F1.1 26 (by omega)
        have ksg : sgF (h1.1 26) (h1.1 25 1) = sg := by rw [k25, k26, hS]; exact hsg
        have en := ok_end ok
        have le := stp_le (sg := sg) (p := p)
        have e59 := en.1
        rw [← hsg] at e59
        have lt := sg_lt e59
        rw [hsg] at lt
        refine s_X2_endOf (by rw [k25, hS]; exact S96) p0 (by omega) (fun z z0 z2 hz hz2 => ?_)
        rw [ksg, k25, hS] at hz2
        rw [ksg, k25, hS] at hz
        have ez : z = (stp sg p).1 - 1 := by
          by_cases a : z < (stp sg p).1 - 1
          · have := en.2.2 z z0 a
            rcases hz2 with y | y
            · omega
            · exact absurd y this
          · by_cases a2 : z = (stp sg p).1 - 1
            · exact a2
            · exact absurd en.1 (hz ((stp sg p).1 - 1) (by omega) (by omega)).2
        rw [ez, show max (p + 1) ((stp sg p).1 - 1 + 1) = (stp sg p).1 by omega]
        refine ih (stp sg p).1 (c + 1) h1 (by omega) (by omega) (by omega) (by omega) (by omega) F1 hb1 nx (fun h2 F2 hb2 w2 x0 x1 x2 => ?_)
        rw [w1] at w2 x0 x1 x2 ⊢
        exact q h2 F2 hb2 w2 x0 x1 x2
      · rw [if_neg (fun y => by rw [ho] at y; exact absurd y.2 (by decide))] at q
        exact q h' F hb rfl c0 p0 p1
    · rw [if_neg (fun y => pS y.1)] at q
      exact u_X5_table_1 (tx_mono _ _) ⟨fun _ => q h' F hb rfl c0 p0 p1, fun _ => ⟨fun _ => q h' F hb rfl c0 p0 p1, fun y => by omega⟩⟩
def frTb (h h3 : AH) : Prop := (∀ c, 16 < c ∨ c = 0 → c ≠ 25 → c ≠ 27 → h3.1 c = h.1 c) ∧ (∀ j, ¬ j = 1 → h3.1 25 j = h.1 25 j) ∧ h3.1 25 1 = 0 ∧ (∀ j, ¬ j = 3 → h3.1 27 j = h.1 27 j) ∧ okZ (fX h3 9)
theorem x_table {d : Nat} {h : AH} {sg : Int → Int} {S : Int} {K : Int → AH → Prop} (hS : h.1 25 1 = S) (hsg : sgF (h.1 26) S = sg) (S0 : 0 ≤ S) (S96 : S ≤ 96) (hb : okBd (fX h 1)) (z9 : okZ (fX h 9)) (qf : ∀ v h0, v < 0 → tabV sg S (fX h 1) = (v, fX h 1) → Fx h h0 → K v (upI h0 25 1 0)) (qs : ∀ v h3 b', 0 ≤ v → tabV sg S (fX h 1) = (v, b') → okBd b' → fX h3 1 = b' → h3.1 27 3 = 0 → frTb h h3 → K v h3) : cI (tx mt (d + 30)) n_X5_table [vR 0] h K := by
  have oZ := hb.2.2.2.2
  refine cI_i (e_X5_table (x_wrong (by rw [hS]; exact S0) (by rw [hS]; exact S96) ?_))
  rw [hS, hsg]
  refine sx_copy (Fx.rf z9) oZ (fun h4 x4 F4 => ?_)
  have tb := tp_b (sg := sg) S96 97 0 (by decide) (by decide)
  by_cases c : 0 ≤ tp sg S 97 0
  · have v : tabV sg S (fX h 1) = (-1000 - tp sg S 97 0, fX h 1) := by rw [tabV, if_pos c]
    exact u_X5_table_1 (tx_mono _ _) ⟨fun _ => u_X5_table_2 (tx_mono _ _) (fun h5 w5 => ⟨fun y => by omega, fun _ => ⟨⟨by omega, by omega⟩, exI (by rw [w5]; exact qf _ h4 (by omega) v F4)⟩⟩), fun y => absurd c y⟩
  · have e9 : tp sg S 97 0 = -9 := by omega
    rw [e9]
    refine x_tloop hS hsg S96 97 0 0 h4 (by omega) (by decide) (by decide) (by decide) (by decide) F4 (by rw [x4]; exact hb) (Or.inr e9) (fun h1 F1 hb1 w1 g0 g1 g2 => ?_)
    rw [x4] at w1 g0 g1 g2 ⊢
    refine u_X5_table_2 (tx_mono _ _) (fun h5 w5 => ⟨fun _ => u_X5_table_3 (tx_mono _ _) ⟨fun c2 => u_X5_table_4 (tx_mono _ _) ?_, fun c2 => ⟨⟨by omega, by omega⟩, exI ?_⟩⟩, fun y => absurd (by decide) y⟩)
    · have v : tabV sg S (fX h 1) = ((runT sg S 97 0 0 (fX h 1)).1, (runT sg S 97 0 0 (fX h 1)).2.2) := by rw [tabV, if_neg c, if_neg (by omega)]
      have e1 : fX h5 1 = fX h1 1 := by rw [w5]; exact fX_c (fun c a b => by funext j; rw [upI_e, if_neg (by omega)])
      have e9' : fX h5 9 = fX h1 9 := by rw [w5]; exact fX_c (fun c a b => by funext j; rw [upI_e, if_neg (by omega)])
      refine s_X0_copyFrom isB1 isB9 (by decide) (by rw [e1, F1.x1]; exact oZ) (by rw [e9']; exact F1.2) (fun h6 w6 f6 => s_X3_forget (exI ?_))
      have c6 : ∀ c, 16 < c ∨ c = 0 → c ≠ 25 → h6.1 c = h.1 c := by
        intro c hc hn
        rw [f6.1 c (by omega), ← F1.1 c (by omega), w5]
        funext j
        rw [upI_e, if_neg (by omega)]
      have c25 : ∀ j, h6.1 25 j = if j = 1 then 0 else h.1 25 j := by
        intro j
        rw [f6.1 25 (by omega), w5, upI_e, F1.1 25 (by omega)]
        by_cases y : j = 1
        · rw [if_pos ⟨rfl, y⟩, if_pos y]
        · rw [if_neg (by omega), if_neg y]
      refine qs _ (upI h6 27 3 0) _ g0 v (by rw [← w1]; exact hb1) ?_ ?_ ⟨fun c hc h25 h27 => ?_, fun j hj => ?_, ?_, fun j hj => ?_, ?_⟩
      · rw [← w1, ← e9', ← w6]
        exact fX_c (fun c a b => by funext j; rw [upI_e, if_neg (by omega)])
      · rw [upI_e, if_pos ⟨rfl, rfl⟩]
      · rw [← c6 c hc h25]
        funext j
        rw [upI_e, if_neg (by omega)]
      · rw [upI_e, if_neg (by omega), c25, if_neg hj]
      · rw [upI_e, if_neg (by omega), c25, if_pos rfl]
      · rw [upI_e, if_neg (by omega), c6 27 (by omega) (by omega)]
      · rw [fX_c (h := h5) (h' := upI h6 27 3 0) (k := 9) (fun c a b => by funext j; rw [upI_e, if_neg (by omega), f6.1 c (by omega)]), e9']
        exact F1.2
    · have v : tabV sg S (fX h 1) = (-2000 - (runT sg S 97 0 0 (fX h 1)).2.1, fX h 1) := by rw [tabV, if_neg c, if_pos (by omega)]
      rw [w5]
      exact qf _ h1 (by omega) v F1
