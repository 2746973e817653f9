/-! ===== table: a statement comes to the reference's board ===== -/
theorem fM_s0 {h : AH} {v : Int} : fM (upI h 38 0 v) = putS 0 v (fM h) := by
  refine Prod.ext (funext fun n => ?_) (funext fun j' => funext fun i => ?_)
  · match n with
    | 0 | 1 | 2 | 3 | 4 | 5 => rfl
    | n + 6 => rfl
  · match j' with
    | 0 | 1 | 2 | 3 | 4 | 5 | 6 => rfl
    | j' + 7 => rfl
theorem fM_s1 {h : AH} {v : Int} : fM (upI h 38 1 v) = putS 1 v (fM h) := by
  refine Prod.ext (funext fun n => ?_) (funext fun j' => funext fun i => ?_)
  · match n with
    | 0 | 1 | 2 | 3 | 4 | 5 => rfl
    | n + 6 => rfl
  · match j' with
    | 0 | 1 | 2 | 3 | 4 | 5 | 6 => rfl
    | j' + 7 => rfl
theorem fM_s3 {h : AH} {v : Int} : fM (upI h 38 3 v) = putS 3 v (fM h) := by
  refine Prod.ext (funext fun n => ?_) (funext fun j' => funext fun i => ?_)
  · match n with
    | 0 | 1 | 2 | 3 | 4 | 5 => rfl
    | n + 6 => rfl
  · match j' with
    | 0 | 1 | 2 | 3 | 4 | 5 | 6 => rfl
    | j' + 7 => rfl
theorem fM_s4 {h : AH} {v : Int} : fM (upI h 38 4 v) = putS 4 v (fM h) := by
  refine Prod.ext (funext fun n => ?_) (funext fun j' => funext fun i => ?_)
  · match n with
    | 0 | 1 | 2 | 3 | 4 | 5 => rfl
    | n + 6 => rfl
  · match j' with
    | 0 | 1 | 2 | 3 | 4 | 5 | 6 => rfl
    | j' + 7 => rfl
def frK (h h1 : AH) : Prop := (∀ c, c < 38 ∨ 44 < c → h1.1 c = h.1 c) ∧ ∀ j, j < 0 ∨ 5 < j → h1.1 38 j = h.1 38 j
theorem frK.up {h h1 : AH} (f : frK h h1) {c : Nat} {j v : Int} (hc : (38 < c ∧ c ≤ 44) ∨ (c = 38 ∧ 0 ≤ j ∧ j ≤ 5)) : frK h (upI h1 c j v) := by
  refine ⟨fun c' h' => ?_, fun j' h' => ?_⟩
  · rw [← f.1 c' h']
    funext i
    rw [upI_e, if_neg (by omega)]
  · rw [← f.2 j' h', upI_e, if_neg (by omega)]
theorem Gm.k {B : BD} {h h' h1 : AH} (G : Gm B h h') (f : frK h' h1) (z : okZ (fM h1)) : Gm B h h1 :=
  ⟨fun c c1 c2 c3 => by rw [f.1 c c1]; exact G.1 c c1 c2 c3, fun j c1 c2 c3 c4 c5 => by rw [f.2 j c1]; exact G.2.1 j c1 c2 c3 c4 c5, by rw [fK_c (f.1 46 (by omega))]; exact G.2.2.1, z⟩
theorem sm_addR {d : Nat} {L : Int} {h : AH} {K : Int → AH → Prop} (hb : okBd (fM h)) (q1 : (fM h).1 0 < 4 ∧ 2 ≤ L ∧ L ≤ 12 → ∀ h1, fM h1 = adR (fM h) L → frK h h1 → K 1 h1) (q0 : ¬ ((fM h).1 0 < 4 ∧ 2 ≤ L ∧ L ≤ 12) → K 0 h) : cI (tx mt (d + 2)) n_X6_rhymeComes [vR 38, vI L] h K := by
  have e0 : (fM h).1 0 = h.1 38 0 := rfl
  have r0 : 0 ≤ (fM h).1 0 := hb.1.1
  have r4 : (fM h).1 0 ≤ 4 := hb.1.2.1
  rw [e0] at r0 r4 q1 q0
  have no : ¬ (h.1 38 0 < 4 ∧ 2 ≤ L ∧ L ≤ 12) → Bx z0 0 (tx mt (d+1)) k_X6_rhymeComes (fun r h' => ∃ z, r = some (.inl z) ∧ K z h') 1 [some (vR 38), some (vI L), none] [] h := fun c => u_X6_rhymeComes_1 (tx_mono _ _) (u_X6_rhymeComes_2 (tx_mono _ _) ⟨fun _ => u_X6_rhymeComes_3 (tx_mono _ _) ⟨Or.inl rfl, exI (q0 c)⟩, fun y => absurd rfl y⟩)
  refine cI_i (e_X6_rhymeComes (c_X6_in (fun c => ⟨fun y => absurd y (by decide), fun _ => ⟨fun c2 => no (by omega), fun c2 => u_X6_rhymeComes_2 (tx_mono _ _) ⟨fun y => absurd y (by decide), fun _ => ⟨r0, by omega, fun h1 w1 => ?_⟩⟩⟩⟩) (fun c => ⟨fun _ => no (by omega), fun y => absurd rfl y⟩)))
  have e1 : h1.1 38 0 = h.1 38 0 := by rw [w1, upI_e, if_neg (by omega)]
  rw [e1]
  refine ⟨r0, by omega, fun h2 w2 => ?_⟩
  have e2 : h2.1 38 0 = h.1 38 0 := by rw [w2, upI_e, if_neg (by omega), e1]
  rw [e2]
  refine ⟨⟨by omega, by omega⟩, fun h3 w3 => u_X6_rhymeComes_3 (tx_mono _ _) ⟨Or.inr rfl, exI (q1 (by omega) h3 ?_ ?_)⟩⟩
  · rw [w3, fM_s0, w2, show (40 : Nat) = 38 + 2 from rfl, fM_put (by decide) (by decide), w1, show (39 : Nat) = 38 + 1 from rfl, fM_put (by decide) (by decide)]
    rfl
  · rw [w3, w2, w1]
    exact frK.up (frK.up (frK.up ⟨fun _ _ => rfl, fun _ _ => rfl⟩ (by omega)) (by omega)) (by omega)
theorem sm_addE {d : Nat} {a k f w s : Int} {h : AH} {K : Int → AH → Prop} (hb : okBd (fM h)) (a0 : 0 ≤ a) (a1 : a ≤ 190) (hk : h.1 51 a = k) (hf : h.1 51 (a + 1) = f) (hw : h.1 51 (a + 2) = w) (hs : h.1 51 (a + 3) = s) (q1 : k < 6 ∧ w < 12 ∧ (fM h).1 1 < 4 → ∀ h1, fM h1 = adE (fM h) k f w s → frK h h1 → K 1 h1) (q0 : ¬ (k < 6 ∧ w < 12 ∧ (fM h).1 1 < 4) → K 0 h) : cI (tx mt (d + 1)) n_X6_eaterComes [vR 38, vI a] h K := by
  have e0 : (fM h).1 1 = h.1 38 1 := rfl
  have r0 : 0 ≤ (fM h).1 1 := hb.2.1.1
  have r4 : (fM h).1 1 ≤ 4 := hb.2.1.2.1
  rw [e0] at r0 r4 q1 q0
  have no : ¬ (k < 6 ∧ w < 12 ∧ h.1 38 1 < 4) → Bx z0 0 (tx mt d) k_X6_eaterComes (fun r h' => ∃ z, r = some (.inl z) ∧ K z h') 1 [some (vR 38), some (vI a), none] [] h := fun c => u_X6_eaterComes_1 (tx_mono _ _) (u_X6_eaterComes_2 (tx_mono _ _) ⟨fun _ => u_X6_eaterComes_3 (tx_mono _ _) ⟨Or.inl rfl, exI (q0 c)⟩, fun y => absurd rfl y⟩)
  refine cI_i (e_X6_eaterComes ⟨a0, by omega, fun c => no (by omega), fun c => ⟨⟨by omega, by omega⟩, by omega, by omega, fun c2 => no (by omega), fun c2 => ⟨fun c3 => no (by omega), fun c3 => u_X6_eaterComes_2 (tx_mono _ _) ⟨fun y => absurd y (by decide), fun _ => ⟨a0, by omega, r0, by omega, fun h1 w1 => ?_⟩⟩⟩⟩⟩)
  have e1 : h1.1 38 1 = h.1 38 1 := by rw [w1, upI_e, if_neg (by omega)]
  have m1 : ∀ i, h1.1 51 i = h.1 51 i := fun i => by rw [w1, upI_e, if_neg (by omega)]
  rw [e1, m1, hf]
  refine ⟨⟨by omega, by omega⟩, by omega, by omega, r0, by omega, fun h2 w2 => ?_⟩
  have e2 : h2.1 38 1 = h.1 38 1 := by rw [w2, upI_e, if_neg (by omega), e1]
  have m2 : ∀ i, h2.1 51 i = h.1 51 i := fun i => by rw [w2, upI_e, if_neg (by omega), m1]
  rw [e2, m2, hw]
  refine ⟨⟨by omega, by omega⟩, by omega, by omega, r0, by omega, fun h3 w3 => ?_⟩
  have e3 : h3.1 38 1 = h.1 38 1 := by rw [w3, upI_e, if_neg (by omega), e2]
  have m3 : ∀ i, h3.1 51 i = h.1 51 i := fun i => by rw [w3, upI_e, if_neg (by omega), m2]
  rw [e3, m3, hs]
  refine ⟨⟨by omega, by omega⟩, by omega, by omega, r0, by omega, fun h4 w4 => ?_⟩
  have e4 : h4.1 38 1 = h.1 38 1 := by rw [w4, upI_e, if_neg (by omega), e3]
  rw [e4]
  rw [hk] at w1
  refine ⟨⟨by omega, by omega⟩, fun h5 w5 => u_X6_eaterComes_3 (tx_mono _ _) ⟨Or.inr rfl, exI (q1 (by omega) h5 ?_ ?_)⟩⟩
  · rw [w5, fM_s1, w4, show (44 : Nat) = 38 + 6 from rfl, fM_put (by decide) (by decide), w3, show (43 : Nat) = 38 + 5 from rfl, fM_put (by decide) (by decide), w2, show (42 : Nat) = 38 + 4 from rfl, fM_put (by decide) (by decide), w1, show (41 : Nat) = 38 + 3 from rfl, fM_put (by decide) (by decide)]
    rfl
  · rw [w5, w4, w3, w2, w1]
    exact frK.up (frK.up (frK.up (frK.up (frK.up ⟨fun _ _ => rfl, fun _ _ => rfl⟩ (by omega)) (by omega)) (by omega)) (by omega)) (by omega)
theorem sm_fill {d : Nat} {f u m : Int} {h : AH} {K : Int → AH → Prop} (q1 : f ≤ 60 ∧ 1 ≤ u ∧ u ≤ 4 ∧ 1 ≤ m ∧ m ≤ 6 → ∀ h1, fM h1 = fiB (fM h) f u m → frK h h1 → K 1 h1) (q0 : ¬ (f ≤ 60 ∧ 1 ≤ u ∧ u ≤ 4 ∧ 1 ≤ m ∧ m ≤ 6) → ∀ h1, fM h1 = fiB (fM h) f u m → frK h h1 → K 0 h1) : cI (tx mt (d + 2)) n_X6_bowlComes [vR 38, vI f, vI u, vI m] h K := by
  refine cI_i (e_X6_bowlComes (fun h1 w1 h2 w2 h3 w3 => ?_))
  have e3 : fM h3 = fiB (fM h) f u m := by
    rw [w3, fM_s4, w2, fM_s3, w1, fM_putF]
    rfl
  have f3 : frK h h3 := by
    rw [w3, w2, w1]
    exact frK.up (frK.up (frK.up ⟨fun _ _ => rfl, fun _ _ => rfl⟩ (by omega)) (by omega)) (by omega)
  have no : ¬ (f ≤ 60 ∧ 1 ≤ u ∧ u ≤ 4 ∧ 1 ≤ m ∧ m ≤ 6) → Bx z0 0 (tx mt (d+1)) k_X6_bowlComes (fun r h' => ∃ z, r = some (.inl z) ∧ K z h') 1 [some (vR 38), some (vI f), some (vI u), some (vI m)] [] h3 := fun c => u_X6_bowlComes_1 (tx_mono _ _) (u_X6_bowlComes_2 (tx_mono _ _) ⟨Or.inl rfl, exI (q0 c h3 e3 f3)⟩)
  exact ⟨fun c => no (by omega), fun c => c_X6_in (fun c2 => ⟨fun y => absurd y (by decide), fun _ => c_X6_in (fun c3 => ⟨fun y => absurd y (by decide), fun _ => u_X6_bowlComes_2 (tx_mono _ _) ⟨Or.inr rfl, exI (q1 (by omega) h3 e3 f3)⟩⟩) (fun c3 => ⟨fun _ => no (by omega), fun y => absurd rfl y⟩)⟩) (fun c2 => ⟨fun _ => no (by omega), fun y => absurd rfl y⟩)⟩
theorem sm_begin {d : Nat} {r w : Int} {h : AH} {K : Int → AH → Prop} (hb : okBd (fM h)) (r0 : 0 ≤ r) (r9 : r ≤ 99) (w0 : 0 ≤ w) (q1 : r < (fM h).1 0 ∧ w < (fM h).2 1 r → ∀ h1, fM h1 = putB 2 r w (fM h) → frK h h1 → K 1 h1) (q0 : ¬ (r < (fM h).1 0 ∧ w < (fM h).2 1 r) → K 0 h) : cI (tx mt (d + 3)) n_X6_wordComes [vR 38, vI r, vI w] h K := by
  have e0 : (fM h).1 0 = h.1 38 0 := rfl
  have e1 : (fM h).2 1 r = h.1 39 r := rfl
  have n0 : 0 ≤ (fM h).1 0 := hb.1.1
  have r4 : (fM h).1 0 ≤ 4 := hb.1.2.1
  rw [e0] at r4 n0
  rw [e0, e1] at q1 q0
  have no : ¬ (r < h.1 38 0 ∧ w < h.1 39 r) → Bx z0 0 (tx mt (d+2)) k_X6_wordComes (fun r h' => ∃ z, r = some (.inl z) ∧ K z h') 1 [some (vR 38), some (vI r), some (vI w), none] [] h := fun c => u_X6_wordComes_1 (tx_mono _ _) (u_X6_wordComes_2 (tx_mono _ _) ⟨fun _ => u_X6_wordComes_3 (tx_mono _ _) ⟨Or.inl rfl, exI (q0 c)⟩, fun y => absurd rfl y⟩)
  refine cI_i (e_X6_wordComes (c_X6_isRhyme ⟨n0, r4⟩ (fun c => ⟨fun y => absurd y (by decide), fun _ => ⟨r0, by omega, fun c2 => no (by omega), fun c2 => u_X6_wordComes_2 (tx_mono _ _) ⟨fun y => absurd y (by decide), fun _ => ⟨r0, by omega, fun h1 w1 => u_X6_wordComes_3 (tx_mono _ _) ⟨Or.inr rfl, exI (q1 (by omega) h1 ?_ ?_)⟩⟩⟩⟩⟩) (fun c => ⟨fun _ => no (by omega), fun y => absurd rfl y⟩)))
  · rw [w1, show (40 : Nat) = 38 + 2 from rfl, fM_put (by decide) (by decide)]
  · rw [w1]
    exact frK.up ⟨fun _ _ => rfl, fun _ _ => rfl⟩ (by omega)
theorem sm_comes {d : Nat} {p i : Int} {B : BD} {h h' : AH} {K : Int → AH → Prop} {sg : Int → Int} (G : Gm B h h') (hb : okBd (fM h')) (i0 : 0 ≤ i) (i1 : i ≤ 47) (h50 : h'.1 50 i = sg p) (h51 : ∀ j : Nat, j < nA (sg p) → h'.1 51 (4 * i + j) = arg sg p j) (ok : (stp sg p).2 = false) (q1 : oksT sg p (fM h') = true → ∀ h1, Gm B h h1 → fM h1 = apT sg p (fM h') → K 1 h1) (q0 : oksT sg p (fM h') = false → ∀ h1, Gm B h h1 → K 0 h1) : cI (tx mt (d + 8)) n_X6_comes [vR 38, vI i] h' K := by
  have fin : ∀ h1, oksT sg p (fM h') = true → fM h1 = apT sg p (fM h') → frK h' h1 → K 1 h1 := by
    intro h1 ho w f
    have ab := apT_ok ok hb ho
    exact q1 ho h1 (G.k f (by rw [w]; exact ab.2.2.2.2)) w
  refine cI_i (e_X6_comes ⟨⟨by omega, by omega⟩, i0, by omega, ?_⟩)
  rw [h50]
  rcases ok_l ok with l | l | l | l | l
  · rw [l]
    refine ⟨fun y => absurd y (by decide), fun _ => ⟨fun y => absurd y (by decide), fun _ => ⟨fun _ => u_X6_comes_1 (tx_mono _ _) ⟨by omega, by omega, ?_⟩, fun y => absurd rfl y⟩⟩⟩
    have v0 := h51 0 (by rw [nA, if_pos l]; decide)
    rw [show 4 * i + ((0 : Nat) : Int) = 4 * i by omega] at v0
    rw [v0]
    have ko : oksT sg p (fM h') = decide ((fM h').1 0 < 4 ∧ 2 ≤ arg sg p 0 ∧ arg sg p 0 ≤ 12) := by rw [oksT, if_pos l]
    refine sm_addR hb (fun c h1 w1 f1 => ⟨Or.inr rfl, exI (fin h1 (by rw [ko]; exact decide_eq_true c) (by rw [w1, apT, if_pos l]) f1)⟩) (fun c => ⟨Or.inl rfl, exI (q0 (by rw [ko]; exact decide_eq_false c) h' G)⟩)
  · rw [l]
    refine ⟨fun y => absurd y (by decide), fun _ => ⟨fun _ => u_X6_comes_2 (tx_mono _ _) ?_, fun y => absurd rfl y⟩⟩
    have na : nA (sg p) = 4 := by rw [nA, if_neg (by omega), if_pos l]
    have ko : oksT sg p (fM h') = decide (arg sg p 0 < 6 ∧ arg sg p 2 < 12 ∧ (fM h').1 1 < 4) := by rw [oksT, if_neg (by omega), if_pos l]
    refine sm_addE (k := arg sg p 0) (f := arg sg p 1) (w := arg sg p 2) (s := arg sg p 3) hb (by omega) (by omega) ?_ (h51 1 (by rw [na]; decide)) (h51 2 (by rw [na]; decide)) (h51 3 (by rw [na]; decide)) (fun c h1 w1 f1 => ⟨Or.inr rfl, exI (fin h1 (by rw [ko]; exact decide_eq_true c) (by rw [w1, apT, if_neg (by omega), if_pos l]) f1)⟩) (fun c => ⟨Or.inl rfl, exI (q0 (by rw [ko]; exact decide_eq_false c) h' G)⟩)
    have v0 := h51 0 (by rw [na]; decide)
    rw [show 4 * i + ((0 : Nat) : Int) = 4 * i by omega] at v0
    exact v0
  · rw [l]
    refine ⟨fun _ => u_X6_comes_3 (tx_mono _ _) ⟨by omega, by omega, ⟨by omega, by omega⟩, by omega, by omega, ⟨by omega, by omega⟩, by omega, by omega, ?_⟩, fun y => absurd rfl y⟩
    have na : nA (sg p) = 3 := by rw [nA, if_neg (by omega), if_neg (by omega), if_pos l]
    have v0 := h51 0 (by rw [na]; decide)
    rw [show 4 * i + ((0 : Nat) : Int) = 4 * i by omega] at v0
    have v1 : h'.1 51 (4 * i + 1) = arg sg p 1 := h51 1 (by rw [na]; decide)
    have v2 : h'.1 51 (4 * i + 2) = arg sg p 2 := h51 2 (by rw [na]; decide)
    rw [v0, v1, v2]
    have ko : oksT sg p (fM h') = decide (arg sg p 0 ≤ 60 ∧ 1 ≤ arg sg p 1 ∧ arg sg p 1 ≤ 4 ∧ 1 ≤ arg sg p 2 ∧ arg sg p 2 ≤ 6) := by rw [oksT, if_neg (by omega), if_neg (by omega), if_pos l]
    refine sm_fill (fun c h1 w1 f1 => ⟨Or.inr rfl, exI (fin h1 (by rw [ko]; exact decide_eq_true c) (by rw [w1, apT, if_neg (by omega), if_neg (by omega), if_pos l]) f1)⟩) (fun c h1 w1 f1 => ⟨Or.inl rfl, exI (q0 (by rw [ko]; exact decide_eq_false c) h1 (G.k f1 (by rw [w1]; exact hb.2.2.2.2)))⟩)
  · rw [l]
    refine ⟨fun y => absurd y (by decide), fun _ => ⟨fun y => absurd y (by decide), fun _ => ⟨fun y => absurd y (by decide), fun _ => ⟨fun _ => u_X6_comes_4 (tx_mono _ _) ⟨by omega, by omega, ⟨by omega, by omega⟩, by omega, by omega, ?_⟩, fun y => absurd rfl y⟩⟩⟩⟩
    have na : nA (sg p) = 2 := by rw [nA, if_neg (by omega), if_neg (by omega), if_neg (by omega), if_pos l]
    have v0 := h51 0 (by rw [na]; decide)
    rw [show 4 * i + ((0 : Nat) : Int) = 4 * i by omega] at v0
    have v1 : h'.1 51 (4 * i + 1) = arg sg p 1 := h51 1 (by rw [na]; decide)
    rw [v0, v1]
    have b0 := arg_b ok (by omega) 0
    have b1 := arg_b ok (by omega) 1
    have ko : oksT sg p (fM h') = decide (arg sg p 0 < (fM h').1 0 ∧ arg sg p 1 < (fM h').2 1 (arg sg p 0)) := by rw [oksT, if_neg (by omega), if_neg (by omega), if_neg (by omega), if_pos l]
    refine sm_begin hb b0.1 b0.2 b1.1 (fun c h1 w1 f1 => ⟨Or.inr rfl, exI (fin h1 (by rw [ko]; exact decide_eq_true c) (by rw [w1, apT, if_neg (by omega), if_neg (by omega), if_neg (by omega), if_pos l]) f1)⟩) (fun c => ⟨Or.inl rfl, exI (q0 (by rw [ko]; exact decide_eq_false c) h' G)⟩)
  · rw [l]
    refine ⟨fun y => absurd y (by decide), fun _ => ⟨fun y => absurd y (by decide), fun _ => ⟨fun y => absurd y (by decide), fun _ => ⟨fun y => absurd y (by decide), fun _ => u_X6_comes_5 (tx_mono _ _) ?_⟩⟩⟩⟩
    have ko : oksT sg p (fM h') = decide (¬ (fM h').1 1 = 0) := by rw [oksT, if_neg (by omega), if_neg (by omega), if_neg (by omega), if_neg (by omega)]
    have c1 : (fM h').1 1 = h'.1 38 1 := rfl
    have n0 : 0 ≤ (fM h').1 1 := hb.2.1.1
    refine ⟨fun c => u_X6_comes_6 (tx_mono _ _) ⟨fun _ => u_X6_comes_7 (tx_mono _ _) (u_X6_comes_8 (tx_mono _ _) ⟨Or.inl rfl, exI (q0 (by rw [ko]; exact decide_eq_false (by omega)) h' G)⟩), fun y => absurd c y⟩, fun c => sm_turn G hb (hb.nx (by omega)) (fun h1 w1 G1 => ?_)⟩
    have e1 : h1.1 38 1 = (fM h').1 1 := by
      show (fM h1).1 1 = _
      rw [w1]
      rfl
    refine u_X6_comes_6 (tx_mono _ _) ⟨fun y => by rw [e1] at y; omega, fun _ => u_X6_comes_8 (tx_mono _ _) ⟨Or.inr rfl, exI (q1 (by rw [ko]; exact decide_eq_true (by omega)) h1 G1 ?_)⟩⟩
    rw [w1, apT, if_neg (by omega), if_neg (by omega), if_neg (by omega), if_neg (by omega)]
