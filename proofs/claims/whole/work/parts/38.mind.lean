/-! ===== suppers in mind: what stays ===== -/
theorem supB_ok : ∀ (n : Nat) (idle : Int) (b : BD), okBd b → b.1 5 < b.1 1 → okBd (supB n idle b).2 ∧ (supB n idle b).2.1 5 < (supB n idle b).2.1 1 ∧ (supB n idle b).2.1 1 = b.1 1 ∧ (supB n idle b).2.1 0 = b.1 0 ∧ 0 ≤ (supB n idle b).1 ∧ (supB n idle b).1 ≤ n := by
  intro n
  induction n with
  | zero => intro idle b hb hn; exact ⟨hb, hn, rfl, rfl, Int.le_refl _, Int.le_refl _⟩
  | succ n ih =>
    intro idle b hb hn
    rw [supB]
    split
    · next c =>
      have hpos : 0 < b.1 1 := by have := hb.2.2.1.2.2.2.2.2.2.1; omega
      obtain ⟨i1, i2, i3, i4, i5, i6⟩ := ih (if turnT b = 0 then idle + 1 else 0) (turnB b) (turnB_ok hb hn) (turnB_n hpos)
      exact ⟨i1, i2, i3, i4, by show 0 ≤ _ + 1; omega, by show _ + 1 ≤ ((n + 1 : Nat) : Int); omega⟩
    · exact ⟨hb, hn, rfl, rfl, Int.le_refl _, by show (0 : Int) ≤ ((n + 1 : Nat) : Int); omega⟩
/-- the component: only the board in mind -/
def Fx (h h' : AH) : Prop := (∀ c, c < 9 ∨ 16 < c → h'.1 c = h.1 c) ∧ okZ (fX h' 9)
theorem Fx.rf {h : AH} (z : okZ (fX h 9)) : Fx h h := ⟨fun _ _ => rfl, z⟩
theorem Fx.x1 {h h' : AH} (F : Fx h h') : fX h' 1 = fX h 1 := fX_c (fun c a b => F.1 c (by omega))
theorem sx_copy {d : Nat} {h h' : AH} {k : AH → Prop} (F : Fx h h') (z : okZ (fX h 1)) (q : ∀ h1, fX h1 9 = fX h 1 → Fx h h1 → k h1) : cV (tx mt (d + 1)) n_X0_copyFrom [vR 9, vR 1] h' k :=
  s_X0_copyFrom isB9 isB1 (by decide) F.2 (by rw [F.x1]; exact z) (fun h1 w1 f1 => q h1 (by rw [w1, F.x1]) ⟨fun c hc => by rw [f1.1 c (by omega)]; exact F.1 c hc, by rw [w1, F.x1]; exact z⟩)
theorem Fx.b {h h' h1 : AH} (F : Fx h h') (f : frB 9 h' h1) (z : okZ (fX h1 9)) : Fx h h1 := ⟨fun c hc => by rw [f.1 c (by omega) (by omega)]; exact F.1 c hc, z⟩
theorem sx_eat {d : Nat} {h h' : AH} {k : Int → AH → Prop} (F : Fx h h') (hb : okBd (fX h' 9)) (hn : (fX h' 9).1 5 < (fX h' 9).1 1) (q : ∀ h1, fX h1 9 = (supB 100 0 (fX h' 9)).2 → Fx h h1 → k (supB 100 0 (fX h' 9)).1 h1) : cI (tx mt (d + 6)) n_X0_eatUp [vR 9] h' k :=
  s_X0_eatUp isB9 hb hn (fun h1 w1 f1 => q h1 w1 (F.b f1 (by rw [w1]; exact (supB_ok 100 0 _ hb hn).1.2.2.2.2)))
theorem sx_turn {d : Nat} {h h' : AH} {k : Int → AH → Prop} (F : Fx h h') (hb : okBd (fX h' 9)) (hn : (fX h' 9).1 5 < (fX h' 9).1 1) (q : ∀ h1, fX h1 9 = turnB (fX h' 9) → Fx h h1 → k (turnT (fX h' 9)) h1) : cI (tx mt (d + 5)) n_X0_takeTurn [vR 9] h' k :=
  s_X0_takeTurn isB9 hb.1 hb.2.1 hb.2.2.1 hn (fun h1 w1 f1 => q h1 w1 (F.b f1 (by rw [w1]; exact (turnB_ok hb hn).2.2.2.2)))
/-- the reference: its board, and the row that holds it -/
def Gm (B : BD) (h h' : AH) : Prop := (∀ c, c < 38 ∨ 44 < c → c ≠ 46 → c ≠ 61 → h'.1 c = h.1 c) ∧ (∀ j, j < 0 ∨ 5 < j → j ≠ 39 → j ≠ 12 → j ≠ 17 → j ≠ 18 → h'.1 38 j = h.1 38 j) ∧ fK h' 46 = B ∧ okZ (fM h')
theorem sm_open {d : Nat} {h h' : AH} {B : BD} {k : AH → Prop} (e : fM h' = B) (z : okZ B) (f : ∀ c, c ≠ 38 → h'.1 c = h.1 c) (s : ∀ j, j ≠ 12 → h'.1 38 j = h.1 38 j) (q : ∀ h1, fM h1 = B → Gm B h h1 → k h1) : cV (tx mt (d + 3)) n_X6_open [vR 38] h' k :=
  s_X6_open (by rw [e]; exact z) (fun h1 k1 k2 k3 => q h1 (by rw [k2, e]) ⟨fun c c1 c2 c3 => by rw [k3.1 c (by omega) c2]; exact f c (by omega), fun j c1 c2 c3 c4 c5 => by rw [k3.2.1 j c4 c5]; exact s j c3, by rw [k1, e], by rw [k2, e]; exact z⟩)
theorem sm_put {d : Nat} {h h' : AH} {B : BD} {k : AH → Prop} (G : Gm B h h') (z : okZ B) (q : ∀ h1, fM h1 = B → Gm B h h1 → k h1) : cV (tx mt (d + 3)) n_X6_putBack [vR 38] h' k :=
  s_X6_putBack G.2.2.2 (fun h1 k1 k2 => q h1 (by rw [k1]; exact G.2.2.1) ⟨fun c c1 c2 c3 => by rw [k2.1 c (by omega)]; exact G.1 c c1 c2 c3, fun j c1 c2 c3 c4 c5 => by rw [k2.2.1 j c1 c2 c4 c5]; exact G.2.1 j c1 c2 c3 c4 c5, by rw [fK_c (k2.1 46 (by omega))]; exact G.2.2.1, by rw [k1, G.2.2.1]; exact z⟩)
theorem Gm.b {B : BD} {h h' h1 : AH} (G : Gm B h h') (f : frM h' h1) (z : okZ (fM h1)) : Gm B h h1 :=
  ⟨fun c c1 c2 c3 => by rw [f.1 c (by omega) (by omega)]; exact G.1 c c1 c2 c3, fun j c1 c2 c3 c4 c5 => by rw [f.2.1 j (by omega) (by omega)]; exact G.2.1 j c1 c2 c3 c4 c5, by rw [fK_c (f.1 46 (by decide) (by decide))]; exact G.2.2.1, z⟩
theorem sm_eat {d : Nat} {h h' : AH} {B : BD} {k : Int → AH → Prop} (G : Gm B h h') (hb : okBd (fM h')) (hn : (fM h').1 5 < (fM h').1 1) (q : ∀ h1, fM h1 = (supB 100 0 (fM h')).2 → Gm B h h1 → k (supB 100 0 (fM h')).1 h1) : cI (tx mt (d + 7)) n_X6_supperNow [vR 38] h' k :=
  s_X6_supperNow hb hn (fun h1 w1 f1 => q h1 w1 (G.b f1 (by rw [w1]; exact (supB_ok 100 0 _ hb hn).1.2.2.2.2)))
theorem sm_turn {d : Nat} {h h' : AH} {B : BD} {k : Int → AH → Prop} (G : Gm B h h') (hb : okBd (fM h')) (hn : (fM h').1 5 < (fM h').1 1) (q : ∀ h1, fM h1 = turnB (fM h') → Gm B h h1 → k (turnT (fM h')) h1) : cI (tx mt (d + 6)) n_X6_turnOne [vR 38] h' k :=
  s_X6_turnOne hb.1 hb.2.1 hb.2.2.1 hn (fun h1 w1 f1 => q h1 w1 (G.b f1 (by rw [w1]; exact (turnB_ok hb hn).2.2.2.2)))
/-- after both, all holds again -/
theorem Inv.xm {n : Int} {h h1 h2 : AH} (H : Inv n h) (F : Fx h h1) (G : Gm (fX h 1) h1 h2) (e : fM h2 = fX h 1) : Inv (n + 1) h2 := by
  obtain ⟨hB, hZ, hK, hR, hL, hF, hP⟩ := H
  have f : ∀ c, c < 9 ∨ 16 < c → c < 38 ∨ 44 < c → c ≠ 46 → c ≠ 61 → h2.1 c = h.1 c := fun c c1 c2 c3 c4 => by rw [G.1 c c2 c3 c4, F.1 c c1]
  have s : ∀ j, j < 0 ∨ 5 < j → j ≠ 39 → j ≠ 12 → j ≠ 17 → j ≠ 18 → h2.1 38 j = h.1 38 j := fun j c1 c2 c3 c4 c5 => by rw [G.2.1 j c1 c2 c3 c4 c5, F.1 38 (by decide)]
  have x1 : fX h2 1 = fX h 1 := fX_c (fun c a b => f c (by omega) (by omega) (by omega) (by omega))
  refine ⟨⟨by rw [x1]; exact hB.1, by rw [e, x1]⟩, hZ.m (fun c hc => f c (by omega) (by omega) (by omega) (by omega)) ?_,
    hK.c (fun c hc => f c (by omega) (by omega) (by omega) (by omega)) (by rw [f 0 (by decide) (by decide) (by decide) (by decide)]) (s 16 (by decide) (by decide) (by decide) (by decide) (by decide)),
    hR.c (fun c hc => f c (by omega) (by omega) (by omega) (by omega)) (by rw [f 0 (by decide) (by decide) (by decide) (by decide)]) (s 43 (by decide) (by decide) (by decide) (by decide) (by decide)),
    hL.c (fun c hc => f c (by omega) (by omega) (by omega) (by omega)) (by rw [f 25 (by decide) (by decide) (by decide) (by decide)]) (s 21 (by decide) (by decide) (by decide) (by decide) (by decide)),
    hF.c (fun c hc => f c (by omega) (by omega) (by omega) (by omega)),
    hP.c (fun c hc => f c (by omega) (by omega) (by omega) (by omega)) (by rw [f 27 (by decide) (by decide) (by decide) (by decide)]) (s 31 (by decide) (by decide) (by decide) (by decide) (by decide)) (by rw [f 1 (by decide) (by decide) (by decide) (by decide)])⟩
  rw [fX_c (h := h1) (k := 9) (fun c a b => G.1 c (by omega) (by omega) (by omega))]
  exact F.2
/-- what the reference's first step finds -/
theorem Fx.m {n : Int} {h h1 : AH} (H : Inv n h) (F : Fx h h1) : fM (upI h1 38 12 0) = fX h 1 := by
  rw [fM_c (h := h) (fun c hc => by funext j; simp only [upI_e]; rw [if_neg (by omega), F.1 c (by omega)]) (fun j hj => by simp only [upI_e]; rw [if_neg (by omega), F.1 38 (by decide)])]
  exact H.1.2
theorem sm_open0 {d : Nat} {n : Int} {h h1 : AH} {k : AH → Prop} (H : Inv n h) (F : Fx h h1) (q : ∀ h2, fM h2 = fX h 1 → Gm (fX h 1) h1 h2 → k h2) : cV (tx mt (d + 3)) n_X6_open [vR 38] (upI h1 38 12 0) k :=
  sm_open (F.m H) H.1.1.2.2.2.2 (fun c hc => by funext j; simp only [upI_e]; rw [if_neg (by omega)]) (fun j hj => by simp only [upI_e]; rw [if_neg (by omega)]) q
/-- one cell of a board written -/
def putB (j : Nat) (e v : Int) (b : BD) : BD := (b.1, fun j' i => if j' = j ∧ i = e then v else b.2 j' i)
def putS (n : Nat) (v : Int) (b : BD) : BD := (fun n' => if n' = n then v else b.1 n', b.2)
theorem fX_put {h : AH} {j : Nat} {e v : Int} (h1 : 1 ≤ j) (h6 : j ≤ 6) : fX (upI h (9 + j) e v) 9 = putB j e v (fX h 9) := by
  refine Prod.ext (funext fun n => ?_) (funext fun j' => funext fun i => ?_)
  · show (if 9 = 9 + j ∧ _ then v else _) = _
    rw [if_neg (by omega)]
    rfl
  · show (if xa 9 j' = 9 + j ∧ i = e then v else h.1 (xa 9 j') i) = if j' = j ∧ i = e then v else h.1 (xa 9 j') i
    have : xa 9 j' = 9 + j ↔ j' = j := by
      match j' with
      | 0 | 1 | 2 | 3 | 4 | 5 | 6 => simp only [xa]; omega
      | j' + 7 => simp only [xa]; omega
    simp only [this]
theorem fM_put {h : AH} {j : Nat} {e v : Int} (h1 : 1 ≤ j) (h6 : j ≤ 6) : fM (upI h (38 + j) e v) = putB j e v (fM h) := by
  refine Prod.ext (funext fun n => ?_) (funext fun j' => funext fun i => ?_)
  · show (if 38 = 38 + j ∧ _ then v else _) = _
    rw [if_neg (by omega)]
    rfl
  · show (if ma j' = 38 + j ∧ i = e then v else h.1 (ma j') i) = if j' = j ∧ i = e then v else h.1 (ma j') i
    have : ma j' = 38 + j ↔ j' = j := by
      match j' with
      | 0 | 1 | 2 | 3 | 4 | 5 | 6 => simp only [ma]; omega
      | j' + 7 => simp only [ma]; omega
    simp only [this]
theorem fX_putS {h : AH} {v : Int} : fX (upI h 9 11 v) 9 = putS 5 v (fX h 9) := by
  refine Prod.ext (funext fun n => ?_) (funext fun j' => funext fun i => ?_)
  · match n with
    | 0 | 1 | 2 | 3 | 4 | 5 => rfl
    | n + 6 => rfl
  · match j' with
    | 0 | 1 | 2 | 3 | 4 | 5 | 6 => rfl
    | j' + 7 => rfl
theorem fX_putF {h : AH} {v : Int} : fX (upI h 9 8 v) 9 = putS 2 v (fX h 9) := by
  refine Prod.ext (funext fun n => ?_) (funext fun j' => funext fun i => ?_)
  · match n with
    | 0 | 1 | 2 | 3 | 4 | 5 => rfl
    | n + 6 => rfl
  · match j' with
    | 0 | 1 | 2 | 3 | 4 | 5 | 6 => rfl
    | j' + 7 => rfl
theorem fM_putS {h : AH} {v : Int} : fM (upI h 38 5 v) = putS 5 v (fM h) := by
  refine Prod.ext (funext fun n => ?_) (funext fun j' => funext fun i => ?_)
  · match n with
    | 0 | 1 | 2 | 3 | 4 | 5 => rfl
    | n + 6 => rfl
  · match j' with
    | 0 | 1 | 2 | 3 | 4 | 5 | 6 => rfl
    | j' + 7 => rfl
theorem fM_putF {h : AH} {v : Int} : fM (upI h 38 2 v) = putS 2 v (fM h) := by
  refine Prod.ext (funext fun n => ?_) (funext fun j' => funext fun i => ?_)
  · match n with
    | 0 | 1 | 2 | 3 | 4 | 5 => rfl
    | n + 6 => rfl
  · match j' with
    | 0 | 1 | 2 | 3 | 4 | 5 | 6 => rfl
    | j' + 7 => rfl
theorem okBd.put {b : BD} (hb : okBd b) {j : Nat} {e v : Int} (h0 : 0 ≤ e) (h4 : e < 4) (q : j = 3 ∧ 0 ≤ v ∧ v ≤ 5 ∨ j = 5 ∧ 0 ≤ v ∧ v ≤ 11 ∨ j = 6 ∧ 0 ≤ v ∧ v ≤ 99) : okBd (putB j e v b) := by
  obtain ⟨hr, he, hs, hp, hz⟩ := hb
  refine ⟨⟨hr.1, hr.2.1, fun r r0 r1 => ?_⟩, ⟨he.1, he.2.1, fun i i0 i1 => ?_⟩, hs, ⟨hp.1, hp.2.1, fun p p0 p1 => ?_⟩, fun j' i hi => ?_⟩
  · have := hr.2.2 r r0 r1
    simp only [putB]
    rw [if_neg (by omega), if_neg (by omega)]
    exact this
  · have := he.2.2 i i0 i1
    simp only [putB]
    (repeat' split) <;> omega
  · have := hp.2.2 p p0 p1
    simp only [putB]
    rw [if_neg (by omega)]
    exact this
  · simp only [putB]
    rw [if_neg (by omega)]
    exact hz j' i hi
theorem okBd.pus {b : BD} (hb : okBd b) {j : Nat} {v : Int} (q : j = 2 ∧ 0 ≤ v ∧ v ≤ 60 ∨ j = 5 ∧ 0 ≤ v ∧ (v < b.1 1 ∨ v = 0)) : okBd (putS j v b) := by
  obtain ⟨hr, he, hs, hp, hz⟩ := hb
  have e0 : (putS j v b).1 0 = b.1 0 := by simp only [putS]; rw [if_neg (by omega)]
  have e1 : (putS j v b).1 1 = b.1 1 := by simp only [putS]; rw [if_neg (by omega)]
  have e3 : (putS j v b).1 3 = b.1 3 := by simp only [putS]; rw [if_neg (by omega)]
  have e4 : (putS j v b).1 4 = b.1 4 := by simp only [putS]; rw [if_neg (by omega)]
  have e6 : (putS j v b).1 6 = b.1 6 := by simp only [putS]; rw [if_neg (by omega)]
  refine ⟨⟨by have := hr.1; omega, by have := hr.2.1; omega, fun r r0 r1 => hr.2.2 r r0 (by omega)⟩, ⟨by have := he.1; omega, by have := he.2.1; omega, fun i i0 i1 => he.2.2 i i0 (by omega)⟩, ?_, ⟨by have := hp.1; omega, by have := hp.2.1; omega, fun p p0 p1 => ?_⟩, hz⟩
  · obtain ⟨s1, s2, s3, s4, s5, s6, s7, s8⟩ := hs
    refine ⟨?_, ?_, by omega, by omega, by omega, by omega, ?_, ?_⟩
    · simp only [putS]; split <;> omega
    · simp only [putS]; split <;> omega
    · simp only [putS]; split <;> omega
    · rw [e1]; simp only [putS]; split <;> omega
  · rw [e6]
    exact hp.2.2 p p0 p1
theorem Fx.put {h h' : AH} (F : Fx h h') {c : Nat} {e v : Int} (h1 : 9 ≤ c) (h2 : c ≤ 16) (z : okZ (fX (upI h' c e v) 9)) : Fx h (upI h' c e v) :=
  ⟨fun c' hc => by funext j; simp only [upI_e]; rw [if_neg (by omega), F.1 c' hc], z⟩
theorem Gm.put {B : BD} {h h' : AH} (G : Gm B h h') {c : Nat} {e v : Int} (h1 : 38 < c ∧ c ≤ 44 ∨ c = 38 ∧ 0 ≤ e ∧ e ≤ 5) (z : okZ (fM (upI h' c e v))) : Gm B h (upI h' c e v) :=
  ⟨fun c' a1 a2 a3 => by funext j; simp only [upI_e]; rw [if_neg (by omega), G.1 c' a1 a2 a3], fun j a1 a2 a3 a4 a5 => by simp only [upI_e]; rw [if_neg (by omega), G.2.1 j a1 a2 a3 a4 a5], by rw [fK_c (h := h') (by funext j; simp only [upI_e]; rw [if_neg (by omega)])]; exact G.2.2.1, z⟩
