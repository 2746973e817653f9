/-! ===== copying: boards of the component, the reference's carry ===== -/
theorem cpI_e (h : AH) (a : Nat) (sp : Int) (b : Nat) (dp n : Int) (k' : Nat) (j' : Int) : (cpI h a sp b dp n).1 k' j' = if k' = b ∧ dp ≤ j' ∧ j' < dp + n then h.1 a (sp + (j' - dp)) else h.1 k' j' := rfl
def frC (k : Nat) (h h' : AH) : Prop := (∀ c, (c < k ∨ k + 7 < c) → h'.1 c = h.1 c) ∧ h'.2 = h.2
theorem s_X0_copyFrom {d k0 k1 : Nat} {h : AH} {k : AH → Prop} (hB : isB k0) (hB1 : isB k1) (hne : k0 ≠ k1) (hz0 : okZ (fX h k0)) (hz1 : okZ (fX h k1)) (q : ∀ h', fX h' k0 = fX h k1 → frC k0 h h' → k h') : cV (tx mt (d + 1)) n_X0_copyFrom [vR k0, vR k1] h k := by
  refine e_X0_copyFrom hB hB1 ?_
  intro h1 w1 h2 w2 h3 w3 h4 w4 h5 w5 h6 w6 h7 w7 h8 w8 h9 w9 h10 w10 h11 w11 h12 w12 h13 w13 h14 w14
  have hlt : k0 + 7 < k1 ∨ k1 + 7 < k0 := by rcases hB with rfl | rfl | rfl <;> rcases hB1 with rfl | rfl | rfl <;> omega
  have u1 : ∀ (c : Nat) (j : Int), ¬ (c = k0 ∧ j = 0) → h1.1 c j = h.1 c j := fun c j q => by rw [w1, upI_e, if_neg q]
  have v1 : h1.1 k0 0 = h.1 k1 0 := by rw [w1, upI_e, if_pos ⟨rfl, rfl⟩]
  have u2 : ∀ (c : Nat) (j : Int), ¬ (c = k0 ∧ j = 3) → h2.1 c j = h1.1 c j := fun c j q => by rw [w2, upI_e, if_neg q]
  have v2 : h2.1 k0 3 = h1.1 k1 3 := by rw [w2, upI_e, if_pos ⟨rfl, rfl⟩]
  have u3 : ∀ (c : Nat) (j : Int), ¬ (c = k0 ∧ j = 8) → h3.1 c j = h2.1 c j := fun c j q => by rw [w3, upI_e, if_neg q]
  have v3 : h3.1 k0 8 = h2.1 k1 8 := by rw [w3, upI_e, if_pos ⟨rfl, rfl⟩]
  have u4 : ∀ (c : Nat) (j : Int), ¬ (c = k0 ∧ j = 9) → h4.1 c j = h3.1 c j := fun c j q => by rw [w4, upI_e, if_neg q]
  have v4 : h4.1 k0 9 = h3.1 k1 9 := by rw [w4, upI_e, if_pos ⟨rfl, rfl⟩]
  have u5 : ∀ (c : Nat) (j : Int), ¬ (c = k0 ∧ j = 10) → h5.1 c j = h4.1 c j := fun c j q => by rw [w5, upI_e, if_neg q]
  have v5 : h5.1 k0 10 = h4.1 k1 10 := by rw [w5, upI_e, if_pos ⟨rfl, rfl⟩]
  have u6 : ∀ (c : Nat) (j : Int), ¬ (c = k0 ∧ j = 11) → h6.1 c j = h5.1 c j := fun c j q => by rw [w6, upI_e, if_neg q]
  have v6 : h6.1 k0 11 = h5.1 k1 11 := by rw [w6, upI_e, if_pos ⟨rfl, rfl⟩]
  have u7 : ∀ (c : Nat) (j : Int), ¬ (c = k0 ∧ j = 12) → h7.1 c j = h6.1 c j := fun c j q => by rw [w7, upI_e, if_neg q]
  have v7 : h7.1 k0 12 = h6.1 k1 12 := by rw [w7, upI_e, if_pos ⟨rfl, rfl⟩]
  have u8 : ∀ (c : Nat) (j : Int), ¬ (c = k0 + 1 ∧ 0 ≤ j ∧ j < 4) → h8.1 c j = h7.1 c j := fun c j q => by rw [w8, cpI_e, if_neg (by omega)]
  have v8 : ∀ j : Int, 0 ≤ j → j < 4 → h8.1 (k0 + 1) j = h7.1 (k1 + 1) j := fun j a b => by rw [w8, cpI_e, if_pos ⟨rfl, by omega, by omega⟩, show 0 + (j - 0) = j by omega]
  have u9 : ∀ (c : Nat) (j : Int), ¬ (c = k0 + 2 ∧ 0 ≤ j ∧ j < 4) → h9.1 c j = h8.1 c j := fun c j q => by rw [w9, cpI_e, if_neg (by omega)]
  have v9 : ∀ j : Int, 0 ≤ j → j < 4 → h9.1 (k0 + 2) j = h8.1 (k1 + 2) j := fun j a b => by rw [w9, cpI_e, if_pos ⟨rfl, by omega, by omega⟩, show 0 + (j - 0) = j by omega]
  have u10 : ∀ (c : Nat) (j : Int), ¬ (c = k0 + 3 ∧ 0 ≤ j ∧ j < 4) → h10.1 c j = h9.1 c j := fun c j q => by rw [w10, cpI_e, if_neg (by omega)]
  have v10 : ∀ j : Int, 0 ≤ j → j < 4 → h10.1 (k0 + 3) j = h9.1 (k1 + 3) j := fun j a b => by rw [w10, cpI_e, if_pos ⟨rfl, by omega, by omega⟩, show 0 + (j - 0) = j by omega]
  have u11 : ∀ (c : Nat) (j : Int), ¬ (c = k0 + 4 ∧ 0 ≤ j ∧ j < 4) → h11.1 c j = h10.1 c j := fun c j q => by rw [w11, cpI_e, if_neg (by omega)]
  have v11 : ∀ j : Int, 0 ≤ j → j < 4 → h11.1 (k0 + 4) j = h10.1 (k1 + 4) j := fun j a b => by rw [w11, cpI_e, if_pos ⟨rfl, by omega, by omega⟩, show 0 + (j - 0) = j by omega]
  have u12 : ∀ (c : Nat) (j : Int), ¬ (c = k0 + 5 ∧ 0 ≤ j ∧ j < 4) → h12.1 c j = h11.1 c j := fun c j q => by rw [w12, cpI_e, if_neg (by omega)]
  have v12 : ∀ j : Int, 0 ≤ j → j < 4 → h12.1 (k0 + 5) j = h11.1 (k1 + 5) j := fun j a b => by rw [w12, cpI_e, if_pos ⟨rfl, by omega, by omega⟩, show 0 + (j - 0) = j by omega]
  have u13 : ∀ (c : Nat) (j : Int), ¬ (c = k0 + 6 ∧ 0 ≤ j ∧ j < 4) → h13.1 c j = h12.1 c j := fun c j q => by rw [w13, cpI_e, if_neg (by omega)]
  have v13 : ∀ j : Int, 0 ≤ j → j < 4 → h13.1 (k0 + 6) j = h12.1 (k1 + 6) j := fun j a b => by rw [w13, cpI_e, if_pos ⟨rfl, by omega, by omega⟩, show 0 + (j - 0) = j by omega]
  have u14 : ∀ (c : Nat) (j : Int), ¬ (c = k0 + 7 ∧ 0 ≤ j ∧ j < 4) → h14.1 c j = h13.1 c j := fun c j q => by rw [w14, cpI_e, if_neg (by omega)]
  have v14 : ∀ j : Int, 0 ≤ j → j < 4 → h14.1 (k0 + 7) j = h13.1 (k1 + 7) j := fun j a b => by rw [w14, cpI_e, if_pos ⟨rfl, by omega, by omega⟩, show 0 + (j - 0) = j by omega]
  refine ⟨rfl, q h14 ?_ ?_⟩
  · have e1 : (fX h14 k0).1 = (fX h k1).1 := by
      funext n
      match n with
      | 0 =>
        show h14.1 k0 0 = h.1 k1 0
        rw [u14 _ _ (by omega), u13 _ _ (by omega), u12 _ _ (by omega), u11 _ _ (by omega), u10 _ _ (by omega), u9 _ _ (by omega), u8 _ _ (by omega), u7 _ _ (by omega), u6 _ _ (by omega), u5 _ _ (by omega), u4 _ _ (by omega), u3 _ _ (by omega), u2 _ _ (by omega), v1]
      | 1 =>
        show h14.1 k0 3 = h.1 k1 3
        rw [u14 _ _ (by omega), u13 _ _ (by omega), u12 _ _ (by omega), u11 _ _ (by omega), u10 _ _ (by omega), u9 _ _ (by omega), u8 _ _ (by omega), u7 _ _ (by omega), u6 _ _ (by omega), u5 _ _ (by omega), u4 _ _ (by omega), u3 _ _ (by omega), v2, u1 _ _ (by omega)]
      | 2 =>
        show h14.1 k0 8 = h.1 k1 8
        rw [u14 _ _ (by omega), u13 _ _ (by omega), u12 _ _ (by omega), u11 _ _ (by omega), u10 _ _ (by omega), u9 _ _ (by omega), u8 _ _ (by omega), u7 _ _ (by omega), u6 _ _ (by omega), u5 _ _ (by omega), u4 _ _ (by omega), v3, u2 _ _ (by omega), u1 _ _ (by omega)]
      | 3 =>
        show h14.1 k0 9 = h.1 k1 9
        rw [u14 _ _ (by omega), u13 _ _ (by omega), u12 _ _ (by omega), u11 _ _ (by omega), u10 _ _ (by omega), u9 _ _ (by omega), u8 _ _ (by omega), u7 _ _ (by omega), u6 _ _ (by omega), u5 _ _ (by omega), v4, u3 _ _ (by omega), u2 _ _ (by omega), u1 _ _ (by omega)]
      | 4 =>
        show h14.1 k0 10 = h.1 k1 10
        rw [u14 _ _ (by omega), u13 _ _ (by omega), u12 _ _ (by omega), u11 _ _ (by omega), u10 _ _ (by omega), u9 _ _ (by omega), u8 _ _ (by omega), u7 _ _ (by omega), u6 _ _ (by omega), v5, u4 _ _ (by omega), u3 _ _ (by omega), u2 _ _ (by omega), u1 _ _ (by omega)]
      | 5 =>
        show h14.1 k0 11 = h.1 k1 11
        rw [u14 _ _ (by omega), u13 _ _ (by omega), u12 _ _ (by omega), u11 _ _ (by omega), u10 _ _ (by omega), u9 _ _ (by omega), u8 _ _ (by omega), u7 _ _ (by omega), v6, u5 _ _ (by omega), u4 _ _ (by omega), u3 _ _ (by omega), u2 _ _ (by omega), u1 _ _ (by omega)]
      | n + 6 =>
        show h14.1 k0 12 = h.1 k1 12
        rw [u14 _ _ (by omega), u13 _ _ (by omega), u12 _ _ (by omega), u11 _ _ (by omega), u10 _ _ (by omega), u9 _ _ (by omega), u8 _ _ (by omega), v7, u6 _ _ (by omega), u5 _ _ (by omega), u4 _ _ (by omega), u3 _ _ (by omega), u2 _ _ (by omega), u1 _ _ (by omega)]
    have e2 : (fX h14 k0).2 = (fX h k1).2 := by
      funext j i
      have go : ∀ m : Nat, 1 ≤ m → m ≤ 7 → (0 ≤ i ∧ i < 4 → h14.1 (k0 + m) i = h.1 (k1 + m) i) ∧ (¬ (0 ≤ i ∧ i < 4) → h14.1 (k0 + m) i = h.1 (k0 + m) i) := by
        intro m m1 m7
        refine ⟨fun hi => ?_, fun hi => ?_⟩
        · rcases (show m = 1 ∨ m = 2 ∨ m = 3 ∨ m = 4 ∨ m = 5 ∨ m = 6 ∨ m = 7 by omega) with rfl | rfl | rfl | rfl | rfl | rfl | rfl
          · rw [u14 _ _ (by omega), u13 _ _ (by omega), u12 _ _ (by omega), u11 _ _ (by omega), u10 _ _ (by omega), u9 _ _ (by omega), v8 i hi.1 hi.2, u7 _ _ (by omega), u6 _ _ (by omega), u5 _ _ (by omega), u4 _ _ (by omega), u3 _ _ (by omega), u2 _ _ (by omega), u1 _ _ (by omega)]
          · rw [u14 _ _ (by omega), u13 _ _ (by omega), u12 _ _ (by omega), u11 _ _ (by omega), u10 _ _ (by omega), v9 i hi.1 hi.2, u8 _ _ (by omega), u7 _ _ (by omega), u6 _ _ (by omega), u5 _ _ (by omega), u4 _ _ (by omega), u3 _ _ (by omega), u2 _ _ (by omega), u1 _ _ (by omega)]
          · rw [u14 _ _ (by omega), u13 _ _ (by omega), u12 _ _ (by omega), u11 _ _ (by omega), v10 i hi.1 hi.2, u9 _ _ (by omega), u8 _ _ (by omega), u7 _ _ (by omega), u6 _ _ (by omega), u5 _ _ (by omega), u4 _ _ (by omega), u3 _ _ (by omega), u2 _ _ (by omega), u1 _ _ (by omega)]
          · rw [u14 _ _ (by omega), u13 _ _ (by omega), u12 _ _ (by omega), v11 i hi.1 hi.2, u10 _ _ (by omega), u9 _ _ (by omega), u8 _ _ (by omega), u7 _ _ (by omega), u6 _ _ (by omega), u5 _ _ (by omega), u4 _ _ (by omega), u3 _ _ (by omega), u2 _ _ (by omega), u1 _ _ (by omega)]
          · rw [u14 _ _ (by omega), u13 _ _ (by omega), v12 i hi.1 hi.2, u11 _ _ (by omega), u10 _ _ (by omega), u9 _ _ (by omega), u8 _ _ (by omega), u7 _ _ (by omega), u6 _ _ (by omega), u5 _ _ (by omega), u4 _ _ (by omega), u3 _ _ (by omega), u2 _ _ (by omega), u1 _ _ (by omega)]
          · rw [u14 _ _ (by omega), v13 i hi.1 hi.2, u12 _ _ (by omega), u11 _ _ (by omega), u10 _ _ (by omega), u9 _ _ (by omega), u8 _ _ (by omega), u7 _ _ (by omega), u6 _ _ (by omega), u5 _ _ (by omega), u4 _ _ (by omega), u3 _ _ (by omega), u2 _ _ (by omega), u1 _ _ (by omega)]
          · rw [v14 i hi.1 hi.2, u13 _ _ (by omega), u12 _ _ (by omega), u11 _ _ (by omega), u10 _ _ (by omega), u9 _ _ (by omega), u8 _ _ (by omega), u7 _ _ (by omega), u6 _ _ (by omega), u5 _ _ (by omega), u4 _ _ (by omega), u3 _ _ (by omega), u2 _ _ (by omega), u1 _ _ (by omega)]
        · rw [u14 _ _ (by omega), u13 _ _ (by omega), u12 _ _ (by omega), u11 _ _ (by omega), u10 _ _ (by omega), u9 _ _ (by omega), u8 _ _ (by omega), u7 _ _ (by omega), u6 _ _ (by omega), u5 _ _ (by omega), u4 _ _ (by omega), u3 _ _ (by omega), u2 _ _ (by omega), u1 _ _ (by omega)]
      by_cases hi : 0 ≤ i ∧ i < 4
      · match j with
        | 1 => exact (go 1 (by decide) (by decide)).1 hi
        | 2 => exact (go 2 (by decide) (by decide)).1 hi
        | 3 => exact (go 3 (by decide) (by decide)).1 hi
        | 4 => exact (go 4 (by decide) (by decide)).1 hi
        | 5 => exact (go 5 (by decide) (by decide)).1 hi
        | 6 => exact (go 6 (by decide) (by decide)).1 hi
        | 0 => exact (go 7 (by decide) (by decide)).1 hi
        | j + 7 => exact (go 7 (by decide) (by decide)).1 hi
      · rw [hz1 j i (by omega)]
        have hz := hz0 j i (by omega)
        match j, hz with
        | 1, hz => exact ((go 1 (by decide) (by decide)).2 hi).trans hz
        | 2, hz => exact ((go 2 (by decide) (by decide)).2 hi).trans hz
        | 3, hz => exact ((go 3 (by decide) (by decide)).2 hi).trans hz
        | 4, hz => exact ((go 4 (by decide) (by decide)).2 hi).trans hz
        | 5, hz => exact ((go 5 (by decide) (by decide)).2 hi).trans hz
        | 6, hz => exact ((go 6 (by decide) (by decide)).2 hi).trans hz
        | 0, hz => exact ((go 7 (by decide) (by decide)).2 hi).trans hz
        | j + 7, hz => exact ((go 7 (by decide) (by decide)).2 hi).trans hz
    exact Prod.ext e1 e2
  · refine ⟨fun c hc => ?_, ?_⟩
    · funext j
      rw [u14 _ _ (by omega), u13 _ _ (by omega), u12 _ _ (by omega), u11 _ _ (by omega), u10 _ _ (by omega), u9 _ _ (by omega), u8 _ _ (by omega), u7 _ _ (by omega), u6 _ _ (by omega), u5 _ _ (by omega), u4 _ _ (by omega), u3 _ _ (by omega), u2 _ _ (by omega), u1 _ _ (by omega)]
    · rw [w14, w13, w12, w11, w10, w9, w8, w7, w6, w5, w4, w3, w2, w1]; rfl
/-- the places of an image -/
def pcL : List (Nat × Int) := [(38, 0), (38, 1), (38, 2), (38, 3), (38, 4), (38, 5), (39, 0), (40, 0), (41, 0), (42, 0), (43, 0), (44, 0), (61, 0), (39, 1), (40, 1), (41, 1), (42, 1), (43, 1), (44, 1), (61, 1), (39, 2), (40, 2), (41, 2), (42, 2), (43, 2), (44, 2), (61, 2), (39, 3), (40, 3), (41, 3), (42, 3), (43, 3), (44, 3), (61, 3), (38, 39)]
def pcC (n : Nat) : Nat × Int := pcL.getD n (0, 0)
/-- one carry and what is stored behind it, at whichever relation -/
def CStep (R : Nat → AH → Prop) : Prop := ∀ (d n : Nat) (c : Nat) (j : Int) (h : AH) (k : Int → AH → Prop), pcC n = (c, j) → n ≤ 34 → R n h → (∀ (z : Int) (h1 : AH), (∀ h2, h2 = upI h1 c j z → R (n + 1) h2) → k z h1) → cI (tx mt (d + 1)) n_X6_carry [vR 38, vI (h.1 c j)] h k

theorem carry_walk {d k1 : Nat} {a2 : Int} {h : AH} {k : AH → Prop} {R : Nat → AH → Prop} (hs : CStep R) (hk : (shA k1).1 = 10) (ha : a2 = 0 ∨ a2 = 1) (h0 : R 0 (upI (upI (upR h 38 19 (some k1)) 38 18 a2) 38 17 0)) (q : ∀ h', R 35 h' → k h') : cV (tx mt (d + 2)) n_X6_carryAll [vR 38, vR k1, vI a2] h k := by
  refine e_X6_carryAll ⟨hk, fun h1 w1 => ⟨ha, fun h2 w2 h3 w3 => ?_⟩⟩
  have r0 : R 0 h3 := by rw [w3, w2, w1]; exact h0
  refine hs _ 0 38 0 _ _ rfl (by decide) r0 (fun z0 g0 t0 x0 y0 => ?_)
  have r1 := t0 x0 y0
  refine hs _ 1 38 1 _ _ rfl (by decide) r1 (fun z1 g1 t1 x1 y1 => ?_)
  have r2 := t1 x1 y1
  refine hs _ 2 38 2 _ _ rfl (by decide) r2 (fun z2 g2 t2 x2 y2 => ?_)
  have r3 := t2 x2 y2
  refine hs _ 3 38 3 _ _ rfl (by decide) r3 (fun z3 g3 t3 x3 y3 => ?_)
  have r4 := t3 x3 y3
  refine hs _ 4 38 4 _ _ rfl (by decide) r4 (fun z4 g4 t4 x4 y4 => ?_)
  have r5 := t4 x4 y4
  refine hs _ 5 38 5 _ _ rfl (by decide) r5 (fun z5 g5 t5 x5 y5 => ?_)
  have r6 := t5 x5 y5
  refine u_X6_carryAll_1 (tx_mono _ _) ⟨fun c => absurd c (by decide), fun _ => ?_⟩
  refine ⟨by decide, by decide, ?_⟩
  refine hs _ 6 39 0 _ _ rfl (by decide) r6 (fun z6 g6 t6 => ⟨by decide, by decide, fun x6 y6 => ?_⟩)
  have r7 := t6 x6 y6
  refine ⟨by decide, by decide, ?_⟩
  refine hs _ 7 40 0 _ _ rfl (by decide) r7 (fun z7 g7 t7 => ⟨by decide, by decide, fun x7 y7 => ?_⟩)
  have r8 := t7 x7 y7
  refine ⟨by decide, by decide, ?_⟩
  refine hs _ 8 41 0 _ _ rfl (by decide) r8 (fun z8 g8 t8 => ⟨by decide, by decide, fun x8 y8 => ?_⟩)
  have r9 := t8 x8 y8
  refine ⟨by decide, by decide, ?_⟩
  refine hs _ 9 42 0 _ _ rfl (by decide) r9 (fun z9 g9 t9 => ⟨by decide, by decide, fun x9 y9 => ?_⟩)
  have r10 := t9 x9 y9
  refine ⟨by decide, by decide, ?_⟩
  refine hs _ 10 43 0 _ _ rfl (by decide) r10 (fun z10 g10 t10 => ⟨by decide, by decide, fun x10 y10 => ?_⟩)
  have r11 := t10 x10 y10
  refine ⟨by decide, by decide, ?_⟩
  refine hs _ 11 44 0 _ _ rfl (by decide) r11 (fun z11 g11 t11 => ⟨by decide, by decide, fun x11 y11 => ?_⟩)
  have r12 := t11 x11 y11
  refine ⟨by decide, by decide, ?_⟩
  refine hs _ 12 61 0 _ _ rfl (by decide) r12 (fun z12 g12 t12 => ⟨by decide, by decide, fun x12 y12 => ?_⟩)
  have r13 := t12 x12 y12
  refine ⟨⟨by decide, by decide⟩, ?_⟩
  refine u_X6_carryAll_1 (tx_mono _ _) ⟨fun c => absurd c (by decide), fun _ => ?_⟩
  refine ⟨by decide, by decide, ?_⟩
  refine hs _ 13 39 1 _ _ rfl (by decide) r13 (fun z13 g13 t13 => ⟨by decide, by decide, fun x13 y13 => ?_⟩)
  have r14 := t13 x13 y13
  refine ⟨by decide, by decide, ?_⟩
  refine hs _ 14 40 1 _ _ rfl (by decide) r14 (fun z14 g14 t14 => ⟨by decide, by decide, fun x14 y14 => ?_⟩)
  have r15 := t14 x14 y14
  refine ⟨by decide, by decide, ?_⟩
  refine hs _ 15 41 1 _ _ rfl (by decide) r15 (fun z15 g15 t15 => ⟨by decide, by decide, fun x15 y15 => ?_⟩)
  have r16 := t15 x15 y15
  refine ⟨by decide, by decide, ?_⟩
  refine hs _ 16 42 1 _ _ rfl (by decide) r16 (fun z16 g16 t16 => ⟨by decide, by decide, fun x16 y16 => ?_⟩)
  have r17 := t16 x16 y16
  refine ⟨by decide, by decide, ?_⟩
  refine hs _ 17 43 1 _ _ rfl (by decide) r17 (fun z17 g17 t17 => ⟨by decide, by decide, fun x17 y17 => ?_⟩)
  have r18 := t17 x17 y17
  refine ⟨by decide, by decide, ?_⟩
  refine hs _ 18 44 1 _ _ rfl (by decide) r18 (fun z18 g18 t18 => ⟨by decide, by decide, fun x18 y18 => ?_⟩)
  have r19 := t18 x18 y18
  refine ⟨by decide, by decide, ?_⟩
  refine hs _ 19 61 1 _ _ rfl (by decide) r19 (fun z19 g19 t19 => ⟨by decide, by decide, fun x19 y19 => ?_⟩)
  have r20 := t19 x19 y19
  refine ⟨⟨by decide, by decide⟩, ?_⟩
  refine u_X6_carryAll_1 (tx_mono _ _) ⟨fun c => absurd c (by decide), fun _ => ?_⟩
  refine ⟨by decide, by decide, ?_⟩
  refine hs _ 20 39 2 _ _ rfl (by decide) r20 (fun z20 g20 t20 => ⟨by decide, by decide, fun x20 y20 => ?_⟩)
  have r21 := t20 x20 y20
  refine ⟨by decide, by decide, ?_⟩
  refine hs _ 21 40 2 _ _ rfl (by decide) r21 (fun z21 g21 t21 => ⟨by decide, by decide, fun x21 y21 => ?_⟩)
  have r22 := t21 x21 y21
  refine ⟨by decide, by decide, ?_⟩
  refine hs _ 22 41 2 _ _ rfl (by decide) r22 (fun z22 g22 t22 => ⟨by decide, by decide, fun x22 y22 => ?_⟩)
  have r23 := t22 x22 y22
  refine ⟨by decide, by decide, ?_⟩
  refine hs _ 23 42 2 _ _ rfl (by decide) r23 (fun z23 g23 t23 => ⟨by decide, by decide, fun x23 y23 => ?_⟩)
  have r24 := t23 x23 y23
  refine ⟨by decide, by decide, ?_⟩
  refine hs _ 24 43 2 _ _ rfl (by decide) r24 (fun z24 g24 t24 => ⟨by decide, by decide, fun x24 y24 => ?_⟩)
  have r25 := t24 x24 y24
  refine ⟨by decide, by decide, ?_⟩
  refine hs _ 25 44 2 _ _ rfl (by decide) r25 (fun z25 g25 t25 => ⟨by decide, by decide, fun x25 y25 => ?_⟩)
  have r26 := t25 x25 y25
  refine ⟨by decide, by decide, ?_⟩
  refine hs _ 26 61 2 _ _ rfl (by decide) r26 (fun z26 g26 t26 => ⟨by decide, by decide, fun x26 y26 => ?_⟩)
  have r27 := t26 x26 y26
  refine ⟨⟨by decide, by decide⟩, ?_⟩
  refine u_X6_carryAll_1 (tx_mono _ _) ⟨fun c => absurd c (by decide), fun _ => ?_⟩
  refine ⟨by decide, by decide, ?_⟩
  refine hs _ 27 39 3 _ _ rfl (by decide) r27 (fun z27 g27 t27 => ⟨by decide, by decide, fun x27 y27 => ?_⟩)
  have r28 := t27 x27 y27
  refine ⟨by decide, by decide, ?_⟩
  refine hs _ 28 40 3 _ _ rfl (by decide) r28 (fun z28 g28 t28 => ⟨by decide, by decide, fun x28 y28 => ?_⟩)
  have r29 := t28 x28 y28
  refine ⟨by decide, by decide, ?_⟩
  refine hs _ 29 41 3 _ _ rfl (by decide) r29 (fun z29 g29 t29 => ⟨by decide, by decide, fun x29 y29 => ?_⟩)
  have r30 := t29 x29 y29
  refine ⟨by decide, by decide, ?_⟩
  refine hs _ 30 42 3 _ _ rfl (by decide) r30 (fun z30 g30 t30 => ⟨by decide, by decide, fun x30 y30 => ?_⟩)
  have r31 := t30 x30 y30
  refine ⟨by decide, by decide, ?_⟩
  refine hs _ 31 43 3 _ _ rfl (by decide) r31 (fun z31 g31 t31 => ⟨by decide, by decide, fun x31 y31 => ?_⟩)
  have r32 := t31 x31 y31
  refine ⟨by decide, by decide, ?_⟩
  refine hs _ 32 44 3 _ _ rfl (by decide) r32 (fun z32 g32 t32 => ⟨by decide, by decide, fun x32 y32 => ?_⟩)
  have r33 := t32 x32 y32
  refine ⟨by decide, by decide, ?_⟩
  refine hs _ 33 61 3 _ _ rfl (by decide) r33 (fun z33 g33 t33 => ⟨by decide, by decide, fun x33 y33 => ?_⟩)
  have r34 := t33 x33 y33
  refine ⟨⟨by decide, by decide⟩, ?_⟩
  refine u_X6_carryAll_1 (tx_mono _ _) ⟨fun _ => ?_, fun c => absurd (by decide) c⟩
  refine u_X6_carryAll_2 (tx_mono _ _) (hs _ 34 38 39 _ _ rfl (by decide) r34 (fun z34 g34 t34 x34 y34 => ⟨rfl, q x34 (t34 x34 y34)⟩))

def RT (a : Nat) (h0 : AH) (n : Nat) (h : AH) : Prop := h.2.2 38 19 = some a ∧ h.1 38 18 = 1 ∧ h.1 38 17 = (n : Int) ∧ (∀ c, c ≠ 38 → c ≠ a → h.1 c = h0.1 c) ∧ (∀ j, j ≠ 17 → j ≠ 18 → h.1 38 j = h0.1 38 j) ∧ (∀ m : Nat, m < n → h.1 a (m : Int) = h0.1 (pcC m).1 (pcC m).2) ∧ h.2.1 = h0.2.1
def RR (a : Nat) (h0 : AH) (n : Nat) (h : AH) : Prop := h.2.2 38 19 = some a ∧ h.1 38 18 = 0 ∧ h.1 38 17 = (n : Int) ∧ (∀ c, c < 38 ∨ (44 < c ∧ c ≠ 61) → h.1 c = h0.1 c) ∧ (∀ j, (j < 0 ∨ 5 < j) → j ≠ 39 → j ≠ 17 → j ≠ 18 → h.1 38 j = h0.1 38 j) ∧ (∀ m : Nat, m < n → h.1 (pcC m).1 (pcC m).2 = h0.1 a (m : Int)) ∧ (∀ (c : Nat) (i : Int), c ≠ 38 → i < 0 ∨ 4 ≤ i → h.1 c i = h0.1 c i) ∧ h.2.1 = h0.2.1
theorem pcC_ok : ∀ n : Nat, n ≤ 34 → ((pcC n).1 = 38 ∧ 0 ≤ (pcC n).2 ∧ ((pcC n).2 ≤ 5 ∨ (pcC n).2 = 39)) ∨ (((39 ≤ (pcC n).1 ∧ (pcC n).1 ≤ 44) ∨ (pcC n).1 = 61) ∧ 0 ≤ (pcC n).2 ∧ (pcC n).2 < 4) := by
  have : ∀ n : Fin 35, ((pcC n.val).1 = 38 ∧ 0 ≤ (pcC n.val).2 ∧ ((pcC n.val).2 ≤ 5 ∨ (pcC n.val).2 = 39)) ∨ (((39 ≤ (pcC n.val).1 ∧ (pcC n.val).1 ≤ 44) ∨ (pcC n.val).1 = 61) ∧ 0 ≤ (pcC n.val).2 ∧ (pcC n.val).2 < 4) := by decide +kernel
  exact fun n hn => this ⟨n, by omega⟩
theorem pcC_inj : ∀ m n : Nat, m < n → n ≤ 34 → pcC m ≠ pcC n := by
  have : ∀ m n : Fin 35, m.val < n.val → pcC m.val ≠ pcC n.val := by decide +kernel
  exact fun m n h1 h2 => this ⟨m, by omega⟩ ⟨n, by omega⟩ h1
theorem RT_step {a : Nat} {h0 : AH} (ha : a = 46 ∨ a = 47) : CStep (RT a h0) := by
  intro d n c j h k hp hn hR q
  obtain ⟨r1, r2, r3, r4, r5, r6, r7⟩ := hR
  have hs : shA a = (10, 35) := by rcases ha with rfl | rfl <;> rfl
  have hpc := pcC_ok n hn
  rw [hp] at hpc
  have hc : c ≠ a := by rcases ha with rfl | rfl <;> (simp only at hpc; omega)
  have hj : ¬ (c = 38 ∧ (j = 17 ∨ j = 18)) := by simp only at hpc; omega
  have hcj : h.1 c j = h0.1 c j := by
    by_cases h38 : c = 38
    · rw [h38]; exact r5 j (by omega) (by omega)
    · rw [r4 c h38 hc]
  refine e_X6_carry ⟨fun x => absurd x (by omega), fun _ => ⟨a, r1, by rw [hs], by omega, by rw [hs]; show h.1 38 17 < 35; omega, fun h3 w3 => u_X6_carry_1 (tx_mono _ _) ?_⟩⟩
  have e17 : h3.1 38 17 = (n : Int) := by rw [w3, upI_e, if_neg (by rcases ha with rfl | rfl <;> omega), r3]
  refine ⟨⟨by omega, by omega⟩, fun h4 w4 => ⟨a, by rw [w4, w3]; exact r1, ?_⟩⟩
  have f17 : h4.1 38 17 = (n : Int) + 1 := by rw [w4, upI_e, if_pos ⟨rfl, rfl⟩, e17]
  rw [f17]
  refine ⟨⟨by omega, by omega⟩, by rw [hs], by omega, by rw [hs]; show (n : Int) + 1 - 1 < 35; omega, ⟨_, rfl, q _ h4 (fun h5 w5 => ?_)⟩⟩
  have z4 : h4.1 a ((n : Int) + 1 - 1) = h.1 c j := by
    rw [w4, upI_e, if_neg (by rcases ha with rfl | rfl <;> omega), w3, upI_e, if_pos ⟨rfl, by omega⟩]
  have keep : ∀ (c' : Nat) (j' : Int), ¬ (c' = a ∧ j' = (n : Int)) → ¬ (c' = 38 ∧ j' = 17) → h5.1 c' j' = h.1 c' j' := by
    intro c' j' k1 k2
    rw [w5, upI_e]
    by_cases hcc : c' = c ∧ j' = j
    · rw [if_pos hcc, z4, hcc.1, hcc.2]
    · rw [if_neg hcc, w4, upI_e, if_neg k2, w3, upI_e, if_neg (by rw [r3]; exact k1)]
  refine ⟨by rw [w5, w4, w3]; exact r1, ?_, ?_, fun c' n1 n2 => ?_, fun j' n1 n2 => ?_, fun m hm => ?_, by rw [w5, w4, w3]; exact r7⟩
  · rw [keep 38 18 (by rcases ha with rfl | rfl <;> omega) (by omega), r2]
  · rw [w5, upI_e, if_neg (by omega), f17]; omega
  · rw [← r4 c' n1 n2]
    funext j'
    exact keep c' j' (by omega) (by omega)
  · rw [← r5 j' n1 n2]
    exact keep 38 j' (by rcases ha with rfl | rfl <;> omega) (by omega)
  · by_cases hmn : m < n
    · rw [keep a (m : Int) (by omega) (by rcases ha with rfl | rfl <;> omega)]
      exact r6 m hmn
    · rw [show m = n by omega, hp, w5, upI_e, if_neg (by omega), w4, upI_e, if_neg (by rcases ha with rfl | rfl <;> omega), w3, upI_e, if_pos ⟨rfl, by omega⟩]
      exact hcj
theorem RR_step {a : Nat} {h0 : AH} (ha : a = 46 ∨ a = 47) : CStep (RR a h0) := by
  intro d n c j h k hp hn hR q
  obtain ⟨r1, r2, r3, r4, r5, r6, r7, r8⟩ := hR
  have hs : shA a = (10, 35) := by rcases ha with rfl | rfl <;> rfl
  have hpc := pcC_ok n hn
  rw [hp] at hpc
  refine e_X6_carry ⟨fun _ => u_X6_carry_1 (tx_mono _ _) ?_, fun x => absurd r2 x⟩
  refine ⟨⟨by omega, by omega⟩, fun h4 w4 => ⟨a, by rw [w4]; exact r1, ?_⟩⟩
  have f17 : h4.1 38 17 = (n : Int) + 1 := by rw [w4, upI_e, if_pos ⟨rfl, rfl⟩, r3]
  rw [f17]
  refine ⟨⟨by omega, by omega⟩, by rw [hs], by omega, by rw [hs]; show (n : Int) + 1 - 1 < 35; omega, ⟨_, rfl, q _ h4 (fun h5 w5 => ?_)⟩⟩
  have z4 : h4.1 a ((n : Int) + 1 - 1) = h0.1 a (n : Int) := by
    rw [w4, upI_e, if_neg (by rcases ha with rfl | rfl <;> omega), show (n : Int) + 1 - 1 = n by omega, r4 a (by rcases ha with rfl | rfl <;> omega)]
  have keep : ∀ (c' : Nat) (j' : Int), ¬ (c' = c ∧ j' = j) → ¬ (c' = 38 ∧ j' = 17) → h5.1 c' j' = h.1 c' j' := by
    intro c' j' k1 k2
    rw [w5, upI_e, if_neg k1, w4, upI_e, if_neg k2]
  simp only at hpc
  refine ⟨by rw [w5, w4]; exact r1, ?_, ?_, fun c' n1 => ?_, fun j' n1 n2 n3 n4 => ?_, fun m hm => ?_, fun c' i n1 n2 => ?_, by rw [w5, w4]; exact r8⟩
  · rw [keep 38 18 (by omega) (by omega), r2]
  · rw [w5, upI_e, if_neg (by omega), f17]; omega
  · rw [← r4 c' n1]
    funext j'
    exact keep c' j' (by omega) (by omega)
  · rw [← r5 j' n1 n2 n3 n4]
    exact keep 38 j' (by omega) (by omega)
  · by_cases hmn : m < n
    · rw [keep _ _ (fun x => pcC_inj m n hmn hn (by rw [hp]; exact Prod.ext x.1 x.2)) (by have := pcC_ok m (by omega); omega)]
      exact r6 m hmn
    · rw [show m = n by omega, hp, w5, upI_e, if_pos ⟨rfl, rfl⟩, z4]
  · rw [keep c' i (by omega) (by omega)]
    exact r7 c' i n1 n2
def ks : Nat → Int
  | 0 => 0
  | 1 => 1
  | 2 => 2
  | 3 => 3
  | 4 => 4
  | 5 => 5
  | _ => 34
def ko : Nat → Int
  | 1 => 0
  | 2 => 1
  | 3 => 2
  | 4 => 3
  | 5 => 4
  | 6 => 5
  | _ => 6
/-- the board that an image array of the reference holds -/
def fK (h : AH) (a : Nat) : BD := (fun n => h.1 a (ks n), fun j i => if 0 ≤ i ∧ i < 4 then h.1 a (6 + 7 * i + ko j) else 0)
/-- what stays when the reference's board is taken into a row, or put back from it -/
def frT (a : Nat) (h h' : AH) : Prop := (∀ c, c ≠ 38 → c ≠ a → h'.1 c = h.1 c) ∧ (∀ j, j ≠ 17 → j ≠ 18 → h'.1 38 j = h.1 38 j) ∧ h'.2.1 = h.2.1
def frR (h h' : AH) : Prop := (∀ c, c < 38 ∨ (44 < c ∧ c ≠ 61) → h'.1 c = h.1 c) ∧ (∀ j, (j < 0 ∨ 5 < j) → j ≠ 39 → j ≠ 17 → j ≠ 18 → h'.1 38 j = h.1 38 j) ∧ h'.2.1 = h.2.1
theorem i4 {P : Int → Prop} {i : Int} (hi : 0 ≤ i ∧ i < 4) (h0 : P 0) (h1 : P 1) (h2 : P 2) (h3 : P 3) : P i := by
  rcases (show i = 0 ∨ i = 1 ∨ i = 2 ∨ i = 3 by omega) with rfl | rfl | rfl | rfl <;> assumption
theorem carry_taken {a : Nat} {h0 h : AH} (hR : RT a h0 35 h) (hz : okZ (fM h0)) : fK h a = fM h0 := by
  have r6 := hR.2.2.2.2.2.1
  refine Prod.ext ?_ ?_
  · funext n
    match n with
    | 0 => exact r6 0 (by decide)
    | 1 => exact r6 1 (by decide)
    | 2 => exact r6 2 (by decide)
    | 3 => exact r6 3 (by decide)
    | 4 => exact r6 4 (by decide)
    | 5 => exact r6 5 (by decide)
    | n + 6 => exact r6 34 (by decide)
  · funext j i
    show (if 0 ≤ i ∧ i < 4 then h.1 a (6 + 7 * i + ko j) else 0) = h0.1 (ma j) i
    by_cases hi : 0 ≤ i ∧ i < 4
    · rw [if_pos hi]
      refine i4 (P := fun i => h.1 a (6 + 7 * i + ko j) = h0.1 (ma j) i) hi ?_ ?_ ?_ ?_

      · match j with
        | 0 => exact r6 12 (by decide)
        | 1 => exact r6 6 (by decide)
        | 2 => exact r6 7 (by decide)
        | 3 => exact r6 8 (by decide)
        | 4 => exact r6 9 (by decide)
        | 5 => exact r6 10 (by decide)
        | 6 => exact r6 11 (by decide)
        | j + 7 => exact r6 12 (by decide)
      · match j with
        | 0 => exact r6 19 (by decide)
        | 1 => exact r6 13 (by decide)
        | 2 => exact r6 14 (by decide)
        | 3 => exact r6 15 (by decide)
        | 4 => exact r6 16 (by decide)
        | 5 => exact r6 17 (by decide)
        | 6 => exact r6 18 (by decide)
        | j + 7 => exact r6 19 (by decide)
      · match j with
        | 0 => exact r6 26 (by decide)
        | 1 => exact r6 20 (by decide)
        | 2 => exact r6 21 (by decide)
        | 3 => exact r6 22 (by decide)
        | 4 => exact r6 23 (by decide)
        | 5 => exact r6 24 (by decide)
        | 6 => exact r6 25 (by decide)
        | j + 7 => exact r6 26 (by decide)
      · match j with
        | 0 => exact r6 33 (by decide)
        | 1 => exact r6 27 (by decide)
        | 2 => exact r6 28 (by decide)
        | 3 => exact r6 29 (by decide)
        | 4 => exact r6 30 (by decide)
        | 5 => exact r6 31 (by decide)
        | 6 => exact r6 32 (by decide)
        | j + 7 => exact r6 33 (by decide)

    · rw [if_neg hi]
      exact (hz j i (by omega)).symm
theorem carry_back {a : Nat} {h0 h : AH} (hR : RR a h0 35 h) (hz : okZ (fM h0)) : fM h = fK h0 a := by
  have r6 := hR.2.2.2.2.2.1
  have r7 := hR.2.2.2.2.2.2.1
  refine Prod.ext ?_ ?_
  · funext n
    match n with
    | 0 => exact r6 0 (by decide)
    | 1 => exact r6 1 (by decide)
    | 2 => exact r6 2 (by decide)
    | 3 => exact r6 3 (by decide)
    | 4 => exact r6 4 (by decide)
    | 5 => exact r6 5 (by decide)
    | n + 6 => exact r6 34 (by decide)
  · funext j i
    show h.1 (ma j) i = (if 0 ≤ i ∧ i < 4 then h0.1 a (6 + 7 * i + ko j) else 0)
    by_cases hi : 0 ≤ i ∧ i < 4
    · rw [if_pos hi]
      refine i4 (P := fun i => h.1 (ma j) i = h0.1 a (6 + 7 * i + ko j)) hi ?_ ?_ ?_ ?_

      · match j with
        | 0 => exact r6 12 (by decide)
        | 1 => exact r6 6 (by decide)
        | 2 => exact r6 7 (by decide)
        | 3 => exact r6 8 (by decide)
        | 4 => exact r6 9 (by decide)
        | 5 => exact r6 10 (by decide)
        | 6 => exact r6 11 (by decide)
        | j + 7 => exact r6 12 (by decide)
      · match j with
        | 0 => exact r6 19 (by decide)
        | 1 => exact r6 13 (by decide)
        | 2 => exact r6 14 (by decide)
        | 3 => exact r6 15 (by decide)
        | 4 => exact r6 16 (by decide)
        | 5 => exact r6 17 (by decide)
        | 6 => exact r6 18 (by decide)
        | j + 7 => exact r6 19 (by decide)
      · match j with
        | 0 => exact r6 26 (by decide)
        | 1 => exact r6 20 (by decide)
        | 2 => exact r6 21 (by decide)
        | 3 => exact r6 22 (by decide)
        | 4 => exact r6 23 (by decide)
        | 5 => exact r6 24 (by decide)
        | 6 => exact r6 25 (by decide)
        | j + 7 => exact r6 26 (by decide)
      · match j with
        | 0 => exact r6 33 (by decide)
        | 1 => exact r6 27 (by decide)
        | 2 => exact r6 28 (by decide)
        | 3 => exact r6 29 (by decide)
        | 4 => exact r6 30 (by decide)
        | 5 => exact r6 31 (by decide)
        | 6 => exact r6 32 (by decide)
        | j + 7 => exact r6 33 (by decide)

    · rw [if_neg hi]
      have hne : ma j ≠ 38 := by
        match j with
        | 0 | 1 | 2 | 3 | 4 | 5 | 6 => decide
        | j + 7 => exact (by decide : (61 : Nat) ≠ 38)
      rw [r7 (ma j) i hne (by omega)]
      exact hz j i (by omega)
theorem RT_0 {a : Nat} (h : AH) (ha : a = 46 ∨ a = 47) : RT a h 0 (upI (upI (upR h 38 19 (some a)) 38 18 1) 38 17 0) := by
  refine ⟨upR_at, rfl, rfl, fun c n1 n2 => ?_, fun j n1 n2 => ?_, fun m hm => by omega, rfl⟩
  · funext j
    rw [upI_e, if_neg (by omega), upI_e, if_neg (by omega)]; rfl
  · rw [upI_e, if_neg (by omega), upI_e, if_neg (by omega)]; rfl
theorem RR_0 {a : Nat} (h : AH) (ha : a = 46 ∨ a = 47) : RR a h 0 (upI (upI (upR h 38 19 (some a)) 38 18 0) 38 17 0) := by
  refine ⟨upR_at, rfl, rfl, fun c n1 => ?_, fun j n1 n2 n3 n4 => ?_, fun m hm => by omega, fun c i n1 n2 => ?_, rfl⟩
  · funext j
    rw [upI_e, if_neg (by omega), upI_e, if_neg (by omega)]; rfl
  · rw [upI_e, if_neg (by omega), upI_e, if_neg (by omega)]; rfl
  · rw [upI_e, if_neg (by omega), upI_e, if_neg (by omega)]; rfl
theorem fM_frT {a : Nat} {h h' : AH} (ha : a = 46 ∨ a = 47) (f : frT a h h') : fM h' = fM h := by
  refine Prod.ext ?_ ?_
  · funext n
    match n with
    | 0 | 1 | 2 | 3 | 4 | 5 => exact f.2.1 _ (by decide) (by decide)
    | n + 6 => exact f.2.1 39 (by decide) (by decide)
  · funext j i
    match j with
    | 0 | 1 | 2 | 3 | 4 | 5 | 6 => exact congrFun (f.1 _ (by decide) (by rcases ha with rfl | rfl <;> decide)) i
    | j + 7 => exact congrFun (f.1 61 (by decide) (by rcases ha with rfl | rfl <;> decide)) i
theorem s_take {d a : Nat} {h : AH} {k : AH → Prop} (ha : a = 46 ∨ a = 47) (hz : okZ (fM h)) (q : ∀ h', fK h' a = fM h → fM h' = fM h → frT a h h' → k h') : cV (tx mt (d + 2)) n_X6_carryAll [vR 38, vR a, vI 1] h k :=
  carry_walk (RT_step ha) (by rcases ha with rfl | rfl <;> rfl) (Or.inr rfl) (RT_0 h ha) (fun h' hR => q h' (carry_taken hR hz) (fM_frT ha ⟨hR.2.2.2.1, hR.2.2.2.2.1, hR.2.2.2.2.2.2⟩) ⟨hR.2.2.2.1, hR.2.2.2.2.1, hR.2.2.2.2.2.2⟩)
theorem s_give {d a : Nat} {h : AH} {k : AH → Prop} (ha : a = 46 ∨ a = 47) (hz : okZ (fM h)) (q : ∀ h', fM h' = fK h a → frR h h' → k h') : cV (tx mt (d + 2)) n_X6_carryAll [vR 38, vR a, vI 0] h k :=
  carry_walk (RR_step ha) (by rcases ha with rfl | rfl <;> rfl) (Or.inl rfl) (RR_0 h ha) (fun h' hR => q h' (carry_back hR hz) ⟨hR.2.2.2.1, hR.2.2.2.2.1, hR.2.2.2.2.2.2.2⟩)
theorem s_X6_open {d : Nat} {h : AH} {k : AH → Prop} (hz : okZ (fM h)) (q : ∀ h', fK h' 46 = fM h → fM h' = fM h → frT 46 h h' → k h') : cV (tx mt (d + 3)) n_X6_open [vR 38] h k :=
  e_X6_open (s_take (Or.inl rfl) hz (fun h' h1 h2 h3 => ⟨rfl, q h' h1 h2 h3⟩))
theorem s_X6_putBack {d : Nat} {h : AH} {k : AH → Prop} (hz : okZ (fM h)) (q : ∀ h', fM h' = fK h 46 → frR h h' → k h') : cV (tx mt (d + 3)) n_X6_putBack [vR 38] h k :=
  e_X6_putBack (s_give (Or.inl rfl) hz (fun h' h1 h2 => ⟨rfl, q h' h1 h2⟩))
