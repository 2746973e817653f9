/-! ===== what the component and the reference have in common between two calls ===== -/
def IB (h : AH) : Prop := okBd (fX h 1) ∧ fM h = fX h 1
def IZ (h : AH) : Prop := okZ (fX h 9) ∧ okZ (fX h 17)
def IK (h : AH) : Prop := h.1 0 3 = h.1 38 16 ∧ (h.1 0 3 = 0 ∨ h.1 0 3 = 1) ∧ (¬ h.1 0 3 = 0 → okBd (fX h 17) ∧ fK h 47 = fX h 17)
def IR (h : AH) : Prop := h.1 0 7 = h.1 38 43 ∧ 0 ≤ h.1 0 7 ∧ h.1 0 7 ≤ 12 ∧ ∀ i, 0 ≤ i → i < h.1 0 7 → h.1 64 i = h.1 31 i ∧ 0 ≤ h.1 31 i ∧ h.1 31 i ≤ 99
def IL (h : AH) : Prop := h.1 25 1 = h.1 38 21 ∧ 0 ≤ h.1 25 1 ∧ h.1 25 1 ≤ 96 ∧ ∀ i, 0 ≤ i → i < h.1 25 1 → h.1 48 i = h.1 26 i ∧ 0 ≤ h.1 26 i ∧ h.1 26 i ≤ 255
def IF (n : Int) (h : AH) : Prop := ∀ i, 1 ≤ i → i ≤ 6 → h.1 45 i = h.1 32 i ∧ 0 ≤ h.1 32 i ∧ h.1 32 i ≤ n
def IP (h : AH) : Prop := h.1 27 3 = h.1 38 31 ∧ 0 ≤ h.1 27 3 ∧ h.1 27 3 ≤ 8 ∧ ∀ i, 0 ≤ i → i < h.1 27 3 → h.1 52 i = h.1 28 i ∧ h.1 54 i = h.1 29 i ∧ h.1 53 i = h.1 30 i ∧ 0 ≤ h.1 28 i ∧ h.1 28 i < h.1 1 3 ∧ 0 ≤ h.1 29 i ∧ h.1 29 i ≤ 60 ∧ 0 ≤ h.1 30 i ∧ h.1 30 i ≤ 99
def Inv (n : Int) (h : AH) : Prop := IB h ∧ IZ h ∧ IK h ∧ IR h ∧ IL h ∧ IF n h ∧ IP h
theorem fX_c {h h' : AH} {k : Nat} (f : ∀ c, k ≤ c → c ≤ k + 7 → h'.1 c = h.1 c) : fX h' k = fX h k := by
  refine Prod.ext ?_ ?_
  · funext n
    exact congrFun (f k (by omega) (by omega)) _
  · funext j i
    match j with
    | 0 | 1 | 2 | 3 | 4 | 5 | 6 => exact congrFun (f _ (by simp only [xa]; omega) (by simp only [xa]; omega)) i
    | j + 7 => exact congrFun (f (k + 7) (by omega) (by omega)) i
theorem fM_c {h h' : AH} (f : ∀ c, (39 ≤ c ∧ c ≤ 44) ∨ c = 61 → h'.1 c = h.1 c) (s : ∀ j, (0 ≤ j ∧ j ≤ 5) ∨ j = 39 → h'.1 38 j = h.1 38 j) : fM h' = fM h := by
  refine Prod.ext ?_ ?_
  · funext n
    match n with
    | 0 | 1 | 2 | 3 | 4 | 5 => exact s _ (by decide)
    | n + 6 => exact s 39 (by omega)
  · funext j i
    match j with
    | 0 | 1 | 2 | 3 | 4 | 5 | 6 => exact congrFun (f _ (by decide)) i
    | j + 7 => exact congrFun (f 61 (by omega)) i
theorem fK_c {h h' : AH} {a : Nat} (f : h'.1 a = h.1 a) : fK h' a = fK h a := by
  unfold fK
  rw [f]
theorem IB.c {h h' : AH} (H : IB h) (f : ∀ c, (1 ≤ c ∧ c ≤ 8) ∨ (39 ≤ c ∧ c ≤ 44) ∨ c = 61 → h'.1 c = h.1 c) (s : ∀ j, (0 ≤ j ∧ j ≤ 5) ∨ j = 39 → h'.1 38 j = h.1 38 j) : IB h' := by
  have e1 : fX h' 1 = fX h 1 := fX_c (fun c a b => f c (by omega))
  have e2 : fM h' = fM h := fM_c (fun c a => f c (by omega)) s
  exact ⟨by rw [e1]; exact H.1, by rw [e1, e2]; exact H.2⟩
theorem IZ.c {h h' : AH} (H : IZ h) (f : ∀ c, (9 ≤ c ∧ c ≤ 24) → h'.1 c = h.1 c) : IZ h' := by
  have e9 : fX h' 9 = fX h 9 := fX_c (fun c a b => f c (by omega))
  have e17 : fX h' 17 = fX h 17 := fX_c (fun c a b => f c (by omega))
  exact ⟨by rw [e9]; exact H.1, by rw [e17]; exact H.2⟩
theorem IZ.m {h h' : AH} (H : IZ h) (f : ∀ c, (17 ≤ c ∧ c ≤ 24) → h'.1 c = h.1 c) (z : okZ (fX h' 9)) : IZ h' := by
  refine ⟨z, ?_⟩
  rw [fX_c (h := h) (h' := h') (k := 17) (fun c a b => f c (by omega))]
  exact H.2
theorem IK.c {h h' : AH} (H : IK h) (f : ∀ c, (17 ≤ c ∧ c ≤ 24) ∨ c = 47 → h'.1 c = h.1 c) (f0 : h'.1 0 3 = h.1 0 3) (s : h'.1 38 16 = h.1 38 16) : IK h' := by
  rw [IK, f0, s, fX_c (h := h) (h' := h') (k := 17) (fun c a b => f c (by omega)), fK_c (f 47 (by omega))]
  exact H
theorem IR.c {h h' : AH} (H : IR h) (f : ∀ c, c = 31 ∨ c = 64 → h'.1 c = h.1 c) (f0 : h'.1 0 7 = h.1 0 7) (s : h'.1 38 43 = h.1 38 43) : IR h' := by
  rw [IR, f0, s, f 31 (by omega), f 64 (by omega)]
  exact H
theorem IL.c {h h' : AH} (H : IL h) (f : ∀ c, c = 26 ∨ c = 48 → h'.1 c = h.1 c) (f0 : h'.1 25 1 = h.1 25 1) (s : h'.1 38 21 = h.1 38 21) : IL h' := by
  rw [IL, f0, s, f 26 (by omega), f 48 (by omega)]
  exact H
theorem IF.c {n : Int} {h h' : AH} (H : IF n h) (f : ∀ c, c = 32 ∨ c = 45 → h'.1 c = h.1 c) : IF (n + 1) h' := by
  rw [IF, f 32 (by omega), f 45 (by omega)]
  intro i h1 h2
  have := H i h1 h2
  omega
theorem IP.c {h h' : AH} (H : IP h) (f : ∀ c, (28 ≤ c ∧ c ≤ 30) ∨ (52 ≤ c ∧ c ≤ 54) → h'.1 c = h.1 c) (f0 : h'.1 27 3 = h.1 27 3) (s : h'.1 38 31 = h.1 38 31) (f1 : h'.1 1 3 = h.1 1 3) : IP h' := by
  rw [IP, f0, s, f1, f 28 (by omega), f 29 (by omega), f 30 (by omega), f 52 (by omega), f 53 (by omega), f 54 (by omega)]
  exact H
theorem IP.z {h h' : AH} (f0 : h'.1 27 3 = 0) (s : h'.1 38 31 = 0) : IP h' := by
  refine ⟨by rw [f0, s], by omega, by omega, fun i a b => by omega⟩
/-- cells that tell nothing between calls -/
def scC (c : Nat) : Prop := (9 ≤ c ∧ c ≤ 16) ∨ c = 34 ∨ c = 36 ∨ c = 37 ∨ c = 46 ∨ (49 ≤ c ∧ c ≤ 51) ∨ (55 ≤ c ∧ c ≤ 60) ∨ c = 62 ∨ c = 63 ∨ 64 < c
def scS (j : Int) : Prop := j = 12 ∨ (17 ≤ j ∧ j ≤ 20) ∨ (22 ≤ j ∧ j ≤ 30) ∨ (32 ≤ j ∧ j ≤ 38) ∨ 44 ≤ j ∨ (6 ≤ j ∧ j ≤ 15) ∨ j < 0 ∨ (40 ≤ j ∧ j ≤ 42)
theorem Inv.c {n : Int} {h h' : AH} (H : Inv n h) (f : ∀ c, ¬ scC c → c ≠ 38 → h'.1 c = h.1 c) (s : ∀ j, ¬ scS j → h'.1 38 j = h.1 38 j) (z : okZ (fX h' 9)) : Inv (n + 1) h' := by
  obtain ⟨hB, hZ, hK, hR, hL, hF, hP⟩ := H
  have f' : ∀ c j, ¬ scC c → c ≠ 38 → h'.1 c j = h.1 c j := fun c j a b => by rw [f c a b]
  unfold scC at f f'
  unfold scS at s
  exact ⟨hB.c (fun c hc => f c (by omega) (by omega)) (fun j hj => s j (by omega)), hZ.m (fun c hc => f c (by omega) (by omega)) z,
    hK.c (fun c hc => f c (by omega) (by omega)) (f' 0 3 (by omega) (by omega)) (s 16 (by omega)), hR.c (fun c hc => f c (by omega) (by omega)) (f' 0 7 (by omega) (by omega)) (s 43 (by omega)),
    hL.c (fun c hc => f c (by omega) (by omega)) (f' 25 1 (by omega) (by omega)) (s 21 (by omega)), hF.c (fun c hc => f c (by omega) (by omega)), hP.c (fun c hc => f c (by omega) (by omega)) (f' 27 3 (by omega) (by omega)) (s 31 (by omega)) (f' 1 3 (by omega) (by omega))⟩
/-- both refuse -/
theorem Inv.refuse {n i : Int} {h h' : AH} (H : Inv n h) (h1 : 1 ≤ i) (h6 : i ≤ 6) (f : ∀ c j, ¬ scC c → c ≠ 38 → c ≠ 32 → c ≠ 45 → h'.1 c j = h.1 c j) (s : ∀ j, ¬ scS j → h'.1 38 j = h.1 38 j) (z : okZ (fX h' 9)) (r1 : ∀ j, h'.1 32 j = if j = i then h.1 32 i + 1 else h.1 32 j) (r2 : ∀ j, h'.1 45 j = if j = i then h.1 45 i + 1 else h.1 45 j) : Inv (n + 1) h' := by
  obtain ⟨hB, hZ, hK, hR, hL, hF, hP⟩ := H
  have f' : ∀ c, ¬ scC c → c ≠ 38 → c ≠ 32 → c ≠ 45 → h'.1 c = h.1 c := fun c a b d e => by funext j; exact f c j a b d e
  unfold scC at f f'
  unfold scS at s
  refine ⟨hB.c (fun c hc => f' c (by omega) (by omega) (by omega) (by omega)) (fun j hj => s j (by omega)), hZ.m (fun c hc => f' c (by omega) (by omega) (by omega) (by omega)) z,
    hK.c (fun c hc => f' c (by omega) (by omega) (by omega) (by omega)) (f 0 3 (by omega) (by omega) (by omega) (by omega)) (s 16 (by omega)), hR.c (fun c hc => f' c (by omega) (by omega) (by omega) (by omega)) (f 0 7 (by omega) (by omega) (by omega) (by omega)) (s 43 (by omega)),
    hL.c (fun c hc => f' c (by omega) (by omega) (by omega) (by omega)) (f 25 1 (by omega) (by omega) (by omega) (by omega)) (s 21 (by omega)), ?_, hP.c (fun c hc => f' c (by omega) (by omega) (by omega) (by omega)) (f 27 3 (by omega) (by omega) (by omega) (by omega)) (s 31 (by omega)) (f 1 3 (by omega) (by omega) (by omega) (by omega))⟩
  intro j j1 j6
  have hj := hF j j1 j6
  have hi := hF i h1 h6
  rw [r1, r2]
  split
  · omega
  · omega
/-- what an operation must show: the component's call, then the reference's, answer alike, and all holds again -/
def OpI (idx idm : Nat) (as : List AV) : Prop := ∀ (d : Nat) (n : Int) (h : AH), 0 ≤ n → n ≤ 1000 → Inv n h → cI (tx mt (d + 30)) idx (vR 0 :: as) h (fun z h1 => cI (tx mt (d + 30)) idm (vR 38 :: as) h1 (fun z' h2 => z = z' ∧ Inv (n + 1) h2))
def OpL (idx idm : Nat) (as : List AV) : Prop := ∀ (d : Nat) (n : Int) (h : AH), 0 ≤ n → n ≤ 1000 → Inv n h → cL (tx mt (d + 30)) idx (vR 0 :: as) h (fun z h1 => cL (tx mt (d + 30)) idm (vR 38 :: as) h1 (fun z' h2 => z = z' ∧ Inv (n + 1) h2))
