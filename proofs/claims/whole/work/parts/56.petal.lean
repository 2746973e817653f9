/-! ===== petals, petal ===== -/
def wgF (len : Int) (t : Int → Int) (ws w : Int) (i : Nat) : Int := if wordP len w ((i : Int) + 1) = ws then t i else 0
def wgt (len : Int) (t : Int → Int) (ws w : Int) : Int := sumN (wgF len t ws w) 12
theorem wgF_b {len : Int} {t : Int → Int} {ws w : Int} (ht : ∀ i, 0 ≤ i → i < 12 → 0 ≤ t i ∧ t i ≤ 99) {n : Nat} (hn : n ≤ 12) : 0 ≤ sumN (wgF len t ws w) n ∧ sumN (wgF len t ws w) n ≤ 1188 := by
  have := sumN_b (f := wgF len t ws w) (c := 99) (n := n) (fun i hi => by have := ht i (by omega) (by omega); unfold wgF; split <;> omega)
  omega
theorem wgt_c {len : Int} {t t' : Int → Int} {ws w : Int} (ht : ∀ i, 0 ≤ i → i < 12 → t i = t' i) : wgt len t ws w = wgt len t' ws w :=
  sumN_c (fun i hi => by unfold wgF; rw [ht i (by omega) (by omega)])
theorem s_X5_weightFor {d : Nat} {ws w : Int} {h : AH} {K : Int → AH → Prop} (hl : 2 ≤ h.1 2 0 ∧ h.1 2 0 ≤ 12) (hw : 0 ≤ w ∧ w ≤ 12) (ht : ∀ i, 0 ≤ i → i < 12 → 0 ≤ h.1 31 i ∧ h.1 31 i ≤ 99) (q : K (wgt (h.1 2 0) (h.1 31) ws w) h) : cI (tx mt (d + 2)) n_X5_weightFor [vR 0, vI ws, vI w] h K := by
  have key : ∀ (m i : Nat), i + m = 12 → Bx z0 0 (tx mt (d+1)) k_X5_weightFor (fun r h' => ∃ z, r = some (.inl z) ∧ K z h') 1 [some (vR 0), some (vI ws), some (vI w), some (vI ((sumN (wgF (h.1 2 0) (h.1 31) ws w) i))), some (vI (((i : Int) + 1)))] [] h := by
    intro m
    induction m with
    | zero =>
      intro i im
      refine u_X5_weightFor_1 (tx_mono _ _) ⟨fun _ => u_X5_weightFor_3 (tx_mono _ _) (exI (kq q ?_)), fun c => by omega⟩
      rw [show i = 12 by omega]
      rfl
    | succ m ih =>
      intro i im
      have nx := ih (i + 1) (by omega)
      have bb := wgF_b (len := h.1 2 0) (ws := ws) (w := w) ht (n := i) (by omega)
      have ti := ht i (by omega) (by omega)
      rw [sumN] at nx
      refine u_X5_weightFor_1 (tx_mono _ _) ⟨fun c => by omega, fun _ => s_X5_spoken (by omega) (by omega) ⟨fun c => u_X5_weightFor_2 (tx_mono _ _) ⟨⟨by omega, by omega⟩, ?_⟩, fun c => ⟨⟨by omega, by omega⟩, by omega, by omega, ?_⟩⟩⟩
      · rw [wgF, if_neg c, Int.add_zero] at nx
        exact nx
      · rw [show (i : Int) + 1 - 1 = i by omega]
        rw [wgF, if_pos (Decidable.not_not.mp c)] at nx
        exact ⟨⟨by omega, by omega⟩, u_X5_weightFor_2 (tx_mono _ _) ⟨⟨by omega, by omega⟩, nx⟩⟩
  exact cI_i (e_X5_weightFor (key 12 0 (by decide)))
theorem s_X6_weightBy {d : Nat} {e w : Int} {h : AH} {K : Int → AH → Prop} (h0 : 0 ≤ e) (h1 : e < 4) (hl : 2 ≤ h.1 39 0 ∧ h.1 39 0 ≤ 12) (hw : 0 ≤ w ∧ w ≤ 12) (ht : ∀ i, 0 ≤ i → i < 12 → 0 ≤ h.1 64 i ∧ h.1 64 i ≤ 99) (q : K (wgt (h.1 39 0) (h.1 64) (h.1 43 e) w) h) : cI (tx mt (d + 2)) n_X6_weightBy [vR 38, vI e, vI w] h K := by
  have key : ∀ (m i : Nat), i + m = 12 → Bx z0 0 (tx mt (d+1)) k_X6_weightBy (fun r h' => ∃ z, r = some (.inl z) ∧ K z h') 1 [some (vR 38), some (vI e), some (vI w), some (vI ((sumN (wgF (h.1 39 0) (h.1 64) (h.1 43 e) w) i))), some (vI (((i : Int) + 1)))] [] h := by
    intro m
    induction m with
    | zero =>
      intro i im
      refine u_X6_weightBy_1 (tx_mono _ _) ⟨fun _ => u_X6_weightBy_4 (tx_mono _ _) (exI (kq q ?_)), fun c => by omega⟩
      rw [show i = 12 by omega]
      rfl
    | succ m ih =>
      intro i im
      have nx := ih (i + 1) (by omega)
      have bb := wgF_b (len := h.1 39 0) (ws := h.1 43 e) (w := w) ht (n := i) (by omega)
      have ti := ht i (by omega) (by omega)
      rw [sumN] at nx
      have ew : wordP (h.1 39 0) w ((i : Int) + 1) = (w + ((i : Int) + 1) - 1) % h.1 39 0 := by rw [wordP, if_neg (by omega)]
      refine u_X6_weightBy_1 (tx_mono _ _) ⟨fun c => by omega, fun _ => ⟨⟨by omega, by omega⟩, ⟨by omega, by omega⟩, by omega, by omega, h0, h1, fun c => u_X6_weightBy_2 (tx_mono _ _) (u_X6_weightBy_3 (tx_mono _ _) ⟨⟨by omega, by omega⟩, ⟨by omega, by omega⟩, ?_⟩), fun c => ⟨⟨by omega, by omega⟩, by omega, by omega, ?_⟩⟩⟩
      · rw [wgF, ew, if_neg c] at nx
        exact nx
      · rw [show (i : Int) + 1 - 1 = i by omega]
        rw [wgF, ew, if_pos (Decidable.not_not.mp c)] at nx
        exact u_X6_weightBy_3 (tx_mono _ _) ⟨⟨by omega, by omega⟩, ⟨by omega, by omega⟩, nx⟩
  exact cI_i (e_X6_weightBy (key 12 0 (by decide)))
theorem amx_r0 {f : Int → Int} : ∀ (m : Nat) (l b : Int), 0 ≤ b → b < l → 0 ≤ amx f m l b ∧ amx f m l b < l + m := by
  intro m
  induction m with
  | zero => intro l b h1 h2; exact ⟨h1, by show b < l + 0; omega⟩
  | succ m ih =>
    intro l b h1 h2
    rw [amx]
    split
    · have := ih (l + 1) b h1 (by omega); omega
    · have := ih (l + 1) l (by omega) (by omega); omega
theorem amx_c {f g : Int → Int} (e : ∀ i, f i = g i) (m : Nat) (l b : Int) : amx f m l b = amx g m l b := by rw [show f = g from funext e]
theorem s_X5_likeliestWord {d : Nat} {ws : Int} {h : AH} {K : Int → AH → Prop} (hl : 2 ≤ h.1 2 0 ∧ h.1 2 0 ≤ 12) (ht : ∀ i, 0 ≤ i → i < 12 → 0 ≤ h.1 31 i ∧ h.1 31 i ≤ 99) (q : K (amx (wgt (h.1 2 0) (h.1 31) ws) (h.1 2 0 - 1).toNat 1 0) h) : cI (tx mt (d + 3)) n_X5_likeliestWord [vR 0, vI ws] h K := by
  have key : ∀ (m : Nat) (l b : Int), l + m = h.1 2 0 → 1 ≤ l → 0 ≤ b → b < l → K (amx (wgt (h.1 2 0) (h.1 31) ws) m l b) h → Bx z0 0 (tx mt (d+2)) k_X5_likeliestWord (fun r h' => ∃ z, r = some (.inl z) ∧ K z h') 1 [some (vR 0), some (vI ws), some (vI b), some (vI l)] [] h := by
    intro m
    induction m with
    | zero => intro l b lm l1 b0 bl q; exact u_X5_likeliestWord_1 (tx_mono _ _) ⟨fun _ => u_X5_likeliestWord_3 (tx_mono _ _) (exI q), fun c => by omega⟩
    | succ m ih =>
      intro l b lm l1 b0 bl q
      rw [amx] at q
      refine u_X5_likeliestWord_1 (tx_mono _ _) ⟨fun c => by omega, fun _ => s_X5_weightFor hl (by omega) ht (s_X5_weightFor hl (by omega) ht ⟨fun c => u_X5_likeliestWord_2 (tx_mono _ _) ⟨⟨by omega, by omega⟩, ?_⟩, fun c => u_X5_likeliestWord_2 (tx_mono _ _) ⟨⟨by omega, by omega⟩, ?_⟩⟩)⟩
      · rw [if_pos c] at q
        exact ih (l + 1) b (by omega) (by omega) b0 (by omega) q
      · rw [if_neg c] at q
        exact ih (l + 1) l (by omega) (by omega) (by omega) (by omega) q
  exact cI_i (e_X5_likeliestWord (key _ 1 0 (by omega) (by decide) (by decide) (by decide) q))
theorem s_X6_bestWord {d : Nat} {e : Int} {h : AH} {K : Int → AH → Prop} (h0 : 0 ≤ e) (h1 : e < 4) (hl : 2 ≤ h.1 39 0 ∧ h.1 39 0 ≤ 12) (ht : ∀ i, 0 ≤ i → i < 12 → 0 ≤ h.1 64 i ∧ h.1 64 i ≤ 99) (q : K (amx (wgt (h.1 39 0) (h.1 64) (h.1 43 e)) (h.1 39 0 - 1).toNat 1 0) h) : cI (tx mt (d + 3)) n_X6_bestWord [vR 38, vI e] h K := by
  have key : ∀ (m : Nat) (l b : Int), l + m = h.1 39 0 → 1 ≤ l → 0 ≤ b → b < l → K (amx (wgt (h.1 39 0) (h.1 64) (h.1 43 e)) m l b) h → Bx z0 0 (tx mt (d+2)) k_X6_bestWord (fun r h' => ∃ z, r = some (.inl z) ∧ K z h') 1 [some (vR 38), some (vI e), some (vI b), some (vI l)] [] h := by
    intro m
    induction m with
    | zero => intro l b lm l1 b0 bl q; exact u_X6_bestWord_1 (tx_mono _ _) ⟨fun _ => u_X6_bestWord_4 (tx_mono _ _) (exI q), fun c => by omega⟩
    | succ m ih =>
      intro l b lm l1 b0 bl q
      rw [amx] at q
      refine u_X6_bestWord_1 (tx_mono _ _) ⟨fun c => by omega, fun _ => s_X6_weightBy h0 h1 hl (by omega) ht (s_X6_weightBy h0 h1 hl (by omega) ht ⟨fun c => u_X6_bestWord_2 (tx_mono _ _) (u_X6_bestWord_3 (tx_mono _ _) ⟨⟨by omega, by omega⟩, ?_⟩), fun c => u_X6_bestWord_3 (tx_mono _ _) ⟨⟨by omega, by omega⟩, ?_⟩⟩)⟩
      · rw [if_pos c] at q
        exact ih (l + 1) b (by omega) (by omega) b0 (by omega) q
      · rw [if_neg c] at q
        exact ih (l + 1) l (by omega) (by omega) (by omega) (by omega) q
  exact cI_i (e_X6_bestWord (key _ 1 0 (by omega) (by decide) (by decide) (by decide) q))
theorem op_petals {a : Int} : OpI n_X5_petals n_X6_petals [vI a] := by
  intro d n h n0 n1 H
  have fa := H.facts
  unfold Facts at fa
  obtain ⟨oR, oE, oS, oP, oZ, mE, mR, mEa, mS, mZ⟩ := H.ok
  obtain ⟨r1, r2, r3, r4⟩ := H.2.2.2.1
  by_cases c : (a < 0 ∨ h.1 1 3 ≤ a) ∨ ¬ h.1 0 7 = 12 ∨ h.1 1 0 = 0
  · exact petals_rf n0 n1 H c
  have gl := H.1.get.1 0 (by decide) (by omega)
  have ga := H.1.arr 0
  have gw := H.1.arr a
  have ht : ∀ i, 0 ≤ i → i < 12 → 0 ≤ h.1 31 i ∧ h.1 31 i ≤ 99 := fun i x y => (r4 i x (by omega)).2
  refine cI_i (e_X5_petals (c_X0_hasEater isB1 (fun _ => ⟨fun _ => u_X5_petals_1 (tx_mono _ _) ⟨fun _ => by omega, fun _ => ⟨fun _ => u_X5_petals_3 (tx_mono _ _) ⟨by omega, by omega, s_X5_likeliestWord (by omega) ht (exI ?_)⟩, fun _ => by omega⟩⟩, fun y => absurd (by decide) y⟩) (fun _ => by omega)))
  refine cI_i (e_X6_petals ?_)
  intro h1 w1
  rw [w1]
  have c0 : (upI h 38 12 0).1 38 0 = h.1 1 0 := by (simp only [inI, inL, upI_e, Nat.reduceEqDiff, Nat.reduceAdd, true_and, and_true, false_and, and_false, if_true, if_false, ite_true, ite_false, reduceIte, Int.reduceEq, not_true_eq_false, not_false_eq_true, Decidable.not_not]); omega
  have c1 : (upI h 38 12 0).1 38 1 = h.1 1 3 := by (simp only [inI, inL, upI_e, Nat.reduceEqDiff, Nat.reduceAdd, true_and, and_true, false_and, and_false, if_true, if_false, ite_true, ite_false, reduceIte, Int.reduceEq, not_true_eq_false, not_false_eq_true, Decidable.not_not]); omega
  have c2 : (upI h 38 12 0).1 38 43 = 12 := by (simp only [inI, inL, upI_e, Nat.reduceEqDiff, Nat.reduceAdd, true_and, and_true, false_and, and_false, if_true, if_false, ite_true, ite_false, reduceIte, Int.reduceEq, not_true_eq_false, not_false_eq_true, Decidable.not_not]); omega
  have c3 : (upI h 38 12 0).1 39 0 = h.1 2 0 := by (simp only [inI, inL, upI_e, Nat.reduceEqDiff, Nat.reduceAdd, true_and, and_true, false_and, and_false, if_true, if_false, ite_true, ite_false, reduceIte, Int.reduceEq, not_true_eq_false, not_false_eq_true, Decidable.not_not]); omega
  have c4 : (upI h 38 12 0).1 43 a = h.1 6 a := by (simp only [inI, inL, upI_e, Nat.reduceEqDiff, Nat.reduceAdd, true_and, and_true, false_and, and_false, if_true, if_false, ite_true, ite_false, reduceIte, Int.reduceEq, not_true_eq_false, not_false_eq_true, Decidable.not_not]); omega
  have c5 : ∀ i, 0 ≤ i → i < 12 → (upI h 38 12 0).1 64 i = h.1 31 i := fun i x y => by have := (r4 i x (by omega)).1; (simp only [inI, inL, upI_e, Nat.reduceEqDiff, Nat.reduceAdd, true_and, and_true, false_and, and_false, if_true, if_false, ite_true, ite_false, reduceIte, Int.reduceEq, not_true_eq_false, not_false_eq_true, Decidable.not_not]); omega
  refine c_X6_wrongPetals (by omega) (fun y => by omega) (fun y => by omega) (fun _ => ⟨fun _ => u_X6_petals_1 (tx_mono _ _) (s_X6_bestWord (by omega) (by omega) (by omega) (fun i x y => by rw [c5 i x y]; exact ht i x y) (u_X6_petals_2 (tx_mono _ _) (exI ⟨?_, H.m12⟩))), fun y => absurd (by decide) y⟩)
  rw [c3, c4]
  exact amx_c (fun w => (wgt_c c5).symm) _ _ _
theorem x_petal {d : Nat} {p ws : Int} {h : AH} {K : AK} (ht : ∀ i, 0 ≤ i → i < 12 → 0 ≤ h.1 31 i ∧ h.1 31 i ≤ 99) : ∀ (m i : Nat) (x : Option AV), i + m = 12 → (∀ x y, Bx z0 0 (tx mt (d + 29)) k_X5_petal K 6 [some (vR 0), x, some (vI p), some (vI ws), some (vI ((sumN (fun i => h.1 31 i) 12))), y] [] h) → Bx z0 0 (tx mt (d + 29)) k_X5_petal K 5 [some (vR 0), x, some (vI p), some (vI ws), some (vI ((sumN (fun i => h.1 31 i) i))), some (vI ((i : Int)))] [] h := by
  intro m
  induction m with
  | zero => intro i x im q; exact u_X5_petal_5 (tx_mono _ _) ⟨fun _ => by rw [show i = 12 by omega]; exact q _ _, fun c => by omega⟩
  | succ m ih =>
    intro i x im q
    have nx := ih (i + 1) none (by omega) q
    have bb := sumN_b (f := fun i => h.1 31 i) (c := 99) (n := i) (fun i hi => ht i (by omega) (by omega))
    have ti := ht i (by omega) (by omega)
    rw [sumN] at nx
    exact u_X5_petal_5 (tx_mono _ _) ⟨fun c => by omega, fun _ => ⟨by omega, by omega, ⟨by omega, by omega⟩, ⟨by omega, by omega⟩, nx⟩⟩
theorem m_petal {d : Nat} {a p : Int} {h : AH} {K : AK} (ht : ∀ i, 0 ≤ i → i < 12 → 0 ≤ h.1 64 i ∧ h.1 64 i ≤ 99) : ∀ (m i : Nat) (x : Option AV), i + m = 12 → (∀ x y, Bx z0 0 (tx mt (d + 29)) k_X6_petal K 5 [some (vR 38), some (vI a), some (vI p), x, some (vI ((sumN (fun i => h.1 64 i) 12))), y] [] h) → Bx z0 0 (tx mt (d + 29)) k_X6_petal K 4 [some (vR 38), some (vI a), some (vI p), x, some (vI ((sumN (fun i => h.1 64 i) i))), some (vI ((i : Int)))] [] h := by
  intro m
  induction m with
  | zero => intro i x im q; exact u_X6_petal_4 (tx_mono _ _) ⟨fun _ => by rw [show i = 12 by omega]; exact q _ _, fun c => by omega⟩
  | succ m ih =>
    intro i x im q
    have nx := ih (i + 1) none (by omega) q
    have bb := sumN_b (f := fun i => h.1 64 i) (c := 99) (n := i) (fun i hi => ht i (by omega) (by omega))
    have ti := ht i (by omega) (by omega)
    rw [sumN] at nx
    exact u_X6_petal_4 (tx_mono _ _) ⟨fun c => by omega, fun _ => ⟨by omega, by omega, ⟨by omega, by omega⟩, ⟨by omega, by omega⟩, nx⟩⟩
theorem sumN_le {f g : Nat → Int} {n : Nat} (hf : ∀ i, i < n → f i ≤ g i) : sumN f n ≤ sumN g n := by
  induction n with
  | zero => exact Int.le_refl _
  | succ n ih =>
    have h1 := ih (fun i hi => hf i (by omega))
    have h2 := hf n (by omega)
    rw [sumN, sumN]
    omega
theorem op_petal {a p : Int} : OpL n_X5_petal n_X6_petal [vI a, vI p] := by
  intro d n h n0 n1 H
  have fa := H.facts
  unfold Facts at fa
  obtain ⟨oR, oE, oS, oP, oZ, mE, mR, mEa, mS, mZ⟩ := H.ok
  obtain ⟨r1, r2, r3, r4⟩ := H.2.2.2.1
  by_cases c : (a < 0 ∨ h.1 1 3 ≤ a) ∨ (¬ h.1 0 7 = 12 ∨ h.1 1 0 = 0) ∨ (p < 0 ∨ 1 < p)
  · exact petal_rf n0 n1 H c
  have gl := H.1.get.1 0 (by decide) (by omega)
  have ga := H.1.arr 0
  have gw := H.1.arr a
  have ht : ∀ i, 0 ≤ i → i < 12 → 0 ≤ h.1 31 i ∧ h.1 31 i ≤ 99 := fun i x y => (r4 i x (by omega)).2
  have ar := amx_r0 (f := wgt (h.1 2 0) (h.1 31) (h.1 6 a)) (h.1 2 0 - 1).toNat 1 0 (by decide) (by decide)
  generalize hW : amx (wgt (h.1 2 0) (h.1 31) (h.1 6 a)) (h.1 2 0 - 1).toNat 1 0 = W at ar
  have wb := wgF_b (len := h.1 2 0) (ws := h.1 6 a) (w := W) ht (n := 12) (by decide)
  have wb' : 0 ≤ wgt (h.1 2 0) (h.1 31) (h.1 6 a) W ∧ wgt (h.1 2 0) (h.1 31) (h.1 6 a) W ≤ sumN (fun i => h.1 31 i) 12 := ⟨wb.1, sumN_le (fun i hi => by have := ht i (by omega) (by omega); unfold wgF; split <;> omega)⟩
  have sb := sumN_b (f := fun i => h.1 31 i) (c := 99) (n := 12) (fun i hi => ht i (by omega) (by omega))
  have x : ∀ K : Int → AH → Prop, K (ptI (wgt (h.1 2 0) (h.1 31) (h.1 6 a) W) (sumN (fun i => h.1 31 i) 12) p) h → cL (tx mt (d + 30)) n_X5_petal [vR 0, vI a, vI p] h K := by
    intro K q
    have go : Bx z0 0 (tx mt (d + 29)) k_X5_petal (fun r h' => ∃ z, r = some (.inr (.inl z)) ∧ K z h') 4 [some (vR 0), some (vI a), some (vI p), none, none, none] [] h :=
      u_X5_petal_4 (tx_mono _ _) ⟨by omega, by omega, x_petal ht 12 0 _ (by decide) (fun x y => u_X5_petal_6 (tx_mono _ _) (s_X5_likeliestWord (by omega) ht (by rw [hW]; exact s_X5_weightFor (by omega) (by omega) ht (s_X5_partOf wb'.1 (by omega) (by omega) (by omega) (by omega) (exL q)))))⟩
    exact cL_i (e_X5_petal (c_X0_hasEater isB1 (fun _ => ⟨fun _ => u_X5_petal_1 (tx_mono _ _) ⟨fun _ => by omega, fun _ => ⟨fun _ => u_X5_petal_3 (tx_mono _ _) ⟨fun _ => go, fun _ => ⟨fun _ => go, fun _ => by omega⟩⟩, fun _ => by omega⟩⟩, fun y => absurd (by decide) y⟩) (fun _ => by omega)))
  refine x _ ?_
  refine cL_i (e_X6_petal ?_)
  intro h1 w1
  rw [w1]
  have c0 : (upI h 38 12 0).1 38 0 = h.1 1 0 := by (simp only [inI, inL, upI_e, Nat.reduceEqDiff, Nat.reduceAdd, true_and, and_true, false_and, and_false, if_true, if_false, ite_true, ite_false, reduceIte, Int.reduceEq, not_true_eq_false, not_false_eq_true, Decidable.not_not]); omega
  have c1 : (upI h 38 12 0).1 38 1 = h.1 1 3 := by (simp only [inI, inL, upI_e, Nat.reduceEqDiff, Nat.reduceAdd, true_and, and_true, false_and, and_false, if_true, if_false, ite_true, ite_false, reduceIte, Int.reduceEq, not_true_eq_false, not_false_eq_true, Decidable.not_not]); omega
  have c2 : (upI h 38 12 0).1 38 43 = 12 := by (simp only [inI, inL, upI_e, Nat.reduceEqDiff, Nat.reduceAdd, true_and, and_true, false_and, and_false, if_true, if_false, ite_true, ite_false, reduceIte, Int.reduceEq, not_true_eq_false, not_false_eq_true, Decidable.not_not]); omega
  have c3 : (upI h 38 12 0).1 39 0 = h.1 2 0 := by (simp only [inI, inL, upI_e, Nat.reduceEqDiff, Nat.reduceAdd, true_and, and_true, false_and, and_false, if_true, if_false, ite_true, ite_false, reduceIte, Int.reduceEq, not_true_eq_false, not_false_eq_true, Decidable.not_not]); omega
  have c4 : (upI h 38 12 0).1 43 a = h.1 6 a := by (simp only [inI, inL, upI_e, Nat.reduceEqDiff, Nat.reduceAdd, true_and, and_true, false_and, and_false, if_true, if_false, ite_true, ite_false, reduceIte, Int.reduceEq, not_true_eq_false, not_false_eq_true, Decidable.not_not]); omega
  have c5 : ∀ i, 0 ≤ i → i < 12 → (upI h 38 12 0).1 64 i = h.1 31 i := fun i x y => by have := (r4 i x (by omega)).1; (simp only [inI, inL, upI_e, Nat.reduceEqDiff, Nat.reduceAdd, true_and, and_true, false_and, and_false, if_true, if_false, ite_true, ite_false, reduceIte, Int.reduceEq, not_true_eq_false, not_false_eq_true, Decidable.not_not]); omega
  have ht' : ∀ i, 0 ≤ i → i < 12 → 0 ≤ (upI h 38 12 0).1 64 i ∧ (upI h 38 12 0).1 64 i ≤ 99 := fun i x y => by rw [c5 i x y]; exact ht i x y
  have eW : amx (wgt ((upI h 38 12 0).1 39 0) ((upI h 38 12 0).1 64) ((upI h 38 12 0).1 43 a)) ((upI h 38 12 0).1 39 0 - 1).toNat 1 0 = W := by
    rw [c3, c4, ← hW]
    exact amx_c (fun w => (wgt_c c5)) _ _ _
  have eS : sumN (fun i => (upI h 38 12 0).1 64 i) 12 = sumN (fun i => h.1 31 i) 12 := sumN_c (fun i hi => c5 i (by omega) (by omega))
  have eG : wgt ((upI h 38 12 0).1 39 0) ((upI h 38 12 0).1 64) ((upI h 38 12 0).1 43 a) W = wgt (h.1 2 0) (h.1 31) (h.1 6 a) W := by
    rw [c3, c4]
    exact wgt_c c5
  refine c_X6_wrongPetals (by omega) (fun y => by omega) (fun y => by omega) (fun _ => ⟨fun y => absurd rfl y, fun _ => c_X6_in (fun _ => ⟨fun _ => u_X6_petal_1 (tx_mono _ _) (u_X6_petal_2 (tx_mono _ _) ⟨fun _ => u_X6_petal_3 (tx_mono _ _) ?_, fun y => absurd (by decide) y⟩), fun y => absurd (by decide) y⟩) (fun y => by omega)⟩)
  refine m_petal ht' 12 0 _ (by decide) (fun x y => u_X6_petal_5 (tx_mono _ _) (s_X6_bestWord (by omega) (by omega) (by omega) ht' ?_))
  rw [eW, eS]
  refine s_X6_weightBy (by omega) (by omega) (by omega) (by omega) ht' ?_
  rw [eG]
  exact s_X6_partOf (by omega) (by omega) (exL ⟨rfl, H.m12⟩)
