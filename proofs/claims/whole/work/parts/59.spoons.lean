/-! ===== spoons ===== -/
theorem Inv.scr {n : Int} {h h' : AH} (H : Inv n h) (f : ∀ c, c ≠ 34 → c ≠ 36 → c ≠ 37 → ¬ (55 ≤ c ∧ c ≤ 60) → c ≠ 62 → c ≠ 63 → h'.1 c = (upI h 38 12 0).1 c) : Inv (n + 1) h' := by
  refine H.c (fun c a b => ?_) (fun j a => ?_) ?_
  · unfold scC at a
    rw [f c (by omega) (by omega) (by omega) (by omega) (by omega) (by omega)]
    funext j
    simp only [upI_e]
    rw [if_neg (by omega)]
  · unfold scS at a
    rw [f 38 (by omega) (by omega) (by omega) (by omega) (by omega) (by omega)]
    simp only [upI_e]
    rw [if_neg (by omega)]
  · rw [fX_c (h := h) (k := 9) (fun c a b => by rw [f c (by omega) (by omega) (by omega) (by omega) (by omega) (by omega)]; funext j; simp only [upI_e]; rw [if_neg (by omega)])]
    exact H.2.1.1
def spF (b : BD) (e n a bb s : Int) (i : Nat) : Int := if wTo b 0 (b.2 6 e + (i : Int) * a + (n - i) * bb) = s then ((bn n.toNat i : Nat) : Int) else 0
theorem p20 {n : Nat} (h : n ≤ 20) : 1 ≤ 2 ^ n ∧ 2 ^ n ≤ 1048576 := ⟨Nat.one_le_two_pow, Nat.pow_le_pow_right (by decide) h⟩
theorem spF_b (b : BD) (e n a bb s : Int) (hn : n ≤ 20) (i : Nat) : 0 ≤ sumN (spF b e n a bb s) i ∧ sumN (spF b e n a bb s) i ≤ 1048576 := by
  have h1 := bS_le n.toNat i
  have h2 := p20 (n := n.toNat) (by omega)
  have h3 : sumN (spF b e n a bb s) i ≤ bS n.toNat i := sumN_le (fun i _ => by unfold spF; split <;> omega)
  have h4 : ∀ i, 0 ≤ sumN (spF b e n a bb s) i := by
    intro i
    induction i with
    | zero => exact Int.le_refl _
    | succ i ih =>
      rw [sumN]
      have : 0 ≤ spF b e n a bb s i := by unfold spF; split <;> omega
      omega
  have h5 := h4 i
  generalize 2 ^ n.toNat = x at h1 h2
  omega
theorem sp_m {i n a bb : Int} (i0 : 0 ≤ i) (i1 : i ≤ n) (n20 : n ≤ 20) (a0 : 0 ≤ a) (a9 : a ≤ 9) (b0 : 0 ≤ bb) (b9 : bb ≤ 9) : 0 ≤ i * a ∧ i * a ≤ 180 ∧ 0 ≤ (n - i) * bb ∧ (n - i) * bb ≤ 180 := by
  have h1 := Int.mul_le_mul (show i ≤ 20 by omega) a9 a0 (by decide)
  have h2 := Int.mul_nonneg i0 a0
  have h3 := Int.mul_le_mul (show n - i ≤ 20 by omega) b9 b0 (by decide)
  have h4 := Int.mul_nonneg (show 0 ≤ n - i by omega) b0
  omega
theorem two_n (n : Int) : (1 * 2 ^ Int.toNat n : Int) = ((2 ^ n.toNat : Nat) : Int) := by simp
theorem x_spoons {d : Nat} {e n a bb p s : Int} {h : AH} {K : Int → AH → Prop} (hr : okR (fX h 1)) (he : okE (fX h 1)) (e0 : 0 ≤ e) (e1 : e < h.1 1 3) (n0 : 0 ≤ n) (n20 : n ≤ 20) (a0 : 0 ≤ a) (a9 : a ≤ 9) (b0 : 0 ≤ bb) (b9 : bb ≤ 9) (hp : p = 0 ∨ p = 1) (q : K (ptI (sumN (spF (fX h 1) e n a bb s) (n.toNat + 1)) ((2 ^ n.toNat : Nat) : Int) p) h) : ∀ (m i : Nat) (x5 x9 x11 x13 : Option AV), i + m = n.toNat + 1 → Bx z0 0 (tx mt (d + 29)) k_X5_spoons (fun r h' => ∃ z, r = some (.inr (.inl z)) ∧ K z h') 11 [some (vR 0), some (vI e), some (vI n), some (vI a), some (vI bb), x5, some (vI p), some (vI s), some (vL ((sumN (spF (fX h 1) e n a bb s) i))), x9, some (vL (((bn n.toNat i : Nat) : Int))), x11, some (vI ((i : Int))), x13] [] h := by
  have e4 : h.1 1 3 ≤ 4 := he.2.1
  have f6 : (fX h 1).2 6 e = h.1 7 e := rfl
  have se := he.2.2 e e0 e1
  rw [f6] at se
  have pw := p20 (n := n.toNat) (by omega)
  intro m
  induction m with
  | zero =>
    intro i x5 x9 x11 x13 im
    have bb := spF_b (fX h 1) e n a bb s n20 i
    refine u_X5_spoons_11 (tx_mono _ _) ⟨fun _ => u_X5_spoons_13 (tx_mono _ _) ⟨by decide, n0, by omega, ?_⟩, fun c => by omega⟩
    rw [two_n]
    rw [show n.toNat + 1 = i by omega] at q
    generalize 2 ^ n.toNat = P at pw q ⊢
    exact ⟨⟨by omega, by omega⟩, s_X5_partOf bb.1 (by omega) (by omega) (by omega) hp (exL q)⟩
  | succ m ih =>
    intro i x5 x9 x11 x13 im
    have nx := ih (i + 1) none none none none (by omega)
    have bd := spF_b (fX h 1) e n a bb s n20 i
    have bl := bn_le n.toNat i
    have bl1 := bn_le n.toNat (i + 1)
    have sm := sp_m (show 0 ≤ (i : Int) by omega) (show (i : Int) ≤ n by omega) n20 a0 a9 b0 b9
    have id1 := bn_id n.toNat i
    rw [Int.toNat_of_nonneg n0] at id1
    rw [sumN] at nx
    have aux : ∀ l8 x5 x9 x11 x13, l8 = sumN (spF (fX h 1) e n a bb s) i + spF (fX h 1) e n a bb s i → Bx z0 0 (tx mt (d + 29)) k_X5_spoons (fun r h' => ∃ z, r = some (.inr (.inl z)) ∧ K z h') 12 [some (vR 0), some (vI e), some (vI n), some (vI a), some (vI bb), x5, some (vI p), some (vI s), some (vL l8), x9, some (vL (((bn n.toNat i : Nat) : Int))), x11, some (vI ((i : Int))), x13] [] h := by
      intro l8 x5 x9 x11 x13 el
      refine u_X5_spoons_12 (tx_mono _ _) ?_
      rw [← id1, Int.mul_ediv_cancel _ (show (i : Int) + 1 ≠ 0 by omega), el]
      have h1 : ((bn n.toNat (i + 1) : Nat) : Int) * ((i : Int) + 1) ≤ 1048576 * 21 := Int.mul_le_mul (by generalize 2 ^ n.toNat = P at *; omega) (by omega) (by omega) (by decide)
      have h2 : 0 ≤ ((bn n.toNat (i + 1) : Nat) : Int) * ((i : Int) + 1) := Int.mul_nonneg (by omega) (by omega)
      generalize ((bn n.toNat (i + 1) : Nat) : Int) * ((i : Int) + 1) = u at h1 h2 ⊢
      exact ⟨⟨by omega, by omega⟩, ⟨by omega, by omega⟩, ⟨by omega, by omega⟩, h2, by omega, ⟨by omega, by omega⟩, nx⟩
    generalize hP : 2 ^ n.toNat = P at *
    refine u_X5_spoons_11 (tx_mono _ _) ⟨fun c => by omega, fun _ => ⟨e0, by omega, ⟨by omega, by omega⟩, ⟨by omega, by omega⟩, ⟨by omega, by omega⟩, ⟨by omega, by omega⟩, ⟨by omega, by omega⟩, s_X0_wordTo isB1 hr (by omega) ⟨fun c => aux _ _ _ _ _ ?_, fun c => ⟨⟨by omega, by omega⟩, aux _ _ _ _ _ ?_⟩⟩⟩⟩
    · rw [spF, f6, if_neg c, Int.add_zero]
    · rw [spF, f6, if_pos (Decidable.not_not.mp c)]
/-- only the table of the reference's spoons is changed -/
def Gc (h h' : AH) : Prop := (∀ c, c ≠ 58 → h'.1 c = h.1 c) ∧ h'.2 = h.2
theorem Gc.rf {h : AH} : Gc h h := ⟨fun _ _ => rfl, rfl⟩
theorem Gc.up {h h' : AH} (G : Gc h h') (j v : Int) : Gc h (upI h' 58 j v) := ⟨fun c hc => by rw [← G.1 c hc]; funext i; simp only [upI_e]; rw [if_neg (by omega)], G.2⟩
theorem Gc.M {h h' : AH} (G : Gc h h') : fM h' = fM h := fM_c (fun c hc => G.1 c (by omega)) (fun j hj => by rw [G.1 38 (by decide)])
theorem m_sp1 {d : Nat} {e n a bb w p : Int} {h : AH} {K : AK} : ∀ (m i : Nat) (h' : AH) (x7 x9 x10 x11 : Option AV), i + m = 21 → Gc h h' → (∀ j : Nat, j < i → h'.1 58 j = ((bn 0 j : Nat) : Int)) → (∀ h1 x7 x8 x9 x10 x11, Gc h h1 → (∀ j : Nat, j < 21 → h1.1 58 j = ((bn 0 j : Nat) : Int)) → Bx z0 0 (tx mt (d + 29)) k_X6_spoons K 5 [some (vR 38), some (vI e), some (vI n), some (vI a), some (vI bb), some (vI w), some (vI p), x7, x8, x9, x10, x11] [] h1) → Bx z0 0 (tx mt (d + 29)) k_X6_spoons K 2 [some (vR 38), some (vI e), some (vI n), some (vI a), some (vI bb), some (vI w), some (vI p), x7, some (vI ((i : Int))), x9, x10, x11] [] h' := by
  intro m
  induction m with
  | zero => intro i h' x7 x9 x10 x11 im G hc q; exact u_X6_spoons_2 (tx_mono _ _) ⟨fun _ => q _ _ _ _ _ _ G (fun j hj => hc j (by omega)), fun c => by omega⟩
  | succ m ih =>
    intro i h' x7 x9 x10 x11 im G hc q
    have aux : ∀ v, v = ((bn 0 i : Nat) : Int) → Bx z0 0 (tx mt (d + 29)) k_X6_spoons K 4 [some (vR 38), some (vI e), some (vI n), some (vI a), some (vI bb), some (vI w), some (vI p), none, some (vI ((i : Int))), none, none, none] [vI v, vI (i : Int), vR 58] h' := by
      intro v ev
      refine u_X6_spoons_4 (tx_mono _ _) ⟨by omega, by omega, fun h1 w1 => ⟨⟨by omega, by omega⟩, ih (i + 1) h1 _ _ _ _ (by omega) (by rw [w1]; exact G.up _ _) (fun j hj => ?_) q⟩⟩
      rw [w1, upI_e]
      by_cases c : j = i
      · rw [if_pos (by omega), c, ev]
      · rw [if_neg (by omega)]
        exact hc j (by omega)
    refine u_X6_spoons_2 (tx_mono _ _) ⟨fun c => by omega, fun _ => ⟨fun c => u_X6_spoons_3 (tx_mono _ _) (aux 0 ?_), fun c => aux 1 ?_⟩⟩
    · cases i with
      | zero => exact absurd rfl c
      | succ i => rfl
    · rw [show i = 0 by omega]
      rfl
theorem m_sp2i {d : Nat} {e n a bb w p : Int} {h : AH} {K : AK} {i : Nat} (i20 : i < 20) : ∀ (j : Nat) (h' : AH) (x7 x10 x11 : Option AV), j ≤ 20 → Gc h h' → (∀ t : Nat, t < 21 → h'.1 58 t = ((if j < t then bn (i + 1) t else bn i t : Nat) : Int)) → (∀ h1 x7 x9 x10 x11, Gc h h1 → (∀ t : Nat, t < 21 → h1.1 58 t = ((bn (i + 1) t : Nat) : Int)) → Bx z0 0 (tx mt (d + 29)) k_X6_spoons K 8 [some (vR 38), some (vI e), some (vI n), some (vI a), some (vI bb), some (vI w), some (vI p), x7, some (vI ((i : Int))), x9, x10, x11] [] h1) → Bx z0 0 (tx mt (d + 29)) k_X6_spoons K 7 [some (vR 38), some (vI e), some (vI n), some (vI a), some (vI bb), some (vI w), some (vI p), x7, some (vI ((i : Int))), some (vI ((j : Int))), x10, x11] [] h' := by
  intro j
  induction j with
  | zero =>
    intro h' x7 x10 x11 j20 G hc q
    refine u_X6_spoons_7 (tx_mono _ _) ⟨fun _ => q _ _ _ _ _ G (fun t ht => ?_), fun c => absurd (Int.le_refl _) c⟩
    rw [hc t ht]
    cases t with
    | zero => rw [if_neg (by decide), bn_0, bn_0]
    | succ t => rw [if_pos (by omega)]
  | succ j ih =>
    intro h' x7 x10 x11 j20 G hc q
    have c1 := hc (j + 1) (by omega)
    have c2 := hc j (by omega)
    rw [if_neg (by omega)] at c1 c2
    have b1 := bn_le i (j + 1)
    have b2 := bn_le i j
    have pw := p20 (n := i) (by omega)
    have e1 : ((j + 1 : Nat) : Int) - 1 = (j : Int) := by omega
    refine u_X6_spoons_7 (tx_mono _ _) ⟨fun c => by omega, fun _ => ?_⟩
    rw [e1, show ((j + 1 : Nat) : Int) + (-1) = (j : Int) by omega]
    generalize 2 ^ i = P at b1 b2 pw
    refine ⟨by omega, by omega, ⟨by omega, by omega⟩, by omega, by omega, ⟨by omega, by omega⟩, by omega, by omega, fun h1 w1 => ⟨⟨by omega, by omega⟩, ih h1 _ _ _ (by omega) (by rw [w1]; exact G.up _ _) (fun t ht => ?_) q⟩⟩
    rw [w1, upI_e]
    by_cases c : t = j + 1
    · rw [if_pos ⟨rfl, by omega⟩, if_pos (by omega), c, bn_s]
      omega
    · rw [if_neg (by omega), hc t ht]
      by_cases c3 : j < t
      · rw [if_pos c3, if_pos (by omega)]
      · rw [if_neg c3, if_neg (by omega)]
theorem m_sp2 {d : Nat} {e n a bb w p : Int} {h : AH} {K : AK} (n20 : n ≤ 20) : ∀ (m i : Nat) (h' : AH) (x7 x9 x10 x11 : Option AV), (i : Int) + m = n → Gc h h' → (∀ j : Nat, j < 21 → h'.1 58 j = ((bn i j : Nat) : Int)) → (∀ h1 x7 x8 x9 x10 x11, Gc h h1 → (∀ j : Nat, j < 21 → h1.1 58 j = ((bn n.toNat j : Nat) : Int)) → Bx z0 0 (tx mt (d + 29)) k_X6_spoons K 9 [some (vR 38), some (vI e), some (vI n), some (vI a), some (vI bb), some (vI w), some (vI p), x7, x8, x9, x10, x11] [] h1) → Bx z0 0 (tx mt (d + 29)) k_X6_spoons K 6 [some (vR 38), some (vI e), some (vI n), some (vI a), some (vI bb), some (vI w), some (vI p), x7, some (vI ((i : Int))), x9, x10, x11] [] h' := by
  intro m
  induction m with
  | zero => intro i h' x7 x9 x10 x11 im G hc q; exact u_X6_spoons_6 (tx_mono _ _) ⟨fun _ => q _ _ _ _ _ _ G (by rw [show n.toNat = i by omega]; exact hc), fun c => by omega⟩
  | succ m ih =>
    intro i h' x7 x9 x10 x11 im G hc q
    exact u_X6_spoons_6 (tx_mono _ _) ⟨fun c => by omega, fun _ => m_sp2i (i := i) (by omega) 20 h' _ _ _ (by decide) G (fun t ht => by rw [if_neg (by omega)]; exact hc t ht) (fun h1 x7 x9 x10 x11 G1 hc1 => u_X6_spoons_8 (tx_mono _ _) ⟨⟨by omega, by omega⟩, ih (i + 1) h1 _ _ _ _ (by omega) G1 hc1 q⟩)⟩
theorem m_sp3 {d : Nat} {e n a bb w p : Int} {h : AH} {K : Int → AH → Prop} (hr : okR (fM h)) (he : okE (fM h)) (hr0 : 0 < h.1 38 0) (e0 : 0 ≤ e) (e1 : e < h.1 38 1) (n0 : 0 ≤ n) (n20 : n ≤ 20) (a0 : 0 ≤ a) (a9 : a ≤ 9) (b0 : 0 ≤ bb) (b9 : bb ≤ 9) (w0 : 0 ≤ w) (w12 : w ≤ 12) (hc : ∀ j : Nat, j < 21 → h.1 58 j = ((bn n.toNat j : Nat) : Int)) (q : K (ptI (sumN (spF (fM h) e n a bb (if w = 12 then -9 else w)) (n.toNat + 1)) ((2 ^ n.toNat : Nat) : Int) p) h) : ∀ (m i : Nat) (x7 x10 x11 : Option AV), i + m = n.toNat + 1 → Bx z0 0 (tx mt (d + 29)) k_X6_spoons (fun r h' => ∃ z, r = some (.inr (.inl z)) ∧ K z h') 10 [some (vR 38), some (vI e), some (vI n), some (vI a), some (vI bb), some (vI w), some (vI p), x7, some (vI ((sumN (spF (fM h) e n a bb (if w = 12 then -9 else w)) i))), some (vI ((i : Int))), x10, x11] [] h := by
  have e4 : h.1 38 1 ≤ 4 := he.2.1
  have f6 : (fM h).2 6 e = h.1 44 e := rfl
  have se := he.2.2 e e0 e1
  rw [f6] at se
  have pw := p20 (n := n.toNat) (by omega)
  have lr := hr.2.2 0 (by decide) hr0
  intro m
  induction m with
  | zero =>
    intro i x7 x10 x11 im
    have bb := spF_b (fM h) e n a bb (if w = 12 then -9 else w) n20 i
    refine u_X6_spoons_10 (tx_mono _ _) ⟨fun _ => u_X6_spoons_17 (tx_mono _ _) ⟨by decide, n0, by omega, ?_⟩, fun c => by omega⟩
    rw [two_n]
    rw [show n.toNat + 1 = i by omega] at q
    generalize 2 ^ n.toNat = P at pw q ⊢
    exact ⟨⟨by omega, by omega⟩, s_X6_partOf bb.1 (by omega) (exL q)⟩
  | succ m ih =>
    intro i x7 x10 x11 im
    have nx := ih (i + 1) none none none (by omega)
    have bd := spF_b (fM h) e n a bb (if w = 12 then -9 else w) n20 i
    have bl := bn_le n.toNat i
    have sm := sp_m (show 0 ≤ (i : Int) by omega) (show (i : Int) ≤ n by omega) n20 a0 a9 b0 b9
    have ci := hc i (by omega)
    rw [sumN] at nx
    generalize hP : 2 ^ n.toNat = P at *
    have yes : spF (fM h) e n a bb (if w = 12 then -9 else w) i = ((bn n.toNat i : Nat) : Int) → ∀ x10, Bx z0 0 (tx mt (d + 29)) k_X6_spoons (fun r h' => ∃ z, r = some (.inr (.inl z)) ∧ K z h') 14 [some (vR 38), some (vI e), some (vI n), some (vI a), some (vI bb), some (vI w), some (vI p), none, some (vI ((sumN (spF (fM h) e n a bb (if w = 12 then -9 else w)) i))), some (vI ((i : Int))), x10, none] [vI 1] h := by
      intro es x10
      rw [es] at nx
      refine u_X6_spoons_14 (tx_mono _ _) ⟨fun c => absurd c (by decide), fun _ => ⟨by omega, by omega, ?_⟩⟩
      rw [ci]
      exact u_X6_spoons_16 (tx_mono _ _) ⟨⟨by omega, by omega⟩, ⟨by omega, by omega⟩, nx⟩
    have no : spF (fM h) e n a bb (if w = 12 then -9 else w) i = 0 → ∀ x10, Bx z0 0 (tx mt (d + 29)) k_X6_spoons (fun r h' => ∃ z, r = some (.inr (.inl z)) ∧ K z h') 14 [some (vR 38), some (vI e), some (vI n), some (vI a), some (vI bb), some (vI w), some (vI p), none, some (vI ((sumN (spF (fM h) e n a bb (if w = 12 then -9 else w)) i))), some (vI ((i : Int))), x10, none] [vI 0] h := by
      intro es x10
      rw [es] at nx
      exact u_X6_spoons_14 (tx_mono _ _) ⟨fun _ => u_X6_spoons_15 (tx_mono _ _) (u_X6_spoons_16 (tx_mono _ _) ⟨⟨by omega, by omega⟩, ⟨by omega, by omega⟩, nx⟩), fun c => absurd rfl c⟩
    have sp : spF (fM h) e n a bb (if w = 12 then -9 else w) i = if wTo (fM h) 0 (h.1 44 e + (i : Int) * a + (n - i) * bb) = (if w = 12 then -9 else w) then ((bn n.toNat i : Nat) : Int) else 0 := rfl
    have ez : wTo (fM h) 0 0 = -9 := by rw [wTo, if_pos ⟨by decide, hr0⟩, wordP, if_pos (by omega)]
    have er : 1 ≤ h.1 44 e + (i : Int) * a + (n - i) * bb → 0 ≤ wTo (fM h) 0 (h.1 44 e + (i : Int) * a + (n - i) * bb) ∧ wTo (fM h) 0 (h.1 44 e + (i : Int) * a + (n - i) * bb) ≤ 11 := by
      intro y
      rw [wTo, if_pos ⟨by decide, hr0⟩, wordP, if_neg (by omega)]
      have := emod_r (a := (fM h).2 2 0 + (h.1 44 e + (i : Int) * a + (n - i) * bb) - 1) (b := (fM h).2 1 0) (by omega)
      omega
    refine u_X6_spoons_10 (tx_mono _ _) ⟨fun c => by omega, fun _ => ⟨e0, by omega, ⟨by omega, by omega⟩, ⟨by omega, by omega⟩, ⟨by omega, by omega⟩, ⟨by omega, by omega⟩, ⟨by omega, by omega⟩, fun c => u_X6_spoons_12 (tx_mono _ _) (s_X6_wordTo hr (by omega) ⟨fun c2 => u_X6_spoons_13 (tx_mono _ _) (no ?_ _), fun c2 => yes ?_ _⟩), fun c => ⟨fun c2 => u_X6_spoons_11 (tx_mono _ _) (no ?_ _), fun c2 => yes ?_ _⟩⟩⟩
    · have := er (by omega)
      rw [sp, if_neg (by split <;> omega)]
    · have := er (by omega)
      rw [sp, if_pos (by rw [if_neg (by omega)]; exact Decidable.not_not.mp c2)]
    · rw [sp, Decidable.not_not.mp c, ez, if_neg (by rw [if_neg c2]; omega)]
    · rw [sp, Decidable.not_not.mp c, ez, if_pos (by rw [if_pos (Decidable.not_not.mp c2)])]
theorem op_spoons {e n a bb w p : Int} : OpL n_X5_spoons n_X6_spoons [vI e, vI n, vI a, vI bb, vI w, vI p] := by
  intro d N h N0 N1 H
  have fa := H.facts
  unfold Facts at fa
  obtain ⟨oR, oE, oS, oP, oZ, mE, mR, mEa, mS, mZ⟩ := H.ok
  by_cases r1 : (e < 0 ∨ h.1 1 3 ≤ e) ∨ (w < 0 ∨ 12 < w)
  · exact spoons_rf1 N0 N1 H r1
  by_cases r2 : n < 0 ∨ a < 0 ∨ bb < 0
  · exact spoons_rf2 N0 N1 H (by omega) (by omega) (by omega) (by omega) r2
  by_cases r3 : 20 < n ∨ 9 < a ∨ 9 < bb
  · exact spoons_rf3 N0 N1 H (by omega) (by omega) (by omega) (by omega) (by omega) (by omega) (by omega) r3
  by_cases r4 : (p < 0 ∨ 1 < p) ∨ h.1 1 0 = 0
  · exact spoons_rf4 N0 N1 H (by omega) (by omega) (by omega) (by omega) (by omega) (by omega) (by omega) (by omega) (by omega) (by omega) r4
  have x : ∀ K : Int → AH → Prop, K (ptI (sumN (spF (fX h 1) e n a bb (if w = 12 then -9 else w)) (n.toNat + 1)) ((2 ^ n.toNat : Nat) : Int) p) h → cL (tx mt (d + 30)) n_X5_spoons [vR 0, vI e, vI n, vI a, vI bb, vI w, vI p] h K := by
    intro K q
    have go : ∀ s, s = (if w = 12 then -9 else w) → Bx z0 0 (tx mt (d + 29)) k_X5_spoons (fun r h' => ∃ z, r = some (.inr (.inl z)) ∧ K z h') 10 [some (vR 0), some (vI e), some (vI n), some (vI a), some (vI bb), some (vI w), some (vI p), none, none, none, none, none, none, none] [vI s] h := by
      intro s es
      rw [← es] at q
      have y := x_spoons (d := d) oR oE (by omega) (by omega) (by omega) (by omega) (by omega) (by omega) (by omega) (by omega) (by omega) q (n.toNat + 1) 0 none none none none (by omega)
      rw [bn_0] at y
      exact u_X5_spoons_10 (tx_mono _ _) y
    have g8 : Bx z0 0 (tx mt (d + 29)) k_X5_spoons (fun r h' => ∃ z, r = some (.inr (.inl z)) ∧ K z h') 7 [some (vR 0), some (vI e), some (vI n), some (vI a), some (vI bb), some (vI w), some (vI p), none, none, none, none, none, none, none] [] h := u_X5_spoons_7 (tx_mono _ _) ⟨fun _ => u_X5_spoons_8 (tx_mono _ _) ⟨fun c => u_X5_spoons_9 (tx_mono _ _) (go w (by rw [if_neg c])), fun c => go (-9) (by rw [if_pos (by omega)])⟩, fun c => by omega⟩
    exact cL_i (e_X5_spoons (c_X0_hasEater isB1 (fun _ => ⟨fun y => absurd y (by decide), fun _ => ⟨fun _ => by omega, fun _ => ⟨fun _ => u_X5_spoons_2 (tx_mono _ _) ⟨fun _ => by omega, fun _ => ⟨fun _ => by omega, fun _ => ⟨fun _ => u_X5_spoons_4 (tx_mono _ _) ⟨fun _ => by omega, fun _ => ⟨fun _ => by omega, fun _ => ⟨fun _ => u_X5_spoons_6 (tx_mono _ _) ⟨fun _ => g8, fun _ => ⟨fun _ => g8, fun _ => by omega⟩⟩, fun _ => by omega⟩⟩⟩, fun _ => by omega⟩⟩⟩, fun _ => by omega⟩⟩⟩) (fun _ => by omega)))
  refine x _ ?_
  refine cL_i (e_X6_spoons ?_)
  intro h1 w1
  rw [w1]
  have c0 : (upI h 38 12 0).1 38 0 = h.1 1 0 := by (simp only [inI, inL, upI_e, Nat.reduceEqDiff, Nat.reduceAdd, true_and, and_true, false_and, and_false, if_true, if_false, ite_true, ite_false, reduceIte, Int.reduceEq, not_true_eq_false, not_false_eq_true, Decidable.not_not]); omega
  have c1 : (upI h 38 12 0).1 38 1 = h.1 1 3 := by (simp only [inI, inL, upI_e, Nat.reduceEqDiff, Nat.reduceAdd, true_and, and_true, false_and, and_false, if_true, if_false, ite_true, ite_false, reduceIte, Int.reduceEq, not_true_eq_false, not_false_eq_true, Decidable.not_not]); omega
  refine c_X6_wrongSpoons (by omega) (fun y => by omega) (fun y => by omega) (fun y => by omega) (fun y => by omega) (fun y => by omega) (fun _ => ⟨fun _ => u_X6_spoons_1 (tx_mono _ _) ?_, fun y => absurd (by decide) y⟩)
  refine m_sp1 21 0 (upI h 38 12 0) _ _ _ _ (by decide) Gc.rf (fun j hj => by omega) (fun h2 x7 x8 x9 x10 x11 G2 hc2 => u_X6_spoons_5 (tx_mono _ _) ?_)
  refine m_sp2 (by omega) n.toNat 0 h2 _ _ _ _ (by omega) G2 hc2 (fun h3 x7 x8 x9 x10 x11 G3 hc3 => u_X6_spoons_9 (tx_mono _ _) ?_)
  have z0 : h3.1 38 0 = h.1 1 0 := by rw [G3.1 38 (by decide), c0]
  have z1 : h3.1 38 1 = h.1 1 3 := by rw [G3.1 38 (by decide), c1]
  have zM : fM h3 = fX h 1 := by rw [G3.M, mE]
  refine m_sp3 (by rw [zM]; exact oR) (by rw [zM]; exact oE) (by omega) (by omega) (by omega) (by omega) (by omega) (by omega) (by omega) (by omega) (by omega) (by omega) (by omega) hc3 ⟨?_, H.scr (fun c a1 a2 a3 a4 a5 a6 => G3.1 c (by omega))⟩ (n.toNat + 1) 0 _ _ _ (by omega)
  rw [zM]
