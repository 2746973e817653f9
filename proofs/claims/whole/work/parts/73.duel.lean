/-! ===== duel ===== -/
def woV (w v : Int) : Int := ((2 * ((Int.toNat (v / 2 ^ Int.toNat w) &&& Int.toNat 1 : Nat) : Int)) + 1) - ((Int.toNat (v / 2 ^ Int.toNat (1 - w)) &&& Int.toNat 1 : Nat) : Int)
theorem wo_b (w v : Int) : 0 ≤ woV w v ∧ woV w v ≤ 3 := by
  have h1 : (Int.toNat (v / 2 ^ Int.toNat w) &&& Int.toNat 1 : Nat) ≤ Int.toNat 1 := Nat.and_le_right
  have h2 : (Int.toNat (v / 2 ^ Int.toNat (1 - w)) &&& Int.toNat 1 : Nat) ≤ Int.toNat 1 := Nat.and_le_right
  unfold woV
  generalize (Int.toNat (v / 2 ^ Int.toNat w) &&& Int.toNat 1 : Nat) = x at *
  generalize (Int.toNat (v / 2 ^ Int.toNat (1 - w)) &&& Int.toNat 1 : Nat) = y at *
  omega
theorem wo_p {w v : Int} (v0 : 0 ≤ v) : 0 ≤ v / 2 ^ Int.toNat w := Int.ediv_nonneg v0 (Int.le_of_lt (Int.pow_pos (by decide)))
theorem wo_i {w v : Int} : ((Int.toNat (v / 2 ^ Int.toNat w) &&& Int.toNat 1 : Nat) : Int) ≤ 1 := by
  have h1 : (Int.toNat (v / 2 ^ Int.toNat w) &&& Int.toNat 1 : Nat) ≤ Int.toNat 1 := Nat.and_le_right
  generalize (Int.toNat (v / 2 ^ Int.toNat w) &&& Int.toNat 1 : Nat) = x at *
  omega
theorem s_X1_worthTo {d : Nat} {w v : Int} {h : AH} {K : Int → AH → Prop} (w0 : 0 ≤ w) (w1 : w < 2) (v0 : 0 ≤ v) (q : K (woV w v) h) : cI (tx mt (d + 1)) n_X1_worthTo [vI w, vI v] h K := by
  have h1 := wo_i (w := w) (v := v)
  have h2 := wo_i (w := 1 - w) (v := v)
  have p1 := wo_p (w := w) v0
  have p2 := wo_p (w := 1 - w) v0
  refine cI_i (e_X1_worthTo ⟨v0, w0, by omega, p1, by decide, ⟨by omega, by omega⟩, v0, by omega, by omega, p2, by decide, ?_⟩)
  unfold woV at q
  generalize (Int.toNat (v / 2 ^ Int.toNat w) &&& Int.toNat 1 : Nat) = x at *
  generalize (Int.toNat (v / 2 ^ Int.toNat (1 - w)) &&& Int.toNat 1 : Nat) = y at *
  exact ⟨⟨by omega, by omega⟩, ⟨by omega, by omega⟩, ⟨by omega, by omega⟩, exI q⟩
theorem s_X6_worthTo {d : Nat} {w v : Int} {h : AH} {K : Int → AH → Prop} (w0 : 0 ≤ w) (w1 : w < 2) (v0 : 0 ≤ v) (q : K (woV w v) h) : cI (tx mt (d + 1)) n_X6_worthTo [vI w, vI v] h K := by
  have h1 := wo_i (w := w) (v := v)
  have h2 := wo_i (w := 1 - w) (v := v)
  have p1 := wo_p (w := w) v0
  have p2 := wo_p (w := 1 - w) v0
  refine cI_i (e_X6_worthTo ⟨v0, w0, by omega, p1, by decide, ?_⟩)
  unfold woV at q
  generalize (Int.toNat (v / 2 ^ Int.toNat w) &&& Int.toNat 1 : Nat) = x at *
  generalize hy : (Int.toNat (v / 2 ^ Int.toNat (1 - w)) &&& Int.toNat 1 : Nat) = y at *
  exact ⟨⟨by omega, by omega⟩, ⟨by omega, by omega⟩, ⟨by omega, by omega⟩, v0, by omega, by omega, p2, by decide, ⟨by omega, by omega⟩, exI q⟩
def dn (f : Int → Int) : Nat → Int → Int → Int
  | 0, _, b => b
  | m + 1, k, b => dn f m (k + 1) (if f b < f k then k else b)
theorem dn_c {f f' : Int → Int} : ∀ (m : Nat) (k b : Int), b < k → (∀ i, b ≤ i → i < k + m → f i = f' i) → dn f m k b = dn f' m k b := by
  intro m
  induction m with
  | zero => intro k b bk _; rfl
  | succ m ih =>
    intro k b bk h
    rw [dn, dn, h k (by omega) (by omega), h b (by omega) (by omega)]
    refine ih _ _ ?_ (fun i x y => h i ?_ (by omega))
    · split <;> omega
    · revert x
      split <;> omega
theorem dn_b {f : Int → Int} : ∀ (m : Nat) (k b : Int), b < k → b ≤ dn f m k b ∧ dn f m k b < k + m := by
  intro m
  induction m with
  | zero => intro k b bk; rw [dn]; omega
  | succ m ih =>
    intro k b bk
    rw [dn]
    have := ih (k + 1) (if f b < f k then k else b) (by split <;> omega)
    revert this
    split <;> omega
def duF (g : Int → Int → Int → Int) (l w t k : Int) : Int := g (l - k) (1 - w) (if w = 0 then t + k else t)
def duN (mo : Int) (g : Int → Int → Int → Int) (l w t : Int) : Int := dn (fun k => woV w (duF g l w t k)) ((min mo l).toNat - 1) 2 1
def duS (b : BD) (g : Int → Int → Int → Int) (l w t : Int) : Int := if l ≤ 0 then b2i (pl b 0 (b.2 6 0 + t)) + 2 * b2i (pl b 1 (b.2 6 1 + b.1 2 - t)) else duF g l w t (duN (b.1 4) g l w t)
theorem duN_b {mo : Int} {g : Int → Int → Int → Int} {l w t : Int} (m1 : 1 ≤ mo) (l1 : 1 ≤ l) : 1 ≤ duN mo g l w t ∧ duN mo g l w t ≤ min mo l := by
  have := dn_b (f := fun k => woV w (duF g l w t k)) ((min mo l).toNat - 1) 2 1 (by decide)
  unfold duN
  omega
theorem duS_l {b : BD} (m1 : 1 ≤ b.1 4) : locS (duS b) := by
  intro g g' l w t l0 h
  unfold duS
  by_cases c : l ≤ 0
  · rw [if_pos c, if_pos c]
  · rw [if_neg c, if_neg c]
    have e : duN (b.1 4) g l w t = duN (b.1 4) g' l w t := dn_c _ _ _ (by decide) (fun i x y => by
      show woV w (duF g l w t i) = woV w (duF g' l w t i)
      rw [duF, duF, h _ _ _ (by omega) (by omega)])
    have nb := duN_b (g := g') (l := l) (w := w) (t := t) m1 (by omega)
    rw [e, duF, duF, h _ _ _ (by omega) (by omega)]
theorem du_b {b : BD} (m1 : 1 ≤ b.1 4) {l w t : Int} (l0 : 0 ≤ l) : 0 ≤ tbV (duS b) l w t ∧ tbV (duS b) l w t ≤ 3 := by
  refine tb_p (st := duS b) (P := fun z => 0 ≤ z ∧ z ≤ 3) (duS_l m1) (fun g l w t l0 h => ?_) (l.toNat + 1) l w t l0 (by omega)
  show 0 ≤ duS b g l w t ∧ duS b g l w t ≤ 3
  unfold duS
  split
  · have h1 := b2i_01 (pl b 0 (b.2 6 0 + t))
    have h2 := b2i_01 (pl b 1 (b.2 6 1 + b.1 2 - t))
    omega
  · have nb := duN_b (mo := b.1 4) (g := g) (l := l) (w := w) (t := t) m1 (by omega)
    exact h _ _ _ (by omega) (by omega)
/-! ===== the component ===== -/
theorem s_X1_afterNumber {d : Nat} {b : BD} {l w t k F : Int} {h : AH} {K : Int → AH → Prop} (w0 : 0 ≤ w) (w2 : w < 2) (t0 : 0 ≤ t) (k1 : 1 ≤ k) (k6 : k ≤ 6) (kl : k ≤ l) (tF : t + l ≤ F) (F60 : F ≤ 60) (hg : ∀ w' t', 0 ≤ w' → w' < 2 → 0 ≤ t' → t' + (l - k) ≤ F → h.1 34 (ixX (l - k) w' t') = tbV (duS b) (l - k) w' t') (q : K (duF (tbV (duS b)) l w t k) h) : cI (tx mt (d + 2)) n_X1_afterNumber [vR 33, vI l, vI w, vI t, vI k] h K := by
  have aux : ∀ a, a = (if w = 0 then t + k else t) → ∀ x0 x1 x2 x3 x4, Bx z0 0 (tx mt (d+1)) k_X1_afterNumber (fun r h' => ∃ z, r = some (.inl z) ∧ K z h') 2 [x0, x1, x2, x3, x4] [vI a, vI (1 - w), vI (l - k), vR 33, vR 34] h := by
    intro a ea x0 x1 x2 x3 x4
    have ab : t ≤ a ∧ a ≤ t + k := by rw [ea]; split <;> omega
    have xb := ixX_b (l := l - k) (w := 1 - w) (t := a) (by omega) (by omega) (by omega) (by omega)
    refine u_X1_afterNumber_2 (tx_mono _ _) (s_X1_slot (by omega) (by omega) (by omega) (by omega) (by omega) (by omega) ⟨xb.1, xb.2, exI ?_⟩)
    rw [hg _ _ (by omega) (by omega) (by omega) (by omega), ea]
    exact q
  exact cI_i (e_X1_afterNumber ⟨⟨by omega, by omega⟩, ⟨by omega, by omega⟩, fun c => u_X1_afterNumber_1 (tx_mono _ _) (aux t (by rw [if_neg c]) _ _ _ _ _), fun c => ⟨⟨by omega, by omega⟩, aux (t + k) (by rw [if_pos (by omega)]) _ _ _ _ _⟩⟩)
theorem s_X1_duelNumber {d : Nat} {l w t F : Int} {h : AH} {K : Int → AH → Prop} (m1 : 1 ≤ h.1 1 10) (m6 : h.1 1 10 ≤ 6) (w0 : 0 ≤ w) (w2 : w < 2) (t0 : 0 ≤ t) (l0 : 0 ≤ l) (tF : t + l ≤ F) (F60 : F ≤ 60) (hg : ∀ k w' t', 1 ≤ k → k ≤ 6 → k ≤ l → 0 ≤ w' → w' < 2 → 0 ≤ t' → t' + (l - k) ≤ F → h.1 34 (ixX (l - k) w' t') = tbV (duS (fX h 1)) (l - k) w' t') (q : K (if l = 0 then 0 else duN (h.1 1 10) (tbV (duS (fX h 1))) l w t) h) : cI (tx mt (d + 3)) n_X1_duelNumber [vR 33, vR 1, vI l, vI w, vI t] h K := by
  have lp : ∀ (m : Nat) (k b : Int) (x1 x9 : Option AV), k + m = min (h.1 1 10) l + 1 → 2 ≤ k → 1 ≤ b → b < k → K (dn (fun k => woV w (duF (tbV (duS (fX h 1))) l w t k)) m k b) h → Bx z0 0 (tx mt (d+2)) k_X1_duelNumber (fun r h' => ∃ z, r = some (.inl z) ∧ K z h') 1 [some (vR 33), x1, some (vI l), some (vI w), some (vI t), some (vI b), some (vI ((woV w (duF (tbV (duS (fX h 1))) l w t b)))), some (vI ((min (h.1 1 10) l))), some (vI k), x9] [] h := by
    intro m
    induction m with
    | zero =>
      intro k b x1 x9 km k2 b1 bk q
      exact u_X1_duelNumber_1 (tx_mono _ _) ⟨fun _ => u_X1_duelNumber_3 (tx_mono _ _) (exI q), fun c => by omega⟩
    | succ m ih =>
      intro k b x1 x9 km k2 b1 bk q
      rw [dn] at q
      refine u_X1_duelNumber_1 (tx_mono _ _) ⟨fun c => by omega, fun _ => s_X1_afterNumber w0 w2 t0 (by omega) (by omega) (by omega) tF F60 (fun w' t' a b c d => hg k w' t' (by omega) (by omega) (by omega) a b c d) (s_X1_worthTo w0 w2 (du_b (b := fX h 1) m1 (by omega)).1 ⟨fun c => u_X1_duelNumber_2 (tx_mono _ _) ⟨⟨by omega, by omega⟩, ih (k + 1) b _ _ (by omega) (by omega) b1 (by omega) ?_⟩, fun c => u_X1_duelNumber_2 (tx_mono _ _) ⟨⟨by omega, by omega⟩, ih (k + 1) k _ _ (by omega) (by omega) (by omega) (by omega) ?_⟩⟩)⟩
      · rw [if_neg (by omega)] at q
        exact q
      · rw [if_pos (by omega)] at q
        exact q
  refine cI_i (e_X1_duelNumber isB1 ?_)
  by_cases c : l = 0
  · rw [if_pos c] at q
    exact u_X1_duelNumber_1 (tx_mono _ _) ⟨fun _ => u_X1_duelNumber_3 (tx_mono _ _) (exI q), fun c => by omega⟩
  · rw [if_neg c] at q
    have wb := wo_b w (duF (tbV (duS (fX h 1))) l w t 1)
    exact u_X1_duelNumber_1 (tx_mono _ _) ⟨fun c => by omega, fun _ => s_X1_afterNumber w0 w2 t0 (by decide) (by decide) (by omega) tF F60 (fun w' t' a b c d => hg 1 w' t' (by decide) (by decide) (by omega) a b c d) (s_X1_worthTo w0 w2 (du_b (b := fX h 1) m1 (by omega)).1 ⟨fun c => by omega, fun c => u_X1_duelNumber_2 (tx_mono _ _) ⟨⟨by omega, by omega⟩, lp ((min (h.1 1 10) l).toNat - 1) 2 1 _ _ (by omega) (by decide) (by decide) (by decide) q⟩⟩)⟩
theorem s_X1_duelOutcome {d : Nat} {L w t : Int} {h : AH} {K : Int → AH → Prop} (hr : okR (fX h 1)) (he : okE (fX h 1)) (hs : okS (fX h 1)) (n2 : h.1 1 3 = 2) (L0 : 0 ≤ L) (w0 : 0 ≤ w) (wn : w < 2) (t0 : 0 ≤ t) (tF : t + L ≤ h.1 1 8) (B : okTb ixX (tbV (duS (fX h 1))) 7 2 (h.1 1 8) L w t (h.1 34)) (q : K (tbV (duS (fX h 1)) L w t) h) : cI (tx mt (d + 4)) n_X1_duelOutcome [vR 33, vR 1, vI L, vI w, vI t] h K := by
  have F60 : h.1 1 8 ≤ 60 := hs.2.1
  have m1 : 1 ≤ h.1 1 10 := hs.2.2.2.2.1
  have m6 : h.1 1 10 ≤ 6 := hs.2.2.2.2.2.1
  have s0 := he.2.2 0 (by decide) (by show (0 : Int) < h.1 1 3; omega)
  have s1 := he.2.2 1 (by decide) (by show (1 : Int) < h.1 1 3; omega)
  have f6 : ∀ i, (fX h 1).2 6 i = h.1 7 i := fun _ => rfl
  rw [f6] at s0 s1
  rw [tb_eq (duS_l (b := fX h 1) m1) L0, duS, f6, f6, show (fX h 1).1 2 = h.1 1 8 from rfl, show (fX h 1).1 4 = h.1 1 10 from rfl] at q
  refine cI_i (e_X1_duelOutcome isB1 ⟨fun c => u_X1_duelOutcome_1 (tx_mono _ _) isB1 ?_, fun c => ?_⟩)
  · rw [if_pos c] at q
    simp only [Nat.reduceAdd]
    refine ⟨⟨by omega, by omega⟩, s_X0_pleases isB1 hr he (by omega) ⟨⟨by omega, by omega⟩, ⟨by omega, by omega⟩, s_X0_pleases isB1 hr he (by omega) ?_⟩⟩
    generalize pl (fX h 1) 0 (h.1 7 0 + t) = p0 at q ⊢
    generalize pl (fX h 1) 1 (h.1 7 1 + h.1 1 8 - t) = p1 at q ⊢
    have b0 := b2i_01 p0
    have b1 := b2i_01 p1
    have e3 : ∀ a, a = b2i p0 → ∀ x0 x1 x2 x3 x4 x5, Bx z0 0 (tx mt (d+3)) k_X1_duelOutcome (fun r h' => ∃ z, r = some (.inl z) ∧ K z h') 3 [x0, x1, x2, x3, x4, x5, some (vI ((b2i p1)))] [vI a] h := by
      intro a ea x0 x1 x2 x3 x4 x5
      refine u_X1_duelOutcome_3 (tx_mono _ _) ⟨fun c => u_X1_duelOutcome_4 (tx_mono _ _) (u_X1_duelOutcome_5 (tx_mono _ _) ⟨⟨by omega, by omega⟩, exI ?_⟩), fun c => u_X1_duelOutcome_5 (tx_mono _ _) ⟨⟨by omega, by omega⟩, exI ?_⟩⟩
      · rw [c] at q
        rw [ea]
        exact q
      · rw [show b2i p1 = 1 by omega] at q
        rw [ea]
        exact q
    exact ⟨fun c => u_X1_duelOutcome_2 (tx_mono _ _) (e3 0 c.symm _ _ _ _ _ _), fun c => e3 1 (by omega) _ _ _ _ _ _⟩
  · rw [if_neg c] at q
    have nb := duN_b (mo := h.1 1 10) (g := tbV (duS (fX h 1))) (l := L) (w := w) (t := t) m1 (by omega)
    refine s_X1_duelNumber (F := h.1 1 8) m1 m6 w0 wn t0 L0 tF F60 (fun k w' t' a b c d e f g => B.rd (by decide) a b c d e f g) ?_
    rw [if_neg (by omega)]
    exact s_X1_afterNumber w0 wn t0 nb.1 (by omega) (by omega) tF F60 (fun w' t' a b c d => B.rd (by decide) nb.1 (by omega) (by omega) a b c d) (exI q)
theorem s_X1_playDuel {d : Nat} {h : AH} {K : AH → Prop} (hr : okR (fX h 1)) (he : okE (fX h 1)) (hs : okS (fX h 1)) (n2 : h.1 1 3 = 2) (q : ∀ h1, Gx 34 34 h h1 → okTb ixX (tbV (duS (fX h 1))) 7 2 (h.1 1 8) (h.1 1 8 + 1) 0 0 (h1.1 34) → K h1) : cV (tx mt (d + 5)) n_X1_playDuel [vR 33, vR 1] h K := by
  have F0 : 0 ≤ h.1 1 8 := hs.1
  have F60 : h.1 1 8 ≤ 60 := hs.2.1
  have l1 : ∀ (m : Nat) (L : Int) (h' : AH) (x4 x5 : Option AV), L + m = h.1 1 8 + 1 → 0 ≤ L → Gx 34 34 h h' → okTb ixX (tbV (duS (fX h 1))) 7 2 (h.1 1 8) L 0 0 (h'.1 34) → Bx z0 0 (tx mt (d+4)) k_X1_playDuel (fun r h' => r = none ∧ K h') 1 [some (vR 33), some (vR 1), some (vI L), x4, x5] [] h' := by
    intro m
    induction m with
    | zero =>
      intro L h' x4 x5 Lm L0 G B
      have c1 : h'.1 1 = h.1 1 := G 1 (by decide) (by decide)
      rw [show L = h.1 1 8 + 1 by omega] at B
      exact u_X1_playDuel_1 (tx_mono _ _) isB1 ⟨fun _ => u_X1_playDuel_6 (tx_mono _ _) (exV (q h' G B)), fun c => by rw [c1] at c; omega⟩
    | succ m ih =>
      intro L h' x4 x5 Lm L0 G B
      have l2 : ∀ (k : Nat) (w : Int) (h' : AH) (x5 : Option AV), w + k = 2 → 0 ≤ w → Gx 34 34 h h' → okTb ixX (tbV (duS (fX h 1))) 7 2 (h.1 1 8) L w 0 (h'.1 34) → Bx z0 0 (tx mt (d+4)) k_X1_playDuel (fun r h' => r = none ∧ K h') 2 [some (vR 33), some (vR 1), some (vI L), some (vI w), x5] [] h' := by
        intro k
        induction k with
        | zero =>
          intro w h' x5 wk w0 G B
          exact u_X1_playDuel_2 (tx_mono _ _) isB1 ⟨fun _ => u_X1_playDuel_5 (tx_mono _ _) isB1 ⟨⟨by omega, by omega⟩, ih (L + 1) h' _ _ (by omega) (by omega) G (B.nl (by omega))⟩, fun c => by omega⟩
        | succ k ihk =>
          intro w h' x5 wk w0 G B
          have l3 : ∀ (j : Nat) (t : Int) (h' : AH), t + j = h.1 1 8 + 1 - L → 0 ≤ t → Gx 34 34 h h' → okTb ixX (tbV (duS (fX h 1))) 7 2 (h.1 1 8) L w t (h'.1 34) → Bx z0 0 (tx mt (d+4)) k_X1_playDuel (fun r h' => r = none ∧ K h') 3 [some (vR 33), some (vR 1), some (vI L), some (vI w), some (vI t)] [] h' := by
            intro j
            induction j with
            | zero =>
              intro t h' tj t0 G B
              have c1 : h'.1 1 = h.1 1 := G 1 (by decide) (by decide)
              exact u_X1_playDuel_3 (tx_mono _ _) isB1 ⟨⟨by omega, by omega⟩, fun _ => u_X1_playDuel_4 (tx_mono _ _) isB1 ⟨⟨by omega, by omega⟩, ihk (w + 1) h' _ (by omega) (by omega) G (B.nw w0 (by omega))⟩, fun c => by rw [c1] at c; omega⟩
            | succ j ihj =>
              intro t h' tj t0 G B
              have c1 : h'.1 1 = h.1 1 := G 1 (by decide) (by decide)
              have xx : fX h' 1 = fX h 1 := G.X (by decide) (by decide)
              have xb := ixX_b (l := L) (w := w) (t := t) w0 (by omega) t0 (by omega)
              refine u_X1_playDuel_3 (tx_mono _ _) isB1 ⟨⟨by omega, by omega⟩, fun c => by rw [c1] at c; omega, fun _ => s_X1_slot L0 (by omega) w0 (by omega) t0 (by omega) (s_X1_duelOutcome (by rw [xx]; exact hr) (by rw [xx]; exact he) (by rw [xx]; exact hs) (by rw [c1]; exact n2) L0 w0 (by omega) t0 (by rw [c1]; omega) (by rw [xx, c1]; exact B) ⟨xb.1, xb.2, fun h7 w7 => ⟨⟨by omega, by omega⟩, ihj (t + 1) h7 (by omega) (by omega) (by rw [w7]; exact G.up (Or.inl rfl) _ _) (B.w (ixX_j (by decide)) (by decide) L0 w0 (by omega) t0 (by omega) F60 (fun i => ?_))⟩⟩)⟩
              rw [w7, upI_e, xx]
              by_cases c : i = ixX L w t
              · rw [if_pos ⟨rfl, c⟩, if_pos c]
              · rw [if_neg (fun y => c y.2), if_neg c]
          exact u_X1_playDuel_2 (tx_mono _ _) isB1 ⟨fun c => by omega, fun _ => l3 (h.1 1 8 + 1 - L).toNat 0 h' (by omega) (by decide) G B⟩
      have c1 : h'.1 1 = h.1 1 := G 1 (by decide) (by decide)
      exact u_X1_playDuel_1 (tx_mono _ _) isB1 ⟨fun c => by rw [c1] at c; omega, fun _ => l2 2 0 h' _ (by decide) (by decide) G B⟩
  exact cV_i (e_X1_playDuel isB1 (l1 (h.1 1 8 + 1).toNat 0 h _ _ (by omega) (by decide) Gx.rf okTb.z))
/-! ===== the reference ===== -/
theorem s_X6_duelState {d : Nat} {l w t : Int} {h : AH} {K : Int → AH → Prop} (l0 : 0 ≤ l) (l1 : l ≤ 100) (w0 : 0 ≤ w) (w4 : w < 2) (t0 : 0 ≤ t) (t61 : t < 61) (q : K (ixD l w t) h) : cI (tx mt (d + 1)) n_X6_duelState [vI l, vI w, vI t] h K :=
  cI_i (e_X6_duelState ⟨⟨by omega, by omega⟩, ⟨by omega, by omega⟩, ⟨by omega, by omega⟩, ⟨by omega, by omega⟩, exI q⟩)
theorem ixD_b {l w t : Int} (l0 : 0 ≤ l) (l1 : l ≤ 60) (w0 : 0 ≤ w) (w4 : w < 2) (t0 : 0 ≤ t) (t61 : t < 61) : 0 ≤ ixD l w t ∧ ixD l w t < 7442 := by
  unfold ixD
  omega
theorem s_X6_endBy {d : Nat} {b : BD} {l w t k F : Int} {h : AH} {K : Int → AH → Prop} (w0 : 0 ≤ w) (w2 : w < 2) (t0 : 0 ≤ t) (k1 : 1 ≤ k) (kl : k ≤ l) (tF : t + l ≤ F) (F60 : F ≤ 60) (hg : ∀ w' t', 0 ≤ w' → w' < 2 → 0 ≤ t' → t' + (l - k) ≤ F → h.1 63 (ixD (l - k) w' t') = tbV (duS b) (l - k) w' t') (q : K (duF (tbV (duS b)) l w t k) h) : cI (tx mt (d + 2)) n_X6_endBy [vR 38, vI l, vI w, vI t, vI k] h K := by
  have aux : ∀ a, a = (if w = 0 then t + k else t) → ∀ x0 x1 x2 x3 x4, Bx z0 0 (tx mt (d+1)) k_X6_endBy (fun r h' => ∃ z, r = some (.inl z) ∧ K z h') 2 [x0, x1, x2, x3, x4] [vI a, vI (1 - w), vI (l - k), vR 63] h := by
    intro a ea x0 x1 x2 x3 x4
    have ab : t ≤ a ∧ a ≤ t + k := by rw [ea]; split <;> omega
    have xb := ixD_b (l := l - k) (w := 1 - w) (t := a) (by omega) (by omega) (by omega) (by omega) (by omega) (by omega)
    refine u_X6_endBy_2 (tx_mono _ _) (s_X6_duelState (by omega) (by omega) (by omega) (by omega) (by omega) (by omega) ⟨xb.1, xb.2, exI ?_⟩)
    rw [hg _ _ (by omega) (by omega) (by omega) (by omega), ea]
    exact q
  exact cI_i (e_X6_endBy ⟨⟨by omega, by omega⟩, ⟨by omega, by omega⟩, fun c => u_X6_endBy_1 (tx_mono _ _) (aux t (by rw [if_neg c]) _ _ _ _ _), fun c => ⟨⟨by omega, by omega⟩, aux (t + k) (by rw [if_pos (by omega)]) _ _ _ _ _⟩⟩)
theorem s_X6_bestTake {d : Nat} {l w t F : Int} {h : AH} {K : Int → AH → Prop} (m1 : 1 ≤ h.1 38 4) (m6 : h.1 38 4 ≤ 6) (w0 : 0 ≤ w) (w2 : w < 2) (t0 : 0 ≤ t) (l1 : 1 ≤ l) (tF : t + l ≤ F) (F60 : F ≤ 60) (hg : ∀ k w' t', 1 ≤ k → k ≤ 6 → k ≤ l → 0 ≤ w' → w' < 2 → 0 ≤ t' → t' + (l - k) ≤ F → h.1 63 (ixD (l - k) w' t') = tbV (duS (fM h)) (l - k) w' t') (q : K (duN (h.1 38 4) (tbV (duS (fM h))) l w t) h) : cI (tx mt (d + 3)) n_X6_bestTake [vR 38, vI l, vI w, vI t] h K := by
  have lp : ∀ (m : Nat) (k b : Int) (x6 : Option AV), k + m = min (h.1 38 4) l + 1 → 2 ≤ k → 1 ≤ b → b < k → K (dn (fun k => woV w (duF (tbV (duS (fM h))) l w t k)) m k b) h → Bx z0 0 (tx mt (d+2)) k_X6_bestTake (fun r h' => ∃ z, r = some (.inl z) ∧ K z h') 1 [some (vR 38), some (vI l), some (vI w), some (vI t), some (vI b), some (vI k), x6] [] h := by
    intro m
    induction m with
    | zero =>
      intro k b x6 km k2 b1 bk q
      exact u_X6_bestTake_1 (tx_mono _ _) ⟨fun _ => u_X6_bestTake_6 (tx_mono _ _) (exI q), fun c => ⟨fun _ => u_X6_bestTake_6 (tx_mono _ _) (exI q), fun c => by omega⟩⟩
    | succ m ih =>
      intro k b x6 km k2 b1 bk q
      rw [dn] at q
      refine u_X6_bestTake_1 (tx_mono _ _) ⟨fun c => by omega, fun _ => ⟨fun c => by omega, fun _ => s_X6_endBy w0 w2 t0 (by omega) (by omega) tF F60 (fun w' t' a b c d => hg k w' t' (by omega) (by omega) (by omega) a b c d) (s_X6_worthTo w0 w2 (du_b (b := fM h) m1 (by omega)).1 (s_X6_endBy w0 w2 t0 (by omega) (by omega) tF F60 (fun w' t' a e c d => hg b w' t' (by omega) (by omega) (by omega) a e c d) (s_X6_worthTo w0 w2 (du_b (b := fM h) m1 (by omega)).1 ⟨fun c => u_X6_bestTake_2 (tx_mono _ _) (u_X6_bestTake_3 (tx_mono _ _) ⟨fun _ => u_X6_bestTake_4 (tx_mono _ _) (u_X6_bestTake_5 (tx_mono _ _) ⟨⟨by omega, by omega⟩, ih (k + 1) b _ (by omega) (by omega) b1 (by omega) ?_⟩), fun y => absurd rfl y⟩), fun c => u_X6_bestTake_3 (tx_mono _ _) ⟨fun y => absurd y (by decide), fun _ => u_X6_bestTake_5 (tx_mono _ _) ⟨⟨by omega, by omega⟩, ih (k + 1) k _ (by omega) (by omega) (by omega) (by omega) ?_⟩⟩⟩)))⟩⟩
      · rw [if_neg (by omega)] at q
        exact q
      · rw [if_pos (by omega)] at q
        exact q
  exact cI_i (e_X6_bestTake (lp ((min (h.1 38 4) l).toNat - 1) 2 1 _ (by omega) (by decide) (by decide) (by decide) q))
theorem s_X6_layDuel {d : Nat} {h : AH} {K : AH → Prop} (hr : okR (fM h)) (he : okE (fM h)) (hs : okS (fM h)) (n2 : h.1 38 1 = 2) (q : ∀ h1, Gx 63 63 h h1 → okTb ixD (tbV (duS (fM h))) 100 2 (h.1 38 2) (h.1 38 2 + 1) 0 0 (h1.1 63) → K h1) : cV (tx mt (d + 5)) n_X6_layDuel [vR 38] h K := by
  have F0 : 0 ≤ h.1 38 2 := hs.1
  have F60 : h.1 38 2 ≤ 60 := hs.2.1
  have m1 : 1 ≤ h.1 38 4 := hs.2.2.2.2.1
  have m6 : h.1 38 4 ≤ 6 := hs.2.2.2.2.2.1
  have s0 := he.2.2 0 (by decide) (by show (0 : Int) < h.1 38 1; omega)
  have s1 := he.2.2 1 (by decide) (by show (1 : Int) < h.1 38 1; omega)
  have f6 : ∀ i, (fM h).2 6 i = h.1 44 i := fun _ => rfl
  rw [f6] at s0 s1
  have l1 : ∀ (m : Nat) (L : Int) (h' : AH) (x2 x3 x4 x5 x6 : Option AV), L + m = h.1 38 2 + 1 → 0 ≤ L → Gx 63 63 h h' → okTb ixD (tbV (duS (fM h))) 100 2 (h.1 38 2) L 0 0 (h'.1 63) → Bx z0 0 (tx mt (d+4)) k_X6_layDuel (fun r h' => r = none ∧ K h') 1 [some (vR 38), some (vI L), x2, x3, x4, x5, x6] [] h' := by
    intro m
    induction m with
    | zero =>
      intro L h' x2 x3 x4 x5 x6 Lm L0 G B
      have c1 : h'.1 38 = h.1 38 := G 38 (by decide) (by decide)
      rw [show L = h.1 38 2 + 1 by omega] at B
      exact u_X6_layDuel_1 (tx_mono _ _) ⟨fun _ => u_X6_layDuel_12 (tx_mono _ _) (exV (q h' G B)), fun c => by rw [c1] at c; omega⟩
    | succ m ih =>
      intro L h' x2 x3 x4 x5 x6 Lm L0 G B
      have l2 : ∀ (k : Nat) (w : Int) (h' : AH) (x3 x4 x5 x6 : Option AV), w + k = 2 → 0 ≤ w → Gx 63 63 h h' → okTb ixD (tbV (duS (fM h))) 100 2 (h.1 38 2) L w 0 (h'.1 63) → Bx z0 0 (tx mt (d+4)) k_X6_layDuel (fun r h' => r = none ∧ K h') 2 [some (vR 38), some (vI L), some (vI w), x3, x4, x5, x6] [] h' := by
        intro k
        induction k with
        | zero =>
          intro w h' x3 x4 x5 x6 wk w0 G B
          exact u_X6_layDuel_2 (tx_mono _ _) ⟨fun _ => u_X6_layDuel_11 (tx_mono _ _) ⟨⟨by omega, by omega⟩, ih (L + 1) h' _ _ _ _ _ (by omega) (by omega) G (B.nl (by omega))⟩, fun c => by omega⟩
        | succ k ihk =>
          intro w h' x3 x4 x5 x6 wk w0 G B
          have l3 : ∀ (j : Nat) (t : Int) (h' : AH) (x4 x5 x6 : Option AV), t + j = h.1 38 2 + 1 - L → 0 ≤ t → Gx 63 63 h h' → okTb ixD (tbV (duS (fM h))) 100 2 (h.1 38 2) L w t (h'.1 63) → Bx z0 0 (tx mt (d+4)) k_X6_layDuel (fun r h' => r = none ∧ K h') 3 [some (vR 38), some (vI L), some (vI w), some (vI t), x4, x5, x6] [] h' := by
            intro j
            induction j with
            | zero =>
              intro t h' x4 x5 x6 tj t0 G B
              have c1 : h'.1 38 = h.1 38 := G 38 (by decide) (by decide)
              refine u_X6_layDuel_3 (tx_mono _ _) ?_
              rw [c1]
              exact ⟨⟨by omega, by omega⟩, fun _ => u_X6_layDuel_10 (tx_mono _ _) ⟨⟨by omega, by omega⟩, ihk (w + 1) h' _ _ _ _ (by omega) (by omega) G (B.nw w0 (by omega))⟩, fun c => by omega⟩
            | succ j ihj =>
              intro t h' x4 x5 x6 tj t0 G B
              have c1 : h'.1 38 = h.1 38 := G 38 (by decide) (by decide)
              have c44 : h'.1 44 = h.1 44 := G 44 (by decide) (by decide)
              have xx : fM h' = fM h := G.M (by decide) (by decide)
              have n9 : ∀ v x4 x5 x6, v = tbV (duS (fM h)) L w t → Bx z0 0 (tx mt (d+4)) k_X6_layDuel (fun r h' => r = none ∧ K h') 9 [some (vR 38), some (vI L), some (vI w), some (vI t), x4, x5, x6] [vI v, vI (ixD L w t), vR 63] h' := by
                intro v x4 x5 x6 ev
                have xb := ixD_b (l := L) (w := w) (t := t) L0 (by omega) w0 (by omega) t0 (by omega)
                refine u_X6_layDuel_9 (tx_mono _ _) ⟨xb.1, xb.2, fun h7 w7 => ⟨⟨by omega, by omega⟩, ihj (t + 1) h7 _ _ _ (by omega) (by omega) (by rw [w7]; exact G.up (Or.inl rfl) _ _) (B.w ixD_j (by decide) L0 w0 (by omega) t0 (by omega) F60 (fun i => ?_))⟩⟩
                rw [w7, upI_e, ev]
                by_cases c : i = ixD L w t
                · rw [if_pos ⟨rfl, c⟩, if_pos c]
                · rw [if_neg (fun y => c y.2), if_neg c]
              have te := tb_eq (duS_l (b := fM h) m1) (l := L) (w := w) (t := t) L0
              rw [duS, f6, f6, show (fM h).1 2 = h.1 38 2 from rfl, show (fM h).1 4 = h.1 38 4 from rfl] at te
              have n7 : ∀ a4 a5 x5 x6, (0 ≤ a4 ∧ a4 ≤ 1) → (0 ≤ a5 ∧ a5 ≤ 2) → (L = 0 → a4 + a5 = tbV (duS (fM h)) L w t) → Bx z0 0 (tx mt (d+4)) k_X6_layDuel (fun r h' => r = none ∧ K h') 7 [some (vR 38), some (vI L), some (vI w), some (vI t), some (vI a4), x5, x6] [vI a5] h' := by
                intro a4 a5 x5 x6 b4 b5 hv
                refine u_X6_layDuel_7 (tx_mono _ _) (s_X6_duelState L0 (by omega) w0 (by omega) t0 (by omega) ⟨fun c => u_X6_layDuel_8 (tx_mono _ _) ?_, fun c => ⟨⟨by omega, by omega⟩, n9 _ _ _ _ (hv (by omega))⟩⟩)
                have nb := duN_b (mo := h.1 38 4) (g := tbV (duS (fM h))) (l := L) (w := w) (t := t) m1 (by omega)
                rw [if_neg (by omega)] at te
                refine s_X6_bestTake (F := h.1 38 2) (by rw [c1]; exact m1) (by rw [c1]; exact m6) w0 (by omega) t0 (by omega) (by omega) F60 (fun k w' t' a b c d e f g => by rw [xx]; exact B.rd (by decide) a b c d e f g) ?_
                rw [xx, c1]
                refine s_X6_endBy (b := fM h) w0 (by omega) t0 nb.1 (by omega) (by omega) F60 (fun w' t' a b c d => B.rd (by decide) nb.1 (by omega) (by omega) a b c d) ?_
                rw [← te]
                exact n9 _ _ _ _ rfl
              have b0 := b2i_01 (pl (fM h) 0 (h.1 44 0 + t))
              have b1 := b2i_01 (pl (fM h) 1 (h.1 44 1 + h.1 38 2 - L - t))
              have n5 : ∀ a4 x4 x5 x6, a4 = b2i (pl (fM h) 0 (h.1 44 0 + t)) → Bx z0 0 (tx mt (d+4)) k_X6_layDuel (fun r h' => r = none ∧ K h') 5 [some (vR 38), some (vI L), some (vI w), some (vI t), x4, x5, x6] [vI a4] h' := by
                intro a4 x4 x5 x6 e4
                have hv : ∀ a5, a5 = 2 * b2i (pl (fM h) 1 (h.1 44 1 + h.1 38 2 - L - t)) → L = 0 → a4 + a5 = tbV (duS (fM h)) L w t := by
                  intro a5 e5 c
                  rw [te, if_pos (by omega), e4, e5, c, Int.sub_zero]
                refine u_X6_layDuel_5 (tx_mono _ _) ?_
                rw [c1, c44]
                refine ⟨⟨by omega, by omega⟩, ⟨by omega, by omega⟩, ⟨by omega, by omega⟩, s_X6_wouldHave (by rw [xx]; exact hr) (by rw [xx]; exact he) (by decide) (by rw [xx]; show (1 : Int) < h.1 38 1; omega) ⟨by omega, by omega⟩ ?_⟩
                rw [xx]
                exact ⟨fun c => u_X6_layDuel_6 (tx_mono _ _) (n7 a4 0 _ _ (by omega) (by decide) (hv 0 (by omega))), fun c => n7 a4 2 _ _ (by omega) (by decide) (hv 2 (by omega))⟩
              refine u_X6_layDuel_3 (tx_mono _ _) ?_
              rw [c1, c44]
              refine ⟨⟨by omega, by omega⟩, fun c => by omega, fun _ => ⟨⟨by omega, by omega⟩, s_X6_wouldHave (by rw [xx]; exact hr) (by rw [xx]; exact he) (by decide) (by rw [xx]; show (0 : Int) < h.1 38 1; omega) ⟨by omega, by omega⟩ ?_⟩⟩
              rw [xx]
              exact ⟨fun c => u_X6_layDuel_4 (tx_mono _ _) (n5 0 _ _ _ c.symm), fun c => n5 1 _ _ _ (by omega)⟩
          exact u_X6_layDuel_2 (tx_mono _ _) ⟨fun c => by omega, fun _ => l3 (h.1 38 2 + 1 - L).toNat 0 h' _ _ _ (by omega) (by decide) G B⟩
      have c1 : h'.1 38 = h.1 38 := G 38 (by decide) (by decide)
      exact u_X6_layDuel_1 (tx_mono _ _) ⟨fun c => by rw [c1] at c; omega, fun _ => l2 2 0 h' _ _ _ _ (by decide) (by decide) G B⟩
  exact cV_i (e_X6_layDuel (l1 (h.1 38 2 + 1).toNat 0 h _ _ _ _ _ (by omega) (by decide) Gx.rf okTb.z))
def dR (b : BD) (a : Int) : Int := if a = 0 then tbV (duS b) (b.1 2) (b.1 5) 0 else if b.1 2 = 0 then 0 else duN (b.1 4) (tbV (duS b)) (b.1 2) (b.1 5) 0
theorem x_duel {d : Nat} {a : Int} {h : AH} {K : Int → AH → Prop} (hr : okR (fX h 1)) (he : okE (fX h 1)) (hs : okS (fX h 1)) (n2 : h.1 1 3 = 2) (q : ∀ h1, Gx 34 34 h h1 → K (dR (fX h 1) a) h1) : Bx z0 0 (tx mt (d + 29)) k_X5_duel (fun r h' => ∃ z, r = some (.inl z) ∧ K z h') 3 [some (vR 0), some (vI a)] [] h := by
  have F0 : 0 ≤ h.1 1 8 := hs.1
  have F60 : h.1 1 8 ≤ 60 := hs.2.1
  have m1 : 1 ≤ h.1 1 10 := hs.2.2.2.2.1
  have m6 : h.1 1 10 ≤ 6 := hs.2.2.2.2.2.1
  have x0 : 0 ≤ h.1 1 11 := hs.2.2.2.2.2.2.1
  have xn : h.1 1 11 < h.1 1 3 ∨ h.1 1 11 = 0 := hs.2.2.2.2.2.2.2
  refine u_X5_duel_3 (tx_mono _ _) (s_X1_playDuel hr he hs n2 (fun h1 G B => ?_))
  have q := q h1 G
  have c1 : h1.1 1 = h.1 1 := G 1 (by decide) (by decide)
  have xx : fX h1 1 = fX h 1 := G.X (by decide) (by decide)
  rw [dR, show (fX h 1).1 5 = h.1 1 11 from rfl, show (fX h 1).1 2 = h.1 1 8 from rfl, show (fX h 1).1 4 = h.1 1 10 from rfl] at q
  refine ⟨fun c => u_X5_duel_4 (tx_mono _ _) ?_, fun c => s_X1_outcomeNow (by rw [c1]; exact F0) (by rw [c1]; exact F60) (by rw [c1]; exact x0) (by rw [c1]; omega) (u_X5_duel_5 (tx_mono _ _) (exI ?_))⟩
  · rw [c1]
    refine s_X1_duelNumber (F := h.1 1 8) (by rw [c1]; exact m1) (by rw [c1]; exact m6) x0 (by omega) (by decide) F0 (by omega) F60 (fun k w' t' k1 k6 kl a b c f => by rw [xx]; exact B.fin (by decide) (by omega) k6 kl a b c (by omega)) (u_X5_duel_5 (tx_mono _ _) (exI ?_))
    rw [if_neg c] at q
    rw [c1, xx]
    exact q
  · have := B.fin (k := 0) (w' := h.1 1 11) (t' := 0) (by decide) (by decide) (by decide) F0 x0 (by omega) (by decide) (by decide)
    rw [Int.sub_zero] at this
    rw [c1, this]
    rw [if_pos (by omega)] at q
    exact q
theorem m_duel {d : Nat} {a : Int} {h : AH} {K : Int → AH → Prop} (hr : okR (fM h)) (he : okE (fM h)) (hs : okS (fM h)) (n2 : h.1 38 1 = 2) (q : ∀ h1, Gx 63 63 h h1 → K (dR (fM h) a) h1) : Bx z0 0 (tx mt (d + 29)) k_X6_duel (fun r h' => ∃ z, r = some (.inl z) ∧ K z h') 5 [some (vR 38), some (vI a), some (vI 0)] [] h := by
  have F0 : 0 ≤ h.1 38 2 := hs.1
  have F60 : h.1 38 2 ≤ 60 := hs.2.1
  have m1 : 1 ≤ h.1 38 4 := hs.2.2.2.2.1
  have m6 : h.1 38 4 ≤ 6 := hs.2.2.2.2.2.1
  have x0 : 0 ≤ h.1 38 5 := hs.2.2.2.2.2.2.1
  have xn : h.1 38 5 < h.1 38 1 ∨ h.1 38 5 = 0 := hs.2.2.2.2.2.2.2
  refine u_X6_duel_5 (tx_mono _ _) (s_X6_layDuel hr he hs n2 (fun h1 G B => ?_))
  have q := q h1 G
  have c1 : h1.1 38 = h.1 38 := G 38 (by decide) (by decide)
  have xx : fM h1 = fM h := G.M (by decide) (by decide)
  rw [dR, show (fM h).1 5 = h.1 38 5 from rfl, show (fM h).1 2 = h.1 38 2 from rfl, show (fM h).1 4 = h.1 38 4 from rfl] at q
  refine ⟨fun c => u_X6_duel_6 (tx_mono _ _) ?_, fun c => ?_⟩
  · rw [if_neg c] at q
    refine ⟨fun c2 => u_X6_duel_7 (tx_mono _ _) ?_, fun c2 => u_X6_duel_8 (tx_mono _ _) (exI ?_)⟩
    · rw [c1] at c2 ⊢
      refine s_X6_bestTake (F := h.1 38 2) (by rw [c1]; exact m1) (by rw [c1]; exact m6) x0 (by omega) (by decide) (by omega) (by omega) F60 (fun k w' t' k1 k6 kl a b c f => by rw [xx]; exact B.fin (by decide) (by omega) k6 kl a b c (by omega)) (u_X6_duel_8 (tx_mono _ _) (exI ?_))
      rw [if_neg c2] at q
      rw [c1, xx]
      exact q
    · rw [c1] at c2
      rw [if_pos (by omega)] at q
      exact q
  · have := B.fin (k := 0) (w' := h.1 38 5) (t' := 0) (by decide) (by decide) (by decide) F0 x0 (by omega) (by decide) (by decide)
    rw [Int.sub_zero] at this
    have xb := ixD_b (l := h.1 38 2) (w := h.1 38 5) (t := 0) F0 F60 x0 (by omega) (by decide) (by decide)
    rw [c1]
    refine s_X6_duelState F0 (by omega) x0 (by omega) (by decide) (by decide) ⟨xb.1, xb.2, u_X6_duel_8 (tx_mono _ _) (exI ?_)⟩
    rw [this]
    rw [if_pos (by omega)] at q
    exact q
theorem duel_rf {a : Int} {d : Nat} {n : Int} {h : AH} (n0 : 0 ≤ n) (n1 : n ≤ 1000) (H : Inv n h) (c : ((a < 0 ∨ 1 < a) ∨ ¬ h.1 1 3 = 2) ∨ h.1 1 0 = 0) : cI (tx mt (d + 30)) n_X5_duel [vR 0, vI a] h (fun z h1 => cI (tx mt (d + 30)) n_X6_duel [vR 38, vI a] h1 (fun z' h2 => z = z' ∧ Inv (n + 1) h2)) := by
  have fa := H.facts
  unfold Facts at fa
  repeat' first
    | first | exact H.m12 | exact H.rf (by decide) (by decide)
    | (with_reducible refine exI ?_)
    | (with_reducible refine exL ?_)
    | (with_reducible refine exV ?_)
    | (with_reducible apply And.intro)
    | (with_reducible refine cI_i (e_X5_duel ?_))
    | (with_reducible refine cL_i (e_X5_duel ?_))
    | (with_reducible refine cV_i (e_X5_duel ?_))
    | (with_reducible refine u_X5_duel_1 (tx_mono _ _) ?_)
    | (with_reducible refine u_X5_duel_2 (tx_mono _ _) ?_)
    | (with_reducible refine u_X5_duel_3 (tx_mono _ _) ?_)
    | (with_reducible refine u_X5_duel_4 (tx_mono _ _) ?_)
    | (with_reducible refine u_X5_duel_5 (tx_mono _ _) ?_)
    | (with_reducible refine cI_i (e_X6_duel ?_))
    | (with_reducible refine cL_i (e_X6_duel ?_))
    | (with_reducible refine cV_i (e_X6_duel ?_))
    | (with_reducible refine u_X6_duel_1 (tx_mono _ _) ?_)
    | (with_reducible refine u_X6_duel_2 (tx_mono _ _) ?_)
    | (with_reducible refine u_X6_duel_3 (tx_mono _ _) ?_)
    | (with_reducible refine u_X6_duel_4 (tx_mono _ _) ?_)
    | (with_reducible refine u_X6_duel_5 (tx_mono _ _) ?_)
    | (with_reducible refine u_X6_duel_6 (tx_mono _ _) ?_)
    | (with_reducible refine u_X6_duel_7 (tx_mono _ _) ?_)
    | (with_reducible refine u_X6_duel_8 (tx_mono _ _) ?_)
    | (with_reducible apply s_X1_duelNumber)
    | (with_reducible apply s_X1_outcomeNow)
    | (with_reducible apply s_X1_playDuel)
    | (with_reducible apply c_X5_refuse)
    | (with_reducible apply s_X6_bestTake)
    | (with_reducible apply s_X6_duelState)
    | (with_reducible apply c_X6_in)
    | (with_reducible apply s_X6_layDuel)
    | (with_reducible apply c_X6_refuse)
    | exact isB1
    | exact True.intro
    | (intro _ e9; subst e9)
    | (intro c9; exfalso; first | omega | (simp only [inI, inL, upI_e, Nat.reduceEqDiff, Nat.reduceAdd, true_and, and_true, false_and, and_false, if_true, if_false, ite_true, ite_false, reduceIte, Int.reduceEq, not_true_eq_false, not_false_eq_true, Decidable.not_not] at c9; omega))
    | (intro c9; (try simp only [inI, inL, upI_e, Nat.reduceEqDiff, Nat.reduceAdd, true_and, and_true, false_and, and_false, if_true, if_false, ite_true, ite_false, reduceIte, Int.reduceEq, not_true_eq_false, not_false_eq_true, Decidable.not_not] at c9))
    | (with_reducible show _ ≤ _; first | omega | (simp only [inI, inL, upI_e, Nat.reduceEqDiff, Nat.reduceAdd, true_and, and_true, false_and, and_false, if_true, if_false, ite_true, ite_false, reduceIte, Int.reduceEq, not_true_eq_false, not_false_eq_true, Decidable.not_not]; omega))
    | (with_reducible show _ < _; first | omega | (simp only [inI, inL, upI_e, Nat.reduceEqDiff, Nat.reduceAdd, true_and, and_true, false_and, and_false, if_true, if_false, ite_true, ite_false, reduceIte, Int.reduceEq, not_true_eq_false, not_false_eq_true, Decidable.not_not]; omega))
    | (with_reducible show _ = _; first | omega | (simp only [inI, inL, upI_e, Nat.reduceEqDiff, Nat.reduceAdd, true_and, and_true, false_and, and_false, if_true, if_false, ite_true, ite_false, reduceIte, Int.reduceEq, not_true_eq_false, not_false_eq_true, Decidable.not_not]; omega))
    | (with_reducible show _ ∧ _; first | omega | (simp only [inI, inL, upI_e, Nat.reduceEqDiff, Nat.reduceAdd, true_and, and_true, false_and, and_false, if_true, if_false, ite_true, ite_false, reduceIte, Int.reduceEq, not_true_eq_false, not_false_eq_true, Decidable.not_not]; omega))
    | (with_reducible show _ ∨ _; first | omega | (simp only [inI, inL, upI_e, Nat.reduceEqDiff, Nat.reduceAdd, true_and, and_true, false_and, and_false, if_true, if_false, ite_true, ite_false, reduceIte, Int.reduceEq, not_true_eq_false, not_false_eq_true, Decidable.not_not]; omega))
    | (with_reducible show inI _; first | omega | (simp only [inI, inL, upI_e, Nat.reduceEqDiff, Nat.reduceAdd, true_and, and_true, false_and, and_false, if_true, if_false, ite_true, ite_false, reduceIte, Int.reduceEq, not_true_eq_false, not_false_eq_true, Decidable.not_not]; omega))
    | (with_reducible show inL _; first | omega | (simp only [inI, inL, upI_e, Nat.reduceEqDiff, Nat.reduceAdd, true_and, and_true, false_and, and_false, if_true, if_false, ite_true, ite_false, reduceIte, Int.reduceEq, not_true_eq_false, not_false_eq_true, Decidable.not_not]; omega))
    | (with_reducible show ¬ _; first | omega | (simp only [inI, inL, upI_e, Nat.reduceEqDiff, Nat.reduceAdd, true_and, and_true, false_and, and_false, if_true, if_false, ite_true, ite_false, reduceIte, Int.reduceEq, not_true_eq_false, not_false_eq_true, Decidable.not_not]; omega))
theorem op_duel {a : Int} : OpI n_X5_duel n_X6_duel [vI a] := by
  intro d n h n0 n1 H
  have fa := H.facts
  unfold Facts at fa
  obtain ⟨oR, oE, oS, oP, oZ, mE, mR, mEa, mS, mZ⟩ := H.ok
  by_cases c : ((a < 0 ∨ 1 < a) ∨ ¬ h.1 1 3 = 2) ∨ h.1 1 0 = 0
  · exact duel_rf n0 n1 H c
  have e4 : h.1 1 3 ≤ 4 := oE.2.1
  have e0 : 0 ≤ h.1 1 3 := oE.1
  have st : Bx z0 0 (tx mt (d + 29)) k_X5_duel (fun r h' => ∃ z, r = some (.inl z) ∧ cI (tx mt (d + 30)) n_X6_duel [vR 38, vI a] h' (fun z' h2 => z = z' ∧ Inv (n + 1) h2)) 3 [some (vR 0), some (vI a)] [] h := by
    refine x_duel (K := fun z h' => cI (tx mt (d + 30)) n_X6_duel [vR 38, vI a] h' (fun z' h2 => z = z' ∧ Inv (n + 1) h2)) oR oE oS (by omega) (fun h1 G1 => ?_)
    refine cI_i (e_X6_duel (fun h2 w2 => ?_))
    have u2 : ∀ c j, c ≠ 34 → h2.1 c j = (upI h 38 12 0).1 c j := by
      intro c j hc
      rw [w2, upI_e, upI_e, G1 c hc hc]
    have u2' : ∀ c, c ≠ 34 → h2.1 c = (upI h 38 12 0).1 c := fun c hc => funext (fun j => u2 c j hc)
    have c0 : h2.1 38 0 = h.1 1 0 := by rw [u2 38 0 (by decide)]; (simp only [inI, inL, upI_e, Nat.reduceEqDiff, Nat.reduceAdd, true_and, and_true, false_and, and_false, if_true, if_false, ite_true, ite_false, reduceIte, Int.reduceEq, not_true_eq_false, not_false_eq_true, Decidable.not_not]); omega
    have c1 : h2.1 38 1 = h.1 1 3 := by rw [u2 38 1 (by decide)]; (simp only [inI, inL, upI_e, Nat.reduceEqDiff, Nat.reduceAdd, true_and, and_true, false_and, and_false, if_true, if_false, ite_true, ite_false, reduceIte, Int.reduceEq, not_true_eq_false, not_false_eq_true, Decidable.not_not]); omega
    have m2 : fM h2 = fX h 1 := by
      rw [← mE]
      exact fM_c (fun c hc => u2' c (by omega)) (fun j _ => u2 38 j (by decide))
    refine c_X6_in (fun _ => ⟨fun _ => u_X6_duel_1 (tx_mono _ _) ⟨fun y => by omega, fun _ => ⟨fun _ => u_X6_duel_3 (tx_mono _ _) (u_X6_duel_4 (tx_mono _ _) ⟨fun _ => ?_, fun y => absurd (by decide) y⟩), fun y => by omega⟩⟩, fun y => absurd (by decide) y⟩) (fun y => by omega)
    refine m_duel (K := fun z' h2 => dR (fX h 1) a = z' ∧ Inv (n + 1) h2) (by rw [m2]; exact oR) (by rw [m2]; exact oE) (by rw [m2]; exact oS) (by omega) (fun h3 G3 => ⟨by rw [m2], H.scr (fun c a _ _ _ _ e => by rw [G3 c e e, u2' c a])⟩)
  exact cI_i (e_X5_duel ⟨fun _ => u_X5_duel_1 (tx_mono _ _) ⟨fun y => by omega, fun _ => ⟨fun _ => st, fun y => by omega⟩⟩, fun _ => ⟨fun _ => u_X5_duel_1 (tx_mono _ _) ⟨fun y => by omega, fun _ => ⟨fun _ => st, fun y => by omega⟩⟩, fun y => by omega⟩⟩)
