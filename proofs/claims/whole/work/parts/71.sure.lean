/-! ===== tables laid row by row ===== -/
def tbN (st : (Int → Int → Int → Int) → Int → Int → Int → Int) : Nat → Int → Int → Int → Int
  | 0 => fun _ _ _ => 0
  | n + 1 => fun l w t => if l = n then st (tbN st n) l w t else tbN st n l w t
def tbV (st : (Int → Int → Int → Int) → Int → Int → Int → Int) (l w t : Int) : Int := tbN st (l.toNat + 1) l w t
theorem tbN_at {st : (Int → Int → Int → Int) → Int → Int → Int → Int} {l w t : Int} (l0 : 0 ≤ l) : ∀ n : Nat, l < n → tbN st n l w t = tbV st l w t := by
  intro n
  induction n with
  | zero => intro h; omega
  | succ n ih =>
    intro h
    by_cases c : l = n
    · rw [tbV, show l.toNat = n by omega]
    · show (if l = n then st (tbN st n) l w t else tbN st n l w t) = _
      rw [if_neg c]
      exact ih (by omega)
def locS (st : (Int → Int → Int → Int) → Int → Int → Int → Int) : Prop := ∀ (g g' : Int → Int → Int → Int) (l w t : Int), 0 ≤ l → (∀ l' w' t', 0 ≤ l' → l' < l → g l' w' t' = g' l' w' t') → st g l w t = st g' l w t
theorem tb_eq {st : (Int → Int → Int → Int) → Int → Int → Int → Int} (hl : locS st) {l w t : Int} (l0 : 0 ≤ l) : tbV st l w t = st (tbV st) l w t := by
  rw [tbV]
  show (if l = (l.toNat : Int) then st (tbN st l.toNat) l w t else tbN st l.toNat l w t) = _
  rw [if_pos (by omega)]
  exact hl _ _ _ _ _ l0 (fun l' w' t' a b => tbN_at a _ (by omega))
theorem tb_p {st : (Int → Int → Int → Int) → Int → Int → Int → Int} (hl : locS st) {P : Int → Prop} (hp : ∀ (g : Int → Int → Int → Int) (l w t : Int), 0 ≤ l → (∀ l' w' t', 0 ≤ l' → l' < l → P (g l' w' t')) → P (st g l w t)) : ∀ (n : Nat) (l w t : Int), 0 ≤ l → l < n → P (tbV st l w t) := by
  intro n
  induction n with
  | zero => intro l w t l0 h; omega
  | succ n ih =>
    intro l w t l0 h
    rw [tb_eq hl l0]
    exact hp _ _ _ _ l0 (fun l' w' t' a b => ih l' w' t' a (by omega))
def okTb (ix V : Int → Int → Int → Int) (R n F L w t : Int) (c : Int → Int) : Prop := (∀ l w' t', 0 ≤ l → L - R ≤ l → (L - R < l ∨ (w ≤ 0 ∧ t ≤ 0)) → l < L → 0 ≤ w' → w' < n → 0 ≤ t' → t' + l ≤ F → c (ix l w' t') = V l w' t') ∧ (∀ w' t', 0 ≤ w' → w' < n → 0 ≤ t' → t' + L ≤ F → w' < w ∨ (w' = w ∧ t' < t) → c (ix L w' t') = V L w' t')
def ixJ (ix : Int → Int → Int → Int) (R n : Int) : Prop := ∀ l w t l' w' t', 0 ≤ l → 0 ≤ l' → l' - R < l → l ≤ l' → 0 ≤ w → w < n → 0 ≤ w' → w' < n → 0 ≤ t → t < 61 → 0 ≤ t' → t' < 61 → ix l w t = ix l' w' t' → l = l' ∧ w = w' ∧ t = t'
theorem okTb.w {ix V : Int → Int → Int → Int} {R n F L w t : Int} {c c' : Int → Int} (B : okTb ix V R n F L w t c) (hj : ixJ ix R n) (R1 : 1 ≤ R) (L0 : 0 ≤ L) (w0 : 0 ≤ w) (wn : w < n) (t0 : 0 ≤ t) (tF : t + L ≤ F) (F60 : F ≤ 60) (hc : ∀ j, c' j = if j = ix L w t then V L w t else c j) : okTb ix V R n F L w (t + 1) c' := by
  refine ⟨fun l w' t' l0 lR lc lL a b e f => ?_, fun w' t' a b e f g => ?_⟩
  · rw [hc, if_neg (fun y => by have := hj l w' t' L w t l0 L0 (by omega) (by omega) a b w0 wn e (by omega) t0 (by omega) y; omega)]
    exact B.1 l w' t' l0 lR (by omega) lL a b e f
  · rw [hc]
    by_cases y : ix L w' t' = ix L w t
    · have := hj L w' t' L w t L0 L0 (by omega) (by omega) a b w0 wn e (by omega) t0 (by omega) y
      rw [if_pos y, this.2.1, this.2.2]
    · rw [if_neg y]
      refine B.2 w' t' a b e f ?_
      by_cases z : w' = w ∧ t' = t
      · exact absurd (by rw [z.1, z.2]) y
      · omega
theorem okTb.nw {ix V : Int → Int → Int → Int} {R n F L w t : Int} {c : Int → Int} (B : okTb ix V R n F L w t c) (w0 : 0 ≤ w) (h : F < t + L) : okTb ix V R n F L (w + 1) 0 c :=
  ⟨fun l w' t' l0 lR lc lL a b e f => B.1 l w' t' l0 lR (by omega) lL a b e f, fun w' t' a b e f g => B.2 w' t' a b e f (by omega)⟩
theorem okTb.nl {ix V : Int → Int → Int → Int} {R n F L w t : Int} {c : Int → Int} (B : okTb ix V R n F L w t c) (h : n ≤ w) : okTb ix V R n F (L + 1) 0 0 c := by
  refine ⟨fun l w' t' l0 lR lc lL a b e f => ?_, fun w' t' a b e f g => by omega⟩
  by_cases y : l = L
  · rw [y] at f ⊢
    exact B.2 w' t' a b e f (by omega)
  · exact B.1 l w' t' l0 (by omega) (by omega) (by omega) a b e f
theorem okTb.rd {ix V : Int → Int → Int → Int} {R n F L w t k w' t' : Int} {c : Int → Int} (B : okTb ix V R n F L w t c) (hR : 7 ≤ R) (k1 : 1 ≤ k) (k6 : k ≤ 6) (kL : k ≤ L) (a : 0 ≤ w') (b : w' < n) (e : 0 ≤ t') (f : t' + (L - k) ≤ F) : c (ix (L - k) w' t') = V (L - k) w' t' := B.1 _ _ _ (by omega) (by omega) (by omega) (by omega) a b e f
theorem okTb.fin {ix V : Int → Int → Int → Int} {R n F k w' t' : Int} {c : Int → Int} (B : okTb ix V R n F (F + 1) 0 0 c) (hR : 7 ≤ R) (k1 : 0 ≤ k) (k6 : k ≤ 6) (kL : k ≤ F) (a : 0 ≤ w') (b : w' < n) (e : 0 ≤ t') (f : t' ≤ k) : c (ix (F - k) w' t') = V (F - k) w' t' := B.1 _ _ _ (by omega) (by omega) (by omega) (by omega) a b e (by omega)
theorem okTb.z {ix V : Int → Int → Int → Int} {R n F : Int} {c : Int → Int} : okTb ix V R n F 0 0 0 c := ⟨fun l w' t' l0 lR lc lL a b e f => by omega, fun w' t' a b e f g => by omega⟩
def ixX (l w t : Int) : Int := (l % 7 * 4 + w) * 61 + t
def ixS (l w t : Int) : Int := (4 * l + w) * 61 + t
def ixD (l w t : Int) : Int := (2 * l + w) * 61 + t
theorem ixX_j {n : Int} (n4 : n ≤ 4) : ixJ ixX 7 n := by
  intro l w t l' w' t' a b c e f g i j k m o p q
  unfold ixX at q
  have h1 : l % 7 * 4 + w = l' % 7 * 4 + w' ∧ t = t' := by omega
  have h2 : l % 7 = l' % 7 ∧ w = w' := by omega
  exact ⟨by omega, h2.2, h1.2⟩
theorem ixS_j {n : Int} (n4 : n ≤ 4) : ixJ ixS 100 n := by
  intro l w t l' w' t' a b c e f g i j k m o p q
  unfold ixS at q
  have h1 : 4 * l + w = 4 * l' + w' ∧ t = t' := by omega
  exact ⟨by omega, by omega, h1.2⟩
theorem ixD_j : ixJ ixD 100 2 := by
  intro l w t l' w' t' a b c e f g i j k m o p q
  unfold ixD at q
  have h1 : 2 * l + w = 2 * l' + w' ∧ t = t' := by omega
  exact ⟨by omega, by omega, h1.2⟩
theorem ixX_b {l w t : Int} (w0 : 0 ≤ w) (w4 : w < 4) (t0 : 0 ≤ t) (t61 : t < 61) : 0 ≤ ixX l w t ∧ ixX l w t < 1708 := by
  unfold ixX
  omega
/-! ===== sure: the component ===== -/
def srS (f : Int → Int) (s : Int) : Nat → Int → Int
  | 0, _ => 1 - s
  | m + 1, k => if f k = s then s else srS f s m (k + 1)
theorem srS_c {f f' : Int → Int} {s : Int} : ∀ (m : Nat) (k : Int), (∀ i, k ≤ i → i < k + m → f i = f' i) → srS f s m k = srS f' s m k := by
  intro m
  induction m with
  | zero => intro k _; rfl
  | succ m ih =>
    intro k h
    rw [srS, srS, h k (by omega) (by omega), ih (k + 1) (fun i a b => h i (by omega) (by omega))]
theorem srS_01 {f : Int → Int} {s : Int} (hs : s = 0 ∨ s = 1) : ∀ (m : Nat) (k : Int), srS f s m k = 0 ∨ srS f s m k = 1 := by
  intro m
  induction m with
  | zero => intro k; rw [srS]; omega
  | succ m ih =>
    intro k
    rw [srS]
    have := ih (k + 1)
    split <;> omega
def suS (b : BD) (e : Int) (g : Int → Int → Int → Int) (l w t : Int) : Int := if l = 0 then b2i (pl b e (b.2 6 e + t)) else srS (fun k => g (l - k) ((w + 1) % b.1 1) (if w = e then t + k else t)) (if w = e then 1 else 0) (min (b.1 4) l).toNat 1
theorem suS_l {b : BD} {e : Int} : locS (suS b e) := by
  intro g g' l w t l0 h
  unfold suS
  by_cases c : l = 0
  · rw [if_pos c, if_pos c]
  · rw [if_neg c, if_neg c]
    exact srS_c _ _ (fun i a b => h _ _ _ (by omega) (by omega))
theorem su_01 {b : BD} {e l w t : Int} (l0 : 0 ≤ l) : tbV (suS b e) l w t = 0 ∨ tbV (suS b e) l w t = 1 := by
  rw [tb_eq suS_l l0, suS]
  split
  · exact b2i_01 _
  · refine srS_01 ?_ _ _
    split <;> omega
theorem s_X1_slot {d : Nat} {l w t : Int} {h : AH} {K : Int → AH → Prop} (l0 : 0 ≤ l) (l1 : l ≤ 100) (w0 : 0 ≤ w) (w4 : w < 4) (t0 : 0 ≤ t) (t61 : t < 61) (q : K (ixX l w t) h) : cI (tx mt (d + 1)) n_X1_slot [vR 33, vI l, vI w, vI t] h K := by
  exact cI_i (e_X1_slot ⟨fun _ => by omega, fun _ => ⟨fun _ => by omega, fun _ => ⟨fun _ => by omega, fun _ => ⟨fun _ => by omega, fun _ => ⟨fun _ => u_X1_slot_2 (tx_mono _ _) ⟨l0, by decide, ⟨by omega, by omega⟩, ⟨by omega, by omega⟩, ⟨by omega, by omega⟩, ⟨by omega, by omega⟩, exI q⟩, fun _ => by omega⟩⟩⟩⟩⟩)
theorem s_X1_behindOne {d : Nat} {w : Int} {h : AH} {K : Int → AH → Prop} (n1 : 1 ≤ h.1 1 3) (w0 : 0 ≤ w) (w4 : w < 4) (q : K ((w + 1) % h.1 1 3) h) : cI (tx mt (d + 1)) n_X1_behindOne [vR 1, vI w] h K :=
  cI_i (e_X1_behindOne isB1 ⟨fun _ => u_X1_behindOne_1 (tx_mono _ _) isB1 ⟨⟨by omega, by omega⟩, by omega, by omega, u_X1_behindOne_2 (tx_mono _ _) (exI q)⟩, fun _ => by omega⟩)
theorem s_X1_sureOutcome {d : Nat} {e L w t : Int} {h : AH} {K : Int → AH → Prop} (hr : okR (fX h 1)) (he : okE (fX h 1)) (hs : okS (fX h 1)) (e0 : 0 ≤ e) (e1 : e < h.1 1 3) (L0 : 0 ≤ L) (w0 : 0 ≤ w) (wn : w < h.1 1 3) (t0 : 0 ≤ t) (tF : t + L ≤ h.1 1 8) (B : okTb ixX (tbV (suS (fX h 1) e)) 7 (h.1 1 3) (h.1 1 8) L w t (h.1 34)) (q : K (tbV (suS (fX h 1) e) L w t) h) : cI (tx mt (d + 4)) n_X1_sureOutcome [vR 33, vR 1, vI e, vI L, vI w, vI t] h K := by
  have e4 : h.1 1 3 ≤ 4 := he.2.1
  have F60 : h.1 1 8 ≤ 60 := hs.2.1
  have m1 : 1 ≤ h.1 1 10 := hs.2.2.2.2.1
  have m6 : h.1 1 10 ≤ 6 := hs.2.2.2.2.2.1
  have se := he.2.2 e e0 e1
  have f6 : (fX h 1).2 6 e = h.1 7 e := rfl
  have b1 : (fX h 1).1 1 = h.1 1 3 := rfl
  have b4 : (fX h 1).1 4 = h.1 1 10 := rfl
  rw [tb_eq suS_l L0, suS, b1, b4] at q
  refine cI_i (e_X1_sureOutcome isB1 (c_X0_hasEater isB1 (fun _ => ⟨fun _ => u_X1_sureOutcome_1 (tx_mono _ _) isB1 ⟨fun c => ?_, fun c => ?_⟩, fun y => absurd (by decide) y⟩) (fun _ => by omega)))
  · rw [if_neg c] at q
    have lp : ∀ (s : Int) (m : Nat) (k : Int) (x1 x10 : Option AV), s = (if w = e then 1 else 0) → k + m = min (h.1 1 10) L + 1 → 1 ≤ k → K (srS (fun k => tbV (suS (fX h 1) e) (L - k) ((w + 1) % h.1 1 3) (if w = e then t + k else t)) s m k) h → Bx z0 0 (tx mt (d+3)) k_X1_sureOutcome (fun r h' => ∃ z, r = some (.inl z) ∧ K z h') 7 [some (vR 33), x1, some (vI e), some (vI L), some (vI w), some (vI t), some (vI s), some (vI (((w + 1) % h.1 1 3))), some (vI ((min (h.1 1 10) L))), some (vI k), x10] [] h := by
      intro s m
      have s01 : s = (if w = e then 1 else 0) → 0 ≤ s ∧ s ≤ 1 := fun y => by rw [y]; split <;> omega
      have nb := emod_r (a := w + 1) (b := h.1 1 3) (by omega)
      induction m with
      | zero =>
        intro k x1 x10 es km k1 q
        have s01 := s01 es
        exact u_X1_sureOutcome_7 (tx_mono _ _) ⟨fun _ => u_X1_sureOutcome_11 (tx_mono _ _) ⟨⟨by omega, by omega⟩, exI q⟩, fun c => by omega⟩
      | succ m ih =>
        intro k x1 x10 es km k1 q
        have s01 := s01 es
        rw [srS] at q
        have c9 : ∀ a, a = (if w = e then t + k else t) → ∀ x1 x10, Bx z0 0 (tx mt (d+3)) k_X1_sureOutcome (fun r h' => ∃ z, r = some (.inl z) ∧ K z h') 9 [some (vR 33), x1, some (vI e), some (vI L), some (vI w), some (vI t), some (vI s), some (vI (((w + 1) % h.1 1 3))), some (vI ((min (h.1 1 10) L))), some (vI k), x10] [vI a] h := by
          intro a ea x1 x10
          have ab : t ≤ a ∧ a ≤ t + k := by rw [ea]; split <;> omega
          refine u_X1_sureOutcome_9 (tx_mono _ _) ⟨⟨by omega, by omega⟩, s_X1_slot (by omega) (by omega) nb.1 (by omega) (by omega) (by omega) ?_⟩
          have xb := ixX_b (l := L - k) (w := (w + 1) % h.1 1 3) (t := a) nb.1 (by omega) (by omega) (by omega)
          rw [B.rd (by decide) k1 (by omega) (by omega) nb.1 nb.2 (by omega) (by omega)]
          rw [← ea] at q
          refine ⟨xb.1, xb.2, fun c => u_X1_sureOutcome_10 (tx_mono _ _) ⟨⟨by omega, by omega⟩, ih (k + 1) _ _ es (by omega) (by omega) ?_⟩, fun c => ?_⟩
          · rw [if_neg c] at q
            exact q
          · rw [if_pos (by omega)] at q
            exact exI q
        refine u_X1_sureOutcome_7 (tx_mono _ _) ⟨fun c => by omega, fun _ => ⟨fun c => u_X1_sureOutcome_8 (tx_mono _ _) (c9 t (by rw [if_neg c]) _ _), fun c => ⟨⟨by omega, by omega⟩, c9 (t + k) (by rw [if_pos (by omega)]) _ _⟩⟩⟩
    refine u_X1_sureOutcome_4 (tx_mono _ _) isB1 ⟨fun c => u_X1_sureOutcome_5 (tx_mono _ _) isB1 (u_X1_sureOutcome_6 (tx_mono _ _) isB1 (s_X1_behindOne (by omega) w0 (by omega) (lp 0 (min (h.1 1 10) L).toNat 1 _ _ (by rw [if_neg c]) (by omega) (by decide) ?_))), fun c => u_X1_sureOutcome_6 (tx_mono _ _) isB1 (s_X1_behindOne (by omega) w0 (by omega) (lp 1 (min (h.1 1 10) L).toNat 1 _ _ (by rw [if_pos (by omega)]) (by omega) (by decide) ?_))⟩
    · rw [if_neg c] at q
      exact q
    · have c : w = e := by omega
      rw [if_pos c] at q
      exact q
  · have c : L = 0 := by omega
    rw [if_pos c, f6] at q
    refine ⟨e0, by omega, ?_⟩
    simp only [Nat.reduceAdd]
    refine ⟨⟨by omega, by omega⟩, s_X0_pleases isB1 hr he (by omega) ⟨fun c2 => u_X1_sureOutcome_2 (tx_mono _ _) (u_X1_sureOutcome_3 (tx_mono _ _) (exI ?_)), fun c2 => u_X1_sureOutcome_3 (tx_mono _ _) (exI ?_)⟩⟩
    · rw [c2] at q
      exact q
    · rw [show b2i (pl (fX h 1) e (h.1 7 e + t)) = 1 by have := b2i_01 (pl (fX h 1) e (h.1 7 e + t)); omega] at q
      exact q
theorem s_X1_playAgainst {d : Nat} {e : Int} {h : AH} {K : AH → Prop} (hr : okR (fX h 1)) (he : okE (fX h 1)) (hs : okS (fX h 1)) (e0 : 0 ≤ e) (e1 : e < h.1 1 3) (q : ∀ h1, Gx 34 34 h h1 → okTb ixX (tbV (suS (fX h 1) e)) 7 (h.1 1 3) (h.1 1 8) (h.1 1 8 + 1) 0 0 (h1.1 34) → K h1) : cV (tx mt (d + 5)) n_X1_playAgainst [vR 33, vR 1, vI e] h K := by
  have e4 : h.1 1 3 ≤ 4 := he.2.1
  have F0 : 0 ≤ h.1 1 8 := hs.1
  have F60 : h.1 1 8 ≤ 60 := hs.2.1
  have l1 : ∀ (m : Nat) (L : Int) (h' : AH) (x4 x5 : Option AV), L + m = h.1 1 8 + 1 → 0 ≤ L → Gx 34 34 h h' → okTb ixX (tbV (suS (fX h 1) e)) 7 (h.1 1 3) (h.1 1 8) L 0 0 (h'.1 34) → Bx z0 0 (tx mt (d+4)) k_X1_playAgainst (fun r h' => r = none ∧ K h') 1 [some (vR 33), some (vR 1), some (vI e), some (vI L), x4, x5] [] h' := by
    intro m
    induction m with
    | zero =>
      intro L h' x4 x5 Lm L0 G B
      have c1 : h'.1 1 = h.1 1 := G 1 (by decide) (by decide)
      rw [show L = h.1 1 8 + 1 by omega] at B
      exact u_X1_playAgainst_1 (tx_mono _ _) isB1 ⟨fun _ => u_X1_playAgainst_6 (tx_mono _ _) (exV (q h' G B)), fun c => by rw [c1] at c; omega⟩
    | succ m ih =>
      intro L h' x4 x5 Lm L0 G B
      have l2 : ∀ (k : Nat) (w : Int) (h' : AH) (x5 : Option AV), w + k = h.1 1 3 → 0 ≤ w → Gx 34 34 h h' → okTb ixX (tbV (suS (fX h 1) e)) 7 (h.1 1 3) (h.1 1 8) L w 0 (h'.1 34) → Bx z0 0 (tx mt (d+4)) k_X1_playAgainst (fun r h' => r = none ∧ K h') 2 [some (vR 33), some (vR 1), some (vI e), some (vI L), some (vI w), x5] [] h' := by
        intro k
        induction k with
        | zero =>
          intro w h' x5 wk w0 G B
          have c1 : h'.1 1 = h.1 1 := G 1 (by decide) (by decide)
          exact u_X1_playAgainst_2 (tx_mono _ _) isB1 ⟨fun _ => u_X1_playAgainst_5 (tx_mono _ _) isB1 ⟨⟨by omega, by omega⟩, ih (L + 1) h' _ _ (by omega) (by omega) G (B.nl (by omega))⟩, fun c => by rw [c1] at c; omega⟩
        | succ k ihk =>
          intro w h' x5 wk w0 G B
          have c1 : h'.1 1 = h.1 1 := G 1 (by decide) (by decide)
          have l3 : ∀ (j : Nat) (t : Int) (h' : AH), t + j = h.1 1 8 + 1 - L → 0 ≤ t → Gx 34 34 h h' → okTb ixX (tbV (suS (fX h 1) e)) 7 (h.1 1 3) (h.1 1 8) L w t (h'.1 34) → Bx z0 0 (tx mt (d+4)) k_X1_playAgainst (fun r h' => r = none ∧ K h') 3 [some (vR 33), some (vR 1), some (vI e), some (vI L), some (vI w), some (vI t)] [] h' := by
            intro j
            induction j with
            | zero =>
              intro t h' tj t0 G B
              have c1 : h'.1 1 = h.1 1 := G 1 (by decide) (by decide)
              exact u_X1_playAgainst_3 (tx_mono _ _) isB1 ⟨⟨by omega, by omega⟩, fun _ => u_X1_playAgainst_4 (tx_mono _ _) isB1 ⟨⟨by omega, by omega⟩, ihk (w + 1) h' _ (by omega) (by omega) G (B.nw w0 (by omega))⟩, fun c => by rw [c1] at c; omega⟩
            | succ j ihj =>
              intro t h' tj t0 G B
              have c1 : h'.1 1 = h.1 1 := G 1 (by decide) (by decide)
              have xx : fX h' 1 = fX h 1 := G.X (by decide) (by decide)
              have xb := ixX_b (l := L) (w := w) (t := t) w0 (by omega) t0 (by omega)
              refine u_X1_playAgainst_3 (tx_mono _ _) isB1 ⟨⟨by omega, by omega⟩, fun c => by rw [c1] at c; omega, fun _ => s_X1_slot L0 (by omega) w0 (by omega) t0 (by omega) (s_X1_sureOutcome (by rw [xx]; exact hr) (by rw [xx]; exact he) (by rw [xx]; exact hs) e0 (by rw [c1]; exact e1) L0 w0 (by rw [c1]; omega) t0 (by rw [c1]; omega) (by rw [xx, c1]; exact B) ⟨xb.1, xb.2, fun h7 w7 => ⟨⟨by omega, by omega⟩, ihj (t + 1) h7 (by omega) (by omega) (by rw [w7]; exact G.up (Or.inl rfl) _ _) (B.w (ixX_j e4) (by decide) L0 w0 (by omega) t0 (by omega) F60 (fun i => ?_))⟩⟩)⟩
              rw [w7, upI_e, xx]
              by_cases c : i = ixX L w t
              · rw [if_pos ⟨rfl, c⟩, if_pos c]
              · rw [if_neg (fun y => c y.2), if_neg c]
          exact u_X1_playAgainst_2 (tx_mono _ _) isB1 ⟨fun c => by rw [c1] at c; omega, fun _ => l3 (h.1 1 8 + 1 - L).toNat 0 h' (by omega) (by decide) G B⟩
      have c1 : h'.1 1 = h.1 1 := G 1 (by decide) (by decide)
      exact u_X1_playAgainst_1 (tx_mono _ _) isB1 ⟨fun c => by rw [c1] at c; omega, fun _ => l2 (h.1 1 3).toNat 0 h' _ (by omega) (by decide) G B⟩
  exact cV_i (e_X1_playAgainst isB1 (l1 (h.1 1 8 + 1).toNat 0 h _ _ (by omega) (by decide) Gx.rf okTb.z))
theorem s_X1_outcomeNow {d : Nat} {h : AH} {K : Int → AH → Prop} (F0 : 0 ≤ h.1 1 8) (F60 : h.1 1 8 ≤ 60) (w0 : 0 ≤ h.1 1 11) (w4 : h.1 1 11 < 4) (q : K (h.1 34 (ixX (h.1 1 8) (h.1 1 11) 0)) h) : cI (tx mt (d + 2)) n_X1_outcomeNow [vR 33, vR 1] h K := by
  have xb := ixX_b (l := h.1 1 8) (w := h.1 1 11) (t := 0) w0 w4 (by decide) (by decide)
  exact cI_i (e_X1_outcomeNow isB1 (s_X1_slot F0 (by omega) w0 w4 (by decide) (by decide) ⟨xb.1, xb.2, exI q⟩))
def suR (b : BD) (e a : Int) : Int := if a = 0 then tbV (suS b e) (b.1 2) (b.1 5) 0 else if b.1 5 = e then fsN (fun k => decide (tbV (suS b e) (b.1 2 - k) ((e + 1) % b.1 1) k = 1)) (min (b.1 4) (b.1 2)).toNat 1 else -9
theorem s_X1_firstSureNumber {d : Nat} {e : Int} {h : AH} {K : Int → AH → Prop} (he : okE (fX h 1)) (hs : okS (fX h 1)) (e0 : 0 ≤ e) (e1 : e < h.1 1 3) (B : okTb ixX (tbV (suS (fX h 1) e)) 7 (h.1 1 3) (h.1 1 8) (h.1 1 8 + 1) 0 0 (h.1 34)) (q : K (suR (fX h 1) e 1) h) : cI (tx mt (d + 2)) n_X1_firstSureNumber [vR 33, vR 1, vI e] h K := by
  have e4 : h.1 1 3 ≤ 4 := he.2.1
  have F0 : 0 ≤ h.1 1 8 := hs.1
  have F60 : h.1 1 8 ≤ 60 := hs.2.1
  have m1 : 1 ≤ h.1 1 10 := hs.2.2.2.2.1
  have m6 : h.1 1 10 ≤ 6 := hs.2.2.2.2.2.1
  have nb := emod_r (a := e + 1) (b := h.1 1 3) (by omega)
  rw [suR, if_neg (by decide), show (fX h 1).1 5 = h.1 1 11 from rfl, show (fX h 1).1 2 = h.1 1 8 from rfl, show (fX h 1).1 4 = h.1 1 10 from rfl, show (fX h 1).1 1 = h.1 1 3 from rfl] at q
  have lp : ∀ (m : Nat) (k : Int) (x2 : Option AV), k + m = min (h.1 1 10) (h.1 1 8) + 1 → 1 ≤ k → K (fsN (fun k => decide (tbV (suS (fX h 1) e) (h.1 1 8 - k) ((e + 1) % h.1 1 3) k = 1)) m k) h → Bx z0 0 (tx mt (d+1)) k_X1_firstSureNumber (fun r h' => ∃ z, r = some (.inl z) ∧ K z h') 2 [some (vR 33), some (vR 1), x2, some (vI (((e + 1) % h.1 1 3))), some (vI ((min (h.1 1 10) (h.1 1 8)))), some (vI k)] [] h := by
    intro m
    induction m with
    | zero =>
      intro k x2 km k1 q
      exact u_X1_firstSureNumber_2 (tx_mono _ _) isB1 ⟨fun _ => u_X1_firstSureNumber_4 (tx_mono _ _) (exI q), fun c => by omega⟩
    | succ m ih =>
      intro k x2 km k1 q
      rw [fsN] at q
      have xb := ixX_b (l := h.1 1 8 - k) (w := (e + 1) % h.1 1 3) (t := k) nb.1 (by omega) (by omega) (by omega)
      refine u_X1_firstSureNumber_2 (tx_mono _ _) isB1 ⟨fun c => by omega, fun _ => ⟨⟨by omega, by omega⟩, s_X1_slot (by omega) (by omega) nb.1 (by omega) (by omega) (by omega) ⟨xb.1, xb.2, ?_⟩⟩⟩
      rw [B.fin (by decide) (by omega) (by omega) (by omega) nb.1 nb.2 (by omega) (Int.le_refl _)]
      refine ⟨fun c => u_X1_firstSureNumber_3 (tx_mono _ _) isB1 ⟨⟨by omega, by omega⟩, ih (k + 1) _ (by omega) (by omega) ?_⟩, fun c => ?_⟩
      · rw [if_neg (by simpa using c)] at q
        exact q
      · rw [if_pos (by simpa using c)] at q
        exact exI q
  refine cI_i (e_X1_firstSureNumber isB1 ⟨fun c => u_X1_firstSureNumber_1 (tx_mono _ _) isB1 (s_X1_behindOne (by omega) e0 (by omega) (lp (min (h.1 1 10) (h.1 1 8)).toNat 1 _ (by omega) (by decide) ?_)), fun c => ?_⟩)
  · rw [if_pos c] at q
    exact q
  · rw [if_neg c] at q
    exact exI q
