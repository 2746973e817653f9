/-! ===== sure: the reference ===== -/
theorem s_X6_stateOf {d : Nat} {l w t : Int} {h : AH} {K : Int → AH → Prop} (l0 : 0 ≤ l) (l1 : l ≤ 100) (w0 : 0 ≤ w) (w4 : w < 4) (t0 : 0 ≤ t) (t61 : t < 61) (q : K (ixS l w t) h) : cI (tx mt (d + 1)) n_X6_stateOf [vI l, vI w, vI t] h K :=
  cI_i (e_X6_stateOf ⟨⟨by omega, by omega⟩, ⟨by omega, by omega⟩, ⟨by omega, by omega⟩, ⟨by omega, by omega⟩, exI q⟩)
theorem ixS_b {l w t : Int} (l0 : 0 ≤ l) (l1 : l ≤ 60) (w0 : 0 ≤ w) (w4 : w < 4) (t0 : 0 ≤ t) (t61 : t < 61) : 0 ≤ ixS l w t ∧ ixS l w t < 14884 := by
  unfold ixS
  omega
theorem s_X6_isSure {d : Nat} {e L w t : Int} {h : AH} {K : Int → AH → Prop} (hr : okR (fM h)) (he : okE (fM h)) (hs : okS (fM h)) (e0 : 0 ≤ e) (e1 : e < h.1 38 1) (L0 : 0 ≤ L) (w0 : 0 ≤ w) (wn : w < h.1 38 1) (t0 : 0 ≤ t) (tF : t + L ≤ h.1 38 2) (B : okTb ixS (tbV (suS (fM h) e)) 100 (h.1 38 1) (h.1 38 2) L w t (h.1 57)) (q : K (tbV (suS (fM h) e) L w t) h) : cI (tx mt (d + 4)) n_X6_isSure [vR 38, vI e, vI L, vI w, vI t] h K := by
  have e4 : h.1 38 1 ≤ 4 := he.2.1
  have F60 : h.1 38 2 ≤ 60 := hs.2.1
  have m1 : 1 ≤ h.1 38 4 := hs.2.2.2.2.1
  have m6 : h.1 38 4 ≤ 6 := hs.2.2.2.2.2.1
  have se := he.2.2 e e0 e1
  have f6 : (fM h).2 6 e = h.1 44 e := rfl
  have b1 : (fM h).1 1 = h.1 38 1 := rfl
  have b4 : (fM h).1 4 = h.1 38 4 := rfl
  rw [tb_eq suS_l L0, suS, b1, b4] at q
  refine cI_i (e_X6_isSure ⟨fun c => u_X6_isSure_1 (tx_mono _ _) ?_, fun c => ?_⟩)
  · rw [if_neg c] at q
    have nb := emod_r (a := w + 1) (b := h.1 38 1) (by omega)
    generalize hf : (fun k => tbV (suS (fM h) e) (L - k) ((w + 1) % h.1 38 1) (if w = e then t + k else t)) = f at q
    have lp : ∀ (m : Nat) (k a5 a6 : Int) (x8 x9 : Option AV), (a5 = 0 ∨ a5 = 1) → (a6 = 0 ∨ a6 = 1) → k + m = min (h.1 38 4) L + 1 → 1 ≤ k → K (if w = e then (if a5 = 0 then srS f 1 m k else 1) else (if a6 = 0 then 0 else srS f 0 m k)) h → Bx z0 0 (tx mt (d+3)) k_X6_isSure (fun r h' => ∃ z, r = some (.inl z) ∧ K z h') 2 [some (vR 38), some (vI e), some (vI L), some (vI w), some (vI t), some (vI a5), some (vI a6), some (vI k), x8, x9] [] h := by
      intro m
      induction m with
      | zero =>
        intro k a5 a6 x8 x9 b5 b6 km k1 q
        rw [srS, srS] at q
        have f10 : Bx z0 0 (tx mt (d+3)) k_X6_isSure (fun r h' => ∃ z, r = some (.inl z) ∧ K z h') 10 [some (vR 38), some (vI e), some (vI L), some (vI w), some (vI t), some (vI a5), some (vI a6), some (vI k), none, none] [] h := by
          refine u_X6_isSure_10 (tx_mono _ _) ⟨fun c => u_X6_isSure_11 (tx_mono _ _) (u_X6_isSure_12 (tx_mono _ _) ⟨b6, exI ?_⟩), fun c => u_X6_isSure_12 (tx_mono _ _) ⟨b5, exI ?_⟩⟩
          · rw [if_neg c] at q
            rcases b6 with rfl | rfl
            · exact q
            · exact q
          · rw [if_pos (by omega)] at q
            rcases b5 with rfl | rfl
            · exact q
            · exact q
        exact u_X6_isSure_2 (tx_mono _ _) ⟨fun _ => f10, fun c => ⟨fun _ => f10, fun c => by omega⟩⟩
      | succ m ih =>
        intro k a5 a6 x8 x9 b5 b6 km k1 q
        rw [srS, srS] at q
        have c4 : ∀ a, a = (if w = e then t + k else t) → Bx z0 0 (tx mt (d+3)) k_X6_isSure (fun r h' => ∃ z, r = some (.inl z) ∧ K z h') 4 [some (vR 38), some (vI e), some (vI L), some (vI w), some (vI t), some (vI a5), some (vI a6), some (vI k), none, none] [vI a] h := by
          intro a ea
          have ab : t ≤ a ∧ a ≤ t + k := by rw [ea]; split <;> omega
          refine u_X6_isSure_4 (tx_mono _ _) ⟨⟨by omega, by omega⟩, ⟨by omega, by omega⟩, by omega, by omega, s_X6_stateOf (by omega) (by omega) nb.1 (by omega) (by omega) (by omega) ?_⟩
          have xb := ixS_b (l := L - k) (w := (w + 1) % h.1 38 1) (t := a) (by omega) (by omega) nb.1 (by omega) (by omega) (by omega)
          rw [B.rd (by decide) k1 (by omega) (by omega) nb.1 nb.2 (by omega) (by omega)]
          have fk : f k = tbV (suS (fM h) e) (L - k) ((w + 1) % h.1 38 1) a := by rw [← hf, ea]
          have v01 := su_01 (b := fM h) (e := e) (l := L - k) (w := (w + 1) % h.1 38 1) (t := a) (by omega)
          rw [← fk] at v01 ⊢
          have nx : ∀ b5 b6 x8 x9, (b5 = 0 ∨ b5 = 1) → (b6 = 0 ∨ b6 = 1) → (b5 = 0 ↔ a5 = 0 ∧ f k = 0) → (b6 = 0 ↔ a6 = 0 ∨ f k = 0) → Bx z0 0 (tx mt (d+3)) k_X6_isSure (fun r h' => ∃ z, r = some (.inl z) ∧ K z h') 9 [some (vR 38), some (vI e), some (vI L), some (vI w), some (vI t), some (vI b5), x8, some (vI k), none, x9] [vI b6] h := by
            intro b5 b6 x8 x9 h5 h6 i5 i6
            refine u_X6_isSure_9 (tx_mono _ _) ⟨⟨by omega, by omega⟩, ih (k + 1) b5 b6 _ _ h5 h6 (by omega) (by omega) (kq q ?_)⟩
            by_cases cw : w = e
            · rw [if_pos cw, if_pos cw]
              by_cases c5 : a5 = 0
              · rw [if_pos c5]
                by_cases cf : f k = 0
                · rw [if_pos (i5.mpr ⟨c5, cf⟩), if_neg (by omega)]
                · rw [if_neg (fun y => cf (i5.mp y).2), if_pos (by omega)]
              · rw [if_neg c5, if_neg (fun y => c5 (i5.mp y).1)]
            · rw [if_neg cw, if_neg cw]
              by_cases c6 : a6 = 0
              · rw [if_pos c6, if_pos (i6.mpr (Or.inl c6))]
              · rw [if_neg c6]
                by_cases cf : f k = 0
                · rw [if_pos cf, if_pos (i6.mpr (Or.inr cf))]
                · rw [if_neg cf, if_neg (fun y => by have := i6.mp y; omega)]
          have n7 : ∀ b5, (b5 = 0 ∨ b5 = 1) → (b5 = 0 ↔ a5 = 0 ∧ f k = 0) → ∀ x, Bx z0 0 (tx mt (d+3)) k_X6_isSure (fun r h' => ∃ z, r = some (.inl z) ∧ K z h') 7 [some (vR 38), some (vI e), some (vI L), some (vI w), some (vI t), x, some (vI a6), some (vI k), none, some (vI ((f k)))] [vI b5] h := by
            intro b5 h5 i5 x
            refine u_X6_isSure_7 (tx_mono _ _) ⟨fun c6 => u_X6_isSure_8 (tx_mono _ _) (nx b5 0 _ _ h5 (Or.inl rfl) i5 ?_), fun c6 => ⟨fun cf => u_X6_isSure_8 (tx_mono _ _) (nx b5 0 _ _ h5 (Or.inl rfl) i5 ?_), fun cf => nx b5 1 _ _ h5 (Or.inr rfl) i5 ?_⟩⟩
            · omega
            · omega
            · omega
          exact ⟨xb.1, xb.2, fun c5 => u_X6_isSure_5 (tx_mono _ _) (n7 1 (Or.inr rfl) (by omega) _), fun c5 => ⟨fun cf => u_X6_isSure_6 (tx_mono _ _) (n7 0 (Or.inl rfl) (by omega) _), fun cf => u_X6_isSure_5 (tx_mono _ _) (n7 1 (Or.inr rfl) (by omega) _)⟩⟩
        exact u_X6_isSure_2 (tx_mono _ _) ⟨fun c => by omega, fun _ => ⟨fun c => by omega, fun _ => ⟨fun c => u_X6_isSure_3 (tx_mono _ _) (c4 t (by rw [if_neg c])), fun c => ⟨⟨by omega, by omega⟩, c4 (t + k) (by rw [if_pos (by omega)])⟩⟩⟩⟩
    refine lp (min (h.1 38 4) L).toNat 1 0 1 _ _ (Or.inl rfl) (Or.inr rfl) (by omega) (by decide) ?_
    by_cases cw : w = e
    · rw [if_pos cw, if_pos rfl]
      rw [if_pos cw] at q
      exact q
    · rw [if_neg cw, if_neg (by decide)]
      rw [if_neg cw] at q
      exact q
  · have c : L = 0 := by omega
    rw [if_pos c, f6] at q
    exact ⟨e0, by omega, ⟨by omega, by omega⟩, s_X6_wouldHave hr he e0 e1 ⟨by omega, by omega⟩ ⟨b2i_01 _, exI q⟩⟩
theorem s_X6_laySure {d : Nat} {e : Int} {h : AH} {K : AH → Prop} (hr : okR (fM h)) (he : okE (fM h)) (hs : okS (fM h)) (e0 : 0 ≤ e) (e1 : e < h.1 38 1) (q : ∀ h1, Gx 57 57 h h1 → okTb ixS (tbV (suS (fM h) e)) 100 (h.1 38 1) (h.1 38 2) (h.1 38 2 + 1) 0 0 (h1.1 57) → K h1) : cV (tx mt (d + 5)) n_X6_laySure [vR 38, vI e] h K := by
  have e4 : h.1 38 1 ≤ 4 := he.2.1
  have F0 : 0 ≤ h.1 38 2 := hs.1
  have F60 : h.1 38 2 ≤ 60 := hs.2.1
  have l1 : ∀ (m : Nat) (L : Int) (h' : AH) (x4 x5 : Option AV), L + m = h.1 38 2 + 1 → 0 ≤ L → Gx 57 57 h h' → okTb ixS (tbV (suS (fM h) e)) 100 (h.1 38 1) (h.1 38 2) L 0 0 (h'.1 57) → Bx z0 0 (tx mt (d+4)) k_X6_laySure (fun r h' => r = none ∧ K h') 1 [some (vR 38), some (vI e), some (vI L), x4, x5] [] h' := by
    intro m
    induction m with
    | zero =>
      intro L h' x4 x5 Lm L0 G B
      have c1 : h'.1 38 = h.1 38 := G 38 (by decide) (by decide)
      rw [show L = h.1 38 2 + 1 by omega] at B
      exact u_X6_laySure_1 (tx_mono _ _) ⟨fun _ => u_X6_laySure_6 (tx_mono _ _) (exV (q h' G B)), fun c => by rw [c1] at c; omega⟩
    | succ m ih =>
      intro L h' x4 x5 Lm L0 G B
      have l2 : ∀ (k : Nat) (w : Int) (h' : AH) (x5 : Option AV), w + k = h.1 38 1 → 0 ≤ w → Gx 57 57 h h' → okTb ixS (tbV (suS (fM h) e)) 100 (h.1 38 1) (h.1 38 2) L w 0 (h'.1 57) → Bx z0 0 (tx mt (d+4)) k_X6_laySure (fun r h' => r = none ∧ K h') 2 [some (vR 38), some (vI e), some (vI L), some (vI w), x5] [] h' := by
        intro k
        induction k with
        | zero =>
          intro w h' x5 wk w0 G B
          have c1 : h'.1 38 = h.1 38 := G 38 (by decide) (by decide)
          exact u_X6_laySure_2 (tx_mono _ _) ⟨fun _ => u_X6_laySure_5 (tx_mono _ _) ⟨⟨by omega, by omega⟩, ih (L + 1) h' _ _ (by omega) (by omega) G (B.nl (by omega))⟩, fun c => by rw [c1] at c; omega⟩
        | succ k ihk =>
          intro w h' x5 wk w0 G B
          have c1 : h'.1 38 = h.1 38 := G 38 (by decide) (by decide)
          have l3 : ∀ (j : Nat) (t : Int) (h' : AH), t + j = h.1 38 2 + 1 - L → 0 ≤ t → Gx 57 57 h h' → okTb ixS (tbV (suS (fM h) e)) 100 (h.1 38 1) (h.1 38 2) L w t (h'.1 57) → Bx z0 0 (tx mt (d+4)) k_X6_laySure (fun r h' => r = none ∧ K h') 3 [some (vR 38), some (vI e), some (vI L), some (vI w), some (vI t)] [] h' := by
            intro j
            induction j with
            | zero =>
              intro t h' tj t0 G B
              have c1 : h'.1 38 = h.1 38 := G 38 (by decide) (by decide)
              refine u_X6_laySure_3 (tx_mono _ _) ?_
              rw [c1]
              exact ⟨⟨by omega, by omega⟩, fun _ => u_X6_laySure_4 (tx_mono _ _) ⟨⟨by omega, by omega⟩, ihk (w + 1) h' _ (by omega) (by omega) G (B.nw w0 (by omega))⟩, fun c => by omega⟩
            | succ j ihj =>
              intro t h' tj t0 G B
              have c1 : h'.1 38 = h.1 38 := G 38 (by decide) (by decide)
              have xx : fM h' = fM h := G.M (by decide) (by decide)
              have xb := ixS_b (l := L) (w := w) (t := t) L0 (by omega) w0 (by omega) t0 (by omega)
              refine u_X6_laySure_3 (tx_mono _ _) ?_
              rw [c1]
              refine ⟨⟨by omega, by omega⟩, fun c => by omega, fun _ => s_X6_stateOf L0 (by omega) w0 (by omega) t0 (by omega) (s_X6_isSure (by rw [xx]; exact hr) (by rw [xx]; exact he) (by rw [xx]; exact hs) e0 (by rw [c1]; exact e1) L0 w0 (by rw [c1]; omega) t0 (by rw [c1]; omega) (by rw [xx, c1]; exact B) ⟨xb.1, xb.2, su_01 L0, fun h7 w7 => ⟨⟨by omega, by omega⟩, ihj (t + 1) h7 (by omega) (by omega) (by rw [w7]; exact G.up (Or.inl rfl) _ _) (B.w (ixS_j e4) (by decide) L0 w0 (by omega) t0 (by omega) F60 (fun i => ?_))⟩⟩)⟩
              rw [w7, upI_e, xx]
              by_cases c : i = ixS L w t
              · rw [if_pos ⟨rfl, c⟩, if_pos c]
              · rw [if_neg (fun y => c y.2), if_neg c]
          exact u_X6_laySure_2 (tx_mono _ _) ⟨fun c => by rw [c1] at c; omega, fun _ => l3 (h.1 38 2 + 1 - L).toNat 0 h' (by omega) (by decide) G B⟩
      have c1 : h'.1 38 = h.1 38 := G 38 (by decide) (by decide)
      exact u_X6_laySure_1 (tx_mono _ _) ⟨fun c => by rw [c1] at c; omega, fun _ => l2 (h.1 38 1).toNat 0 h' _ (by omega) (by decide) G B⟩
  exact cV_i (e_X6_laySure (l1 (h.1 38 2 + 1).toNat 0 h _ _ (by omega) (by decide) Gx.rf okTb.z))
theorem s_X6_sureFirst {d : Nat} {e : Int} {h : AH} {K : Int → AH → Prop} (he : okE (fM h)) (hs : okS (fM h)) (e0 : 0 ≤ e) (e1 : e < h.1 38 1) (B : okTb ixS (tbV (suS (fM h) e)) 100 (h.1 38 1) (h.1 38 2) (h.1 38 2 + 1) 0 0 (h.1 57)) (q : K (suR (fM h) e 1) h) : cI (tx mt (d + 2)) n_X6_sureFirst [vR 38, vI e] h K := by
  have e4 : h.1 38 1 ≤ 4 := he.2.1
  have F0 : 0 ≤ h.1 38 2 := hs.1
  have F60 : h.1 38 2 ≤ 60 := hs.2.1
  have m1 : 1 ≤ h.1 38 4 := hs.2.2.2.2.1
  have m6 : h.1 38 4 ≤ 6 := hs.2.2.2.2.2.1
  have nb := emod_r (a := e + 1) (b := h.1 38 1) (by omega)
  rw [suR, if_neg (by decide), show (fM h).1 5 = h.1 38 5 from rfl, show (fM h).1 2 = h.1 38 2 from rfl, show (fM h).1 4 = h.1 38 4 from rfl, show (fM h).1 1 = h.1 38 1 from rfl] at q
  have lp : ∀ (m : Nat) (k : Int) (x1 : Option AV), h.1 38 5 = e → k + m = min (h.1 38 4) (h.1 38 2) + 1 → 1 ≤ k → K (fsN (fun k => decide (tbV (suS (fM h) e) (h.1 38 2 - k) ((e + 1) % h.1 38 1) k = 1)) m k) h → Bx z0 0 (tx mt (d+1)) k_X6_sureFirst (fun r h' => ∃ z, r = some (.inl z) ∧ K z h') 3 [some (vR 38), x1, some (vI k)] [] h := by
    intro m
    induction m with
    | zero =>
      intro k x1 ne km k1 q
      exact u_X6_sureFirst_3 (tx_mono _ _) ⟨fun _ => u_X6_sureFirst_5 (tx_mono _ _) (exI q), fun c => ⟨fun _ => u_X6_sureFirst_5 (tx_mono _ _) (exI q), fun c => by omega⟩⟩
    | succ m ih =>
      intro k x1 ne km k1 q
      rw [fsN] at q
      have xb := ixS_b (l := h.1 38 2 - k) (w := (e + 1) % h.1 38 1) (t := k) (by omega) (by omega) nb.1 (by omega) (by omega) (by omega)
      refine u_X6_sureFirst_3 (tx_mono _ _) ⟨fun c => by omega, fun _ => ⟨fun c => by omega, fun _ => ?_⟩⟩
      rw [ne]
      refine ⟨⟨by omega, by omega⟩, ⟨by omega, by omega⟩, by omega, by omega, s_X6_stateOf (by omega) (by omega) nb.1 (by omega) (by omega) (by omega) ⟨xb.1, xb.2, ?_⟩⟩
      rw [B.fin (by decide) (by omega) (by omega) (by omega) nb.1 nb.2 (by omega) (Int.le_refl _)]
      have v01 := su_01 (b := fM h) (e := e) (l := h.1 38 2 - k) (w := (e + 1) % h.1 38 1) (t := k) (by omega)
      refine ⟨fun c => u_X6_sureFirst_4 (tx_mono _ _) ⟨⟨by omega, by omega⟩, ih (k + 1) _ ne (by omega) (by omega) ?_⟩, fun c => ?_⟩
      · rw [if_neg (by rw [c]; decide)] at q
        exact q
      · rw [if_pos (by rw [show tbV (suS (fM h) e) (h.1 38 2 - k) ((e + 1) % h.1 38 1) k = 1 by omega]; decide)] at q
        exact exI q
  refine cI_i (e_X6_sureFirst ⟨fun c => u_X6_sureFirst_1 (tx_mono _ _) (exI ?_), fun c => ⟨fun c2 => u_X6_sureFirst_2 (tx_mono _ _) (lp (min (h.1 38 4) (h.1 38 2)).toNat 1 _ (by omega) (by omega) (by decide) ?_), fun c2 => u_X6_sureFirst_1 (tx_mono _ _) (exI ?_)⟩⟩)
  · rw [if_neg c] at q
    exact q
  · rw [if_pos (by omega)] at q
    exact q
  · rw [if_pos (by omega), show min (h.1 38 4) (h.1 38 2) = 0 by omega] at q
    exact q
theorem sure_rf {a b : Int} {d : Nat} {n : Int} {h : AH} (n0 : 0 ≤ n) (n1 : n ≤ 1000) (H : Inv n h) (c : ((a < 0 ∨ h.1 1 3 ≤ a) ∨ (b < 0 ∨ 1 < b)) ∨ h.1 1 0 = 0) : cI (tx mt (d + 30)) n_X5_sure [vR 0, vI a, vI b] h (fun z h1 => cI (tx mt (d + 30)) n_X6_sure [vR 38, vI a, vI b] h1 (fun z' h2 => z = z' ∧ Inv (n + 1) h2)) := by
  have fa := H.facts
  unfold Facts at fa
  repeat' first
    | first | exact H.m12 | exact H.rf (by decide) (by decide)
    | (with_reducible refine exI ?_)
    | (with_reducible refine exL ?_)
    | (with_reducible refine exV ?_)
    | (with_reducible apply And.intro)
    | (with_reducible refine cI_i (e_X5_sure ?_))
    | (with_reducible refine cL_i (e_X5_sure ?_))
    | (with_reducible refine cV_i (e_X5_sure ?_))
    | (with_reducible refine u_X5_sure_1 (tx_mono _ _) ?_)
    | (with_reducible refine u_X5_sure_2 (tx_mono _ _) ?_)
    | (with_reducible refine u_X5_sure_3 (tx_mono _ _) ?_)
    | (with_reducible refine u_X5_sure_4 (tx_mono _ _) ?_)
    | (with_reducible refine u_X5_sure_5 (tx_mono _ _) ?_)
    | (with_reducible refine cI_i (e_X6_sure ?_))
    | (with_reducible refine cL_i (e_X6_sure ?_))
    | (with_reducible refine cV_i (e_X6_sure ?_))
    | (with_reducible refine u_X6_sure_1 (tx_mono _ _) ?_)
    | (with_reducible refine u_X6_sure_2 (tx_mono _ _) ?_)
    | (with_reducible refine u_X6_sure_3 (tx_mono _ _) ?_)
    | (with_reducible refine u_X6_sure_4 (tx_mono _ _) ?_)
    | (with_reducible refine u_X6_sure_5 (tx_mono _ _) ?_)
    | (with_reducible refine u_X6_sure_6 (tx_mono _ _) ?_)
    | (with_reducible refine u_X6_sure_7 (tx_mono _ _) ?_)
    | (with_reducible refine u_X6_sure_8 (tx_mono _ _) ?_)
    | (with_reducible apply c_X0_hasEater)
    | (with_reducible apply s_X1_firstSureNumber)
    | (with_reducible apply s_X1_outcomeNow)
    | (with_reducible apply s_X1_playAgainst)
    | (with_reducible apply c_X5_refuse)
    | (with_reducible apply c_X6_in)
    | (with_reducible apply c_X6_isEater)
    | (with_reducible apply s_X6_laySure)
    | (with_reducible apply c_X6_refuse)
    | (with_reducible apply s_X6_stateOf)
    | (with_reducible apply s_X6_sureFirst)
    | exact isB1
    | exact True.intro
    | (intro _ e9; subst e9)
    | (intro c9; exfalso; first | omega | (simp only [inI, inL, upI_e, Nat.reduceEqDiff, Nat.reduceAdd, true_and, and_true, false_and, and_false, if_true, if_false, ite_true, ite_false, reduceIte, Int.reduceEq, not_true_eq_false, not_false_eq_true, Decidable.not_not] at c9; omega))
    | (intro c9; (try simp only [inI, inL, upI_e, Nat.reduceEqDiff, Nat.reduceAdd, true_and, and_true, false_and, and_false, if_true, if_false, ite_true, ite_false, reduceIte, Int.reduceEq, not_true_eq_false, not_false_eq_true, Decidable.not_not] at c9))
    | (with_reducible show _ ≤ _; first | omega | (simp only [inI, inL, upI_e, Nat.reduceEqDiff, Nat.reduceAdd, true_and, and_true, false_and, and_false, if_true, if_false, ite_true, ite_false, reduceIte, Int.reduceEq, not_true_eq_false, not_false_eq_true, Decidable.not_not]; omega))
    | (with_reducible show _ < _; first | omega | (simp only [inI, inL, upI_e, Nat.reduceEqDiff, Nat.reduceAdd, true_and, and_true, false_and, and_false, if_true, if_false, ite_true, ite_false, reduceIte, Int.reduceEq, not_true_eq_false, not_false_eq_true, Decidable.not_not]; omega))
    | (with_reducible show _ = _; first | omega | (simp only [inI, inL, upI_e, Nat.reduceEqDiff, Nat.reduceAdd, true_and, and_true, false_and, and_false, if_true, if_false, ite_true, ite_false, reduceIte, Int.reduceEq, not_true_eq_false, not_false_eq_true, Decidable.not_not]; omega))
    | (with_reducible show _ ∧ _; first | omega | (simp only [inI, inL, upI_e, Nat.reduceEqDiff, Nat.reduceAdd, true_and, and_true, false_and, and_false, if_true, if_false, ite_true, ite_false, reduceIte, Int.reduceEq, not_true_eq_false, not_false_eq_true, Decidable.not_not]; omega))
    | (with_reducible show _ ∨ _; first | omega | (simp only [inI, inL, upI_e, Nat.reduceEqDiff, Nat.reduceAdd, true_and, and_true, false_and, and_false, if_true, if_false, ite_true, ite_false, reduceIte, Int.reduceEq, not_true_eq_false, not_false_eq_true, Decidable.not_not]; omega))
    | (with_reducible show inI _; first | omega | (simp only [inI, inL, upI_e, Nat.reduceEqDiff, Nat.reduceAdd, true_and, and_true, false_and, and_false, if_true, if_false, ite_true, ite_false, reduceIte, Int.reduceEq, not_true_eq_false, not_false_eq_true, Decidable.not_not]; omega))
    | (with_reducible show inL _; first | omega | (simp only [inI, inL, upI_e, Nat.reduceEqDiff, Nat.reduceAdd, true_and, and_true, false_and, and_false, if_true, if_false, ite_true, ite_false, reduceIte, Int.reduceEq, not_true_eq_false, not_false_eq_true, Decidable.not_not]; omega))
    | (with_reducible show ¬ _; first | omega | (simp only [inI, inL, upI_e, Nat.reduceEqDiff, Nat.reduceAdd, true_and, and_true, false_and, and_false, if_true, if_false, ite_true, ite_false, reduceIte, Int.reduceEq, not_true_eq_false, not_false_eq_true, Decidable.not_not]; omega))
theorem x_sure {d : Nat} {e a : Int} {h : AH} {K : Int → AH → Prop} (hr : okR (fX h 1)) (he : okE (fX h 1)) (hs : okS (fX h 1)) (e0 : 0 ≤ e) (e1 : e < h.1 1 3) (a01 : a = 0 ∨ a = 1) (q : ∀ h1, Gx 34 34 h h1 → K (suR (fX h 1) e a) h1) : Bx z0 0 (tx mt (d + 29)) k_X5_sure (fun r h' => ∃ z, r = some (.inl z) ∧ K z h') 3 [some (vR 0), some (vI e), some (vI a)] [] h := by
  have e4 : h.1 1 3 ≤ 4 := he.2.1
  have F0 : 0 ≤ h.1 1 8 := hs.1
  have F60 : h.1 1 8 ≤ 60 := hs.2.1
  have x0 : 0 ≤ h.1 1 11 := hs.2.2.2.2.2.2.1
  have xn : h.1 1 11 < h.1 1 3 ∨ h.1 1 11 = 0 := hs.2.2.2.2.2.2.2
  refine u_X5_sure_3 (tx_mono _ _) (s_X1_playAgainst hr he hs e0 e1 (fun h1 G B => ?_))
  have q := q h1 G
  have c1 : h1.1 1 = h.1 1 := G 1 (by decide) (by decide)
  have xx : fX h1 1 = fX h 1 := G.X (by decide) (by decide)
  rw [← xx, ← c1] at B
  rw [← xx] at q he hs
  refine ⟨fun c => u_X5_sure_4 (tx_mono _ _) (s_X1_firstSureNumber he hs e0 (by rw [c1]; exact e1) B (u_X5_sure_5 (tx_mono _ _) (exI ?_))), fun c => s_X1_outcomeNow (by rw [c1]; exact F0) (by rw [c1]; exact F60) (by rw [c1]; exact x0) (by rw [c1]; omega) (u_X5_sure_5 (tx_mono _ _) (exI ?_))⟩
  · rw [show a = 1 by omega] at q
    exact q
  · have := B.fin (k := 0) (w' := h1.1 1 11) (t' := 0) (by decide) (by decide) (by decide) (by rw [c1]; exact F0) (by rw [c1]; exact x0) (by rw [c1]; omega) (by decide) (by decide)
    rw [Int.sub_zero] at this
    rw [this]
    rw [suR, if_pos (by omega)] at q
    exact q
theorem m_sure {d : Nat} {e a : Int} {h : AH} {K : Int → AH → Prop} (hr : okR (fM h)) (he : okE (fM h)) (hs : okS (fM h)) (e0 : 0 ≤ e) (e1 : e < h.1 38 1) (a01 : a = 0 ∨ a = 1) (q : ∀ h1, Gx 57 57 h h1 → K (suR (fM h) e a) h1) : Bx z0 0 (tx mt (d + 29)) k_X6_sure (fun r h' => ∃ z, r = some (.inl z) ∧ K z h') 5 [some (vR 38), some (vI e), some (vI a), some (vI 0)] [] h := by
  have e4 : h.1 38 1 ≤ 4 := he.2.1
  have F0 : 0 ≤ h.1 38 2 := hs.1
  have F60 : h.1 38 2 ≤ 60 := hs.2.1
  have x0 : 0 ≤ h.1 38 5 := hs.2.2.2.2.2.2.1
  have xn : h.1 38 5 < h.1 38 1 ∨ h.1 38 5 = 0 := hs.2.2.2.2.2.2.2
  refine u_X6_sure_5 (tx_mono _ _) (s_X6_laySure hr he hs e0 e1 (fun h1 G B => ?_))
  have q := q h1 G
  have c1 : h1.1 38 = h.1 38 := G 38 (by decide) (by decide)
  have xx : fM h1 = fM h := G.M (by decide) (by decide)
  rw [← xx, ← c1] at B
  rw [← xx] at q he hs
  refine ⟨fun c => u_X6_sure_6 (tx_mono _ _) ?_, fun c => s_X6_sureFirst he hs e0 (by rw [c1]; exact e1) B (u_X6_sure_8 (tx_mono _ _) (exI ?_))⟩
  · have := B.fin (k := 0) (w' := h1.1 38 5) (t' := 0) (by decide) (by decide) (by decide) (by rw [c1]; exact F0) (by rw [c1]; exact x0) (by rw [c1]; omega) (by decide) (by decide)
    rw [Int.sub_zero] at this
    rw [suR, if_pos (by omega)] at q
    have q : K (tbV (suS (fM h1) e) (h1.1 38 2) (h1.1 38 5) 0) h1 := q
    have v01 := su_01 (b := fM h1) (e := e) (l := h1.1 38 2) (w := h1.1 38 5) (t := 0) (by rw [c1]; exact F0)
    have xb := ixS_b (l := h1.1 38 2) (w := h1.1 38 5) (t := 0) (by rw [c1]; exact F0) (by rw [c1]; exact F60) (by rw [c1]; exact x0) (by rw [c1]; omega) (by decide) (by decide)
    refine s_X6_stateOf (by rw [c1]; exact F0) (by rw [c1]; omega) (by rw [c1]; exact x0) (by rw [c1]; omega) (by decide) (by decide) ⟨xb.1, xb.2, ?_⟩
    rw [this]
    refine ⟨fun c2 => u_X6_sure_7 (tx_mono _ _) (u_X6_sure_8 (tx_mono _ _) (exI ?_)), fun c2 => u_X6_sure_8 (tx_mono _ _) (exI ?_)⟩
    · rw [c2] at q
      exact q
    · rw [show tbV (suS (fM h1) e) (h1.1 38 2) (h1.1 38 5) 0 = 1 by omega] at q
      exact q
  · rw [show a = 1 by omega] at q
    exact q
theorem op_sure {a b : Int} : OpI n_X5_sure n_X6_sure [vI a, vI b] := by
  intro d n h n0 n1 H
  have fa := H.facts
  unfold Facts at fa
  obtain ⟨oR, oE, oS, oP, oZ, mE, mR, mEa, mS, mZ⟩ := H.ok
  by_cases c : ((a < 0 ∨ h.1 1 3 ≤ a) ∨ (b < 0 ∨ 1 < b)) ∨ h.1 1 0 = 0
  · exact sure_rf n0 n1 H c
  have e4 : h.1 1 3 ≤ 4 := oE.2.1
  have e0 : 0 ≤ h.1 1 3 := oE.1
  refine cI_i (e_X5_sure (c_X0_hasEater isB1 (fun _ => ⟨fun _ => u_X5_sure_1 (tx_mono _ _) ?_, fun y => absurd (by decide) y⟩) (fun _ => by omega)))
  have st : Bx z0 0 (tx mt (d + 29)) k_X5_sure (fun r h' => ∃ z, r = some (.inl z) ∧ cI (tx mt (d + 30)) n_X6_sure [vR 38, vI a, vI b] h' (fun z' h2 => z = z' ∧ Inv (n + 1) h2)) 3 [some (vR 0), some (vI a), some (vI b)] [] h := by
    refine x_sure (K := fun z h' => cI (tx mt (d + 30)) n_X6_sure [vR 38, vI a, vI b] h' (fun z' h2 => z = z' ∧ Inv (n + 1) h2)) oR oE oS (by omega) (by omega) (by omega) (fun h1 G1 => ?_)
    refine cI_i (e_X6_sure (fun h2 w2 => ?_))
    have u2 : ∀ c j, c ≠ 34 → h2.1 c j = (upI h 38 12 0).1 c j := by
      intro c j hc
      rw [w2, upI_e, upI_e, G1 c hc hc]
    have u2' : ∀ c, c ≠ 34 → h2.1 c = (upI h 38 12 0).1 c := fun c hc => funext (fun j => u2 c j hc)
    have c0 : h2.1 38 0 = h.1 1 0 := by rw [u2 38 0 (by decide)]; (simp only [inI, inL, upI_e, Nat.reduceEqDiff, Nat.reduceAdd, true_and, and_true, false_and, and_false, if_true, if_false, ite_true, ite_false, reduceIte, Int.reduceEq, not_true_eq_false, not_false_eq_true, Decidable.not_not]); omega
    have c1 : h2.1 38 1 = h.1 1 3 := by rw [u2 38 1 (by decide)]; (simp only [inI, inL, upI_e, Nat.reduceEqDiff, Nat.reduceAdd, true_and, and_true, false_and, and_false, if_true, if_false, ite_true, ite_false, reduceIte, Int.reduceEq, not_true_eq_false, not_false_eq_true, Decidable.not_not]); omega
    have m2 : fM h2 = fX h 1 := by
      rw [← mE]
      exact fM_c (fun c hc => u2' c (by omega)) (fun j _ => u2 38 j (by decide))
    refine c_X6_isEater (by omega) (fun _ => ⟨fun _ => u_X6_sure_1 (tx_mono _ _) (c_X6_in (fun _ => ⟨fun _ => u_X6_sure_2 (tx_mono _ _) ⟨fun _ => u_X6_sure_3 (tx_mono _ _) (u_X6_sure_4 (tx_mono _ _) ⟨fun _ => ?_, fun y => absurd (by decide) y⟩), fun y => by omega⟩, fun y => absurd (by decide) y⟩) (fun y => by omega)), fun y => absurd (by decide) y⟩) (fun y => by omega)
    refine m_sure (K := fun z' h2 => suR (fX h 1) a b = z' ∧ Inv (n + 1) h2) (by rw [m2]; exact oR) (by rw [m2]; exact oE) (by rw [m2]; exact oS) (by omega) (by omega) (by omega) (fun h3 G3 => ⟨by rw [m2], H.scr (fun c a _ _ e _ _ => by rw [G3 c (by omega) (by omega), u2' c a])⟩)
  exact ⟨fun _ => u_X5_sure_2 (tx_mono _ _) ⟨fun _ => st, fun y => by omega⟩, fun _ => ⟨fun _ => u_X5_sure_2 (tx_mono _ _) ⟨fun _ => st, fun y => by omega⟩, fun y => by omega⟩⟩
