/-! ===== wins: the component's nim, the reference's table ===== -/
def xoN (mo : Int) (f : Int → Int) : Nat → Nat
  | 0 => 0
  | n + 1 => Nat.xor (xoN mo f n) (rr mo (f n))
def smN (mo : Int) (f : Int → Int) : Nat → Bool
  | 0 => true
  | n + 1 => smN mo f n && Nat.ble (rr mo (f n)) 1
theorem loH_v {mo : Int} {ll : Bool} {f : Int → Int} : loH mo ll f = decide (((xoN mo f 4 : Nat) : Int) = ((cond (ll && smN mo f 4) 1 0 : Nat) : Int)) := by
  have e : loH mo ll f = Nat.beq (xoN mo f 4) (cond (ll && smN mo f 4) 1 0) := rfl
  rw [e]
  generalize xoN mo f 4 = A
  generalize (cond (ll && smN mo f 4) 1 0 : Nat) = B
  by_cases c : A = B
  · rw [c, decide_eq_true rfl]
    exact Nat.beq_refl B
  · rw [decide_eq_false (by omega)]
    cases h : Nat.beq A B with
    | false => rfl
    | true => exact absurd (Nat.eq_of_beq_eq_true h) c
theorem loH_c {mo : Int} {ll : Bool} {f g : Int → Int} (h : ∀ i, 0 ≤ i → i < 4 → f i = g i) : loH mo ll f = loH mo ll g := by
  rw [loH, loH, h 0 (by decide) (by decide), h 1 (by decide) (by decide), h 2 (by decide) (by decide), h 3 (by decide) (by decide)]
theorem xo_z {mo : Int} {f : Int → Int} (n : Nat) (hz : f n = 0) : xoN mo f (n + 1) = xoN mo f n ∧ smN mo f (n + 1) = smN mo f n := by
  have z : rr mo 0 = 0 := by rw [rr, Int.zero_emod]; rfl
  rw [xoN, smN, hz, z]
  exact ⟨Nat.xor_zero _, Bool.and_true _⟩
theorem xo_4 {mo : Int} {f : Int → Int} {n : Nat} (n4 : n ≤ 4) (hz : ∀ i : Int, n ≤ i → i < 4 → f i = 0) : xoN mo f 4 = xoN mo f n ∧ smN mo f 4 = smN mo f n := by
  have st : ∀ k : Nat, n ≤ k → k < 4 → xoN mo f (k + 1) = xoN mo f k ∧ smN mo f (k + 1) = smN mo f k := fun k a b => xo_z k (hz k (by omega) (by omega))
  rcases (show n = 0 ∨ n = 1 ∨ n = 2 ∨ n = 3 ∨ n = 4 by omega) with rfl | rfl | rfl | rfl | rfl
  · have := st 0; have := st 1; have := st 2; have := st 3; simp_all
  · have := st 1; have := st 2; have := st 3; simp_all
  · have := st 2; have := st 3; simp_all
  · have := st 3; simp_all
  · exact ⟨rfl, rfl⟩
theorem s_X1_moverLoses {d : Nat} {p t : Int} {ll : Bool} {f : Int → Int} {h : AH} {K : Int → AH → Prop} (hs : okS (fX h 1)) (hp : okP (fX h 1)) (hf : ∀ i, 0 ≤ i → i < 4 → f i = h.1 8 i - (if i = p then t else 0)) (hb : ∀ i, 0 ≤ i → i < 4 → 0 ≤ f i ∧ f i ≤ 12) (hz : ∀ i, h.1 1 12 ≤ i → i < 4 → f i = 0) (q : K (b2i (loH (h.1 1 10) ll f)) h) : cI (tx mt (d + 2)) n_X1_moverLoses [vR 1, vI p, vI t, vI (b2i ll)] h K := by
  have m1 : 1 ≤ h.1 1 10 := hs.2.2.2.2.1
  have m6 : h.1 1 10 ≤ 6 := hs.2.2.2.2.2.1
  have p0 : 0 ≤ h.1 1 12 := hp.1
  have p4 : h.1 1 12 ≤ 4 := hp.2.1
  have key : ∀ (m i : Nat) (x7 x8 : Option AV), i + m = (h.1 1 12).toNat → Bx z0 0 (tx mt (d + 1)) k_X1_moverLoses (fun r h' => ∃ z, r = some (.inl z) ∧ K z h') 1 [some (vR 1), some (vI p), some (vI t), some (vI ((b2i ll))), some (vI (((xoN (h.1 1 10) f i : Nat) : Int))), some (vI ((b2i (smN (h.1 1 10) f i)))), some (vI ((i : Int))), x7, x8] [] h := by
    intro m
    induction m with
    | zero =>
      intro i x7 x8 im
      have x4 := xo_4 (mo := h.1 1 10) (f := f) (n := i) (by omega) (fun j a b => hz j (by omega) b)
      have aux : ∀ v x0 x1 x2 x3 x4 x5 x6 x7 x8, v = ((cond (ll && smN (h.1 1 10) f i) 1 0 : Nat) : Int) → Bx z0 0 (tx mt (d + 1)) k_X1_moverLoses (fun r h' => ∃ z, r = some (.inl z) ∧ K z h') 7 [x0, x1, x2, x3, x4, x5, x6, x7, x8] [vI v, vI ((xoN (h.1 1 10) f i : Nat) : Int)] h := by
        intro v x0 x1 x2 x3 y4 x5 x6 x7 x8 ev
        rw [loH_v, x4.1, x4.2, ← ev] at q
        refine u_X1_moverLoses_7 (tx_mono _ _) ⟨fun c => u_X1_moverLoses_8 (tx_mono _ _) (u_X1_moverLoses_9 (tx_mono _ _) ⟨Or.inl rfl, exI ?_⟩), fun c => u_X1_moverLoses_9 (tx_mono _ _) ⟨Or.inr rfl, exI ?_⟩⟩
        · rw [decide_eq_false c] at q
          exact q
        · rw [decide_eq_true (by omega)] at q
          exact q
      refine u_X1_moverLoses_1 (tx_mono _ _) isB1 ⟨fun _ => u_X1_moverLoses_5 (tx_mono _ _) ⟨fun c => u_X1_moverLoses_6 (tx_mono _ _) (aux _ _ _ _ _ _ _ _ _ _ ?_), fun c => ⟨fun c2 => u_X1_moverLoses_6 (tx_mono _ _) (aux _ _ _ _ _ _ _ _ _ _ ?_), fun c2 => aux _ _ _ _ _ _ _ _ _ _ ?_⟩⟩, fun c => by omega⟩
      · rw [b2i_z c]; rfl
      · rw [b2i_z c2, Bool.and_false]; rfl
      · rw [b2i_o c, b2i_o c2]; rfl
    | succ m ih =>
      intro i x7 x8 im
      have fb := hb (i : Int) (by omega) (by omega)
      have fe := hf (i : Int) (by omega) (by omega)
      have pb := hp.2.2 (i : Int) (by omega) (by omega)
      have pe : (fX h 1).2 7 i = h.1 8 i := rfl
      have r1 := rr_b m1 m6 (f i)
      have a3 : ∀ v, v = f i → Bx z0 0 (tx mt (d + 1)) k_X1_moverLoses (fun r h' => ∃ z, r = some (.inl z) ∧ K z h') 3 [some (vR 1), some (vI p), some (vI t), some (vI ((b2i ll))), some (vI (((xoN (h.1 1 10) f i : Nat) : Int))), some (vI ((b2i (smN (h.1 1 10) f i)))), some (vI ((i : Int))), none, none] [vI v] h := by
        intro v ev
        subst ev
        refine u_X1_moverLoses_3 (tx_mono _ _) isB1 (s_X0_restInPlay isB1 hs fb.1 ?_)
        rw [← r1.2]
        have nx := ih (i + 1) none none (by omega)
        have e4 : ((Int.toNat ((xoN (h.1 1 10) f i : Nat) : Int) ^^^ Int.toNat ((rr (h.1 1 10) (f i) : Nat) : Int) : Nat) : Int) = ((xoN (h.1 1 10) f (i + 1) : Nat) : Int) := rfl
        have e5 : smN (h.1 1 10) f (i + 1) = (smN (h.1 1 10) f i && Nat.ble (rr (h.1 1 10) (f i)) 1) := rfl
        rw [e5] at nx
        refine ⟨by omega, by omega, ?_⟩
        rw [e4]
        refine ⟨fun c => u_X1_moverLoses_4 (tx_mono _ _) isB1 ⟨⟨by omega, by omega⟩, ?_⟩, fun c => u_X1_moverLoses_4 (tx_mono _ _) isB1 ⟨⟨by omega, by omega⟩, ?_⟩⟩
        · rw [show Nat.ble (rr (h.1 1 10) (f i)) 1 = true from Nat.ble_eq.mpr (by omega), Bool.and_true] at nx
          exact nx
        · rw [show Nat.ble (rr (h.1 1 10) (f i)) 1 = false from by
            cases hh : Nat.ble (rr (h.1 1 10) (f i)) 1 with
            | false => rfl
            | true => have := Nat.le_of_ble_eq_true hh; omega, Bool.and_false] at nx
          exact nx
      refine u_X1_moverLoses_1 (tx_mono _ _) isB1 ⟨fun c => by omega, fun _ => ⟨fun c => u_X1_moverLoses_2 (tx_mono _ _) isB1 ⟨by omega, by omega, a3 _ ?_⟩, fun c => ⟨by omega, by omega, ?_⟩⟩⟩
      · rw [fe, if_neg c, Int.sub_zero]
      · rw [if_pos (by omega)] at fe
        simp only [Nat.reduceAdd]
        exact ⟨⟨by omega, by omega⟩, a3 _ fe.symm⟩
  exact cI_i (e_X1_moverLoses isB1 (key (h.1 1 12).toNat 0 _ _ (by omega)))
theorem s_X6_placeOf {d : Nat} {p : Int} {h : AH} {K : Int → AH → Prop} (p0 : 0 ≤ p) (p4 : p < 4) (q : K (pw p) h) : cI (tx mt (d + 1)) n_X6_placeOf [vI p] h K := by
  rcases four p0 p4 with rfl | rfl | rfl | rfl
  · exact cI_i (e_X6_placeOf ⟨fun y => absurd rfl y, fun _ => u_X6_placeOf_4 (tx_mono _ _) (exI q)⟩)
  · exact cI_i (e_X6_placeOf ⟨fun _ => u_X6_placeOf_1 (tx_mono _ _) ⟨fun y => absurd rfl y, fun _ => u_X6_placeOf_4 (tx_mono _ _) (exI q)⟩, fun y => absurd (by decide) y⟩)
  · exact cI_i (e_X6_placeOf ⟨fun _ => u_X6_placeOf_1 (tx_mono _ _) ⟨fun _ => u_X6_placeOf_2 (tx_mono _ _) ⟨fun y => absurd rfl y, fun _ => u_X6_placeOf_4 (tx_mono _ _) (exI q)⟩, fun y => absurd (by decide) y⟩, fun y => absurd (by decide) y⟩)
  · exact cI_i (e_X6_placeOf ⟨fun _ => u_X6_placeOf_1 (tx_mono _ _) ⟨fun _ => u_X6_placeOf_2 (tx_mono _ _) ⟨fun _ => u_X6_placeOf_3 (tx_mono _ _) (u_X6_placeOf_4 (tx_mono _ _) (exI q)), fun y => absurd (by decide) y⟩, fun y => absurd (by decide) y⟩, fun y => absurd (by decide) y⟩)
theorem pw_b {p : Int} (p0 : 0 ≤ p) (p4 : p < 4) : 1 ≤ pw p ∧ pw p ≤ 2197 := by
  rcases four p0 p4 with rfl | rfl | rfl | rfl <;> decide
theorem dg_le {s p t : Int} (s0 : 0 ≤ s) (s1 : s < 28561) (p0 : 0 ≤ p) (p4 : p < 4) (t1 : 1 ≤ t) (td : t ≤ dgI s p) : 0 ≤ s - t * pw p ∧ s - t * pw p < s ∧ 0 ≤ t * pw p ∧ t * pw p ≤ 28561 := by
  unfold dgI at td
  rcases four p0 p4 with rfl | rfl | rfl | rfl <;> simp only [pw, Int.reduceEq, if_true, if_false, reduceIte] at td ⊢ <;> omega
def jW (mo s p t : Int) (ll so an : Bool) : Prop := (so = true → ∃ p' t', lgM mo s p' t' ∧ loS mo ll (s - t' * pw p') = true) ∧ (∀ p' t', lgM mo s p' t' → p' < p ∨ (p' = p ∧ t' < t) → loS mo ll (s - t' * pw p') = true → so = true) ∧ (an = true → ∃ p' t', lgM mo s p' t') ∧ (∀ p' t', lgM mo s p' t' → p' < p ∨ (p' = p ∧ t' < t) → an = true)
theorem jW_nx {mo s p t : Int} {ll so an : Bool} (h : jW mo s p t ll so an) (c : mo < t ∨ dgI s p < t) : jW mo s (p + 1) 1 ll so an := by
  have f : ∀ p' t', lgM mo s p' t' → p' < p + 1 ∨ (p' = p + 1 ∧ t' < 1) → p' < p ∨ (p' = p ∧ t' < t) := by
    intro p' t' hl hc
    obtain ⟨a, b, c1, c2, c3⟩ := hl
    by_cases e : p' = p
    · subst e
      exact Or.inr ⟨rfl, by omega⟩
    · omega
  exact ⟨h.1, fun p' t' hl hc => h.2.1 p' t' hl (f p' t' hl hc), h.2.2.1, fun p' t' hl hc => h.2.2.2 p' t' hl (f p' t' hl hc)⟩
theorem jW_st {mo s p t : Int} {ll so an so' : Bool} (h : jW mo s p t ll so an) (l : lgM mo s p t) (hs : so' = (so || loS mo ll (s - t * pw p))) : jW mo s p (t + 1) ll so' true := by
  refine ⟨fun y => ?_, fun p' t' hl hc hw => ?_, fun _ => ⟨p, t, l⟩, fun _ _ _ _ => rfl⟩
  · rw [hs, Bool.or_eq_true] at y
    rcases y with y | y
    · exact h.1 y
    · exact ⟨p, t, l, y⟩
  · rw [hs, Bool.or_eq_true]
    by_cases c : p' = p ∧ t' = t
    · exact Or.inr (by rw [← c.1, ← c.2]; exact hw)
    · exact Or.inl (h.2.1 p' t' hl (by omega) hw)
theorem s_X6_layWins {d : Nat} {ll : Bool} {h : AH} {K : AH → Prop} (m1 : 1 ≤ h.1 38 4) (m6 : h.1 38 4 ≤ 6) (q : ∀ h1, Gx 62 62 h h1 → (∀ j, 0 ≤ j → j < 28561 → h1.1 62 j = b2i (!(loS (h.1 38 4) ll j))) → K h1) : cV (tx mt (d + 2)) n_X6_layWins [vR 38, vI (b2i ll)] h K := by
  have outer : ∀ (m : Nat) (s : Int) (h' : AH) (x3 x4 x5 x6 x7 : Option AV), s + m = 28561 → 0 ≤ s → Gx 62 62 h h' → (∀ j, 0 ≤ j → j < s → h'.1 62 j = b2i (!(loS (h.1 38 4) ll j))) → Bx z0 0 (tx mt (d+1)) k_X6_layWins (fun r h' => r = none ∧ K h') 1 [some (vR 38), some (vI ((b2i ll))), some (vI s), x3, x4, x5, x6, x7] [] h' := by
    intro m
    induction m with
    | zero =>
      intro s h' x3 x4 x5 x6 x7 sm s0 G hc
      exact u_X6_layWins_1 (tx_mono _ _) ⟨fun _ => u_X6_layWins_11 (tx_mono _ _) (exV (q h' G (fun j a b => hc j a (by omega)))), fun c => by omega⟩
    | succ m ih =>
      intro s h' x3 x4 x5 x6 x7 sm s0 G hc
      have c4 : h'.1 38 4 = h.1 38 4 := by rw [G 38 (by decide) (by decide)]
      have st : ∀ v x3 x4 x5 x6 x7, v = b2i (!(loS (h.1 38 4) ll s)) → Bx z0 0 (tx mt (d+1)) k_X6_layWins (fun r h' => r = none ∧ K h') 10 [some (vR 38), some (vI ((b2i ll))), some (vI s), x3, x4, x5, x6, x7] [vI v, vI s, vR 62] h' := by
        intro v x3 x4 x5 x6 x7 ev
        refine u_X6_layWins_10 (tx_mono _ _) ⟨s0, by omega, by have := b2i_01 (!(loS (h.1 38 4) ll s)); omega, fun h1 w1 => ⟨⟨by omega, by omega⟩, ih (s + 1) h1 _ _ _ _ _ (by omega) (by omega) (by rw [w1]; exact G.up (Or.inl rfl) _ _) (fun j a b => ?_)⟩⟩
        rw [w1, upI_e]
        by_cases c : j = s
        · rw [if_pos ⟨rfl, c⟩, ev, c]
        · rw [if_neg (by omega)]
          exact hc j a (by omega)
      have ps : ∀ (k : Nat) (p : Int) (so an : Bool) (x6 x7 : Option AV), p + k = 4 → 0 ≤ p → jW (h.1 38 4) s p 1 ll so an → Bx z0 0 (tx mt (d+1)) k_X6_layWins (fun r h' => r = none ∧ K h') 2 [some (vR 38), some (vI ((b2i ll))), some (vI s), some (vI ((b2i so))), some (vI ((b2i an))), some (vI p), x6, x7] [] h' := by
        intro k
        induction k with
        | zero =>
          intro p so an x6 x7 pk p0 J
          have bf : ∀ p' t', lgM (h.1 38 4) s p' t' → p' < p ∨ (p' = p ∧ t' < 1) := fun p' t' hl => Or.inl (by have := hl.2.1; omega)
          have ls := loS_step m1 m6 s0 (by omega) J.1 (fun p' t' hl hw => J.2.1 p' t' hl (bf p' t' hl) hw) J.2.2.1 (fun p' t' hl => J.2.2.2 p' t' hl (bf p' t' hl))
          refine u_X6_layWins_2 (tx_mono _ _) ⟨fun _ => u_X6_layWins_8 (tx_mono _ _) ⟨fun c => u_X6_layWins_9 (tx_mono _ _) (st _ _ _ _ _ _ ?_), fun c => st _ _ _ _ _ _ ?_⟩, fun c => by omega⟩
          · rw [← ls, if_neg (by rw [b2i_z c]; decide)]
          · rw [← ls, if_pos (b2i_o c)]
        | succ k ihp =>
          intro p so an x6 x7 pk p0 J
          have pwb := pw_b p0 (by omega)
          have ts : ∀ (k2 : Nat) (t : Int) (so an : Bool), t + k2 = 8 → 1 ≤ t → jW (h.1 38 4) s p t ll so an → Bx z0 0 (tx mt (d+1)) k_X6_layWins (fun r h' => r = none ∧ K h') 3 [some (vR 38), some (vI ((b2i ll))), some (vI s), some (vI ((b2i so))), some (vI ((b2i an))), some (vI p), some (vI ((dgI s p))), some (vI t)] [] h' := by
            intro k2
            induction k2 with
            | zero =>
              intro t so an tk t1 J
              exact u_X6_layWins_3 (tx_mono _ _) ⟨fun _ => u_X6_layWins_7 (tx_mono _ _) ⟨⟨by omega, by omega⟩, ihp (p + 1) so an _ _ (by omega) (by omega) (jW_nx J (by omega))⟩, fun c => by omega⟩
            | succ k2 iht =>
              intro t so an tk t1 J
              refine u_X6_layWins_3 (tx_mono _ _) ⟨fun c => u_X6_layWins_7 (tx_mono _ _) ⟨⟨by omega, by omega⟩, ihp (p + 1) so an _ _ (by omega) (by omega) (jW_nx J (by omega))⟩, fun c => ⟨fun c2 => u_X6_layWins_7 (tx_mono _ _) ⟨⟨by omega, by omega⟩, ihp (p + 1) so an _ _ (by omega) (by omega) (jW_nx J (by omega))⟩, fun c2 => ?_⟩⟩
              have lg : lgM (h.1 38 4) s p t := ⟨p0, by omega, t1, by omega, by omega⟩
              have le := dg_le s0 (by omega) p0 (by omega) t1 (by omega : t ≤ dgI s p)
              have hw := hc (s - t * pw p) (by omega) (by omega)
              have n6 : ∀ so', so' = (so || loS (h.1 38 4) ll (s - t * pw p)) → ∀ x3 x4, Bx z0 0 (tx mt (d+1)) k_X6_layWins (fun r h' => r = none ∧ K h') 6 [some (vR 38), some (vI ((b2i ll))), some (vI s), x3, x4, some (vI p), some (vI ((dgI s p))), some (vI t)] [vI (b2i so')] h' := by
                intro so' e x3 x4
                exact u_X6_layWins_6 (tx_mono _ _) ⟨⟨by omega, by omega⟩, iht (t + 1) so' true (by omega) (by omega) (jW_st J lg e)⟩
              refine ⟨fun c3 => u_X6_layWins_4 (tx_mono _ _) (n6 true (by rw [b2i_o c3]; rfl) _ _), fun c3 => s_X6_placeOf p0 (by omega) ⟨⟨by omega, by omega⟩, ⟨by omega, by omega⟩, by omega, by omega, fun c5 => ?_, fun c5 => ?_⟩⟩
              · rw [hw] at c5
                exact u_X6_layWins_5 (tx_mono _ _) (n6 false (by rw [b2i_z (p := so) (by omega), show loS (h.1 38 4) ll (s - t * pw p) = false by simpa using b2i_o c5]; rfl) _ _)
              · rw [hw] at c5
                exact u_X6_layWins_4 (tx_mono _ _) (n6 true (by rw [show loS (h.1 38 4) ll (s - t * pw p) = true by simpa using b2i_z (by omega : b2i (!(loS (h.1 38 4) ll (s - t * pw p))) = 0), Bool.or_true]) _ _)
          have dn : 0 ≤ s / pw p := Int.ediv_nonneg s0 (by omega)
          exact u_X6_layWins_2 (tx_mono _ _) ⟨fun c => by omega, fun _ => s_X6_placeOf p0 (by omega) ⟨s0, by omega, dn, by decide, ts 7 1 so an (by decide) (by decide) J⟩⟩
      exact u_X6_layWins_1 (tx_mono _ _) ⟨fun c => by omega, fun _ => ps 4 0 false false _ _ (by decide) (by decide) ⟨fun y => absurd y (by decide), fun p' t' hl hc => by have := hl.1; have := hl.2.2.1; omega, fun y => absurd y (by decide), fun p' t' hl hc => by have := hl.1; have := hl.2.2.1; omega⟩⟩
  exact cV_i (e_X6_layWins (outer 28561 0 h _ _ _ _ _ (by decide) (by decide) Gx.rf (fun j a b => by omega)))
