/-! ===== seeds ===== -/
def nxS (s : Int) : Int := Int.bmod ((Int.bmod (s * 1103515245) 4294967296) + 12345) 4294967296
def drS (s n : Int) : Int := ((s % 2147483648) / 65536) % n
def sdB (b : BD) (s : Int) : BD := putS 5 (drS (nxS (nxS s)) (b.1 1)) (putS 2 (drS (nxS s) 61) b)
def sdF (b : BD) (a : Int) : Nat → Int → Int → Int → Int × Int
  | 0, _, o, l => (o, l)
  | m + 1, s, o, l => sdF b a m (nxS (nxS s)) (o + b2i (isP (supB 100 0 (sdB b s)).2 a)) (l + (supB 100 0 (sdB b s)).2.1 2)
theorem drS_r {s n : Int} (h : 0 < n) : 0 ≤ drS s n ∧ drS s n < n := emod_r h
theorem sdB_ok {b : BD} {s : Int} (hb : okBd b) (hn : b.1 5 < b.1 1) : okBd (sdB b s) ∧ (sdB b s).1 5 < (sdB b s).1 1 := by
  have h5 := hb.2.2.1.2.2.2.2.2.2.1
  have d1 := drS_r (s := nxS s) (n := 61) (by decide)
  have d2 := drS_r (s := nxS (nxS s)) (n := b.1 1) (by omega)
  have p1 := hb.pus (j := 2) (v := drS (nxS s) 61) (by omega)
  exact ⟨p1.pus (j := 5) (by show _ ∨ 5 = 5 ∧ 0 ≤ drS (nxS (nxS s)) (b.1 1) ∧ (drS (nxS (nxS s)) (b.1 1) < b.1 1 ∨ _); omega), d2.2⟩
theorem s_X5_drawBelow {d : Nat} {s n : Int} {h : AH} {k : Int → AH → Prop} (hn : 0 < n) (q : k (drS s n) h) : cI (tx mt (d + 1)) n_X5_drawBelow [vI s, vI n] h k :=
  cI_i (e_X5_drawBelow ⟨fun _ => u_X5_drawBelow_1 (tx_mono _ _) ⟨(emod_r (by decide)).1, by decide, Int.ediv_nonneg (emod_r (by decide)).1 (by decide), hn, u_X5_drawBelow_2 (tx_mono _ _) (exI q)⟩, fun c => by omega⟩)
theorem s_X6_draw {d : Nat} {n : Int} {h : AH} {k : Int → AH → Prop} (hn : 0 < n) (q : k (drS (nxS (h.1 38 44)) n) (upI h 38 44 (nxS (h.1 38 44)))) : cI (tx mt (d + 1)) n_X6_draw [vR 38, vI n] h k := by
  refine cI_i (e_X6_draw (fun h1 w1 => ?_))
  have e : h1.1 38 44 = nxS (h.1 38 44) := by rw [w1]; (simp only [inI, upI_e, Nat.reduceEqDiff, Nat.reduceAdd, true_and, and_true, false_and, and_false, if_true, if_false, ite_true, ite_false, reduceIte, Int.reduceEq, not_true_eq_false, not_false_eq_true, Decidable.not_not]); rfl
  refine ⟨(emod_r (by decide)).1, by decide, Int.ediv_nonneg (emod_r (by decide)).1 (by decide), hn, exI ?_⟩
  rw [e, w1]
  exact q
theorem x_seeds {d : Nat} {a n : Int} {h : AH} {K : AK} {x4 : Option AV} (hb : okBd (fX h 1)) (hn : (fX h 1).1 5 < (fX h 1).1 1) (n20 : n ≤ 20) {a4 : Int} : ∀ (m : Nat) (i s o l : Int) (h' : AH), i + m = n → 0 ≤ i → 0 ≤ o → o ≤ i → 0 ≤ l → l ≤ 60 * i → Fx h h' → (∀ h1 x y z, Fx h h1 → Bx z0 0 (tx mt (d + 29)) k_X5_seeds K 7 [some (vR 0), some (vI a), some (vI n), x, some (vI a4), y, some (vI (sdF (fX h 1) a m s o l).1), some (vI (sdF (fX h 1) a m s o l).2), z] [] h1) → ∀ x, Bx z0 0 (tx mt (d + 29)) k_X5_seeds K 5 [some (vR 0), some (vI a), some (vI n), x, some (vI a4), some (vI s), some (vI o), some (vI l), some (vI i)] [] h' := by
  intro m
  induction m with
  | zero =>
    intro i s o l h' im i0 o0 oi l0 li F q x
    exact u_X5_seeds_5 (tx_mono _ _) ⟨fun _ => q h' _ _ _ F, fun c => by omega⟩
  | succ m ih =>
    intro i s o l h' im i0 o0 oi l0 li F q x
    have h5 := hb.2.2.1.2.2.2.2.2.2.1
    have sb := sdB_ok (s := s) hb hn
    have d1 := drS_r (s := nxS s) (n := 61) (by decide)
    have p1 := hb.pus (j := 2) (v := drS (nxS s) 61) (by omega)
    have sk := supB_ok 100 0 _ sb.1 sb.2
    have f2 := sk.1.2.2.1
    refine u_X5_seeds_5 (tx_mono _ _) ⟨fun c => by omega, fun _ => sx_copy F hb.2.2.2.2 (fun h1 x1 F1 => cI_i (e_X5_nextSeed (exI (s_X5_drawBelow (by decide) (fun h2 w2 => cI_i (e_X5_nextSeed (exI (s_X5_drawBelow ?_ (fun h3 w3 => ?_)))))))))⟩
    · rw [w2]
      simp only [upI_e]
      rw [if_neg (by omega), F1.1 1 (by omega)]
      show 0 < (fX h 1).1 1
      omega
    have x2 : fX h2 9 = putS 2 (drS (nxS s) 61) (fX h 1) := by rw [w2]; rw [show drS (Int.bmod ((Int.bmod (s * 1103515245) 4294967296) + 12345) 4294967296) 61 = drS (nxS s) 61 from rfl, fX_putF, x1]
    have F2 : Fx h h2 := by rw [w2] at x2 ⊢; exact F1.put (by decide) (by decide) (by rw [x2]; exact p1.2.2.2.2)
    have e13 : h2.1 1 3 = (fX h 1).1 1 := by rw [F2.1 1 (by omega)]; rfl
    rw [e13] at w3
    have x3 : fX h3 9 = sdB (fX h 1) s := by rw [w3, fX_putS, x2]; rfl
    have F3 : Fx h h3 := by rw [w3] at x3 ⊢; exact F2.put (by decide) (by decide) (by rw [x3]; exact sb.1.2.2.2.2)
    refine sx_eat F3 (by rw [x3]; exact sb.1) (by rw [x3]; exact sb.2) (fun h4 x4 F4 => ?_)
    rw [x3] at x4
    have e8 : h4.1 9 8 = (supB 100 0 (sdB (fX h 1) s)).2.1 2 := by rw [← x4]; rfl
    refine s_X0_isPleased isB9 (by rw [x4]; exact sk.1.1) (by rw [x4]; exact sk.1.2.1) ?_
    rw [x4]
    have g1 := f2.1
    have g2 := f2.2.1
    have ih := ih (i + 1) (nxS (nxS s)) (o + b2i (isP (supB 100 0 (sdB (fX h 1) s)).2 a)) (l + (supB 100 0 (sdB (fX h 1) s)).2.1 2) h4 (by omega) (by omega) (by rcases b2i_01 (isP (supB 100 0 (sdB (fX h 1) s)).2 a) with e | e <;> omega) (by rcases b2i_01 (isP (supB 100 0 (sdB (fX h 1) s)).2 a) with e | e <;> omega) (by omega) (by omega) F4 q
    refine ⟨fun c => u_X5_seeds_6 (tx_mono _ _) ?_, fun c => ⟨⟨by omega, by omega⟩, u_X5_seeds_6 (tx_mono _ _) ?_⟩⟩
    · rw [e8]
      rw [c, Int.add_zero] at ih
      exact ⟨⟨by omega, by omega⟩, ⟨by omega, by omega⟩, ih _⟩
    · rw [e8]
      have c1 : b2i (isP (supB 100 0 (sdB (fX h 1) s)).2 a) = 1 := by rcases b2i_01 (isP (supB 100 0 (sdB (fX h 1) s)).2 a) with e | e <;> omega
      rw [c1] at ih
      exact ⟨⟨by omega, by omega⟩, ⟨by omega, by omega⟩, ih _⟩
