/-! ===== gift ===== -/
theorem pop_bits {p : Nat → Bool} {n : Nat} (hn : n ≤ 4) : pop ((bitsN p n : Nat) : Int) = sumN (fun i => b2i (p i)) n := by
  rcases (show n = 0 ∨ n = 1 ∨ n = 2 ∨ n = 3 ∨ n = 4 by omega) with rfl | rfl | rfl | rfl | rfl <;>
    (simp only [bitsN, sumN]
     generalize p 0 = a0
     try generalize p 1 = a1
     try generalize p 2 = a2
     try generalize p 3 = a3
     try revert a3
     try revert a2
     try revert a1
     try revert a0
     decide +kernel)
theorem bitsB_lt {b : BD} (he : okE b) : 0 ≤ bitsB b ∧ bitsB b < 16 := by
  have h1 := bitsN_lt (fun e => isP b (e : Int)) (b.1 1).toNat
  have h2 : 2 ^ (b.1 1).toNat ≤ 2 ^ 4 := Nat.pow_le_pow_right (by decide) (by have := he.2.1; omega)
  unfold bitsB
  generalize 2 ^ (b.1 1).toNat = x at h1 h2
  omega
def ps1 (g o k e : Int) : Int := if e = g then -k else if e = o then k else 0
def psF (b : BD) (g o k : Int) (e : Nat) : Bool := pl b e (b.2 6 e + ps1 g o k e)
def psh (b : BD) (g o k : Int) : Int := if g = o ∨ b.2 6 g < k ∨ 99 < b.2 6 o + k then 0 else sumN (fun e => b2i (psF b g o k e)) (b.1 1).toNat
theorem s_X0_pleasedByPush {d : Nat} {g o k : Int} {h : AH} {K : Int → AH → Prop} (hr : okR (fX h 1)) (he : okE (fX h 1)) (g0 : 0 ≤ g) (g1 : g < h.1 1 3) (o0 : 0 ≤ o) (o1 : o < h.1 1 3) (k1 : 1 ≤ k) (k3 : k ≤ 3) (q : K (psh (fX h 1) g o k) h) : cI (tx mt (d + 3)) n_X0_pleasedByPush [vR 1, vI g, vI o, vI k] h K := by
  have e4 : h.1 1 3 ≤ 4 := he.2.1
  have f6 : ∀ i, (fX h 1).2 6 i = h.1 7 i := fun _ => rfl
  have sg := he.2.2 g g0 g1
  have so := he.2.2 o o0 o1
  rw [f6] at sg so
  have f7 : ∀ i, h.1 (1 + 6) i = h.1 7 i := fun _ => rfl
  by_cases c : g = o ∨ h.1 7 g < k ∨ 99 < h.1 7 o + k
  · have q0 : K 0 h := kq q (by rw [psh, f6, f6, if_pos c])
    refine cI_i (e_X0_pleasedByPush isB1 ⟨fun _ => u_X0_pleasedByPush_1 (tx_mono _ _) (exI q0), fun _ => c_X0_hasEater isB1 (fun _ => ⟨fun _ => by omega, fun _ => c_X0_hasEater isB1 (fun _ => ⟨fun _ => u_X0_pleasedByPush_2 (tx_mono _ _) isB1 ?_, fun y => absurd (by decide) y⟩) (fun _ => by omega)⟩) (fun _ => by omega)⟩)
    simp only [Nat.reduceAdd]
    exact ⟨g0, by omega, fun _ => u_X0_pleasedByPush_3 (tx_mono _ _) (exI q0), fun _ => ⟨o0, by omega, ⟨by omega, by omega⟩, fun _ => by omega, fun _ => u_X0_pleasedByPush_3 (tx_mono _ _) (exI q0)⟩⟩
  have q1 : K (sumN (fun e => b2i (psF (fX h 1) g o k e)) (h.1 1 3).toNat) h := kq q (by rw [psh, f6, f6, if_neg c]; rfl)
  have key : ∀ (m i : Nat), i + m = (h.1 1 3).toNat → Bx z0 0 (tx mt (d + 2)) k_X0_pleasedByPush (fun r h' => ∃ z, r = some (.inl z) ∧ K z h') 5 [some (vR 1), some (vI g), some (vI o), some (vI k), some (vI (sumN (fun e => b2i (psF (fX h 1) g o k e)) i)), some (vI (i : Int)), none] [] h := by
    intro m
    induction m with
    | zero =>
      intro i im
      refine u_X0_pleasedByPush_5 (tx_mono _ _) isB1 ⟨fun c => u_X0_pleasedByPush_10 (tx_mono _ _) (exI (kq q1 ?_)), fun c => by omega⟩
      rw [show i = (h.1 1 3).toNat by omega]
    | succ m ih =>
      intro i im
      have nx := ih (i + 1) (by omega)
      rw [sumN] at nx
      have bb := sumN_b (f := fun e => b2i (psF (fX h 1) g o k e)) (c := 1) (n := i) (fun i _ => by have := b2i_01 (psF (fX h 1) g o k i); omega)
      have si := he.2.2 (i : Int) (by omega) (by show (i : Int) < h.1 1 3; omega)
      rw [f6] at si
      have aux : ∀ ch, ch = ps1 g o k i → Bx z0 0 (tx mt (d + 2)) k_X0_pleasedByPush (fun r h' => ∃ z, r = some (.inl z) ∧ K z h') 8 [some (vR 1), some (vI g), some (vI o), some (vI k), some (vI (sumN (fun e => b2i (psF (fX h 1) g o k e)) i)), some (vI (i : Int)), none] [vI ch] h := by
        intro ch ec
        have cb : -3 ≤ ch ∧ ch ≤ 3 := by rw [ec, ps1]; (repeat' split) <;> omega
        refine u_X0_pleasedByPush_8 (tx_mono _ _) isB1 ?_
        simp only [Nat.reduceAdd]
        refine ⟨by omega, by omega, ⟨by omega, by omega⟩, s_X0_pleases isB1 hr he (by omega) ?_⟩
        have e : pl (fX h 1) i (h.1 7 i + ch) = psF (fX h 1) g o k i := by rw [psF, ec]; rfl
        rw [e]
        refine ⟨fun c => u_X0_pleasedByPush_9 (tx_mono _ _) isB1 ⟨⟨by omega, by omega⟩, ?_⟩, fun c => ⟨⟨by omega, by omega⟩, u_X0_pleasedByPush_9 (tx_mono _ _) isB1 ⟨⟨by omega, by omega⟩, ?_⟩⟩⟩
        · rw [c, Int.add_zero] at nx
          exact nx
        · rw [show b2i (psF (fX h 1) g o k i) = 1 by have := b2i_01 (psF (fX h 1) g o k i); omega] at nx
          exact nx
      refine u_X0_pleasedByPush_5 (tx_mono _ _) isB1 ⟨fun c => by omega, fun _ => ⟨fun c => u_X0_pleasedByPush_6 (tx_mono _ _) isB1 ⟨fun c2 => u_X0_pleasedByPush_7 (tx_mono _ _) isB1 (aux 0 ?_), fun c2 => aux k ?_⟩, fun c => ⟨⟨by omega, by omega⟩, aux (-k) ?_⟩⟩⟩
      · rw [ps1, if_neg c, if_neg c2]
      · rw [ps1, if_neg c, if_pos (by omega)]
      · rw [ps1, if_pos (by omega)]
  refine cI_i (e_X0_pleasedByPush isB1 ⟨fun _ => by omega, fun _ => c_X0_hasEater isB1 (fun _ => ⟨fun _ => by omega, fun _ => c_X0_hasEater isB1 (fun _ => ⟨fun _ => u_X0_pleasedByPush_2 (tx_mono _ _) isB1 ?_, fun y => absurd (by decide) y⟩) (fun _ => by omega)⟩) (fun _ => by omega)⟩)
  simp only [Nat.reduceAdd]
  exact ⟨g0, by omega, fun _ => by omega, fun _ => ⟨o0, by omega, ⟨by omega, by omega⟩, fun _ => u_X0_pleasedByPush_4 (tx_mono _ _) isB1 (key (h.1 1 3).toNat 0 (by omega)), fun _ => by omega⟩⟩
theorem s_X6_haveAfter {d : Nat} {g o k : Int} {h : AH} {K : Int → AH → Prop} (hb : okBd (fM h)) (g0 : 0 ≤ g) (g1 : g < h.1 38 1) (o0 : 0 ≤ o) (o1 : o < h.1 38 1) (k1 : 1 ≤ k) (k3 : k ≤ 3) (go : ¬ g = o) (gk : k ≤ h.1 44 g) (ok : h.1 44 o + k ≤ 99) (q : K (psh (fM h) g o k) h) : cI (tx mt (d + 6)) n_X6_haveAfter [vR 38, vI g, vI o, vI k] h K := by
  have e4 : h.1 38 1 ≤ 4 := hb.2.1.2.1
  have f6 : ∀ i, (fM h).2 6 i = h.1 44 i := fun _ => rfl
  have sg := hb.2.1.2.2 g g0 g1
  have so := hb.2.1.2.2 o o0 o1
  rw [f6] at sg so
  refine cI_i (e_X6_haveAfter ⟨g0, by omega, ⟨by omega, by omega⟩, g0, by omega, fun h1 w1 => ?_⟩)
  have v1 : h1.1 44 o = h.1 44 o := by rw [w1, upI_e, if_neg (by omega)]
  refine ⟨o0, by omega, ⟨by omega, by omega⟩, o0, by omega, fun h2 w2 => ?_⟩
  have v2 : h2.1 44 g = h.1 44 g - k := by rw [w2, upI_e, if_neg (by omega), w1, upI_e, if_pos ⟨rfl, rfl⟩]
  have w2' : h2.1 44 o = h.1 44 o + k := by rw [w2, upI_e, if_pos ⟨rfl, rfl⟩, v1]
  have m1 : fM h1 = putB 6 g (h.1 44 g - k) (fM h) := by rw [w1]; exact fM_put (j := 6) (by decide) (by decide)
  have m2 : fM h2 = putB 6 o (h.1 44 o + k) (putB 6 g (h.1 44 g - k) (fM h)) := by rw [w2, v1, ← m1]; exact fM_put (j := 6) (by decide) (by decide)
  have b1 : okBd (fM h1) := by rw [m1]; exact hb.put g0 (by omega) (by omega)
  have b2 : okBd (fM h2) := by rw [m2, ← m1]; exact b1.put o0 (by omega) (by omega)
  have lt := bitsB_lt b2.2.1
  refine s_X6_haveBits b2.1 b2.2.1 (s_X6_ones lt.1 lt.2 ?_)
  refine ⟨g0, by omega, ⟨by omega, by omega⟩, g0, by omega, fun h9 w9 => ?_⟩
  have v9 : h9.1 44 o = h.1 44 o + k := by rw [w9, upI_e, if_neg (by omega), w2']
  refine ⟨o0, by omega, ⟨by omega, by omega⟩, o0, by omega, fun h10 w10 => exI ?_⟩
  have hh : h10 = h := by
    refine Prod.ext (funext fun c => funext fun j => ?_) (by rw [w10, w9, w2, w1]; rfl)
    rw [w10, upI_e, v9]
    by_cases co : c = 44 ∧ j = o
    · rw [if_pos co, co.1, co.2]; omega
    rw [if_neg co, w9, upI_e, v2]
    by_cases cg : c = 44 ∧ j = g
    · rw [if_pos cg, cg.1, cg.2]; omega
    rw [if_neg cg, w2, upI_e, if_neg co, w1, upI_e, if_neg cg]
  rw [hh]
  refine kq q ?_
  have n1 : (fM h2).1 1 = (fM h).1 1 := by rw [m2]; rfl
  rw [pop_bits (by have := b2.2.1.2.1; omega), psh, f6, f6, if_neg (by omega), n1]
  refine sumN_c (fun i hi => ?_)
  have hi' : (i : Int) < (fM h).1 1 := by omega
  have e6 : (fM h2).2 6 i = (fM h).2 6 i + ps1 g o k i := by
    rw [m2, ps1]
    show (if 6 = 6 ∧ (i : Int) = o then h.1 44 o + k else if 6 = 6 ∧ (i : Int) = g then h.1 44 g - k else h.1 44 i) = h.1 44 i + _
    by_cases ci : (i : Int) = o
    · rw [if_pos ⟨rfl, ci⟩, if_neg (by omega), if_pos ci, ci]
    · rw [if_neg (by omega)]
      by_cases cg : (i : Int) = g
      · rw [if_pos ⟨rfl, cg⟩, if_pos cg, cg]; omega
      · rw [if_neg (by omega), if_neg cg, if_neg ci]; omega
  show b2i (isP (fM h2) i) = b2i (psF (fM h) g o k i)
  rw [isP, hasE_i (by omega) (by omega), Bool.true_and, e6, m2]
  rfl
def gkF (b : BD) (g o : Int) : Nat → Int → Int × Int → Int × Int
  | 0, _, s => s
  | m + 1, k, s => gkF b g o m (k + 1) (if psh b g o k ≤ s.2 then s else (100 * g + 10 * o + k, psh b g o k))
def goF (b : BD) (g : Int) : Nat → Int → Int × Int → Int × Int
  | 0, _, s => s
  | m + 1, o, s => goF b g m (o + 1) (gkF b g o 3 1 s)
def ggF (b : BD) : Nat → Int → Int × Int → Int × Int
  | 0, _, s => s
  | m + 1, g, s => ggF b m (g + 1) (goF b g (b.1 1).toNat 0 s)
theorem x_gift_k {d : Nat} {g o : Int} {h : AH} {K : AK} (hr : okR (fX h 1)) (he : okE (fX h 1)) (g0 : 0 ≤ g) (g1 : g < h.1 1 3) (o0 : 0 ≤ o) (o1 : o < h.1 1 3) : ∀ (m : Nat) (k : Int) (s : Int × Int) (x : Option AV), k + m = 4 → 1 ≤ k → (∀ y z, Bx z0 0 (tx mt (d + 29)) k_X5_gift K 6 [some (vR 0), some (vI (gkF (fX h 1) g o m k s).1), some (vI (gkF (fX h 1) g o m k s).2), some (vI g), some (vI o), y, z] [] h) → Bx z0 0 (tx mt (d + 29)) k_X5_gift K 4 [some (vR 0), some (vI s.1), some (vI s.2), some (vI g), some (vI o), some (vI k), x] [] h := by
  have e4 : h.1 1 3 ≤ 4 := he.2.1
  intro m
  induction m with
  | zero => intro k s x km k1 q; exact u_X5_gift_4 (tx_mono _ _) ⟨fun _ => q _ _, fun c => by omega⟩
  | succ m ih =>
    intro k s x km k1 q
    rw [gkF] at q
    refine u_X5_gift_4 (tx_mono _ _) ⟨fun c => by omega, fun _ => s_X0_pleasedByPush hr he g0 g1 o0 o1 (by omega) (by omega) ⟨fun c => u_X5_gift_5 (tx_mono _ _) ⟨⟨by omega, by omega⟩, ?_⟩, fun c => ⟨⟨by omega, by omega⟩, ⟨by omega, by omega⟩, ⟨by omega, by omega⟩, ⟨by omega, by omega⟩, u_X5_gift_5 (tx_mono _ _) ⟨⟨by omega, by omega⟩, ?_⟩⟩⟩⟩
    · rw [if_pos c] at q
      exact ih (k + 1) s _ (by omega) (by omega) q
    · rw [if_neg c] at q
      exact ih (k + 1) (100 * g + 10 * o + k, psh (fX h 1) g o k) _ (by omega) (by omega) q
theorem x_gift_o {d : Nat} {g : Int} {h : AH} {K : AK} (hr : okR (fX h 1)) (he : okE (fX h 1)) (g0 : 0 ≤ g) (g1 : g < h.1 1 3) : ∀ (m : Nat) (o : Int) (s : Int × Int) (x y : Option AV), o + m = h.1 1 3 → 0 ≤ o → (∀ x y z, Bx z0 0 (tx mt (d + 29)) k_X5_gift K 7 [some (vR 0), some (vI (goF (fX h 1) g m o s).1), some (vI (goF (fX h 1) g m o s).2), some (vI g), x, y, z] [] h) → Bx z0 0 (tx mt (d + 29)) k_X5_gift K 3 [some (vR 0), some (vI s.1), some (vI s.2), some (vI g), some (vI o), x, y] [] h := by
  have e4 : h.1 1 3 ≤ 4 := he.2.1
  intro m
  induction m with
  | zero => intro o s x y om o0 q; exact u_X5_gift_3 (tx_mono _ _) ⟨fun _ => q _ _ _, fun c => by omega⟩
  | succ m ih =>
    intro o s x y om o0 q
    exact u_X5_gift_3 (tx_mono _ _) ⟨fun c => by omega, fun _ => x_gift_k hr he g0 g1 o0 (by omega) 3 1 s _ (by decide) (by decide) (fun y z => u_X5_gift_6 (tx_mono _ _) ⟨⟨by omega, by omega⟩, ih (o + 1) _ _ _ (by omega) (by omega) q⟩)⟩
theorem x_gift_g {d : Nat} {h : AH} {K : AK} (hr : okR (fX h 1)) (he : okE (fX h 1)) : ∀ (m : Nat) (g : Int) (s : Int × Int) (x y z : Option AV), g + m = h.1 1 3 → 0 ≤ g → (∀ x y z t, Bx z0 0 (tx mt (d + 29)) k_X5_gift K 8 [some (vR 0), some (vI (ggF (fX h 1) m g s).1), some (vI (ggF (fX h 1) m g s).2), x, y, z, t] [] h) → Bx z0 0 (tx mt (d + 29)) k_X5_gift K 2 [some (vR 0), some (vI s.1), some (vI s.2), some (vI g), x, y, z] [] h := by
  have e4 : h.1 1 3 ≤ 4 := he.2.1
  intro m
  induction m with
  | zero => intro g s x y z gm g0 q; exact u_X5_gift_2 (tx_mono _ _) ⟨fun _ => q _ _ _ _, fun c => by omega⟩
  | succ m ih =>
    intro g s x y z gm g0 q
    exact u_X5_gift_2 (tx_mono _ _) ⟨fun c => by omega, fun _ => x_gift_o hr he g0 (by omega) (h.1 1 3).toNat 0 s _ _ (by omega) (by decide) (fun x y z => u_X5_gift_7 (tx_mono _ _) ⟨⟨by omega, by omega⟩, ih (g + 1) _ _ _ _ (by omega) (by omega) q⟩)⟩
theorem m_gift_k {d : Nat} {g o : Int} {h : AH} {K : AK} (hb : okBd (fM h)) (g0 : 0 ≤ g) (g1 : g < h.1 38 1) (o0 : 0 ≤ o) (o1 : o < h.1 38 1) : ∀ (m : Nat) (k : Int) (s : Int × Int) (x y : Option AV), k + m = 4 → 1 ≤ k → (∀ x y z, Bx z0 0 (tx mt (d + 29)) k_X6_gift K 13 [some (vR 38), some (vI (gkF (fM h) g o m k s).1), some (vI (gkF (fM h) g o m k s).2), some (vI g), some (vI o), x, y, z] [] h) → Bx z0 0 (tx mt (d + 29)) k_X6_gift K 4 [some (vR 38), some (vI s.1), some (vI s.2), some (vI g), some (vI o), some (vI k), x, y] [] h := by
  have e4 : h.1 38 1 ≤ 4 := hb.2.1.2.1
  have f6 : ∀ i, (fM h).2 6 i = h.1 44 i := fun _ => rfl
  have sg := hb.2.1.2.2 g g0 g1
  have so := hb.2.1.2.2 o o0 o1
  rw [f6] at sg so
  intro m
  induction m with
  | zero => intro k s x y km k1 q; exact u_X6_gift_4 (tx_mono _ _) ⟨fun _ => q _ _ _, fun c => by omega⟩
  | succ m ih =>
    intro k s x y km k1 q
    rw [gkF] at q
    have tl : ∀ (x y : Option AV), Bx z0 0 (tx mt (d + 29)) k_X6_gift K 8 [some (vR 38), some (vI s.1), some (vI s.2), some (vI g), some (vI o), some (vI k), x, y] [vI (psh (fM h) g o k)] h := by
      intro x y
      refine u_X6_gift_8 (tx_mono _ _) ⟨fun c => u_X6_gift_9 (tx_mono _ _) (u_X6_gift_10 (tx_mono _ _) ⟨fun _ => u_X6_gift_11 (tx_mono _ _) (u_X6_gift_12 (tx_mono _ _) ⟨⟨by omega, by omega⟩, ?_⟩), fun y => absurd c y⟩), fun c => ⟨⟨by omega, by omega⟩, ⟨by omega, by omega⟩, ⟨by omega, by omega⟩, ⟨by omega, by omega⟩, u_X6_gift_10 (tx_mono _ _) ⟨fun y => absurd y c, fun _ => u_X6_gift_12 (tx_mono _ _) ⟨⟨by omega, by omega⟩, ?_⟩⟩⟩⟩
      · rw [if_pos c] at q
        exact ih (k + 1) s _ _ (by omega) (by omega) q
      · rw [if_neg c] at q
        exact ih (k + 1) (100 * g + 10 * o + k, psh (fM h) g o k) _ _ (by omega) (by omega) q
    have no : g = o ∨ h.1 44 g < k ∨ 99 < h.1 44 o + k → Bx z0 0 (tx mt (d + 29)) k_X6_gift K 5 [some (vR 38), some (vI s.1), some (vI s.2), some (vI g), some (vI o), some (vI k), none, none] [] h := by
      intro c
      have e : psh (fM h) g o k = 0 := by rw [psh, f6, f6, if_pos c]
      rw [e] at tl
      exact u_X6_gift_5 (tx_mono _ _) (u_X6_gift_6 (tx_mono _ _) ⟨fun _ => u_X6_gift_7 (tx_mono _ _) (tl _ _), fun y => absurd rfl y⟩)
    exact u_X6_gift_4 (tx_mono _ _) ⟨fun c => by omega, fun _ => ⟨fun c => no (by omega), fun _ => ⟨g0, by omega, fun c => no (by omega), fun _ => ⟨o0, by omega, ⟨by omega, by omega⟩, fun c => no (by omega), fun _ => u_X6_gift_6 (tx_mono _ _) ⟨fun y => by omega, fun _ => s_X6_haveAfter hb g0 g1 o0 o1 (by omega) (by omega) (by omega) (by omega) (by omega) (tl _ _)⟩⟩⟩⟩⟩
theorem m_gift_o {d : Nat} {g : Int} {h : AH} {K : AK} (hb : okBd (fM h)) (g0 : 0 ≤ g) (g1 : g < h.1 38 1) : ∀ (m : Nat) (o : Int) (s : Int × Int) (x y z : Option AV), o + m = h.1 38 1 → 0 ≤ o → (∀ x y z t, Bx z0 0 (tx mt (d + 29)) k_X6_gift K 14 [some (vR 38), some (vI (goF (fM h) g m o s).1), some (vI (goF (fM h) g m o s).2), some (vI g), x, y, z, t] [] h) → Bx z0 0 (tx mt (d + 29)) k_X6_gift K 3 [some (vR 38), some (vI s.1), some (vI s.2), some (vI g), some (vI o), x, y, z] [] h := by
  have e4 : h.1 38 1 ≤ 4 := hb.2.1.2.1
  intro m
  induction m with
  | zero => intro o s x y z om o0 q; exact u_X6_gift_3 (tx_mono _ _) ⟨fun _ => q _ _ _ _, fun c => by omega⟩
  | succ m ih =>
    intro o s x y z om o0 q
    exact u_X6_gift_3 (tx_mono _ _) ⟨fun c => by omega, fun _ => m_gift_k hb g0 g1 o0 (by omega) 3 1 s _ _ (by decide) (by decide) (fun x y z => u_X6_gift_13 (tx_mono _ _) ⟨⟨by omega, by omega⟩, ih (o + 1) _ _ _ _ (by omega) (by omega) q⟩)⟩
theorem m_gift_g {d : Nat} {h : AH} {K : AK} (hb : okBd (fM h)) : ∀ (m : Nat) (g : Int) (s : Int × Int) (x y z t : Option AV), g + m = h.1 38 1 → 0 ≤ g → (∀ x y z t u, Bx z0 0 (tx mt (d + 29)) k_X6_gift K 15 [some (vR 38), some (vI (ggF (fM h) m g s).1), some (vI (ggF (fM h) m g s).2), x, y, z, t, u] [] h) → Bx z0 0 (tx mt (d + 29)) k_X6_gift K 2 [some (vR 38), some (vI s.1), some (vI s.2), some (vI g), x, y, z, t] [] h := by
  have e4 : h.1 38 1 ≤ 4 := hb.2.1.2.1
  intro m
  induction m with
  | zero => intro g s x y z t gm g0 q; exact u_X6_gift_2 (tx_mono _ _) ⟨fun _ => q _ _ _ _ _, fun c => by omega⟩
  | succ m ih =>
    intro g s x y z t gm g0 q
    exact u_X6_gift_2 (tx_mono _ _) ⟨fun c => by omega, fun _ => m_gift_o hb g0 (by omega) (h.1 38 1).toNat 0 s _ _ _ (by omega) (by decide) (fun x y z t => u_X6_gift_14 (tx_mono _ _) ⟨⟨by omega, by omega⟩, ih (g + 1) _ _ _ _ _ (by omega) (by omega) q⟩)⟩
theorem op_gift : OpI n_X5_gift n_X6_gift [] := by
  intro d n h n0 n1 H
  have fa := H.facts
  unfold Facts at fa
  obtain ⟨oR, oE, oS, oP, oZ, mE, mR, mEa, mS, mZ⟩ := H.ok
  by_cases c : h.1 1 0 = 0
  · skip
    repeat' first
      | first | exact H.m12 | exact H.rf (by decide) (by decide)
      | (with_reducible refine exI ?_)
      | (with_reducible refine exL ?_)
      | (with_reducible refine exV ?_)
      | (with_reducible apply And.intro)
      | (with_reducible refine cI_i (e_X5_gift ?_))
      | (with_reducible refine cL_i (e_X5_gift ?_))
      | (with_reducible refine cV_i (e_X5_gift ?_))
      | (with_reducible refine u_X5_gift_1 (tx_mono _ _) ?_)
      | (with_reducible refine u_X5_gift_2 (tx_mono _ _) ?_)
      | (with_reducible refine u_X5_gift_3 (tx_mono _ _) ?_)
      | (with_reducible refine u_X5_gift_4 (tx_mono _ _) ?_)
      | (with_reducible refine u_X5_gift_5 (tx_mono _ _) ?_)
      | (with_reducible refine u_X5_gift_6 (tx_mono _ _) ?_)
      | (with_reducible refine u_X5_gift_7 (tx_mono _ _) ?_)
      | (with_reducible refine u_X5_gift_8 (tx_mono _ _) ?_)
      | (with_reducible refine cI_i (e_X6_gift ?_))
      | (with_reducible refine cL_i (e_X6_gift ?_))
      | (with_reducible refine cV_i (e_X6_gift ?_))
      | (with_reducible refine u_X6_gift_1 (tx_mono _ _) ?_)
      | (with_reducible refine u_X6_gift_2 (tx_mono _ _) ?_)
      | (with_reducible refine u_X6_gift_3 (tx_mono _ _) ?_)
      | (with_reducible refine u_X6_gift_4 (tx_mono _ _) ?_)
      | (with_reducible refine u_X6_gift_5 (tx_mono _ _) ?_)
      | (with_reducible refine u_X6_gift_6 (tx_mono _ _) ?_)
      | (with_reducible refine u_X6_gift_7 (tx_mono _ _) ?_)
      | (with_reducible refine u_X6_gift_8 (tx_mono _ _) ?_)
      | (with_reducible refine u_X6_gift_9 (tx_mono _ _) ?_)
      | (with_reducible refine u_X6_gift_10 (tx_mono _ _) ?_)
      | (with_reducible refine u_X6_gift_11 (tx_mono _ _) ?_)
      | (with_reducible refine u_X6_gift_12 (tx_mono _ _) ?_)
      | (with_reducible refine u_X6_gift_13 (tx_mono _ _) ?_)
      | (with_reducible refine u_X6_gift_14 (tx_mono _ _) ?_)
      | (with_reducible refine u_X6_gift_15 (tx_mono _ _) ?_)
      | (with_reducible apply s_J6_bitCount_0f7a4)
      | (with_reducible apply s_X0_pleasedBits)
      | (with_reducible apply s_X0_pleasedByPush)
      | (with_reducible apply c_X5_refuse)
      | (with_reducible apply s_X6_haveAfter)
      | (with_reducible apply s_X6_haveBits)
      | (with_reducible apply s_X6_ones)
      | (with_reducible apply c_X6_refuse)
      | exact isB1
      | exact True.intro
      | (intro _ e9; subst e9)
      | (intro c9; exfalso; first | omega | (simp only [inI, upI_e, Nat.reduceEqDiff, Nat.reduceAdd, true_and, and_true, false_and, and_false, if_true, if_false, ite_true, ite_false, reduceIte, Int.reduceEq, not_true_eq_false, not_false_eq_true, Decidable.not_not] at c9; omega))
      | (intro c9; (try simp only [inI, upI_e, Nat.reduceEqDiff, Nat.reduceAdd, true_and, and_true, false_and, and_false, if_true, if_false, ite_true, ite_false, reduceIte, Int.reduceEq, not_true_eq_false, not_false_eq_true, Decidable.not_not] at c9))
      | (with_reducible show _ ≤ _; first | omega | (simp only [inI, upI_e, Nat.reduceEqDiff, Nat.reduceAdd, true_and, and_true, false_and, and_false, if_true, if_false, ite_true, ite_false, reduceIte, Int.reduceEq, not_true_eq_false, not_false_eq_true, Decidable.not_not]; omega))
      | (with_reducible show _ < _; first | omega | (simp only [inI, upI_e, Nat.reduceEqDiff, Nat.reduceAdd, true_and, and_true, false_and, and_false, if_true, if_false, ite_true, ite_false, reduceIte, Int.reduceEq, not_true_eq_false, not_false_eq_true, Decidable.not_not]; omega))
      | (with_reducible show _ = _; first | omega | (simp only [inI, upI_e, Nat.reduceEqDiff, Nat.reduceAdd, true_and, and_true, false_and, and_false, if_true, if_false, ite_true, ite_false, reduceIte, Int.reduceEq, not_true_eq_false, not_false_eq_true, Decidable.not_not]; omega))
      | (with_reducible show _ ∧ _; first | omega | (simp only [inI, upI_e, Nat.reduceEqDiff, Nat.reduceAdd, true_and, and_true, false_and, and_false, if_true, if_false, ite_true, ite_false, reduceIte, Int.reduceEq, not_true_eq_false, not_false_eq_true, Decidable.not_not]; omega))
      | (with_reducible show _ ∨ _; first | omega | (simp only [inI, upI_e, Nat.reduceEqDiff, Nat.reduceAdd, true_and, and_true, false_and, and_false, if_true, if_false, ite_true, ite_false, reduceIte, Int.reduceEq, not_true_eq_false, not_false_eq_true, Decidable.not_not]; omega))
      | (with_reducible show inI _; first | omega | (simp only [inI, upI_e, Nat.reduceEqDiff, Nat.reduceAdd, true_and, and_true, false_and, and_false, if_true, if_false, ite_true, ite_false, reduceIte, Int.reduceEq, not_true_eq_false, not_false_eq_true, Decidable.not_not]; omega))
      | (with_reducible show ¬ _; first | omega | (simp only [inI, upI_e, Nat.reduceEqDiff, Nat.reduceAdd, true_and, and_true, false_and, and_false, if_true, if_false, ite_true, ite_false, reduceIte, Int.reduceEq, not_true_eq_false, not_false_eq_true, Decidable.not_not]; omega))
  have lt := bitsB_lt oE
  have f1 : (fX h 1).1 1 = h.1 1 3 := rfl
  refine cI_i (e_X5_gift ⟨fun _ => u_X5_gift_1 (tx_mono _ _) (s_X0_pleasedBits isB1 oR oE (s_J6_bitCount_0f7a4 lt.1 lt.2 ?_)), fun _ => by omega⟩)
  refine x_gift_g oR oE (h.1 1 3).toNat 0 (-9, pop (bitsB (fX h 1))) _ _ _ (by omega) (by decide) (fun x y z t => u_X5_gift_8 (tx_mono _ _) (exI ?_))
  refine cI_i (e_X6_gift ?_)
  intro h1 w1
  rw [w1]
  have c1 : (upI h 38 12 0).1 38 1 = h.1 1 3 := by (simp only [inI, upI_e, Nat.reduceEqDiff, Nat.reduceAdd, true_and, and_true, false_and, and_false, if_true, if_false, ite_true, ite_false, reduceIte, Int.reduceEq, not_true_eq_false, not_false_eq_true, Decidable.not_not]); omega
  have c0 : (upI h 38 12 0).1 38 0 = h.1 1 0 := by (simp only [inI, upI_e, Nat.reduceEqDiff, Nat.reduceAdd, true_and, and_true, false_and, and_false, if_true, if_false, ite_true, ite_false, reduceIte, Int.reduceEq, not_true_eq_false, not_false_eq_true, Decidable.not_not]); omega
  have lm := bitsB_lt mEa
  refine ⟨fun _ => u_X6_gift_1 (tx_mono _ _) (s_X6_haveBits mR mEa (s_X6_ones lm.1 lm.2 ?_)), fun y => absurd (by rw [c0]; exact c) y⟩
  have hb : okBd (fM (upI h 38 12 0)) := by rw [mE]; exact H.1.1
  have mg := m_gift_g (d := d) (K := fun r h' => ∃ z, r = some (.inl z) ∧ ((ggF (fX h 1) (h.1 1 3).toNat 0 (-9, pop (bitsB (fX h 1)))).1 = z ∧ Inv (n + 1) h')) hb (h.1 1 3).toNat 0 (-9, pop (bitsB (fM (upI h 38 12 0)))) none none none none (by omega) (by decide)
  refine mg (fun x y z t u => u_X6_gift_15 (tx_mono _ _) (exI ⟨?_, H.m12⟩))
  rw [mE]
