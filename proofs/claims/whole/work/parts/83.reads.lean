/-! ===== table: a statement is read ===== -/
def nA (l : Int) : Nat := if l = 114 then 1 else if l = 101 then 4 else if l = 98 then 3 else if l = 119 then 2 else 0
def Fs (k : Int) (h h' : AH) : Prop := (∀ c, c ≠ 38 → c ≠ 49 → c ≠ 50 → c ≠ 51 → h'.1 c = h.1 c) ∧ (∀ j, j ≠ 22 → j ≠ 23 → j ≠ 24 → h'.1 38 j = h.1 38 j) ∧ (∀ i, i < k → h'.1 49 i = h.1 49 i ∧ h'.1 50 i = h.1 50 i) ∧ (∀ i, i < 4 * k → h'.1 51 i = h.1 51 i)
def Fc (g : Int → Int) (h h' : AH) : Prop := (∀ c, c ≠ 38 → c ≠ 51 → h'.1 c = h.1 c) ∧ (∀ j, j ≠ 22 → j ≠ 23 → h'.1 38 j = h.1 38 j) ∧ ∀ i, h'.1 51 i = g i
theorem Fc.q {g : Int → Int} {h h' h1 : AH} (F : Fc g h h') (Q : Fq h' h1) : Fc g h h1 := ⟨fun c a b => by rw [Q.1 c a, F.1 c a b], fun j a b => by rw [Q.2 j a b, F.2.1 j a b], fun i => by rw [Q.1 51 (by decide)]; exact F.2.2 i⟩
theorem Fc.w {g : Int → Int} {h h' : AH} (F : Fc g h h') (a v : Int) : Fc (fun i => if i = a then v else g i) h (upI h' 51 a v) := by
  refine ⟨fun c x y => ?_, fun j x y => ?_, fun i => ?_⟩
  · rw [← F.1 c x y]
    funext i
    rw [upI_e, if_neg (by omega)]
  · rw [upI_e, if_neg (by omega)]
    exact F.2.1 j x y
  · rw [upI_e]
    show _ = if i = a then v else g i
    by_cases c : i = a
    · rw [if_pos ⟨rfl, c⟩, if_pos c]
    · rw [if_neg (by omega), if_neg c]
      exact F.2.2 i
theorem Ltt.c {sg : Int → Int} {g : Int → Int} {h h' : AH} (L : Ltt sg h) (F : Fc g h h') : Ltt sg h' := by
  unfold Ltt
  rw [F.1 48 (by decide) (by decide), F.2.1 21 (by decide) (by decide)]
  exact L
theorem Ste.w {h : AH} {s : Int × Bool} (S : Ste h s) (a v : Int) : Ste (upI h 51 a v) s := by
  unfold Ste
  rw [upI_e, upI_e, if_neg (by omega), if_neg (by omega)]
  exact S
theorem vDd {sg : Int → Int} {x : Int} (h : dg (sg x) = true) : vD sg (x, false) = sg x - 48 := if_pos ⟨rfl, h⟩
theorem spd {sg : Int → Int} {x : Int} (h : dg (sg x) = true) : sp sg 100 (x, false) = (x + 1, false) := by
  rw [sp, if_neg (by intro y; cases y), if_pos (Or.inl rfl), if_pos h]
theorem sp68t {sg : Int → Int} {x : Int} (h : dg (sg x) = true) : sp sg 68 (x, false) = (x + 1, false) := by
  rw [sp, if_neg (by intro y; cases y), if_pos (Or.inr rfl), if_pos h]
theorem sp68f {sg : Int → Int} {x : Int} (h : dg (sg x) = false) : sp sg 68 (x, false) = (x, false) := by
  rw [sp, if_neg (by intro y; cases y), if_pos (Or.inr rfl), if_neg (by rw [h]; decide), if_pos rfl]
theorem spc {sg : Int → Int} {x c : Int} (hc : ¬ (c = 100 ∨ c = 68)) (h : sg x = c) : sp sg c (x, false) = (x + 1, false) := by
  rw [sp, if_neg (by intro y; cases y), if_neg hc, if_pos h]
theorem v12_v {sg : Int → Int} {p : Int} (h : dg (sg (p + 1)) = true) : v12 sg (p + 1, false) = ar12 sg p := by
  rw [v12, spd h, ar12]
  simp only [true_and, show p + 1 + 1 = p + 2 by omega]
  by_cases c : dg (sg (p + 2)) = true
  · rw [if_pos c, if_pos c, vDd h, vDd c]
  · rw [if_neg c, if_neg c, vDd h]
theorem s_X6_readStatement {d : Nat} {sg : Int → Int} {p k : Int} {h : AH} {K : AH → Prop} (L : Ltt sg h) (hp : h.1 38 22 = p) (h23 : h.1 38 23 = 0) (h24 : h.1 38 24 = k) (p0 : 0 ≤ p) (p1 : p ≤ 96) (k0 : 0 ≤ k) (k48 : k ≤ 48) (q : ∀ h1, Fs k h h1 → h1.1 38 22 = (stp sg p).1 → h1.1 38 23 = b2i (stp sg p).2 → h1.1 38 24 = k + 1 → h1.1 49 k = p → h1.1 50 k = sg p → ((stp sg p).2 = false → ∀ j : Nat, j < nA (sg p) → h1.1 51 (4 * k + j) = arg sg p j) → K h1) : cV (tx mt (d + 5)) n_X6_readStatement [vR 38] h K := by
  refine cV_i (e_X6_readStatement (s_X6_here L (by rw [hp]; exact p0) ?_))
  rw [h24, hp]
  refine ⟨⟨by omega, by omega⟩, k0, by omega, fun h4 w4 => ⟨k0, by omega, fun h5 w5 => ?_⟩⟩
  have f5 : Fc (h.1 51) h5 h5 := ⟨fun _ _ _ => rfl, fun _ _ _ => rfl, fun i => by rw [w5, upI_e, if_neg (by omega), w4, upI_e, if_neg (by omega)]⟩
  have k5 : ∀ c, c ≠ 49 → c ≠ 50 → h5.1 c = h.1 c := fun c a b => by
    funext i
    rw [w5, upI_e, if_neg (by omega), w4, upI_e, if_neg (by omega)]
  have k49 : ∀ i, h5.1 49 i = if i = k then p else h.1 49 i := fun i => by
    rw [w5, upI_e, if_neg (by omega), w4, upI_e]
    by_cases c : i = k
    · rw [if_pos ⟨rfl, c⟩, if_pos c]
    · rw [if_neg (by omega), if_neg c]
  have k50 : ∀ i, h5.1 50 i = if i = k then sg p else h.1 50 i := fun i => by
    rw [w5, upI_e]
    by_cases c : i = k
    · rw [if_pos ⟨rfl, c⟩, if_pos c]
    · rw [if_neg (by omega), if_neg c, w4, upI_e, if_neg (by omega)]
  have L5 : Ltt sg h5 := by
    unfold Ltt
    rw [k5 38 (by decide) (by decide), k5 48 (by decide) (by decide)]
    exact L
  have n10 : ∀ (g : Int → Int) (s : Int × Bool) (h' : AH) (x1 x2 x3 : Option AV), Fc g h5 h' → Ste h' s → stp sg p = sp sg 59 s → 0 ≤ s.1 → s.1 ≤ 300 → (∀ i, i < 4 * k → g i = h.1 51 i) → ((stp sg p).2 = false → ∀ j : Nat, j < nA (sg p) → g (4 * k + j) = arg sg p j) → Bx z0 0 (tx mt (d+4)) k_X6_readStatement (fun r h' => r = none ∧ K h') 10 [some (vR 38), x1, x2, x3] [] h' := by
    intro g s h' x1 x2 x3 F S es s0 s3 hg ha
    refine u_X6_readStatement_10 (tx_mono _ _) (s_X6_take (by decide) (L5.c F) S s0 s3 (fun h1 F1 S1 => ?_))
    rw [← es] at S1
    have F2 := F.q F1
    have e24 : h1.1 38 24 = k := by rw [F2.2.1 24 (by decide) (by decide), k5 38 (by decide) (by decide), h24]
    rw [e24]
    have up : ∀ c j, c ≠ 38 → (upI h1 38 24 (k + 1)).1 c j = h1.1 c j := fun c j hc => by rw [upI_e, if_neg (by omega)]
    refine ⟨⟨by omega, by omega⟩, fun h3 w3 => exV (q h3 ⟨fun c a b e f => ?_, fun j a b e => ?_, fun i hi => ⟨?_, ?_⟩, fun i hi => ?_⟩ ?_ ?_ ?_ ?_ ?_ (fun ok j hj => ?_))⟩
    · funext i
      rw [w3, up c i a, F2.1 c a f, k5 c b e]
    · rw [w3, upI_e, if_neg (by omega), F2.2.1 j a b, k5 38 (by decide) (by decide)]
    · rw [w3, up 49 i (by decide), F2.1 49 (by decide) (by decide), k49, if_neg (by omega)]
    · rw [w3, up 50 i (by decide), F2.1 50 (by decide) (by decide), k50, if_neg (by omega)]
    · rw [w3, up 51 i (by decide), F2.2.2, hg i hi]
    · rw [w3, upI_e, if_neg (by omega)]; exact S1.1
    · rw [w3, upI_e, if_neg (by omega)]; exact S1.2
    · rw [w3, upI_e, if_pos ⟨rfl, rfl⟩]
    · rw [w3, up 49 k (by decide), F2.1 49 (by decide) (by decide), k49, if_pos rfl]
    · rw [w3, up 50 k (by decide), F2.1 50 (by decide) (by decide), k50, if_pos rfl]
    · rw [w3, up 51 _ (by decide), F2.2.2]
      exact ha ok j hj
  have good : (sg p = 114 ∨ sg p = 101 ∨ sg p = 98 ∨ sg p = 119 ∨ sg p = 116) → ∀ h6, Fc (h.1 51) h5 h6 → Ste h6 (p + 1, false) → ∀ x1, (sg p = 98 → Bx z0 0 (tx mt (d+4)) k_X6_readStatement (fun r h' => r = none ∧ K h') 8 [some (vR 38), x1, some (vI ((sg p))), some (vI ((4 * k)))] [] h6) ∧ (¬ sg p = 98 → (sg p = 101 → Bx z0 0 (tx mt (d+4)) k_X6_readStatement (fun r h' => r = none ∧ K h') 7 [some (vR 38), x1, some (vI ((sg p))), some (vI ((4 * k)))] [] h6) ∧ (¬ sg p = 101 → (sg p = 114 → Bx z0 0 (tx mt (d+4)) k_X6_readStatement (fun r h' => r = none ∧ K h') 6 [some (vR 38), x1, some (vI ((sg p))), some (vI ((4 * k)))] [] h6) ∧ (¬ sg p = 114 → (sg p = 119 → Bx z0 0 (tx mt (d+4)) k_X6_readStatement (fun r h' => r = none ∧ K h') 9 [some (vR 38), x1, some (vI ((sg p))), some (vI ((4 * k)))] [] h6) ∧ (¬ sg p = 119 → Bx z0 0 (tx mt (d+4)) k_X6_readStatement (fun r h' => r = none ∧ K h') 10 [some (vR 38), x1, some (vI ((sg p))), some (vI ((4 * k)))] [] h6)))) := by
    intro hl h6 F6 S6 x1
    have L6 := L5.c F6
    have f1 : ∀ (x : Int) (b : Bool), (x, b).1 = x := fun _ _ => rfl
    refine ⟨fun l => u_X6_readStatement_8 (tx_mono _ _) (s_X6_read12 L6 S6 (by rw [f1]; omega) (by rw [f1]; omega) (fun h7 Q7 S7 => ⟨by omega, by omega, fun h8 w8 => ?_⟩)), fun _ => ⟨fun l => u_X6_readStatement_7 (tx_mono _ _) (s_X6_readDigit L6 S6 (by rw [f1]; omega) (by rw [f1]; omega) (fun h7 Q7 S7 => ⟨by omega, by omega, fun h8 w8 => ?_⟩)), fun _ => ⟨fun l => u_X6_readStatement_6 (tx_mono _ _) (s_X6_read12 L6 S6 (by rw [f1]; omega) (by rw [f1]; omega) (fun h7 Q7 S7 => ⟨by omega, by omega, fun h8 w8 => ?_⟩)), fun _ => ⟨fun l => u_X6_readStatement_9 (tx_mono _ _) (s_X6_readDigit L6 S6 (by rw [f1]; omega) (by rw [f1]; omega) (fun h7 Q7 S7 => ⟨by omega, by omega, fun h8 w8 => ?_⟩)), fun _ => ?_⟩⟩⟩⟩
    · have F8 := (F6.q Q7).w (4 * k) (v12 sg (p + 1, false))
      have S8 := S7.w (4 * k) (v12 sg (p + 1, false))
      rw [← w8] at F8 S8
      have e1 := sp_le (sg := sg) (c := 100) (s := (p + 1, false))
      have e2 := sp_le (sg := sg) (c := 68) (s := sp sg 100 (p + 1, false))
      rw [f1] at e1
      refine s_X6_take (by decide) (L5.c F8) S8 (by omega) (by omega) (fun h9 Q9 S9 => ⟨⟨by omega, by omega⟩, ?_⟩)
      have F9 := F8.q Q9
      have e3 := sp_le (sg := sg) (c := 44) (s := sp sg 68 (sp sg 100 (p + 1, false)))
      have e4 := sp_le (sg := sg) (c := 100) (s := sp sg 44 (sp sg 68 (sp sg 100 (p + 1, false))))
      have e5 := sp_le (sg := sg) (c := 100) (s := sp sg 100 (sp sg 44 (sp sg 68 (sp sg 100 (p + 1, false)))))
      generalize hs3 : sp sg 44 (sp sg 68 (sp sg 100 (p + 1, false))) = s3 at e3 e4 e5 S9
      refine s_X6_readDigit (L5.c F9) S9 (by omega) (by omega) (fun ha Qa Sa => ⟨by omega, by omega, fun hb wb => ?_⟩)
      have Fb := (F9.q Qa).w (4 * k + 1) (vD sg s3)
      have Sb := Sa.w (4 * k + 1) (vD sg s3)
      rw [← wb] at Fb Sb
      refine ⟨⟨by omega, by omega⟩, s_X6_readDigit (L5.c Fb) Sb (by omega) (by omega) (fun hc Qc Sc => ⟨by omega, by omega, fun hd wd => ?_⟩)⟩
      have Fd := (Fb.q Qc).w (4 * k + 2) (vD sg (sp sg 100 s3))
      have Sd := Sc.w (4 * k + 2) (vD sg (sp sg 100 s3))
      rw [← wd] at Fd Sd
      refine n10 _ _ hd _ _ _ Fd Sd (by rw [stp, l, ← hs3]; rfl) (by omega) (by omega) (fun i hi => ?_) (fun ok j hj => ?_)
      · show (if i = 4 * k + 2 then _ else if i = 4 * k + 1 then _ else if i = 4 * k then _ else h.1 51 i) = h.1 51 i
        rw [if_neg (by omega), if_neg (by omega), if_neg (by omega)]
      · have hj : j < 3 := by rw [nA, if_neg (by omega), if_neg (by omega), if_pos l] at hj; exact hj
        obtain ⟨d1, okb⟩ := ok_b l ok
        have v : s3 = (arO sg p + 3, false) ∧ dg (sg (arO sg p + 3)) = true ∧ dg (sg (arO sg p + 4)) = true := by
          rw [← hs3, arO, spd d1, show p + 1 + 1 = p + 2 by omega]
          rcases okb with ⟨d2, d3, d4, d5, _⟩ | ⟨d2, d3, d4, d5, _⟩
          · rw [sp68t d2, show p + 2 + 1 = p + 3 by omega, spc (by decide) d3, if_pos d2, show p + 1 + 3 = p + 4 by omega, show p + 1 + 4 = p + 5 by omega]
            exact ⟨by rw [show p + 3 + 1 = p + 4 by omega], d4, d5⟩
          · rw [sp68f d2, spc (by decide) d3, if_neg (by rw [d2]; decide)]
            exact ⟨by rw [show p + 2 + 1 = p + 3 by omega], d4, d5⟩
        obtain ⟨v1, v2, v3⟩ := v
        show (if 4 * k + (j : Int) = 4 * k + 2 then vD sg (sp sg 100 s3) else if 4 * k + (j : Int) = 4 * k + 1 then vD sg s3 else if 4 * k + (j : Int) = 4 * k then v12 sg (p + 1, false) else h.1 51 (4 * k + j)) = arg sg p j
        have ea : arg sg p j = if j = 0 then ar12 sg p else if j = 1 then sg (arO sg p + 3) - 48 else sg (arO sg p + 4) - 48 := by rw [arg, if_neg (by omega), if_neg (by omega), if_pos l]
        rw [ea, v1, spd v2, vDd v2, show arO sg p + 3 + 1 = arO sg p + 4 by omega, vDd v3, v12_v d1]
        rcases (show j = 0 ∨ j = 1 ∨ j = 2 by omega) with rfl | rfl | rfl
        · rw [if_neg (by omega), if_neg (by omega), if_pos (by omega), if_pos rfl]
        · rw [if_neg (by omega), if_pos (by omega), if_neg (by decide), if_pos rfl]
        · rw [if_pos (by omega), if_neg (by decide), if_neg (by decide)]
    · have F8 := (F6.q Q7).w (4 * k) (vD sg (p + 1, false))
      have S8 := S7.w (4 * k) (vD sg (p + 1, false))
      rw [← w8] at F8 S8
      have e1 := sp_le (sg := sg) (c := 100) (s := (p + 1, false))
      rw [f1] at e1
      generalize hs1 : sp sg 100 (p + 1, false) = s1 at e1 S8
      have e2 := sp_le (sg := sg) (c := 100) (s := s1)
      refine ⟨⟨by omega, by omega⟩, s_X6_readDigit (L5.c F8) S8 (by omega) (by omega) (fun h9 Q9 S9 => ⟨by omega, by omega, fun ha wa => ?_⟩)⟩
      have Fa := (F8.q Q9).w (4 * k + 1) (vD sg s1)
      have Sa := S9.w (4 * k + 1) (vD sg s1)
      rw [← wa] at Fa Sa
      generalize hs2 : sp sg 100 s1 = s2 at e2 Sa
      have e3 := sp_le (sg := sg) (c := 100) (s := s2)
      have e4 := sp_le (sg := sg) (c := 100) (s := sp sg 100 s2)
      refine ⟨⟨by omega, by omega⟩, s_X6_readTwo (L5.c Fa) Sa (by omega) (by omega) (fun hb Qb Sb => ⟨by omega, by omega, fun hc wc => ?_⟩)⟩
      have Fc := (Fa.q Qb).w (4 * k + 2) (10 * vD sg s2 + vD sg (sp sg 100 s2))
      have Sc := Sb.w (4 * k + 2) (10 * vD sg s2 + vD sg (sp sg 100 s2))
      rw [← wc] at Fc Sc
      generalize hs4 : sp sg 100 (sp sg 100 s2) = s4 at e4 Sc
      have e5 := sp_le (sg := sg) (c := 100) (s := s4)
      have e6 := sp_le (sg := sg) (c := 100) (s := sp sg 100 s4)
      refine ⟨⟨by omega, by omega⟩, s_X6_readTwo (L5.c Fc) Sc (by omega) (by omega) (fun hd Qd Sd => ⟨by omega, by omega, fun he we => ?_⟩)⟩
      have Fe := (Fc.q Qd).w (4 * k + 3) (10 * vD sg s4 + vD sg (sp sg 100 s4))
      have Se := Sd.w (4 * k + 3) (10 * vD sg s4 + vD sg (sp sg 100 s4))
      rw [← we] at Fe Se
      refine n10 _ _ he _ _ _ Fe Se (by rw [stp, l, ← hs4, ← hs2, ← hs1]; rfl) (by omega) (by omega) (fun i hi => ?_) (fun ok j hj => ?_)
      · show (if i = 4 * k + 3 then _ else if i = 4 * k + 2 then _ else if i = 4 * k + 1 then _ else if i = 4 * k then _ else h.1 51 i) = h.1 51 i
        rw [if_neg (by omega), if_neg (by omega), if_neg (by omega), if_neg (by omega)]
      · have hj : j < 4 := by rw [nA, if_neg (by omega), if_pos l] at hj; exact hj
        obtain ⟨d1, d2, d3, d4, d5, d6, _⟩ := ok_e l ok
        have v1 : s1 = (p + 2, false) := by rw [← hs1, spd d1, show p + 1 + 1 = p + 2 by omega]
        have v2 : s2 = (p + 3, false) := by rw [← hs2, v1, spd d2, show p + 2 + 1 = p + 3 by omega]
        have v3 : sp sg 100 s2 = (p + 4, false) := by rw [v2, spd d3, show p + 3 + 1 = p + 4 by omega]
        have v4 : s4 = (p + 5, false) := by rw [← hs4, v3, spd d4, show p + 4 + 1 = p + 5 by omega]
        have v5 : sp sg 100 s4 = (p + 6, false) := by rw [v4, spd d5, show p + 5 + 1 = p + 6 by omega]
        show (if 4 * k + (j : Int) = 4 * k + 3 then 10 * vD sg s4 + vD sg (sp sg 100 s4) else if 4 * k + (j : Int) = 4 * k + 2 then 10 * vD sg s2 + vD sg (sp sg 100 s2) else if 4 * k + (j : Int) = 4 * k + 1 then vD sg s1 else if 4 * k + (j : Int) = 4 * k then vD sg (p + 1, false) else h.1 51 (4 * k + j)) = arg sg p j
        have ea : arg sg p j = if j = 0 then sg (p + 1) - 48 else if j = 1 then sg (p + 2) - 48 else if j = 2 then 10 * (sg (p + 3) - 48) + (sg (p + 4) - 48) else 10 * (sg (p + 5) - 48) + (sg (p + 6) - 48) := by rw [arg, if_pos l]
        rw [ea, v5, v4, v3, v2, v1, vDd d1, vDd d2, vDd d3, vDd d4, vDd d5, vDd d6]
        rcases (show j = 0 ∨ j = 1 ∨ j = 2 ∨ j = 3 by omega) with rfl | rfl | rfl | rfl
        · rw [if_neg (by omega), if_neg (by omega), if_neg (by omega), if_pos (by omega), if_pos rfl]
        · rw [if_neg (by omega), if_neg (by omega), if_pos (by omega), if_neg (by decide), if_pos rfl]
        · rw [if_neg (by omega), if_pos (by omega), if_neg (by decide), if_neg (by decide), if_pos rfl]
        · rw [if_pos (by omega), if_neg (by decide), if_neg (by decide), if_neg (by decide)]
    · have F8 := (F6.q Q7).w (4 * k) (v12 sg (p + 1, false))
      have S8 := S7.w (4 * k) (v12 sg (p + 1, false))
      rw [← w8] at F8 S8
      have e1 := sp_le (sg := sg) (c := 100) (s := (p + 1, false))
      have e2 := sp_le (sg := sg) (c := 68) (s := sp sg 100 (p + 1, false))
      rw [f1] at e1
      refine n10 _ _ h8 _ _ _ F8 S8 (by rw [stp, l]; rfl) (by omega) (by omega) (fun i hi => ?_) (fun ok j hj => ?_)
      · show (if i = 4 * k then _ else h.1 51 i) = h.1 51 i
        rw [if_neg (by omega)]
      · have hj : j < 1 := by rw [nA, if_pos l] at hj; exact hj
        obtain ⟨d1, _⟩ := ok_r l ok
        obtain rfl : j = 0 := by omega
        show (if 4 * k + ((0 : Nat) : Int) = 4 * k then v12 sg (p + 1, false) else h.1 51 (4 * k + ((0 : Nat) : Int))) = arg sg p 0
        rw [if_pos (by omega), arg, if_neg (by omega), if_neg (by omega), if_neg (by omega), v12_v d1]
    · have F8 := (F6.q Q7).w (4 * k) (vD sg (p + 1, false))
      have S8 := S7.w (4 * k) (vD sg (p + 1, false))
      rw [← w8] at F8 S8
      have e1 := sp_le (sg := sg) (c := 100) (s := (p + 1, false))
      rw [f1] at e1
      generalize hs1 : sp sg 100 (p + 1, false) = s1 at e1 S8
      have e2 := sp_le (sg := sg) (c := 100) (s := s1)
      have e3 := sp_le (sg := sg) (c := 100) (s := sp sg 100 s1)
      refine ⟨⟨by omega, by omega⟩, s_X6_readTwo (L5.c F8) S8 (by omega) (by omega) (fun h9 Q9 S9 => ⟨by omega, by omega, fun ha wa => ?_⟩)⟩
      have Fa := (F8.q Q9).w (4 * k + 1) (10 * vD sg s1 + vD sg (sp sg 100 s1))
      have Sa := S9.w (4 * k + 1) (10 * vD sg s1 + vD sg (sp sg 100 s1))
      rw [← wa] at Fa Sa
      refine n10 _ _ ha _ _ _ Fa Sa (by rw [stp, l, ← hs1]; rfl) (by omega) (by omega) (fun i hi => ?_) (fun ok j hj => ?_)
      · show (if i = 4 * k + 1 then _ else if i = 4 * k then _ else h.1 51 i) = h.1 51 i
        rw [if_neg (by omega), if_neg (by omega)]
      · have hj : j < 2 := by rw [nA, if_neg (by omega), if_neg (by omega), if_neg (by omega), if_pos l] at hj; exact hj
        obtain ⟨d1, d2, d3, _⟩ := ok_w l ok
        have v1 : s1 = (p + 2, false) := by rw [← hs1, spd d1, show p + 1 + 1 = p + 2 by omega]
        have v2 : sp sg 100 s1 = (p + 3, false) := by rw [v1, spd d2, show p + 2 + 1 = p + 3 by omega]
        show (if 4 * k + (j : Int) = 4 * k + 1 then 10 * vD sg s1 + vD sg (sp sg 100 s1) else if 4 * k + (j : Int) = 4 * k then vD sg (p + 1, false) else h.1 51 (4 * k + j)) = arg sg p j
        have ea : arg sg p j = if j = 0 then sg (p + 1) - 48 else 10 * (sg (p + 2) - 48) + (sg (p + 3) - 48) := by rw [arg, if_neg (by omega), if_pos l]
        rw [ea, v2, v1, vDd d1, vDd d2, vDd d3]
        rcases (show j = 0 ∨ j = 1 by omega) with rfl | rfl
        · rw [if_neg (by omega), if_pos (by omega), if_pos rfl]
        · rw [if_pos (by omega), if_neg (by decide)]
    · have l : sg p = 116 := by omega
      refine n10 _ _ h6 _ _ _ F6 S6 (by rw [stp, l]; rfl) (by rw [f1]; omega) (by rw [f1]; omega) (fun i hi => rfl) (fun ok j hj => ?_)
      rw [nA, if_neg (by omega), if_neg (by omega), if_neg (by omega), if_neg (by omega)] at hj
      omega
  have e22 : h5.1 38 22 = p := by rw [k5 38 (by decide) (by decide), hp]
  have e23 : h5.1 38 23 = 0 := by rw [k5 38 (by decide) (by decide), h23]
  have n2 : (sg p = 114 ∨ sg p = 101 ∨ sg p = 98 ∨ sg p = 119 ∨ sg p = 116) → Bx z0 0 (tx mt (d+4)) k_X6_readStatement (fun r h' => r = none ∧ K h') 2 [some (vR 38), some (vI k), some (vI ((sg p))), some (vI ((4 * k)))] [vR 38] h5 := by
    intro hl
    refine u_X6_readStatement_2 (tx_mono _ _) (u_X6_readStatement_3 (tx_mono _ _) ⟨Or.inl rfl, fun h1 w1 => ?_⟩)
    have c23 : h1.1 38 23 = 0 := by rw [w1, upI_e, if_pos ⟨rfl, rfl⟩]
    have c22 : h1.1 38 22 = p := by rw [w1, upI_e, if_neg (by omega), e22]
    rw [c23, c22]
    refine ⟨fun _ => u_X6_readStatement_4 (tx_mono _ _) (u_X6_readStatement_5 (tx_mono _ _) ⟨⟨by omega, by omega⟩, fun h2 w2 => ?_⟩), fun y => absurd rfl y⟩
    refine good hl h2 (f5.q (by rw [w2, w1]; exact (Fq.rf.up (Or.inr rfl) _).up (Or.inl rfl) _)) ⟨?_, ?_⟩ _
    · rw [w2, upI_e, if_pos ⟨rfl, rfl⟩]
    · rw [w2, upI_e, if_neg (by omega), c23]
      rfl
  refine ⟨fun y => absurd e23 y, fun _ => ⟨fun c1 => n2 (by omega), fun c1 => ⟨fun c2 => n2 (by omega), fun c2 => ⟨fun c3 => n2 (by omega), fun c3 => ⟨fun c4 => n2 (by omega), fun c4 => ⟨fun c5 => n2 (by omega), fun c5 => ?_⟩⟩⟩⟩⟩⟩
  have es : stp sg p = (p, true) := by rw [stp, fmI, if_neg c1, if_neg c2, if_neg c3, if_neg c4, if_neg c5, if_pos rfl]
  refine u_X6_readStatement_1 (tx_mono _ _) (u_X6_readStatement_3 (tx_mono _ _) ⟨Or.inr rfl, fun h1 w1 => ?_⟩)
  have c23 : h1.1 38 23 = 1 := by rw [w1, upI_e, if_pos ⟨rfl, rfl⟩]
  have c22 : h1.1 38 22 = p := by rw [w1, upI_e, if_neg (by omega), e22]
  rw [c23, c22]
  refine ⟨fun y => absurd y (by decide), fun _ => u_X6_readStatement_5 (tx_mono _ _) ⟨⟨by omega, by omega⟩, fun h6 w6 => ?_⟩⟩
  have n : Bx z0 0 (tx mt (d+4)) k_X6_readStatement (fun r h' => r = none ∧ K h') 10 [some (vR 38), none, some (vI ((sg p))), some (vI ((4 * k)))] [] h6 := n10 _ (p, true) h6 _ _ _ (f5.q (by rw [w6, w1]; exact (Fq.rf.up (Or.inr rfl) _).up (Or.inl rfl) _)) ⟨by rw [w6, upI_e, if_pos ⟨rfl, rfl⟩]; show p + 0 = p; omega, by rw [w6, upI_e, if_neg (by omega), c23]; rfl⟩ (by rw [es, sp, if_pos rfl]) p0 (by show p ≤ 300; omega) (fun i hi => rfl) (fun ok => by rw [es] at ok; cases ok)
  exact ⟨fun y => absurd y c3, fun _ => ⟨fun y => absurd y c2, fun _ => ⟨fun y => absurd y c1, fun _ => ⟨fun y => absurd y c4, fun _ => n⟩⟩⟩⟩
