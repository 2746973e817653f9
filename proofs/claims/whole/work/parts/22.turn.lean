/-! ===== turns and suppers ===== -/
def findN (p : Nat → Bool) : Nat → Nat → Nat
  | 0, i => i
  | n + 1, i => if p i = true then i else findN p n (i + 1)
theorem findN_spec (p : Nat → Bool) : ∀ (n i : Nat), i ≤ findN p n i ∧ findN p n i ≤ i + n ∧ (∀ j, i ≤ j → j < findN p n i → p j = false) ∧ (findN p n i < i + n → p (findN p n i) = true)
  | 0, i => ⟨Nat.le_refl _, Nat.le_refl _, fun j h1 h2 => absurd h2 (by rw [findN]; omega), fun h => absurd h (by rw [findN]; omega)⟩
  | n + 1, i => by
    obtain ⟨a, b, c, e⟩ := findN_spec p n (i + 1)
    rw [findN]
    by_cases hp : p i = true
    · rw [if_pos hp]
      exact ⟨Nat.le_refl _, by omega, fun j h1 h2 => by omega, fun _ => hp⟩
    · rw [if_neg hp]
      refine ⟨by omega, by omega, fun j h1 h2 => ?_, fun h => e (by omega)⟩
      by_cases hj : j = i
      · rw [hj]; simpa using hp
      · exact c j (by omega) h2
theorem findN_hit {p : Nat → Bool} {n m : Nat} (h1 : ∀ j, j < m → p j = false) (h2 : p m = true) (h3 : m < n) : findN p n 0 = m := by
  obtain ⟨a, b, c, e⟩ := findN_spec p n 0
  by_cases h : findN p n 0 < m
  · have := e (by omega)
    rw [h1 _ h] at this; cases this
  · by_cases h4 : m < findN p n 0
    · have := c m (by omega) h4
      rw [h2] at this; cases this
    · omega
theorem findN_miss {p : Nat → Bool} {n : Nat} (h1 : ∀ j, j < n → p j = false) : findN p n 0 = n := by
  obtain ⟨a, b, c, e⟩ := findN_spec p n 0
  by_cases h : findN p n 0 < n
  · have := e (by omega)
    rw [h1 _ h] at this; cases this
  · omega
def hitB (b : BD) (e s : Int) (i : Nat) : Bool := decide ((i : Int) * s ≤ b.1 2) && (decide (b.2 6 e + (i : Int) * s ≤ 99) && pl b e (b.2 6 e + (i : Int) * s))
def leastP (b : BD) (e s : Int) : Int := if findN (hitB b e s) 62 0 < 62 then (findN (hitB b e s) 62 0 : Int) * s else 0
def playP (b : BD) : Int := if b.1 2 % (b.1 4 + 1) = 0 then 1 else b.1 2 % (b.1 4 + 1)
def wantP (b : BD) : Int :=
  if b.2 3 (b.1 5) = 1 then leastP b (b.1 5) 1 else if b.2 3 (b.1 5) = 2 then max 1 (b.2 4 (b.1 5)) else if b.2 3 (b.1 5) = 3 then leastP b (b.1 5) (b.1 3) else if b.2 3 (b.1 5) = 4 then playP b else if b.2 3 (b.1 5) = 5 then max 1 (playP b - 1) else 1
def takeB (b : BD) (t : Int) : BD := (fun n => if n = 2 then b.1 2 - t else if n = 5 then (b.1 5 + 1) % b.1 1 else b.1 n, fun j i => if j = 6 ∧ i = b.1 5 then min 99 (b.2 6 (b.1 5) + t) else b.2 j i)
def turnT (b : BD) : Int := min (wantP b) (b.1 2)
def turnB (b : BD) : BD := takeB b (turnT b)
def supB : Nat → Int → BD → Int × BD
  | 0, _, b => (0, b)
  | n + 1, idle, b => if 0 < b.1 2 ∧ idle < b.1 1 then ((supB n (if turnT b = 0 then idle + 1 else 0) (turnB b)).1 + 1, (supB n (if turnT b = 0 then idle + 1 else 0) (turnB b)).2) else (0, b)
/-- what stays when a board plays -/
def frB (k : Nat) (h h' : AH) : Prop := (∀ c, c ≠ k → c ≠ k + 6 → h'.1 c = h.1 c) ∧ h'.2 = h.2
def frM (h h' : AH) : Prop := (∀ c, c ≠ 38 → c ≠ 44 → h'.1 c = h.1 c) ∧ (∀ j, j ≠ 2 → j ≠ 5 → h'.1 38 j = h.1 38 j) ∧ h'.2 = h.2
theorem frB.rf {k : Nat} {h : AH} : frB k h h := ⟨fun _ _ _ => rfl, rfl⟩
theorem frB.tr {k : Nat} {h h1 h2 : AH} (a : frB k h h1) (b : frB k h1 h2) : frB k h h2 := ⟨fun c x y => (b.1 c x y).trans (a.1 c x y), b.2.trans a.2⟩
theorem frM.rf {h : AH} : frM h h := ⟨fun _ _ _ => rfl, fun _ _ _ => rfl, rfl⟩
theorem frM.tr {h h1 h2 : AH} (a : frM h h1) (b : frM h1 h2) : frM h h2 := ⟨fun c x y => (b.1 c x y).trans (a.1 c x y), fun c x y => (b.2.1 c x y).trans (a.2.1 c x y), b.2.2.trans a.2.2⟩
theorem mulS {i : Nat} {s : Int} (hs : s = 1 ∨ s = 2 ∨ s = 3 ∨ s = 4) : (i : Int) ≤ (i : Int) * s ∧ ((i : Int) + 1) * s = (i : Int) * s + s ∧ (i : Int) * s ≤ 4 * i := by
  rcases hs with rfl | rfl | rfl | rfl <;> omega
theorem wordP_per {l f n : Int} (hl : 1 ≤ l) (hn : 1 ≤ n) : wordP l f (n + l) = wordP l f n := by
  unfold wordP
  rw [if_neg (by omega), if_neg (by omega), show f + (n + l) - 1 = f + n - 1 + l by omega, Int.add_emod_right]
theorem wordP_mul {l f n : Int} (hl : 1 ≤ l) (hn : 1 ≤ n) (m : Nat) : wordP l f (n + l * m) = wordP l f n := by
  induction m with
  | zero => simp
  | succ m ih =>
    have h0 : 0 ≤ l * (m : Int) := Int.mul_nonneg (by omega) (by omega)
    rw [show n + l * ((m + 1 : Nat) : Int) = (n + l * m) + l by rw [Int.natCast_add, Int.mul_add]; omega, wordP_per hl (by omega), ih]
theorem s_X0_restInPlay {d k0 : Nat} {n : Int} {h : AH} {k : Int → AH → Prop} (hB : isB k0) (hs : okS (fX h k0)) (hn : 0 ≤ n) (q : k (n % (h.1 k0 10 + 1)) h) : cI (tx mt (d + 1)) n_X0_restInPlay [vR k0, vI n] h k := by
  have f4 : (fX h k0).1 4 = h.1 k0 10 := rfl
  obtain ⟨a1, a2, a3, a4, a5, a6, -⟩ := hs
  exact e_X0_restInPlay hB ⟨fun _ => u_X0_restInPlay_1 (tx_mono _ _) hB ⟨⟨by omega, by omega⟩, hn, by omega, u_X0_restInPlay_2 (tx_mono _ _) ⟨_, rfl, q⟩⟩, fun c => absurd c (by omega)⟩
theorem s_X0_numberInPlay {d k0 : Nat} {h : AH} {k : Int → AH → Prop} (hB : isB k0) (hs : okS (fX h k0)) (q : k (playP (fX h k0)) h) : cI (tx mt (d + 2)) n_X0_numberInPlay [vR k0] h k := by
  have f2 : (fX h k0).1 2 = h.1 k0 8 := rfl
  have f4 : (fX h k0).1 4 = h.1 k0 10 := rfl
  have hs' := hs
  obtain ⟨a1, a2, a3, a4, a5, a6, -⟩ := hs
  refine e_X0_numberInPlay hB (s_X0_restInPlay hB hs' (by omega) ⟨fun c => ?_, fun c => ?_⟩)
  · refine u_X0_numberInPlay_1 (tx_mono _ _) (u_X0_numberInPlay_2 (tx_mono _ _) ⟨_, rfl, kq q ?_⟩)
    rw [playP, f2, f4, if_neg c]
  · refine u_X0_numberInPlay_2 (tx_mono _ _) ⟨_, rfl, kq q ?_⟩
    rw [playP, f2, f4, if_pos (by omega)]
theorem playP_r {b : BD} (hs : okS b) : 1 ≤ playP b ∧ playP b ≤ 6 := by
  obtain ⟨a1, a2, a3, a4, a5, a6, -⟩ := hs
  unfold playP
  split
  · omega
  · have h1 := Int.emod_nonneg (b.1 2) (show b.1 4 + 1 ≠ 0 by omega)
    have h2 := Int.emod_lt_of_pos (b.1 2) (show 0 < b.1 4 + 1 by omega)
    omega
theorem s_X0_leastToPlease {d k0 : Nat} {e s : Int} {h : AH} {k : Int → AH → Prop} (hB : isB k0) (hr : okR (fX h k0)) (he : okE (fX h k0)) (hS : okS (fX h k0)) (h0 : 0 ≤ e) (h1 : e < (fX h k0).1 1) (hs : s = 1 ∨ s = 2 ∨ s = 3 ∨ s = 4) (q : k (leastP (fX h k0) e s) h) : cI (tx mt (d + 3)) n_X0_leastToPlease [vR k0, vI e, vI s] h k := by
  have e4 : (fX h k0).1 1 ≤ 4 := he.2.1
  have f2 : (fX h k0).1 2 = h.1 k0 8 := rfl
  have f6 : (fX h k0).2 6 e = h.1 (k0 + 6) e := rfl
  have ht := he.2.2 e h0 h1
  obtain ⟨b1, b2, -⟩ := hS
  have hs1 : 1 ≤ s ∧ s ≤ 4 := by omega
  refine e_X0_leastToPlease hB (s_X0_hasEater hB ⟨fun c => ?_, fun _ => ⟨fun _ => ?_, fun c => absurd hs1.1 c⟩⟩)
  · rw [hasE_i h0 h1] at c; simp [b2i] at c
  refine u_X0_leastToPlease_2 (tx_mono _ _) hB ⟨⟨by omega, by omega⟩, h0, by omega, ⟨by omega, by omega⟩, ?_⟩
  generalize hg : min (12 * s) (min (h.1 k0 8) (99 - h.1 (k0 + 6) e)) = g
  have key : ∀ (m i : Nat), i + m = 13 → (∀ j, j < i → hitB (fX h k0) e s j = false) → Bx z0 0 (tx mt (d + 2)) k_X0_leastToPlease (fun r h' => ∃ z, r = some (.inl z) ∧ k z h') 3 [some (vR k0), some (vI e), some (vI s), some (vI g), some (vI ((i : Int) * s))] [] h := by
    intro m
    have done : ∀ i : Nat, i ≤ 13 → g < (i : Int) * s → (∀ j, j < i → hitB (fX h k0) e s j = false) → Bx z0 0 (tx mt (d + 2)) k_X0_leastToPlease (fun r h' => ∃ z, r = some (.inl z) ∧ k z h') 5 [some (vR k0), some (vI e), some (vI s), some (vI g), some (vI ((i : Int) * s))] [] h := by
      intro i hi hgi hno
      refine u_X0_leastToPlease_5 (tx_mono _ _) ⟨_, rfl, kq q ?_⟩
      have all : ∀ j, hitB (fX h k0) e s j = false := by
        intro j
        induction j using Nat.strongRecOn with
        | ind j ih =>
          by_cases hj : j < i
          · exact hno j hj
          cases hh : hitB (fX h k0) e s j with
          | false => rfl
          | true =>
            exfalso
            simp only [hitB, Bool.and_eq_true, decide_eq_true_eq] at hh
            obtain ⟨g1, g2, g3⟩ := hh
            have hij : (i : Int) * s ≤ (j : Int) * s := Int.mul_le_mul_of_nonneg_right (by omega) (by omega)
            have hgt : 12 * s < (j : Int) * s := by omega
            have hj12 : 12 < j := by
              by_cases hq : 12 < j
              · exact hq
              · exfalso
                have := Int.mul_le_mul_of_nonneg_right (show (j : Int) ≤ 12 by omega) (show 0 ≤ s by omega)
                omega
            have hp : 0 < (fX h k0).1 0 := by
              simp only [pl, Bool.and_eq_true, decide_eq_true_eq] at g3
              exact g3.2.1
            have hl := hr.2.2 0 (by omega) hp
            have hlt : ((fX h k0).2 1 0).toNat < j := by omega
            have hjl : (((j - ((fX h k0).2 1 0).toNat : Nat)) : Int) = (j : Int) - (fX h k0).2 1 0 := by omega
            have hm : (((j - ((fX h k0).2 1 0).toNat : Nat)) : Int) * s = (j : Int) * s - (fX h k0).2 1 0 * s := by rw [hjl, Int.sub_mul]
            have hls : 0 ≤ (fX h k0).2 1 0 * s := Int.mul_nonneg (by omega) (by omega)
            have hpos := Int.mul_le_mul_of_nonneg_right (show (1 : Int) ≤ (((j - ((fX h k0).2 1 0).toNat : Nat)) : Int) by omega) (show 0 ≤ s by omega)
            have := ih (j - ((fX h k0).2 1 0).toNat) (by omega)
            have hq : hitB (fX h k0) e s (j - ((fX h k0).2 1 0).toNat) = true := by
              simp only [hitB, Bool.and_eq_true, decide_eq_true_eq]
              refine ⟨by omega, by omega, ?_⟩
              simp only [pl, Bool.and_eq_true, decide_eq_true_eq] at g3 ⊢
              refine ⟨g3.1, g3.2.1, ?_⟩
              rw [← g3.2.2]
              have hper := wordP_mul (l := (fX h k0).2 1 0) (f := (fX h k0).2 2 0) (n := (fX h k0).2 6 e + (((j - ((fX h k0).2 1 0).toNat : Nat)) : Int) * s) (by omega) (by omega) s.toNat
              rw [← hper]
              congr 1
              rw [hm, Int.toNat_of_nonneg (by omega)]
              omega
            rw [hq] at this
            cases this
      rw [leastP, findN_miss (fun j _ => all j), if_neg (by omega)]
    induction m with
    | zero =>
      intro i hm hno
      have hg12 : g ≤ 12 * s := by omega
      have : (i : Int) * s = 13 * s := by rw [show (i : Int) = 13 by omega]
      refine u_X0_leastToPlease_3 (tx_mono _ _) hB ⟨fun c => done i (by omega) c hno, fun c => absurd c (by omega)⟩
    | succ m ih =>
      intro i hm hno
      obtain ⟨m1, m2, m3⟩ := mulS (i := i) hs
      refine u_X0_leastToPlease_3 (tx_mono _ _) hB ⟨fun c => done i (by omega) c hno, fun c => ⟨h0, by omega, ⟨by omega, by omega⟩, s_X0_pleases hB hr he (by omega) ⟨fun c2 => ?_, fun c2 => ?_⟩⟩⟩
      · refine u_X0_leastToPlease_4 (tx_mono _ _) hB ⟨⟨by omega, by omega⟩, ?_⟩
        have := ih (i + 1) (by omega) (fun j hj => by
          by_cases hji : j < i
          · exact hno j hji
          · rw [show j = i by omega, hitB, show pl (fX h k0) e ((fX h k0).2 6 e + (i : Int) * s) = false from b2i_z c2]
            simp)
        rw [show ((i + 1 : Nat) : Int) * s = (i : Int) * s + s by rw [Int.natCast_add]; exact m2] at this
        exact this
      · refine ⟨_, rfl, kq q ?_⟩
        rw [leastP, findN_hit (m := i) hno (by
          simp only [hitB, Bool.and_eq_true, decide_eq_true_eq]
          exact ⟨by omega, by omega, b2i_o c2⟩) (by omega), if_pos (by omega)]
  have := key 13 0 rfl (fun j hj => by omega)
  rw [show ((0 : Nat) : Int) * s = 0 by simp] at this
  exact this
theorem leastP_r {b : BD} {e s : Int} (hs : s = 1 ∨ s = 2 ∨ s = 3 ∨ s = 4) (h2 : 0 ≤ b.1 2) : 0 ≤ leastP b e s ∧ leastP b e s ≤ 248 := by
  unfold leastP
  obtain ⟨m1, m2, m3⟩ := mulS (i := findN (hitB b e s) 62 0) hs
  split <;> omega
theorem wantP_r {b : BD} (he : okE b) (hs : okS b) (hn : b.1 5 < b.1 1) : 0 ≤ wantP b ∧ wantP b ≤ 1000 := by
  have hp := playP_r hs
  obtain ⟨a1, a2, a3, a4, a5, a6, a7, -⟩ := hs
  have hk := he.2.2 (b.1 5) a7 hn
  have l1 := leastP_r (b := b) (e := b.1 5) (s := 1) (by omega) (by omega)
  have l2 := leastP_r (b := b) (e := b.1 5) (s := b.1 3) (by omega) (by omega)
  unfold wantP
  repeat' split
  all_goals omega
theorem s_X0_wanted {d k0 : Nat} {h : AH} {k : Int → AH → Prop} (hB : isB k0) (hr : okR (fX h k0)) (he : okE (fX h k0)) (hS : okS (fX h k0)) (hn : (fX h k0).1 5 < (fX h k0).1 1) (q : k (wantP (fX h k0)) h) : cI (tx mt (d + 4)) n_X0_wanted [vR k0] h k := by
  have e4 : (fX h k0).1 1 ≤ 4 := he.2.1
  have f5 : (fX h k0).1 5 = h.1 k0 11 := rfl
  have f3 : (fX h k0).1 3 = h.1 k0 9 := rfl
  have g3 : (fX h k0).2 3 ((fX h k0).1 5) = h.1 (k0 + 3) (h.1 k0 11) := rfl
  have g4 : (fX h k0).2 4 ((fX h k0).1 5) = h.1 (k0 + 4) (h.1 k0 11) := rfl
  have hp := playP_r hS
  have hS' := hS
  obtain ⟨a1, a2, a3, a4, a5, a6, a7, -⟩ := hS
  have hk := he.2.2 ((fX h k0).1 5) a7 hn
  refine e_X0_wanted hB (s_X0_hasEater hB ⟨fun _ => ?_, fun c => ?_⟩)
  rotate_left
  · rw [← f5, hasE_i a7 hn] at c; simp [b2i] at c
  refine u_X0_wanted_1 (tx_mono _ _) hB ⟨by omega, by omega, fun c => ?_, fun c => ?_, fun c => ?_, fun c => ?_, fun c => ?_, fun c => ?_, trivial⟩
  · refine u_X0_wanted_7 (tx_mono _ _) ⟨_, rfl, kq q ?_⟩
    rw [wantP, g3, if_neg (by omega), if_neg (by omega), if_neg (by omega), if_neg (by omega), if_neg (by omega)]
  · refine u_X0_wanted_2 (tx_mono _ _) hB (s_X0_leastToPlease hB hr he hS' (by omega) (by omega) (by omega) ⟨_, rfl, kq q ?_⟩)
    rw [wantP, g3, if_pos c, f5]
  · refine u_X0_wanted_3 (tx_mono _ _) hB ⟨by omega, by omega, ⟨_, rfl, kq q ?_⟩⟩
    rw [wantP, g3, g4, if_neg (by omega), if_pos c]
  · refine u_X0_wanted_4 (tx_mono _ _) hB (s_X0_leastToPlease hB hr he hS' (by omega) (by omega) (by omega) ⟨_, rfl, kq q ?_⟩)
    rw [wantP, g3, if_neg (by omega), if_neg (by omega), if_pos c, f5, f3]
  · refine u_X0_wanted_5 (tx_mono _ _) hB (s_X0_numberInPlay hB hS' ⟨_, rfl, kq q ?_⟩)
    rw [wantP, g3, if_neg (by omega), if_neg (by omega), if_neg (by omega), if_pos c]
  · refine u_X0_wanted_6 (tx_mono _ _) hB (s_X0_numberInPlay hB hS' ⟨⟨by omega, by omega⟩, ⟨_, rfl, kq q ?_⟩⟩)
    rw [wantP, g3, if_neg (by omega), if_neg (by omega), if_neg (by omega), if_neg (by omega), if_pos c]
def tkX (h : AH) (k : Nat) (t : Int) : AH := upI (upI (upI h k 8 (h.1 k 8 - t)) (k + 6) (h.1 k 11) (min 99 (h.1 (k + 6) (h.1 k 11) + t))) k 11 ((h.1 k 11 + 1) % h.1 k 3)
theorem upI_e (h : AH) (k : Nat) (j z : Int) (k' : Nat) (j' : Int) : (upI h k j z).1 k' j' = if k' = k ∧ j' = j then z else h.1 k' j' := rfl
theorem tkX_fr (h : AH) (k : Nat) (t : Int) : frB k h (tkX h k t) := by
  refine ⟨fun c h1 h2 => ?_, rfl⟩
  funext j
  simp only [tkX, upI_e]
  rw [if_neg (by omega), if_neg (by omega), if_neg (by omega)]
theorem tkX_fX (h : AH) (k : Nat) (t : Int) : fX (tkX h k t) k = takeB (fX h k) t := by
  have e1 : (fX (tkX h k t) k).1 = (takeB (fX h k) t).1 := by
    funext n
    match n with
    | 0 | 1 | 2 | 3 | 4 | 5 => simp [fX, tkX, takeB, upI_e, xs]
    | n + 6 => simp [fX, tkX, takeB, upI_e, xs]
  have e2 : (fX (tkX h k t) k).2 = (takeB (fX h k) t).2 := by
    funext j i
    match j with
    | 0 | 1 | 2 | 3 | 4 | 5 | 6 => simp [fX, tkX, takeB, upI_e, xs, xa]
    | j + 7 => simp [fX, tkX, takeB, upI_e, xs, xa]
  exact Prod.ext e1 e2
theorem s_X0_take {d k0 : Nat} {t : Int} {h : AH} {k : Int → AH → Prop} (hB : isB k0) (he : okE (fX h k0)) (hS : okS (fX h k0)) (hn : (fX h k0).1 5 < (fX h k0).1 1) (ht : 0 ≤ t ∧ t ≤ 1000) (q : ∀ h', fX h' k0 = takeB (fX h k0) (min t ((fX h k0).1 2)) → frB k0 h h' → k (min t ((fX h k0).1 2)) h') : cI (tx mt (d + 2)) n_X0_take [vR k0, vI t] h k := by
  have e4 : (fX h k0).1 1 ≤ 4 := he.2.1
  have f5 : (fX h k0).1 5 = h.1 k0 11 := rfl
  have f2 : (fX h k0).1 2 = h.1 k0 8 := rfl
  have f1 : (fX h k0).1 1 = h.1 k0 3 := rfl
  have g6 : (fX h k0).2 6 ((fX h k0).1 5) = h.1 (k0 + 6) (h.1 k0 11) := rfl
  obtain ⟨a1, a2, a3, a4, a5, a6, a7, -⟩ := hS
  have hk := he.2.2 ((fX h k0).1 5) a7 hn
  have q := q (tkX h k0 (min t (h.1 k0 8))) (tkX_fX h k0 _) (tkX_fr h k0 _)
  refine e_X0_take hB (s_X0_hasEater hB ⟨fun _ => ?_, fun c => ?_⟩)
  rotate_left
  · rw [← f5, hasE_i a7 hn] at c; simp [b2i] at c
  refine u_X0_take_1 (tx_mono _ _) hB ⟨⟨by omega, by omega⟩, fun h1 w1 => ?_⟩
  have x1 : h1.1 k0 11 = h.1 k0 11 := by rw [w1, upI_e, if_neg (by omega)]
  have x2 : h1.1 (k0 + 6) (h.1 k0 11) = h.1 (k0 + 6) (h.1 k0 11) := by rw [w1, upI_e, if_neg (by omega)]
  rw [x1, x2]
  refine ⟨by omega, by omega, ⟨by omega, by omega⟩, by omega, by omega, fun h2 w2 => ?_⟩
  have y1 : h2.1 k0 11 = h.1 k0 11 := by rw [w2, upI_e, if_neg (by omega), x1]
  have y2 : h2.1 k0 3 = h.1 k0 3 := by rw [w2, upI_e, if_neg (by omega), w1, upI_e, if_neg (by omega)]
  rw [y1, y2]
  refine ⟨⟨by omega, by omega⟩, by omega, by omega, fun h3 w3 => ⟨_, rfl, ?_⟩⟩
  rw [w3, w2, w1]
  exact q
theorem s_X0_takeTurn {d k0 : Nat} {h : AH} {k : Int → AH → Prop} (hB : isB k0) (hr : okR (fX h k0)) (he : okE (fX h k0)) (hS : okS (fX h k0)) (hn : (fX h k0).1 5 < (fX h k0).1 1) (q : ∀ h', fX h' k0 = turnB (fX h k0) → frB k0 h h' → k (turnT (fX h k0)) h') : cI (tx mt (d + 5)) n_X0_takeTurn [vR k0] h k :=
  e_X0_takeTurn hB (s_X0_wanted hB hr he hS hn (s_X0_take hB he hS hn (wantP_r he hS hn) (fun h' h1 h2 => ⟨_, rfl, q h' h1 h2⟩)))
theorem emod_r {a b : Int} (h : 0 < b) : 0 ≤ a % b ∧ a % b < b := ⟨Int.emod_nonneg a (by omega), Int.emod_lt_of_pos a h⟩
theorem takeB_ok {b : BD} (hb : okBd b) (hn : b.1 5 < b.1 1) {t : Int} (h0 : 0 ≤ t) (h1 : t ≤ b.1 2) : okBd (takeB b t) := by
  obtain ⟨hr, he, hs, hp, hz⟩ := hb
  obtain ⟨a1, a2, a3, a4, a5, a6, a7, a8⟩ := hs
  have hk := he.2.2 (b.1 5) a7 hn
  have hm := emod_r (a := b.1 5 + 1) (b := b.1 1) (by omega)
  refine ⟨hr, ⟨he.1, he.2.1, fun e e0 e1 => ?_⟩, ?_, hp, fun j i hi => ?_⟩
  · have hk2 := he.2.2 e e0 e1
    refine ⟨hk2.1, hk2.2.1, hk2.2.2.1, hk2.2.2.2.1, hk2.2.2.2.2.1, hk2.2.2.2.2.2.1, ?_⟩
    show 0 ≤ (if 6 = 6 ∧ e = b.1 5 then min 99 (b.2 6 (b.1 5) + t) else b.2 6 e) ∧ (if 6 = 6 ∧ e = b.1 5 then min 99 (b.2 6 (b.1 5) + t) else b.2 6 e) ≤ 99
    split <;> omega
  · refine ⟨?_, ?_, a3, a4, a5, a6, ?_, ?_⟩
    · show 0 ≤ b.1 2 - t; omega
    · show b.1 2 - t ≤ 60; omega
    · exact hm.1
    · exact Or.inl hm.2
  · show (if j = 6 ∧ i = b.1 5 then min 99 (b.2 6 (b.1 5) + t) else b.2 j i) = 0
    have h4 := he.2.1
    rw [if_neg (by omega)]
    exact hz j i hi
theorem turnT_r {b : BD} (hb : okBd b) (hn : b.1 5 < b.1 1) : 0 ≤ turnT b ∧ turnT b ≤ b.1 2 := by
  have := wantP_r hb.2.1 hb.2.2.1 hn
  have := hb.2.2.1.1
  unfold turnT
  omega
theorem turnB_ok {b : BD} (hb : okBd b) (hn : b.1 5 < b.1 1) : okBd (turnB b) := takeB_ok hb hn (turnT_r hb hn).1 (turnT_r hb hn).2
theorem turnB_n {b : BD} (h : 0 < b.1 1) : (turnB b).1 5 < (turnB b).1 1 := (emod_r (a := b.1 5 + 1) h).2
theorem turnB_1 {b : BD} : (turnB b).1 1 = b.1 1 := rfl
theorem s_X0_eatUp {d k0 : Nat} {h : AH} {k : Int → AH → Prop} (hB : isB k0) (hb : okBd (fX h k0)) (hn : (fX h k0).1 5 < (fX h k0).1 1) (q : ∀ h', fX h' k0 = (supB 100 0 (fX h k0)).2 → frB k0 h h' → k (supB 100 0 (fX h k0)).1 h') : cI (tx mt (d + 6)) n_X0_eatUp [vR k0] h k := by
  refine e_X0_eatUp hB ?_
  have key : ∀ (n : Nat) (t idle : Int) (h : AH), okBd (fX h k0) → (fX h k0).1 5 < (fX h k0).1 1 → t + n = 100 → 0 ≤ t → 0 ≤ idle → idle ≤ 4 → (∀ h', fX h' k0 = (supB n idle (fX h k0)).2 → frB k0 h h' → k (t + (supB n idle (fX h k0)).1) h') → Bx z0 0 (tx mt (d + 5)) k_X0_eatUp (fun r h' => ∃ z, r = some (.inl z) ∧ k z h') 1 [some (vR k0), some (vI t), some (vI idle)] [] h := by
    intro n
    induction n with
    | zero =>
      intro t idle h hb hn ht t0 i0 i4 q
      refine u_X0_eatUp_1 (tx_mono _ _) hB ⟨fun c => u_X0_eatUp_4 (tx_mono _ _) ⟨_, rfl, kq (q h rfl frB.rf) ?_⟩, fun c => absurd c (by omega)⟩
      show t = t + 0
      omega
    | succ n ih =>
      intro t idle h hb hn ht t0 i0 i4 q
      have f2 : (fX h k0).1 2 = h.1 k0 8 := rfl
      have f1 : (fX h k0).1 1 = h.1 k0 3 := rfl
      have e4 : (fX h k0).1 1 ≤ 4 := hb.2.1.2.1
      have hpos : 0 < (fX h k0).1 1 := by have := hb.2.2.1.2.2.2.2.2.2.1; omega
      refine u_X0_eatUp_1 (tx_mono _ _) hB ⟨fun c => absurd c (by omega), fun c => ⟨fun c2 => ?_, fun c2 => ⟨fun c3 => ?_, fun c3 => ?_⟩⟩⟩
      · rw [supB, if_neg (by omega)] at q
        exact u_X0_eatUp_4 (tx_mono _ _) ⟨_, rfl, kq (q h rfl frB.rf) (by show t = t + 0; omega)⟩
      · rw [supB, if_neg (by omega)] at q
        exact u_X0_eatUp_4 (tx_mono _ _) ⟨_, rfl, kq (q h rfl frB.rf) (by show t = t + 0; omega)⟩
      · rw [supB, if_pos (by omega)] at q
        refine s_X0_takeTurn hB hb.1 hb.2.1 hb.2.2.1 hn (fun h1 w1 w2 => ⟨fun c4 => ?_, fun c4 => ?_⟩)
        · rw [if_neg c4] at q
          refine u_X0_eatUp_2 (tx_mono _ _) hB (u_X0_eatUp_3 (tx_mono _ _) hB ⟨⟨by omega, by omega⟩, ih _ _ h1 (by rw [w1]; exact turnB_ok hb hn) (by rw [w1]; exact turnB_n hpos) (by omega) (by omega) (by omega) (by omega) (fun h' x1 x2 => ?_)⟩)
          rw [w1] at x1 ⊢
          exact kq (q h' x1 (w2.tr x2)) (by omega)
        · have c5 : turnT (fX h k0) = 0 := by omega
          rw [if_pos c5] at q
          refine ⟨⟨by omega, by omega⟩, u_X0_eatUp_3 (tx_mono _ _) hB ⟨⟨by omega, by omega⟩, ih _ _ h1 (by rw [w1]; exact turnB_ok hb hn) (by rw [w1]; exact turnB_n hpos) (by omega) (by omega) (by omega) (by omega) (fun h' x1 x2 => ?_)⟩⟩
          rw [w1] at x1 ⊢
          exact kq (q h' x1 (w2.tr x2)) (by omega)
  exact key 100 0 0 h hb hn (by omega) (by omega) (by omega) (by omega) (fun h' x1 x2 => kq (q h' x1 x2) (by omega))
