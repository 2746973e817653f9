/-! ===== pushes: the sums ===== -/
def Gx (a b : Nat) (h h' : AH) : Prop := ∀ c, c ≠ a → c ≠ b → h'.1 c = h.1 c
theorem Gx.rf {a b : Nat} {h : AH} : Gx a b h h := fun _ _ _ => rfl
theorem Gx.up {a b k : Nat} {h h' : AH} (G : Gx a b h h') (hk : k = a ∨ k = b) (j v : Int) : Gx a b h (upI h' k j v) := fun c ha hb => by
  rw [← G c ha hb]
  funext i
  simp only [upI_e]
  rw [if_neg (by omega)]
theorem Gx.tr {a b : Nat} {h h' h1 : AH} (G : Gx a b h h') (G1 : Gx a b h' h1) : Gx a b h h1 := fun c ha hb => by rw [G1 c ha hb, G c ha hb]
theorem Gx.X {a b : Nat} {h h' : AH} (G : Gx a b h h') (ha : 8 < a) (hb : 8 < b) : fX h' 1 = fX h 1 := fX_c (fun c x y => G c (by omega) (by omega))
theorem Gx.M {a b : Nat} {h h' : AH} (G : Gx a b h h') (ha : 44 < a ∧ a ≠ 61) (hb : 44 < b ∧ b ≠ 61) : fM h' = fM h := fM_c (fun c hc => G c (by omega) (by omega)) (fun j hj => by rw [G 38 (by omega) (by omega)])
def gvR (P : Int → Bool) (g : Int → Int) (st al : Int) : Nat → Int → Int → Int
  | 0, _, l => l
  | m + 1, n, l => if 100 ≤ n ∨ al < n then l else gvR P g st al m (n + 1) (if P n = true ∧ g (al - n) < 99999 ∧ g (al - n) + max 0 (st - n) < l then g (al - n) + max 0 (st - n) else l)
def gv (b : BD) : Nat → Int → Int
  | 0, al => if al = 0 then 0 else 99999
  | e + 1, al => gvR (pl b e) (gv b e) (b.2 6 e) al 100 0 99999
theorem gvR_s {P : Int → Bool} {g : Int → Int} {st al : Int} : ∀ (m : Nat) (n l : Int), n + m = 100 → 0 ≤ n → gvR P g st al m n l ≤ l ∧ (∀ j, n ≤ j → j < 100 → j ≤ al → P j = true → g (al - j) < 99999 → gvR P g st al m n l ≤ g (al - j) + max 0 (st - j)) ∧ (gvR P g st al m n l = l ∨ ∃ j, n ≤ j ∧ j < 100 ∧ j ≤ al ∧ P j = true ∧ g (al - j) < 99999 ∧ gvR P g st al m n l = g (al - j) + max 0 (st - j)) := by
  intro m
  induction m with
  | zero =>
    intro n l nm n0
    rw [gvR]
    exact ⟨Int.le_refl _, fun j a b => by omega, Or.inl rfl⟩
  | succ m ih =>
    intro n l nm n0
    rw [gvR]
    by_cases c : 100 ≤ n ∨ al < n
    · rw [if_pos c]
      exact ⟨Int.le_refl _, fun j a b x => by omega, Or.inl rfl⟩
    rw [if_neg c]
    by_cases c2 : P n = true ∧ g (al - n) < 99999 ∧ g (al - n) + max 0 (st - n) < l
    · rw [if_pos c2]
      obtain ⟨i1, i2, i3⟩ := ih (n + 1) (g (al - n) + max 0 (st - n)) (by omega) (by omega)
      refine ⟨by omega, fun j a b x y z => ?_, Or.inr ?_⟩
      · by_cases cj : j = n
        · rw [cj]; exact i1
        · exact i2 j (by omega) b x y z
      · rcases i3 with i3 | ⟨j, a, b, x⟩
        · exact ⟨n, Int.le_refl _, by omega, by omega, c2.1, c2.2.1, i3⟩
        · exact ⟨j, by omega, b, x⟩
    · rw [if_neg c2]
      obtain ⟨i1, i2, i3⟩ := ih (n + 1) l (by omega) (by omega)
      refine ⟨i1, fun j a b x y z => ?_, ?_⟩
      · by_cases cj : j = n
        · rw [cj] at y z ⊢
          have : ¬ g (al - n) + max 0 (st - n) < l := fun q => c2 ⟨y, z, q⟩
          omega
        · exact i2 j (by omega) b x y z
      · rcases i3 with i3 | ⟨j, a, b, x⟩
        · exact Or.inl i3
        · exact Or.inr ⟨j, by omega, b, x⟩
theorem gv_b {b : BD} (he : okE b) : ∀ (e : Nat) (s : Int), (e : Int) ≤ b.1 1 → 0 ≤ gv b e s ∧ gv b e s ≤ 99999 ∧ (gv b e s < 99999 → gv b e s ≤ 99 * e) := by
  intro e
  induction e with
  | zero => intro s _; rw [gv]; split <;> omega
  | succ e ih =>
    intro s hs
    have se := he.2.2 (e : Int) (by omega) (by omega)
    have e4 := he.2.1
    obtain ⟨i1, i2, i3⟩ := gvR_s (P := pl b e) (g := gv b e) (st := b.2 6 e) (al := s) 100 0 99999 (by decide) (by decide)
    rw [gv]
    rcases i3 with i3 | ⟨j, a, b1, x, y, z, v⟩
    · rw [i3]; omega
    · have i4 := ih (s - j) (by omega)
      omega
def stS (b : BD) : Nat → Int := sumN (fun e => b.2 6 e)
theorem stS_b {b : BD} (he : okE b) (e : Nat) (h : (e : Int) ≤ b.1 1) : 0 ≤ stS b e ∧ stS b e ≤ 99 * e := by
  refine sumN_b (fun i hi => ?_)
  have := he.2.2 (i : Int) (by omega) (by omega)
  omega
/-- what the component's table holds -/
def coF (b : BD) (e : Nat) (s : Int) : Int := if gv b e s < 99999 then gv b e s + s - stS b e else 1000000
theorem coF_b {b : BD} (he : okE b) {e : Nat} {s : Int} (h : (e : Int) ≤ b.1 1) (s0 : 0 ≤ s) (s1 : s ≤ 396) : -1000 ≤ coF b e s ∧ coF b e s ≤ 1000000 := by
  have h1 := gv_b he e s h
  have h2 := stS_b he e h
  have h3 := he.2.1
  rw [coF]
  split <;> omega
theorem pl_z {b : BD} (he : okE b) {e n : Int} (e0 : 0 ≤ e) (e1 : e < b.1 1) (hn : n < 1) : pl b e n = false := by
  have se := he.2.2 e e0 e1
  rw [pl, wordP, if_pos (by omega), decide_eq_false (show ¬ (-9 : Int) = b.2 5 e by omega)]
  simp
theorem pl_v {b : BD} {e n : Int} (r0 : 0 < b.1 0) (e0 : 0 ≤ e) (e1 : e < b.1 1) : pl b e n = decide (wordP (b.2 1 0) (b.2 2 0) n = b.2 5 e) := by
  rw [pl, hasE_i e0 e1, decide_eq_true r0]
  rfl
theorem coF_s {b : BD} (he : okE b) (e : Nat) {s r : Int} (h : (e : Int) < b.1 1) (s0 : 0 ≤ s) (s1 : s ≤ 396) (R1 : ∀ j, 1 ≤ j → j ≤ 99 → j ≤ s → pl b e j = true → r ≤ coF b e (s - j) + max 0 (j - b.2 6 e)) (R2 : r = 1000000 ∨ ∃ j, 1 ≤ j ∧ j ≤ 99 ∧ j ≤ s ∧ pl b e j = true ∧ r = coF b e (s - j) + max 0 (j - b.2 6 e)) (R3 : r ≤ 1000000) : r = coF b (e + 1) s := by
  have se := he.2.2 (e : Int) (by omega) h
  have e4 := he.2.1
  have eg : gv b (e + 1) s = gvR (pl b e) (gv b e) (b.2 6 e) s 100 0 99999 := rfl
  obtain ⟨i1, i2, i3⟩ := gvR_s (P := pl b e) (g := gv b e) (st := b.2 6 e) (al := s) 100 0 99999 (by decide) (by decide)
  rw [← eg] at i1 i2 i3
  have es : stS b (e + 1) = stS b e + b.2 6 e := rfl
  have sb := stS_b he e (by omega)
  have gb := gv_b he (e + 1) s (by omega)
  rw [coF, es]
  by_cases c : gv b (e + 1) s < 99999
  · rw [if_pos c]
    rcases i3 with i3 | ⟨j, a, b1, x, y, z, v⟩
    · omega
    have j1 : 1 ≤ j := by
      by_cases cj : 1 ≤ j
      · exact cj
      · rw [pl_z he (by omega) h (by omega)] at y
        cases y
    have up := R1 j j1 (by omega) x y
    rw [coF, if_pos z] at up
    have g1 := gv_b he e (s - j) (by omega)
    rcases R2 with R2 | ⟨k, k1, k9, ks, kp, kr⟩
    · omega
    · have g2 := gv_b he e (s - k) (by omega)
      rw [coF] at kr
      by_cases ck : gv b e (s - k) < 99999
      · rw [if_pos ck] at kr
        have := i2 k (by omega) (by omega) ks kp ck
        omega
      · rw [if_neg ck] at kr
        omega
  · rw [if_neg c]
    rcases R2 with R2 | ⟨k, k1, k9, ks, kp, kr⟩
    · exact R2
    · have g2 := gv_b he e (s - k) (by omega)
      rw [coF] at kr
      by_cases ck : gv b e (s - k) < 99999
      · have := i2 k (by omega) (by omega) ks kp ck
        omega
      · rw [if_neg ck] at kr
        omega
/-- where one's wish comes round -/
theorem pl_per {b : BD} {e n : Int} (hr : okR b) (r0 : 0 < b.1 0) (e0 : 0 ≤ e) (e1 : e < b.1 1) (n1 : 1 ≤ n) (p : pl b e n = true) : pl b e (n + b.2 1 0) = true := by
  have l := hr.2.2 0 (by decide) r0
  rw [pl_v r0 e0 e1, decide_eq_true_eq] at p ⊢
  rw [← p, word_iff (by omega) (by omega) n1]
  exact ⟨1, by omega⟩
theorem pl_uni {b : BD} {e n m : Int} (hr : okR b) (r0 : 0 < b.1 0) (e0 : 0 ≤ e) (e1 : e < b.1 1) (n1 : 1 ≤ n) (nm : n ≤ m) (ml : m < n + b.2 1 0) (p : pl b e n = true) (p2 : pl b e m = true) : m = n := by
  have l := hr.2.2 0 (by decide) r0
  rw [pl_v r0 e0 e1, decide_eq_true_eq] at p p2
  rw [← p, word_iff (by omega) (by omega) n1] at p2
  have := dvd_small (show 0 < b.2 1 0 by omega) p2 (by omega) (by omega)
  omega
theorem pl_none {b : BD} {e : Int} (hr : okR b) (r0 : 0 < b.1 0) (e0 : 0 ≤ e) (e1 : e < b.1 1) (h : ∀ j, 1 ≤ j → j ≤ 12 → pl b e j = false) : ∀ j, 1 ≤ j → pl b e j = false := by
  intro j j1
  have l := hr.2.2 0 (by decide) r0
  have m := emod_r (a := j - 1) (b := b.2 1 0) (by omega)
  have h1 := h ((j - 1) % b.2 1 0 + 1) (by omega) (by omega)
  rw [pl_v r0 e0 e1] at h1 ⊢
  rw [← h1]
  congr 2
  rw [word_iff (by omega) (by omega) (by omega)]
  refine ⟨(j - 1) / b.2 1 0, ?_⟩
  have := Int.mul_ediv_add_emod (j - 1) (b.2 1 0)
  omega
def fstP (p : Int → Bool) (f : Int) : Prop := (1 ≤ f ∧ f ≤ 12 ∧ p f = true ∧ ∀ j, 1 ≤ j → j < f → p j = false) ∨ (f = 100 ∧ ∀ j, 1 ≤ j → p j = false)
theorem s_X0_leastPleasing {d : Nat} {e : Int} {h : AH} {K : Int → AH → Prop} (hr : okR (fX h 1)) (he : okE (fX h 1)) (r0 : 0 < h.1 1 0) (e0 : 0 ≤ e) (e1 : e < h.1 1 3) (q : ∀ f, fstP (pl (fX h 1) e) f → K f h) : cI (tx mt (d + 3)) n_X0_leastPleasing [vR 1, vI e] h K := by
  have key : ∀ (m : Nat) (n : Int), n + m = 13 → 1 ≤ n → (∀ j, 1 ≤ j → j < n → pl (fX h 1) e j = false) → Bx z0 0 (tx mt (d+2)) k_X0_leastPleasing (fun r h' => ∃ z, r = some (.inl z) ∧ K z h') 1 [some (vR 1), some (vI e), some (vI n)] [] h := by
    intro m
    induction m with
    | zero =>
      intro n nm n1 hj
      exact u_X0_leastPleasing_1 (tx_mono _ _) isB1 ⟨fun _ => u_X0_leastPleasing_3 (tx_mono _ _) (exI (q 100 (Or.inr ⟨rfl, pl_none hr r0 e0 e1 (fun j a b => hj j a (by omega))⟩))), fun c => by omega⟩
    | succ m ih =>
      intro n nm n1 hj
      refine u_X0_leastPleasing_1 (tx_mono _ _) isB1 ⟨fun c => by omega, fun _ => s_X0_pleases isB1 hr he (by omega) ⟨fun c => u_X0_leastPleasing_2 (tx_mono _ _) isB1 ⟨⟨by omega, by omega⟩, ih (n + 1) (by omega) (by omega) (fun j a b => ?_)⟩, fun c => exI (q n (Or.inl ⟨n1, by omega, b2i_o c, hj⟩))⟩⟩
      by_cases cj : j = n
      · rw [cj]; exact b2i_z c
      · exact hj j a (by omega)
  exact cI_i (e_X0_leastPleasing isB1 (key 12 1 (by decide) (by decide) (fun j a b => by omega)))
theorem s_X4_costWith {d : Nat} {e : Nat} {f s : Int} {h h0 : AH} {K : Int → AH → Prop} (x0 : fX h 1 = fX h0 1) (hr : okR (fX h0 1)) (he : okE (fX h0 1)) (r0 : 0 < h0.1 1 0) (e1 : (e : Int) < h0.1 1 3) (s0 : 0 ≤ s) (s1 : s ≤ 396) (hf : fstP (pl (fX h0 1) e) f) (hc : ∀ j, 0 ≤ j → j ≤ s → h.1 37 j = coF (fX h0 1) e j) (q : K (coF (fX h0 1) (e + 1) s) h) : cI (tx mt (d + 1)) n_X4_costWith [vR 35, vR 1, vI e, vI f, vI s] h K := by
  have e4 : h0.1 1 3 ≤ 4 := he.2.1
  have l := hr.2.2 0 (by decide) r0
  have x1 : h.1 2 0 = (fX h0 1).2 1 0 := by rw [← x0]; rfl
  have x6 : h.1 7 e = (fX h0 1).2 6 e := by rw [← x0]; rfl
  have se := he.2.2 (e : Int) (by omega) e1
  have key : ∀ (m : Nat) (t r : Int) (x3 : Option AV), min s 99 < t + m → 1 ≤ t → t ≤ 112 → (pl (fX h0 1) e t = true ∨ min s 99 < t) → (∀ j, 1 ≤ j → j < t → j ≤ min s 99 → pl (fX h0 1) e j = true → r ≤ coF (fX h0 1) e (s - j) + max 0 (j - (fX h0 1).2 6 e)) → (r = 1000000 ∨ ∃ j, 1 ≤ j ∧ j ≤ 99 ∧ j ≤ s ∧ pl (fX h0 1) e j = true ∧ r = coF (fX h0 1) e (s - j) + max 0 (j - (fX h0 1).2 6 e)) → r ≤ 1000000 → -1000 ≤ r → Bx z0 0 (tx mt d) k_X4_costWith (fun r h' => ∃ z, r = some (.inl z) ∧ K z h') 1 [some (vR 35), some (vR 1), some (vI ((e : Int))), x3, some (vI s), some (vI r), some (vI ((min s 99))), some (vI (((fX h0 1).2 1 0))), some (vI t)] [] h := by
    intro m
    induction m with
    | zero =>
      intro t r x3 tm t1 t112 pt R1 R2 R3 R4
      refine u_X4_costWith_1 (tx_mono _ _) isB1 ⟨fun _ => u_X4_costWith_2 (tx_mono _ _) (exI ?_), fun c => by omega⟩
      rw [coF_s he e e1 s0 s1 (fun j a b c x => R1 j a (by omega) (by omega) x) R2 R3]
      exact q
    | succ m ih =>
      intro t r x3 tm t1 t112 pt R1 R2 R3 R4
      refine u_X4_costWith_1 (tx_mono _ _) isB1 ⟨fun _ => u_X4_costWith_2 (tx_mono _ _) (exI ?_), fun c => ?_⟩
      · rw [coF_s he e e1 s0 s1 (fun j a b c x => R1 j a (by omega) (by omega) x) R2 R3]
        exact q
      · have cb := coF_b he (e := e) (s := s - t) (Int.le_of_lt e1) (by omega) (by omega)
        have pt' : pl (fX h0 1) e t = true := by
          rcases pt with pt | pt
          · exact pt
          · omega
        simp only [Nat.reduceAdd]
        rw [hc (s - t) (by omega) (by omega), x6]
        refine ⟨⟨by omega, by omega⟩, by omega, by omega, by omega, by omega, ⟨by omega, by omega⟩, ⟨by omega, by omega⟩, ⟨by omega, by omega⟩, ih (t + (fX h0 1).2 1 0) _ _ (by omega) (by omega) (by omega) (Or.inl (pl_per hr r0 (by omega) e1 t1 pt')) (fun j a b x y => ?_) ?_ (by omega) (by omega)⟩
        · by_cases cj : j < t
          · have := R1 j a cj x y
            omega
          · have := pl_uni hr r0 (by omega) e1 t1 (by omega) b pt' y
            rw [this]
            omega
        · have cr := R2
          clear R2
          by_cases cm : r ≤ coF (fX h0 1) e (s - t) + max 0 (t - (fX h0 1).2 6 e)
          · rw [show min r (coF (fX h0 1) e (s - t) + max 0 (t - (fX h0 1).2 6 e)) = r by omega]
            exact cr
          · right
            clear cr
            exact ⟨t, t1, by omega, by omega, pt', by omega⟩
  refine cI_i (e_X4_costWith isB1 ?_)
  simp only [Nat.reduceAdd]
  rw [x1, show max 1 ((fX h0 1).2 1 0) = (fX h0 1).2 1 0 by omega]
  rcases hf with ⟨f1, f12, fp, fl⟩ | ⟨f1, fl⟩
  · rw [show max 1 f = f by omega]
    refine key 100 f 1000000 _ (by omega) f1 (by omega) (Or.inl fp) (fun j a b x y => ?_) (Or.inl rfl) (by decide) (by decide)
    rw [fl j a b] at y
    cases y
  · rw [show max 1 f = 100 by omega]
    refine key 100 100 1000000 _ (by omega) (by decide) (by decide) (Or.inr (by omega)) (fun j a b x y => ?_) (Or.inl rfl) (by decide) (by decide)
    rw [fl j a] at y
    cases y
