/-! ===== ways to share: both sides' tables ===== -/
def wR (P : Int → Bool) (g : Int → Int) (f s : Int) : Nat → Int → Int
  | 0, _ => 0
  | n + 1, t => if f < t then 0 else (if P t = true then g (f - t) else 0) + wR P g f s n (t + s)
def wW (P : Nat → Int → Bool) (s : Int) : Nat → Int → Int
  | 0, f => if f = 0 then 1 else 0
  | e + 1, f => wR (P e) (wW P s e) f s 61 0
theorem wR_b {P : Int → Bool} {g : Int → Int} {f s c : Int} (c0 : 0 ≤ c) (hg : ∀ i, 0 ≤ i → i ≤ f → 0 ≤ g i ∧ g i ≤ c) (s1 : 1 ≤ s) : ∀ (n : Nat) (t : Int), 0 ≤ t → 0 ≤ wR P g f s n t ∧ wR P g f s n t ≤ n * c := by
  intro n
  induction n with
  | zero => intro t _; rw [wR]; omega
  | succ n ih =>
    intro t ht
    have h1 := ih (t + s) (by omega)
    have e : ((n + 1 : Nat) : Int) * c = n * c + c := by rw [Int.natCast_add, Int.add_mul, Int.natCast_one, Int.one_mul]
    rw [wR, e]
    have h0 := Int.mul_nonneg (show 0 ≤ (n : Int) by omega) c0
    generalize (n : Int) * c = x at h1 h0 ⊢
    split
    · omega
    · have := hg (f - t) (by omega) (by omega)
      split <;> omega
theorem wR_c {P P' : Int → Bool} {g g' : Int → Int} {f s : Int} (s1 : 1 ≤ s) (hp : ∀ t, 0 ≤ t → t ≤ f → P t = P' t) (hg : ∀ i, 0 ≤ i → i ≤ f → g i = g' i) : ∀ (n : Nat) (t : Int), 0 ≤ t → wR P g f s n t = wR P' g' f s n t := by
  intro n
  induction n with
  | zero => intro t _; rfl
  | succ n ih =>
    intro t ht
    rw [wR, wR, ih (t + s) (by omega)]
    split
    · rfl
    · rw [hp t ht (by omega), hg (f - t) (by omega) (by omega)]
theorem wW_b {P : Nat → Int → Bool} {s : Int} (s1 : 1 ≤ s) : ∀ (e : Nat) (f : Int), 0 ≤ wW P s e f ∧ wW P s e f ≤ ((61 ^ e : Nat) : Int) := by
  intro e
  induction e with
  | zero => intro f; rw [wW]; split <;> decide
  | succ e ih =>
    intro f
    have h1 := wR_b (P := P e) (f := f) (s := s) (c := ((61 ^ e : Nat) : Int)) (Int.natCast_nonneg _) (fun i _ _ => ih i) s1 61 0 (Int.le_refl _)
    rw [wW]
    rw [Nat.pow_succ]
    generalize 61 ^ e = x at h1
    omega
theorem wW_b4 {P : Nat → Int → Bool} {s : Int} (s1 : 1 ≤ s) {e : Nat} (e4 : e ≤ 4) (f : Int) : 0 ≤ wW P s e f ∧ wW P s e f ≤ 13845841 := by
  have h1 := wW_b (P := P) s1 e f
  have h2 : 61 ^ e ≤ 61 ^ 4 := Nat.pow_le_pow_right (by decide) e4
  generalize 61 ^ e = x at h1 h2
  omega
theorem wW_c {P P' : Nat → Int → Bool} {s : Int} (s1 : 1 ≤ s) : ∀ (e : Nat) (f : Int), (∀ i t, i < e → 0 ≤ t → t ≤ f → P i t = P' i t) → wW P s e f = wW P' s e f := by
  intro e
  induction e with
  | zero => intro f _; rfl
  | succ e ih =>
    intro f hp
    rw [wW, wW]
    exact wR_c s1 (fun t a b => hp e t (by omega) a b) (fun i a b => ih i (fun j t x y z => hp j t (by omega) y (by omega))) 61 0 (Int.le_refl _)
/-- with how many more one would have its wish -/
def plP (b : BD) (e : Nat) (t : Int) : Bool := pl b e (b.2 6 e + t)
theorem upL_e (h : AH) (k : Nat) (j z : Int) (k' : Nat) (j' : Int) : (upL h k j z).2.1 k' j' = if k' = k ∧ j' = j then z else h.2.1 k' j' := rfl
theorem upL_1 (h : AH) (k : Nat) (j z : Int) : (upL h k j z).1 = h.1 := rfl
theorem fX_1 {h h' : AH} (e : h'.1 = h.1) (k : Nat) : fX h' k = fX h k := by unfold fX; rw [e]
theorem fM_1 {h h' : AH} (e : h'.1 = h.1) : fM h' = fM h := by unfold fM; rw [e]
theorem s_X4_waysWith {d : Nat} {e : Nat} {f s : Int} {g : Int → Int} {h : AH} {K : Int → AH → Prop} (hr : okR (fX h 1)) (he : okE (fX h 1)) (e1 : (e : Int) < h.1 1 3) (f0 : 0 ≤ f) (f60 : f ≤ 60) (s1 : 1 ≤ s) (s4 : s ≤ 4) (hg : ∀ i, 0 ≤ i → i ≤ f → h.2.1 36 i = g i ∧ 0 ≤ g i ∧ g i ≤ 13845841) (q : K (wR (plP (fX h 1) e) g f s 61 0) h) : cL (tx mt (d + 3)) n_X4_waysWith [vR 35, vR 1, vI e, vI f, vI s] h K := by
  have e4 : h.1 1 3 ≤ 4 := he.2.1
  have f6 : (fX h 1).2 6 e = h.1 7 e := rfl
  have se := he.2.2 (e : Int) (by omega) e1
  rw [f6] at se
  have key : ∀ (n : Nat) (t acc : Int) (x6 : Option AV), f < t + n → 0 ≤ t → 0 ≤ acc → acc ≤ t * 13845841 → K (acc + wR (plP (fX h 1) e) g f s n t) h → Bx z0 0 (tx mt (d+2)) k_X4_waysWith (fun r h' => ∃ z, r = some (.inr (.inl z)) ∧ K z h') 1 [some (vR 35), some (vR 1), some (vI ((e : Int))), some (vI f), some (vI s), some (vL acc), x6, some (vI t)] [] h := by
    intro n
    induction n with
    | zero =>
      intro t acc x6 ft t0 a0 at0 q
      rw [wR, Int.add_zero] at q
      exact u_X4_waysWith_1 (tx_mono _ _) isB1 ⟨fun _ => u_X4_waysWith_3 (tx_mono _ _) (exL q), fun c => by omega⟩
    | succ n ih =>
      intro t acc x6 ft t0 a0 at0 q
      rw [wR] at q
      by_cases c : f < t
      · rw [if_pos c, Int.add_zero] at q
        exact u_X4_waysWith_1 (tx_mono _ _) isB1 ⟨fun _ => u_X4_waysWith_3 (tx_mono _ _) (exL q), fun c' => by omega⟩
      rw [if_neg c] at q
      have gt := hg (f - t) (by omega) (by omega)
      refine u_X4_waysWith_1 (tx_mono _ _) isB1 ⟨fun c' => by omega, fun _ => ?_⟩
      simp only [Nat.reduceAdd]
      refine ⟨by omega, by omega, ⟨by omega, by omega⟩, s_X0_pleases isB1 hr he (by omega) ?_⟩
      rw [show pl (fX h 1) e (h.1 7 e + t) = plP (fX h 1) e t from rfl]
      refine ⟨fun c2 => u_X4_waysWith_2 (tx_mono _ _) isB1 ?_, fun c2 => ⟨⟨by omega, by omega⟩, by omega, by omega, ?_⟩⟩
      · rw [show max 1 s = s by omega]
        rw [if_neg (by rw [b2i_z c2]; decide), Int.zero_add] at q
        exact ⟨⟨by omega, by omega⟩, ih (t + s) acc _ (by omega) (by omega) a0 (by omega) q⟩
      · rw [gt.1]
        rw [if_pos (b2i_o c2), ← Int.add_assoc] at q
        refine ⟨⟨by omega, by omega⟩, u_X4_waysWith_2 (tx_mono _ _) isB1 ?_⟩
        rw [show max 1 s = s by omega]
        exact ⟨⟨by omega, by omega⟩, ih (t + s) (acc + g (f - t)) _ (by omega) (by omega) (by omega) (by omega) q⟩
  exact cL_i (e_X4_waysWith isB1 (key 61 0 0 _ (by omega) (by decide) (by decide) (by decide) (by rw [Int.zero_add]; exact q)))
theorem s_X4_waysToPleaseAll {d : Nat} {s : Int} {h : AH} {K : Int → AH → Prop} (hr : okR (fX h 1)) (he : okE (fX h 1)) (f0 : 0 ≤ h.1 1 8) (f60 : h.1 1 8 ≤ 60) (s1 : 1 ≤ s) (s4 : s ≤ 4) (q : ∀ h1, h1.1 = h.1 → K (wW (plP (fX h 1)) s (h.1 1 3).toNat (h.1 1 8)) h1) : cL (tx mt (d + 4)) n_X4_waysToPleaseAll [vR 35, vR 1, vI s] h K := by
  have e0 : 0 ≤ h.1 1 3 := he.1
  have e4 : h.1 1 3 ≤ 4 := he.2.1
  have ls : ∀ (i : Nat) (n : Nat) (f : Int) (h' : AH), i < (h.1 1 3).toNat → f + 1 = n → f ≤ h.1 1 8 → h'.1 = h.1 → (∀ j, 0 ≤ j → j ≤ h.1 1 8 → h'.2.1 36 j = if j ≤ f then wW (plP (fX h 1)) s i j else wW (plP (fX h 1)) s (i + 1) j) → (∀ h1 x, h1.1 = h.1 → (∀ j, 0 ≤ j → j ≤ h.1 1 8 → h1.2.1 36 j = wW (plP (fX h 1)) s (i + 1) j) → Bx z0 0 (tx mt (d+3)) k_X4_waysToPleaseAll (fun r h' => ∃ z, r = some (.inr (.inl z)) ∧ K z h') 9 [some (vR 35), some (vR 1), some (vI s), some (vI ((i : Int))), x] [] h1) → Bx z0 0 (tx mt (d+3)) k_X4_waysToPleaseAll (fun r h' => ∃ z, r = some (.inr (.inl z)) ∧ K z h') 8 [some (vR 35), some (vR 1), some (vI s), some (vI ((i : Int))), some (vI f)] [] h' := by
    intro i n
    induction n with
    | zero =>
      intro f h' hi fn ff e hc q
      exact u_X4_waysToPleaseAll_8 (tx_mono _ _) isB1 ⟨fun _ => q h' _ e (fun j a b => by rw [hc j a b, if_neg (by omega)]), fun c => by omega⟩
    | succ n ih =>
      intro f h' hi fn ff e hc q
      have x1 : fX h' 1 = fX h 1 := fX_1 e 1
      refine u_X4_waysToPleaseAll_8 (tx_mono _ _) isB1 ⟨fun c => by omega, fun _ => s_X4_waysWith (d := d) (g := wW (plP (fX h 1)) s i) (by rw [x1]; exact hr) (by rw [x1]; exact he) (by rw [e]; omega) (by omega) (by omega) s1 s4 (fun j a b => ⟨?_, wW_b4 s1 (by omega) j⟩) ⟨by omega, by omega, fun h4 w4 => ⟨⟨by omega, by omega⟩, ih (f + (-1)) h4 hi (by omega) (by omega) (by rw [w4, upL_1]; exact e) (fun j a b => ?_) q⟩⟩⟩
      · rw [hc j a (by omega), if_pos b]
      · rw [w4, upL_e, x1]
        by_cases c : j = f
        · rw [if_pos ⟨rfl, c⟩, if_neg (by omega), c, wW]
        · rw [if_neg (by omega), hc j a b]
          by_cases c2 : j ≤ f
          · rw [if_pos c2, if_pos (by omega)]
          · rw [if_neg c2, if_neg (by omega)]
  have le : ∀ (m i : Nat) (h' : AH) (x : Option AV), i + m = (h.1 1 3).toNat → h'.1 = h.1 → (∀ j, 0 ≤ j → j ≤ h.1 1 8 → h'.2.1 36 j = wW (plP (fX h 1)) s i j) → Bx z0 0 (tx mt (d+3)) k_X4_waysToPleaseAll (fun r h' => ∃ z, r = some (.inr (.inl z)) ∧ K z h') 7 [some (vR 35), some (vR 1), some (vI s), some (vI ((i : Int))), x] [] h' := by
    intro m
    induction m with
    | zero =>
      intro i h' x im e hc
      refine u_X4_waysToPleaseAll_7 (tx_mono _ _) isB1 ⟨fun _ => u_X4_waysToPleaseAll_10 (tx_mono _ _) isB1 ?_, fun c => by rw [e] at c; omega⟩
      rw [e, hc (h.1 1 8) f0 (Int.le_refl _), show i = (h.1 1 3).toNat by omega]
      exact ⟨f0, by omega, exL (q h' e)⟩
    | succ m ih =>
      intro i h' x im e hc
      refine u_X4_waysToPleaseAll_7 (tx_mono _ _) isB1 ⟨fun c => by rw [e] at c; omega, fun _ => ?_⟩
      rw [e]
      exact ls i ((h.1 1 8).toNat + 1) (h.1 1 8) h' (by omega) (by omega) (Int.le_refl _) e (fun j a b => by rw [hc j a b, if_pos b]) (fun h1 x e1 hc1 => u_X4_waysToPleaseAll_9 (tx_mono _ _) isB1 ⟨⟨by omega, by omega⟩, ih (i + 1) h1 _ (by omega) e1 hc1⟩)
  have l1 : ∀ (m : Nat) (f : Int) (h' : AH) (x : Option AV), f + m = h.1 1 8 + 1 → 0 ≤ f → h'.1 = h.1 → (∀ j, 0 ≤ j → j < f → h'.2.1 36 j = wW (plP (fX h 1)) s 0 j) → Bx z0 0 (tx mt (d+3)) k_X4_waysToPleaseAll (fun r h' => ∃ z, r = some (.inr (.inl z)) ∧ K z h') 3 [some (vR 35), some (vR 1), some (vI s), some (vI f), x] [] h' := by
    intro m
    induction m with
    | zero =>
      intro f h' x fm f0 e hc
      exact u_X4_waysToPleaseAll_3 (tx_mono _ _) isB1 ⟨fun _ => u_X4_waysToPleaseAll_6 (tx_mono _ _) isB1 (le (h.1 1 3).toNat 0 h' _ (by omega) e (fun j a b => hc j a (by omega))), fun c => by rw [e] at c; omega⟩
    | succ m ih =>
      intro f h' x fm f0 e hc
      have aux : ∀ v, v = wW (plP (fX h 1)) s 0 f → Bx z0 0 (tx mt (d+3)) k_X4_waysToPleaseAll (fun r h' => ∃ z, r = some (.inr (.inl z)) ∧ K z h') 5 [some (vR 35), some (vR 1), some (vI s), some (vI f), none] [vL v, vI f, vR 36] h' := by
        intro v ev
        refine u_X4_waysToPleaseAll_5 (tx_mono _ _) isB1 ⟨by omega, by omega, fun h1 w1 => ⟨⟨by omega, by omega⟩, ih (f + 1) h1 _ (by omega) (by omega) (by rw [w1, upL_1]; exact e) (fun j a b => ?_)⟩⟩
        rw [w1, upL_e]
        by_cases c : j = f
        · rw [if_pos ⟨rfl, c⟩, ev, c]
        · rw [if_neg (by omega)]
          exact hc j a (by omega)
      refine u_X4_waysToPleaseAll_3 (tx_mono _ _) isB1 ⟨fun c => by rw [e] at c; omega, fun _ => ⟨fun c => u_X4_waysToPleaseAll_4 (tx_mono _ _) isB1 (aux 0 (by rw [wW, if_neg c])), fun c => aux 1 (by rw [wW, if_pos (by omega)])⟩⟩
  exact cL_i (e_X4_waysToPleaseAll isB1 ⟨fun c => by omega, fun _ => ⟨fun c => by omega, fun _ => ⟨fun _ => u_X4_waysToPleaseAll_2 (tx_mono _ _) isB1 (l1 (h.1 1 8 + 1).toNat 0 h _ (by omega) (by decide) rfl (fun j a b => by omega)), fun c => by omega⟩⟩⟩)
theorem s_X6_beginWays {d : Nat} {P : Nat → Int → Bool} {s : Int} {h : AH} {K : AH → Prop} (q : ∀ h1, h1.1 = h.1 → (∀ j, 0 ≤ j → j ≤ 60 → h1.2.1 55 j = wW P s 0 j) → K h1) : cV (tx mt (d + 1)) n_X6_beginWays [vR 38] h K := by
  have l1 : ∀ (m : Nat) (f : Int) (h' : AH), f + m = 61 → 0 ≤ f → h'.1 = h.1 → (∀ j, 0 ≤ j → j < f → h'.2.1 55 j = wW P s 0 j) → Bx z0 0 (tx mt d) k_X6_beginWays (fun r h' => r = none ∧ K h') 1 [some (vR 38), some (vI f)] [] h' := by
    intro m
    induction m with
    | zero =>
      intro f h' fm f0 e hc
      exact u_X6_beginWays_1 (tx_mono _ _) ⟨fun _ => u_X6_beginWays_4 (tx_mono _ _) (exV (q h' e (fun j a b => hc j a (by omega)))), fun c => by omega⟩
    | succ m ih =>
      intro f h' fm f0 e hc
      have aux : ∀ v, v = wW P s 0 f → Bx z0 0 (tx mt d) k_X6_beginWays (fun r h' => r = none ∧ K h') 3 [some (vR 38), some (vI f)] [vL v, vI f, vR 55] h' := by
        intro v ev
        refine u_X6_beginWays_3 (tx_mono _ _) ⟨by omega, by omega, fun h1 w1 => ⟨⟨by omega, by omega⟩, ih (f + 1) h1 (by omega) (by omega) (by rw [w1, upL_1]; exact e) (fun j a b => ?_)⟩⟩
        rw [w1, upL_e]
        by_cases c : j = f
        · rw [if_pos ⟨rfl, c⟩, ev, c]
        · rw [if_neg (by omega)]
          exact hc j a (by omega)
      refine u_X6_beginWays_1 (tx_mono _ _) ⟨fun c => by omega, fun _ => ⟨fun c => u_X6_beginWays_2 (tx_mono _ _) (aux 0 (by rw [wW, if_neg c])), fun c => aux 1 (by rw [wW, if_pos (by omega)])⟩⟩
  exact cV_i (e_X6_beginWays (l1 61 0 h (by decide) (by decide) rfl (fun j a b => by omega)))
def orP (w : Int) (p : Bool) : Bool := if w = 0 then true else p
theorem s_X6_eatsToo {d : Nat} {e : Nat} {w s : Int} {g : Int → Int} {h : AH} {K : AH → Prop} (hr : okR (fM h)) (he : okE (fM h)) (e1 : (e : Int) < h.1 38 1) (f0 : 0 ≤ h.1 38 2) (f60 : h.1 38 2 ≤ 60) (s1 : 1 ≤ s) (s4 : s ≤ 4) (hg : ∀ i, 0 ≤ i → i ≤ h.1 38 2 → h.2.1 55 i = g i ∧ 0 ≤ g i ∧ g i ≤ 13845841) (q : ∀ h1, h1.1 = h.1 → (∀ j, 0 ≤ j → j ≤ h.1 38 2 → h1.2.1 55 j = wR (fun t => orP w (plP (fM h) e t)) g j s 61 0) → K h1) : cV (tx mt (d + 4)) n_X6_eatsToo [vR 38, vI e, vI w, vI s] h K := by
  have e4 : h.1 38 1 ≤ 4 := he.2.1
  have f6 : (fM h).2 6 e = h.1 44 e := rfl
  have se := he.2.2 (e : Int) (by omega) e1
  rw [f6] at se
  have l8 : ∀ (m : Nat) (f : Int) (h' : AH) (x1 x2 x3 x5 x6 x7 : Option AV), f + m = h.1 38 2 + 1 → 0 ≤ f → h'.1 = h.1 → (∀ j, 0 ≤ j → j ≤ h.1 38 2 → h'.2.1 56 j = wR (fun t => orP w (plP (fM h) e t)) g j s 61 0) → (∀ j, 0 ≤ j → j < f → h'.2.1 55 j = wR (fun t => orP w (plP (fM h) e t)) g j s 61 0) → Bx z0 0 (tx mt (d+3)) k_X6_eatsToo (fun r h' => r = none ∧ K h') 8 [some (vR 38), x1, x2, x3, some (vI f), x5, x6, x7] [] h' := by
    intro m
    induction m with
    | zero =>
      intro f h' x1 x2 x3 x5 x6 x7 fm f0 e hc hd
      exact u_X6_eatsToo_8 (tx_mono _ _) ⟨fun _ => u_X6_eatsToo_9 (tx_mono _ _) (exV (q h' e (fun j a b => hd j a (by omega)))), fun c => by rw [e] at c; omega⟩
    | succ m ih =>
      intro f h' x1 x2 x3 x5 x6 x7 fm f0 e hc hd
      refine u_X6_eatsToo_8 (tx_mono _ _) ⟨fun c => by rw [e] at c; omega, fun _ => ⟨by omega, by omega, by omega, by omega, fun h1 w1 => ⟨⟨by omega, by omega⟩, ih (f + 1) h1 _ _ _ _ _ _ (by omega) (by omega) (by rw [w1, upL_1]; exact e) (fun j a b => ?_) (fun j a b => ?_)⟩⟩⟩
      · rw [w1, upL_e, if_neg (by omega)]
        exact hc j a b
      · rw [w1, upL_e]
        by_cases c : j = f
        · rw [if_pos ⟨rfl, c⟩, c, hc f f0 (by omega)]
        · rw [if_neg (by omega)]
          exact hd j a (by omega)
  have l2 : ∀ (f : Int) (h' : AH), 0 ≤ f → f ≤ h.1 38 2 → h'.1 = h.1 → (∀ i, 0 ≤ i → i ≤ h.1 38 2 → h'.2.1 55 i = g i) → ∀ (n : Nat) (t acc : Int) (x6 : Option AV), f < t + n → 0 ≤ t → 0 ≤ acc → acc ≤ t * 13845841 → (∀ x6 x7, Bx z0 0 (tx mt (d+3)) k_X6_eatsToo (fun r h' => r = none ∧ K h') 6 [some (vR 38), some (vI ((e : Int))), some (vI w), some (vI s), some (vI f), some (vL ((acc + wR (fun t => orP w (plP (fM h) e t)) g f s n t))), x6, x7] [] h') → Bx z0 0 (tx mt (d+3)) k_X6_eatsToo (fun r h' => r = none ∧ K h') 2 [some (vR 38), some (vI ((e : Int))), some (vI w), some (vI s), some (vI f), some (vL acc), x6, some (vI t)] [] h' := by
    intro f h' f0 ff e' hc n
    have x1 : fM h' = fM h := fM_1 e'
    induction n with
    | zero =>
      intro t acc x6 ft t0 a0 at0 q
      rw [wR, Int.add_zero] at q
      exact u_X6_eatsToo_2 (tx_mono _ _) ⟨fun _ => q _ _, fun c => by omega⟩
    | succ n ih =>
      intro t acc x6 ft t0 a0 at0 q
      rw [wR] at q
      by_cases c : f < t
      · rw [if_pos c, Int.add_zero] at q
        exact u_X6_eatsToo_2 (tx_mono _ _) ⟨fun _ => q _ _, fun c' => by omega⟩
      rw [if_neg c] at q
      have gt := hg (f - t) (by omega) (by omega)
      have yes : orP w (plP (fM h) e t) = true → ∀ x5 x6, Bx z0 0 (tx mt (d+3)) k_X6_eatsToo (fun r h' => r = none ∧ K h') 3 [some (vR 38), some (vI ((e : Int))), some (vI w), some (vI s), some (vI f), x5, x6, some (vI t)] [vL acc] h' := by
        intro c2 x5 x6
        rw [if_pos c2, ← Int.add_assoc] at q
        refine u_X6_eatsToo_3 (tx_mono _ _) ⟨⟨by omega, by omega⟩, by omega, by omega, u_X6_eatsToo_5 (tx_mono _ _) ?_⟩
        rw [hc (f - t) (by omega) (by omega)]
        exact ⟨⟨by omega, by omega⟩, ⟨by omega, by omega⟩, ih (t + s) (acc + g (f - t)) _ (by omega) (by omega) (by omega) (by omega) q⟩
      have no : ¬ orP w (plP (fM h) e t) = true → ∀ x5 x6, Bx z0 0 (tx mt (d+3)) k_X6_eatsToo (fun r h' => r = none ∧ K h') 4 [some (vR 38), some (vI ((e : Int))), some (vI w), some (vI s), some (vI f), x5, x6, some (vI t)] [vL acc] h' := by
        intro c2 x5 x6
        rw [if_neg c2, Int.zero_add] at q
        refine u_X6_eatsToo_4 (tx_mono _ _) (u_X6_eatsToo_5 (tx_mono _ _) ?_)
        rw [Int.add_zero]
        exact ⟨⟨by omega, by omega⟩, ⟨by omega, by omega⟩, ih (t + s) acc _ (by omega) (by omega) a0 (by omega) q⟩
      refine u_X6_eatsToo_2 (tx_mono _ _) ⟨fun c' => by omega, fun _ => ⟨fun c2 => yes (by rw [orP, if_pos c2]) _ _, fun c2 => ?_⟩⟩
      rw [e']
      refine ⟨by omega, by omega, ⟨by omega, by omega⟩, s_X6_wouldHave (by rw [x1]; exact hr) (by rw [x1]; exact he) (by omega) (by rw [x1]; exact e1) (by omega) ?_⟩
      rw [x1, show pl (fM h) e (h.1 44 e + t) = plP (fM h) e t from rfl]
      exact ⟨fun c3 => no (by rw [orP, if_neg c2, b2i_z c3]; decide) _ _, fun c3 => yes (by rw [orP, if_neg c2]; exact b2i_o c3) _ _⟩
  have l1 : ∀ (m : Nat) (f : Int) (h' : AH) (x5 x6 x7 : Option AV), f + m = h.1 38 2 + 1 → 0 ≤ f → h'.1 = h.1 → (∀ i, 0 ≤ i → i ≤ h.1 38 2 → h'.2.1 55 i = g i) → (∀ j, 0 ≤ j → j < f → h'.2.1 56 j = wR (fun t => orP w (plP (fM h) e t)) g j s 61 0) → Bx z0 0 (tx mt (d+3)) k_X6_eatsToo (fun r h' => r = none ∧ K h') 1 [some (vR 38), some (vI ((e : Int))), some (vI w), some (vI s), some (vI f), x5, x6, x7] [] h' := by
    intro m
    induction m with
    | zero =>
      intro f h' x5 x6 x7 fm f0 e' hc hd
      exact u_X6_eatsToo_1 (tx_mono _ _) ⟨fun _ => u_X6_eatsToo_7 (tx_mono _ _) (l8 (h.1 38 2 + 1).toNat 0 h' _ _ _ _ _ _ (by omega) (by decide) e' (fun j a b => hd j a (by omega)) (fun j a b => by omega)), fun c => by rw [e'] at c; omega⟩
    | succ m ih =>
      intro f h' x5 x6 x7 fm f0 e' hc hd
      refine u_X6_eatsToo_1 (tx_mono _ _) ⟨fun c => by rw [e'] at c; omega, fun _ => l2 f h' f0 (by omega) e' hc 61 0 0 _ (by omega) (by decide) (by decide) (by decide) (fun x6 x7 => u_X6_eatsToo_6 (tx_mono _ _) ⟨f0, by omega, fun h1 w1 => ⟨⟨by omega, by omega⟩, ih (f + 1) h1 _ _ _ (by omega) (by omega) (by rw [w1, upL_1]; exact e') (fun i a b => ?_) (fun j a b => ?_)⟩⟩)⟩
      · rw [w1, upL_e, if_neg (by omega)]
        exact hc i a b
      · rw [w1, upL_e]
        by_cases c : j = f
        · rw [if_pos ⟨rfl, c⟩, c, Int.zero_add]
        · rw [if_neg (by omega)]
          exact hd j a (by omega)
  exact cV_i (e_X6_eatsToo (l1 (h.1 38 2 + 1).toNat 0 h _ _ _ (by omega) (by decide) rfl (fun i a b => (hg i a b).1) (fun j a b => by omega)))
