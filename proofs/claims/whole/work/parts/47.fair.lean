/-! ===== fair, rhymed ===== -/
def pbF (b : BD) (len first : Int) (e : Nat) : Int := b2i (decide (wordP len first (b.2 6 e) = b.2 5 e))
def pby (b : BD) (len first : Int) : Int := sumN (pbF b len first) (b.1 1).toNat
theorem pbF_b (b : BD) (len first : Int) (n : Nat) : 0 ≤ sumN (pbF b len first) n ∧ sumN (pbF b len first) n ≤ n := by
  have := sumN_b (f := pbF b len first) (c := 1) (n := n) (fun i _ => by unfold pbF; rcases b2i_01 (decide (wordP len first (b.2 6 i) = b.2 5 i)) with e | e <;> omega)
  omega
theorem pby_b {b : BD} (he : okE b) (len first : Int) : 0 ≤ pby b len first ∧ pby b len first ≤ 4 := by
  have := pbF_b b len first (b.1 1).toNat
  have := he.1
  have := he.2.1
  unfold pby
  omega
theorem s_X0_pleasedBy {d : Nat} {len first : Int} {h : AH} {k : Int → AH → Prop} (he : okE (fX h 1)) (hl : 2 ≤ len ∧ len ≤ 12) (hf : 0 ≤ first ∧ first ≤ 12) (q : k (pby (fX h 1) len first) h) : cI (tx mt (d + 2)) n_X0_pleasedBy [vR 1, vI len, vI first] h k := by
  have e0 := he.1
  have e4 := he.2.1
  have f1 : (fX h 1).1 1 = h.1 1 3 := rfl
  have key : ∀ (m i : Nat), i + m = (h.1 1 3).toNat → Bx z0 0 (tx mt (d + 1)) k_X0_pleasedBy (fun r h' => ∃ z, r = some (.inl z) ∧ k z h') 1 [some (vR 1), some (vI len), some (vI first), some (vI (sumN (pbF (fX h 1) len first) i)), some (vI (i : Int))] [] h := by
    intro m
    induction m with
    | zero =>
      intro i im
      refine u_X0_pleasedBy_1 (tx_mono _ _) isB1 ⟨fun c => u_X0_pleasedBy_3 (tx_mono _ _) (exI (kq q ?_)), fun c => by omega⟩
      unfold pby
      rw [f1, show i = (h.1 1 3).toNat by omega]
    | succ m ih =>
      intro i im
      have nx := ih (i + 1) (by omega)
      have bb := pbF_b (fX h 1) len first i
      have hs := he.2.2 (i : Int) (by omega) (by omega)
      have s6 : (fX h 1).2 6 i = h.1 7 i := rfl
      have s5 : (fX h 1).2 5 i = h.1 6 i := rfl
      rw [sumN] at nx
      refine u_X0_pleasedBy_1 (tx_mono _ _) isB1 ⟨fun c => by omega, fun _ => ⟨by omega, by omega, s_X5_spoken (by omega) (by show h.1 7 (i : Int) ≤ _; omega) ⟨by omega, by omega, fun c => u_X0_pleasedBy_2 (tx_mono _ _) isB1 ⟨⟨by omega, by omega⟩, ?_⟩, fun c => ⟨⟨by omega, by omega⟩, u_X0_pleasedBy_2 (tx_mono _ _) isB1 ⟨⟨by omega, by omega⟩, ?_⟩⟩⟩⟩⟩
      · have e : pbF (fX h 1) len first i = 0 := by unfold pbF; rw [s6, s5, decide_eq_false c]; rfl
        rw [e, Int.add_zero] at nx
        exact nx
      · have e : pbF (fX h 1) len first i = 1 := by unfold pbF; rw [s6, s5, decide_eq_true (Decidable.not_not.mp c)]; rfl
        rw [e] at nx
        exact nx
  exact cI_i (e_X0_pleasedBy isB1 (key (h.1 1 3).toNat 0 (by omega)))
theorem s_X6_haveWith {d : Nat} {len first : Int} {h : AH} {k : Int → AH → Prop} (he : okE (fM h)) (hl : 2 ≤ len ∧ len ≤ 12) (hf : 0 ≤ first ∧ first ≤ 12) (q : k (pby (fM h) len first) h) : cI (tx mt (d + 1)) n_X6_haveWith [vR 38, vI len, vI first] h k := by
  have e0 := he.1
  have e4 := he.2.1
  have f1 : (fM h).1 1 = h.1 38 1 := rfl
  have key : ∀ (m i : Nat), i + m = (h.1 38 1).toNat → Bx z0 0 (tx mt d) k_X6_haveWith (fun r h' => ∃ z, r = some (.inl z) ∧ k z h') 1 [some (vR 38), some (vI len), some (vI first), some (vI (sumN (pbF (fM h) len first) i)), some (vI (i : Int))] [] h := by
    intro m
    induction m with
    | zero =>
      intro i im
      refine u_X6_haveWith_1 (tx_mono _ _) ⟨fun c => u_X6_haveWith_4 (tx_mono _ _) (exI (kq q ?_)), fun c => by omega⟩
      unfold pby
      rw [f1, show i = (h.1 38 1).toNat by omega]
    | succ m ih =>
      intro i im
      have nx := ih (i + 1) (by omega)
      have bb := pbF_b (fM h) len first i
      have hs := he.2.2 (i : Int) (by omega) (by omega)
      have s6 : (fM h).2 6 i = h.1 44 i := rfl
      have s5 : (fM h).2 5 i = h.1 43 i := rfl
      rw [sumN] at nx
      refine u_X6_haveWith_1 (tx_mono _ _) ⟨fun c => by omega, fun _ => ⟨by omega, by omega, fun c => u_X6_haveWith_2 (tx_mono _ _) (u_X6_haveWith_3 (tx_mono _ _) ⟨⟨by omega, by omega⟩, ⟨by omega, by omega⟩, ?_⟩), fun c => ⟨by omega, by omega, ⟨by omega, by omega⟩, ⟨by omega, by omega⟩, by omega, by omega, by omega, by omega, fun c2 => u_X6_haveWith_2 (tx_mono _ _) (u_X6_haveWith_3 (tx_mono _ _) ⟨⟨by omega, by omega⟩, ⟨by omega, by omega⟩, ?_⟩), fun c2 => u_X6_haveWith_3 (tx_mono _ _) ⟨⟨by omega, by omega⟩, ⟨by omega, by omega⟩, ?_⟩⟩⟩⟩
      · have e : pbF (fM h) len first i = 0 := by unfold pbF; rw [wordP, if_pos (by omega), decide_eq_false (by omega)]; rfl
        rw [e] at nx
        exact nx
      · have e : pbF (fM h) len first i = 0 := by unfold pbF; rw [wordP, if_neg (by omega), s6, s5, decide_eq_false c2]; rfl
        rw [e] at nx
        exact nx
      · have e : pbF (fM h) len first i = 1 := by unfold pbF; rw [wordP, if_neg (by omega), s6, s5, decide_eq_true (Decidable.not_not.mp c2)]; rfl
        rw [e] at nx
        exact nx
  exact cI_i (e_X6_haveWith (key (h.1 38 1).toNat 0 (by omega)))
theorem s_X6_haveBy {d : Nat} {len : Int} {h : AH} {k : Int → AH → Prop} (he : okE (fM h)) (hl : 2 ≤ len ∧ len ≤ 12) (hf : 0 ≤ h.1 40 0) (q : k (pby (fM h) len (h.1 40 0 % len)) h) : cI (tx mt (d + 1)) n_X6_haveBy [vR 38, vI len] h k := by
  have e0 := he.1
  have e4 := he.2.1
  have f1 : (fM h).1 1 = h.1 38 1 := rfl
  have er := emod_r (a := h.1 40 0) (b := len) (by omega)
  have key : ∀ (m i : Nat), i + m = (h.1 38 1).toNat → Bx z0 0 (tx mt d) k_X6_haveBy (fun r h' => ∃ z, r = some (.inl z) ∧ k z h') 1 [some (vR 38), some (vI len), some (vI (sumN (pbF (fM h) len (h.1 40 0 % len)) i)), some (vI (i : Int))] [] h := by
    intro m
    induction m with
    | zero =>
      intro i im
      refine u_X6_haveBy_1 (tx_mono _ _) ⟨fun c => u_X6_haveBy_4 (tx_mono _ _) (exI (kq q ?_)), fun c => by omega⟩
      unfold pby
      rw [f1, show i = (h.1 38 1).toNat by omega]
    | succ m ih =>
      intro i im
      have nx := ih (i + 1) (by omega)
      have bb := pbF_b (fM h) len (h.1 40 0 % len) i
      have hs := he.2.2 (i : Int) (by omega) (by omega)
      have s6 : (fM h).2 6 i = h.1 44 i := rfl
      have s5 : (fM h).2 5 i = h.1 43 i := rfl
      rw [sumN] at nx
      refine u_X6_haveBy_1 (tx_mono _ _) ⟨fun c => by omega, fun _ => ⟨by omega, by omega, fun c => u_X6_haveBy_2 (tx_mono _ _) (u_X6_haveBy_3 (tx_mono _ _) ⟨⟨by omega, by omega⟩, ⟨by omega, by omega⟩, ?_⟩), fun c => ⟨hf, by omega, by omega, by omega, ⟨by omega, by omega⟩, ⟨by omega, by omega⟩, by omega, by omega, by omega, by omega, fun c2 => u_X6_haveBy_2 (tx_mono _ _) (u_X6_haveBy_3 (tx_mono _ _) ⟨⟨by omega, by omega⟩, ⟨by omega, by omega⟩, ?_⟩), fun c2 => u_X6_haveBy_3 (tx_mono _ _) ⟨⟨by omega, by omega⟩, ⟨by omega, by omega⟩, ?_⟩⟩⟩⟩
      · have e : pbF (fM h) len (h.1 40 0 % len) i = 0 := by unfold pbF; rw [wordP, if_pos (by omega), decide_eq_false (by omega)]; rfl
        rw [e] at nx
        exact nx
      · have e : pbF (fM h) len (h.1 40 0 % len) i = 0 := by unfold pbF; rw [wordP, if_neg (by omega), s6, s5, decide_eq_false c2]; rfl
        rw [e] at nx
        exact nx
      · have e : pbF (fM h) len (h.1 40 0 % len) i = 1 := by unfold pbF; rw [wordP, if_neg (by omega), s6, s5, decide_eq_true (Decidable.not_not.mp c2)]; rfl
        rw [e] at nx
        exact nx
  exact cI_i (e_X6_haveBy (key (h.1 38 1).toNat 0 (by omega)))
def amx (f : Int → Int) : Nat → Int → Int → Int
  | 0, _, b => b
  | m + 1, l, b => amx f m (l + 1) (if f l ≤ f b then b else l)
theorem amx_r {f : Int → Int} : ∀ (m : Nat) (l b : Int), 2 ≤ b → b < l → 2 ≤ amx f m l b ∧ amx f m l b < l + m := by
  intro m
  induction m with
  | zero => intro l b h1 h2; exact ⟨h1, by show b < l + 0; omega⟩
  | succ m ih =>
    intro l b h1 h2
    rw [amx]
    split
    · have := ih (l + 1) b h1 (by omega); omega
    · have := ih (l + 1) l (by omega) (by omega); omega
def frF (b : BD) (l : Int) : Int := pby b l (b.2 2 0 % l)
