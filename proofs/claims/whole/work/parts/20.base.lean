/-! ===== boards as values; what the leaves answer ===== -/
abbrev BD : Type := (Nat → Int) × (Nat → Int → Int)
def xs : Nat → Int
  | 0 => 0
  | 1 => 3
  | 2 => 8
  | 3 => 9
  | 4 => 10
  | 5 => 11
  | _ => 12
def xa (k : Nat) : Nat → Nat
  | 1 => k + 1
  | 2 => k + 2
  | 3 => k + 3
  | 4 => k + 4
  | 5 => k + 5
  | 6 => k + 6
  | _ => k + 7
def ms : Nat → Int
  | 0 => 0
  | 1 => 1
  | 2 => 2
  | 3 => 3
  | 4 => 4
  | 5 => 5
  | _ => 39
def ma : Nat → Nat
  | 1 => 39
  | 2 => 40
  | 3 => 41
  | 4 => 42
  | 5 => 43
  | 6 => 44
  | _ => 61
/-- a board of the component; the reference's -/
def fX (h : AH) (k : Nat) : BD := (fun n => h.1 k (xs n), fun j i => h.1 (xa k j) i)
def fM (h : AH) : BD := (fun n => h.1 38 (ms n), fun j i => h.1 (ma j) i)
/-- scalars: 0 RHYMES, 1 EATERS, 2 FRUITS, 3 BUNCH, 4 MOST, 5 NEXT, 6 PILES; rows: 1 lengths, 2 firsts, 3 kinds, 4 figures, 5 wishes, 6 stones, 7 piles -/
def okR (b : BD) : Prop := 0 ≤ b.1 0 ∧ b.1 0 ≤ 4 ∧ ∀ r, 0 ≤ r → r < b.1 0 → 2 ≤ b.2 1 r ∧ b.2 1 r ≤ 12 ∧ 0 ≤ b.2 2 r ∧ b.2 2 r < b.2 1 r
def okE (b : BD) : Prop := 0 ≤ b.1 1 ∧ b.1 1 ≤ 4 ∧ ∀ e, 0 ≤ e → e < b.1 1 → 0 ≤ b.2 3 e ∧ b.2 3 e ≤ 5 ∧ 0 ≤ b.2 4 e ∧ b.2 4 e ≤ 9 ∧ 0 ≤ b.2 5 e ∧ b.2 5 e ≤ 11 ∧ 0 ≤ b.2 6 e ∧ b.2 6 e ≤ 99
def okS (b : BD) : Prop := 0 ≤ b.1 2 ∧ b.1 2 ≤ 60 ∧ 1 ≤ b.1 3 ∧ b.1 3 ≤ 4 ∧ 1 ≤ b.1 4 ∧ b.1 4 ≤ 6 ∧ 0 ≤ b.1 5 ∧ (b.1 5 < b.1 1 ∨ b.1 5 = 0)
def okP (b : BD) : Prop := 0 ≤ b.1 6 ∧ b.1 6 ≤ 4 ∧ ∀ p, 0 ≤ p → p < 4 → 0 ≤ b.2 7 p ∧ b.2 7 p ≤ 12 ∧ (b.1 6 ≤ p → b.2 7 p = 0)
def okZ (b : BD) : Prop := ∀ (j : Nat) (i : Int), (i < 0 ∨ 4 ≤ i) → b.2 j i = 0
def okBd (b : BD) : Prop := okR b ∧ okE b ∧ okS b ∧ okP b ∧ okZ b
theorem kq {α : Type} {k : α → AH → Prop} {v v' : α} {h : AH} (q : k v h) (e : v' = v) : k v' h := by rw [e]; exact q
def wordP (len first n : Int) : Int := if n < 1 ∨ len < 1 then -9 else (first + n - 1) % len
def wTo (b : BD) (r n : Int) : Int := if 0 ≤ r ∧ r < b.1 0 then wordP (b.2 1 r) (b.2 2 r) n else -9
def b2i (p : Bool) : Int := if p = true then 1 else 0
def hasE (b : BD) (e : Int) : Bool := decide (0 ≤ e) && decide (e < b.1 1)
def hasR (b : BD) (e : Int) : Bool := decide (0 ≤ e) && decide (e < b.1 0)
def pl (b : BD) (e n : Int) : Bool := hasE b e && (decide (0 < b.1 0) && decide (wordP (b.2 1 0) (b.2 2 0) n = b.2 5 e))
def isP (b : BD) (e : Int) : Bool := hasE b e && pl b e (b.2 6 e)
def bitsN (p : Nat → Bool) : Nat → Nat
  | 0 => 0
  | n + 1 => if p n = true then bitsN p n ||| 2 ^ n else bitsN p n
theorem b2i_01 (p : Bool) : b2i p = 0 ∨ b2i p = 1 := by cases p <;> simp [b2i]
theorem s_X5_spoken {d : Nat} {a b n : Int} {h : AH} {k : Int → AH → Prop} (hb : 0 ≤ b ∧ b ≤ 100000) (hn : n ≤ 1000000) (q : k (wordP a b n) h) : cI (tx mt (d + 1)) n_X5_spoken [vI a, vI b, vI n] h k := by
  refine e_X5_spoken ?_
  repeat' first
    | refine u_X5_spoken_1 (tx_mono _ _) ?_
    | refine u_X5_spoken_2 (tx_mono _ _) ?_
    | apply And.intro
    | intro _
  · exact ⟨_, rfl, kq q (by rw [wordP, if_pos (by omega)])⟩
  all_goals first
    | omega
    | exact ⟨_, rfl, kq q (by rw [wordP, if_neg (by omega), Int.add_comm])⟩
    | exact ⟨_, rfl, kq q (by rw [wordP, if_neg (by omega)])⟩
    | exact ⟨_, rfl, kq q (by rw [wordP, if_pos (by omega)])⟩
theorem s_X0_hasEater {d k0 : Nat} {e : Int} {h : AH} {k : Int → AH → Prop} (hB : isB k0) (q : k (b2i (hasE (fX h k0) e)) h) : cI (tx mt (d + 1)) n_X0_hasEater [vR k0, vI e] h k := by
  refine e_X0_hasEater hB ?_
  have e1 : (fX h k0).1 1 = h.1 k0 3 := rfl
  repeat' first
    | refine u_X0_hasEater_1 (tx_mono _ _) ?_
    | refine u_X0_hasEater_2 (tx_mono _ _) ?_
    | apply And.intro
    | intro _
  all_goals first
    | omega
    | exact ⟨_, rfl, kq q (by simp only [b2i, hasE, e1, Bool.and_eq_true, decide_eq_true_eq]; (first | rw [if_pos (by omega)] | rw [if_neg (by omega)]))⟩
theorem s_X0_hasRhyme {d k0 : Nat} {e : Int} {h : AH} {k : Int → AH → Prop} (hB : isB k0) (q : k (b2i (hasR (fX h k0) e)) h) : cI (tx mt (d + 1)) n_X0_hasRhyme [vR k0, vI e] h k := by
  refine e_X0_hasRhyme hB ?_
  have e1 : (fX h k0).1 0 = h.1 k0 0 := rfl
  repeat' first
    | refine u_X0_hasRhyme_1 (tx_mono _ _) ?_
    | refine u_X0_hasRhyme_2 (tx_mono _ _) ?_
    | apply And.intro
    | intro _
  all_goals first
    | omega
    | exact ⟨_, rfl, kq q (by simp only [b2i, hasR, e1, Bool.and_eq_true, decide_eq_true_eq]; (first | rw [if_pos (by omega)] | rw [if_neg (by omega)]))⟩
theorem b2i_z {p : Bool} (h : b2i p = 0) : p = false := by cases p <;> simp [b2i] at h ⊢
theorem b2i_o {p : Bool} (h : ¬ b2i p = 0) : p = true := by cases p <;> simp [b2i] at h ⊢
theorem hasE_t {b : BD} {e : Int} (h : hasE b e = true) : 0 ≤ e ∧ e < b.1 1 := by simpa [hasE] using h
theorem hasR_t {b : BD} {e : Int} (h : hasR b e = true) : 0 ≤ e ∧ e < b.1 0 := by simpa [hasR] using h
theorem hasE_i {b : BD} {e : Int} (h0 : 0 ≤ e) (h1 : e < b.1 1) : hasE b e = true := by simp [hasE, h0, h1]
theorem s_X0_pleases {d k0 : Nat} {e n : Int} {h : AH} {k : Int → AH → Prop} (hB : isB k0) (hr : okR (fX h k0)) (he : okE (fX h k0)) (hn : n ≤ 1000000) (q : k (b2i (pl (fX h k0) e n)) h) : cI (tx mt (d + 2)) n_X0_pleases [vR k0, vI e, vI n] h k := by
  refine e_X0_pleases hB ?_
  refine s_X0_hasEater hB ⟨fun c => ?_, fun c => ?_⟩
  · refine u_X0_pleases_1 (tx_mono _ _) (u_X0_pleases_2 (tx_mono _ _) ⟨Or.inl rfl, ⟨_, rfl, kq q ?_⟩⟩)
    rw [pl, b2i_z c]; rfl
  · have hE := hasE_t (b2i_o c)
    have e4 : (fX h k0).1 1 ≤ 4 := he.2.1
    refine ⟨fun c2 => ?_, fun c2 => ?_⟩
    · refine u_X0_pleases_1 (tx_mono _ _) (u_X0_pleases_2 (tx_mono _ _) ⟨Or.inl rfl, ⟨_, rfl, kq q ?_⟩⟩)
      rw [pl, show decide (0 < (fX h k0).1 0) = false from decide_eq_false (by show ¬ 0 < h.1 k0 0; omega)]
      simp [b2i]
    · have h0 : 0 < (fX h k0).1 0 := by show 0 < h.1 k0 0; omega
      have hl := hr.2.2 0 (by omega) h0
      have f1 : (fX h k0).2 1 0 = h.1 (k0 + 1) 0 := rfl
      have f2 : (fX h k0).2 2 0 = h.1 (k0 + 2) 0 := rfl
      have f5 : (fX h k0).2 5 e = h.1 (k0 + 5) e := rfl
      refine s_X5_spoken (by rw [← f1, ← f2] at *; omega) hn ⟨hE.1, by omega, fun c3 => ?_, fun c3 => ?_⟩
      · refine u_X0_pleases_1 (tx_mono _ _) (u_X0_pleases_2 (tx_mono _ _) ⟨Or.inl rfl, ⟨_, rfl, kq q ?_⟩⟩)
        rw [pl, f1, f2, f5, decide_eq_false c3]
        simp [b2i]
      · refine u_X0_pleases_2 (tx_mono _ _) ⟨Or.inr rfl, ⟨_, rfl, kq q ?_⟩⟩
        rw [pl, f1, f2, f5, hasE_i hE.1 hE.2, decide_eq_true h0, decide_eq_true (by omega : wordP (h.1 (k0 + 1) 0) (h.1 (k0 + 2) 0) n = h.1 (k0 + 5) e)]
        rfl
theorem s_X0_isPleased {d k0 : Nat} {e : Int} {h : AH} {k : Int → AH → Prop} (hB : isB k0) (hr : okR (fX h k0)) (he : okE (fX h k0)) (q : k (b2i (isP (fX h k0) e)) h) : cI (tx mt (d + 3)) n_X0_isPleased [vR k0, vI e] h k := by
  refine e_X0_isPleased hB ?_
  refine s_X0_hasEater hB ⟨fun c => ?_, fun c => ?_⟩
  · refine u_X0_isPleased_1 (tx_mono _ _) (u_X0_isPleased_2 (tx_mono _ _) ⟨Or.inl rfl, ⟨_, rfl, kq q ?_⟩⟩)
    rw [isP, b2i_z c]; rfl
  · have hE := hasE_t (b2i_o c)
    have e4 : (fX h k0).1 1 ≤ 4 := he.2.1
    have hs := he.2.2 e hE.1 hE.2
    have f6 : (fX h k0).2 6 e = h.1 (k0 + 6) e := rfl
    refine ⟨hE.1, by omega, s_X0_pleases hB hr he (by omega) ⟨fun c2 => ?_, fun c2 => ?_⟩⟩
    · refine u_X0_isPleased_1 (tx_mono _ _) (u_X0_isPleased_2 (tx_mono _ _) ⟨Or.inl rfl, ⟨_, rfl, kq q ?_⟩⟩)
      rw [isP, f6, b2i_z c2, Bool.and_false]; rfl
    · refine u_X0_isPleased_2 (tx_mono _ _) ⟨Or.inr rfl, ⟨_, rfl, kq q ?_⟩⟩
      rw [isP, f6, b2i_o c2, b2i_o c]; rfl
theorem bitsN_lt (p : Nat → Bool) (n : Nat) : bitsN p n < 2 ^ n := by
  induction n with
  | zero => simp [bitsN]
  | succ n ih =>
    rw [bitsN]
    have h2 : 2 ^ n < 2 ^ (n + 1) := Nat.pow_lt_pow_right (by decide) (by omega)
    split
    · exact Nat.or_lt_two_pow (by omega) h2
    · omega
theorem s_X0_pleasedBits {d k0 : Nat} {h : AH} {k : Int → AH → Prop} (hB : isB k0) (hr : okR (fX h k0)) (he : okE (fX h k0)) (q : k (bitsN (fun e => isP (fX h k0) (e : Int)) ((fX h k0).1 1).toNat : Nat) h) : cI (tx mt (d + 4)) n_X0_pleasedBits [vR k0] h k := by
  refine e_X0_pleasedBits hB ?_
  have e4 : (fX h k0).1 1 ≤ 4 := he.2.1
  have e0 : 0 ≤ (fX h k0).1 1 := he.1
  have f1 : (fX h k0).1 1 = h.1 k0 3 := rfl
  have key : ∀ (m e : Nat), e + m = ((fX h k0).1 1).toNat → Bx z0 0 (tx mt (d + 3)) k_X0_pleasedBits (fun r h' => ∃ z, r = some (.inl z) ∧ k z h') 1 [some (vR k0), some (vI ((bitsN (fun e => isP (fX h k0) (e : Int)) e : Nat) : Int)), some (vI (e : Int))] [] h := by
    intro m
    induction m with
    | zero =>
      intro e hm
      refine u_X0_pleasedBits_1 (tx_mono _ _) hB ⟨fun c => ?_, fun c => absurd c (by omega)⟩
      refine u_X0_pleasedBits_3 (tx_mono _ _) ⟨_, rfl, kq q ?_⟩
      rw [show e = ((fX h k0).1 1).toNat by omega]
    | succ m ih =>
      intro e hm
      have hb := bitsN_lt (fun e => isP (fX h k0) (e : Int)) e
      have h16 : 2 ^ e ≤ 2 ^ 3 := Nat.pow_le_pow_right (by decide) (by omega)
      have e1 : (1 * 2 ^ Int.toNat (e : Int) : Int) = ((2 ^ e : Nat) : Int) := by rw [Int.toNat_natCast]; simp
      have nx : Bx z0 0 (tx mt (d + 3)) k_X0_pleasedBits (fun r h' => ∃ z, r = some (.inl z) ∧ k z h') 2 [some (vR k0), some (vI ((bitsN (fun e => isP (fX h k0) (e : Int)) (e + 1) : Nat) : Int)), some (vI (e : Int))] [] h := by
        refine u_X0_pleasedBits_2 (tx_mono _ _) hB ⟨⟨by omega, by omega⟩, ?_⟩
        exact ih (e + 1) (by omega)
      refine u_X0_pleasedBits_1 (tx_mono _ _) hB ⟨fun c => absurd c (by omega), fun c => ?_⟩
      refine s_X0_isPleased hB hr he ⟨fun c2 => ?_, fun c2 => ?_⟩
      · rw [bitsN, if_neg (by rw [b2i_z c2]; decide)] at nx
        exact nx
      · rw [bitsN, if_pos (b2i_o c2)] at nx
        refine ⟨by omega, by omega, by omega, by rw [e1]; exact ⟨by omega, by omega⟩, by omega, by rw [e1]; omega, ?_⟩
        rw [e1, Int.toNat_natCast, Int.toNat_natCast]
        exact nx
  exact key ((fX h k0).1 1).toNat 0 (by omega)
