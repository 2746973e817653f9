/-! ===== the reference's leaves ===== -/
theorem lcz_lt (z y : Int) : lcz z y < 0 ↔ z < y := by unfold lcz; split <;> (try split) <;> omega
theorem lcz_gt (z y : Int) : 0 < lcz z y ↔ y < z := by unfold lcz; split <;> (try split) <;> omega
theorem lcz_le (z y : Int) : lcz z y ≤ 0 ↔ z ≤ y := by unfold lcz; split <;> (try split) <;> omega
theorem lcz_ge (z y : Int) : 0 ≤ lcz z y ↔ y ≤ z := by unfold lcz; split <;> (try split) <;> omega
theorem lcz_eq (z y : Int) : lcz z y = 0 ↔ z = y := by unfold lcz; split <;> (try split) <;> omega
def inB (v l u : Int) : Bool := decide (l ≤ v) && decide (v ≤ u)
theorem inB_t {v l u : Int} (h : inB v l u = true) : l ≤ v ∧ v ≤ u := by simpa [inB] using h
theorem inB_f {v l u : Int} (h : inB v l u = false) : v < l ∨ u < v := by
  have : ¬ (l ≤ v ∧ v ≤ u) := fun q => by simp [inB, q.1, q.2] at h
  omega
theorem s_X6_in {d : Nat} {a b c : Int} {h : AH} {k : Int → AH → Prop} (q : k (b2i (inB a b c)) h) : cI (tx mt (d + 1)) n_X6_in [vL a, vL b, vL c] h k := by
  refine e_X6_in ?_
  rw [lcz_lt, lcz_gt]
  repeat' first
    | refine u_X6_in_1 (tx_mono _ _) ?_
    | refine u_X6_in_2 (tx_mono _ _) ?_
    | apply And.intro
    | intro _
  all_goals first
    | omega
    | exact ⟨_, rfl, kq q (by simp only [b2i, inB, Bool.and_eq_true, decide_eq_true_eq]; (first | rw [if_pos (by omega)] | rw [if_neg (by omega)]))⟩
theorem s_X6_isEater {d : Nat} {e : Int} {h : AH} {k : Int → AH → Prop} (he : okE (fM h)) (q : k (b2i (hasE (fM h) e)) h) : cI (tx mt (d + 2)) n_X6_isEater [vR 38, vI e] h k := by
  have e1 : (fM h).1 1 = h.1 38 1 := rfl
  have h4 : (fM h).1 1 ≤ 4 := he.2.1
  have h0 : 0 ≤ (fM h).1 1 := he.1
  refine e_X6_isEater ⟨⟨by omega, by omega⟩, s_X6_in ⟨b2i_01 _, ⟨_, rfl, kq q ?_⟩⟩⟩
  rw [inB, hasE, e1]
  congr 2
  exact decide_eq_decide.mpr (by omega)
theorem s_X6_isRhyme {d : Nat} {e : Int} {h : AH} {k : Int → AH → Prop} (he : okR (fM h)) (q : k (b2i (hasR (fM h) e)) h) : cI (tx mt (d + 2)) n_X6_isRhyme [vR 38, vI e] h k := by
  have e1 : (fM h).1 0 = h.1 38 0 := rfl
  have h4 : (fM h).1 0 ≤ 4 := he.2.1
  have h0 : 0 ≤ (fM h).1 0 := he.1
  refine e_X6_isRhyme ⟨⟨by omega, by omega⟩, s_X6_in ⟨b2i_01 _, ⟨_, rfl, kq q ?_⟩⟩⟩
  rw [inB, hasR, e1]
  congr 2
  exact decide_eq_decide.mpr (by omega)
def wrongN (v l u : Int) : Int := if v < l then -4 else if u < v then -6 else 0
theorem s_X6_wrongNumber {d : Nat} {a b c : Int} {h : AH} {k : Int → AH → Prop} (q : k (wrongN a b c) h) : cI (tx mt (d + 1)) n_X6_wrongNumber [vI a, vI b, vI c] h k := by
  refine e_X6_wrongNumber ?_
  repeat' first
    | refine u_X6_wrongNumber_1 (tx_mono _ _) ?_
    | refine u_X6_wrongNumber_2 (tx_mono _ _) ?_
    | refine u_X6_wrongNumber_3 (tx_mono _ _) ?_
    | apply And.intro
    | intro _
  · exact ⟨_, rfl, kq q (by rw [wrongN, if_neg (by omega), if_neg (by omega)])⟩
  · exact ⟨_, rfl, kq q (by rw [wrongN, if_neg (by omega), if_pos (by omega)])⟩
  · exact ⟨_, rfl, kq q (by rw [wrongN, if_pos (by omega)])⟩
theorem s_X6_refuse {d : Nat} {i : Int} {h : AH} {k : Int → AH → Prop} (h1 : 1 ≤ i) (h6 : i ≤ 6) (hb : 0 ≤ h.1 45 i ∧ h.1 45 i ≤ 100000) (q : k (-i) (upI h 45 i (h.1 45 i + 1))) : cI (tx mt (d + 1)) n_X6_refuse [vR 38, vI (-i)] h k := by
  have e : - -i = i := by omega
  refine e_X6_refuse ?_
  rw [e]
  exact ⟨⟨by omega, by omega⟩, by omega, by omega, ⟨by omega, by omega⟩, by omega, by omega, fun h1 e1 => ⟨_, rfl, by rw [e1]; exact q⟩⟩
theorem s_X5_refuse {d : Nat} {i : Int} {h : AH} {k : Int → AH → Prop} (h1 : 1 ≤ i) (h6 : i ≤ 6) (hb : 0 ≤ h.1 32 i ∧ h.1 32 i ≤ 100000) (q : k (-i) (upI h 32 i (h.1 32 i + 1))) : cI (tx mt (d + 1)) n_X5_refuse [vR 0, vI (-i)] h k := by
  have e : - -i = i := by omega
  refine e_X5_refuse ?_
  rw [e]
  refine ⟨fun c => absurd c (by omega), fun _ => ⟨fun c => absurd c (by omega), fun _ => ⟨⟨by omega, by omega⟩, by omega, by omega, ⟨by omega, by omega⟩, by omega, by omega, fun h1 e1 => u_X5_refuse_1 (tx_mono _ _) ⟨_, rfl, by rw [e1]; exact q⟩⟩⟩⟩
theorem s_X5_refuseLong {d : Nat} {i : Int} {h : AH} {k : Int → AH → Prop} (h1 : 1 ≤ i) (h6 : i ≤ 6) (hb : 0 ≤ h.1 32 i ∧ h.1 32 i ≤ 100000) (q : k (4000000000000000000 + i) (upI h 32 i (h.1 32 i + 1))) : cL (tx mt (d + 2)) n_X5_refuseLong [vR 0, vI (-i)] h k := by
  refine e_X5_refuseLong (s_X5_refuse h1 h6 hb ⟨⟨by omega, by omega⟩, ⟨_, rfl, kq q (by omega)⟩⟩)
def pop (z : Int) : Int := z % 2 + z / 2 % 2 + z / 4 % 2 + z / 8 % 2
theorem pop_cases {P : Int → Prop} {z : Int} (h0 : 0 ≤ z) (h1 : z < 16) (a0 : P 0) (a1 : P 1) (a2 : P 2) (a3 : P 3) (a4 : P 4) (a5 : P 5) (a6 : P 6) (a7 : P 7) (a8 : P 8) (a9 : P 9) (a10 : P 10) (a11 : P 11) (a12 : P 12) (a13 : P 13) (a14 : P 14) (a15 : P 15) : P z := by
  rcases (show z = 0 ∨ z = 1 ∨ z = 2 ∨ z = 3 ∨ z = 4 ∨ z = 5 ∨ z = 6 ∨ z = 7 ∨ z = 8 ∨ z = 9 ∨ z = 10 ∨ z = 11 ∨ z = 12 ∨ z = 13 ∨ z = 14 ∨ z = 15 by omega) with rfl | rfl | rfl | rfl | rfl | rfl | rfl | rfl | rfl | rfl | rfl | rfl | rfl | rfl | rfl | rfl <;> assumption
theorem s_X6_ones_1 {d : Nat} {h : AH} {k : Int → AH → Prop} {n z : Int} (hn : 0 ≤ n ∧ n ≤ 4) (q : z = 0 ∧ k n h ∨ (1 ≤ z ∧ z ≤ 15 ∧ Bx z0 0 (tx mt d) k_X6_ones (fun r h' => ∃ z, r = some (.inl z) ∧ k z h') 1 [none, some (vI (n + 1)), some (vI ((z.toNat &&& (z - 1).toNat : Nat) : Int))] [] h)) (x : Option AV) : Bx z0 0 (tx mt d) k_X6_ones (fun r h' => ∃ z, r = some (.inl z) ∧ k z h') 1 [x, some (vI n), some (vI z)] [] h := by
  refine u_X6_ones_1 (tx_mono _ _) ⟨fun c => ?_, fun c => ?_⟩
  · rcases q with ⟨-, q⟩ | ⟨q, -⟩
    · exact u_X6_ones_2 (tx_mono _ _) ⟨_, rfl, q⟩
    · omega
  · rcases q with ⟨q, -⟩ | ⟨q, q1, q2⟩
    · omega
    · exact ⟨⟨by omega, by omega⟩, ⟨by omega, by omega⟩, by omega, by omega, q2⟩
theorem s_X6_ones {d : Nat} {z : Int} {h : AH} {k : Int → AH → Prop} (h0 : 0 ≤ z) (h1 : z < 16) (q : k (pop z) h) : cI (tx mt (d + 1)) n_X6_ones [vI z] h k := by
  refine e_X6_ones ?_
  revert q
  refine pop_cases (P := fun z => k (pop z) h → Bx z0 0 (tx mt d) k_X6_ones (fun r h' => ∃ z, r = some (.inl z) ∧ k z h') 1 [some (vI z), some (vI 0), some (vI z)] [] h) h0 h1 ?_ ?_ ?_ ?_ ?_ ?_ ?_ ?_ ?_ ?_ ?_ ?_ ?_ ?_ ?_ ?_ <;>
    (intro q
     repeat' first
       | exact s_X6_ones_1 (by decide) (Or.inl ⟨by decide, kq q (by decide)⟩) _
       | refine s_X6_ones_1 (by decide) (Or.inr ⟨by decide, by decide, ?_⟩) _)
theorem s_J6_bitCount_0f7a4 {d : Nat} {z : Int} {h : AH} {k : Int → AH → Prop} (h0 : 0 ≤ z) (h1 : z < 16) (q : k (pop z) h) : cI (tx mt (d + 1)) n_J6_bitCount_0f7a4 [vI z] h k := by
  rcases (show z = 0 ∨ z = 1 ∨ z = 2 ∨ z = 3 ∨ z = 4 ∨ z = 5 ∨ z = 6 ∨ z = 7 ∨ z = 8 ∨ z = 9 ∨ z = 10 ∨ z = 11 ∨ z = 12 ∨ z = 13 ∨ z = 14 ∨ z = 15 by omega) with rfl | rfl | rfl | rfl | rfl | rfl | rfl | rfl | rfl | rfl | rfl | rfl | rfl | rfl | rfl | rfl <;>
    (refine e_J6_bitCount_0f7a4 ?_
     repeat' apply And.intro
     all_goals first
       | exact ⟨_, rfl, kq q (by decide +kernel)⟩
       | decide +kernel)
theorem s_X6_saidBy {d : Nat} {r n : Int} {h : AH} {k : Int → AH → Prop} (hr : okR (fM h)) (h0 : 0 ≤ r) (h1 : r < (fM h).1 0) (hn : 0 ≤ n ∧ n ≤ 1000000) (q : k (wTo (fM h) r n) h) : cI (tx mt (d + 1)) n_X6_saidBy [vR 38, vI r, vI n] h k := by
  have hl := hr.2.2 r h0 h1
  have h4 : (fM h).1 0 ≤ 4 := hr.2.1
  have f1 : (fM h).2 1 r = h.1 39 r := rfl
  have f2 : (fM h).2 2 r = h.1 40 r := rfl
  refine e_X6_saidBy ⟨fun c => u_X6_saidBy_1 (tx_mono _ _) ⟨h0, by omega, ⟨by omega, by omega⟩, ⟨by omega, by omega⟩, h0, by omega, by omega, by omega, u_X6_saidBy_2 (tx_mono _ _) ⟨_, rfl, kq q ?_⟩⟩, fun c => u_X6_saidBy_2 (tx_mono _ _) ⟨_, rfl, kq q ?_⟩⟩
  · rw [wTo, if_pos ⟨h0, h1⟩, wordP, if_neg (by omega), f1, f2]
  · rw [wTo, if_pos ⟨h0, h1⟩, wordP, if_pos (by omega)]
theorem s_X6_wordTo {d : Nat} {n : Int} {h : AH} {k : Int → AH → Prop} (hr : okR (fM h)) (hn : 0 ≤ n ∧ n ≤ 1000000) (q : k (wTo (fM h) 0 n) h) : cI (tx mt (d + 2)) n_X6_wordTo [vR 38, vI n] h k := by
  have f0 : (fM h).1 0 = h.1 38 0 := rfl
  have h4 : 0 ≤ (fM h).1 0 := hr.1
  refine e_X6_wordTo ⟨fun c => u_X6_wordTo_1 (tx_mono _ _) (s_X6_saidBy hr (by omega) (by omega) hn (u_X6_wordTo_2 (tx_mono _ _) ⟨_, rfl, q⟩)), fun c => u_X6_wordTo_2 (tx_mono _ _) ⟨_, rfl, kq q ?_⟩⟩
  rw [wTo, if_neg (by omega)]
theorem pl_wTo {b : BD} {e n : Int} (hr : okR b) (he : okE b) (h0 : 0 ≤ e) (h1 : e < b.1 1) : pl b e n = decide (wTo b 0 n = b.2 5 e) := by
  have hw := he.2.2 e h0 h1
  unfold pl wTo
  rw [hasE_i h0 h1]
  by_cases h : 0 < b.1 0
  · rw [decide_eq_true h, if_pos ⟨by omega, h⟩]; rfl
  · rw [decide_eq_false h, if_neg (by omega)]
    symm
    simp only [Bool.false_and, Bool.and_false, decide_eq_false_iff_not]
    omega
theorem s_X6_wouldHave {d : Nat} {e n : Int} {h : AH} {k : Int → AH → Prop} (hr : okR (fM h)) (he : okE (fM h)) (h0 : 0 ≤ e) (h1 : e < (fM h).1 1) (hn : 0 ≤ n ∧ n ≤ 1000000) (q : k (b2i (pl (fM h) e n)) h) : cI (tx mt (d + 3)) n_X6_wouldHave [vR 38, vI e, vI n] h k := by
  have h4 : (fM h).1 1 ≤ 4 := he.2.1
  have f5 : (fM h).2 5 e = h.1 43 e := rfl
  refine e_X6_wouldHave (s_X6_wordTo hr hn ⟨h0, by omega, fun c => u_X6_wouldHave_1 (tx_mono _ _) (u_X6_wouldHave_2 (tx_mono _ _) ⟨Or.inl rfl, ⟨_, rfl, kq q ?_⟩⟩), fun c => u_X6_wouldHave_2 (tx_mono _ _) ⟨Or.inr rfl, ⟨_, rfl, kq q ?_⟩⟩⟩)
  · rw [pl_wTo hr he h0 h1, f5, decide_eq_false c]; rfl
  · rw [pl_wTo hr he h0 h1, f5, decide_eq_true (by omega : wTo (fM h) 0 n = h.1 43 e)]; rfl
theorem s_X6_has {d : Nat} {e : Int} {h : AH} {k : Int → AH → Prop} (hr : okR (fM h)) (he : okE (fM h)) (h0 : 0 ≤ e) (h1 : e < (fM h).1 1) (q : k (b2i (isP (fM h) e)) h) : cI (tx mt (d + 4)) n_X6_has [vR 38, vI e] h k := by
  have h4 : (fM h).1 1 ≤ 4 := he.2.1
  have hs := he.2.2 e h0 h1
  have f6 : (fM h).2 6 e = h.1 44 e := rfl
  refine e_X6_has ⟨h0, by omega, s_X6_wouldHave hr he h0 h1 (by omega) ⟨b2i_01 _, ⟨_, rfl, kq q ?_⟩⟩⟩
  rw [isP, hasE_i h0 h1, f6]; rfl
theorem s_X6_haveBits {d : Nat} {h : AH} {k : Int → AH → Prop} (hr : okR (fM h)) (he : okE (fM h)) (q : k (bitsN (fun e => isP (fM h) (e : Int)) ((fM h).1 1).toNat : Nat) h) : cI (tx mt (d + 5)) n_X6_haveBits [vR 38] h k := by
  refine e_X6_haveBits ?_
  have e4 : (fM h).1 1 ≤ 4 := he.2.1
  have e0 : 0 ≤ (fM h).1 1 := he.1
  have f1 : (fM h).1 1 = h.1 38 1 := rfl
  have key : ∀ (m e : Nat), e + m = ((fM h).1 1).toNat → Bx z0 0 (tx mt (d + 4)) k_X6_haveBits (fun r h' => ∃ z, r = some (.inl z) ∧ k z h') 1 [some (vR 38), some (vI ((bitsN (fun e => isP (fM h) (e : Int)) e : Nat) : Int)), some (vI (e : Int))] [] h := by
    intro m
    induction m with
    | zero =>
      intro e hm
      refine u_X6_haveBits_1 (tx_mono _ _) ⟨fun c => ?_, fun c => absurd c (by omega)⟩
      refine u_X6_haveBits_4 (tx_mono _ _) ⟨_, rfl, kq q ?_⟩
      rw [show e = ((fM h).1 1).toNat by omega]
    | succ m ih =>
      intro e hm
      have hb := bitsN_lt (fun e => isP (fM h) (e : Int)) e
      have h16 : 2 ^ e ≤ 2 ^ 3 := Nat.pow_le_pow_right (by decide) (by omega)
      have e1 : (1 * 2 ^ Int.toNat (e : Int) : Int) = ((2 ^ e : Nat) : Int) := by rw [Int.toNat_natCast]; simp
      have nx := ih (e + 1) (by omega)
      refine u_X6_haveBits_1 (tx_mono _ _) ⟨fun c => absurd c (by omega), fun c => ?_⟩
      refine s_X6_has hr he (by omega) (by omega) ⟨fun c2 => ?_, fun c2 => ?_⟩
      · rw [bitsN, if_neg (by rw [b2i_z c2]; decide)] at nx
        refine u_X6_haveBits_2 (tx_mono _ _) (u_X6_haveBits_3 (tx_mono _ _) ⟨by omega, by omega, ⟨by omega, by omega⟩, ?_⟩)
        rw [Int.toNat_natCast, show Int.toNat 0 = 0 from rfl, Nat.or_zero]
        exact nx
      · rw [bitsN, if_pos (b2i_o c2)] at nx
        refine ⟨by omega, by omega, by omega, by rw [e1]; exact ⟨by omega, by omega⟩, u_X6_haveBits_3 (tx_mono _ _) ⟨by omega, by rw [e1]; omega, ⟨by omega, by omega⟩, ?_⟩⟩
        rw [e1, Int.toNat_natCast, Int.toNat_natCast]
        exact nx
  exact key ((fM h).1 1).toNat 0 (by omega)
