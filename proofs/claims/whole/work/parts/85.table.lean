/-! ===== table ===== -/
def Pn (sg : Int → Int) : Nat → Int
  | 0 => 0
  | k + 1 => (stp sg (Pn sg k)).1
def TB (sg : Int → Int) (S : Int) (k : Nat) (h : AH) : Prop := ∀ i : Nat, i < k → Pn sg i < S ∧ (stp sg (Pn sg i)).2 = false ∧ h.1 49 i = Pn sg i ∧ h.1 50 i = sg (Pn sg i) ∧ ∀ j : Nat, j < nA (sg (Pn sg i)) → h.1 51 (4 * (i : Int) + j) = arg sg (Pn sg i) j
def Fp (h h' : AH) : Prop := (∀ c, c ≠ 38 → c ≠ 49 → c ≠ 50 → c ≠ 51 → h'.1 c = h.1 c) ∧ ∀ j, j ≠ 22 → j ≠ 23 → j ≠ 24 → h'.1 38 j = h.1 38 j
theorem Ltt.p {sg : Int → Int} {h h' : AH} (L : Ltt sg h) (F : Fp h h') : Ltt sg h' := by
  unfold Ltt
  rw [F.1 48 (by decide) (by decide) (by decide) (by decide), F.2 21 (by decide) (by decide) (by decide)]
  exact L
theorem m_parse {d : Nat} {h : AH} {sg : Int → Int} {S : Int} {K : AK} (L : Ltt sg h) (hS : h.1 38 21 = S) (qF : ∀ h1 x, Fp h h1 → h1.1 38 22 = tp sg S 97 0 → 0 ≤ tp sg S 97 0 → h1.1 38 23 = 1 → Bx z0 0 (tx mt (d + 29)) k_X6_table K 3 [some (vR 38), x] [] h1) (qO : ∀ h1 x (N : Nat), Fp h h1 → tp sg S 97 0 = -9 → h1.1 38 23 = 0 → h1.1 38 24 = N → TB sg S N h1 → S ≤ Pn sg N → N ≤ 48 → Bx z0 0 (tx mt (d + 29)) k_X6_table K 3 [some (vR 38), x] [] h1) : ∀ (m k : Nat) (h' : AH) (x : Option AV), S < Pn sg k + m → Fp h h' → h'.1 38 22 = Pn sg k → h'.1 38 23 = 0 → h'.1 38 24 = k → TB sg S k h' → 2 * (k : Int) ≤ Pn sg k → Pn sg k ≤ S → (((k = 0 ∨ Pn sg k < S) ∧ tp sg S 97 0 = tp sg S m (Pn sg k)) ∨ (1 ≤ k ∧ S ≤ Pn sg k ∧ tp sg S 97 0 = -9)) → Bx z0 0 (tx mt (d + 29)) k_X6_table K 1 [some (vR 38), x] [] h' := by
  intro m
  have S96 : S ≤ 96 := by rw [← hS]; exact L.2.1
  have S0 : 0 ≤ S := by rw [← hS]; exact L.1
  generalize tp sg S 97 0 = V at qF qO ⊢
  induction m with
  | zero =>
    intro k h' x pm F e22 e23 e24 T p2 p4 hh
    rcases hh with ⟨a, b⟩ | ⟨a, b, c⟩
    · exfalso
      rcases a with a | a
      · rw [a] at pm
        have : Pn sg 0 = 0 := rfl
        omega
      · omega
    · have e21 : h'.1 38 21 = S := by rw [F.2 21 (by decide) (by decide) (by decide), hS]
      refine u_X6_table_1 (tx_mono _ _) ⟨fun y => absurd e23 y, fun _ => ⟨fun y => by omega, fun _ => ⟨fun _ => qO h' _ k F c e23 e24 T b ?_, fun y => by omega⟩⟩⟩
      omega
  | succ m ih =>
    intro k h' x pm F e22 e23 e24 T p2 p4 hh
    have e21 : h'.1 38 21 = S := by rw [F.2 21 (by decide) (by decide) (by decide), hS]
    rcases hh with ⟨a, b⟩ | ⟨a, b, c⟩
    · have p0 : 0 ≤ Pn sg k := by omega
      have pS : Pn sg k ≤ 96 ∧ Pn sg k ≤ S := by
        rcases a with a | a
        · rw [a]
          show (0 : Int) ≤ 96 ∧ (0 : Int) ≤ S
          omega
        · omega
      have rd : ∀ x, Bx z0 0 (tx mt (d+29)) k_X6_table K 2 [some (vR 38), x] [] h' := by
        intro x
        refine u_X6_table_2 (tx_mono _ _) (s_X6_readStatement (L.p F) e22 e23 e24 p0 pS.1 (by omega) (by omega) (fun h1 F1 g22 g23 g24 g49 g50 g51 => ?_))
        have F2 : Fp h h1 := ⟨fun c a b e f => by rw [F1.1 c a b e f, F.1 c a b e f], fun j a b e => by rw [F1.2.1 j a b e, F.2 j a b e]⟩
        have le := stp_le (sg := sg) (p := Pn sg k)
        rw [tp] at b
        by_cases c : (stp sg (Pn sg k)).2 = true
        · rw [if_pos c] at b
          rw [c] at g23
          refine u_X6_table_1 (tx_mono _ _) ⟨fun _ => qF h1 _ F2 (by rw [g22, b]) (by rw [b]; omega) g23, fun y => absurd g23 (by intro z; exact y (by rw [z]; decide))⟩
        · have ok : (stp sg (Pn sg k)).2 = false := by simpa using c
          rw [if_neg c] at b
          rw [ok] at g23
          have en := (ok_end ok)
          have lt : (stp sg (Pn sg k)).1 ≤ S := by
            have e59 := en.1
            rw [← L.2.2, hS] at e59
            have := sg_lt e59
            rw [← hS, L.2.2] at this
            omega
          have T2 : TB sg S (k + 1) h1 := by
            intro i hi
            by_cases ik : i = k
            · rw [ik]
              refine ⟨?_, ok, g49, g50, g51 ok⟩
              omega
            · obtain ⟨t1, t2, t3, t4, t5⟩ := T i (by omega)
              have o := F1.2.2.1 (i : Int) (by omega)
              refine ⟨t1, t2, by rw [o.1]; exact t3, by rw [o.2]; exact t4, fun j hj => ?_⟩
              have j4 : j < 4 := by
                revert hj
                unfold nA
                (repeat' split) <;> omega
              rw [F1.2.2.2 _ (by omega)]
              exact t5 j hj
          refine ih (k + 1) h1 _ (by show S < (stp sg (Pn sg k)).1 + m; omega) F2 g22 g23 g24 T2 (by show _ ≤ (stp sg (Pn sg k)).1; omega) (by show (stp sg (Pn sg k)).1 ≤ S; omega) ?_
          by_cases y : S ≤ (stp sg (Pn sg k)).1
          · rw [if_pos y] at b
            exact Or.inr ⟨by omega, y, b⟩
          · rw [if_neg y] at b
            exact Or.inl ⟨Or.inr (by show (stp sg (Pn sg k)).1 < S; omega), b⟩
      refine u_X6_table_1 (tx_mono _ _) ⟨fun y => absurd e23 y, fun _ => ⟨fun _ => rd _, fun y => ⟨fun z => ?_, fun _ => rd _⟩⟩⟩
      rcases a with a | a
      · omega
      · omega
    · refine u_X6_table_1 (tx_mono _ _) ⟨fun y => absurd e23 y, fun _ => ⟨fun y => by omega, fun _ => ⟨fun _ => qO h' _ k F c e23 e24 T b (by omega), fun y => by omega⟩⟩⟩
theorem m_apply {d : Nat} {h : AH} {B : BD} {sg : Int → Int} {S : Int} {N : Nat} {K : Int → AH → Prop} (hB : okBd B) (N48 : N ≤ 48) (hN : h.1 38 24 = N) (T : TB sg S N h) (PS : S ≤ Pn sg N) (P1 : ∀ i : Nat, i ≤ N → 0 ≤ Pn sg i ∧ Pn sg i ≤ 104) (qf : ∀ h1, Gm B h h1 → fM h1 = B → (runT sg S 97 0 0 B).2.1 < S → K (-2000 - (runT sg S 97 0 0 B).2.1) h1) (qs : ∀ h1, Gm B h h1 → okBd (fM h1) → S ≤ (runT sg S 97 0 0 B).2.1 → fM h1 = (runT sg S 97 0 0 B).2.2 → K (runT sg S 97 0 0 B).1 (upI h1 38 31 0)) : ∀ (m i f : Nat) (h' : AH), i + m = N → S < Pn sg i + f → Gm B h h' → okBd (fM h') → runT sg S 97 0 0 B = runT sg S f i (Pn sg i) (fM h') → Bx z0 0 (tx mt (d + 29)) k_X6_table (fun r h' => ∃ z, r = some (.inl z) ∧ K z h') 5 [some (vR 38), some (vI ((i : Int)))] [] h' := by
  intro m
  generalize runT sg S 97 0 0 B = V at qf qs ⊢
  induction m with
  | zero =>
    intro i f h' im pf G hb hr
    have e24 : h'.1 38 24 = h.1 38 24 := G.2.1 24 (by decide) (by decide) (by decide) (by decide) (by decide)
    have iN : i = N := by omega
    have rv : V = ((i : Int), Pn sg i, fM h') := by
      rw [hr]
      cases f with
      | zero => rfl
      | succ f => rw [runT, if_neg (fun y => by rw [iN] at y; omega)]
    have q := qs h' G hb (by rw [rv, iN]; exact PS) (by rw [rv])
    rw [rv] at q
    refine u_X6_table_5 (tx_mono _ _) ⟨fun _ => u_X6_table_7 (tx_mono _ _) (fun h1 w1 => exI ?_), fun y => by rw [e24] at y; omega⟩
    rw [show h1.1 38 24 = (i : Int) by rw [w1, upI_e, if_neg (by omega), e24]; omega, w1]
    exact q
  | succ m ih =>
    intro i f h' im pf G hb hr
    have e24 : h'.1 38 24 = h.1 38 24 := G.2.1 24 (by decide) (by decide) (by decide) (by decide) (by decide)
    obtain ⟨t1, t2, t3, t4, t5⟩ := T i (by omega)
    have e49 : h'.1 49 = h.1 49 := G.1 49 (by decide) (by decide) (by decide)
    have e50 : h'.1 50 = h.1 50 := G.1 50 (by decide) (by decide) (by decide)
    have e51 : h'.1 51 = h.1 51 := G.1 51 (by decide) (by decide) (by decide)
    obtain ⟨f, rfl⟩ : ∃ f', f = f' + 1 := ⟨f - 1, by omega⟩
    have en := stp_le (sg := sg) (p := Pn sg i)
    have en2 := en.2.2 t2
    rw [runT] at hr
    refine u_X6_table_5 (tx_mono _ _) ⟨fun y => by rw [e24] at y; omega, fun _ => sm_comes G hb (by omega) (by omega) (by rw [e50]; exact t4) (fun j hj => by rw [e51]; exact t5 j hj) t2 (fun ho h1 G1 w1 => ⟨fun _ => u_X6_table_6 (tx_mono _ _) ⟨⟨by omega, by omega⟩, ?_⟩, fun y => absurd (by decide) y⟩) (fun ho h1 G1 => ⟨fun y => absurd rfl y, fun _ => sm_put G1 hB.2.2.2.2 (fun h4 w4 G4 => ?_)⟩)⟩
    · rw [if_pos ⟨t1, ho⟩] at hr
      refine ih (i + 1) f h1 (by omega) (by show S < (stp sg (Pn sg i)).1 + f; omega) G1 (by rw [w1]; exact apT_ok t2 hb ho) ?_
      rw [w1]
      exact hr
    · rw [if_neg (fun y => by rw [ho] at y; exact absurd y.2 (by decide))] at hr
      have k49 : h4.1 49 i = Pn sg i := by rw [G4.1 49 (by decide) (by decide) (by decide)]; exact t3
      have pb := P1 i (by omega)
      rw [k49]
      refine ⟨by omega, by omega, ⟨by omega, by omega⟩, exI ?_⟩
      have q := qf h4 G4 w4 (by rw [hr]; exact t1)
      rw [hr] at q
      exact q
theorem run_0 {sg : Int → Int} {S : Int} : ∀ (m : Nat) (c p : Int) (b : BD), 0 ≤ c → 0 ≤ (runT sg S m c p b).1 := by
  intro m
  induction m with
  | zero => intro c p b c0; exact c0
  | succ m ih =>
    intro c p b c0
    rw [runT]
    split
    · exact ih _ _ _ (by omega)
    · exact c0
theorem run_1 {sg : Int → Int} {S : Int} : ∀ (m : Nat) (c p : Int) (b : BD), 0 ≤ p → 0 ≤ (runT sg S m c p b).2.1 := by
  intro m
  induction m with
  | zero => intro c p b p0; exact p0
  | succ m ih =>
    intro c p b p0
    have le := stp_le (sg := sg) (p := p)
    rw [runT]
    split
    · exact ih _ _ _ (by omega)
    · exact p0
def Gt (h h1 : AH) : Prop := (∀ c, c < 38 ∨ 44 < c → c ≠ 46 → c ≠ 49 → c ≠ 50 → c ≠ 51 → c ≠ 61 → h1.1 c = h.1 c) ∧ ∀ j, j < 0 ∨ 5 < j → j ≠ 39 → j ≠ 12 → j ≠ 17 → j ≠ 18 → j ≠ 21 → j ≠ 22 → j ≠ 23 → j ≠ 24 → j ≠ 31 → h1.1 38 j = h.1 38 j
theorem m_table {d : Nat} {h : AH} {sg : Int → Int} {S : Int} {B : BD} {K : Int → AH → Prop} (L : Ltt sg h) (hS : h.1 38 21 = S) (hw : fM h = B) (hB : okBd B) (qf : ∀ v h1, v < 0 → tabV sg S B = (v, B) → fM h1 = B → Gt h h1 → h1.1 38 21 = 0 → h1.1 38 31 = h.1 38 31 → K v h1) (qs : ∀ v h1 b', 0 ≤ v → tabV sg S B = (v, b') → okBd b' → fM h1 = b' → Gt h h1 → h1.1 38 21 = 0 → h1.1 38 31 = 0 → K v h1) : cI (tx mt (d + 30)) n_X6_table [vR 38] h K := by
  have S96 : S ≤ 96 := by rw [← hS]; exact L.2.1
  have S0 : 0 ≤ S := by rw [← hS]; exact L.1
  have tb := tp_b (sg := sg) S96 97 0 (by decide) (by decide)
  refine cI_i (e_X6_table (fun h1 w1 h2 w2 h3 w3 h4 w4 => ?_))
  have k4 : ∀ c, c ≠ 38 → h4.1 c = h.1 c := fun c hc => by
    funext j
    rw [w4, upI_e, if_neg (by omega), w3, upI_e, if_neg (by omega), w2, upI_e, if_neg (by omega), w1, upI_e, if_neg (by omega)]
  have s4 : ∀ j, j ≠ 12 → j ≠ 22 → j ≠ 23 → j ≠ 24 → h4.1 38 j = h.1 38 j := fun j a b e f => by
    rw [w4, upI_e, if_neg (by omega), w3, upI_e, if_neg (by omega), w2, upI_e, if_neg (by omega), w1, upI_e, if_neg (by omega)]
  have L4 : Ltt sg h4 := by
    unfold Ltt
    rw [k4 48 (by decide), s4 21 (by decide) (by decide) (by decide) (by decide)]
    exact L
  have p8 : ∀ (k : Nat) (hx : AH), TB sg S k hx → 0 ≤ Pn sg k ∧ Pn sg k ≤ 104 := by
    intro k
    induction k with
    | zero => intro hx _; show (0 : Int) ≤ 0 ∧ (0 : Int) ≤ 104; decide
    | succ k ih =>
      intro hx T
      have := ih hx (fun i hi => T i (by omega))
      have t := (T k (by omega)).1
      have le := stp_le (sg := sg) (p := Pn sg k)
      show 0 ≤ (stp sg (Pn sg k)).1 ∧ (stp sg (Pn sg k)).1 ≤ 104
      omega
  refine m_parse (S := S) L4 (by rw [s4 21 (by decide) (by decide) (by decide) (by decide), hS]) (fun h5 x F5 e22 t0 e23 => ?_) (fun h5 x N F5 t9 e23 e24 T PS N48 => ?_) 97 0 h4 none (by show S < 0 + ((97 : Nat) : Int); omega) ⟨fun _ _ _ _ _ => rfl, fun _ _ _ _ => rfl⟩ ?_ ?_ ?_ (fun i hi => by omega) (by show (2 : Int) * ((0 : Nat) : Int) ≤ 0; decide) (by show (0 : Int) ≤ S; omega) (Or.inl ⟨Or.inl rfl, rfl⟩)
  · refine u_X6_table_3 (tx_mono _ _) (fun h6 w6 => ?_)
    have e6 : h6.1 38 23 = 1 := by rw [w6, upI_e, if_neg (by omega), e23]
    have f6 : h6.1 38 22 = tp sg S 97 0 := by rw [w6, upI_e, if_neg (by omega), e22]
    rw [e6, f6]
    refine ⟨fun y => absurd y (by decide), fun _ => ⟨⟨by omega, by omega⟩, exI ?_⟩⟩
    refine qf _ h6 (by omega) (by rw [tabV, if_pos t0]) ?_ ⟨fun c a b e f g i => ?_, fun j a b e f g i k l m n => ?_⟩ ?_ ?_
    · rw [← hw]
      exact fM_c (fun c hc => by
        rw [← k4 c (by omega), ← F5.1 c (by omega) (by omega) (by omega) (by omega), w6]
        funext j
        rw [upI_e, if_neg (by omega)]) (fun j hj => by
        rw [← s4 j (by omega) (by omega) (by omega) (by omega), ← F5.2 j (by omega) (by omega) (by omega), w6, upI_e, if_neg (by omega)])
    · rw [← k4 c (by omega), ← F5.1 c (by omega) (by omega) (by omega) (by omega), w6]
      funext j
      rw [upI_e, if_neg (by omega)]
    · rw [← s4 j (by omega) (by omega) (by omega) (by omega), ← F5.2 j (by omega) (by omega) (by omega), w6, upI_e, if_neg (by omega)]
    · rw [w6, upI_e, if_pos ⟨rfl, rfl⟩]
    · rw [w6, upI_e, if_neg (by omega), F5.2 31 (by decide) (by decide) (by decide), s4 31 (by decide) (by decide) (by decide) (by decide)]
  · refine u_X6_table_3 (tx_mono _ _) (fun h6 w6 => ⟨fun _ => u_X6_table_4 (tx_mono _ _) ?_, fun y => absurd (by rw [w6, upI_e, if_neg (by omega), e23]) y⟩)
    have k6 : ∀ c, c ≠ 38 → h6.1 c = h5.1 c := fun c hc => by
      funext j
      rw [w6, upI_e, if_neg (by omega)]
    have s6 : ∀ j, j ≠ 21 → h6.1 38 j = h5.1 38 j := fun j hj => by rw [w6, upI_e, if_neg (by omega)]
    have m6 : fM h6 = B := by
      rw [← hw]
      exact fM_c (fun c hc => by rw [k6 c (by omega), F5.1 c (by omega) (by omega) (by omega) (by omega), k4 c (by omega)]) (fun j hj => by rw [s6 j (by omega), F5.2 j (by omega) (by omega) (by omega), s4 j (by omega) (by omega) (by omega) (by omega)])
    have T6 : TB sg S N h6 := by
      intro i hi
      have := T i hi
      rw [k6 49 (by decide), k6 50 (by decide), k6 51 (by decide)]
      exact this
    have gt : ∀ h7, Gm B h6 h7 → Gt h h7 := by
      intro h7 G7
      refine ⟨fun c a b e f g i => ?_, fun j a b e f g i k l m n => ?_⟩
      · rw [G7.1 c a b i, k6 c (by omega), F5.1 c (by omega) e f g, k4 c (by omega)]
      · rw [G7.2.1 j a b e f g, s6 j i, F5.2 j k l m, s4 j e k l m]
    have z21 : ∀ h7, Gm B h6 h7 → h7.1 38 21 = 0 := fun h7 G7 => by rw [G7.2.1 21 (by decide) (by decide) (by decide) (by decide) (by decide), w6, upI_e, if_pos ⟨rfl, rfl⟩]
    refine sm_open m6 hB.2.2.2.2 (fun _ _ => rfl) (fun _ _ => rfl) (fun h7 m7 G7 => ?_)
    refine m_apply hB N48 (by rw [s6 24 (by decide)]; exact e24) T6 PS (fun i hi => p8 i h6 (fun j hj => T6 j (by omega))) (fun h8 G8 w8 lt => ?_) (fun h8 G8 hb8 ge w8 => ?_) N 0 97 h7 (by omega) (by show S < 0 + ((97 : Nat) : Int); omega) G7 (by rw [m7]; exact hB) (by rw [m7]; rfl)
    · refine qf _ h8 (by have := run_1 (sg := sg) (S := S) 97 0 0 B (by decide); omega) (by rw [tabV, if_neg (by omega), if_pos lt]) w8 (gt h8 G8) (z21 h8 G8) ?_
      rw [G8.2.1 31 (by decide) (by decide) (by decide) (by decide) (by decide), s6 31 (by decide), F5.2 31 (by decide) (by decide) (by decide), s4 31 (by decide) (by decide) (by decide) (by decide)]
    · have g8 := gt h8 G8
      have e8 : fM (upI h8 38 31 0) = fM h8 := fM_c (fun c hc => by funext j; rw [upI_e, if_neg (by omega)]) (fun j hj => by rw [upI_e, if_neg (by omega)])
      by_cases v0 : 0 ≤ (runT sg S 97 0 0 B).1
      · refine qs _ (upI h8 38 31 0) _ v0 (by rw [tabV, if_neg (by omega), if_neg (by omega)]) (by rw [← w8]; exact hb8) (by rw [e8, w8]) ⟨fun c a b e f g i => ?_, fun j a b e f g i k l m n => ?_⟩ ?_ ?_
        · rw [← g8.1 c a b e f g i]
          funext j
          rw [upI_e, if_neg (by omega)]
        · rw [upI_e, if_neg (by omega)]
          exact g8.2 j a b e f g i k l m n
        · rw [upI_e, if_neg (by omega)]
          exact z21 h8 G8
        · rw [upI_e, if_pos ⟨rfl, rfl⟩]
      · exact absurd (run_0 97 0 0 B (by decide)) v0
  · rw [w4, upI_e, if_neg (by omega), w3, upI_e, if_neg (by omega), w2, upI_e, if_pos ⟨rfl, rfl⟩]; rfl
  · rw [w4, upI_e, if_neg (by omega), w3, upI_e, if_pos ⟨rfl, rfl⟩]
  · rw [w4, upI_e, if_pos ⟨rfl, rfl⟩]; rfl

theorem op_table : OpI n_X5_table n_X6_table [] := by
  intro d n h n0 n1 H
  have fa := H.facts
  unfold Facts at fa
  obtain ⟨oR, oE, oS, oP, oZ, mE, mR, mEa, mS, mZ⟩ := H.ok
  obtain ⟨l1, l2, l3, l4⟩ := H.2.2.2.2.1
  obtain ⟨pb1, pb2⟩ := H.1
  have hsg : sgF (h.1 48) (h.1 38 21) = sgF (h.1 26) (h.1 25 1) := by
    funext i
    unfold sgF
    rw [← l1]
    by_cases c : 0 ≤ i ∧ i < h.1 25 1
    · rw [if_pos c, if_pos c]
      exact (l4 i c.1 c.2).1
    · rw [if_neg c, if_neg c]
  generalize hg : sgF (h.1 26) (h.1 25 1) = sg at hsg
  generalize hS : h.1 25 1 = S at hg l1 l2 l3
  refine x_table (sg := sg) (S := S) (K := fun z h1 => cI (tx mt (d + 30)) n_X6_table [vR 38] h1 (fun z' h2 => z = z' ∧ Inv (n + 1) h2)) hS hg l2 l3 H.1.1 H.2.1.1 (fun v h0 v0 ev F0 => ?_) (fun v h3 b' v0 ev hb' w3 e27 F3 => ?_)
  · have k : ∀ c, c < 9 ∨ 16 < c → c ≠ 25 → (upI h0 25 1 0).1 c = h.1 c := by
      intro c hc hn
      rw [← F0.1 c hc]
      funext j
      rw [upI_e, if_neg (by omega)]
    have L1 : Ltt sg (upI h0 25 1 0) := by
      unfold Ltt
      rw [k 38 (by decide) (by decide), k 48 (by decide) (by decide)]
      exact ⟨by omega, by omega, hsg⟩
    have m1 : fM (upI h0 25 1 0) = fX h 1 := by
      rw [← pb2]
      exact fM_c (fun c hc => k c (by omega) (by omega)) (fun j hj => by rw [k 38 (by decide) (by decide)])
    have x1 : fX (upI h0 25 1 0) 1 = fX h 1 := fX_c (fun c a b => k c (by omega) (by omega))
    have x9 : fX (upI h0 25 1 0) 9 = fX h0 9 := fX_c (fun c a b => by funext j; rw [upI_e, if_neg (by omega)])
    have e25 : ∀ j, (upI h0 25 1 0).1 25 j = if j = 1 then 0 else h.1 25 j := by
      intro j
      rw [upI_e, F0.1 25 (by omega)]
      by_cases c : j = 1
      · rw [if_pos ⟨rfl, c⟩, if_pos c]
      · rw [if_neg (by omega), if_neg c]
    refine m_table (S := S) L1 (by rw [k 38 (by decide) (by decide)]; exact l1.symm) m1 pb1 (fun v' h2 _ ev' w2 G2 z21 z31 => ?_) (fun v' h2 b2 v'0 ev' _ _ _ _ _ => ?_)
    · rw [ev] at ev'
      refine ⟨congrArg Prod.fst ev', ?_⟩
      have g : ∀ c, (c < 9 ∨ 16 < c) → c < 38 ∨ 44 < c → c ≠ 25 → c ≠ 46 → c ≠ 49 → c ≠ 50 → c ≠ 51 → c ≠ 61 → h2.1 c = h.1 c := fun c a b e f g i j m => by rw [G2.1 c b f g i j m, k c a e]
      have s : ∀ j, j < 0 ∨ 5 < j → j ≠ 39 → j ≠ 12 → j ≠ 17 → j ≠ 18 → j ≠ 21 → j ≠ 22 → j ≠ 23 → j ≠ 24 → j ≠ 31 → h2.1 38 j = h.1 38 j := fun j a b c d e f g i m o => by rw [G2.2 j a b c d e f g i m o, k 38 (by decide) (by decide)]
      have x2 : fX h2 1 = fX h 1 := fX_c (fun c a b => g c (by omega) (by omega) (by omega) (by omega) (by omega) (by omega) (by omega) (by omega))
      have e2 : ∀ j, h2.1 25 j = if j = 1 then 0 else h.1 25 j := fun j => by rw [G2.1 25 (by omega) (by decide) (by decide) (by decide) (by decide) (by decide), e25]
      refine ⟨⟨by rw [x2]; exact pb1, by rw [w2, x2]⟩, ?_, ?_, ?_, ?_, ?_, ?_⟩
      · refine H.2.1.m (fun c hc => g c (by omega) (by omega) (by omega) (by omega) (by omega) (by omega) (by omega) (by omega)) ?_
        rw [fX_c (h := upI h0 25 1 0) (h' := h2) (k := 9) (fun c a b => G2.1 c (by omega) (by omega) (by omega) (by omega) (by omega) (by omega)), x9]
        exact F0.2
      · exact H.2.2.1.c (fun c hc => g c (by omega) (by omega) (by omega) (by omega) (by omega) (by omega) (by omega) (by omega)) (by rw [g 0 (by omega) (by omega) (by omega) (by omega) (by omega) (by omega) (by omega) (by omega)]) (s 16 (by omega) (by decide) (by decide) (by decide) (by decide) (by decide) (by decide) (by decide) (by decide) (by decide))
      · exact H.2.2.2.1.c (fun c hc => g c (by omega) (by omega) (by omega) (by omega) (by omega) (by omega) (by omega) (by omega)) (by rw [g 0 (by omega) (by omega) (by omega) (by omega) (by omega) (by omega) (by omega) (by omega)]) (s 43 (by omega) (by decide) (by decide) (by decide) (by decide) (by decide) (by decide) (by decide) (by decide) (by decide))
      · exact ⟨by rw [e2, if_pos rfl, z21], by rw [e2, if_pos rfl]; decide, by rw [e2, if_pos rfl]; decide, fun i a b => by rw [e2, if_pos rfl] at b; omega⟩
      · exact H.2.2.2.2.2.1.c (fun c hc => g c (by omega) (by omega) (by omega) (by omega) (by omega) (by omega) (by omega) (by omega))
      · exact H.2.2.2.2.2.2.c (fun c hc => g c (by omega) (by omega) (by omega) (by omega) (by omega) (by omega) (by omega) (by omega)) (by rw [g 27 (by omega) (by omega) (by omega) (by omega) (by omega) (by omega) (by omega) (by omega)]) (by rw [z31, k 38 (by decide) (by decide)]) (by rw [g 1 (by omega) (by omega) (by omega) (by omega) (by omega) (by omega) (by omega) (by omega)])
    · rw [ev] at ev'
      have := congrArg Prod.fst ev'
      simp only at this
      omega
  · have L1 : Ltt sg h3 := by
      unfold Ltt
      rw [F3.1 38 (by decide) (by decide) (by decide), F3.1 48 (by decide) (by decide) (by decide)]
      exact ⟨by omega, by omega, hsg⟩
    have m1 : fM h3 = fX h 1 := by
      rw [← pb2]
      exact fM_c (fun c hc => F3.1 c (by omega) (by omega) (by omega)) (fun j hj => by rw [F3.1 38 (by decide) (by decide) (by decide)])
    refine m_table (S := S) L1 (by rw [F3.1 38 (by decide) (by decide) (by decide)]; exact l1.symm) m1 pb1 (fun v' h2 v'0 ev' _ _ _ _ => ?_) (fun v' h2 b2 _ ev' hb2 w2 G2 z21 z31 => ?_)
    · rw [ev] at ev'
      have := congrArg Prod.fst ev'
      simp only at this
      omega
    · rw [ev] at ev'
      have eb : b' = b2 := congrArg Prod.snd ev'
      refine ⟨congrArg Prod.fst ev', ?_⟩
      have g : ∀ c, (16 < c ∨ c = 0) → c < 38 ∨ 44 < c → c ≠ 25 → c ≠ 27 → c ≠ 46 → c ≠ 49 → c ≠ 50 → c ≠ 51 → c ≠ 61 → h2.1 c = h.1 c := fun c a b e e' f g i j m => by rw [G2.1 c b f g i j m, F3.1 c a e e']
      have s : ∀ j, j < 0 ∨ 5 < j → j ≠ 39 → j ≠ 12 → j ≠ 17 → j ≠ 18 → j ≠ 21 → j ≠ 22 → j ≠ 23 → j ≠ 24 → j ≠ 31 → h2.1 38 j = h.1 38 j := fun j a b c d e f g i m o => by rw [G2.2 j a b c d e f g i m o, F3.1 38 (by decide) (by decide) (by decide)]
      have x2 : fX h2 1 = b' := by rw [← w3]; exact fX_c (fun c a b => G2.1 c (by omega) (by omega) (by omega) (by omega) (by omega) (by omega))
      have y25 : h2.1 25 1 = 0 := by rw [G2.1 25 (by omega) (by decide) (by decide) (by decide) (by decide) (by decide)]; exact F3.2.2.1
      refine ⟨⟨by rw [x2]; exact hb', by rw [w2, x2, eb]⟩, ?_, ?_, ?_, ?_, ?_, ?_⟩
      · refine H.2.1.m (fun c hc => g c (by omega) (by omega) (by omega) (by omega) (by omega) (by omega) (by omega) (by omega) (by omega)) ?_
        rw [fX_c (h := h3) (h' := h2) (k := 9) (fun c a b => G2.1 c (by omega) (by omega) (by omega) (by omega) (by omega) (by omega))]
        exact F3.2.2.2.2
      · exact H.2.2.1.c (fun c hc => g c (by omega) (by omega) (by omega) (by omega) (by omega) (by omega) (by omega) (by omega) (by omega)) (by rw [g 0 (by omega) (by omega) (by omega) (by omega) (by omega) (by omega) (by omega) (by omega) (by omega)]) (s 16 (by omega) (by decide) (by decide) (by decide) (by decide) (by decide) (by decide) (by decide) (by decide) (by decide))
      · exact H.2.2.2.1.c (fun c hc => g c (by omega) (by omega) (by omega) (by omega) (by omega) (by omega) (by omega) (by omega) (by omega)) (by rw [g 0 (by omega) (by omega) (by omega) (by omega) (by omega) (by omega) (by omega) (by omega) (by omega)]) (s 43 (by omega) (by decide) (by decide) (by decide) (by decide) (by decide) (by decide) (by decide) (by decide) (by decide))
      · exact ⟨by rw [y25, z21], by rw [y25]; decide, by rw [y25]; decide, fun i a b => by rw [y25] at b; omega⟩
      · exact H.2.2.2.2.2.1.c (fun c hc => g c (by omega) (by omega) (by omega) (by omega) (by omega) (by omega) (by omega) (by omega) (by omega))
      · exact IP.z (h := h) (by rw [G2.1 27 (by omega) (by decide) (by decide) (by decide) (by decide) (by decide)]; exact e27) z31
