/-! ===== table: the reference reads ===== -/
def Fq (h h' : AH) : Prop := (∀ c, c ≠ 38 → h'.1 c = h.1 c) ∧ ∀ j, j ≠ 22 → j ≠ 23 → h'.1 38 j = h.1 38 j
theorem Fq.rf {h : AH} : Fq h h := ⟨fun _ _ => rfl, fun _ _ _ => rfl⟩
theorem Fq.tr {h h1 h2 : AH} (a : Fq h h1) (b : Fq h1 h2) : Fq h h2 := ⟨fun c hc => by rw [b.1 c hc, a.1 c hc], fun j x y => by rw [b.2 j x y, a.2 j x y]⟩
theorem Fq.up {h h1 : AH} (a : Fq h h1) {j : Int} (hj : j = 22 ∨ j = 23) (v : Int) : Fq h (upI h1 38 j v) := by
  refine ⟨fun c hc => ?_, fun i x y => ?_⟩
  · rw [← a.1 c hc]
    funext i
    rw [upI_e, if_neg (by omega)]
  · rw [upI_e, if_neg (by omega)]
    exact a.2 i x y
def Ste (h : AH) (s : Int × Bool) : Prop := h.1 38 22 = s.1 ∧ h.1 38 23 = b2i s.2
def Ltt (sg : Int → Int) (h : AH) : Prop := 0 ≤ h.1 38 21 ∧ h.1 38 21 ≤ 96 ∧ sgF (h.1 48) (h.1 38 21) = sg
theorem Ltt.q {sg : Int → Int} {h h' : AH} (L : Ltt sg h) (F : Fq h h') : Ltt sg h' := by
  unfold Ltt
  rw [F.1 48 (by decide), F.2 21 (by decide) (by decide)]
  exact L
def vD (sg : Int → Int) (s : Int × Bool) : Int := if s.2 = false ∧ dg (sg s.1) = true then sg s.1 - 48 else 0
def v12 (sg : Int → Int) (s : Int × Bool) : Int := if (sp sg 100 s).2 = false ∧ dg (sg (sp sg 100 s).1) = true then 10 * vD sg s + vD sg (sp sg 100 s) else vD sg s
theorem vD_b {sg : Int → Int} {s : Int × Bool} : 0 ≤ vD sg s ∧ vD sg s ≤ 9 := by
  unfold vD
  split
  · rename_i c
    have := dg_t.mp c.2
    omega
  · omega
theorem v12_b {sg : Int → Int} {s : Int × Bool} : 0 ≤ v12 sg s ∧ v12 sg s ≤ 99 := by
  have h1 := vD_b (sg := sg) (s := s)
  have h2 := vD_b (sg := sg) (s := sp sg 100 s)
  unfold v12
  split <;> omega
theorem dg_in {sg : Int → Int} {h : AH} {p : Int} (L : Ltt sg h) (hd : dg (sg p) = true) : 0 ≤ p ∧ p < h.1 38 21 ∧ h.1 48 p = sg p := by
  have := dg_t.mp hd
  rw [← L.2.2, sgF] at this
  by_cases c : 0 ≤ p ∧ p < h.1 38 21
  · refine ⟨c.1, c.2, ?_⟩
    rw [← L.2.2, sgF, if_pos c]
  · rw [if_neg c] at this
    omega
theorem s_X6_here {d : Nat} {sg : Int → Int} {h : AH} {K : Int → AH → Prop} (L : Ltt sg h) (p0 : 0 ≤ h.1 38 22) (q : K (sg (h.1 38 22)) h) : cI (tx mt (d + 1)) n_X6_here [vR 38] h K := by
  obtain ⟨s0, s96, rfl⟩ := L
  unfold sgF at q
  refine cI_i (e_X6_here ⟨fun c => u_X6_here_1 (tx_mono _ _) (u_X6_here_2 (tx_mono _ _) (exI ?_)), fun c => ⟨p0, by omega, u_X6_here_2 (tx_mono _ _) (exI ?_)⟩⟩)
  · rw [if_neg (by omega)] at q
    exact q
  · rw [if_pos (by omega)] at q
    exact q
theorem s_X6_readDigit {d : Nat} {sg : Int → Int} {s : Int × Bool} {h : AH} {K : Int → AH → Prop} (L : Ltt sg h) (St : Ste h s) (p0 : 0 ≤ s.1) (p1 : s.1 ≤ 300) (q : ∀ h1, Fq h h1 → Ste h1 (sp sg 100 s) → K (vD sg s) h1) : cI (tx mt (d + 2)) n_X6_readDigit [vR 38] h K := by
  obtain ⟨e1, e2⟩ := St
  have bad : ¬ (s.2 = false ∧ dg (sg s.1) = true) → Bx z0 0 (tx mt (d+1)) k_X6_readDigit (fun r h' => ∃ z, r = some (.inl z) ∧ K z h') 1 [some (vR 38)] [vR 38] h := by
    intro c
    refine u_X6_readDigit_1 (tx_mono _ _) (u_X6_readDigit_3 (tx_mono _ _) ⟨Or.inr rfl, fun h1 w1 => ⟨fun y => ?_, fun _ => exI ?_⟩⟩)
    · rw [w1, upI_e, if_pos ⟨rfl, rfl⟩] at y
      omega
    · have eb : sp sg 100 s = (s.1, true) := by
        by_cases z : s.2 = true
        · rw [sp, if_pos z]
          exact Prod.ext rfl z
        · rw [sp, if_neg z, if_pos (Or.inl rfl), if_neg (fun x => c ⟨by simpa using z, x⟩), if_neg (by decide)]
      have q := q h1 (by rw [w1]; exact Fq.rf.up (Or.inr rfl) 1) ⟨?_, ?_⟩
      · rw [vD, if_neg c] at q
        exact q
      · rw [w1, upI_e, if_neg (by omega), e1, eb]
      · rw [w1, upI_e, if_pos ⟨rfl, rfl⟩, eb]
        rfl
  refine cI_i (e_X6_readDigit ⟨fun c => bad (fun y => by rw [e2, y.1] at c; exact c rfl), fun c => s_X6_here L (by rw [e1]; exact p0) (c_X6_in (fun c2 => ⟨fun _ => u_X6_readDigit_2 (tx_mono _ _) (u_X6_readDigit_3 (tx_mono _ _) ⟨Or.inl rfl, fun h1 w1 => ⟨fun _ => u_X6_readDigit_4 (tx_mono _ _) ?_, fun y => ?_⟩⟩), fun y => absurd (by decide) y⟩) (fun c2 => ⟨fun y => absurd rfl y, fun _ => bad (fun y => by have := dg_t.mp y.2; rw [e1] at c2; omega)⟩))⟩)
  · have s2 : s.2 = false := b2i_z (by rw [← e2]; omega)
    rw [e1] at c2
    have hd : dg (sg s.1) = true := dg_t.mpr c2
    obtain ⟨i0, i1, i2⟩ := dg_in L hd
    have k22 : h1.1 38 22 = s.1 := by rw [w1, upI_e, if_neg (by omega), e1]
    rw [k22]
    have s96 := L.2.1
    refine ⟨⟨by omega, by omega⟩, fun h2 w2 => ?_⟩
    have m22 : h2.1 38 22 = s.1 + 1 := by rw [w2, upI_e, if_pos ⟨rfl, rfl⟩]
    have m48 : h2.1 48 s.1 = sg s.1 := by rw [w2, upI_e, if_neg (by omega), w1, upI_e, if_neg (by omega), i2]
    rw [m22, show s.1 + 1 - 1 = s.1 by omega, m48]
    refine ⟨⟨by omega, by omega⟩, i0, by omega, ⟨by omega, by omega⟩, exI ?_⟩
    have q := q h2 (by rw [w2, w1]; exact (Fq.rf.up (Or.inr rfl) 0).up (Or.inl rfl) _) ⟨?_, ?_⟩
    · rw [vD, if_pos ⟨s2, hd⟩] at q
      exact q
    · rw [m22, sp, if_neg (by rw [s2]; decide), if_pos (Or.inl rfl), if_pos hd]
    · rw [w2, upI_e, if_neg (by omega), w1, upI_e, if_pos ⟨rfl, rfl⟩, sp, if_neg (by rw [s2]; decide), if_pos (Or.inl rfl), if_pos hd]
      rfl
  · rw [w1, upI_e, if_pos ⟨rfl, rfl⟩] at y
    exact absurd rfl y
theorem s_X6_read12 {d : Nat} {sg : Int → Int} {s : Int × Bool} {h : AH} {K : Int → AH → Prop} (L : Ltt sg h) (St : Ste h s) (p0 : 0 ≤ s.1) (p1 : s.1 ≤ 200) (q : ∀ h1, Fq h h1 → Ste h1 (sp sg 68 (sp sg 100 s)) → K (v12 sg s) h1) : cI (tx mt (d + 3)) n_X6_readOneOrTwo [vR 38] h K := by
  have vb := vD_b (sg := sg) (s := s)
  have vb2 := vD_b (sg := sg) (s := sp sg 100 s)
  have le := sp_le (sg := sg) (c := 100) (s := s)
  refine cI_i (e_X6_readOneOrTwo (s_X6_readDigit L St p0 (by omega) (fun h1 F1 S1 => ?_)))
  have L1 := L.q F1
  have no : ¬ ((sp sg 100 s).2 = false ∧ dg (sg (sp sg 100 s).1) = true) → Bx z0 0 (tx mt (d+2)) k_X6_readOneOrTwo (fun r h' => ∃ z, r = some (.inl z) ∧ K z h') 1 [some (vR 38), some (vI ((vD sg s)))] [] h1 := by
    intro c
    refine u_X6_readOneOrTwo_1 (tx_mono _ _) (u_X6_readOneOrTwo_2 (tx_mono _ _) (exI ?_))
    have q := q h1 F1 ?_
    · rw [v12, if_neg c] at q
      exact q
    · have e : sp sg 68 (sp sg 100 s) = sp sg 100 s := by
        generalize sp sg 100 s = s1 at c ⊢
        rw [sp]
        by_cases y : s1.2 = true
        · rw [if_pos y]
        · rw [if_neg y, if_pos (Or.inr rfl), if_neg (fun z => c ⟨by simpa using y, z⟩), if_pos rfl]
      rw [e]
      exact S1
  refine ⟨fun c => no (fun y => by rw [S1.2, y.1] at c; exact c rfl), fun c => s_X6_here L1 (by rw [S1.1]; omega) (c_X6_in (fun c2 => ⟨fun y => absurd y (by decide), fun _ => ⟨⟨by omega, by omega⟩, ?_⟩⟩) (fun c2 => ⟨fun _ => no (fun y => by have := dg_t.mp y.2; rw [S1.1] at c2; omega), fun y => absurd rfl y⟩))⟩
  have s2 : (sp sg 100 s).2 = false := b2i_z (by rw [← S1.2]; omega)
  rw [S1.1] at c2
  have hd := dg_t.mpr c2
  refine s_X6_readDigit L1 S1 (by omega) (by omega) (fun h2 F2 S2 => ⟨⟨by omega, by omega⟩, u_X6_readOneOrTwo_2 (tx_mono _ _) (exI ?_)⟩)
  have q := q h2 (F1.tr F2) ?_
  · rw [v12, if_pos ⟨s2, hd⟩] at q
    exact q
  · have e : sp sg 68 (sp sg 100 s) = sp sg 100 (sp sg 100 s) := by
      generalize sp sg 100 s = s1 at s2 hd ⊢
      have nt : ¬ s1.2 = true := by rw [s2]; decide
      rw [sp, sp, if_neg nt, if_pos (Or.inr rfl), if_pos hd, if_neg nt, if_pos (Or.inl rfl), if_pos hd]
    rw [e]
    exact S2
theorem s_X6_readTwo {d : Nat} {sg : Int → Int} {s : Int × Bool} {h : AH} {K : Int → AH → Prop} (L : Ltt sg h) (St : Ste h s) (p0 : 0 ≤ s.1) (p1 : s.1 ≤ 200) (q : ∀ h1, Fq h h1 → Ste h1 (sp sg 100 (sp sg 100 s)) → K (10 * vD sg s + vD sg (sp sg 100 s)) h1) : cI (tx mt (d + 3)) n_X6_readTwo [vR 38] h K := by
  have vb := vD_b (sg := sg) (s := s)
  have vb2 := vD_b (sg := sg) (s := sp sg 100 s)
  have le := sp_le (sg := sg) (c := 100) (s := s)
  exact cI_i (e_X6_readTwo (s_X6_readDigit L St p0 (by omega) (fun h1 F1 S1 => ⟨⟨by omega, by omega⟩, s_X6_readDigit (L.q F1) S1 (by omega) (by omega) (fun h2 F2 S2 => ⟨⟨by omega, by omega⟩, exI (q h2 (F1.tr F2) S2)⟩)⟩)))
theorem s_X6_take {d : Nat} {c : Int} {sg : Int → Int} {s : Int × Bool} {h : AH} {K : AH → Prop} (hc : ¬ (c = 100 ∨ c = 68)) (L : Ltt sg h) (St : Ste h s) (p0 : 0 ≤ s.1) (p1 : s.1 ≤ 300) (q : ∀ h1, Fq h h1 → Ste h1 (sp sg c s) → K h1) : cV (tx mt (d + 2)) n_X6_take [vR 38, vI c] h K := by
  obtain ⟨e1, e2⟩ := St
  have bad : ¬ (s.2 = false ∧ sg s.1 = c) → Bx z0 0 (tx mt (d+1)) k_X6_take (fun r h' => r = none ∧ K h') 1 [some (vR 38), some (vI c)] [vR 38] h := by
    intro y
    refine u_X6_take_1 (tx_mono _ _) (u_X6_take_3 (tx_mono _ _) ⟨Or.inr rfl, fun h1 w1 => ?_⟩)
    have k23 : h1.1 38 23 = 1 := by rw [w1, upI_e, if_pos ⟨rfl, rfl⟩]
    have k22 : h1.1 38 22 = s.1 := by rw [w1, upI_e, if_neg (by omega), e1]
    rw [k23, k22]
    refine ⟨fun z => absurd z (by decide), fun _ => u_X6_take_5 (tx_mono _ _) ⟨⟨by omega, by omega⟩, fun h2 w2 => exV (q h2 (by rw [w2, w1]; exact (Fq.rf.up (Or.inr rfl) _).up (Or.inl rfl) _) ⟨?_, ?_⟩)⟩⟩
    · rw [w2, upI_e, if_pos ⟨rfl, rfl⟩, sp]
      by_cases z : s.2 = true
      · rw [if_pos z]; omega
      · rw [if_neg z, if_neg hc, if_neg (fun x => y ⟨by simpa using z, x⟩)]
        show s.1 + 0 = s.1
        omega
    · rw [w2, upI_e, if_neg (by omega), k23, sp]
      by_cases z : s.2 = true
      · rw [if_pos z, z]; rfl
      · rw [if_neg z, if_neg hc, if_neg (fun x => y ⟨by simpa using z, x⟩)]; rfl
  refine cV_i (e_X6_take ⟨fun y => bad (fun z => by rw [e2, z.1] at y; exact y rfl), fun y => s_X6_here L (by rw [e1]; exact p0) ⟨fun c2 => u_X6_take_2 (tx_mono _ _) (u_X6_take_3 (tx_mono _ _) ⟨Or.inl rfl, fun h1 w1 => ?_⟩), fun c2 => bad (fun z => c2 (by rw [e1]; exact z.2))⟩⟩)
  have s2 : s.2 = false := b2i_z (by rw [← e2]; omega)
  rw [e1] at c2
  have k23 : h1.1 38 23 = 0 := by rw [w1, upI_e, if_pos ⟨rfl, rfl⟩]
  have k22 : h1.1 38 22 = s.1 := by rw [w1, upI_e, if_neg (by omega), e1]
  rw [k23, k22]
  refine ⟨fun _ => u_X6_take_4 (tx_mono _ _) (u_X6_take_5 (tx_mono _ _) ⟨⟨by omega, by omega⟩, fun h2 w2 => exV (q h2 (by rw [w2, w1]; exact (Fq.rf.up (Or.inr rfl) _).up (Or.inl rfl) _) ⟨?_, ?_⟩)⟩), fun z => absurd rfl z⟩
  · rw [w2, upI_e, if_pos ⟨rfl, rfl⟩, sp, if_neg (by rw [s2]; decide), if_neg hc, if_pos c2]
  · rw [w2, upI_e, if_neg (by omega), k23, sp, if_neg (by rw [s2]; decide), if_neg hc, if_pos c2]
    rfl
