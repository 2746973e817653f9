/-! ===== table: statements ===== -/
theorem sp100 {sg : Int → Int} {s : Int × Bool} (h : (sp sg 100 s).2 = false) : s.2 = false ∧ dg (sg s.1) = true ∧ sp sg 100 s = (s.1 + 1, false) := by
  unfold sp at h ⊢
  by_cases c : s.2 = true
  · rw [if_pos c] at h; rw [c] at h; cases h
  rw [if_neg c, if_pos (Or.inl rfl)] at h ⊢
  by_cases c2 : dg (sg s.1) = true
  · rw [if_pos c2]
    exact ⟨by simpa using c, c2, rfl⟩
  · rw [if_neg c2, if_neg (by decide)] at h
    cases h
theorem sp68 {sg : Int → Int} {s : Int × Bool} (h : (sp sg 68 s).2 = false) : s.2 = false ∧ ((dg (sg s.1) = true ∧ sp sg 68 s = (s.1 + 1, false)) ∨ (dg (sg s.1) = false ∧ sp sg 68 s = (s.1, false))) := by
  unfold sp at h ⊢
  by_cases c : s.2 = true
  · rw [if_pos c] at h; rw [c] at h; cases h
  have cf : s.2 = false := by simpa using c
  rw [if_neg c, if_pos (Or.inr rfl)] at h ⊢
  by_cases c2 : dg (sg s.1) = true
  · rw [if_pos c2]
    exact ⟨cf, Or.inl ⟨c2, rfl⟩⟩
  · rw [if_neg c2, if_pos rfl]
    exact ⟨cf, Or.inr ⟨by simpa using c2, Prod.ext rfl cf⟩⟩
theorem spL {sg : Int → Int} {c : Int} {s : Int × Bool} (c1 : ¬ (c = 100 ∨ c = 68)) (h : (sp sg c s).2 = false) : s.2 = false ∧ sg s.1 = c ∧ sp sg c s = (s.1 + 1, false) := by
  unfold sp at h ⊢
  by_cases c0 : s.2 = true
  · rw [if_pos c0] at h; rw [c0] at h; cases h
  rw [if_neg c0, if_neg c1] at h ⊢
  by_cases c2 : sg s.1 = c
  · rw [if_pos c2]
    exact ⟨by simpa using c0, c2, rfl⟩
  · rw [if_neg c2] at h
    cases h
theorem ok_r {sg : Int → Int} {p : Int} (hl : sg p = 114) (h : (stp sg p).2 = false) : dg (sg (p + 1)) = true ∧ ((dg (sg (p + 2)) = true ∧ sg (p + 3) = 59 ∧ stp sg p = (p + 4, false)) ∨ (dg (sg (p + 2)) = false ∧ sg (p + 2) = 59 ∧ stp sg p = (p + 3, false))) := by
  have e : stp sg p = sp sg 59 (sp sg 68 (sp sg 100 (p + 1, false))) := by rw [stp, hl]; rfl
  rw [e] at h ⊢
  obtain ⟨a3, b3, c3⟩ := spL (by decide) h
  obtain ⟨a2, b2⟩ := sp68 a3
  obtain ⟨a1, b1, c1⟩ := sp100 a2
  rw [c3]
  refine ⟨b1, ?_⟩
  rw [c1] at b2
  rcases b2 with ⟨x, y⟩ | ⟨x, y⟩
  · rw [c1, y] at b3 ⊢
    simp only [Int.add_assoc, Int.reduceAdd] at x b3 ⊢
    exact Or.inl ⟨x, b3, trivial⟩
  · rw [c1, y] at b3 ⊢
    simp only [Int.add_assoc, Int.reduceAdd] at x b3 ⊢
    exact Or.inr ⟨x, b3, trivial⟩
theorem ok_e {sg : Int → Int} {p : Int} (hl : sg p = 101) (h : (stp sg p).2 = false) : dg (sg (p + 1)) = true ∧ dg (sg (p + 2)) = true ∧ dg (sg (p + 3)) = true ∧ dg (sg (p + 4)) = true ∧ dg (sg (p + 5)) = true ∧ dg (sg (p + 6)) = true ∧ sg (p + 7) = 59 ∧ stp sg p = (p + 8, false) := by
  have e : stp sg p = sp sg 59 (sp sg 100 (sp sg 100 (sp sg 100 (sp sg 100 (sp sg 100 (sp sg 100 (p + 1, false))))))) := by rw [stp, hl]; rfl
  rw [e] at h ⊢
  obtain ⟨a7, b7, c7⟩ := spL (by decide) h
  obtain ⟨a6, b6, c6⟩ := sp100 a7
  obtain ⟨a5, b5, c5⟩ := sp100 a6
  obtain ⟨a4, b4, c4⟩ := sp100 a5
  obtain ⟨a3, b3, c3⟩ := sp100 a4
  obtain ⟨a2, b2, c2⟩ := sp100 a3
  obtain ⟨a1, b1, c1⟩ := sp100 a2
  rw [c7]
  rw [c6, c5, c4, c3, c2, c1] at b7 ⊢
  rw [c5, c4, c3, c2, c1] at b6
  rw [c4, c3, c2, c1] at b5
  rw [c3, c2, c1] at b4
  rw [c2, c1] at b3
  rw [c1] at b2
  simp only [Int.add_assoc, Int.reduceAdd] at b7 b6 b5 b4 b3 b2 ⊢
  exact ⟨b1, b2, b3, b4, b5, b6, b7, trivial⟩
theorem ok_b {sg : Int → Int} {p : Int} (hl : sg p = 98) (h : (stp sg p).2 = false) : dg (sg (p + 1)) = true ∧ ((dg (sg (p + 2)) = true ∧ sg (p + 3) = 44 ∧ dg (sg (p + 4)) = true ∧ dg (sg (p + 5)) = true ∧ sg (p + 6) = 59 ∧ stp sg p = (p + 7, false)) ∨ (dg (sg (p + 2)) = false ∧ sg (p + 2) = 44 ∧ dg (sg (p + 3)) = true ∧ dg (sg (p + 4)) = true ∧ sg (p + 5) = 59 ∧ stp sg p = (p + 6, false))) := by
  have e : stp sg p = sp sg 59 (sp sg 100 (sp sg 100 (sp sg 44 (sp sg 68 (sp sg 100 (p + 1, false)))))) := by rw [stp, hl]; rfl
  rw [e] at h ⊢
  obtain ⟨a6, b6, c6⟩ := spL (by decide) h
  obtain ⟨a5, b5, c5⟩ := sp100 a6
  obtain ⟨a4, b4, c4⟩ := sp100 a5
  obtain ⟨a3, b3, c3⟩ := spL (by decide) a4
  obtain ⟨a2, b2⟩ := sp68 a3
  obtain ⟨a1, b1, c1⟩ := sp100 a2
  rw [c6]
  rw [c5, c4, c3] at b6 ⊢
  rw [c4, c3] at b5
  rw [c3] at b4
  refine ⟨b1, ?_⟩
  rw [c1] at b2
  rcases b2 with ⟨x, y⟩ | ⟨x, y⟩
  · rw [c1, y] at b3 b4 b5 b6 ⊢
    simp only [Int.add_assoc, Int.reduceAdd] at x b3 b4 b5 b6 ⊢
    exact Or.inl ⟨x, b3, b4, b5, b6, trivial⟩
  · rw [c1, y] at b3 b4 b5 b6 ⊢
    simp only [Int.add_assoc, Int.reduceAdd] at x b3 b4 b5 b6 ⊢
    exact Or.inr ⟨x, b3, b4, b5, b6, trivial⟩
theorem ok_w {sg : Int → Int} {p : Int} (hl : sg p = 119) (h : (stp sg p).2 = false) : dg (sg (p + 1)) = true ∧ dg (sg (p + 2)) = true ∧ dg (sg (p + 3)) = true ∧ sg (p + 4) = 59 ∧ stp sg p = (p + 5, false) := by
  have e : stp sg p = sp sg 59 (sp sg 100 (sp sg 100 (sp sg 100 (p + 1, false)))) := by rw [stp, hl]; rfl
  rw [e] at h ⊢
  obtain ⟨a4, b4, c4⟩ := spL (by decide) h
  obtain ⟨a3, b3, c3⟩ := sp100 a4
  obtain ⟨a2, b2, c2⟩ := sp100 a3
  obtain ⟨a1, b1, c1⟩ := sp100 a2
  rw [c4]
  rw [c3, c2, c1] at b4 ⊢
  rw [c2, c1] at b3
  rw [c1] at b2
  simp only [Int.add_assoc, Int.reduceAdd] at b4 b3 b2 ⊢
  exact ⟨b1, b2, b3, b4, trivial⟩
theorem ok_t {sg : Int → Int} {p : Int} (hl : sg p = 116) (h : (stp sg p).2 = false) : sg (p + 1) = 59 ∧ stp sg p = (p + 2, false) := by
  have e : stp sg p = sp sg 59 (p + 1, false) := by rw [stp, hl]; rfl
  rw [e] at h ⊢
  obtain ⟨a1, b1, c1⟩ := spL (by decide) h
  rw [c1]
  simp only [Int.add_assoc, Int.reduceAdd]
  exact ⟨b1, trivial⟩
theorem ok_l {sg : Int → Int} {p : Int} (h : (stp sg p).2 = false) : sg p = 114 ∨ sg p = 101 ∨ sg p = 98 ∨ sg p = 119 ∨ sg p = 116 := by
  unfold stp at h
  by_cases c : fmI (sg p) = 5
  · rw [if_pos c] at h
    cases h
  · by_cases c1 : sg p = 114
    · omega
    by_cases c2 : sg p = 101
    · omega
    by_cases c3 : sg p = 98
    · omega
    by_cases c4 : sg p = 119
    · omega
    by_cases c5 : sg p = 116
    · omega
    exact absurd (by rw [fmI, if_neg c1, if_neg c2, if_neg c3, if_neg c4, if_neg c5]) c
/-- a statement that is read ends with ";", and has it nowhere else -/
theorem ok_end {sg : Int → Int} {p : Int} (h : (stp sg p).2 = false) : sg ((stp sg p).1 - 1) = 59 ∧ p + 2 ≤ (stp sg p).1 ∧ ∀ i, p ≤ i → i < (stp sg p).1 - 1 → ¬ sg i = 59 := by
  have dn : ∀ {x : Int}, dg x = true → ¬ x = 59 := fun hx e => by have := dg_t.mp hx; omega
  rcases ok_l h with l | l | l | l | l
  · obtain ⟨d1, ⟨d2, d3, e⟩ | ⟨d2, d3, e⟩⟩ := ok_r l h
    · rw [e]
      refine ⟨by simp only [show p + 4 - 1 = p + 3 by omega]; exact d3, by simp only; omega, fun i i0 i1 => ?_⟩
      simp only at i1
      rcases (show i = p ∨ i = p + 1 ∨ i = p + 2 by omega) with rfl | rfl | rfl
      · rw [l]; decide
      · exact dn d1
      · exact dn d2
    · rw [e]
      refine ⟨by simp only [show p + 3 - 1 = p + 2 by omega]; exact d3, by simp only; omega, fun i i0 i1 => ?_⟩
      simp only at i1
      rcases (show i = p ∨ i = p + 1 by omega) with rfl | rfl
      · rw [l]; decide
      · exact dn d1
  · obtain ⟨d1, d2, d3, d4, d5, d6, d7, e⟩ := ok_e l h
    rw [e]
    refine ⟨by simp only [show p + 8 - 1 = p + 7 by omega]; exact d7, by simp only; omega, fun i i0 i1 => ?_⟩
    simp only at i1
    rcases (show i = p ∨ i = p + 1 ∨ i = p + 2 ∨ i = p + 3 ∨ i = p + 4 ∨ i = p + 5 ∨ i = p + 6 by omega) with rfl | rfl | rfl | rfl | rfl | rfl | rfl
    · rw [l]; decide
    · exact dn d1
    · exact dn d2
    · exact dn d3
    · exact dn d4
    · exact dn d5
    · exact dn d6
  · obtain ⟨d1, ⟨d2, d3, d4, d5, d6, e⟩ | ⟨d2, d3, d4, d5, d6, e⟩⟩ := ok_b l h
    · rw [e]
      refine ⟨by simp only [show p + 7 - 1 = p + 6 by omega]; exact d6, by simp only; omega, fun i i0 i1 => ?_⟩
      simp only at i1
      rcases (show i = p ∨ i = p + 1 ∨ i = p + 2 ∨ i = p + 3 ∨ i = p + 4 ∨ i = p + 5 by omega) with rfl | rfl | rfl | rfl | rfl | rfl
      · rw [l]; decide
      · exact dn d1
      · exact dn d2
      · rw [d3]; decide
      · exact dn d4
      · exact dn d5
    · rw [e]
      refine ⟨by simp only [show p + 6 - 1 = p + 5 by omega]; exact d6, by simp only; omega, fun i i0 i1 => ?_⟩
      simp only at i1
      rcases (show i = p ∨ i = p + 1 ∨ i = p + 2 ∨ i = p + 3 ∨ i = p + 4 by omega) with rfl | rfl | rfl | rfl | rfl
      · rw [l]; decide
      · exact dn d1
      · rw [d3]; decide
      · exact dn d4
      · exact dn d5
  · obtain ⟨d1, d2, d3, d4, e⟩ := ok_w l h
    rw [e]
    refine ⟨by simp only [show p + 5 - 1 = p + 4 by omega]; exact d4, by simp only; omega, fun i i0 i1 => ?_⟩
    simp only at i1
    rcases (show i = p ∨ i = p + 1 ∨ i = p + 2 ∨ i = p + 3 by omega) with rfl | rfl | rfl | rfl
    · rw [l]; decide
    · exact dn d1
    · exact dn d2
    · exact dn d3
  · obtain ⟨d1, e⟩ := ok_t l h
    rw [e]
    refine ⟨by simp only [show p + 2 - 1 = p + 1 by omega]; exact d1, by simp only; omega, fun i i0 i1 => ?_⟩
    simp only at i1
    rw [show i = p by omega, l]
    decide
/-- a statement's numbers -/
def ar12 (sg : Int → Int) (p : Int) : Int := if dg (sg (p + 2)) = true then 10 * (sg (p + 1) - 48) + (sg (p + 2) - 48) else sg (p + 1) - 48
def arO (sg : Int → Int) (p : Int) : Int := if dg (sg (p + 2)) = true then p + 1 else p
def arg (sg : Int → Int) (p : Int) (j : Nat) : Int :=
  if sg p = 101 then (if j = 0 then sg (p + 1) - 48 else if j = 1 then sg (p + 2) - 48 else if j = 2 then 10 * (sg (p + 3) - 48) + (sg (p + 4) - 48) else 10 * (sg (p + 5) - 48) + (sg (p + 6) - 48))
  else if sg p = 119 then (if j = 0 then sg (p + 1) - 48 else 10 * (sg (p + 2) - 48) + (sg (p + 3) - 48))
  else if sg p = 98 then (if j = 0 then ar12 sg p else if j = 1 then sg (arO sg p + 3) - 48 else sg (arO sg p + 4) - 48)
  else ar12 sg p
def adR (b : BD) (L : Int) : BD := (fun n => if n = 0 then b.1 0 + 1 else b.1 n, fun j i => if j = 2 ∧ i = b.1 0 then 0 else if j = 1 ∧ i = b.1 0 then L else b.2 j i)
def adE (b : BD) (k f w s : Int) : BD := (fun n => if n = 1 then b.1 1 + 1 else b.1 n, fun j i => if j = 6 ∧ i = b.1 1 then s else if j = 5 ∧ i = b.1 1 then w else if j = 4 ∧ i = b.1 1 then f else if j = 3 ∧ i = b.1 1 then k else b.2 j i)
def fiB (b : BD) (f u m : Int) : BD := (fun n => if n = 4 then m else if n = 3 then u else if n = 2 then f else b.1 n, b.2)
def oksT (sg : Int → Int) (p : Int) (b : BD) : Bool := if sg p = 114 then decide (b.1 0 < 4 ∧ 2 ≤ arg sg p 0 ∧ arg sg p 0 ≤ 12) else if sg p = 101 then decide (arg sg p 0 < 6 ∧ arg sg p 2 < 12 ∧ b.1 1 < 4) else if sg p = 98 then decide (arg sg p 0 ≤ 60 ∧ 1 ≤ arg sg p 1 ∧ arg sg p 1 ≤ 4 ∧ 1 ≤ arg sg p 2 ∧ arg sg p 2 ≤ 6) else if sg p = 119 then decide (arg sg p 0 < b.1 0 ∧ arg sg p 1 < b.2 1 (arg sg p 0)) else decide (¬ b.1 1 = 0)
def apT (sg : Int → Int) (p : Int) (b : BD) : BD := if sg p = 114 then adR b (arg sg p 0) else if sg p = 101 then adE b (arg sg p 0) (arg sg p 1) (arg sg p 2) (arg sg p 3) else if sg p = 98 then fiB b (arg sg p 0) (arg sg p 1) (arg sg p 2) else if sg p = 119 then putB 2 (arg sg p 0) (arg sg p 1) b else turnB b
theorem adR_ok {b : BD} {L : Int} (hb : okBd b) (h4 : b.1 0 < 4) (L2 : 2 ≤ L) (L12 : L ≤ 12) : okBd (adR b L) := by
  obtain ⟨⟨r0, r4, rr⟩, hE, hS, hP, hZ⟩ := hb
  have e1 : ∀ i, (adR b L).2 1 i = if i = b.1 0 then L else b.2 1 i := fun i => by
    show (if 1 = 2 ∧ i = b.1 0 then (0 : Int) else if 1 = 1 ∧ i = b.1 0 then L else b.2 1 i) = _
    rw [if_neg (by omega)]
    by_cases c : i = b.1 0
    · rw [if_pos ⟨rfl, c⟩, if_pos c]
    · rw [if_neg (by omega), if_neg c]
  have e2 : ∀ i, (adR b L).2 2 i = if i = b.1 0 then 0 else b.2 2 i := fun i => by
    show (if 2 = 2 ∧ i = b.1 0 then (0 : Int) else if 2 = 1 ∧ i = b.1 0 then L else b.2 2 i) = _
    by_cases c : i = b.1 0
    · rw [if_pos ⟨rfl, c⟩, if_pos c]
    · rw [if_neg (by omega), if_neg (by omega), if_neg c]
  have e0 : (adR b L).1 0 = b.1 0 + 1 := rfl
  refine ⟨⟨by omega, by omega, fun r a c => ?_⟩, hE, hS, hP, fun j i hi => ?_⟩
  · rw [e1, e2]
    by_cases y : r = b.1 0
    · rw [if_pos y, if_pos y]; omega
    · rw [if_neg y, if_neg y]
      exact rr r a (by omega)
  · show (if j = 2 ∧ i = b.1 0 then (0 : Int) else if j = 1 ∧ i = b.1 0 then L else b.2 j i) = 0
    rw [if_neg (by omega), if_neg (by omega)]
    exact hZ j i hi
theorem adE_ok {b : BD} {k f w s : Int} (hb : okBd b) (h4 : b.1 1 < 4) (hk : 0 ≤ k ∧ k ≤ 5) (hf : 0 ≤ f ∧ f ≤ 9) (hw : 0 ≤ w ∧ w ≤ 11) (hs : 0 ≤ s ∧ s ≤ 99) : okBd (adE b k f w s) := by
  obtain ⟨hR, ⟨r0, r4, rr⟩, hS, hP, hZ⟩ := hb
  have ev : ∀ j i, (adE b k f w s).2 j i = if j = 6 ∧ i = b.1 1 then s else if j = 5 ∧ i = b.1 1 then w else if j = 4 ∧ i = b.1 1 then f else if j = 3 ∧ i = b.1 1 then k else b.2 j i := fun j i => rfl
  have e1 : (adE b k f w s).1 1 = b.1 1 + 1 := rfl
  have s5 : (adE b k f w s).1 5 = b.1 5 := rfl
  refine ⟨hR, ⟨by omega, by omega, fun r a c => ?_⟩, ⟨hS.1, hS.2.1, hS.2.2.1, hS.2.2.2.1, hS.2.2.2.2.1, hS.2.2.2.2.2.1, hS.2.2.2.2.2.2.1, ?_⟩, hP, fun j i hi => ?_⟩
  · rw [ev, ev, ev, ev]
    by_cases y : r = b.1 1
    · rw [if_neg (by omega), if_neg (by omega), if_neg (by omega), if_pos (by omega), if_neg (by omega), if_neg (by omega), if_pos (by omega), if_neg (by omega), if_pos (by omega), if_pos (by omega)]
      omega
    · simp only [y, and_false, if_false]
      exact rr r a (by omega)
  · have := hS.2.2.2.2.2.2.2
    omega
  · rw [ev, if_neg (by omega), if_neg (by omega), if_neg (by omega), if_neg (by omega)]
    exact hZ j i hi
theorem fiB_ok {b : BD} {f u m : Int} (hb : okBd b) (hf : 0 ≤ f ∧ f ≤ 60) (hu : 1 ≤ u ∧ u ≤ 4) (hm : 1 ≤ m ∧ m ≤ 6) : okBd (fiB b f u m) := by
  obtain ⟨hR, hE, hS, hP, hZ⟩ := hb
  exact ⟨hR, hE, ⟨hf.1, hf.2, hu.1, hu.2, hm.1, hm.2, hS.2.2.2.2.2.2.1, hS.2.2.2.2.2.2.2⟩, hP, hZ⟩
theorem beW_ok {b : BD} {r w : Int} (hb : okBd b) (r0 : 0 ≤ r) (r1 : r < b.1 0) (w0 : 0 ≤ w) (w1 : w < b.2 1 r) : okBd (putB 2 r w b) := by
  obtain ⟨⟨n0, n4, rr⟩, hE, hS, hP, hZ⟩ := hb
  have ev : ∀ j i, (putB 2 r w b).2 j i = if j = 2 ∧ i = r then w else b.2 j i := fun j i => rfl
  refine ⟨⟨n0, n4, fun i a c => ?_⟩, hE, hS, hP, fun j i hi => ?_⟩
  · have c : i < b.1 0 := c
    have := rr i a c
    rw [ev, ev, if_neg (by omega)]
    by_cases y : i = r
    · rw [if_pos ⟨rfl, y⟩]
      rw [← y] at w1
      omega
    · rw [if_neg (by omega)]
      exact this
  · rw [ev, if_neg (by omega)]
    exact hZ j i hi
theorem arg_b {sg : Int → Int} {p : Int} (h : (stp sg p).2 = false) (nt : ¬ sg p = 116) (j : Nat) : 0 ≤ arg sg p j ∧ arg sg p j ≤ 99 := by
  rcases ok_l h with l | l | l | l | l
  · obtain ⟨d1, ⟨d2, _, _⟩ | ⟨d2, _, _⟩⟩ := ok_r l h
    · have := dg_t.mp d1
      have := dg_t.mp d2
      rw [arg, if_neg (by omega), if_neg (by omega), if_neg (by omega), ar12, if_pos d2]
      omega
    · have := dg_t.mp d1
      rw [arg, if_neg (by omega), if_neg (by omega), if_neg (by omega), ar12, if_neg (by rw [d2]; decide)]
      omega
  · obtain ⟨d1, d2, d3, d4, d5, d6, _⟩ := ok_e l h
    have := dg_t.mp d1
    have := dg_t.mp d2
    have := dg_t.mp d3
    have := dg_t.mp d4
    have := dg_t.mp d5
    have := dg_t.mp d6
    rw [arg, if_pos l]
    (repeat' split) <;> omega
  · obtain ⟨d1, ⟨d2, _, d4, d5, _⟩ | ⟨d2, _, d4, d5, _⟩⟩ := ok_b l h
    · have := dg_t.mp d1
      have := dg_t.mp d2
      have := dg_t.mp d4
      have := dg_t.mp d5
      rw [arg, if_neg (by omega), if_neg (by omega), if_pos l, ar12, arO, if_pos d2, if_pos d2, show p + 1 + 3 = p + 4 by omega, show p + 1 + 4 = p + 5 by omega]
      (repeat' split) <;> omega
    · have := dg_t.mp d1
      have := dg_t.mp d4
      have := dg_t.mp d5
      have nd : ¬ dg (sg (p + 2)) = true := by rw [d2]; decide
      rw [arg, if_neg (by omega), if_neg (by omega), if_pos l, ar12, arO, if_neg nd, if_neg nd]
      (repeat' split) <;> omega
  · obtain ⟨d1, d2, d3, _⟩ := ok_w l h
    have := dg_t.mp d1
    have := dg_t.mp d2
    have := dg_t.mp d3
    rw [arg, if_neg (by omega), if_pos l]
    (repeat' split) <;> omega
  · exact absurd l nt
theorem arg_9 {sg : Int → Int} {p : Int} (h : (stp sg p).2 = false) (hl : sg p = 101) : arg sg p 0 ≤ 9 ∧ arg sg p 1 ≤ 9 := by
  obtain ⟨d1, d2, _⟩ := ok_e hl h
  have := dg_t.mp d1
  have := dg_t.mp d2
  unfold arg
  rw [if_pos hl, if_pos hl, if_pos rfl, if_neg (by decide), if_pos rfl]
  omega
theorem apT_ok {sg : Int → Int} {p : Int} {b : BD} (h : (stp sg p).2 = false) (hb : okBd b) (ho : oksT sg p b = true) : okBd (apT sg p b) := by
  unfold oksT at ho
  unfold apT
  by_cases c1 : sg p = 114
  · rw [if_pos c1] at ho ⊢
    have := of_decide_eq_true ho
    exact adR_ok hb this.1 this.2.1 this.2.2
  rw [if_neg c1] at ho ⊢
  by_cases c2 : sg p = 101
  · rw [if_pos c2] at ho ⊢
    have := of_decide_eq_true ho
    have b0 := arg_b h (by omega) 0
    have b1 := arg_b h (by omega) 1
    have b2 := arg_b h (by omega) 2
    have b3 := arg_b h (by omega) 3
    have b9 := arg_9 h c2
    exact adE_ok hb this.2.2 ⟨b0.1, by omega⟩ ⟨b1.1, b9.2⟩ ⟨b2.1, by omega⟩ b3
  rw [if_neg c2] at ho ⊢
  by_cases c3 : sg p = 98
  · rw [if_pos c3] at ho ⊢
    have := of_decide_eq_true ho
    have b0 := arg_b h (by omega) 0
    exact fiB_ok hb ⟨b0.1, this.1⟩ ⟨this.2.1, this.2.2.1⟩ this.2.2.2
  rw [if_neg c3] at ho ⊢
  by_cases c4 : sg p = 119
  · rw [if_pos c4] at ho ⊢
    have := of_decide_eq_true ho
    have b0 := arg_b h (by omega) 0
    have b1 := arg_b h (by omega) 1
    exact beW_ok hb b0.1 this.1 b1.1 this.2
  rw [if_neg c4] at ho ⊢
  have := of_decide_eq_true ho
  exact turnB_ok hb (hb.nx this)
