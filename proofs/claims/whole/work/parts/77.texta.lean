/-! ===== table: texts ===== -/
def sgF (c : Int → Int) (S i : Int) : Int := if 0 ≤ i ∧ i < S then c i else -1
def dg (x : Int) : Bool := decide (48 ≤ x) && decide (x ≤ 57)
theorem dg_t {x : Int} : dg x = true ↔ 48 ≤ x ∧ x ≤ 57 := by
  unfold dg
  rw [Bool.and_eq_true, decide_eq_true_eq, decide_eq_true_eq]
theorem dg_f {x : Int} : dg x = false ↔ x < 48 ∨ 57 < x := by
  rw [← Bool.not_eq_true, dg_t]
  omega
def sp (sg : Int → Int) (c : Int) (s : Int × Bool) : Int × Bool := if s.2 = true then s else if c = 100 ∨ c = 68 then (if dg (sg s.1) = true then (s.1 + 1, false) else if c = 68 then s else (s.1, true)) else if sg s.1 = c then (s.1 + 1, false) else (s.1, true)
def pfs (sg : Int → Int) : List Int → Int × Bool → Int × Bool
  | [], s => s
  | c :: cs, s => pfs sg cs (sp sg c s)
theorem pfs_f {sg : Int → Int} {q : Int} : ∀ cs : List Int, pfs sg cs (q, true) = (q, true) := by
  intro cs
  induction cs with
  | nil => rfl
  | cons c cs ih => rw [pfs, sp, if_pos rfl, ih]
def fmI (l : Int) : Nat := if l = 114 then 0 else if l = 101 then 1 else if l = 98 then 2 else if l = 119 then 3 else if l = 116 then 4 else 5
def fmL (l : Int) : List Int := strS.getD (fmI l) []
theorem fmI_b (l : Int) : fmI l < 6 := by
  unfold fmI
  (repeat' split) <;> omega
def stp (sg : Int → Int) (p : Int) : Int × Bool := if fmI (sg p) = 5 then (p, true) else pfs sg (fmL (sg p)) (p + 1, false)
def tp (sg : Int → Int) (S : Int) : Nat → Int → Int
  | 0, _ => -9
  | m + 1, p => if (stp sg p).2 = true then (stp sg p).1 else if S ≤ (stp sg p).1 then -9 else tp sg S m (stp sg p).1
theorem sp_le {sg : Int → Int} {c : Int} {s : Int × Bool} : s.1 ≤ (sp sg c s).1 ∧ (sp sg c s).1 ≤ s.1 + 1 := by
  have f1 : ∀ (x : Int) (b : Bool), (x, b).1 = x := fun _ _ => rfl
  unfold sp
  (repeat' split) <;> (try rw [f1]) <;> omega
theorem pfs_le {sg : Int → Int} : ∀ (cs : List Int) (s : Int × Bool), s.1 ≤ (pfs sg cs s).1 ∧ (pfs sg cs s).1 ≤ s.1 + cs.length := by
  intro cs
  induction cs with
  | nil => intro s; rw [pfs]; simp only [List.length_nil]; omega
  | cons c cs ih =>
    intro s
    have h1 := ih (sp sg c s)
    have h2 := sp_le (sg := sg) (c := c) (s := s)
    rw [pfs]
    simp only [List.length_cons]
    omega
theorem fmL_len (l : Int) : (fmL l).length ≤ 7 := by
  have h := fmI_b l
  unfold fmL
  rcases (show fmI l = 0 ∨ fmI l = 1 ∨ fmI l = 2 ∨ fmI l = 3 ∨ fmI l = 4 ∨ fmI l = 5 by omega) with e | e | e | e | e | e <;> rw [e] <;> decide
theorem stp_le {sg : Int → Int} {p : Int} : p ≤ (stp sg p).1 ∧ (stp sg p).1 ≤ p + 8 ∧ ((stp sg p).2 = false → p + 1 ≤ (stp sg p).1) := by
  have h := pfs_le (sg := sg) (fmL (sg p)) (p + 1, false)
  have hl := fmL_len (sg p)
  unfold stp
  split
  · exact ⟨Int.le_refl _, by simp only; omega, fun y => by cases y⟩
  · simp only at h
    exact ⟨by omega, by omega, fun _ => by omega⟩
/-! ===== the component's letters ===== -/
theorem s_X2_signAt {d : Nat} {a : Int} {h : AH} {K : Int → AH → Prop} (S96 : h.1 25 1 ≤ 96) (q : K (sgF (h.1 26) (h.1 25 1) a) h) : cI (tx mt (d + 1)) n_X2_signAt [vR 25, vI a] h K := by
  unfold sgF at q
  refine cI_i (e_X2_signAt ⟨fun c => u_X2_signAt_1 (tx_mono _ _) (u_X2_signAt_2 (tx_mono _ _) (exI ?_)), fun c => ⟨fun c2 => u_X2_signAt_1 (tx_mono _ _) (u_X2_signAt_2 (tx_mono _ _) (exI ?_)), fun c2 => ⟨by omega, by omega, u_X2_signAt_2 (tx_mono _ _) (exI ?_)⟩⟩⟩)
  · rw [if_neg (by omega)] at q; exact q
  · rw [if_neg (by omega)] at q; exact q
  · rw [if_pos (by omega)] at q; exact q
theorem s_X2_isDigit {d : Nat} {a : Int} {h : AH} {K : Int → AH → Prop} (S96 : h.1 25 1 ≤ 96) (q : K (b2i (dg (sgF (h.1 26) (h.1 25 1) a))) h) : cI (tx mt (d + 2)) n_X2_isDigit [vR 25, vI a] h K := by
  have n1 : sgF (h.1 26) (h.1 25 1) a < 48 ∨ 57 < sgF (h.1 26) (h.1 25 1) a → Bx z0 0 (tx mt (d+1)) k_X2_isDigit (fun r h' => ∃ z, r = some (.inl z) ∧ K z h') 1 [some (vR 25), some (vI a)] [] h := by
    intro c
    rw [dg_f.mpr c] at q
    exact u_X2_isDigit_1 (tx_mono _ _) (u_X2_isDigit_2 (tx_mono _ _) ⟨Or.inl rfl, exI q⟩)
  refine cI_i (e_X2_isDigit (s_X2_signAt S96 ⟨fun c => n1 (Or.inl c), fun c => s_X2_signAt S96 ⟨fun c2 => n1 (Or.inr c2), fun c2 => u_X2_isDigit_2 (tx_mono _ _) ⟨Or.inr rfl, exI ?_⟩⟩⟩))
  rw [dg_t.mpr ⟨by omega, by omega⟩] at q
  exact q
theorem s_X2_digitsFrom {d : Nat} {a : Int} {h : AH} {K : Int → AH → Prop} (S96 : h.1 25 1 ≤ 96) (a0 : 0 ≤ a) (a1 : a ≤ 1000) (q : ∀ z, 0 ≤ z → z ≤ 96 → (∀ i, 0 ≤ i → i < z → dg (sgF (h.1 26) (h.1 25 1) (a + i)) = true) → (z = 96 ∨ dg (sgF (h.1 26) (h.1 25 1) (a + z)) = false) → K z h) : cI (tx mt (d + 3)) n_X2_digitsFrom [vR 25, vI a] h K := by
  have key : ∀ (m : Nat) (i : Int), i + m = 96 → 0 ≤ i → (∀ j, 0 ≤ j → j < i → dg (sgF (h.1 26) (h.1 25 1) (a + j)) = true) → Bx z0 0 (tx mt (d+2)) k_X2_digitsFrom (fun r h' => ∃ z, r = some (.inl z) ∧ K z h') 1 [some (vR 25), some (vI a), some (vI i)] [] h := by
    intro m
    induction m with
    | zero =>
      intro i im i0 hj
      exact u_X2_digitsFrom_1 (tx_mono _ _) ⟨fun _ => u_X2_digitsFrom_2 (tx_mono _ _) (exI (q i i0 (by omega) hj (Or.inl (by omega)))), fun c => by omega⟩
    | succ m ih =>
      intro i im i0 hj
      refine u_X2_digitsFrom_1 (tx_mono _ _) ⟨fun c => by omega, fun _ => ⟨⟨by omega, by omega⟩, s_X2_isDigit S96 ⟨fun c => u_X2_digitsFrom_2 (tx_mono _ _) (exI (q i i0 (by omega) hj (Or.inr (b2i_z c)))), fun c => ⟨⟨by omega, by omega⟩, ih (i + 1) (by omega) (by omega) (fun j j0 j1 => ?_)⟩⟩⟩⟩
      by_cases e : j = i
      · rw [e]; exact b2i_o c
      · exact hj j j0 (by omega)
  exact cI_i (e_X2_digitsFrom (key 96 0 (by decide) (by decide) (fun j a b => by omega)))
theorem s_X2_number1 {d : Nat} {a : Int} {h : AH} {K : Int → AH → Prop} (S96 : h.1 25 1 ≤ 96) (a0 : 0 ≤ a) (a1 : a ≤ 1000) (D1 : dg (sgF (h.1 26) (h.1 25 1) a) = true) (q : K (sgF (h.1 26) (h.1 25 1) a - 48) h) : cI (tx mt (d + 2)) n_X2_numberAt [vR 25, vI a, vI 1] h K := by
  have g1 := dg_t.mp D1
  refine cI_i (e_X2_numberAt (u_X2_numberAt_1 (tx_mono _ _) ⟨fun c => absurd c (by decide), fun _ => ⟨⟨by omega, by omega⟩, ⟨by omega, by omega⟩, s_X2_signAt S96 ?_⟩⟩))
  rw [Int.add_zero]
  refine ⟨⟨by omega, by omega⟩, ⟨by omega, by omega⟩, ⟨by omega, by omega⟩, u_X2_numberAt_1 (tx_mono _ _) ⟨fun _ => u_X2_numberAt_2 (tx_mono _ _) (exI ?_), fun c => absurd (by decide) c⟩⟩
  rw [show 10 * 0 + sgF (h.1 26) (h.1 25 1) a - 48 = sgF (h.1 26) (h.1 25 1) a - 48 by omega]
  exact q
theorem s_X2_number2 {d : Nat} {a : Int} {h : AH} {K : Int → AH → Prop} (S96 : h.1 25 1 ≤ 96) (a0 : 0 ≤ a) (a1 : a ≤ 1000) (D1 : dg (sgF (h.1 26) (h.1 25 1) a) = true) (D2 : dg (sgF (h.1 26) (h.1 25 1) (a + 1)) = true) (q : K (10 * (sgF (h.1 26) (h.1 25 1) a - 48) + (sgF (h.1 26) (h.1 25 1) (a + 1) - 48)) h) : cI (tx mt (d + 2)) n_X2_numberAt [vR 25, vI a, vI 2] h K := by
  have g1 := dg_t.mp D1
  have g2 := dg_t.mp D2
  refine cI_i (e_X2_numberAt (u_X2_numberAt_1 (tx_mono _ _) ⟨fun c => absurd c (by decide), fun _ => ⟨⟨by omega, by omega⟩, ⟨by omega, by omega⟩, s_X2_signAt S96 ?_⟩⟩))
  rw [Int.add_zero]
  refine ⟨⟨by omega, by omega⟩, ⟨by omega, by omega⟩, ⟨by omega, by omega⟩, u_X2_numberAt_1 (tx_mono _ _) ⟨fun c => absurd c (by decide), fun _ => ⟨⟨by omega, by omega⟩, ⟨by omega, by omega⟩, s_X2_signAt S96 ?_⟩⟩⟩
  rw [show a + (0 + 1) = a + 1 by omega]
  refine ⟨⟨by omega, by omega⟩, ⟨by omega, by omega⟩, ⟨by omega, by omega⟩, u_X2_numberAt_1 (tx_mono _ _) ⟨fun _ => u_X2_numberAt_2 (tx_mono _ _) (exI ?_), fun c => absurd (by decide) c⟩⟩
  rw [show 10 * (10 * 0 + sgF (h.1 26) (h.1 25 1) a - 48) + sgF (h.1 26) (h.1 25 1) (a + 1) - 48 = 10 * (sgF (h.1 26) (h.1 25 1) a - 48) + (sgF (h.1 26) (h.1 25 1) (a + 1) - 48) by omega]
  exact q
theorem s_X2_endOf {d : Nat} {a : Int} {h : AH} {K : Int → AH → Prop} (S96 : h.1 25 1 ≤ 96) (a0 : 0 ≤ a) (a1 : a ≤ 96) (q : ∀ z, a ≤ z → z ≤ 200 → (∀ i, a ≤ i → i < z → i < h.1 25 1 ∧ ¬ sgF (h.1 26) (h.1 25 1) i = 59) → (h.1 25 1 ≤ z ∨ sgF (h.1 26) (h.1 25 1) z = 59) → K (z + 1) h) : cI (tx mt (d + 2)) n_X2_endOf [vR 25, vI a] h K := by
  have key : ∀ (m : Nat) (z : Int), z + m = a + 97 → a ≤ z → (∀ i, a ≤ i → i < z → i < h.1 25 1 ∧ ¬ sgF (h.1 26) (h.1 25 1) i = 59) → Bx z0 0 (tx mt (d+1)) k_X2_endOf (fun r h' => ∃ z, r = some (.inl z) ∧ K z h') 1 [some (vR 25), none, some (vI z)] [] h := by
    intro m
    induction m with
    | zero =>
      intro z zm z0 hz
      exact u_X2_endOf_1 (tx_mono _ _) ⟨fun c => u_X2_endOf_2 (tx_mono _ _) ⟨⟨by omega, by omega⟩, exI (q z z0 (by omega) hz (Or.inl c))⟩, fun c => by omega⟩
    | succ m ih =>
      intro z zm z0 hz
      refine u_X2_endOf_1 (tx_mono _ _) ⟨fun c => u_X2_endOf_2 (tx_mono _ _) ⟨⟨by omega, by omega⟩, exI (q z z0 (by omega) hz (Or.inl c))⟩, fun c => s_X2_signAt S96 ⟨fun c2 => u_X2_endOf_2 (tx_mono _ _) ⟨⟨by omega, by omega⟩, exI (q z z0 (by omega) hz (Or.inr c2))⟩, fun c2 => ⟨⟨by omega, by omega⟩, ih (z + 1) (by omega) (by omega) (fun i i0 i1 => ?_)⟩⟩⟩
      by_cases e : i = z
      · rw [e]; exact ⟨by omega, c2⟩
      · exact hz i i0 (by omega)
  refine cI_i (e_X2_endOf ?_)
  have := key 97 a (by omega) (Int.le_refl _) (fun i x y => by omega)
  refine u_X2_endOf_1 (tx_mono _ _) ⟨fun c => u_X2_endOf_2 (tx_mono _ _) ⟨⟨by omega, by omega⟩, exI (q a (Int.le_refl _) (by omega) (fun i x y => by omega) (Or.inl c))⟩, fun c => s_X2_signAt S96 ⟨fun c2 => u_X2_endOf_2 (tx_mono _ _) ⟨⟨by omega, by omega⟩, exI (q a (Int.le_refl _) (by omega) (fun i x y => by omega) (Or.inr c2))⟩, fun c2 => ⟨⟨by omega, by omega⟩, key 96 (a + 1) (by omega) (by omega) (fun i i0 i1 => ?_)⟩⟩⟩
  rw [show i = a by omega]
  exact ⟨by omega, c2⟩
theorem s_X2_formOf {d : Nat} {l : Int} {h : AH} {K : Nat → AH → Prop} (q : K (200 + fmI l) h) : cR (tx mt (d + 1)) n_X2_formOf [vI l] h K := by
  unfold fmI at q
  by_cases c1 : l = 98
  · subst c1
    exact e_X2_formOf ⟨fun _ => u_X2_formOf_3 (tx_mono _ _) ⟨_, rfl, q⟩, fun c => absurd rfl c⟩
  by_cases c2 : l = 101
  · subst c2
    exact e_X2_formOf ⟨fun c => absurd c (by decide), fun _ => ⟨fun _ => u_X2_formOf_2 (tx_mono _ _) ⟨_, rfl, q⟩, fun c => absurd rfl c⟩⟩
  by_cases c3 : l = 114
  · subst c3
    exact e_X2_formOf ⟨fun c => absurd c (by decide), fun _ => ⟨fun c => absurd c (by decide), fun _ => ⟨fun _ => u_X2_formOf_1 (tx_mono _ _) ⟨_, rfl, q⟩, fun c => absurd rfl c⟩⟩⟩
  by_cases c4 : l = 116
  · subst c4
    exact e_X2_formOf ⟨fun c => absurd c (by decide), fun _ => ⟨fun c => absurd c (by decide), fun _ => ⟨fun c => absurd c (by decide), fun _ => ⟨fun _ => u_X2_formOf_5 (tx_mono _ _) ⟨_, rfl, q⟩, fun c => absurd rfl c⟩⟩⟩⟩
  by_cases c5 : l = 119
  · subst c5
    exact e_X2_formOf ⟨fun c => absurd c (by decide), fun _ => ⟨fun c => absurd c (by decide), fun _ => ⟨fun c => absurd c (by decide), fun _ => ⟨fun c => absurd c (by decide), fun _ => ⟨fun _ => u_X2_formOf_4 (tx_mono _ _) ⟨_, rfl, q⟩, fun c => absurd rfl c⟩⟩⟩⟩⟩
  rw [if_neg c3, if_neg c2, if_neg c1, if_neg c5, if_neg c4] at q
  exact e_X2_formOf ⟨fun c => absurd c c1, fun _ => ⟨fun c => absurd c c2, fun _ => ⟨fun c => absurd c c3, fun _ => ⟨fun c => absurd c c4, fun _ => ⟨fun c => absurd c c5, fun _ => u_X2_formOf_6 (tx_mono _ _) ⟨_, rfl, q⟩⟩⟩⟩⟩⟩
