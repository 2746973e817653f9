/-! ===== the constants ===== -/
theorem six {i : Nat} (hi : i < 6) : i = 0 ∨ i = 1 ∨ i = 2 ∨ i = 3 ∨ i = 4 ∨ i = 5 := by omega
theorem st_a {i : Nat} (hi : i < 6) : (shA (200 + i)).1 = 20 := by
  rcases six hi with rfl | rfl | rfl | rfl | rfl | rfl <;> decide +kernel
theorem st_b {i : Nat} (hi : i < 6) : (shA (200 + i + 20)).1 = 13 := by
  rcases six hi with rfl | rfl | rfl | rfl | rfl | rfl <;> decide +kernel
theorem st_c {i : Nat} (hi : i < 6) : (shA (200 + i + 20)).2 = (strS.getD i []).length := by
  rcases six hi with rfl | rfl | rfl | rfl | rfl | rfl <;> decide +kernel
theorem st_v : ∀ (i : Fin 6) (n : Fin 8), 0 ≤ (strS.getD i.val []).getD n.val 0 ∧ (strS.getD i.val []).getD n.val 0 < 65536 ∧ (((((strS.getD i.val []).getD n.val 0).toNat &&& 255 : Nat) : Int) = (strS.getD i.val []).getD n.val 0) := by decide +kernel
theorem s_isEmpty {d i : Nat} {h : AH} {K : Int → AH → Prop} (hi : i < 6) (q1 : i = 5 → K 1 h) (q0 : i < 5 → K 0 h) : cI (tx mt (d + 1)) n_J0_isEmpty_aae02 [vR (200 + i)] h K := by
  refine cI_i (e_J0_isEmpty_aae02 (st_a hi) ⟨st_a hi, st_b hi, ?_⟩)
  rw [st_c hi]
  by_cases c : i = 5
  · subst c
    exact ⟨fun y => absurd (by decide +kernel) y, fun _ => u_J0_isEmpty_aae02_2 (tx_mono _ _) ⟨Or.inr rfl, exI (q1 rfl)⟩⟩
  · have h5 : i < 5 := by omega
    have nz : ¬ ((strS.getD i []).length : Int) = 0 := by
      rcases (show i = 0 ∨ i = 1 ∨ i = 2 ∨ i = 3 ∨ i = 4 by omega) with rfl | rfl | rfl | rfl | rfl <;> decide +kernel
    exact ⟨fun _ => u_J0_isEmpty_aae02_1 (tx_mono _ _) (u_J0_isEmpty_aae02_2 (tx_mono _ _) ⟨Or.inl rfl, exI (q0 h5)⟩), fun y => absurd nz y⟩
theorem s_slen {d i : Nat} {h : AH} {K : Int → AH → Prop} (hi : i < 6) (q : K ((strS.getD i []).length : Int) h) : cI (tx mt (d + 2)) n_J0_length_8abf5 [vR (200 + i)] h K := by
  refine cI_i (e_J0_length_8abf5 (st_a hi) ⟨st_a hi, st_b hi, cI_i (e_J0_coder_7d493 (st_a hi) ⟨fun y => absurd y (by decide), fun _ => ⟨st_a hi, u_J0_coder_7d493_2 (tx_mono _ _) ⟨rfl, exI ?_⟩⟩⟩)⟩)
  rw [st_c hi]
  refine ⟨Int.natCast_nonneg _, by decide, by decide, exI ?_⟩
  rw [show ((strS.getD i []).length : Int) / 2 ^ Int.toNat 0 = ((strS.getD i []).length : Int) from Int.ediv_one _]
  exact q
theorem s_schar {d i n : Nat} {h : AH} {K : Int → AH → Prop} (hi : i < 6) (hn : n < (strS.getD i []).length) (q : K ((strS.getD i []).getD n 0) h) : cI (tx mt (d + 5)) n_J0_charAt_5068e [vR (200 + i), vI (n : Int)] h K := by
  have n7 : (strS.getD i []).length ≤ 7 := by
    rcases six hi with rfl | rfl | rfl | rfl | rfl | rfl <;> decide +kernel
  have v := st_v ⟨i, hi⟩ ⟨n, by omega⟩
  simp only at v
  refine cI_i (e_J0_charAt_5068e (st_a hi) (cI_i (e_J0_isLatin1_aae02 (st_a hi) ⟨fun y => absurd y (by decide), fun _ => ⟨st_a hi, fun y => absurd rfl y, fun _ => u_J0_isLatin1_aae02_2 (tx_mono _ _) ⟨Or.inr rfl, exI ?_⟩⟩⟩)))
  refine ⟨fun y => absurd y (by decide), fun _ => ⟨st_a hi, cI_i (e_J1_charAt_3b067 ⟨st_b hi, ?_⟩)⟩⟩
  rw [st_c hi, show 200 + i + 20 - 220 = i by omega, show Int.toNat (n : Int) = n from rfl, show Int.toNat 255 = 255 from rfl, v.2.2]
  refine cV_i (e_J0_checkIndex_df160 ⟨cI_i (e_J3_checkIndex_8e157 ⟨fun y => by omega, fun _ => ⟨fun _ => u_J3_checkIndex_8e157_2 (tx_mono _ _) (exI (exV ?_)), fun y => absurd (by omega) y⟩⟩), cI_i (e_J3n (by omega) (by omega) (exI (exV ?_)))⟩)
  · exact ⟨st_b hi, by omega, by omega, v.1, by decide, v.1, v.2.1, ⟨v.1, v.2.1⟩, exI ⟨⟨v.1, v.2.1⟩, exI q⟩⟩
  · exact ⟨st_b hi, by omega, by omega, v.1, by decide, v.1, v.2.1, ⟨v.1, v.2.1⟩, exI ⟨⟨v.1, v.2.1⟩, exI q⟩⟩
theorem drop_c {l : List Int} : ∀ {n : Nat} {c : Int} {cs : List Int}, l.drop n = c :: cs → n < l.length ∧ l.getD n 0 = c ∧ l.drop (n + 1) = cs := by
  induction l with
  | nil => intro n c cs h; rw [List.drop_nil] at h; cases h
  | cons x xs ih =>
    intro n c cs h
    cases n with
    | zero =>
      rw [List.drop_zero] at h
      cases h
      exact ⟨by simp, rfl, rfl⟩
    | succ n =>
      have := ih (n := n) (c := c) (cs := cs) h
      exact ⟨by simp only [List.length_cons]; omega, this.2.1, this.2.2⟩
theorem x_wrong {d : Nat} {h : AH} {K : Int → AH → Prop} (S0 : 0 ≤ h.1 25 1) (S96 : h.1 25 1 ≤ 96) (q : K (tp (sgF (h.1 26) (h.1 25 1)) (h.1 25 1) 97 0) h) : cI (tx mt (d + 8)) n_X2_wrongPlace [vR 25] h K := by
  generalize hsg : sgF (h.1 26) (h.1 25 1) = sg at q
  have inner : ∀ (i : Nat), i < 6 → ∀ (cs : List Int) (n : Nat) (p : Int) (x4 x5 : Option AV), (strS.getD i []).drop n = cs → 0 ≤ p → p + cs.length ≤ 300 → (∀ q, pfs sg cs (p, false) = (q, false) → Bx z0 0 (tx mt (d+7)) k_X2_wrongPlace (fun r h' => ∃ z, r = some (.inl z) ∧ K z h') 2 [some (vR 25), some (vI q), none, none, none, none] [] h) → (∀ q, pfs sg cs (p, false) = (q, true) → K q h) → n + cs.length ≤ 7 → Bx z0 0 (tx mt (d+7)) k_X2_wrongPlace (fun r h' => ∃ z, r = some (.inl z) ∧ K z h') 4 [some (vR 25), some (vI p), some (vR (200 + i)), some (vI ((n : Int))), x4, x5] [] h := by
    intro i hi cs
    induction cs with
    | nil =>
      intro n p x4 x5 hd p0 pl q1 q0 n3
      have := List.drop_eq_nil_iff.mp hd
      exact u_X2_wrongPlace_4 (tx_mono _ _) (s_slen hi ⟨fun _ => u_X2_wrongPlace_12 (tx_mono _ _) (q1 p rfl), fun c => absurd (by omega) c⟩)
    | cons c cs ih =>
      intro n p x4 x5 hd p0 pl q1 q0 n3
      obtain ⟨nl, nc, nd⟩ := drop_c hd
      rw [List.length_cons] at pl n3
      rw [pfs, sp, if_neg (show ¬ false = true by decide)] at q1 q0
      have f1 : ∀ (x : Int) (b : Bool), (x, b).1 = x := fun _ _ => rfl
      rw [f1] at q1 q0
      have nx : ∀ (p' : Int) (x4 x5 : Option AV), 0 ≤ p' → p' + cs.length ≤ 300 → (pfs sg cs (p', false) = pfs sg cs (if c = 100 ∨ c = 68 then (if dg (sg p) = true then (p + 1, false) else if c = 68 then (p, false) else (p, true)) else if sg p = c then (p + 1, false) else (p, true))) → Bx z0 0 (tx mt (d+7)) k_X2_wrongPlace (fun r h' => ∃ z, r = some (.inl z) ∧ K z h') 11 [some (vR 25), some (vI (p')), some (vR (200 + i)), some (vI ((n : Int))), x4, x5] [] h := by
        intro p' x4 x5 p0' pl' e
        refine u_X2_wrongPlace_11 (tx_mono _ _) ⟨⟨by omega, by omega⟩, ?_⟩
        have := ih (n + 1) p' none none nd p0' pl' (by rw [e]; exact q1) (by rw [e]; exact q0) (by omega)
        exact this
      refine u_X2_wrongPlace_4 (tx_mono _ _) (s_slen hi ⟨fun c => absurd c (by omega), fun _ => s_schar hi nl ?_⟩)
      rw [nc]
      have nn : c = 68 ∨ c = 100 → Bx z0 0 (tx mt (d+7)) k_X2_wrongPlace (fun r h' => ∃ z, r = some (.inl z) ∧ K z h') 7 [some (vR 25), some (vI p), some (vR (200 + i)), some (vI ((n : Int))), some (vI c), none] [vI 1] h := by
        intro hc
        rw [if_pos (by omega)] at nx q0
        refine u_X2_wrongPlace_7 (tx_mono _ _) ⟨fun y => absurd y (by decide), fun _ => s_X2_isDigit S96 ?_⟩
        rw [hsg]
        refine ⟨fun y => u_X2_wrongPlace_10 (tx_mono _ _) ⟨fun c68 => nx p _ _ p0 (by omega) ?_, fun c68 => exI (q0 p ?_)⟩, fun y => u_X2_wrongPlace_9 (tx_mono _ _) ⟨⟨by omega, by omega⟩, nx (p + 1) _ _ (by omega) (by omega) ?_⟩⟩
        · rw [if_neg (by rw [b2i_z y]; decide), if_pos c68]
        · rw [if_neg (by rw [b2i_z y]; decide), if_neg c68]
          exact pfs_f cs
        · rw [if_pos (b2i_o y)]
      refine ⟨fun y => u_X2_wrongPlace_5 (tx_mono _ _) (nn (Or.inr y)), fun y => ⟨fun y2 => u_X2_wrongPlace_6 (tx_mono _ _) (u_X2_wrongPlace_7 (tx_mono _ _) ⟨fun _ => u_X2_wrongPlace_8 (tx_mono _ _) (s_X2_signAt S96 ?_), fun z => absurd rfl z⟩), fun y2 => u_X2_wrongPlace_5 (tx_mono _ _) (nn (by omega))⟩⟩
      rw [hsg]
      rw [if_neg (by omega)] at nx q0
      refine ⟨fun z => u_X2_wrongPlace_10 (tx_mono _ _) ⟨fun c68 => absurd c68 y2, fun _ => exI (q0 p ?_)⟩, fun z => u_X2_wrongPlace_9 (tx_mono _ _) ⟨⟨by omega, by omega⟩, nx (p + 1) _ _ (by omega) (by omega) ?_⟩⟩
      · rw [if_neg z]
        exact pfs_f cs
      · rw [if_pos (by omega)]
  have outer : ∀ (m : Nat) (p : Int), h.1 25 1 < p + m → 0 ≤ p → p ≤ 200 → (h.1 25 1 ≤ p → K (-9) h) → (p < h.1 25 1 → K (tp sg (h.1 25 1) m p) h) → Bx z0 0 (tx mt (d+7)) k_X2_wrongPlace (fun r h' => ∃ z, r = some (.inl z) ∧ K z h') 2 [some (vR 25), some (vI p), none, none, none, none] [] h := by
    intro m
    induction m with
    | zero =>
      intro p pm p0 p2 q9 q
      exact u_X2_wrongPlace_2 (tx_mono _ _) ⟨fun c => u_X2_wrongPlace_13 (tx_mono _ _) (exI (q9 c)), fun c => by omega⟩
    | succ m ih =>
      intro p pm p0 p2 q9 q
      refine u_X2_wrongPlace_2 (tx_mono _ _) ⟨fun c => u_X2_wrongPlace_13 (tx_mono _ _) (exI (q9 c)), fun c => s_X2_signAt S96 ?_⟩
      rw [hsg]
      have q := q (by omega)
      rw [tp] at q
      have le := stp_le (sg := sg) (p := p)
      refine s_X2_formOf (s_isEmpty (fmI_b _) (fun c5 => ⟨fun y => absurd y (by decide), fun _ => exI ?_⟩) (fun c5 => ⟨fun _ => u_X2_wrongPlace_3 (tx_mono _ _) ⟨⟨by omega, by omega⟩, ?_⟩, fun y => absurd rfl y⟩))
      · rw [stp, if_pos c5] at q
        exact q
      · have es : stp sg p = pfs sg (fmL (sg p)) (p + 1, false) := by rw [stp, if_neg (by omega)]
        have hl := fmL_len (sg p)
        refine inner (fmI (sg p)) (fmI_b _) (fmL (sg p)) 0 (p + 1) none none rfl (by omega) (by omega) (fun r hr => ?_) (fun r hr => ?_) (by omega)
        · rw [← es] at hr
          rw [hr] at q le
          rw [if_neg (show ¬ false = true by decide)] at q
          have le3 := le.2.2 rfl
          simp only at le3 q le
          refine ih r (by omega) (by omega) (by omega) (fun c => ?_) (fun c => ?_)
          · rw [if_pos c] at q
            exact q
          · rw [if_neg (by omega)] at q
            exact q
        · rw [← es] at hr
          rw [hr, if_pos rfl] at q
          exact q
  refine cI_i (e_X2_wrongPlace ⟨fun c => u_X2_wrongPlace_1 (tx_mono _ _) (outer 97 0 (by omega) (by decide) (by decide) (fun c => by omega) (fun _ => q)), fun c => exI ?_⟩)
  have z : sg 0 = -1 := by rw [← hsg, sgF, if_neg (by omega)]
  have z2 : stp sg 0 = (0, true) := by rw [stp, z]; rfl
  rw [tp, z2] at q
  exact q
