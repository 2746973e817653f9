/-! ===== one instruction ===== -/
theorem vOK_c (k : Nat) (h : k ≤ 2147483647) : vOK (.inl (k : Int)) := ⟨by omega, by omega⟩
theorem mx_t1 : (Cond.static Lib.Math.max.name) ∈ tb ∧ (Cond.static Lib.Math.min.name) ∈ tb ∧ (Cond.initialized "java/lang/Math") ∈ tb ∧ (Cond.native arraycopyName) ∈ tb ∧ (Cond.static arraycopyName) ∈ tb ∧ (Cond.initialized "java/lang/System") ∈ tb := by decide +kernel
theorem mx_cmin : (Cond.code Lib.Math.min.name Lib.Math.min.code 2 (some .int)) ∈ tb := tb_mem (pos := 466) (by decide +kernel) (by decide +kernel)
theorem mx_cmax : (Cond.code Lib.Math.max.name Lib.Math.max.code 2 (some .int)) ∈ tb := tb_mem (pos := 476) (by decide +kernel) (by decide +kernel)
theorem nfw : nativeFrameWords "java/lang/System" "arraycopy" 5 ≤ 40 := by decide +kernel
theorem mx_code (i : Nat) {w : Cond} (h : lw_tbl[i]? = some w) (hg : goodWord w = true) : w ∈ tb := tb_mem h hg
theorem bi_c (n : Int) (h0 : -128 ≤ n) (h1 : n < 128) : (Int8.ofInt n).toInt32 = Int32.ofInt n := by
  apply Int32.toInt_inj.mp
  rw [Int8.toInt_toInt32, Int8.toInt_ofInt_of_le (by omega) (by omega), am_t ⟨by omega, by omega⟩]
theorem si_c (n : Int) (h0 : -32768 ≤ n) (h1 : n < 32768) : (Int16.ofInt n).toInt32 = Int32.ofInt n := by
  apply Int32.toInt_inj.mp
  rw [Int16.toInt_toInt32, Int16.toInt_ofInt_of_le (by omega) (by omega), am_t ⟨by omega, by omega⟩]
theorem sh_lt100 (a : Nat) (h : a < 100) : ((shT[a]?).getD (99, 0)).1 ≠ 20 ∧ ((shT[a]?).getD (99, 0)).1 ≠ 13 ∧ ((shT[a]?).getD (99, 0)).1 ≠ 14 := by
  have : ∀ a : Fin 100, ((shT[a.val]?).getD (99, 0)).1 ≠ 20 ∧ ((shT[a.val]?).getD (99, 0)).1 ≠ 13 ∧ ((shT[a.val]?).getD (99, 0)).1 ≠ 14 := by decide +kernel
  exact this ⟨a, h⟩
theorem sh_cases {a c n : Nat} (h : shA a = (c, n)) : a < 100 ∨ (200 ≤ a ∧ a < 206 ∧ c = 20) ∨ (220 ≤ a ∧ a < 226 ∧ c = 13 ∧ n = (strS.getD (a - 220) []).length) ∨ (a = 300 ∧ c = 14) ∨ c = 99 := by
  unfold shA at h
  by_cases h1 : a < 100
  · exact Or.inl h1
  · rw [if_neg h1] at h
    by_cases h2 : 200 ≤ a ∧ a < 206
    · rw [if_pos h2] at h; cases h; exact Or.inr (Or.inl ⟨h2.1, h2.2, rfl⟩)
    · rw [if_neg h2] at h
      by_cases h3 : 220 ≤ a ∧ a < 226
      · rw [if_pos h3] at h; cases h; exact Or.inr (Or.inr (Or.inl ⟨h3.1, h3.2, rfl, rfl⟩))
      · rw [if_neg h3] at h
        by_cases h4 : a = 300
        · rw [if_pos h4] at h; cases h; exact Or.inr (Or.inr (Or.inr (Or.inl ⟨h4, rfl⟩)))
        · rw [if_neg h4] at h; cases h; exact Or.inr (Or.inr (Or.inr (Or.inr rfl)))
theorem sh20 {a : Nat} (h : (shA a).1 = 20) : ∃ i, i < 6 ∧ a = 200 + i := by
  have e : shA a = (20, (shA a).2) := by rw [← h]
  rcases sh_cases e with q | ⟨q1, q2, -⟩ | ⟨-, -, q, -⟩ | ⟨-, q⟩ | q
  · have := (sh_lt100 a q).1
    unfold shA at h; rw [if_pos q] at h; exact absurd h this
  · exact ⟨a - 200, by omega, by omega⟩
  · omega
  · omega
  · omega
theorem sh13 {a : Nat} (h : (shA a).1 = 13) : ∃ i, i < 6 ∧ a = 220 + i ∧ (shA a).2 = (strS.getD i []).length := by
  have e : shA a = (13, (shA a).2) := by rw [← h]
  rcases sh_cases e with q | ⟨-, -, q⟩ | ⟨q1, q2, -, q3⟩ | ⟨-, q⟩ | q
  · have := (sh_lt100 a q).2.1
    unfold shA at h; rw [if_pos q] at h; exact absurd h this
  · omega
  · exact ⟨a - 220, by omega, by omega, q3⟩
  · omega
  · omega
theorem sh14 {a : Nat} (h : (shA a).1 = 14) : a = 300 := by
  have e : shA a = (14, (shA a).2) := by rw [← h]
  rcases sh_cases e with q | ⟨-, -, q⟩ | ⟨-, -, q, -⟩ | ⟨q, -⟩ | q
  · have := (sh_lt100 a q).2.2
    unfold shA at h; rw [if_pos q] at h; exact absurd h this
  · omega
  · omega
  · exact q
  · omega
theorem strS_ok (j : Nat) (hj : j < 6) (i : Nat) (hi : i < (strS.getD j []).length) : (strS.map List.length).getD j 0 = (strS.getD j []).length ∧ ((strS.map (fun l => l.map Int32.ofInt)).getD j []).getD i 0 = Int32.ofInt ((strS.getD j []).getD i 0) ∧ inI ((strS.getD j []).getD i 0) := by
  have h7 : (strS.getD j []).length ≤ 7 := by
    have : ∀ j : Fin 6, (strS.getD j.val []).length ≤ 7 := by decide +kernel
    exact this ⟨j, hj⟩
  have : ∀ (j : Fin 6) (i : Fin 7), i.val < (strS.getD j.val []).length → (strS.map List.length).getD j.val 0 = (strS.getD j.val []).length ∧ ((strS.map (fun l => l.map Int32.ofInt)).getD j.val []).getD i.val 0 = Int32.ofInt ((strS.getD j.val []).getD i.val 0) ∧ (-2147483648 ≤ (strS.getD j.val []).getD i.val 0 ∧ (strS.getD j.val []).getD i.val 0 ≤ 2147483647) := by decide +kernel
  exact this ⟨j, hj⟩ ⟨i, by omega⟩ hi
theorem strS_len (j : Nat) (hj : j < 6) : inI ((strS.getD j []).length : Int) := by
  have : ∀ j : Fin 6, (strS.getD j.val []).length ≤ 7 := by decide +kernel
  have := this ⟨j, hj⟩
  have h7 : (strS.getD j []).length ≤ 7 := this
  exact ⟨by omega, by omega⟩
theorem strS_l2 (j : Nat) (hj : j < 6) : (strS.map List.length).getD j 0 = (strS.getD j []).length := by
  have : ∀ j : Fin 6, (strS.map List.length).getD j.val 0 = (strS.getD j.val []).length := by decide +kernel
  exact this ⟨j, hj⟩
section IS
variable {mt : List MDat} {lawq : Bool} {p : Program} {l : Launch} {e : Env} {R : Room} {s : State} {m : MethodId} {args : Array Value} {below : List Frame} {meth : Method} {c : Code} {cells slots : Nat} {Q : State → Prop} {cc : ByteArray} {nL : Nat} {own : String} {ad : Nat → Nat} {G : ClassId × (ClassId × ClassId)} {dC : Nat → ClassId} {dI : Nat → Nat → Nat} {A : Nat → Prop} {sc : Int → Int} {sl : Int} {d : Nat}
theorem is_swA {z : Int} {J : Nat → Prop} : ∀ (ts : List Nat) (lo : Int) (i : Nat) (t : Nat), swA z J lo ts → ts[i]? = some t → z = lo + (i : Int) → J t
  | [], lo, i, t, h, ht, hz => by simp at ht
  | t0 :: ts, lo, 0, t, h, ht, hz => by
    simp at ht
    subst ht
    exact h.1 (by omega)
  | t0 :: ts, lo, i + 1, t, h, ht, hz => is_swA ts (lo + 1) i t h.2 (by simpa using ht) (by omega)
theorem okTs_get {bs : List ABlk} {pc : Int} : ∀ (ts : List Nat) (os : List Int) (i : Nat) (o : Int), okTs bs pc ts os = true → os[i]? = some o → ∃ t, ts[i]? = some t ∧ okT bs t (pc + o) = true
  | [], [], i, o, h, ho => by simp at ho
  | [], _ :: _, i, o, h, ho => by cases h
  | _ :: _, [], i, o, h, ho => by cases h
  | t :: ts, o0 :: os, i, o, h, ho => by
    unfold okTs at h
    rw [Bool.and_eq_true] at h
    cases i with
    | zero => simp at ho; subst ho; exact ⟨t, rfl, h.1⟩
    | succ i =>
      obtain ⟨t', a, b⟩ := okTs_get ts os i o h.2 (by simpa using ho)
      exact ⟨t', by simpa using a, b⟩
theorem is_lkA {bs : List ABlk} {pc : Int} {z : Int} {J : Nat → Prop} {d0 : Nat} {dflt : Int} : ∀ (ps : List (Int × Int)) (ts : List Nat), lkA z J d0 ps ts → okT bs d0 (pc + dflt) = true → okTs bs pc ts (ps.map (fun q => q.2)) = true → ∃ t, J t ∧ okT bs t (pc + Op.lookupswitch.offset ps dflt z) = true
  | [], [], h, hd, ht => ⟨d0, h, hd⟩
  | [], _ :: _, h, hd, ht => by simp [okTs] at ht
  | (a, o) :: ps, [], h, hd, ht => h.elim
  | (a, o) :: ps, t :: ts, h, hd, ht => by
    simp only [List.map_cons, okTs, Bool.and_eq_true] at ht
    by_cases hz : z = a
    · refine ⟨t, h.1 hz, ?_⟩
      have : Op.lookupswitch.offset ((a, o) :: ps) dflt z = o := by
        unfold Op.lookupswitch.offset
        simp [hz]
      rw [this]; exact ht.1
    · have : Op.lookupswitch.offset ((a, o) :: ps) dflt z = Op.lookupswitch.offset ps dflt z := by
        conv => lhs; unfold Op.lookupswitch.offset
        simp [hz, Ne.symm hz]
      rw [this]
      exact is_lkA ps ts (h.2 hz) hd ht.2
/-- what a callee gives -/
def TOK (mt : List MDat) (l : Launch) (d : Nat) (T : AT) : Prop := ∀ (id : Nat) (as : List AV) (h : AH) (K : AK), T id as h K → ∀ q, mt[id]? = some q → (mdS q = true ∨ rcv (mdC q) as) ∧ (hOK h → (∀ v ∈ as, vOK v) → ∀ (ad : Nat → Nat) (G : ClassId × (ClassId × ClassId)) (dC : Nat → ClassId) (dI : Nat → Nat → Nat) (sz : Nat), Met l (mdN q) (wsy q) (rmd d) (va_Pc (as.map (cv ad)) (PB ad G dC dI h sz)) (QQ ad G dC dI K (va_A (wl ad G h) sz)) 0 0 (va_A (wl ad G h) sz))
/-- what a block gives -/
def JOK (p : Program) (l : Launch) (e : Env) (R : Room) (s : State) (m : MethodId) (args : Array Value) (below : List Frame) (meth : Method) (c : Code) (cells slots : Nat) (Q : State → Prop) (nL : Nat) (ad : Nat → Nat) (G : ClassId × (ClassId × ClassId)) (dC : Nat → ClassId) (dI : Nat → Nat → Nat) (A : Nat → Prop) (bs : List ABlk) (J : AJ) : Prop :=
  ∀ (t : Nat) (q : ABlk) (L : LL) (st : List AV) (h : AH) (H : Heap) (locs : List Loc) (ls : Array Slot), bs[t]? = some q → J t L st h → SS s ad G dC dI A nL ls L st h H locs → W p l e R s m args below meth c H locs cells slots Q (F0 m q.1 ls (st.map (cv ad)))
theorem exS_sound {T : AT} {J : AJ} {K : AK} {bs : List ABlk} {rt : Option FieldType} (F : FX lawq p R s m args c cells slots cc nL own ad G dC dI A sc sl d) (hmt : ∀ (id : Nat) (q : MDat), mt[id]? = some q → okM mt q = true) (hT : TOK mt l d T)
    (hJ : JOK p l e R s m args below meth c cells slots Q nL ad G dC dI A bs J)
    (hRet : ∀ (i : Instr) (x : List Nat) (pc : Nat) (r : Option AV) (h : AH) (H : Heap) (locs : List Loc) (ls : Array Slot), decode cc pc = .ok (i, 1) → okI mt lawq nL own bs rt pc i x = true → isRet i x r → K r h → (∀ v, r = some v → vOK v) → hOK h → va_P (dC, dI) vwCl (wl ad G h) H → va_D A (wl ad G h) → va_S A s.heap H locs → W p l e R s m args below meth c H locs cells slots Q (F0 m pc ls (r.toList.map (cv ad))))
    {i : Instr} {x : List Nat} {pc : Nat} {L : LL} {st : List AV} {h : AH} {k : LL → List AV → AH → Prop} {H : Heap} {locs : List Loc} {ls : Array Slot} (hd : okD cc pc i = true) (hok : okI mt lawq nL own bs rt pc i x = true) (S : SS s ad G dC dI A nL ls L st h H locs)
    (hk : ∀ (L' : LL) (st' : List AV) (h' : AH) (H' : Heap) (locs' : List Loc) (ls' : Array Slot), k L' st' h' → SS s ad G dC dI A nL ls' L' st' h' H' locs' → W p l e R s m args below meth c H' locs' cells slots Q (F0 m (pc + ilen i) ls' (st'.map (cv ad))))
    (he : exS sc sl T J K i x L st h k) : W p l e R s m args below meth c H locs cells slots Q (F0 m pc ls (st.map (cv ad))) := by
  have F' := F
  obtain ⟨hx, hb, hml, hown, hts, hK, hXT, hA, hRm, hlaw⟩ := F'
  obtain ⟨sL, sS, sV, sH, sP, sD, sG⟩ := S
  cases i with
  | nop =>
    dsimp only [exS] at he
    split at he
    · next t _ =>
      obtain ⟨q, h1, h2⟩ := okT_pc hok
      have := hJ t q L st h H locs ls h1 he ⟨sL, sS, sV, sH, sP, sD, sG⟩
      rw [show q.1 = pc by omega] at this
      exact this
    · exact he.elim
  | iconst n =>
    simp only [okI, Bool.and_eq_true, decide_eq_true_eq] at hok
    exact lv_iconst hx hb (okD_1 hd) rfl (hk L _ h H locs ls he ⟨sL, vOK_cons ⟨by omega, by omega⟩ sS, sV, sH, sP, sD, sG⟩)
  | bipush n =>
    simp only [okI, Bool.and_eq_true, decide_eq_true_eq] at hok
    exact lv_bipush hx hb (okD_1 hd) (bi_c n hok.1 hok.2) (hk L _ h H locs ls he ⟨sL, vOK_cons ⟨by omega, by omega⟩ sS, sV, sH, sP, sD, sG⟩)
  | sipush n =>
    simp only [okI, Bool.and_eq_true, decide_eq_true_eq] at hok
    exact lv_sipush hx hb (okD_1 hd) (si_c n hok.1 hok.2) (hk L _ h H locs ls he ⟨sL, vOK_cons ⟨by omega, by omega⟩ sS, sV, sH, sP, sD, sG⟩)
  | lconst n =>
    refine lv_lconst hx hb (okD_1 hd) (am_Nat n.val).symm (hk L _ h H locs ls he ⟨sL, vOK_cons ⟨by omega, by omega⟩ sS, sV, sH, sP, sD, sG⟩)
  | iadd =>
    dsimp only [exS] at he
    split at he
    · next y z st =>
      obtain ⟨vy, sS⟩ := vOK_st sS
      obtain ⟨vz, sS⟩ := vOK_st sS
      split at he
      · refine lv_iadd hx hb (okD_1 hd) ?_
        rw [am_add]
        exact hk L _ h H locs ls he.2 ⟨sL, vOK_cons he.1 sS, sV, sH, sP, sD, sG⟩
      · refine lv_iadd hx hb (okD_1 hd) ?_
        rw [am_add, ← am_wrap]
        exact hk L _ h H locs ls he ⟨sL, vOK_cons (am_wrapI _) sS, sV, sH, sP, sD, sG⟩
    · exact he.elim
  | ldc idx =>
    dsimp only [exS] at he
    split at he
    · next a b tl =>
      cases tl with
      | nil => cases hok
      | cons pos tl =>
      simp only [okI, Bool.and_eq_true, decide_eq_true_eq, okW] at hok
      exact lv_ldc hx hb hown (hts _ (tb_mem hok.2.2.1 hok.2.2.2)) (okD_1 hd) (hk L _ h H locs ls he ⟨sL, vOK_cons ⟨by omega, by omega⟩ sS, sV, sH, sP, sD, sG⟩)
    · next q =>
      simp only [okI, Bool.and_eq_true, decide_eq_true_eq] at hok
      obtain ⟨ho, hq, rfl⟩ := hok
      subst ho
      exact va_ldcS hx hb hown (hXT.2.2.2.1 q hq) (okD_1 hd) (hk L _ h H locs ls he ⟨sL, vOK_cons trivial sS, sV, sH, sP, sD, sG⟩)
    · exact he.elim
  | ldc_w idx =>
    dsimp only [exS] at he
    split at he
    · next a b tl =>
      cases tl with
      | nil => cases hok
      | cons pos tl =>
      simp only [okI, Bool.and_eq_true, decide_eq_true_eq, okW] at hok
      exact lv_ldcw hx hb hown (hts _ (tb_mem hok.2.2.1 hok.2.2.2)) (okD_1 hd) (hk L _ h H locs ls he ⟨sL, vOK_cons ⟨by omega, by omega⟩ sS, sV, sH, sP, sD, sG⟩)
    · exact he.elim
  | ldc2_w idx =>
    dsimp only [exS] at he
    split at he
    · next a b tl =>
      cases tl with
      | nil => cases hok
      | cons pos tl =>
      simp only [okI, Bool.and_eq_true, decide_eq_true_eq, okW] at hok
      exact lv_ldc2 hx hb hown (hts _ (tb_mem hok.2.2.1 hok.2.2.2)) (okD_1 hd) (hk L _ h H locs ls he ⟨sL, vOK_cons ⟨by omega, by omega⟩ sS, sV, sH, sP, sD, sG⟩)
    · exact he.elim
  | iload_n n =>
    dsimp only [exS] at he
    obtain ⟨z, hz, he⟩ := lk_0 he
    exact lv_iload_n hx hb (okD_1 hd) rfl (sL.2.2 _ _ hz) (hk L _ h H locs ls he ⟨sL, vOK_cons (sV _ _ hz) sS, sV, sH, sP, sD, sG⟩)
  | iload n =>
    dsimp only [exS] at he
    obtain ⟨z, hz, he⟩ := lk_0 he
    exact lv_iload hx hb (okD_1 hd) (sL.2.2 _ _ hz) (hk L _ h H locs ls he ⟨sL, vOK_cons (sV _ _ hz) sS, sV, sH, sP, sD, sG⟩)
  | lload_n n =>
    dsimp only [exS] at he
    obtain ⟨z, hz, he⟩ := lk_1 he
    exact lv_lload_n hx hb (okD_1 hd) rfl (sL.2.2 _ _ hz) (hk L _ h H locs ls he ⟨sL, vOK_cons (sV _ _ hz) sS, sV, sH, sP, sD, sG⟩)
  | lload n =>
    dsimp only [exS] at he
    obtain ⟨z, hz, he⟩ := lk_1 he
    exact lv_lload hx hb (okD_1 hd) (sL.2.2 _ _ hz) (hk L _ h H locs ls he ⟨sL, vOK_cons (sV _ _ hz) sS, sV, sH, sP, sD, sG⟩)
  | aload_n n =>
    dsimp only [exS] at he
    obtain ⟨z, hz, he⟩ := lk_2 he
    exact lv_aload_n hx hb (okD_1 hd) rfl (sL.2.2 _ _ hz) (hk L _ h H locs ls he ⟨sL, vOK_cons (sV _ _ hz) sS, sV, sH, sP, sD, sG⟩)
  | aload n =>
    dsimp only [exS] at he
    obtain ⟨z, hz, he⟩ := lk_2 he
    exact lv_aload hx hb (okD_1 hd) (sL.2.2 _ _ hz) (hk L _ h H locs ls he ⟨sL, vOK_cons (sV _ _ hz) sS, sV, sH, sP, sD, sG⟩)
  | istore_n n =>
    simp only [okI, decide_eq_true_eq] at hok
    dsimp only [exS] at he
    split at he
    · next z st =>
      obtain ⟨vz, sS⟩ := vOK_st sS
      exact lv_istore_n hx hb (okD_1 hd) rfl sL.has hok rfl (fun ls' hl' => hk _ _ h H locs ls' he ⟨LH.set (ls := ls) hl', sS, LOK.set sV vz, sH, sP, sD, sG⟩)
    · exact he.elim
  | istore n =>
    simp only [okI, decide_eq_true_eq] at hok
    dsimp only [exS] at he
    split at he
    · next z st =>
      obtain ⟨vz, sS⟩ := vOK_st sS
      exact lv_istore hx hb (okD_1 hd) sL.has hok rfl (fun ls' hl' => hk _ _ h H locs ls' he ⟨LH.set (ls := ls) hl', sS, LOK.set sV vz, sH, sP, sD, sG⟩)
    · exact he.elim
  | lstore_n n =>
    simp only [okI, decide_eq_true_eq] at hok
    dsimp only [exS] at he
    split at he
    · next z st =>
      obtain ⟨vz, sS⟩ := vOK_st sS
      exact lv_lstore_n hx hb (okD_1 hd) rfl sL.has hok rfl (fun ls' hl' => hk _ _ h H locs ls' he ⟨LH.set2 (ls := ls) hl', sS, LOK.set2 sV vz, sH, sP, sD, sG⟩)
    · exact he.elim
  | lstore n =>
    simp only [okI, decide_eq_true_eq] at hok
    dsimp only [exS] at he
    split at he
    · next z st =>
      obtain ⟨vz, sS⟩ := vOK_st sS
      exact lv_lstore hx hb (okD_1 hd) sL.has hok rfl (fun ls' hl' => hk _ _ h H locs ls' he ⟨LH.set2 (ls := ls) hl', sS, LOK.set2 sV vz, sH, sP, sD, sG⟩)
    · exact he.elim
  | astore_n n =>
    simp only [okI, decide_eq_true_eq] at hok
    dsimp only [exS] at he
    split at he
    · next z st =>
      obtain ⟨vz, sS⟩ := vOK_st sS
      exact lv_astore_n hx hb (okD_1 hd) rfl sL.has hok rfl (fun ls' hl' => hk _ _ h H locs ls' he ⟨LH.set (ls := ls) hl', sS, LOK.set sV vz, sH, sP, sD, sG⟩)
    · exact he.elim
  | astore n =>
    simp only [okI, decide_eq_true_eq] at hok
    dsimp only [exS] at he
    split at he
    · next z st =>
      obtain ⟨vz, sS⟩ := vOK_st sS
      exact lv_astore hx hb (okD_1 hd) sL.has hok rfl (fun ls' hl' => hk _ _ h H locs ls' he ⟨LH.set (ls := ls) hl', sS, LOK.set sV vz, sH, sP, sD, sG⟩)
    · exact he.elim
  | iinc n c =>
    simp only [okI, decide_eq_true_eq] at hok
    dsimp only [exS] at he
    obtain ⟨z, hz, he⟩ := lk_0 he
    have hm := List.getElem?_of_mem (lvOf_mem (ad := ad) hz)
    obtain ⟨j, hj⟩ := hm
    exact lv_iinc hx hb (okD_1 hd) sL.has hj (am_add _ _) hok rfl (fun ls' hl' => hk _ _ h H locs ls' he.2 ⟨LH.set (ls := ls) (v := .inl (z + c)) hl', sS, LOK.set sV (v := .inl (z + c)) he.1, sH, sP, sD, sG⟩)
  | isub =>
    dsimp only [exS] at he
    split at he
    · next y z st =>
      obtain ⟨vy, sS⟩ := vOK_st sS
      obtain ⟨vz, sS⟩ := vOK_st sS
      refine lv_isub hx hb (okD_1 hd) ?_
      rw [am_sub]
      exact hk L _ h H locs ls he.2 ⟨sL, vOK_cons he.1 sS, sV, sH, sP, sD, sG⟩
    · exact he.elim
  | imul =>
    dsimp only [exS] at he
    split at he
    · next y z st =>
      obtain ⟨vy, sS⟩ := vOK_st sS
      obtain ⟨vz, sS⟩ := vOK_st sS
      split at he
      · refine lv_imul hx hb (okD_1 hd) ?_
        rw [am_mul]
        exact hk L _ h H locs ls he.2 ⟨sL, vOK_cons he.1 sS, sV, sH, sP, sD, sG⟩
      · refine lv_imul hx hb (okD_1 hd) ?_
        rw [am_mul, ← am_wrap]
        exact hk L _ h H locs ls he ⟨sL, vOK_cons (am_wrapI _) sS, sV, sH, sP, sD, sG⟩
    · exact he.elim
  | idiv =>
    dsimp only [exS] at he
    split at he
    · next y z st =>
      obtain ⟨vy, sS⟩ := vOK_st sS
      obtain ⟨vz, sS⟩ := vOK_st sS
      refine lv_idiv hx hb (okD_1 hd) (am_ne0 vy he.2.1) ?_
      rw [am_div vz vy he.1 he.2.1]
      exact hk L _ h H locs ls he.2.2 ⟨sL, vOK_cons (am_divI vz he.1 he.2.1) sS, sV, sH, sP, sD, sG⟩
    · exact he.elim
  | irem =>
    dsimp only [exS] at he
    split at he
    · next y z st =>
      obtain ⟨vy, sS⟩ := vOK_st sS
      obtain ⟨vz, sS⟩ := vOK_st sS
      refine lv_irem hx hb (okD_1 hd) (am_ne0 vy he.2.1) ?_
      rw [am_rem vz vy he.1 he.2.1]
      exact hk L _ h H locs ls he.2.2 ⟨sL, vOK_cons (am_modI vy he.2.1) sS, sV, sH, sP, sD, sG⟩
    · exact he.elim
  | ineg =>
    dsimp only [exS] at he
    split at he
    · next z st =>
      obtain ⟨vz, sS⟩ := vOK_st sS
      refine lv_ineg hx hb (okD_1 hd) ?_
      rw [am_neg]
      exact hk L _ h H locs ls he.2 ⟨sL, vOK_cons he.1 sS, sV, sH, sP, sD, sG⟩
    · exact he.elim
  | iand =>
    dsimp only [exS] at he
    split at he
    · next y z st =>
      obtain ⟨vy, sS⟩ := vOK_st sS
      obtain ⟨vz, sS⟩ := vOK_st sS
      split at he
      · refine lv_iand hx hb (okD_1 hd) ?_
        rw [am_and he.1 he.2.1]
        exact hk L _ h H locs ls he.2.2 ⟨sL, vOK_cons (am_lti (am_bnd _ _ (am_nlt vz he.1) (am_nlt vy he.2.1)).1) sS, sV, sH, sP, sD, sG⟩
      · refine lv_iand hx hb (okD_1 hd) ?_
        rw [he.1, am_mask6]
        exact hk L _ h H locs ls he.2 ⟨sL, vOK_cons ⟨by omega, by omega⟩ sS, sV, sH, sP, sD, sG⟩
      · refine lv_iand hx hb (okD_1 hd) ?_
        rw [he.1, am_mask]
        exact hk L _ h H locs ls he.2 ⟨sL, vOK_cons ⟨by omega, by omega⟩ sS, sV, sH, sP, sD, sG⟩
    · exact he.elim
  | ior =>
    dsimp only [exS] at he
    split at he
    · next y z st =>
      obtain ⟨vy, sS⟩ := vOK_st sS
      obtain ⟨vz, sS⟩ := vOK_st sS
      refine lv_ior hx hb (okD_1 hd) ?_
      rw [am_or he.1 he.2.1]
      exact hk L _ h H locs ls he.2.2 ⟨sL, vOK_cons (am_lti (am_bnd _ _ (am_nlt vz he.1) (am_nlt vy he.2.1)).2.1) sS, sV, sH, sP, sD, sG⟩
    · exact he.elim
  | ixor =>
    dsimp only [exS] at he
    split at he
    · next y z st =>
      obtain ⟨vy, sS⟩ := vOK_st sS
      obtain ⟨vz, sS⟩ := vOK_st sS
      refine lv_ixor hx hb (okD_1 hd) ?_
      rw [am_xor he.1 he.2.1]
      exact hk L _ h H locs ls he.2.2 ⟨sL, vOK_cons (am_lti (am_bnd _ _ (am_nlt vz he.1) (am_nlt vy he.2.1)).2.2) sS, sV, sH, sP, sD, sG⟩
    · exact he.elim
  | ishl =>
    dsimp only [exS] at he
    split at he
    · next y z st =>
      obtain ⟨vy, sS⟩ := vOK_st sS
      obtain ⟨vz, sS⟩ := vOK_st sS
      refine lv_ishl hx hb (okD_1 hd) ?_
      rw [am_shl he.1 he.2.1 he.2.2.1 he.2.2.2.1]
      exact hk L _ h H locs ls he.2.2.2.2 ⟨sL, vOK_cons he.2.2.2.1 sS, sV, sH, sP, sD, sG⟩
    · exact he.elim
  | ishr =>
    dsimp only [exS] at he
    split at he
    · next y z st =>
      obtain ⟨vy, sS⟩ := vOK_st sS
      obtain ⟨vz, sS⟩ := vOK_st sS
      refine lv_ishr hx hb (okD_1 hd) ?_
      rw [am_shr vz he.1 he.2.1 he.2.2.1]
      exact hk L _ h H locs ls he.2.2.2 ⟨sL, vOK_cons (am_shrI vz he.1) sS, sV, sH, sP, sD, sG⟩
    · exact he.elim
  | iushr =>
    dsimp only [exS] at he
    split at he
    · next y z st =>
      obtain ⟨vy, sS⟩ := vOK_st sS
      obtain ⟨vz, sS⟩ := vOK_st sS
      exact lv_iushr hx hb (okD_1 hd) (am_ushr vz he.1 he.2.1 he.2.2.1) (hk L _ h H locs ls he.2.2.2 ⟨sL, vOK_cons (am_shrI vz he.1) sS, sV, sH, sP, sD, sG⟩)
    · exact he.elim
  | lshl =>
    dsimp only [exS] at he
    split at he
    · next y z st =>
      obtain ⟨vy, sS⟩ := vOK_st sS
      obtain ⟨vz, sS⟩ := vOK_st sS
      exact lv_lshl hx hb (okD_1 hd) (am_Shl he.1 he.2.1 he.2.2.1 vz he.2.2.2.1) (hk L _ h H locs ls he.2.2.2.2 ⟨sL, vOK_cons he.2.2.2.1 sS, sV, sH, sP, sD, sG⟩)
    · exact he.elim
  | ladd =>
    dsimp only [exS] at he
    split at he
    · next y z st =>
      obtain ⟨vy, sS⟩ := vOK_st sS
      obtain ⟨vz, sS⟩ := vOK_st sS
      refine lv_ladd hx hb (okD_1 hd) ?_
      rw [am_Add]
      exact hk L _ h H locs ls he.2 ⟨sL, vOK_cons he.1 sS, sV, sH, sP, sD, sG⟩
    · exact he.elim
  | lsub =>
    dsimp only [exS] at he
    split at he
    · next y z st =>
      obtain ⟨vy, sS⟩ := vOK_st sS
      obtain ⟨vz, sS⟩ := vOK_st sS
      refine lv_lsub hx hb (okD_1 hd) ?_
      rw [am_Sub]
      exact hk L _ h H locs ls he.2 ⟨sL, vOK_cons he.1 sS, sV, sH, sP, sD, sG⟩
    · exact he.elim
  | lmul =>
    dsimp only [exS] at he
    split at he
    · next y z st =>
      obtain ⟨vy, sS⟩ := vOK_st sS
      obtain ⟨vz, sS⟩ := vOK_st sS
      refine lv_lmul hx hb (okD_1 hd) ?_
      rw [am_Mul]
      exact hk L _ h H locs ls he.2 ⟨sL, vOK_cons he.1 sS, sV, sH, sP, sD, sG⟩
    · exact he.elim
  | ldiv =>
    dsimp only [exS] at he
    split at he
    · next y z st =>
      obtain ⟨vy, sS⟩ := vOK_st sS
      obtain ⟨vz, sS⟩ := vOK_st sS
      refine lv_ldiv hx hb (okD_1 hd) (am_Ne0 vy he.2.1) ?_
      rw [am_Div vz vy he.1 he.2.1]
      exact hk L _ h H locs ls he.2.2 ⟨sL, vOK_cons (am_DivI vz he.1 he.2.1) sS, sV, sH, sP, sD, sG⟩
    · exact he.elim
  | lrem =>
    dsimp only [exS] at he
    split at he
    · next y z st =>
      obtain ⟨vy, sS⟩ := vOK_st sS
      obtain ⟨vz, sS⟩ := vOK_st sS
      refine lv_lrem hx hb (okD_1 hd) (am_Ne0 vy he.2.1) ?_
      rw [am_Rem vz vy he.1 he.2.1]
      exact hk L _ h H locs ls he.2.2 ⟨sL, vOK_cons (am_ModI vy he.2.1) sS, sV, sH, sP, sD, sG⟩
    · exact he.elim
  | lcmp =>
    dsimp only [exS] at he
    split at he
    · next y z st =>
      obtain ⟨vy, sS⟩ := vOK_st sS
      obtain ⟨vz, sS⟩ := vOK_st sS
      refine W.lcmp hx hb (okD_1 hd) ?_
      rw [am_cmp vz vy]
      exact hk L _ h H locs ls he ⟨sL, vOK_cons (am_lczI _ _) sS, sV, sH, sP, sD, sG⟩
    · exact he.elim
  | i2l =>
    dsimp only [exS] at he
    split at he
    · next z st =>
      obtain ⟨vz, sS⟩ := vOK_st sS
      have vL : inL z := ⟨by have := vz.1; omega, by have := vz.2; omega⟩
      exact lv_i2l hx hb (okD_1 hd) (am_il vz) (hk L _ h H locs ls he ⟨sL, vOK_cons vL sS, sV, sH, sP, sD, sG⟩)
    · exact he.elim
  | l2i =>
    dsimp only [exS] at he
    split at he
    · next z st =>
      obtain ⟨vz, sS⟩ := vOK_st sS
      exact lv_l2i hx hb (okD_1 hd) am_li (hk L _ h H locs ls he.2 ⟨sL, vOK_cons he.1 sS, sV, sH, sP, sD, sG⟩)
    · exact he.elim
  | i2c =>
    dsimp only [exS] at he
    split at he
    · next z st =>
      obtain ⟨vz, sS⟩ := vOK_st sS
      exact lv_i2c hx hb (okD_1 hd) (am_i2c he.1 he.2.1) (hk L _ h H locs ls he.2.2 ⟨sL, vOK_cons vz sS, sV, sH, sP, sD, sG⟩)
    · exact he.elim
  | pop =>
    dsimp only [exS] at he
    split at he
    · next v st =>
      obtain ⟨vz, sS⟩ := vOK_st sS
      exact lv_pop hx hb (okD_1 hd) (by rw [cat_cv]; exact he.1) (hk L _ h H locs ls he.2 ⟨sL, sS, sV, sH, sP, sD, sG⟩)
    · exact he.elim
  | dup =>
    dsimp only [exS] at he
    split at he
    · next v st =>
      obtain ⟨vz, sS'⟩ := vOK_st sS
      exact lv_dup hx hb (okD_1 hd) (by rw [cat_cv]; exact he.1) (hk L _ h H locs ls he.2 ⟨sL, vOK_cons vz sS, sV, sH, sP, sD, sG⟩)
    · exact he.elim
  | dup2 =>
    dsimp only [exS] at he
    split at he
    · next v w st =>
      obtain ⟨vz, sS'⟩ := vOK_st sS
      obtain ⟨vw, sS''⟩ := vOK_st sS'
      exact lv_dup2_11 hx hb (okD_1 hd) (by rw [cat_cv]; exact he.1) (by rw [cat_cv]; exact he.2.1) (hk L _ h H locs ls he.2.2 ⟨sL, vOK_cons vz (vOK_cons vw sS), sV, sH, sP, sD, sG⟩)
    · exact he.elim
  | dup_x1 =>
    dsimp only [exS] at he
    split at he
    · next v w st =>
      obtain ⟨vz, sS'⟩ := vOK_st sS
      exact lv_dup_x1 hx hb (okD_1 hd) (by rw [cat_cv]; exact he.1) (by rw [cat_cv]; exact he.2.1) (hk L _ h H locs ls he.2.2 ⟨sL, vOK_cons vz (vOK_cons (vOK_st sS').1 (vOK_cons vz (vOK_st sS').2)), sV, sH, sP, sD, sG⟩)
    · exact he.elim
  | if_icmp cd off =>
    dsimp only [exS] at he
    split at he
    · next t tl y z st =>
      obtain ⟨vy, sS⟩ := vOK_st sS
      obtain ⟨vz, sS⟩ := vOK_st sS
      obtain ⟨q, h1, h2⟩ := okT_pc hok
      exact is_cmp F vz vy (okD_1 hd) h2.symm (fun hc => hJ t q L st h H locs ls h1 (he.1 hc) ⟨sL, sS, sV, sH, sP, sD, sG⟩) (fun hc => hk L st h H locs ls (he.2 hc) ⟨sL, sS, sV, sH, sP, sD, sG⟩)
    · exact he.elim
  | ifCond cd off =>
    dsimp only [exS] at he
    split at he
    · next t tl z st =>
      obtain ⟨vz, sS⟩ := vOK_st sS
      obtain ⟨q, h1, h2⟩ := okT_pc hok
      exact is_if F vz (okD_1 hd) h2.symm (fun hc => hJ t q L st h H locs ls h1 (he.1 hc) ⟨sL, sS, sV, sH, sP, sD, sG⟩) (fun hc => hk L st h H locs ls (he.2 hc) ⟨sL, sS, sV, sH, sP, sD, sG⟩)
    · exact he.elim
  | goto off =>
    dsimp only [exS] at he
    split at he
    · next t tl =>
      obtain ⟨q, h1, h2⟩ := okT_pc hok
      exact lv_goto hx hb (okD_1 hd) h2.symm (hJ t q L st h H locs ls h1 he ⟨sL, sS, sV, sH, sP, sD, sG⟩)
    · exact he.elim
  | tableswitch df lo hi offs =>
    dsimp only [exS] at he
    have hdd : ∃ len, decode cc pc = .ok (.tableswitch df lo hi offs, len) := by
      dsimp only [okD] at hd
      split at hd
      · next i' n' hq => simp only [decide_eq_true_eq] at hd; exact ⟨n', by rw [hq, hd]⟩
      · cases hd
    obtain ⟨len, hdd⟩ := hdd
    split at he
    · next t ts z st =>
      obtain ⟨vz, sS⟩ := vOK_st sS
      simp only [okI, Bool.and_eq_true, decide_eq_true_eq] at hok
      obtain ⟨o1, o2, o3⟩ := hok
      by_cases hz : z < lo ∨ hi < z
      · obtain ⟨q, h1, h2⟩ := okT_pc o1
        exact lv_tableOut hx hb hdd (by rw [am_t vz]; exact hz) h2.symm (hJ t q L st h H locs ls h1 (he.1 hz) ⟨sL, sS, sV, sH, sP, sD, sG⟩)
      · have hlen : (z - lo).toNat < offs.toList.length := by omega
        obtain ⟨o, ho⟩ : ∃ o, offs.toList[(z - lo).toNat]? = some o := ⟨_, List.getElem?_eq_getElem hlen⟩
        obtain ⟨t', ht', hpt⟩ := okTs_get ts offs.toList (z - lo).toNat o o2 ho
        obtain ⟨q, h1, h2⟩ := okT_pc hpt
        exact lv_tableIn hx hb hdd (by rw [am_t vz]; omega) (by rw [am_t vz]; omega) (by rw [am_t vz, ← Array.getElem?_toList]; exact ho) h2.symm (hJ t' q L st h H locs ls h1 (is_swA ts lo _ t' he.2 ht' (by omega)) ⟨sL, sS, sV, sH, sP, sD, sG⟩)
    · exact he.elim
  | lookupswitch df ps =>
    dsimp only [exS] at he
    have hdd : ∃ len, decode cc pc = .ok (.lookupswitch df ps, len) := by
      dsimp only [okD] at hd
      split at hd
      · next i' n' hq => simp only [decide_eq_true_eq] at hd; exact ⟨n', by rw [hq, hd]⟩
      · cases hd
    obtain ⟨len, hdd⟩ := hdd
    split at he
    · next t ts z st =>
      obtain ⟨vz, sS⟩ := vOK_st sS
      simp only [okI, Bool.and_eq_true] at hok
      obtain ⟨o1, o2, o3, o4⟩ := hok
      obtain ⟨t', hj, hpt⟩ := is_lkA ps.toList ts he o1 o2
      obtain ⟨q, h1, h2⟩ := okT_pc hpt
      exact lv_lookup hx hb hdd o3 (by rw [am_t vz]) h2.symm (hJ t' q L st h H locs ls h1 hj ⟨sL, sS, sV, sH, sP, sD, sG⟩)
    · exact he.elim
  | getstatic idx =>
    dsimp only [exS] at he
    split at he
    · next tl =>
      cases tl with
      | nil => cases hok
      | cons pos tl =>
      simp only [okI, Bool.and_eq_true, decide_eq_true_eq, okW] at hok
      exact va_gets hx hb hXT.2.1 sG hown (hts _ (tb_mem hok.1 hok.2)) (fun _ h9 => h9) (okD_1 hd) (hk L (.inl 1 :: st) h H locs ls he ⟨sL, vOK_cons ⟨by omega, by omega⟩ sS, sV, sH, sP, sD, sG⟩)
    · next tl =>
      cases tl with
      | nil => cases hok
      | cons pos tl =>
      simp only [okI, Bool.and_eq_true, decide_eq_true_eq, okW] at hok
      rcases hXT.2.2.1 with hz | hz
      · exact va_gets hx hb hz sG hown (hts _ (tb_mem hok.1 hok.2)) (fun _ h9 => h9) (okD_1 hd) (hk L (.inr (.inr none) :: st) h H locs ls he.2 ⟨sL, vOK_cons trivial sS, sV, sH, sP, sD, sG⟩)
      · exact va_gets hx hb hz sG hown (hts _ (tb_mem hok.1 hok.2)) (fun _ h9 => h9) (okD_1 hd) (hk L (.inr (.inr (some 240)) :: st) h H locs ls he.1 ⟨sL, vOK_cons trivial sS, sV, sH, sP, sD, sG⟩)
    · exact he.elim
  | getfield idx =>
    dsimp only [exS] at he
    split at he
    · next cl j tl a st =>
      obtain ⟨-, sS⟩ := vOK_st sS
      cases tl with
      | nil => cases hok
      | cons nest tl =>
      cases tl with
      | nil => cases hok
      | cons pos tl =>
      simp only [okI, Bool.and_eq_true, decide_eq_true_eq] at hok
      refine is_get (locs := locs) F sP he.1 hok.1 (okD_1 hd) ?_
      have e : fv ad h a cl j = cv ad (.inl (h.1 a (j : Int))) := by
        unfold fv
        split
        · rfl
        · next o ho => rw [ho] at hok; simp at hok
        · next h0 h1 => exact absurd (show fdK cl j = (0, (fdK cl j).2) from by rw [← hok.2]) (h0 _)
      rw [e]
      exact hk L _ h H locs ls he.2 ⟨sL, vOK_cons (sH.1 _ _) sS, sV, sH, sP, sD, sG⟩
    · next cl j o tl a st =>
      obtain ⟨-, sS⟩ := vOK_st sS
      cases tl with
      | nil => cases hok
      | cons nest tl =>
      cases tl with
      | nil => cases hok
      | cons pos tl =>
      simp only [okI] at hok
      split at hok
      · next hc20 =>
        subst hc20
        simp only [Bool.and_eq_true, decide_eq_true_eq, okW] at hok
        obtain ⟨ho, hw1, hw2⟩ := hok
        subst ho
        obtain ⟨i, hi, rfl⟩ := sh20 he.1
        refine vk_getf hx hb (hXT.1.1 i hi).2.2.1 sG hown (hts _ (tb_mem hw1 hw2)) (fun _ h9 => h9) (okD_1 hd) ?_
        have := hk L _ h H locs ls he.2 ⟨sL, vOK_cons trivial (vOK_st sS).2, sV, sH, sP, sD, sG⟩
        rw [show 200 + i + 20 = 220 + i by omega] at this
        exact this
      · simp only [Bool.and_eq_true, decide_eq_true_eq] at hok
        refine is_get (locs := locs) F sP he.1 hok.1 (okD_1 hd) ?_
        have e : fv ad h a cl j = cv ad (.inr (.inr (some (a + o)))) := by
          unfold fv
          rw [hok.2]
          rfl
        rw [e]
        exact hk L _ h H locs ls he.2 ⟨sL, vOK_cons trivial sS, sV, sH, sP, sD, sG⟩
    · next cl j tl a st =>
      obtain ⟨-, sS⟩ := vOK_st sS
      cases tl with
      | nil => cases hok
      | cons nest tl =>
      cases tl with
      | nil => cases hok
      | cons pos tl =>
      simp only [okI, Bool.and_eq_true, decide_eq_true_eq] at hok
      refine is_get (locs := locs) F sP he.1 hok.1 (okD_1 hd) ?_
      obtain ⟨hs, b, hb2, he⟩ := he
      have e : fv ad h a cl j = cv ad (.inr (.inr (some b))) := by
        unfold fv
        split
        · next o ho => rw [ho] at hok; simp at hok
        · next o ho => rw [ho] at hok; simp at hok
        · rw [hb2]
      rw [e]
      exact hk L _ h H locs ls he ⟨sL, vOK_cons trivial sS, sV, sH, sP, sD, sG⟩
    · next tl a st =>
      obtain ⟨-, sS⟩ := vOK_st sS
      cases tl with
      | nil => cases hok
      | cons pos tl =>
      simp only [okI, okW, Bool.and_eq_true, decide_eq_true_eq] at hok
      obtain ⟨i, hi, rfl⟩ := sh20 he.1
      exact vk_getf hx hb (hXT.1.1 i hi).2.1 sG hown (hts _ (tb_mem hok.1 hok.2)) (fun _ h9 => h9) (okD_1 hd) (hk L _ h H locs ls he.2 ⟨sL, vOK_cons ⟨by omega, by omega⟩ (vOK_st sS).2, sV, sH, sP, sD, sG⟩)
    · exact he.elim
  | putfield idx =>
    dsimp only [exS] at he
    split at he
    · next cl j tl z a st =>
      obtain ⟨vz, sS⟩ := vOK_st sS
      obtain ⟨-, sS⟩ := vOK_st sS
      cases tl with
      | nil => cases hok
      | cons nest tl =>
      cases tl with
      | nil => cases hok
      | cons pos tl =>
      simp only [okI, Bool.and_eq_true, decide_eq_true_eq] at hok
      exact is_put F sP sD sG he.1 hok.1 hok.2.2 rfl rfl (fun hc => wl_upI he.1 hc hok.2.1) (okD_1 hd) (fun H1 locs1 a1 a2 a3 => hk L st _ H1 locs1 ls he.2 ⟨sL, sS, sV, sH.upI vz _ _, a1, a2, a3⟩)
    · next cl j tl b a st =>
      obtain ⟨vz, sS⟩ := vOK_st sS
      obtain ⟨-, sS⟩ := vOK_st sS
      cases tl with
      | nil => cases hok
      | cons nest tl =>
      cases tl with
      | nil => cases hok
      | cons pos tl =>
      simp only [okI, Bool.and_eq_true, decide_eq_true_eq] at hok
      exact is_put F sP sD sG he.1 hok.1 hok.2.2 rfl rfl (fun hc => wl_upR he.1 hc hok.2.1) (okD_1 hd) (fun H1 locs1 a1 a2 a3 => hk L st _ H1 locs1 ls he.2.2 ⟨sL, sS, sV, sH.upR _ _ _, a1, a2, a3⟩)
    · next cl j tl z a st =>
      obtain ⟨vz, sS⟩ := vOK_st sS
      obtain ⟨-, sS⟩ := vOK_st sS
      cases tl with
      | nil => cases hok
      | cons nest tl =>
      cases tl with
      | nil => cases hok
      | cons pos tl =>
      simp only [okI, Bool.and_eq_true, decide_eq_true_eq] at hok
      exact is_put F sP sD sG he.1 hok.1 hok.2.2 (am_bool he.2.1) (by rcases he.2.1 with rfl | rfl <;> rfl) (fun hc => wl_upI he.1 hc hok.2.1) (okD_1 hd) (fun H1 locs1 a1 a2 a3 => hk L st _ H1 locs1 ls he.2.2 ⟨sL, sS, sV, sH.upI vz _ _, a1, a2, a3⟩)
    · exact he.elim
  | iaload =>
    dsimp only [exS] at he
    split at he
    · next i a st =>
      obtain ⟨vi, sS⟩ := vOK_st sS
      obtain ⟨-, sS⟩ := vOK_st sS
      have hget := wl_get (ad := ad) (G := G) (h := h) (shA_lt he.1 (by decide))
      rw [cell10 he.1] at hget
      refine va_iald hx hb hK sP a 0 hget rfl (vp_inO vi he.2.1 he.2.2.1) (okD_1 hd) ?_
      rw [rd_eq (f := h.1) he.2.1 vi]
      exact hk L _ h H locs ls he.2.2.2 ⟨sL, vOK_cons (sH.1 _ _) sS, sV, sH, sP, sD, sG⟩
    · next i a st hne =>
      obtain ⟨vi, sS⟩ := vOK_st sS
      obtain ⟨-, sS⟩ := vOK_st sS
      have hq : lawq = true := by
        simp only [okI, Bool.or_eq_true, decide_eq_true_eq] at hok
        rcases hok with q | q
        · exact absurd q hne
        · exact q
      obtain ⟨Ln, xs, hX, hbl, hbA, hsl, hL2, hxs⟩ := hlaw hq
      obtain rfl := sh14 he.1
      have hi : i = ((i.toNat : Nat) : Int) := by omega
      have hlt : i.toNat < Ln := by omega
      refine va_sld hx hb hX hbl hbA sG (vp_inO vi he.2.1 (by omega)) (okD_1 hd) ?_
      rw [tn_clamp vi, (hxs _ hlt).2, ← hi]
      exact hk L _ h H locs ls he.2.2.2 ⟨sL, vOK_cons (by have := (hxs _ hlt).1; rw [← hi] at this; exact this) (vOK_st sS).2, sV, sH, sP, sD, sG⟩
    · exact he.elim
  | iastore =>
    dsimp only [exS] at he
    split at he
    · next z i a st =>
      obtain ⟨vz, sS⟩ := vOK_st sS
      obtain ⟨vi, sS⟩ := vOK_st sS
      obtain ⟨-, sS⟩ := vOK_st sS
      have hget := wl_get (ad := ad) (G := G) (h := h) (shA_lt he.1 (by decide))
      rw [cell10 he.1] at hget
      refine va_iast hx hb hK sP sD sG a 0 hget rfl (vp_inO vi he.2.1 he.2.2.1) (okD_1 hd) (fun H1 locs1 a1 a2 a3 => ?_)
      rw [wl_ai he.1 he.2.1 vi] at a1 a2
      exact hk L st _ H1 locs1 ls he.2.2.2 ⟨sL, sS, sV, sH.upI vz _ _, a1, a2, a3⟩
    · exact he.elim
  | laload =>
    dsimp only [exS] at he
    split at he
    · next i a st =>
      obtain ⟨vi, sS⟩ := vOK_st sS
      obtain ⟨-, sS⟩ := vOK_st sS
      have hget := wl_get (ad := ad) (G := G) (h := h) (shA_lt he.1 (by decide))
      rw [cell11 he.1] at hget
      refine va_lald hx hb hK sP a 1 hget rfl (vp_inO vi he.2.1 he.2.2.1) (okD_1 hd) ?_
      rw [rd_eq (f := h.2.1) he.2.1 vi]
      exact hk L _ h H locs ls he.2.2.2 ⟨sL, vOK_cons (sH.2 _ _) sS, sV, sH, sP, sD, sG⟩
    · exact he.elim
  | lastore =>
    dsimp only [exS] at he
    split at he
    · next z i a st =>
      obtain ⟨vz, sS⟩ := vOK_st sS
      obtain ⟨vi, sS⟩ := vOK_st sS
      obtain ⟨-, sS⟩ := vOK_st sS
      have hget := wl_get (ad := ad) (G := G) (h := h) (shA_lt he.1 (by decide))
      rw [cell11 he.1] at hget
      refine va_last hx hb hK sP sD sG a 1 hget rfl (vp_inO vi he.2.1 he.2.2.1) (okD_1 hd) (fun H1 locs1 a1 a2 a3 => ?_)
      rw [wl_al he.1 he.2.1 vi] at a1 a2
      exact hk L st _ H1 locs1 ls he.2.2.2 ⟨sL, sS, sV, sH.upL vz _ _, a1, a2, a3⟩
    · exact he.elim
  | baload =>
    dsimp only [exS] at he
    split at he
    · next i a st =>
      obtain ⟨vi, sS⟩ := vOK_st sS
      obtain ⟨-, sS⟩ := vOK_st sS
      have hget := wl_get (ad := ad) (G := G) (h := h) (shA_lt he.1 (by decide))
      rw [cell12 he.1] at hget
      refine va_zald hx hb hK sP a 2 hget rfl (vp_inO vi he.2.1 he.2.2.1) (okD_1 hd) ?_
      rw [rd_eq (f := h.1) he.2.1 vi]
      exact hk L _ h H locs ls he.2.2.2 ⟨sL, vOK_cons (sH.1 _ _) sS, sV, sH, sP, sD, sG⟩
    · next i a st hne =>
      obtain ⟨vi, sS⟩ := vOK_st sS
      obtain ⟨-, sS⟩ := vOK_st sS
      obtain ⟨j, hj, rfl, hln⟩ := sh13 he.1
      have hlt : i.toNat < (strS.getD j []).length := by omega
      obtain ⟨b1, b2, b3⟩ := strS_ok j hj i.toNat hlt
      refine va_tb hx hb (hXT.1.1 j hj).2.2.2 sG (vp_inO vi he.2.1 (by rw [b1]; omega)) (v := .int (Int32.ofInt ((strS.getD (220 + j - 220) []).getD i.toNat 0))) ?_ (okD_1 hd) ?_
      · rw [tn_clamp vi, Nat.add_sub_cancel_left]
        exact congrArg Value.int b2
      · exact hk L _ h H locs ls he.2.2.2 ⟨sL, vOK_cons (by rw [Nat.add_sub_cancel_left]; exact b3) (vOK_st sS).2, sV, sH, sP, sD, sG⟩
    · exact he.elim
  | bastore =>
    dsimp only [exS] at he
    split at he
    · next z i a st =>
      obtain ⟨vz, sS⟩ := vOK_st sS
      obtain ⟨vi, sS⟩ := vOK_st sS
      obtain ⟨-, sS⟩ := vOK_st sS
      have hget := wl_get (ad := ad) (G := G) (h := h) (shA_lt he.1 (by decide))
      rw [cell12 he.1] at hget
      refine va_zast hx hb hK sP sD sG a 2 hget rfl (vp_inO vi he.2.1 he.2.2.1) (okD_1 hd) (fun H1 locs1 a1 a2 a3 => ?_)
      rw [show vp_nar .boolean (Int32.ofInt z) = Int32.ofInt z by rcases he.2.2.2.1 with rfl | rfl <;> rfl, wl_az he.1 he.2.1 vi] at a1 a2
      exact hk L st _ H1 locs1 ls he.2.2.2.2 ⟨sL, sS, sV, sH.upI vz _ _, a1, a2, a3⟩
    · exact he.elim
  | arraylength =>
    dsimp only [exS] at he
    split at he
    · next a st =>
      obtain ⟨-, sS⟩ := vOK_st sS
      obtain ⟨j, hj, rfl, hln⟩ := sh13 he.1
      refine va_tlen hx hb (hXT.1.1 j hj).2.2.2 sG (v := Int32.ofInt ((shA (220 + j)).2 : Int)) ?_ (okD_1 hd) (hk L (.inl ((shA (220 + j)).2 : Int) :: st) h H locs ls he.2 ⟨sL, vOK_cons (by rw [hln]; exact strS_len j hj) (vOK_st sS).2, sV, sH, sP, sD, sG⟩)
      rw [hln, ← strS_l2 j hj]
      exact (am_nat _).symm
    · next a st hne =>
      obtain ⟨-, sS⟩ := vOK_st sS
      have hq : lawq = true := by
        simp only [okI, Bool.or_eq_true, decide_eq_true_eq] at hok
        rcases hok with q | q
        · exact absurd q hne
        · exact q
      obtain ⟨Ln, xs, hX, hbl, hbA, hsl, hL2, hxs⟩ := hlaw hq
      obtain rfl := sh14 he.1
      subst hsl
      refine va_slen hx hb hX hbl hbA sG (okD_1 hd) ?_
      have := hk L (.inl (Ln : Int) :: st) h H locs ls he.2 ⟨sL, vOK_cons (am_lti hL2) (vOK_st sS).2, sV, sH, sP, sD, sG⟩
      rw [List.map_cons, show cv ad (.inl (Ln : Int)) = .int (Int32.ofNat Ln) from congrArg Value.int (am_nat Ln)] at this
      exact this
    · exact he.elim
  | ireturn =>
    dsimp only [exS] at he
    split at he
    · next z =>
      exact hRet .ireturn [] pc (some (.inl z)) h H locs ls (okD_1 hd) hok (Or.inl rfl) he (fun v hv => by cases hv; exact (vOK_st sS).1) sH sP sD sG
    · next z =>
      exact hRet .ireturn [1] pc (some (.inl z)) h H locs ls (okD_1 hd) hok (Or.inr (Or.inl ⟨rfl, he.1⟩)) he.2 (fun v hv => by cases hv; exact (vOK_st sS).1) sH sP sD sG
    · next z =>
      exact hRet .ireturn [2] pc (some (.inl z)) h H locs ls (okD_1 hd) hok (Or.inr (Or.inr (Or.inl ⟨rfl, he.1⟩))) he.2 (fun v hv => by cases hv; exact (vOK_st sS).1) sH sP sD sG
    · next z =>
      exact hRet .ireturn [3] pc (some (.inl z)) h H locs ls (okD_1 hd) hok (Or.inr (Or.inr (Or.inr ⟨rfl, he.1⟩))) he.2 (fun v hv => by cases hv; exact (vOK_st sS).1) sH sP sD sG
    · exact he.elim
  | lreturn =>
    dsimp only [exS] at he
    split at he
    · next z =>
      exact hRet .lreturn x pc (some (.inr (.inl z))) h H locs ls (okD_1 hd) hok trivial he (fun v hv => by cases hv; exact (vOK_st sS).1) sH sP sD sG
    · exact he.elim
  | areturn =>
    dsimp only [exS] at he
    split at he
    · next z =>
      exact hRet .areturn x pc (some (.inr (.inr (some z)))) h H locs ls (okD_1 hd) hok trivial he (fun v hv => by cases hv; trivial) sH sP sD sG
    · exact he.elim
  | return_ =>
    dsimp only [exS] at he
    split at he
    · exact hRet .return_ x pc none h H locs ls (okD_1 hd) hok trivial he (fun v hv => by cases hv) sH sP sD sG
    · exact he.elim
  | invokestatic idx =>
    dsimp only [exS] at he
    have hls : c.maxLocals = ls.size := by rw [hml, sL.1]
    split at he
    · next pos y z st =>
      obtain ⟨vy, sS⟩ := vOK_st sS
      obtain ⟨vz, sS⟩ := vOK_st sS
      simp only [okI, okW, Bool.and_eq_true, decide_eq_true_eq] at hok
      refine va_mmax hx hb hls hown (hts _ (tb_mem hok.1 hok.2)) (hts _ mx_t1.1) (hts _ mx_t1.2.2.1) (hts _ mx_cmax) (by omega) (by rw [catS_eq]; have := he.1; omega) hRm.2.2.1 hRm.2.2.2 (okD_1 hd) ?_
      have e : (if Int32.ofInt z < Int32.ofInt y then Int32.ofInt y else Int32.ofInt z) = Int32.ofInt (max z y) := by
        by_cases hq : z < y
        · rw [if_pos ((am_lt vz vy).mpr hq), Int.max_eq_right (by omega)]
        · rw [if_neg (fun q => hq ((am_lt vz vy).mp q)), Int.max_eq_left (by omega)]
      rw [e]
      exact hk L _ h H locs ls he.2 ⟨sL, vOK_cons ⟨by have := vz.1; omega, by have := vz.2; have := vy.2; omega⟩ sS, sV, sH, sP, sD, sG⟩
    · next pos y z st =>
      obtain ⟨vy, sS⟩ := vOK_st sS
      obtain ⟨vz, sS⟩ := vOK_st sS
      simp only [okI, okW, Bool.and_eq_true, decide_eq_true_eq] at hok
      refine va_mmin hx hb hls hown (hts _ (tb_mem hok.1 hok.2)) (hts _ mx_t1.2.1) (hts _ mx_t1.2.2.1) (hts _ mx_cmin) (by omega) (by rw [catS_eq]; have := he.1; omega) hRm.2.2.1 hRm.2.2.2 (okD_1 hd) ?_
      have e : (if Int32.ofInt y < Int32.ofInt z then Int32.ofInt y else Int32.ofInt z) = Int32.ofInt (min z y) := by
        by_cases hq : y < z
        · rw [if_pos ((am_lt vy vz).mpr hq), Int.min_eq_right (by omega)]
        · rw [if_neg (fun q => hq ((am_lt vy vz).mp q)), Int.min_eq_left (by omega)]
      rw [e]
      exact hk L _ h H locs ls he.2 ⟨sL, vOK_cons ⟨by have := vz.1; have := vy.1; omega, by have := vz.2; omega⟩ sS, sV, sH, sP, sD, sG⟩
    · next pos n dp b sp a st =>
      obtain ⟨vn, sS⟩ := vOK_st sS
      obtain ⟨vd, sS⟩ := vOK_st sS
      obtain ⟨-, sS⟩ := vOK_st sS
      obtain ⟨vs, sS⟩ := vOK_st sS
      obtain ⟨-, sS⟩ := vOK_st sS
      simp only [okI, okW, Bool.and_eq_true, decide_eq_true_eq] at hok
      obtain ⟨e1, e2, e3, e4, e5, e6, e7, e8, he⟩ := he
      have hga := wl_get (ad := ad) (G := G) (h := h) (shA_lt e2 (by decide))
      rw [cell10 e2] at hga
      have hgb := wl_get (ad := ad) (G := G) (h := h) (shA_lt e3 (by decide))
      rw [cell10 e3] at hgb
      have hnn : ∀ {z : Int}, inI z → 0 ≤ z → ¬ Int32.ofInt z < 0 := fun {z} v0 h0 q => by
        have := (am_lt v0 (⟨by omega, by omega⟩ : inI 0)).mp q
        omega
      refine va_copyi hx hb hls hown (hts _ (tb_mem hok.1 hok.2)) (hts _ mx_t1.2.2.2.1) (hts _ mx_t1.2.2.2.2.1) (hts _ mx_t1.2.2.2.2.2) hK sP sD sG a b 0 0 (ty := .int) hga hgb rfl rfl rfl (hnn vs e5) (hnn vd e7) (hnn vn e4) (by rw [tn_clamp vs, tn_clamp vn]; omega) (by rw [tn_clamp vd, tn_clamp vn]; omega) (fun i hi => rfl) (by omega) (by rw [catS_eq]; have := nfw; omega) (okD_1 hd) (fun H1 locs1 a1 a2 a3 => ?_)
      rw [tn_clamp vs, tn_clamp vd, tn_clamp vn, wl_cp e3 e5 e7 e4] at a1 a2
      exact hk L st _ H1 locs1 ls he ⟨sL, sS, sV, sH.cpI _ _ _ _ _, a1, a2, a3⟩
    · next id n w tl =>
      split at he
      · next as st' hp =>
        obtain ⟨hl, rfl⟩ := popA_0 hp
        cases tl with
        | nil =>
          exfalso
          simp [okI] at hok
        | cons pos tl =>
        have hok2 : (match mt[id]? with
          | some md => mdS md && (decide (n = mdP md) && okL own idx w pos (mdN md))
          | none => false) = true := by rcases id with _ | _ | _ | id <;> exact hok
        split at hok2
        · next q hq =>
          simp only [Bool.and_eq_true, decide_eq_true_eq] at hok2
          obtain ⟨o1, o2, o3⟩ := hok2
          have hM := (hT id as h _ he.2 q hq).2 sH (fun v hv => sS v (List.mem_append_left _ (List.mem_reverse.mpr hv))) ad G dC dI H.size
          exact is_back sD sG hA (is_callS F (hmt id q hq) o1 (by rw [hl]; exact o2) o3 hM sP sD sG sL.1 he.1 (okD_1 hd)) (fun r h' H1 locs1 b1 b2 b3 b4 b5 b6 => by
            have := hk L _ h' H1 locs1 ls b1 ⟨sL, by
              cases r with
              | none => exact fun v hv => sS v (List.mem_append_right _ hv)
              | some v => exact vOK_cons (b3 v rfl) (fun v hv => sS v (List.mem_append_right _ hv)), sV, b2, b4, b5, b6⟩
            cases r <;> exact this)
        · cases hok2
      · exact he.elim
    · exact he.elim
  | invokevirtual idx =>
    dsimp only [exS] at he
    split at he
    · next id n tl =>
      split at he
      · next as st' hp =>
        obtain ⟨hl, rfl⟩ := popA_0 hp
        cases tl with
        | nil => cases hok
        | cons w tl =>
        cases tl with
        | nil => cases hok
        | cons pos tl =>
        have hok2 : (match mt[id]? with
          | some md => !mdS md && (decide (n = mdP md + 1) && okL own idx w pos (mdN md))
          | none => false) = true := hok
        split at hok2
        · next q hq =>
          simp only [Bool.and_eq_true, decide_eq_true_eq, Bool.not_eq_true'] at hok2
          obtain ⟨o1, o2, o3⟩ := hok2
          obtain ⟨hrc, hM⟩ := hT id as h _ he.2 q hq
          have hM := hM sH (fun v hv => sS v (List.mem_append_left _ (List.mem_reverse.mpr hv))) ad G dC dI H.size
          have hrc : rcv (mdC q) as := by
            rcases hrc with z | z
            · rw [o1] at z; cases z
            · exact z
          exact is_back sD sG hA (is_callV F (hmt id q hq) o1 hrc (by rw [hl]; exact o2) o3 hM sP sD sG sL.1 he.1 (okD_1 hd)) (fun r h' H1 locs1 b1 b2 b3 b4 b5 b6 => by
            have := hk L _ h' H1 locs1 ls b1 ⟨sL, by
              cases r with
              | none => exact fun v hv => sS v (List.mem_append_right _ hv)
              | some v => exact vOK_cons (b3 v rfl) (fun v hv => sS v (List.mem_append_right _ hv)), sV, b2, b4, b5, b6⟩
            cases r <;> exact this)
        · cases hok2
      · exact he.elim
    · exact he.elim
  | _ => exact he.elim
end IS
