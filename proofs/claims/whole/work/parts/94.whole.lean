/-! THE CLAIM OUT OF ONE WALK OF THE LAW'S BODY. Your part is whole_start (and what it stands on); all else here is the same for every law, but numbers. -/
def lw_P (b : Addr) (xs : List Int32) (args : Array Value) (s : State) : Prop := args = #[.ref b] ∧ s.IntsAt b xs ∧ xs.length ≤ 3584 ∧ (Jvm.Cond.and given_1 narrow_1).before args s = true
def lw_Q (_ : Array Value) (s : State) (o : Outcome) (t : State) : Prop := o = .returned (some (.int 1)) ∧ Framed s o t [] 600000 7302250
def lw_Z (below : List Frame) (a : Array Value) (s : State) : State → Prop := fun t => ∃ o, t.status = .running ∧ Ended t below o ∧ lw_Q a s o t
/-- the law's own end, with 1 on the stack, nothing written that was there before, its room as the claim has it -/
theorem lw_ret {p : Program} {l : Launch} {e : Env} {s : State} {m : MethodId} {below : List Frame} {meth : Method} {c : Code} {b : Nat} (hx : p.tables.exec = Jvm.exec) (hb : c.code = code) (hr : meth.sig.returnType = ret) (hlocks : meth.locks = false) {pc : Nat} {H : Heap} {ls : Array Slot} (hdg : decode code pc = .ok (.ireturn, 1)) : W p l e room_1 s m #[Value.ref b] below meth c H [] 600000 7302250 (lw_Z below #[Value.ref b] s) (F0 m pc ls [.int 1]) := by
  intro T hT X
  obtain ⟨fs, hret, hrun, hended, hW, hframe⟩ := X.leave (v := some (.int 1)) (hlocks := hlocks) (fun h => by rw [hr] at h; cases h)
  have hmeth' : T.vm.method? m = some meth := X.method'
  refine ⟨T.setFrames fs, ?_, .returned (some (.int 1)), hrun, hended, rfl, ⟨_, rfl⟩, hW, hframe⟩
  jvm_step X.here [X.here.top, hx, hb, hdg, hmeth', hr, ret, narrow_b1]
  (try refine ⟨rfl, ?_⟩); (try refine ⟨rfl, ?_⟩)
  first | (intro acts; rw [hret _ acts rfl rfl rfl]) | rw [hret _ _ rfl rfl rfl]
  exact Steps.refl _
/-- what holds at the law's entry: the machine, the code, the tables' words (any of lw_tbl by 'hts w (by decide +kernel)'), the script of L ints xs at the cell b, what the Statement gives of the start (any of its parts by flat_of_before) -/
def lw_At (p : Program) (s : State) (m : MethodId) (meth : Method) (c : Code) (b L : Nat) (xs : Nat → Int32) : Prop :=
  p.tables.exec = Jvm.exec ∧ c.code = code ∧ meth.sig.returnType = ret ∧ c.maxLocals = 4 ∧ s.vm.findClass R_law = some m.cls ∧ (∀ w ∈ lw_tbl, w.before #[Value.ref b] s = true) ∧ va_X b L xs s s.heap ∧ b < s.heap.size ∧ meth.locks = false ∧ (Jvm.Cond.and given_1 narrow_1).before #[Value.ref b] s = true
theorem dl_0 : decode code 0 = .ok (.new 7, 3) := by decide +kernel
theorem dl_3 : decode code 3 = .ok (.dup, 1) := by decide +kernel
theorem dl_4 : decode code 4 = .ok (.invokespecial 9, 3) := by decide +kernel
theorem dl_7 : decode code 7 = .ok (.astore_n 1, 1) := by decide +kernel
theorem dl_8 : decode code 8 = .ok (.new 10, 3) := by decide +kernel
theorem dl_11 : decode code 11 = .ok (.dup, 1) := by decide +kernel
theorem dl_12 : decode code 12 = .ok (.invokespecial 12, 3) := by decide +kernel
theorem dl_15 : decode code 15 = .ok (.astore_n 2, 1) := by decide +kernel
theorem dl_16 : decode code 16 = .ok (.iconst 0, 1) := by decide +kernel
theorem dl_17 : decode code 17 = .ok (.istore_n 3, 1) := by decide +kernel
/-- the classes and the rows' classes are known -/
theorem known_start {args : Array Value} {s : State} (hts : ∀ w ∈ tb, w.before args s = true) : ∃ (dC : Nat → ClassId) (dI : Nat → Nat → Nat) (G : ClassId × (ClassId × ClassId)), va_K (dC, dI) vwCl (tys G) s := by
  obtain ⟨c0, i0, k0⟩ := u_known (C := RX0) (T := TX0) (N := 14) (n := 14) hts in_X0 (hts (.instantiable RX0 14) (tb_mem (pos := 142) (by decide +kernel) (by decide +kernel)))
  obtain ⟨c1, i1, k1⟩ := u_known (C := RX1) (T := TX1) (N := 1) (n := 1) hts in_X1 (hts (.instantiable RX1 1) (tb_mem (pos := 255) (by decide +kernel) (by decide +kernel)))
  obtain ⟨c2, i2, k2⟩ := u_known (C := RX2) (T := TX2) (N := 2) (n := 2) hts in_X2 (hts (.instantiable RX2 2) (tb_mem (pos := 221) (by decide +kernel) (by decide +kernel)))
  obtain ⟨c3, i3, k3⟩ := u_known (C := RX3) (T := TX3) (N := 4) (n := 4) hts in_X3 (hts (.instantiable RX3 4) (tb_mem (pos := 235) (by decide +kernel) (by decide +kernel)))
  obtain ⟨c4, i4, k4⟩ := u_known (C := RX4) (T := TX4) (N := 2) (n := 2) hts in_X4 (hts (.instantiable RX4 2) (tb_mem (pos := 265) (by decide +kernel) (by decide +kernel)))
  obtain ⟨c5, i5, k5⟩ := u_known (C := RX5) (T := TX5) (N := 11) (n := 11) hts in_X5 (hts (.instantiable RX5 11) (tb_mem (pos := 134) (by decide +kernel) (by decide +kernel)))
  obtain ⟨c6, i6, k6⟩ := u_known (C := RX6) (T := TX6) (N := 45) (n := 45) hts in_X6 (hts (.instantiable RX6 45) (tb_mem (pos := 876) (by decide +kernel) (by decide +kernel)))
  obtain ⟨gI, aI, bI, eI, fI, hI⟩ := Cond.arrayClass_spec (hts (.arrayClass .int) kw_int)
  obtain ⟨gJ, aJ, bJ, eJ, fJ, hJ⟩ := Cond.arrayClass_spec (hts (.arrayClass .long) kw_long)
  obtain ⟨gZ, aZ, bZ, eZ, fZ, hZ⟩ := Cond.arrayClass_spec (hts (.arrayClass .boolean) kw_boolean)
  refine ⟨fun k => if k = 0 then c0 else if k = 1 then c1 else if k = 2 then c2 else if k = 3 then c3 else if k = 4 then c4 else if k = 5 then c5 else c6, fun k => if k = 0 then i0 else if k = 1 then i1 else if k = 2 then i2 else if k = 3 then i3 else if k = 4 then i4 else if k = 5 then i5 else i6, (gI, (gJ, gZ)), fun k q hq => ?_, fun k q hq => ?_⟩
  · match k, hq with
    | 0, hq => cases hq; exact k0
    | 1, hq => cases hq; exact k1
    | 2, hq => cases hq; exact k2
    | 3, hq => cases hq; exact k3
    | 4, hq => cases hq; exact k4
    | 5, hq => cases hq; exact k5
    | 6, hq => cases hq; exact k6
    | k + 7, hq => simp [vwCl] at hq
  · match k, hq with
    | 0, hq => cases hq; exact ⟨fun n z => ⟨fun k h => (by cases h), aI, fI, bI, hI⟩, eI⟩
    | 1, hq => cases hq; exact ⟨fun n z => ⟨fun k h => (by cases h), aJ, fJ, bJ, hJ⟩, eJ⟩
    | 2, hq => cases hq; exact ⟨fun n z => ⟨fun k h => (by cases h), aZ, fZ, bZ, hZ⟩, eZ⟩
    | k + 3, hq => simp [tys] at hq
set_option maxHeartbeats 4000000 in
set_option maxRecDepth 100000 in
theorem whole_start {p : Program} {e : Env} {s : State} {m : MethodId} {below : List Frame} {meth : Method} {c : Code} (l : Launch) (hflags : l.flags = flags0) {b L : Nat} {xs : Nat → Int32} (hL : L ≤ 3584) (C0 : lw_At p s m meth c b L xs) : W p l e room_1 s m #[Value.ref b] below meth c s.heap [] 0 0 (lw_Z below #[Value.ref b] s) (entryFrame m ([Value.ref b] : List Value).toArray 4) := by
  obtain ⟨hx, hb, hr, hml, hown, hts0, hX, hbl, hlocks, hgv⟩ := id C0
  have hts : ∀ w ∈ tb, w.before #[Value.ref b] s = true := fun w hw => hts0 w (List.mem_filter.mp hw).1
  have hN : ∀ w ∈ tn, va_Nw w s := fun w hw => va_tabs (tn_tab hw) rfl (hts0 w (List.mem_filter.mp hw).1)
  have hA : ∀ q : Nat, s.heap.size ≤ q → (fun q : Nat => s.heap.size ≤ q) q := fun _ h => h
  have hbA : ¬ (fun q : Nat => s.heap.size ≤ q) b := Nat.not_le.mpr hbl
  obtain ⟨dC, dI, G, hK⟩ := known_start hts
  obtain ⟨adK, adV, fA, hXT⟩ := xt_start hts0 hgv
  have hS : va_S (fun q : Nat => s.heap.size ≤ q) s.heap s.heap [] := va_S.rf
  have hP : va_P (dC, dI) vwCl [] s.heap := fun k q h => by simp at h
  have hD : va_D (fun q : Nat => s.heap.size ≤ q) [] := ⟨fun i j p q h => by simp at h, fun k q h => by simp at h⟩
  have hl := lv_entry ([.ref b]) (n := 4) (Nat.le_of_ble_eq_true rfl)
  rw [lg_entry_eq]
  generalize (lg_sl ([.ref b]) ++ List.replicate (4 - (lg_sl ([.ref b])).length) Slot.unset).toArray = ls at hl ⊢
  have hl : lv_has ls 4 [(0, .ref b)] := hl
  refine va_new (ci := 5) (fs := [.null, .null, .null, .int 0, .null, .null, .null, .int 0, .null, .null, .null]) (C := RX5) (T := TX5) (N := 11) hx hb hts in_X5 tyX5 tyX5_ok hown (hts (.classLink R_law 7 RX5) (tb_mem (pos := 133) (by decide +kernel) (by decide +kernel))) (hts (.instantiable RX5 11) (tb_mem (pos := 134) (by decide +kernel) (by decide +kernel))) (hts (.initialized RX5) (tb_mem (pos := 119) (by decide +kernel) (by decide +kernel))) hK hP hD hS hA rfl (fun j hj => by rcases (show j = 0 ∨ j = 1 ∨ j = 2 ∨ j = 3 ∨ j = 4 ∨ j = 5 ∨ j = 6 ∨ j = 7 ∨ j = 8 ∨ j = 9 ∨ j = 10 by omega) with rfl | rfl | rfl | rfl | rfl | rfl | rfl | rfl | rfl | rfl | rfl <;> rfl) (Nat.le_of_ble_eq_true rfl) (Nat.le_of_ble_eq_true rfl) dl_0 (fun qX5 H hP hD hS => ?_)
  have hP : va_P (dC, dI) vwCl ([] ++ wzX5 qX5) H := hP
  have hD : va_D (fun q : Nat => s.heap.size ≤ q) ([] ++ wzX5 qX5) := hD
  refine W.widen (k := 1) (n := 11) (Nat.le_of_ble_eq_true rfl) (Nat.le_of_ble_eq_true rfl) ?_
  refine lv_dup hx hb dl_3 rfl ?_
  have hPc := hP.sub (ws' := wzX5 qX5) [0] rfl
  have hDc := hD.sub (ws' := wzX5 qX5) [0] (by decide) rfl
  have hFc := va_free (wc := wzX5 qX5) hD hS hA [0] rfl
  refine va_callv (va_runI (As := []) (rest := [.ref qX5]) ⟨hx, hb, hml, hown, hts⟩ (cn_X5 l dC dI G qX5 H.size) (cwI 0 hts (gi (fun _ h => h) kn_X5) rfl rfl rfl (hts (.initialized RX5) (tb_mem (pos := 119) (by decide +kernel) (by decide +kernel))) (hts (.methodLink R_law 9 yX5_init) (tb_mem (pos := 135) (by decide +kernel) (by decide +kernel))) (hts (.instanceMethod yX5_init) (tb_mem (pos := 136) (by decide +kernel) (by decide +kernel))) rfl (by decide +kernel) ⟨(Nat.le_of_ble_eq_true rfl), (Nat.le_of_ble_eq_true rfl)⟩) ⟨fun a U g mk q => by obtain ⟨q0, q1, qP, qK, qD, qN⟩ := q; exact ⟨q0, q1, qP, va_K.moved (u := U) (U := U.calling g mk a) (Vm.Alike.refl U.vm) qK, qD, fun w hw => va_Nw.same (u := U) (tn_tab hw) rfl (qN w hw)⟩, fun U hU hW => ⟨rfl, by rw [hU], by rw [hU]; exact hPc, va_K.moved hW.alike hK, hDc.weaken (fun _ _ _ _ => trivial), fun w hw => tn_warm hw hW (hN w hw)⟩⟩ rfl rfl hl.1 rfl (lv_room (Nat.le_of_ble_eq_true rfl)) dl_4 ⟨(Nat.le_of_ble_eq_true rfl), (Nat.le_of_ble_eq_true rfl)⟩) hS (fun q _ h => hFc q h) hFc (fun aC t H1 locs ht hvm hw hB hz1 hk1 hS => ?_)
  obtain ⟨hP1, hK1, hD1⟩ := hB
  rw [ht] at hP1
  try dsimp only at hw
  subst hw
  obtain ⟨hP, hD⟩ := va_join (wr := []) (w1 := wdX5 G aC) hP hD [0] [] rfl rfl (by decide) (by decide) hk1 hFc hP1 hD1
  generalize H1 = H at hP hS ⊢
  have hP : va_P (dC, dI) vwCl ([] ++ wdX5 G aC) H := hP
  have hD : va_D (fun q : Nat => s.heap.size ≤ q) ([] ++ wdX5 G aC) := hD
  refine W.widen (k := 38) (n := 2451) (Nat.le_of_ble_eq_true rfl) (Nat.le_of_ble_eq_true rfl) ?_
  refine lv_astore_n (lv' := [(1, .ref (aC 0)), (0, .ref b)]) hx hb dl_7 rfl hl (by decide) rfl (fun ls hl => ?_)
  refine va_new (ci := 6) (fs := [.int 0, .int 0, .int 0, .int 0, .int 0, .int 0, .null, .null, .null, .null, .null, .null, .int 0, .null, .null, .null, .int 0, .int 0, .int 0, .null, .null, .int 0, .int 0, .int 0, .int 0, .null, .null, .null, .null, .null, .null, .int 0, .null, .null, .null, .null, .null, .null, .null, .int 0, .null, .null, .null, .int 0, .int 0]) (C := RX6) (T := TX6) (N := 45) hx hb hts in_X6 tyX6 tyX6_ok hown (hts (.classLink R_law 10 RX6) (tb_mem (pos := 875) (by decide +kernel) (by decide +kernel))) (hts (.instantiable RX6 45) (tb_mem (pos := 876) (by decide +kernel) (by decide +kernel))) (hts (.initialized RX6) (tb_mem (pos := 125) (by decide +kernel) (by decide +kernel))) hK hP hD hS hA rfl (fun j hj => by rcases (show j = 0 ∨ j = 1 ∨ j = 2 ∨ j = 3 ∨ j = 4 ∨ j = 5 ∨ j = 6 ∨ j = 7 ∨ j = 8 ∨ j = 9 ∨ j = 10 ∨ j = 11 ∨ j = 12 ∨ j = 13 ∨ j = 14 ∨ j = 15 ∨ j = 16 ∨ j = 17 ∨ j = 18 ∨ j = 19 ∨ j = 20 ∨ j = 21 ∨ j = 22 ∨ j = 23 ∨ j = 24 ∨ j = 25 ∨ j = 26 ∨ j = 27 ∨ j = 28 ∨ j = 29 ∨ j = 30 ∨ j = 31 ∨ j = 32 ∨ j = 33 ∨ j = 34 ∨ j = 35 ∨ j = 36 ∨ j = 37 ∨ j = 38 ∨ j = 39 ∨ j = 40 ∨ j = 41 ∨ j = 42 ∨ j = 43 ∨ j = 44 by omega) with rfl | rfl | rfl | rfl | rfl | rfl | rfl | rfl | rfl | rfl | rfl | rfl | rfl | rfl | rfl | rfl | rfl | rfl | rfl | rfl | rfl | rfl | rfl | rfl | rfl | rfl | rfl | rfl | rfl | rfl | rfl | rfl | rfl | rfl | rfl | rfl | rfl | rfl | rfl | rfl | rfl | rfl | rfl | rfl | rfl <;> rfl) (Nat.le_of_ble_eq_true rfl) (Nat.le_of_ble_eq_true rfl) dl_8 (fun qX6 H hP hD hS => ?_)
  have hP : va_P (dC, dI) vwCl (([] ++ wdX5 G aC) ++ wzX6 qX6) H := hP
  have hD : va_D (fun q : Nat => s.heap.size ≤ q) (([] ++ wdX5 G aC) ++ wzX6 qX6) := hD
  refine W.widen (k := 39) (n := 2496) (Nat.le_of_ble_eq_true rfl) (Nat.le_of_ble_eq_true rfl) ?_
  refine lv_dup hx hb dl_11 rfl ?_
  have hPc := hP.sub (ws' := wzX6 qX6) [38] rfl
  have hDc := hD.sub (ws' := wzX6 qX6) [38] (by decide) rfl
  have hFc := va_free (wc := wzX6 qX6) hD hS hA [38] rfl
  refine va_callv (va_runI (As := []) (rest := [.ref qX6]) ⟨hx, hb, hml, hown, hts⟩ (cn_X6 l dC dI G qX6 H.size) (cwI 0 hts (gi (fun _ h => h) kn_X6) rfl rfl rfl (hts (.initialized RX6) (tb_mem (pos := 125) (by decide +kernel) (by decide +kernel))) (hts (.methodLink R_law 12 yX6_init) (tb_mem (pos := 877) (by decide +kernel) (by decide +kernel))) (hts (.instanceMethod yX6_init) (tb_mem (pos := 878) (by decide +kernel) (by decide +kernel))) rfl (by decide +kernel) ⟨(Nat.le_of_ble_eq_true rfl), (Nat.le_of_ble_eq_true rfl)⟩) ⟨fun a U g mk q => by obtain ⟨q0, q1, qP, qK, qD⟩ := q; exact ⟨q0, q1, qP, va_K.moved (u := U) (U := U.calling g mk a) (Vm.Alike.refl U.vm) qK, qD⟩, fun U hU hW => ⟨rfl, by rw [hU], by rw [hU]; exact hPc, va_K.moved hW.alike hK, hDc.weaken (fun _ _ _ _ => trivial)⟩⟩ rfl rfl hl.1 rfl (lv_room (Nat.le_of_ble_eq_true rfl)) dl_12 ⟨(Nat.le_of_ble_eq_true rfl), (Nat.le_of_ble_eq_true rfl)⟩) hS (fun q _ h => hFc q h) hFc (fun aM t H1 locs ht hvm hw hB hz1 hk1 hS => ?_)
  obtain ⟨hP1, hK1, hD1⟩ := hB
  rw [ht] at hP1
  try dsimp only at hw
  subst hw
  obtain ⟨hP, hD⟩ := va_join (wr := ([] ++ wdX5 G aC)) (w1 := wdX6 G aM) hP hD [38] [0, 1, 2, 3, 4, 5, 6, 7, 8, 9, 10, 11, 12, 13, 14, 15, 16, 17, 18, 19, 20, 21, 22, 23, 24, 25, 26, 27, 28, 29, 30, 31, 32, 33, 34, 35, 36, 37] rfl rfl (by decide) (by decide) hk1 hFc hP1 hD1
  generalize H1 = H at hP hS ⊢
  have hP : va_P (dC, dI) vwCl (([] ++ wdX5 G aC) ++ wdX6 G aM) H := hP
  have hD : va_D (fun q : Nat => s.heap.size ≤ q) (([] ++ wdX5 G aC) ++ wdX6 G aM) := hD
  refine W.widen (k := 65) (n := 54851) (Nat.le_of_ble_eq_true rfl) (Nat.le_of_ble_eq_true rfl) ?_
  refine lv_astore_n (lv' := [(2, .ref (aM 0)), (1, .ref (aC 0)), (0, .ref b)]) hx hb dl_15 rfl hl (by decide) rfl (fun ls hl => ?_)
  refine lv_iconst (v := 0) hx hb dl_16 (by decide) ?_
  refine lv_istore_n (lv' := [(3, .int 0), (2, .ref (aM 0)), (1, .ref (aC 0)), (0, .ref b)]) hx hb dl_17 rfl hl (by decide) rfl (fun ls hl => ?_)
  have hXa : XT (adF aC aM adK adV fA b) (fun q : Nat => s.heap.size ≤ q) s s.heap := by
    refine hXT _ (fun i hi => ?_) (fun i hi => ?_) rfl
    · unfold adF
      rw [if_neg (by omega), if_neg (by omega), if_neg (by omega), if_neg (by omega), if_pos (by omega), show 200 + i - 200 = i by omega]
    · unfold adF
      rw [if_neg (by omega), if_neg (by omega), if_neg (by omega), if_neg (by omega), if_neg (by omega), show 220 + i - 220 = i by omega]
  have F : FX true p room_1 s m #[Value.ref b] c 65 54851 code 4 R_law (adF aC aM adK adV fA b) G dC dI (fun q : Nat => s.heap.size ≤ q) (fun i => (xs i.toNat).toInt) (L : Int) (0 + 30) := by
    refine ⟨hx, hb, hml, hown, hts, hK, hXa, hA, ⟨Nat.le_of_ble_eq_true rfl, Nat.le_of_ble_eq_true rfl, Nat.le_of_ble_eq_true rfl, Nat.le_of_ble_eq_true rfl⟩, fun _ => ⟨L, xs, hX, hbl, hbA, rfl, by omega, fun i hi => ⟨am_r _, ?_⟩⟩⟩
    show xs i = Int32.ofInt (xs ((i : Int).toNat)).toInt
    rw [am_oi, Int.toNat_natCast]
  have hJ := Bx_sound (l := l) (e := e) (below := below) (meth := meth) (Q := lw_Z below #[Value.ref b] s) (K := lawK) (rt := ret) F mt_ok (tx_sound mt l mt_ok (0 + 30)) law_ok (by
    intro i x pc r h' H locs ls hdg hok hret hKr hvr hh' hP' hD' hS'
    have hKr : r = some (vI 1) := hKr
    subst hKr
    cases i with
    | ireturn =>
      refine va_forget (fun q hq => hS'.2.2 q hq) ?_
      refine W.widen (k := 600000) (n := 7302250) (Nat.le_of_ble_eq_true rfl) (Nat.le_of_ble_eq_true rfl) ?_
      exact lw_ret hx hb hr hlocks hdg
    | _ => exact hret.elim)
  have hL1 : ∀ (i : Nat) (v : AV), ([some (vR 300), some (vR 0), some (vR 38), some (vI 0)] : LL)[i]? = some (some v) → ls[i]? = some (.val (cv (adF aC aM adK adV fA b) v)) := by
    intro i v hv
    match i, hv with
    | 0, hv => cases hv; exact lv_at hl 3 rfl
    | 1, hv => cases hv; exact lv_at hl 2 rfl
    | 2, hv => cases hv; exact lv_at hl 1 rfl
    | 3, hv => cases hv; exact lv_at hl 0 rfl
    | i + 4, hv => simp at hv
  have hL2 : ∀ (i : Nat) (v : AV), ([some (vR 300), some (vR 0), some (vR 38), some (vI 0)] : LL)[i]? = some (some v) → vOK v := by
    intro i v hv
    match i, hv with
    | 0, hv => cases hv; exact trivial
    | 1, hv => cases hv; exact trivial
    | 2, hv => cases hv; exact trivial
    | 3, hv => cases hv; exact ⟨by decide, by decide⟩
    | i + 4, hv => simp at hv
  exact hJ 1 b_law_1 [some (vR 300), some (vR 0), some (vR 38), some (vI 0)] [] hI H _ ls rfl (law_loop (fun i => am_r _) (by omega) (by omega) 512 0 0 hI (by decide) (by decide) (by omega) hI_inv) ⟨⟨hl.1, hl.2.1, hL1⟩, fun v hv => by simp at hv, hL2, hI_ok, wP hP, wD hD, hS⟩
