theorem kw_int : (Cond.arrayClass .int) ∈ tb := (tb_mem (pos := 219) (by decide +kernel) (by decide +kernel))
theorem kw_long : (Cond.arrayClass .long) ∈ tb := (tb_mem (pos := 277) (by decide +kernel) (by decide +kernel))
theorem kw_boolean : (Cond.arrayClass .boolean) ∈ tb := (tb_mem (pos := 1017) (by decide +kernel) (by decide +kernel))
/-! ===== TinkerTailor$Board() ===== -/
def wdX0 (G : ClassId × (ClassId × ClassId)) (a : Nat → Nat) : va_W := [(a 0, .inr (0, [.int 0, .ref (a 1), .ref (a 2), .int 0, .ref (a 3), .ref (a 4), .ref (a 5), .ref (a 6), .int 0, .int 2, .int 3, .int 0, .int 0, .ref (a 7)]))] ++ [(a 1, .inl (G.1, 4, .inl fun _ => 0)), (a 2, .inl (G.1, 4, .inl fun _ => 0)), (a 3, .inl (G.1, 4, .inl fun _ => 0)), (a 4, .inl (G.1, 4, .inl fun _ => 0)), (a 5, .inl (G.1, 4, .inl fun _ => 0)), (a 6, .inl (G.1, 4, .inl fun _ => 0)), (a 7, .inl (G.1, 4, .inl fun _ => 0))]
theorem dn_X0_0 : decode cX0_init 0 = .ok (.aload_n 0, 1) := by decide +kernel
theorem dn_X0_1 : decode cX0_init 1 = .ok (.invokespecial 3, 3) := by decide +kernel
theorem dn_X0_4 : decode cX0_init 4 = .ok (.aload_n 0, 1) := by decide +kernel
theorem dn_X0_5 : decode cX0_init 5 = .ok (.iconst 4, 1) := by decide +kernel
theorem dn_X0_6 : decode cX0_init 6 = .ok (.newarray .int, 2) := by decide +kernel
theorem dn_X0_8 : decode cX0_init 8 = .ok (.putfield 9, 3) := by decide +kernel
theorem dn_X0_11 : decode cX0_init 11 = .ok (.aload_n 0, 1) := by decide +kernel
theorem dn_X0_12 : decode cX0_init 12 = .ok (.iconst 4, 1) := by decide +kernel
theorem dn_X0_13 : decode cX0_init 13 = .ok (.newarray .int, 2) := by decide +kernel
theorem dn_X0_15 : decode cX0_init 15 = .ok (.putfield 15, 3) := by decide +kernel
theorem dn_X0_18 : decode cX0_init 18 = .ok (.aload_n 0, 1) := by decide +kernel
theorem dn_X0_19 : decode cX0_init 19 = .ok (.iconst 4, 1) := by decide +kernel
theorem dn_X0_20 : decode cX0_init 20 = .ok (.newarray .int, 2) := by decide +kernel
theorem dn_X0_22 : decode cX0_init 22 = .ok (.putfield 18, 3) := by decide +kernel
theorem dn_X0_25 : decode cX0_init 25 = .ok (.aload_n 0, 1) := by decide +kernel
theorem dn_X0_26 : decode cX0_init 26 = .ok (.iconst 4, 1) := by decide +kernel
theorem dn_X0_27 : decode cX0_init 27 = .ok (.newarray .int, 2) := by decide +kernel
theorem dn_X0_29 : decode cX0_init 29 = .ok (.putfield 21, 3) := by decide +kernel
theorem dn_X0_32 : decode cX0_init 32 = .ok (.aload_n 0, 1) := by decide +kernel
theorem dn_X0_33 : decode cX0_init 33 = .ok (.iconst 4, 1) := by decide +kernel
theorem dn_X0_34 : decode cX0_init 34 = .ok (.newarray .int, 2) := by decide +kernel
theorem dn_X0_36 : decode cX0_init 36 = .ok (.putfield 24, 3) := by decide +kernel
theorem dn_X0_39 : decode cX0_init 39 = .ok (.aload_n 0, 1) := by decide +kernel
theorem dn_X0_40 : decode cX0_init 40 = .ok (.iconst 4, 1) := by decide +kernel
theorem dn_X0_41 : decode cX0_init 41 = .ok (.newarray .int, 2) := by decide +kernel
theorem dn_X0_43 : decode cX0_init 43 = .ok (.putfield 27, 3) := by decide +kernel
theorem dn_X0_46 : decode cX0_init 46 = .ok (.aload_n 0, 1) := by decide +kernel
theorem dn_X0_47 : decode cX0_init 47 = .ok (.iconst 2, 1) := by decide +kernel
theorem dn_X0_48 : decode cX0_init 48 = .ok (.putfield 30, 3) := by decide +kernel
theorem dn_X0_51 : decode cX0_init 51 = .ok (.aload_n 0, 1) := by decide +kernel
theorem dn_X0_52 : decode cX0_init 52 = .ok (.iconst 3, 1) := by decide +kernel
theorem dn_X0_53 : decode cX0_init 53 = .ok (.putfield 34, 3) := by decide +kernel
theorem dn_X0_56 : decode cX0_init 56 = .ok (.aload_n 0, 1) := by decide +kernel
theorem dn_X0_57 : decode cX0_init 57 = .ok (.iconst 4, 1) := by decide +kernel
theorem dn_X0_58 : decode cX0_init 58 = .ok (.newarray .int, 2) := by decide +kernel
theorem dn_X0_60 : decode cX0_init 60 = .ok (.putfield 37, 3) := by decide +kernel
theorem dn_X0_63 : decode cX0_init 63 = .ok (.return_, 1) := by decide +kernel
theorem kn_X0 : (Cond.code yX0_init cX0_init 1 none) ∈ tb := (tb_mem (pos := 145) (by decide +kernel) (by decide +kernel))
theorem in_X0 : ∀ w ∈ u_ws RX0 TX0 14, w ∈ tb := tb_sub inX0 (by decide +kernel)
def wzX0 (h0 : Nat) : va_W := [(h0, .inr (0, [.int 0, .null, .null, .int 0, .null, .null, .null, .null, .int 0, .int 0, .int 0, .int 0, .int 0, .null]))]
set_option maxHeartbeats 4000000 in
set_option maxRecDepth 100000 in
theorem cn_X0 (l : Launch) (dC : Nat → ClassId) (dI : Nat → Nat → Nat) (G : ClassId × (ClassId × ClassId)) (h0 sz : Nat) : Met l yX0_init (wsc yX0_init cX0_init) ({ frames := 1, cells := 7, slots := 28, locals := 12 }) (va_Pc [.ref h0] (fun U => U.heap.size = sz ∧ va_P (dC, dI) vwCl (wzX0 h0) U.heap ∧ va_K (dC, dI) vwCl (tys G) U ∧ va_D (fun _ => True) (wzX0 h0))) (va_Qv (fun a : Nat → Nat => a 0 = h0) (fun a t => va_P (dC, dI) vwCl (wdX0 G a) t.heap ∧ va_K (dC, dI) vwCl (tys G) t ∧ va_D (va_A (wzX0 h0) sz) (wdX0 G a)) (va_A (wzX0 h0) sz)) 7 28 (va_A (wzX0 h0) sz) := by
  refine Met.ofW (cc := cX0_init) (maxL := 1) (ret := none) (by decide) rfl ?_
  intro p e s m args below meth c s₁ B hml hv
  obtain ⟨rfl, hsz, hP, hK, hD0⟩ := hv
  have hx := B.exec
  have hb := B.bytes
  have hr := B.returns
  have hts : ∀ w ∈ tb, w.before ([Value.ref h0].toArray) s = true := fun w hw => atoms_spec (ws := wsc yX0_init cX0_init) B.pre w (List.mem_cons_of_mem _ hw)
  have hown : s.vm.findClass RX0 = some m.cls := findClass_of_methodNamed B.named
  have hin : meth.name = "<init>" := (name_of_methodNamed B.named B.method).1
  subst hsz
  have hD := hD0.self (sz := s.heap.size)
  generalize hAe : va_A (wzX0 h0) s.heap.size = A at hD ⊢
  have hA : ∀ q : Nat, s.heap.size ≤ q → A q := fun q h => by rw [← hAe]; exact Or.inr h
  have hS : va_S A s.heap s.heap [] := va_S.rf
  have hP : va_P (dC, dI) vwCl [(h0, .inr (0, [.int 0, .null, .null, .int 0, .null, .null, .null, .null, .int 0, .int 0, .int 0, .int 0, .int 0, .null]))] s.heap := hP
  have hD : va_D A [(h0, .inr (0, [.int 0, .null, .null, .int 0, .null, .null, .null, .null, .int 0, .int 0, .int 0, .int 0, .int 0, .null]))] := hD
  have hl := lv_entry ([.ref h0]) (n := 1) (Nat.le_of_ble_eq_true rfl)
  rw [lg_entry_eq]
  generalize (lg_sl ([.ref h0]) ++ List.replicate (1 - (lg_sl ([.ref h0])).length) Slot.unset).toArray = ls at hl ⊢
  have hl : lv_has ls 1 [(0, .ref h0)] := hl
  refine lv_aload_n hx hb dn_X0_0 rfl (lv_at hl 0 rfl) ?_
  refine W.objInit hx hb hown (hts (.methodLink RX0 3 objectInit) (tb_mem (pos := 146) (by decide +kernel) (by decide +kernel))) (hts (.instanceMethod objectInit) (tb_mem (pos := 139) (by decide +kernel) (by decide +kernel))) (hts (.code objectInit ⟨#[0xb1]⟩ 1 none) (tb_mem (pos := 140) (by decide +kernel) (by decide +kernel))) rfl (by rw [hml]; exact hl.1) rfl dn_X0_1 (Nat.le_of_ble_eq_true rfl) (Nat.le_of_ble_eq_true rfl) ?_
  refine W.eq (g2 := F0 m 4 ls []) rfl ?_
  refine lv_aload_n hx hb dn_X0_4 rfl (lv_at hl 0 rfl) ?_
  refine lv_iconst (v := 4) hx hb dn_X0_5 (by decide) ?_
  refine va_newG (a0 := (4, .inl fun _ => 0)) (t0 := 0) hx hb (atype := .int) (hts (.arrayClass .int) kw_int) rfl (by intro C h; cases h) hK hP hD hS hA rfl (fun _ => rfl) (by decide) (by decide) (Nat.le_of_ble_eq_true rfl) (Nat.le_of_ble_eq_true rfl) (Nat.le_of_ble_eq_true rfl) dn_X0_6 (fun q1 H hP hD hS => ?_)
  have hP : va_P (dC, dI) vwCl ([(h0, .inr (0, [.int 0, .null, .null, .int 0, .null, .null, .null, .null, .int 0, .int 0, .int 0, .int 0, .int 0, .null]))] ++ [(q1, .inl (G.1, 4, .inl fun _ => 0))]) H := hP
  have hD : va_D A ([(h0, .inr (0, [.int 0, .null, .null, .int 0, .null, .null, .null, .null, .int 0, .int 0, .int 0, .int 0, .int 0, .null]))] ++ [(q1, .inl (G.1, 4, .inl fun _ => 0))]) := hD
  refine W.widen (k := 1) (n := 4) (Nat.le_of_ble_eq_true rfl) (Nat.le_of_ble_eq_true rfl) ?_
  refine va_putF (D := (dC, dI)) (ci := 0) (v := .ref q1) (ty := .array .int) (C := RX0) (T := TX0) (N := 14) hx hb hts in_X0 tyX0 tyX0_ok nmX0 hown hK hP hD hS 0 rfl rfl 1 (by decide) (hts (.fieldLink RX0 9 "TinkerTailor$Board" "lengths" "[I") (tb_mem (pos := 149) (by decide +kernel) (by decide +kernel))) (fun _ h9 => h9) rfl hin rfl (by decide +kernel) rfl rfl (Nat.le_of_ble_eq_true rfl) dn_X0_8 (fun H locs hP hD hS => ?_)
  have hP : va_P (dC, dI) vwCl ([(h0, .inr (0, [.int 0, .ref q1, .null, .int 0, .null, .null, .null, .null, .int 0, .int 0, .int 0, .int 0, .int 0, .null]))] ++ [(q1, .inl (G.1, 4, .inl fun _ => 0))]) H := hP
  have hD : va_D A ([(h0, .inr (0, [.int 0, .ref q1, .null, .int 0, .null, .null, .null, .null, .int 0, .int 0, .int 0, .int 0, .int 0, .null]))] ++ [(q1, .inl (G.1, 4, .inl fun _ => 0))]) := hD
  refine lv_aload_n hx hb dn_X0_11 rfl (lv_at hl 0 rfl) ?_
  refine lv_iconst (v := 4) hx hb dn_X0_12 (by decide) ?_
  refine va_newG (a0 := (4, .inl fun _ => 0)) (t0 := 0) hx hb (atype := .int) (hts (.arrayClass .int) kw_int) rfl (by intro C h; cases h) hK hP hD hS hA rfl (fun _ => rfl) (by decide) (by decide) (Nat.le_of_ble_eq_true rfl) (Nat.le_of_ble_eq_true rfl) (Nat.le_of_ble_eq_true rfl) dn_X0_13 (fun q2 H hP hD hS => ?_)
  have hP : va_P (dC, dI) vwCl ([(h0, .inr (0, [.int 0, .ref q1, .null, .int 0, .null, .null, .null, .null, .int 0, .int 0, .int 0, .int 0, .int 0, .null]))] ++ [(q1, .inl (G.1, 4, .inl fun _ => 0))] ++ [(q2, .inl (G.1, 4, .inl fun _ => 0))]) H := hP
  have hD : va_D A ([(h0, .inr (0, [.int 0, .ref q1, .null, .int 0, .null, .null, .null, .null, .int 0, .int 0, .int 0, .int 0, .int 0, .null]))] ++ [(q1, .inl (G.1, 4, .inl fun _ => 0))] ++ [(q2, .inl (G.1, 4, .inl fun _ => 0))]) := hD
  refine W.widen (k := 2) (n := 8) (Nat.le_of_ble_eq_true rfl) (Nat.le_of_ble_eq_true rfl) ?_
  refine va_putF (D := (dC, dI)) (ci := 0) (v := .ref q2) (ty := .array .int) (C := RX0) (T := TX0) (N := 14) hx hb hts in_X0 tyX0 tyX0_ok nmX0 hown hK hP hD hS 0 rfl rfl 2 (by decide) (hts (.fieldLink RX0 15 "TinkerTailor$Board" "firsts" "[I") (tb_mem (pos := 152) (by decide +kernel) (by decide +kernel))) (fun _ h9 => h9) rfl hin rfl (by decide +kernel) rfl rfl (Nat.le_of_ble_eq_true rfl) dn_X0_15 (fun H locs hP hD hS => ?_)
  have hP : va_P (dC, dI) vwCl ([(h0, .inr (0, [.int 0, .ref q1, .ref q2, .int 0, .null, .null, .null, .null, .int 0, .int 0, .int 0, .int 0, .int 0, .null]))] ++ [(q1, .inl (G.1, 4, .inl fun _ => 0))] ++ [(q2, .inl (G.1, 4, .inl fun _ => 0))]) H := hP
  have hD : va_D A ([(h0, .inr (0, [.int 0, .ref q1, .ref q2, .int 0, .null, .null, .null, .null, .int 0, .int 0, .int 0, .int 0, .int 0, .null]))] ++ [(q1, .inl (G.1, 4, .inl fun _ => 0))] ++ [(q2, .inl (G.1, 4, .inl fun _ => 0))]) := hD
  refine lv_aload_n hx hb dn_X0_18 rfl (lv_at hl 0 rfl) ?_
  refine lv_iconst (v := 4) hx hb dn_X0_19 (by decide) ?_
  refine va_newG (a0 := (4, .inl fun _ => 0)) (t0 := 0) hx hb (atype := .int) (hts (.arrayClass .int) kw_int) rfl (by intro C h; cases h) hK hP hD hS hA rfl (fun _ => rfl) (by decide) (by decide) (Nat.le_of_ble_eq_true rfl) (Nat.le_of_ble_eq_true rfl) (Nat.le_of_ble_eq_true rfl) dn_X0_20 (fun q3 H hP hD hS => ?_)
  have hP : va_P (dC, dI) vwCl ([(h0, .inr (0, [.int 0, .ref q1, .ref q2, .int 0, .null, .null, .null, .null, .int 0, .int 0, .int 0, .int 0, .int 0, .null]))] ++ [(q1, .inl (G.1, 4, .inl fun _ => 0))] ++ [(q2, .inl (G.1, 4, .inl fun _ => 0))] ++ [(q3, .inl (G.1, 4, .inl fun _ => 0))]) H := hP
  have hD : va_D A ([(h0, .inr (0, [.int 0, .ref q1, .ref q2, .int 0, .null, .null, .null, .null, .int 0, .int 0, .int 0, .int 0, .int 0, .null]))] ++ [(q1, .inl (G.1, 4, .inl fun _ => 0))] ++ [(q2, .inl (G.1, 4, .inl fun _ => 0))] ++ [(q3, .inl (G.1, 4, .inl fun _ => 0))]) := hD
  refine W.widen (k := 3) (n := 12) (Nat.le_of_ble_eq_true rfl) (Nat.le_of_ble_eq_true rfl) ?_
  refine va_putF (D := (dC, dI)) (ci := 0) (v := .ref q3) (ty := .array .int) (C := RX0) (T := TX0) (N := 14) hx hb hts in_X0 tyX0 tyX0_ok nmX0 hown hK hP hD hS 0 rfl rfl 4 (by decide) (hts (.fieldLink RX0 18 "TinkerTailor$Board" "kinds" "[I") (tb_mem (pos := 159) (by decide +kernel) (by decide +kernel))) (fun _ h9 => h9) rfl hin rfl (by decide +kernel) rfl rfl (Nat.le_of_ble_eq_true rfl) dn_X0_22 (fun H locs hP hD hS => ?_)
  have hP : va_P (dC, dI) vwCl ([(h0, .inr (0, [.int 0, .ref q1, .ref q2, .int 0, .ref q3, .null, .null, .null, .int 0, .int 0, .int 0, .int 0, .int 0, .null]))] ++ [(q1, .inl (G.1, 4, .inl fun _ => 0))] ++ [(q2, .inl (G.1, 4, .inl fun _ => 0))] ++ [(q3, .inl (G.1, 4, .inl fun _ => 0))]) H := hP
  have hD : va_D A ([(h0, .inr (0, [.int 0, .ref q1, .ref q2, .int 0, .ref q3, .null, .null, .null, .int 0, .int 0, .int 0, .int 0, .int 0, .null]))] ++ [(q1, .inl (G.1, 4, .inl fun _ => 0))] ++ [(q2, .inl (G.1, 4, .inl fun _ => 0))] ++ [(q3, .inl (G.1, 4, .inl fun _ => 0))]) := hD
  refine lv_aload_n hx hb dn_X0_25 rfl (lv_at hl 0 rfl) ?_
  refine lv_iconst (v := 4) hx hb dn_X0_26 (by decide) ?_
  refine va_newG (a0 := (4, .inl fun _ => 0)) (t0 := 0) hx hb (atype := .int) (hts (.arrayClass .int) kw_int) rfl (by intro C h; cases h) hK hP hD hS hA rfl (fun _ => rfl) (by decide) (by decide) (Nat.le_of_ble_eq_true rfl) (Nat.le_of_ble_eq_true rfl) (Nat.le_of_ble_eq_true rfl) dn_X0_27 (fun q4 H hP hD hS => ?_)
  have hP : va_P (dC, dI) vwCl ([(h0, .inr (0, [.int 0, .ref q1, .ref q2, .int 0, .ref q3, .null, .null, .null, .int 0, .int 0, .int 0, .int 0, .int 0, .null]))] ++ [(q1, .inl (G.1, 4, .inl fun _ => 0))] ++ [(q2, .inl (G.1, 4, .inl fun _ => 0))] ++ [(q3, .inl (G.1, 4, .inl fun _ => 0))] ++ [(q4, .inl (G.1, 4, .inl fun _ => 0))]) H := hP
  have hD : va_D A ([(h0, .inr (0, [.int 0, .ref q1, .ref q2, .int 0, .ref q3, .null, .null, .null, .int 0, .int 0, .int 0, .int 0, .int 0, .null]))] ++ [(q1, .inl (G.1, 4, .inl fun _ => 0))] ++ [(q2, .inl (G.1, 4, .inl fun _ => 0))] ++ [(q3, .inl (G.1, 4, .inl fun _ => 0))] ++ [(q4, .inl (G.1, 4, .inl fun _ => 0))]) := hD
  refine W.widen (k := 4) (n := 16) (Nat.le_of_ble_eq_true rfl) (Nat.le_of_ble_eq_true rfl) ?_
  refine va_putF (D := (dC, dI)) (ci := 0) (v := .ref q4) (ty := .array .int) (C := RX0) (T := TX0) (N := 14) hx hb hts in_X0 tyX0 tyX0_ok nmX0 hown hK hP hD hS 0 rfl rfl 5 (by decide) (hts (.fieldLink RX0 21 "TinkerTailor$Board" "figures" "[I") (tb_mem (pos := 161) (by decide +kernel) (by decide +kernel))) (fun _ h9 => h9) rfl hin rfl (by decide +kernel) rfl rfl (Nat.le_of_ble_eq_true rfl) dn_X0_29 (fun H locs hP hD hS => ?_)
  have hP : va_P (dC, dI) vwCl ([(h0, .inr (0, [.int 0, .ref q1, .ref q2, .int 0, .ref q3, .ref q4, .null, .null, .int 0, .int 0, .int 0, .int 0, .int 0, .null]))] ++ [(q1, .inl (G.1, 4, .inl fun _ => 0))] ++ [(q2, .inl (G.1, 4, .inl fun _ => 0))] ++ [(q3, .inl (G.1, 4, .inl fun _ => 0))] ++ [(q4, .inl (G.1, 4, .inl fun _ => 0))]) H := hP
  have hD : va_D A ([(h0, .inr (0, [.int 0, .ref q1, .ref q2, .int 0, .ref q3, .ref q4, .null, .null, .int 0, .int 0, .int 0, .int 0, .int 0, .null]))] ++ [(q1, .inl (G.1, 4, .inl fun _ => 0))] ++ [(q2, .inl (G.1, 4, .inl fun _ => 0))] ++ [(q3, .inl (G.1, 4, .inl fun _ => 0))] ++ [(q4, .inl (G.1, 4, .inl fun _ => 0))]) := hD
  refine lv_aload_n hx hb dn_X0_32 rfl (lv_at hl 0 rfl) ?_
  refine lv_iconst (v := 4) hx hb dn_X0_33 (by decide) ?_
  refine va_newG (a0 := (4, .inl fun _ => 0)) (t0 := 0) hx hb (atype := .int) (hts (.arrayClass .int) kw_int) rfl (by intro C h; cases h) hK hP hD hS hA rfl (fun _ => rfl) (by decide) (by decide) (Nat.le_of_ble_eq_true rfl) (Nat.le_of_ble_eq_true rfl) (Nat.le_of_ble_eq_true rfl) dn_X0_34 (fun q5 H hP hD hS => ?_)
  have hP : va_P (dC, dI) vwCl ([(h0, .inr (0, [.int 0, .ref q1, .ref q2, .int 0, .ref q3, .ref q4, .null, .null, .int 0, .int 0, .int 0, .int 0, .int 0, .null]))] ++ [(q1, .inl (G.1, 4, .inl fun _ => 0))] ++ [(q2, .inl (G.1, 4, .inl fun _ => 0))] ++ [(q3, .inl (G.1, 4, .inl fun _ => 0))] ++ [(q4, .inl (G.1, 4, .inl fun _ => 0))] ++ [(q5, .inl (G.1, 4, .inl fun _ => 0))]) H := hP
  have hD : va_D A ([(h0, .inr (0, [.int 0, .ref q1, .ref q2, .int 0, .ref q3, .ref q4, .null, .null, .int 0, .int 0, .int 0, .int 0, .int 0, .null]))] ++ [(q1, .inl (G.1, 4, .inl fun _ => 0))] ++ [(q2, .inl (G.1, 4, .inl fun _ => 0))] ++ [(q3, .inl (G.1, 4, .inl fun _ => 0))] ++ [(q4, .inl (G.1, 4, .inl fun _ => 0))] ++ [(q5, .inl (G.1, 4, .inl fun _ => 0))]) := hD
  refine W.widen (k := 5) (n := 20) (Nat.le_of_ble_eq_true rfl) (Nat.le_of_ble_eq_true rfl) ?_
  refine va_putF (D := (dC, dI)) (ci := 0) (v := .ref q5) (ty := .array .int) (C := RX0) (T := TX0) (N := 14) hx hb hts in_X0 tyX0 tyX0_ok nmX0 hown hK hP hD hS 0 rfl rfl 6 (by decide) (hts (.fieldLink RX0 24 "TinkerTailor$Board" "wishes" "[I") (tb_mem (pos := 163) (by decide +kernel) (by decide +kernel))) (fun _ h9 => h9) rfl hin rfl (by decide +kernel) rfl rfl (Nat.le_of_ble_eq_true rfl) dn_X0_36 (fun H locs hP hD hS => ?_)
  have hP : va_P (dC, dI) vwCl ([(h0, .inr (0, [.int 0, .ref q1, .ref q2, .int 0, .ref q3, .ref q4, .ref q5, .null, .int 0, .int 0, .int 0, .int 0, .int 0, .null]))] ++ [(q1, .inl (G.1, 4, .inl fun _ => 0))] ++ [(q2, .inl (G.1, 4, .inl fun _ => 0))] ++ [(q3, .inl (G.1, 4, .inl fun _ => 0))] ++ [(q4, .inl (G.1, 4, .inl fun _ => 0))] ++ [(q5, .inl (G.1, 4, .inl fun _ => 0))]) H := hP
  have hD : va_D A ([(h0, .inr (0, [.int 0, .ref q1, .ref q2, .int 0, .ref q3, .ref q4, .ref q5, .null, .int 0, .int 0, .int 0, .int 0, .int 0, .null]))] ++ [(q1, .inl (G.1, 4, .inl fun _ => 0))] ++ [(q2, .inl (G.1, 4, .inl fun _ => 0))] ++ [(q3, .inl (G.1, 4, .inl fun _ => 0))] ++ [(q4, .inl (G.1, 4, .inl fun _ => 0))] ++ [(q5, .inl (G.1, 4, .inl fun _ => 0))]) := hD
  refine lv_aload_n hx hb dn_X0_39 rfl (lv_at hl 0 rfl) ?_
  refine lv_iconst (v := 4) hx hb dn_X0_40 (by decide) ?_
  refine va_newG (a0 := (4, .inl fun _ => 0)) (t0 := 0) hx hb (atype := .int) (hts (.arrayClass .int) kw_int) rfl (by intro C h; cases h) hK hP hD hS hA rfl (fun _ => rfl) (by decide) (by decide) (Nat.le_of_ble_eq_true rfl) (Nat.le_of_ble_eq_true rfl) (Nat.le_of_ble_eq_true rfl) dn_X0_41 (fun q6 H hP hD hS => ?_)
  have hP : va_P (dC, dI) vwCl ([(h0, .inr (0, [.int 0, .ref q1, .ref q2, .int 0, .ref q3, .ref q4, .ref q5, .null, .int 0, .int 0, .int 0, .int 0, .int 0, .null]))] ++ [(q1, .inl (G.1, 4, .inl fun _ => 0))] ++ [(q2, .inl (G.1, 4, .inl fun _ => 0))] ++ [(q3, .inl (G.1, 4, .inl fun _ => 0))] ++ [(q4, .inl (G.1, 4, .inl fun _ => 0))] ++ [(q5, .inl (G.1, 4, .inl fun _ => 0))] ++ [(q6, .inl (G.1, 4, .inl fun _ => 0))]) H := hP
  have hD : va_D A ([(h0, .inr (0, [.int 0, .ref q1, .ref q2, .int 0, .ref q3, .ref q4, .ref q5, .null, .int 0, .int 0, .int 0, .int 0, .int 0, .null]))] ++ [(q1, .inl (G.1, 4, .inl fun _ => 0))] ++ [(q2, .inl (G.1, 4, .inl fun _ => 0))] ++ [(q3, .inl (G.1, 4, .inl fun _ => 0))] ++ [(q4, .inl (G.1, 4, .inl fun _ => 0))] ++ [(q5, .inl (G.1, 4, .inl fun _ => 0))] ++ [(q6, .inl (G.1, 4, .inl fun _ => 0))]) := hD
  refine W.widen (k := 6) (n := 24) (Nat.le_of_ble_eq_true rfl) (Nat.le_of_ble_eq_true rfl) ?_
  refine va_putF (D := (dC, dI)) (ci := 0) (v := .ref q6) (ty := .array .int) (C := RX0) (T := TX0) (N := 14) hx hb hts in_X0 tyX0 tyX0_ok nmX0 hown hK hP hD hS 0 rfl rfl 7 (by decide) (hts (.fieldLink RX0 27 "TinkerTailor$Board" "stones" "[I") (tb_mem (pos := 165) (by decide +kernel) (by decide +kernel))) (fun _ h9 => h9) rfl hin rfl (by decide +kernel) rfl rfl (Nat.le_of_ble_eq_true rfl) dn_X0_43 (fun H locs hP hD hS => ?_)
  have hP : va_P (dC, dI) vwCl ([(h0, .inr (0, [.int 0, .ref q1, .ref q2, .int 0, .ref q3, .ref q4, .ref q5, .ref q6, .int 0, .int 0, .int 0, .int 0, .int 0, .null]))] ++ [(q1, .inl (G.1, 4, .inl fun _ => 0))] ++ [(q2, .inl (G.1, 4, .inl fun _ => 0))] ++ [(q3, .inl (G.1, 4, .inl fun _ => 0))] ++ [(q4, .inl (G.1, 4, .inl fun _ => 0))] ++ [(q5, .inl (G.1, 4, .inl fun _ => 0))] ++ [(q6, .inl (G.1, 4, .inl fun _ => 0))]) H := hP
  have hD : va_D A ([(h0, .inr (0, [.int 0, .ref q1, .ref q2, .int 0, .ref q3, .ref q4, .ref q5, .ref q6, .int 0, .int 0, .int 0, .int 0, .int 0, .null]))] ++ [(q1, .inl (G.1, 4, .inl fun _ => 0))] ++ [(q2, .inl (G.1, 4, .inl fun _ => 0))] ++ [(q3, .inl (G.1, 4, .inl fun _ => 0))] ++ [(q4, .inl (G.1, 4, .inl fun _ => 0))] ++ [(q5, .inl (G.1, 4, .inl fun _ => 0))] ++ [(q6, .inl (G.1, 4, .inl fun _ => 0))]) := hD
  refine lv_aload_n hx hb dn_X0_46 rfl (lv_at hl 0 rfl) ?_
  refine lv_iconst (v := 2) hx hb dn_X0_47 (by decide) ?_
  refine va_put (D := (dC, dI)) (ci := 0) (v := .int 2) (ty := .int) (C := RX0) (T := TX0) (N := 14) hx hb hts in_X0 tyX0 tyX0_ok nmX0 hown hK hP hD hS 0 rfl rfl 9 (by decide) (hts (.fieldLink RX0 30 "TinkerTailor$Board" "bunch" "I") (tb_mem (pos := 175) (by decide +kernel) (by decide +kernel))) (fun _ h9 => h9) rfl (by decide +kernel) rfl rfl (Nat.le_of_ble_eq_true rfl) dn_X0_48 (fun H locs hP hD hS => ?_)
  have hP : va_P (dC, dI) vwCl ([(h0, .inr (0, [.int 0, .ref q1, .ref q2, .int 0, .ref q3, .ref q4, .ref q5, .ref q6, .int 0, .int 2, .int 0, .int 0, .int 0, .null]))] ++ [(q1, .inl (G.1, 4, .inl fun _ => 0))] ++ [(q2, .inl (G.1, 4, .inl fun _ => 0))] ++ [(q3, .inl (G.1, 4, .inl fun _ => 0))] ++ [(q4, .inl (G.1, 4, .inl fun _ => 0))] ++ [(q5, .inl (G.1, 4, .inl fun _ => 0))] ++ [(q6, .inl (G.1, 4, .inl fun _ => 0))]) H := hP
  have hD : va_D A ([(h0, .inr (0, [.int 0, .ref q1, .ref q2, .int 0, .ref q3, .ref q4, .ref q5, .ref q6, .int 0, .int 2, .int 0, .int 0, .int 0, .null]))] ++ [(q1, .inl (G.1, 4, .inl fun _ => 0))] ++ [(q2, .inl (G.1, 4, .inl fun _ => 0))] ++ [(q3, .inl (G.1, 4, .inl fun _ => 0))] ++ [(q4, .inl (G.1, 4, .inl fun _ => 0))] ++ [(q5, .inl (G.1, 4, .inl fun _ => 0))] ++ [(q6, .inl (G.1, 4, .inl fun _ => 0))]) := hD
  refine lv_aload_n hx hb dn_X0_51 rfl (lv_at hl 0 rfl) ?_
  refine lv_iconst (v := 3) hx hb dn_X0_52 (by decide) ?_
  refine va_put (D := (dC, dI)) (ci := 0) (v := .int 3) (ty := .int) (C := RX0) (T := TX0) (N := 14) hx hb hts in_X0 tyX0 tyX0_ok nmX0 hown hK hP hD hS 0 rfl rfl 10 (by decide) (hts (.fieldLink RX0 34 "TinkerTailor$Board" "most" "I") (tb_mem (pos := 177) (by decide +kernel) (by decide +kernel))) (fun _ h9 => h9) rfl (by decide +kernel) rfl rfl (Nat.le_of_ble_eq_true rfl) dn_X0_53 (fun H locs hP hD hS => ?_)
  have hP : va_P (dC, dI) vwCl ([(h0, .inr (0, [.int 0, .ref q1, .ref q2, .int 0, .ref q3, .ref q4, .ref q5, .ref q6, .int 0, .int 2, .int 3, .int 0, .int 0, .null]))] ++ [(q1, .inl (G.1, 4, .inl fun _ => 0))] ++ [(q2, .inl (G.1, 4, .inl fun _ => 0))] ++ [(q3, .inl (G.1, 4, .inl fun _ => 0))] ++ [(q4, .inl (G.1, 4, .inl fun _ => 0))] ++ [(q5, .inl (G.1, 4, .inl fun _ => 0))] ++ [(q6, .inl (G.1, 4, .inl fun _ => 0))]) H := hP
  have hD : va_D A ([(h0, .inr (0, [.int 0, .ref q1, .ref q2, .int 0, .ref q3, .ref q4, .ref q5, .ref q6, .int 0, .int 2, .int 3, .int 0, .int 0, .null]))] ++ [(q1, .inl (G.1, 4, .inl fun _ => 0))] ++ [(q2, .inl (G.1, 4, .inl fun _ => 0))] ++ [(q3, .inl (G.1, 4, .inl fun _ => 0))] ++ [(q4, .inl (G.1, 4, .inl fun _ => 0))] ++ [(q5, .inl (G.1, 4, .inl fun _ => 0))] ++ [(q6, .inl (G.1, 4, .inl fun _ => 0))]) := hD
  refine lv_aload_n hx hb dn_X0_56 rfl (lv_at hl 0 rfl) ?_
  refine lv_iconst (v := 4) hx hb dn_X0_57 (by decide) ?_
  refine va_newG (a0 := (4, .inl fun _ => 0)) (t0 := 0) hx hb (atype := .int) (hts (.arrayClass .int) kw_int) rfl (by intro C h; cases h) hK hP hD hS hA rfl (fun _ => rfl) (by decide) (by decide) (Nat.le_of_ble_eq_true rfl) (Nat.le_of_ble_eq_true rfl) (Nat.le_of_ble_eq_true rfl) dn_X0_58 (fun q7 H hP hD hS => ?_)
  have hP : va_P (dC, dI) vwCl ([(h0, .inr (0, [.int 0, .ref q1, .ref q2, .int 0, .ref q3, .ref q4, .ref q5, .ref q6, .int 0, .int 2, .int 3, .int 0, .int 0, .null]))] ++ [(q1, .inl (G.1, 4, .inl fun _ => 0))] ++ [(q2, .inl (G.1, 4, .inl fun _ => 0))] ++ [(q3, .inl (G.1, 4, .inl fun _ => 0))] ++ [(q4, .inl (G.1, 4, .inl fun _ => 0))] ++ [(q5, .inl (G.1, 4, .inl fun _ => 0))] ++ [(q6, .inl (G.1, 4, .inl fun _ => 0))] ++ [(q7, .inl (G.1, 4, .inl fun _ => 0))]) H := hP
  have hD : va_D A ([(h0, .inr (0, [.int 0, .ref q1, .ref q2, .int 0, .ref q3, .ref q4, .ref q5, .ref q6, .int 0, .int 2, .int 3, .int 0, .int 0, .null]))] ++ [(q1, .inl (G.1, 4, .inl fun _ => 0))] ++ [(q2, .inl (G.1, 4, .inl fun _ => 0))] ++ [(q3, .inl (G.1, 4, .inl fun _ => 0))] ++ [(q4, .inl (G.1, 4, .inl fun _ => 0))] ++ [(q5, .inl (G.1, 4, .inl fun _ => 0))] ++ [(q6, .inl (G.1, 4, .inl fun _ => 0))] ++ [(q7, .inl (G.1, 4, .inl fun _ => 0))]) := hD
  refine W.widen (k := 7) (n := 28) (Nat.le_of_ble_eq_true rfl) (Nat.le_of_ble_eq_true rfl) ?_
  refine va_putF (D := (dC, dI)) (ci := 0) (v := .ref q7) (ty := .array .int) (C := RX0) (T := TX0) (N := 14) hx hb hts in_X0 tyX0 tyX0_ok nmX0 hown hK hP hD hS 0 rfl rfl 13 (by decide) (hts (.fieldLink RX0 37 "TinkerTailor$Board" "piles" "[I") (tb_mem (pos := 187) (by decide +kernel) (by decide +kernel))) (fun _ h9 => h9) rfl hin rfl (by decide +kernel) rfl rfl (Nat.le_of_ble_eq_true rfl) dn_X0_60 (fun H locs hP hD hS => ?_)
  have hP : va_P (dC, dI) vwCl ([(h0, .inr (0, [.int 0, .ref q1, .ref q2, .int 0, .ref q3, .ref q4, .ref q5, .ref q6, .int 0, .int 2, .int 3, .int 0, .int 0, .ref q7]))] ++ [(q1, .inl (G.1, 4, .inl fun _ => 0))] ++ [(q2, .inl (G.1, 4, .inl fun _ => 0))] ++ [(q3, .inl (G.1, 4, .inl fun _ => 0))] ++ [(q4, .inl (G.1, 4, .inl fun _ => 0))] ++ [(q5, .inl (G.1, 4, .inl fun _ => 0))] ++ [(q6, .inl (G.1, 4, .inl fun _ => 0))] ++ [(q7, .inl (G.1, 4, .inl fun _ => 0))]) H := hP
  have hD : va_D A ([(h0, .inr (0, [.int 0, .ref q1, .ref q2, .int 0, .ref q3, .ref q4, .ref q5, .ref q6, .int 0, .int 2, .int 3, .int 0, .int 0, .ref q7]))] ++ [(q1, .inl (G.1, 4, .inl fun _ => 0))] ++ [(q2, .inl (G.1, 4, .inl fun _ => 0))] ++ [(q3, .inl (G.1, 4, .inl fun _ => 0))] ++ [(q4, .inl (G.1, 4, .inl fun _ => 0))] ++ [(q5, .inl (G.1, 4, .inl fun _ => 0))] ++ [(q6, .inl (G.1, 4, .inl fun _ => 0))] ++ [(q7, .inl (G.1, 4, .inl fun _ => 0))]) := hD
  exact W.vret hx hb hr (fun t ht hW => ⟨⟨fun k => [h0, q1, q2, q3, q4, q5, q6, q7].getD k 0, rfl, rfl, by rw [ht]; exact hP, va_K.moved hW.alike hK, hD⟩, hS.F ht⟩) hS.2.2 dn_X0_63
