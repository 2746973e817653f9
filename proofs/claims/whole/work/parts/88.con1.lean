/-! ===== TinkerTailor$Games() ===== -/
def wdX1 (G : ClassId × (ClassId × ClassId)) (a : Nat → Nat) : va_W := [(a 0, .inr (1, [.ref (a 1)]))] ++ [(a 1, .inl (G.1, 1708, .inl fun _ => 0))]
theorem dn_X1_0 : decode cX1_init 0 = .ok (.aload_n 0, 1) := by decide +kernel
theorem dn_X1_1 : decode cX1_init 1 = .ok (.invokespecial 3, 3) := by decide +kernel
theorem dn_X1_4 : decode cX1_init 4 = .ok (.aload_n 0, 1) := by decide +kernel
theorem dn_X1_5 : decode cX1_init 5 = .ok (.sipush 1708, 3) := by decide +kernel
theorem dn_X1_8 : decode cX1_init 8 = .ok (.newarray .int, 2) := by decide +kernel
theorem dn_X1_10 : decode cX1_init 10 = .ok (.putfield 11, 3) := by decide +kernel
theorem dn_X1_13 : decode cX1_init 13 = .ok (.return_, 1) := by decide +kernel
theorem kn_X1 : (Cond.code yX1_init cX1_init 1 none) ∈ tb := (tb_mem (pos := 258) (by decide +kernel) (by decide +kernel))
theorem in_X1 : ∀ w ∈ u_ws RX1 TX1 1, w ∈ tb := tb_sub inX1 (by decide +kernel)
def wzX1 (h0 : Nat) : va_W := [(h0, .inr (1, [.null]))]
set_option maxHeartbeats 4000000 in
set_option maxRecDepth 100000 in
theorem cn_X1 (l : Launch) (dC : Nat → ClassId) (dI : Nat → Nat → Nat) (G : ClassId × (ClassId × ClassId)) (h0 sz : Nat) : Met l yX1_init (wsc yX1_init cX1_init) ({ frames := 1, cells := 1, slots := 1708, locals := 12 }) (va_Pc [.ref h0] (fun U => U.heap.size = sz ∧ va_P (dC, dI) vwCl (wzX1 h0) U.heap ∧ va_K (dC, dI) vwCl (tys G) U ∧ va_D (fun _ => True) (wzX1 h0))) (va_Qv (fun a : Nat → Nat => a 0 = h0) (fun a t => va_P (dC, dI) vwCl (wdX1 G a) t.heap ∧ va_K (dC, dI) vwCl (tys G) t ∧ va_D (va_A (wzX1 h0) sz) (wdX1 G a)) (va_A (wzX1 h0) sz)) 1 1708 (va_A (wzX1 h0) sz) := by
  refine Met.ofW (cc := cX1_init) (maxL := 1) (ret := none) (by decide) rfl ?_
  intro p e s m args below meth c s₁ B hml hv
  obtain ⟨rfl, hsz, hP, hK, hD0⟩ := hv
  have hx := B.exec
  have hb := B.bytes
  have hr := B.returns
  have hts : ∀ w ∈ tb, w.before ([Value.ref h0].toArray) s = true := fun w hw => atoms_spec (ws := wsc yX1_init cX1_init) B.pre w (List.mem_cons_of_mem _ hw)
  have hown : s.vm.findClass RX1 = some m.cls := findClass_of_methodNamed B.named
  have hin : meth.name = "<init>" := (name_of_methodNamed B.named B.method).1
  subst hsz
  have hD := hD0.self (sz := s.heap.size)
  generalize hAe : va_A (wzX1 h0) s.heap.size = A at hD ⊢
  have hA : ∀ q : Nat, s.heap.size ≤ q → A q := fun q h => by rw [← hAe]; exact Or.inr h
  have hS : va_S A s.heap s.heap [] := va_S.rf
  have hP : va_P (dC, dI) vwCl [(h0, .inr (1, [.null]))] s.heap := hP
  have hD : va_D A [(h0, .inr (1, [.null]))] := hD
  have hl := lv_entry ([.ref h0]) (n := 1) (Nat.le_of_ble_eq_true rfl)
  rw [lg_entry_eq]
  generalize (lg_sl ([.ref h0]) ++ List.replicate (1 - (lg_sl ([.ref h0])).length) Slot.unset).toArray = ls at hl ⊢
  have hl : lv_has ls 1 [(0, .ref h0)] := hl
  refine lv_aload_n hx hb dn_X1_0 rfl (lv_at hl 0 rfl) ?_
  refine W.objInit hx hb hown (hts (.methodLink RX1 3 objectInit) (tb_mem (pos := 259) (by decide +kernel) (by decide +kernel))) (hts (.instanceMethod objectInit) (tb_mem (pos := 139) (by decide +kernel) (by decide +kernel))) (hts (.code objectInit ⟨#[0xb1]⟩ 1 none) (tb_mem (pos := 140) (by decide +kernel) (by decide +kernel))) rfl (by rw [hml]; exact hl.1) rfl dn_X1_1 (Nat.le_of_ble_eq_true rfl) (Nat.le_of_ble_eq_true rfl) ?_
  refine W.eq (g2 := F0 m 4 ls []) rfl ?_
  refine lv_aload_n hx hb dn_X1_4 rfl (lv_at hl 0 rfl) ?_
  refine lv_sipush (v := 1708) hx hb dn_X1_5 (by decide) ?_
  refine va_newG (a0 := (1708, .inl fun _ => 0)) (t0 := 0) hx hb (atype := .int) (hts (.arrayClass .int) kw_int) rfl (by intro C h; cases h) hK hP hD hS hA rfl (fun _ => rfl) (by decide) (by decide) (Nat.le_of_ble_eq_true rfl) (Nat.le_of_ble_eq_true rfl) (Nat.le_of_ble_eq_true rfl) dn_X1_8 (fun q1 H hP hD hS => ?_)
  have hP : va_P (dC, dI) vwCl ([(h0, .inr (1, [.null]))] ++ [(q1, .inl (G.1, 1708, .inl fun _ => 0))]) H := hP
  have hD : va_D A ([(h0, .inr (1, [.null]))] ++ [(q1, .inl (G.1, 1708, .inl fun _ => 0))]) := hD
  refine W.widen (k := 1) (n := 1708) (Nat.le_of_ble_eq_true rfl) (Nat.le_of_ble_eq_true rfl) ?_
  refine va_putF (D := (dC, dI)) (ci := 1) (v := .ref q1) (ty := .array .int) (C := RX1) (T := TX1) (N := 1) hx hb hts in_X1 tyX1 tyX1_ok nmX1 hown hK hP hD hS 0 rfl rfl 0 (by decide) (hts (.fieldLink RX1 11 "TinkerTailor$Games" "outcomes" "[I") (tb_mem (pos := 260) (by decide +kernel) (by decide +kernel))) (fun _ h9 => h9) rfl hin rfl (by decide +kernel) rfl rfl (Nat.le_of_ble_eq_true rfl) dn_X1_10 (fun H locs hP hD hS => ?_)
  have hP : va_P (dC, dI) vwCl ([(h0, .inr (1, [.ref q1]))] ++ [(q1, .inl (G.1, 1708, .inl fun _ => 0))]) H := hP
  have hD : va_D A ([(h0, .inr (1, [.ref q1]))] ++ [(q1, .inl (G.1, 1708, .inl fun _ => 0))]) := hD
  exact W.vret hx hb hr (fun t ht hW => ⟨⟨fun k => [h0, q1].getD k 0, rfl, rfl, by rw [ht]; exact hP, va_K.moved hW.alike hK, hD⟩, hS.F ht⟩) hS.2.2 dn_X1_13
/-! ===== TinkerTailor$Letters() ===== -/
def wdX2 (G : ClassId × (ClassId × ClassId)) (a : Nat → Nat) : va_W := [(a 0, .inr (2, [.ref (a 1), .int 0]))] ++ [(a 1, .inl (G.1, 96, .inl fun _ => 0))]
theorem dn_X2_0 : decode cX2_init 0 = .ok (.aload_n 0, 1) := by decide +kernel
theorem dn_X2_1 : decode cX2_init 1 = .ok (.invokespecial 3, 3) := by decide +kernel
theorem dn_X2_4 : decode cX2_init 4 = .ok (.aload_n 0, 1) := by decide +kernel
theorem dn_X2_5 : decode cX2_init 5 = .ok (.bipush 96, 2) := by decide +kernel
theorem dn_X2_7 : decode cX2_init 7 = .ok (.newarray .int, 2) := by decide +kernel
theorem dn_X2_9 : decode cX2_init 9 = .ok (.putfield 11, 3) := by decide +kernel
theorem dn_X2_12 : decode cX2_init 12 = .ok (.return_, 1) := by decide +kernel
theorem kn_X2 : (Cond.code yX2_init cX2_init 1 none) ∈ tb := (tb_mem (pos := 224) (by decide +kernel) (by decide +kernel))
theorem in_X2 : ∀ w ∈ u_ws RX2 TX2 2, w ∈ tb := tb_sub inX2 (by decide +kernel)
def wzX2 (h0 : Nat) : va_W := [(h0, .inr (2, [.null, .int 0]))]
set_option maxHeartbeats 4000000 in
set_option maxRecDepth 100000 in
theorem cn_X2 (l : Launch) (dC : Nat → ClassId) (dI : Nat → Nat → Nat) (G : ClassId × (ClassId × ClassId)) (h0 sz : Nat) : Met l yX2_init (wsc yX2_init cX2_init) ({ frames := 1, cells := 1, slots := 96, locals := 12 }) (va_Pc [.ref h0] (fun U => U.heap.size = sz ∧ va_P (dC, dI) vwCl (wzX2 h0) U.heap ∧ va_K (dC, dI) vwCl (tys G) U ∧ va_D (fun _ => True) (wzX2 h0))) (va_Qv (fun a : Nat → Nat => a 0 = h0) (fun a t => va_P (dC, dI) vwCl (wdX2 G a) t.heap ∧ va_K (dC, dI) vwCl (tys G) t ∧ va_D (va_A (wzX2 h0) sz) (wdX2 G a)) (va_A (wzX2 h0) sz)) 1 96 (va_A (wzX2 h0) sz) := by
  refine Met.ofW (cc := cX2_init) (maxL := 1) (ret := none) (by decide) rfl ?_
  intro p e s m args below meth c s₁ B hml hv
  obtain ⟨rfl, hsz, hP, hK, hD0⟩ := hv
  have hx := B.exec
  have hb := B.bytes
  have hr := B.returns
  have hts : ∀ w ∈ tb, w.before ([Value.ref h0].toArray) s = true := fun w hw => atoms_spec (ws := wsc yX2_init cX2_init) B.pre w (List.mem_cons_of_mem _ hw)
  have hown : s.vm.findClass RX2 = some m.cls := findClass_of_methodNamed B.named
  have hin : meth.name = "<init>" := (name_of_methodNamed B.named B.method).1
  subst hsz
  have hD := hD0.self (sz := s.heap.size)
  generalize hAe : va_A (wzX2 h0) s.heap.size = A at hD ⊢
  have hA : ∀ q : Nat, s.heap.size ≤ q → A q := fun q h => by rw [← hAe]; exact Or.inr h
  have hS : va_S A s.heap s.heap [] := va_S.rf
  have hP : va_P (dC, dI) vwCl [(h0, .inr (2, [.null, .int 0]))] s.heap := hP
  have hD : va_D A [(h0, .inr (2, [.null, .int 0]))] := hD
  have hl := lv_entry ([.ref h0]) (n := 1) (Nat.le_of_ble_eq_true rfl)
  rw [lg_entry_eq]
  generalize (lg_sl ([.ref h0]) ++ List.replicate (1 - (lg_sl ([.ref h0])).length) Slot.unset).toArray = ls at hl ⊢
  have hl : lv_has ls 1 [(0, .ref h0)] := hl
  refine lv_aload_n hx hb dn_X2_0 rfl (lv_at hl 0 rfl) ?_
  refine W.objInit hx hb hown (hts (.methodLink RX2 3 objectInit) (tb_mem (pos := 225) (by decide +kernel) (by decide +kernel))) (hts (.instanceMethod objectInit) (tb_mem (pos := 139) (by decide +kernel) (by decide +kernel))) (hts (.code objectInit ⟨#[0xb1]⟩ 1 none) (tb_mem (pos := 140) (by decide +kernel) (by decide +kernel))) rfl (by rw [hml]; exact hl.1) rfl dn_X2_1 (Nat.le_of_ble_eq_true rfl) (Nat.le_of_ble_eq_true rfl) ?_
  refine W.eq (g2 := F0 m 4 ls []) rfl ?_
  refine lv_aload_n hx hb dn_X2_4 rfl (lv_at hl 0 rfl) ?_
  refine lv_bipush (v := 96) hx hb dn_X2_5 (by decide) ?_
  refine va_newG (a0 := (96, .inl fun _ => 0)) (t0 := 0) hx hb (atype := .int) (hts (.arrayClass .int) kw_int) rfl (by intro C h; cases h) hK hP hD hS hA rfl (fun _ => rfl) (by decide) (by decide) (Nat.le_of_ble_eq_true rfl) (Nat.le_of_ble_eq_true rfl) (Nat.le_of_ble_eq_true rfl) dn_X2_7 (fun q1 H hP hD hS => ?_)
  have hP : va_P (dC, dI) vwCl ([(h0, .inr (2, [.null, .int 0]))] ++ [(q1, .inl (G.1, 96, .inl fun _ => 0))]) H := hP
  have hD : va_D A ([(h0, .inr (2, [.null, .int 0]))] ++ [(q1, .inl (G.1, 96, .inl fun _ => 0))]) := hD
  refine W.widen (k := 1) (n := 96) (Nat.le_of_ble_eq_true rfl) (Nat.le_of_ble_eq_true rfl) ?_
  refine va_putF (D := (dC, dI)) (ci := 2) (v := .ref q1) (ty := .array .int) (C := RX2) (T := TX2) (N := 2) hx hb hts in_X2 tyX2 tyX2_ok nmX2 hown hK hP hD hS 0 rfl rfl 0 (by decide) (hts (.fieldLink RX2 11 "TinkerTailor$Letters" "signs" "[I") (tb_mem (pos := 226) (by decide +kernel) (by decide +kernel))) (fun _ h9 => h9) rfl hin rfl (by decide +kernel) rfl rfl (Nat.le_of_ble_eq_true rfl) dn_X2_9 (fun H locs hP hD hS => ?_)
  have hP : va_P (dC, dI) vwCl ([(h0, .inr (2, [.ref q1, .int 0]))] ++ [(q1, .inl (G.1, 96, .inl fun _ => 0))]) H := hP
  have hD : va_D A ([(h0, .inr (2, [.ref q1, .int 0]))] ++ [(q1, .inl (G.1, 96, .inl fun _ => 0))]) := hD
  exact W.vret hx hb hr (fun t ht hW => ⟨⟨fun k => [h0, q1].getD k 0, rfl, rfl, by rw [ht]; exact hP, va_K.moved hW.alike hK, hD⟩, hS.F ht⟩) hS.2.2 dn_X2_12
/-! ===== TinkerTailor$Past() ===== -/
def wdX3 (G : ClassId × (ClassId × ClassId)) (a : Nat → Nat) : va_W := [(a 0, .inr (3, [.ref (a 1), .ref (a 2), .ref (a 3), .int 0]))] ++ [(a 1, .inl (G.1, 8, .inl fun _ => 0)), (a 2, .inl (G.1, 8, .inl fun _ => 0)), (a 3, .inl (G.1, 8, .inl fun _ => 0))]
theorem dn_X3_0 : decode cX3_init 0 = .ok (.aload_n 0, 1) := by decide +kernel
theorem dn_X3_1 : decode cX3_init 1 = .ok (.invokespecial 3, 3) := by decide +kernel
theorem dn_X3_4 : decode cX3_init 4 = .ok (.aload_n 0, 1) := by decide +kernel
theorem dn_X3_5 : decode cX3_init 5 = .ok (.bipush 8, 2) := by decide +kernel
theorem dn_X3_7 : decode cX3_init 7 = .ok (.newarray .int, 2) := by decide +kernel
theorem dn_X3_9 : decode cX3_init 9 = .ok (.putfield 11, 3) := by decide +kernel
theorem dn_X3_12 : decode cX3_init 12 = .ok (.aload_n 0, 1) := by decide +kernel
theorem dn_X3_13 : decode cX3_init 13 = .ok (.bipush 8, 2) := by decide +kernel
theorem dn_X3_15 : decode cX3_init 15 = .ok (.newarray .int, 2) := by decide +kernel
theorem dn_X3_17 : decode cX3_init 17 = .ok (.putfield 15, 3) := by decide +kernel
theorem dn_X3_20 : decode cX3_init 20 = .ok (.aload_n 0, 1) := by decide +kernel
theorem dn_X3_21 : decode cX3_init 21 = .ok (.bipush 8, 2) := by decide +kernel
theorem dn_X3_23 : decode cX3_init 23 = .ok (.newarray .int, 2) := by decide +kernel
theorem dn_X3_25 : decode cX3_init 25 = .ok (.putfield 18, 3) := by decide +kernel
theorem dn_X3_28 : decode cX3_init 28 = .ok (.return_, 1) := by decide +kernel
theorem kn_X3 : (Cond.code yX3_init cX3_init 1 none) ∈ tb := (tb_mem (pos := 238) (by decide +kernel) (by decide +kernel))
theorem in_X3 : ∀ w ∈ u_ws RX3 TX3 4, w ∈ tb := tb_sub inX3 (by decide +kernel)
def wzX3 (h0 : Nat) : va_W := [(h0, .inr (3, [.null, .null, .null, .int 0]))]
set_option maxHeartbeats 4000000 in
set_option maxRecDepth 100000 in
theorem cn_X3 (l : Launch) (dC : Nat → ClassId) (dI : Nat → Nat → Nat) (G : ClassId × (ClassId × ClassId)) (h0 sz : Nat) : Met l yX3_init (wsc yX3_init cX3_init) ({ frames := 1, cells := 3, slots := 24, locals := 12 }) (va_Pc [.ref h0] (fun U => U.heap.size = sz ∧ va_P (dC, dI) vwCl (wzX3 h0) U.heap ∧ va_K (dC, dI) vwCl (tys G) U ∧ va_D (fun _ => True) (wzX3 h0))) (va_Qv (fun a : Nat → Nat => a 0 = h0) (fun a t => va_P (dC, dI) vwCl (wdX3 G a) t.heap ∧ va_K (dC, dI) vwCl (tys G) t ∧ va_D (va_A (wzX3 h0) sz) (wdX3 G a)) (va_A (wzX3 h0) sz)) 3 24 (va_A (wzX3 h0) sz) := by
  refine Met.ofW (cc := cX3_init) (maxL := 1) (ret := none) (by decide) rfl ?_
  intro p e s m args below meth c s₁ B hml hv
  obtain ⟨rfl, hsz, hP, hK, hD0⟩ := hv
  have hx := B.exec
  have hb := B.bytes
  have hr := B.returns
  have hts : ∀ w ∈ tb, w.before ([Value.ref h0].toArray) s = true := fun w hw => atoms_spec (ws := wsc yX3_init cX3_init) B.pre w (List.mem_cons_of_mem _ hw)
  have hown : s.vm.findClass RX3 = some m.cls := findClass_of_methodNamed B.named
  have hin : meth.name = "<init>" := (name_of_methodNamed B.named B.method).1
  subst hsz
  have hD := hD0.self (sz := s.heap.size)
  generalize hAe : va_A (wzX3 h0) s.heap.size = A at hD ⊢
  have hA : ∀ q : Nat, s.heap.size ≤ q → A q := fun q h => by rw [← hAe]; exact Or.inr h
  have hS : va_S A s.heap s.heap [] := va_S.rf
  have hP : va_P (dC, dI) vwCl [(h0, .inr (3, [.null, .null, .null, .int 0]))] s.heap := hP
  have hD : va_D A [(h0, .inr (3, [.null, .null, .null, .int 0]))] := hD
  have hl := lv_entry ([.ref h0]) (n := 1) (Nat.le_of_ble_eq_true rfl)
  rw [lg_entry_eq]
  generalize (lg_sl ([.ref h0]) ++ List.replicate (1 - (lg_sl ([.ref h0])).length) Slot.unset).toArray = ls at hl ⊢
  have hl : lv_has ls 1 [(0, .ref h0)] := hl
  refine lv_aload_n hx hb dn_X3_0 rfl (lv_at hl 0 rfl) ?_
  refine W.objInit hx hb hown (hts (.methodLink RX3 3 objectInit) (tb_mem (pos := 239) (by decide +kernel) (by decide +kernel))) (hts (.instanceMethod objectInit) (tb_mem (pos := 139) (by decide +kernel) (by decide +kernel))) (hts (.code objectInit ⟨#[0xb1]⟩ 1 none) (tb_mem (pos := 140) (by decide +kernel) (by decide +kernel))) rfl (by rw [hml]; exact hl.1) rfl dn_X3_1 (Nat.le_of_ble_eq_true rfl) (Nat.le_of_ble_eq_true rfl) ?_
  refine W.eq (g2 := F0 m 4 ls []) rfl ?_
  refine lv_aload_n hx hb dn_X3_4 rfl (lv_at hl 0 rfl) ?_
  refine lv_bipush (v := 8) hx hb dn_X3_5 (by decide) ?_
  refine va_newG (a0 := (8, .inl fun _ => 0)) (t0 := 0) hx hb (atype := .int) (hts (.arrayClass .int) kw_int) rfl (by intro C h; cases h) hK hP hD hS hA rfl (fun _ => rfl) (by decide) (by decide) (Nat.le_of_ble_eq_true rfl) (Nat.le_of_ble_eq_true rfl) (Nat.le_of_ble_eq_true rfl) dn_X3_7 (fun q1 H hP hD hS => ?_)
  have hP : va_P (dC, dI) vwCl ([(h0, .inr (3, [.null, .null, .null, .int 0]))] ++ [(q1, .inl (G.1, 8, .inl fun _ => 0))]) H := hP
  have hD : va_D A ([(h0, .inr (3, [.null, .null, .null, .int 0]))] ++ [(q1, .inl (G.1, 8, .inl fun _ => 0))]) := hD
  refine W.widen (k := 1) (n := 8) (Nat.le_of_ble_eq_true rfl) (Nat.le_of_ble_eq_true rfl) ?_
  refine va_putF (D := (dC, dI)) (ci := 3) (v := .ref q1) (ty := .array .int) (C := RX3) (T := TX3) (N := 4) hx hb hts in_X3 tyX3 tyX3_ok nmX3 hown hK hP hD hS 0 rfl rfl 0 (by decide) (hts (.fieldLink RX3 11 "TinkerTailor$Past" "eaters" "[I") (tb_mem (pos := 240) (by decide +kernel) (by decide +kernel))) (fun _ h9 => h9) rfl hin rfl (by decide +kernel) rfl rfl (Nat.le_of_ble_eq_true rfl) dn_X3_9 (fun H locs hP hD hS => ?_)
  have hP : va_P (dC, dI) vwCl ([(h0, .inr (3, [.ref q1, .null, .null, .int 0]))] ++ [(q1, .inl (G.1, 8, .inl fun _ => 0))]) H := hP
  have hD : va_D A ([(h0, .inr (3, [.ref q1, .null, .null, .int 0]))] ++ [(q1, .inl (G.1, 8, .inl fun _ => 0))]) := hD
  refine lv_aload_n hx hb dn_X3_12 rfl (lv_at hl 0 rfl) ?_
  refine lv_bipush (v := 8) hx hb dn_X3_13 (by decide) ?_
  refine va_newG (a0 := (8, .inl fun _ => 0)) (t0 := 0) hx hb (atype := .int) (hts (.arrayClass .int) kw_int) rfl (by intro C h; cases h) hK hP hD hS hA rfl (fun _ => rfl) (by decide) (by decide) (Nat.le_of_ble_eq_true rfl) (Nat.le_of_ble_eq_true rfl) (Nat.le_of_ble_eq_true rfl) dn_X3_15 (fun q2 H hP hD hS => ?_)
  have hP : va_P (dC, dI) vwCl ([(h0, .inr (3, [.ref q1, .null, .null, .int 0]))] ++ [(q1, .inl (G.1, 8, .inl fun _ => 0))] ++ [(q2, .inl (G.1, 8, .inl fun _ => 0))]) H := hP
  have hD : va_D A ([(h0, .inr (3, [.ref q1, .null, .null, .int 0]))] ++ [(q1, .inl (G.1, 8, .inl fun _ => 0))] ++ [(q2, .inl (G.1, 8, .inl fun _ => 0))]) := hD
  refine W.widen (k := 2) (n := 16) (Nat.le_of_ble_eq_true rfl) (Nat.le_of_ble_eq_true rfl) ?_
  refine va_putF (D := (dC, dI)) (ci := 3) (v := .ref q2) (ty := .array .int) (C := RX3) (T := TX3) (N := 4) hx hb hts in_X3 tyX3 tyX3_ok nmX3 hown hK hP hD hS 0 rfl rfl 1 (by decide) (hts (.fieldLink RX3 15 "TinkerTailor$Past" "fruits" "[I") (tb_mem (pos := 241) (by decide +kernel) (by decide +kernel))) (fun _ h9 => h9) rfl hin rfl (by decide +kernel) rfl rfl (Nat.le_of_ble_eq_true rfl) dn_X3_17 (fun H locs hP hD hS => ?_)
  have hP : va_P (dC, dI) vwCl ([(h0, .inr (3, [.ref q1, .ref q2, .null, .int 0]))] ++ [(q1, .inl (G.1, 8, .inl fun _ => 0))] ++ [(q2, .inl (G.1, 8, .inl fun _ => 0))]) H := hP
  have hD : va_D A ([(h0, .inr (3, [.ref q1, .ref q2, .null, .int 0]))] ++ [(q1, .inl (G.1, 8, .inl fun _ => 0))] ++ [(q2, .inl (G.1, 8, .inl fun _ => 0))]) := hD
  refine lv_aload_n hx hb dn_X3_20 rfl (lv_at hl 0 rfl) ?_
  refine lv_bipush (v := 8) hx hb dn_X3_21 (by decide) ?_
  refine va_newG (a0 := (8, .inl fun _ => 0)) (t0 := 0) hx hb (atype := .int) (hts (.arrayClass .int) kw_int) rfl (by intro C h; cases h) hK hP hD hS hA rfl (fun _ => rfl) (by decide) (by decide) (Nat.le_of_ble_eq_true rfl) (Nat.le_of_ble_eq_true rfl) (Nat.le_of_ble_eq_true rfl) dn_X3_23 (fun q3 H hP hD hS => ?_)
  have hP : va_P (dC, dI) vwCl ([(h0, .inr (3, [.ref q1, .ref q2, .null, .int 0]))] ++ [(q1, .inl (G.1, 8, .inl fun _ => 0))] ++ [(q2, .inl (G.1, 8, .inl fun _ => 0))] ++ [(q3, .inl (G.1, 8, .inl fun _ => 0))]) H := hP
  have hD : va_D A ([(h0, .inr (3, [.ref q1, .ref q2, .null, .int 0]))] ++ [(q1, .inl (G.1, 8, .inl fun _ => 0))] ++ [(q2, .inl (G.1, 8, .inl fun _ => 0))] ++ [(q3, .inl (G.1, 8, .inl fun _ => 0))]) := hD
  refine W.widen (k := 3) (n := 24) (Nat.le_of_ble_eq_true rfl) (Nat.le_of_ble_eq_true rfl) ?_
  refine va_putF (D := (dC, dI)) (ci := 3) (v := .ref q3) (ty := .array .int) (C := RX3) (T := TX3) (N := 4) hx hb hts in_X3 tyX3 tyX3_ok nmX3 hown hK hP hD hS 0 rfl rfl 2 (by decide) (hts (.fieldLink RX3 18 "TinkerTailor$Past" "stones" "[I") (tb_mem (pos := 242) (by decide +kernel) (by decide +kernel))) (fun _ h9 => h9) rfl hin rfl (by decide +kernel) rfl rfl (Nat.le_of_ble_eq_true rfl) dn_X3_25 (fun H locs hP hD hS => ?_)
  have hP : va_P (dC, dI) vwCl ([(h0, .inr (3, [.ref q1, .ref q2, .ref q3, .int 0]))] ++ [(q1, .inl (G.1, 8, .inl fun _ => 0))] ++ [(q2, .inl (G.1, 8, .inl fun _ => 0))] ++ [(q3, .inl (G.1, 8, .inl fun _ => 0))]) H := hP
  have hD : va_D A ([(h0, .inr (3, [.ref q1, .ref q2, .ref q3, .int 0]))] ++ [(q1, .inl (G.1, 8, .inl fun _ => 0))] ++ [(q2, .inl (G.1, 8, .inl fun _ => 0))] ++ [(q3, .inl (G.1, 8, .inl fun _ => 0))]) := hD
  exact W.vret hx hb hr (fun t ht hW => ⟨⟨fun k => [h0, q1, q2, q3].getD k 0, rfl, rfl, by rw [ht]; exact hP, va_K.moved hW.alike hK, hD⟩, hS.F ht⟩) hS.2.2 dn_X3_28
/-! ===== TinkerTailor$Shares() ===== -/
def wdX4 (G : ClassId × (ClassId × ClassId)) (a : Nat → Nat) : va_W := [(a 0, .inr (4, [.ref (a 1), .ref (a 2)]))] ++ [(a 1, .inl (G.2.1, 61, .inr (.inl fun _ => 0))), (a 2, .inl (G.1, 397, .inl fun _ => 0))]
theorem dn_X4_0 : decode cX4_init 0 = .ok (.aload_n 0, 1) := by decide +kernel
theorem dn_X4_1 : decode cX4_init 1 = .ok (.invokespecial 3, 3) := by decide +kernel
theorem dn_X4_4 : decode cX4_init 4 = .ok (.aload_n 0, 1) := by decide +kernel
theorem dn_X4_5 : decode cX4_init 5 = .ok (.bipush 61, 2) := by decide +kernel
theorem dn_X4_7 : decode cX4_init 7 = .ok (.newarray .long, 2) := by decide +kernel
theorem dn_X4_9 : decode cX4_init 9 = .ok (.putfield 9, 3) := by decide +kernel
theorem dn_X4_12 : decode cX4_init 12 = .ok (.aload_n 0, 1) := by decide +kernel
theorem dn_X4_13 : decode cX4_init 13 = .ok (.sipush 397, 3) := by decide +kernel
theorem dn_X4_16 : decode cX4_init 16 = .ok (.newarray .int, 2) := by decide +kernel
theorem dn_X4_18 : decode cX4_init 18 = .ok (.putfield 15, 3) := by decide +kernel
theorem dn_X4_21 : decode cX4_init 21 = .ok (.return_, 1) := by decide +kernel
theorem kn_X4 : (Cond.code yX4_init cX4_init 1 none) ∈ tb := (tb_mem (pos := 268) (by decide +kernel) (by decide +kernel))
theorem in_X4 : ∀ w ∈ u_ws RX4 TX4 2, w ∈ tb := tb_sub inX4 (by decide +kernel)
def wzX4 (h0 : Nat) : va_W := [(h0, .inr (4, [.null, .null]))]
set_option maxHeartbeats 4000000 in
set_option maxRecDepth 100000 in
theorem cn_X4 (l : Launch) (dC : Nat → ClassId) (dI : Nat → Nat → Nat) (G : ClassId × (ClassId × ClassId)) (h0 sz : Nat) : Met l yX4_init (wsc yX4_init cX4_init) ({ frames := 1, cells := 2, slots := 458, locals := 12 }) (va_Pc [.ref h0] (fun U => U.heap.size = sz ∧ va_P (dC, dI) vwCl (wzX4 h0) U.heap ∧ va_K (dC, dI) vwCl (tys G) U ∧ va_D (fun _ => True) (wzX4 h0))) (va_Qv (fun a : Nat → Nat => a 0 = h0) (fun a t => va_P (dC, dI) vwCl (wdX4 G a) t.heap ∧ va_K (dC, dI) vwCl (tys G) t ∧ va_D (va_A (wzX4 h0) sz) (wdX4 G a)) (va_A (wzX4 h0) sz)) 2 458 (va_A (wzX4 h0) sz) := by
  refine Met.ofW (cc := cX4_init) (maxL := 1) (ret := none) (by decide) rfl ?_
  intro p e s m args below meth c s₁ B hml hv
  obtain ⟨rfl, hsz, hP, hK, hD0⟩ := hv
  have hx := B.exec
  have hb := B.bytes
  have hr := B.returns
  have hts : ∀ w ∈ tb, w.before ([Value.ref h0].toArray) s = true := fun w hw => atoms_spec (ws := wsc yX4_init cX4_init) B.pre w (List.mem_cons_of_mem _ hw)
  have hown : s.vm.findClass RX4 = some m.cls := findClass_of_methodNamed B.named
  have hin : meth.name = "<init>" := (name_of_methodNamed B.named B.method).1
  subst hsz
  have hD := hD0.self (sz := s.heap.size)
  generalize hAe : va_A (wzX4 h0) s.heap.size = A at hD ⊢
  have hA : ∀ q : Nat, s.heap.size ≤ q → A q := fun q h => by rw [← hAe]; exact Or.inr h
  have hS : va_S A s.heap s.heap [] := va_S.rf
  have hP : va_P (dC, dI) vwCl [(h0, .inr (4, [.null, .null]))] s.heap := hP
  have hD : va_D A [(h0, .inr (4, [.null, .null]))] := hD
  have hl := lv_entry ([.ref h0]) (n := 1) (Nat.le_of_ble_eq_true rfl)
  rw [lg_entry_eq]
  generalize (lg_sl ([.ref h0]) ++ List.replicate (1 - (lg_sl ([.ref h0])).length) Slot.unset).toArray = ls at hl ⊢
  have hl : lv_has ls 1 [(0, .ref h0)] := hl
  refine lv_aload_n hx hb dn_X4_0 rfl (lv_at hl 0 rfl) ?_
  refine W.objInit hx hb hown (hts (.methodLink RX4 3 objectInit) (tb_mem (pos := 269) (by decide +kernel) (by decide +kernel))) (hts (.instanceMethod objectInit) (tb_mem (pos := 139) (by decide +kernel) (by decide +kernel))) (hts (.code objectInit ⟨#[0xb1]⟩ 1 none) (tb_mem (pos := 140) (by decide +kernel) (by decide +kernel))) rfl (by rw [hml]; exact hl.1) rfl dn_X4_1 (Nat.le_of_ble_eq_true rfl) (Nat.le_of_ble_eq_true rfl) ?_
  refine W.eq (g2 := F0 m 4 ls []) rfl ?_
  refine lv_aload_n hx hb dn_X4_4 rfl (lv_at hl 0 rfl) ?_
  refine lv_bipush (v := 61) hx hb dn_X4_5 (by decide) ?_
  refine va_newG (a0 := (61, .inr (.inl fun _ => 0))) (t0 := 1) hx hb (atype := .long) (hts (.arrayClass .long) kw_long) rfl (by intro C h; cases h) hK hP hD hS hA rfl (fun _ => rfl) (by decide) (by decide) (Nat.le_of_ble_eq_true rfl) (Nat.le_of_ble_eq_true rfl) (Nat.le_of_ble_eq_true rfl) dn_X4_7 (fun q1 H hP hD hS => ?_)
  have hP : va_P (dC, dI) vwCl ([(h0, .inr (4, [.null, .null]))] ++ [(q1, .inl (G.2.1, 61, .inr (.inl fun _ => 0)))]) H := hP
  have hD : va_D A ([(h0, .inr (4, [.null, .null]))] ++ [(q1, .inl (G.2.1, 61, .inr (.inl fun _ => 0)))]) := hD
  refine W.widen (k := 1) (n := 61) (Nat.le_of_ble_eq_true rfl) (Nat.le_of_ble_eq_true rfl) ?_
  refine va_putF (D := (dC, dI)) (ci := 4) (v := .ref q1) (ty := .array .long) (C := RX4) (T := TX4) (N := 2) hx hb hts in_X4 tyX4 tyX4_ok nmX4 hown hK hP hD hS 0 rfl rfl 0 (by decide) (hts (.fieldLink RX4 9 "TinkerTailor$Shares" "ways" "[J") (tb_mem (pos := 270) (by decide +kernel) (by decide +kernel))) (fun _ h9 => h9) rfl hin rfl (by decide +kernel) rfl rfl (Nat.le_of_ble_eq_true rfl) dn_X4_9 (fun H locs hP hD hS => ?_)
  have hP : va_P (dC, dI) vwCl ([(h0, .inr (4, [.ref q1, .null]))] ++ [(q1, .inl (G.2.1, 61, .inr (.inl fun _ => 0)))]) H := hP
  have hD : va_D A ([(h0, .inr (4, [.ref q1, .null]))] ++ [(q1, .inl (G.2.1, 61, .inr (.inl fun _ => 0)))]) := hD
  refine lv_aload_n hx hb dn_X4_12 rfl (lv_at hl 0 rfl) ?_
  refine lv_sipush (v := 397) hx hb dn_X4_13 (by decide) ?_
  refine va_newG (a0 := (397, .inl fun _ => 0)) (t0 := 0) hx hb (atype := .int) (hts (.arrayClass .int) kw_int) rfl (by intro C h; cases h) hK hP hD hS hA rfl (fun _ => rfl) (by decide) (by decide) (Nat.le_of_ble_eq_true rfl) (Nat.le_of_ble_eq_true rfl) (Nat.le_of_ble_eq_true rfl) dn_X4_16 (fun q2 H hP hD hS => ?_)
  have hP : va_P (dC, dI) vwCl ([(h0, .inr (4, [.ref q1, .null]))] ++ [(q1, .inl (G.2.1, 61, .inr (.inl fun _ => 0)))] ++ [(q2, .inl (G.1, 397, .inl fun _ => 0))]) H := hP
  have hD : va_D A ([(h0, .inr (4, [.ref q1, .null]))] ++ [(q1, .inl (G.2.1, 61, .inr (.inl fun _ => 0)))] ++ [(q2, .inl (G.1, 397, .inl fun _ => 0))]) := hD
  refine W.widen (k := 2) (n := 458) (Nat.le_of_ble_eq_true rfl) (Nat.le_of_ble_eq_true rfl) ?_
  refine va_putF (D := (dC, dI)) (ci := 4) (v := .ref q2) (ty := .array .int) (C := RX4) (T := TX4) (N := 2) hx hb hts in_X4 tyX4 tyX4_ok nmX4 hown hK hP hD hS 0 rfl rfl 1 (by decide) (hts (.fieldLink RX4 15 "TinkerTailor$Shares" "costs" "[I") (tb_mem (pos := 271) (by decide +kernel) (by decide +kernel))) (fun _ h9 => h9) rfl hin rfl (by decide +kernel) rfl rfl (Nat.le_of_ble_eq_true rfl) dn_X4_18 (fun H locs hP hD hS => ?_)
  have hP : va_P (dC, dI) vwCl ([(h0, .inr (4, [.ref q1, .ref q2]))] ++ [(q1, .inl (G.2.1, 61, .inr (.inl fun _ => 0)))] ++ [(q2, .inl (G.1, 397, .inl fun _ => 0))]) H := hP
  have hD : va_D A ([(h0, .inr (4, [.ref q1, .ref q2]))] ++ [(q1, .inl (G.2.1, 61, .inr (.inl fun _ => 0)))] ++ [(q2, .inl (G.1, 397, .inl fun _ => 0))]) := hD
  exact W.vret hx hb hr (fun t ht hW => ⟨⟨fun k => [h0, q1, q2].getD k 0, rfl, rfl, by rw [ht]; exact hP, va_K.moved hW.alike hK, hD⟩, hS.F ht⟩) hS.2.2 dn_X4_21
