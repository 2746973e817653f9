/-! ===== TinkerTailor() ===== -/
def wdX5 (G : ClassId × (ClassId × ClassId)) (a : Nat → Nat) : va_W := [(a 0, .inr (5, [.ref (a 1), .ref (a 9), .ref (a 17), .int 0, .ref (a 25), .ref (a 27), .ref (a 31), .int 0, .ref (a 32), .ref (a 33), .ref (a 35)]))] ++ wdX0 G (fun k => a (1 + k)) ++ wdX0 G (fun k => a (9 + k)) ++ wdX0 G (fun k => a (17 + k)) ++ wdX2 G (fun k => a (25 + k)) ++ wdX3 G (fun k => a (27 + k)) ++ [(a 31, .inl (G.1, 12, .inl fun _ => 0)), (a 32, .inl (G.1, 7, .inl fun _ => 0))] ++ wdX1 G (fun k => a (33 + k)) ++ wdX4 G (fun k => a (35 + k))
theorem dn_X5_0 : decode cX5_init 0 = .ok (.aload_n 0, 1) := by decide +kernel
theorem dn_X5_1 : decode cX5_init 1 = .ok (.invokespecial 1, 3) := by decide +kernel
theorem dn_X5_4 : decode cX5_init 4 = .ok (.aload_n 0, 1) := by decide +kernel
theorem dn_X5_5 : decode cX5_init 5 = .ok (.new 7, 3) := by decide +kernel
theorem dn_X5_8 : decode cX5_init 8 = .ok (.dup, 1) := by decide +kernel
theorem dn_X5_9 : decode cX5_init 9 = .ok (.invokespecial 9, 3) := by decide +kernel
theorem dn_X5_12 : decode cX5_init 12 = .ok (.putfield 10, 3) := by decide +kernel
theorem dn_X5_15 : decode cX5_init 15 = .ok (.aload_n 0, 1) := by decide +kernel
theorem dn_X5_16 : decode cX5_init 16 = .ok (.new 7, 3) := by decide +kernel
theorem dn_X5_19 : decode cX5_init 19 = .ok (.dup, 1) := by decide +kernel
theorem dn_X5_20 : decode cX5_init 20 = .ok (.invokespecial 9, 3) := by decide +kernel
theorem dn_X5_23 : decode cX5_init 23 = .ok (.putfield 16, 3) := by decide +kernel
theorem dn_X5_26 : decode cX5_init 26 = .ok (.aload_n 0, 1) := by decide +kernel
theorem dn_X5_27 : decode cX5_init 27 = .ok (.new 7, 3) := by decide +kernel
theorem dn_X5_30 : decode cX5_init 30 = .ok (.dup, 1) := by decide +kernel
theorem dn_X5_31 : decode cX5_init 31 = .ok (.invokespecial 9, 3) := by decide +kernel
theorem dn_X5_34 : decode cX5_init 34 = .ok (.putfield 19, 3) := by decide +kernel
theorem dn_X5_37 : decode cX5_init 37 = .ok (.aload_n 0, 1) := by decide +kernel
theorem dn_X5_38 : decode cX5_init 38 = .ok (.new 22, 3) := by decide +kernel
theorem dn_X5_41 : decode cX5_init 41 = .ok (.dup, 1) := by decide +kernel
theorem dn_X5_42 : decode cX5_init 42 = .ok (.invokespecial 24, 3) := by decide +kernel
theorem dn_X5_45 : decode cX5_init 45 = .ok (.putfield 25, 3) := by decide +kernel
theorem dn_X5_48 : decode cX5_init 48 = .ok (.aload_n 0, 1) := by decide +kernel
theorem dn_X5_49 : decode cX5_init 49 = .ok (.new 29, 3) := by decide +kernel
theorem dn_X5_52 : decode cX5_init 52 = .ok (.dup, 1) := by decide +kernel
theorem dn_X5_53 : decode cX5_init 53 = .ok (.invokespecial 31, 3) := by decide +kernel
theorem dn_X5_56 : decode cX5_init 56 = .ok (.putfield 32, 3) := by decide +kernel
theorem dn_X5_59 : decode cX5_init 59 = .ok (.aload_n 0, 1) := by decide +kernel
theorem dn_X5_60 : decode cX5_init 60 = .ok (.bipush 12, 2) := by decide +kernel
theorem dn_X5_62 : decode cX5_init 62 = .ok (.newarray .int, 2) := by decide +kernel
theorem dn_X5_64 : decode cX5_init 64 = .ok (.putfield 36, 3) := by decide +kernel
theorem dn_X5_67 : decode cX5_init 67 = .ok (.aload_n 0, 1) := by decide +kernel
theorem dn_X5_68 : decode cX5_init 68 = .ok (.bipush 7, 2) := by decide +kernel
theorem dn_X5_70 : decode cX5_init 70 = .ok (.newarray .int, 2) := by decide +kernel
theorem dn_X5_72 : decode cX5_init 72 = .ok (.putfield 40, 3) := by decide +kernel
theorem dn_X5_75 : decode cX5_init 75 = .ok (.aload_n 0, 1) := by decide +kernel
theorem dn_X5_76 : decode cX5_init 76 = .ok (.new 43, 3) := by decide +kernel
theorem dn_X5_79 : decode cX5_init 79 = .ok (.dup, 1) := by decide +kernel
theorem dn_X5_80 : decode cX5_init 80 = .ok (.invokespecial 45, 3) := by decide +kernel
theorem dn_X5_83 : decode cX5_init 83 = .ok (.putfield 46, 3) := by decide +kernel
theorem dn_X5_86 : decode cX5_init 86 = .ok (.aload_n 0, 1) := by decide +kernel
theorem dn_X5_87 : decode cX5_init 87 = .ok (.new 50, 3) := by decide +kernel
theorem dn_X5_90 : decode cX5_init 90 = .ok (.dup, 1) := by decide +kernel
theorem dn_X5_91 : decode cX5_init 91 = .ok (.invokespecial 52, 3) := by decide +kernel
theorem dn_X5_94 : decode cX5_init 94 = .ok (.putfield 53, 3) := by decide +kernel
theorem dn_X5_97 : decode cX5_init 97 = .ok (.return_, 1) := by decide +kernel
theorem kn_X5 : (Cond.code yX5_init cX5_init 1 none) ∈ tb := (tb_mem (pos := 137) (by decide +kernel) (by decide +kernel))
theorem in_X5 : ∀ w ∈ u_ws RX5 TX5 11, w ∈ tb := tb_sub inX5 (by decide +kernel)
def wzX5 (h0 : Nat) : va_W := [(h0, .inr (5, [.null, .null, .null, .int 0, .null, .null, .null, .int 0, .null, .null, .null]))]
set_option maxHeartbeats 4000000 in
set_option maxRecDepth 100000 in
theorem cn_X5 (l : Launch) (dC : Nat → ClassId) (dI : Nat → Nat → Nat) (G : ClassId × (ClassId × ClassId)) (h0 sz : Nat) : Met l yX5_init (wsc yX5_init cX5_init) ({ frames := 2, cells := 37, slots := 2440, locals := 32 }) (va_Pc [.ref h0] (fun U => U.heap.size = sz ∧ va_P (dC, dI) vwCl (wzX5 h0) U.heap ∧ va_K (dC, dI) vwCl (tys G) U ∧ va_D (fun _ => True) (wzX5 h0) ∧ ∀ w ∈ tn, va_Nw w U)) (va_Qv (fun a : Nat → Nat => a 0 = h0) (fun a t => va_P (dC, dI) vwCl (wdX5 G a) t.heap ∧ va_K (dC, dI) vwCl (tys G) t ∧ va_D (va_A (wzX5 h0) sz) (wdX5 G a)) (va_A (wzX5 h0) sz)) 37 2440 (va_A (wzX5 h0) sz) := by
  refine Met.ofW (cc := cX5_init) (maxL := 1) (ret := none) (by decide) rfl ?_
  intro p e s m args below meth c s₁ B hml hv
  obtain ⟨rfl, hsz, hP, hK, hD0, hN⟩ := hv
  have hx := B.exec
  have hb := B.bytes
  have hr := B.returns
  have hts : ∀ w ∈ tb, w.before ([Value.ref h0].toArray) s = true := fun w hw => atoms_spec (ws := wsc yX5_init cX5_init) B.pre w (List.mem_cons_of_mem _ hw)
  have hown : s.vm.findClass RX5 = some m.cls := findClass_of_methodNamed B.named
  have hin : meth.name = "<init>" := (name_of_methodNamed B.named B.method).1
  subst hsz
  have hD := hD0.self (sz := s.heap.size)
  generalize hAe : va_A (wzX5 h0) s.heap.size = A at hD ⊢
  have hA : ∀ q : Nat, s.heap.size ≤ q → A q := fun q h => by rw [← hAe]; exact Or.inr h
  have hS : va_S A s.heap s.heap [] := va_S.rf
  have hP : va_P (dC, dI) vwCl [(h0, .inr (5, [.null, .null, .null, .int 0, .null, .null, .null, .int 0, .null, .null, .null]))] s.heap := hP
  have hD : va_D A [(h0, .inr (5, [.null, .null, .null, .int 0, .null, .null, .null, .int 0, .null, .null, .null]))] := hD
  have hl := lv_entry ([.ref h0]) (n := 1) (Nat.le_of_ble_eq_true rfl)
  rw [lg_entry_eq]
  generalize (lg_sl ([.ref h0]) ++ List.replicate (1 - (lg_sl ([.ref h0])).length) Slot.unset).toArray = ls at hl ⊢
  have hl : lv_has ls 1 [(0, .ref h0)] := hl
  refine lv_aload_n hx hb dn_X5_0 rfl (lv_at hl 0 rfl) ?_
  refine W.objInit hx hb hown (hts (.methodLink RX5 1 objectInit) (tb_mem (pos := 138) (by decide +kernel) (by decide +kernel))) (hts (.instanceMethod objectInit) (tb_mem (pos := 139) (by decide +kernel) (by decide +kernel))) (hts (.code objectInit ⟨#[0xb1]⟩ 1 none) (tb_mem (pos := 140) (by decide +kernel) (by decide +kernel))) rfl (by rw [hml]; exact hl.1) rfl dn_X5_1 (Nat.le_of_ble_eq_true rfl) (Nat.le_of_ble_eq_true rfl) ?_
  refine W.eq (g2 := F0 m 4 ls []) rfl ?_
  refine lv_aload_n hx hb dn_X5_4 rfl (lv_at hl 0 rfl) ?_
  refine va_new (ci := 0) (fs := [.int 0, .null, .null, .int 0, .null, .null, .null, .null, .int 0, .int 0, .int 0, .int 0, .int 0, .null]) (C := RX0) (T := TX0) (N := 14) hx hb hts in_X0 tyX0 tyX0_ok hown (hts (.classLink RX5 7 RX0) (tb_mem (pos := 141) (by decide +kernel) (by decide +kernel))) (hts (.instantiable RX0 14) (tb_mem (pos := 142) (by decide +kernel) (by decide +kernel))) (hts (.initialized RX0) (tb_mem (pos := 120) (by decide +kernel) (by decide +kernel))) hK hP hD hS hA rfl (fun j hj => by rcases (show j = 0 ∨ j = 1 ∨ j = 2 ∨ j = 3 ∨ j = 4 ∨ j = 5 ∨ j = 6 ∨ j = 7 ∨ j = 8 ∨ j = 9 ∨ j = 10 ∨ j = 11 ∨ j = 12 ∨ j = 13 by omega) with rfl | rfl | rfl | rfl | rfl | rfl | rfl | rfl | rfl | rfl | rfl | rfl | rfl | rfl <;> rfl) (Nat.le_of_ble_eq_true rfl) (Nat.le_of_ble_eq_true rfl) dn_X5_5 (fun q1 H hP hD hS => ?_)
  have hP : va_P (dC, dI) vwCl (([(h0, .inr (5, [.null, .null, .null, .int 0, .null, .null, .null, .int 0, .null, .null, .null]))]) ++ wzX0 q1) H := hP
  have hD : va_D A (([(h0, .inr (5, [.null, .null, .null, .int 0, .null, .null, .null, .int 0, .null, .null, .null]))]) ++ wzX0 q1) := hD
  refine W.widen (k := 1) (n := 14) (Nat.le_of_ble_eq_true rfl) (Nat.le_of_ble_eq_true rfl) ?_
  refine lv_dup hx hb dn_X5_8 rfl ?_
  have hPc := hP.sub (ws' := wzX0 q1) [1] rfl
  have hDc := hD.sub (ws' := wzX0 q1) [1] (by decide) rfl
  have hFc := va_free (wc := wzX0 q1) hD hS hA [1] rfl
  refine va_callv (va_runIN (As := []) (rest := [.ref q1, .ref h0]) ⟨hx, hb, hml, hown, hts⟩ (cn_X0 l dC dI G q1 H.size) ⟨va_cnB (own := RX5) (host := "TinkerTailor") 0 hts (gi (fun _ h => h) kn_X0) rfl rfl rfl (hN _ (tn_mem (w := .methodLinkNest RX5 9 yX0_init "TinkerTailor") (pos := 143) (by decide +kernel) (by decide +kernel))) (hts (.initialized RX0) (tb_mem (pos := 120) (by decide +kernel) (by decide +kernel))) (by decide +kernel) ⟨Nat.le_of_ble_eq_true rfl, Nat.le_of_ble_eq_true rfl⟩, rfl, hts (.instanceMethod yX0_init) (tb_mem (pos := 144) (by decide +kernel) (by decide +kernel))⟩ ⟨fun a U g mk q => by obtain ⟨q0, q1, qP, qK, qD⟩ := q; exact ⟨q0, q1, qP, va_K.moved (u := U) (U := U.calling g mk a) (Vm.Alike.refl U.vm) qK, qD⟩, fun U hU hW => ⟨rfl, by rw [hU], by rw [hU]; exact hPc, va_K.moved hW.alike hK, hDc.weaken (fun _ _ _ _ => trivial)⟩⟩ rfl rfl hl.1 rfl (lv_room (Nat.le_of_ble_eq_true rfl)) dn_X5_9 ⟨Nat.le_of_ble_eq_true rfl, Nat.le_of_ble_eq_true rfl⟩) hS (fun q _ h => hFc q h) hFc (fun a1 t H1 locs ht hvm hw hB hz1 hk1 hS => ?_)
  obtain ⟨hP1, hK1, hD1⟩ := hB
  rw [ht] at hP1
  try dsimp only at hw
  subst hw
  obtain ⟨hP, hD⟩ := va_join (wr := [(h0, .inr (5, [.null, .null, .null, .int 0, .null, .null, .null, .int 0, .null, .null, .null]))]) (w1 := wdX0 G a1) hP hD [1] [0] rfl rfl (by decide) (by decide) hk1 hFc hP1 hD1
  generalize H1 = H at hP hS ⊢
  have hP : va_P (dC, dI) vwCl ([(h0, .inr (5, [.null, .null, .null, .int 0, .null, .null, .null, .int 0, .null, .null, .null]))] ++ wdX0 G a1) H := hP
  have hD : va_D A ([(h0, .inr (5, [.null, .null, .null, .int 0, .null, .null, .null, .int 0, .null, .null, .null]))] ++ wdX0 G a1) := hD
  refine W.widen (k := 8) (n := 42) (Nat.le_of_ble_eq_true rfl) (Nat.le_of_ble_eq_true rfl) ?_
  refine va_putF (D := (dC, dI)) (ci := 5) (v := .ref (a1 0)) (ty := .object "TinkerTailor$Board") (C := RX5) (T := TX5) (N := 11) hx hb hts in_X5 tyX5 tyX5_ok nmX5 hown hK hP hD hS 0 rfl rfl 0 (by decide) (hts (.fieldLink RX5 10 "TinkerTailor" "now" "LTinkerTailor$Board;") (tb_mem (pos := 278) (by decide +kernel) (by decide +kernel))) (fun _ h9 => h9) rfl hin rfl (by decide +kernel) rfl rfl (Nat.le_of_ble_eq_true rfl) dn_X5_12 (fun H locs hP hD hS => ?_)
  have hP : va_P (dC, dI) vwCl ([(h0, .inr (5, [.ref (a1 0), .null, .null, .int 0, .null, .null, .null, .int 0, .null, .null, .null]))] ++ wdX0 G a1) H := hP
  have hD : va_D A ([(h0, .inr (5, [.ref (a1 0), .null, .null, .int 0, .null, .null, .null, .int 0, .null, .null, .null]))] ++ wdX0 G a1) := hD
  refine lv_aload_n hx hb dn_X5_15 rfl (lv_at hl 0 rfl) ?_
  refine va_new (ci := 0) (fs := [.int 0, .null, .null, .int 0, .null, .null, .null, .null, .int 0, .int 0, .int 0, .int 0, .int 0, .null]) (C := RX0) (T := TX0) (N := 14) hx hb hts in_X0 tyX0 tyX0_ok hown (hts (.classLink RX5 7 RX0) (tb_mem (pos := 141) (by decide +kernel) (by decide +kernel))) (hts (.instantiable RX0 14) (tb_mem (pos := 142) (by decide +kernel) (by decide +kernel))) (hts (.initialized RX0) (tb_mem (pos := 120) (by decide +kernel) (by decide +kernel))) hK hP hD hS hA rfl (fun j hj => by rcases (show j = 0 ∨ j = 1 ∨ j = 2 ∨ j = 3 ∨ j = 4 ∨ j = 5 ∨ j = 6 ∨ j = 7 ∨ j = 8 ∨ j = 9 ∨ j = 10 ∨ j = 11 ∨ j = 12 ∨ j = 13 by omega) with rfl | rfl | rfl | rfl | rfl | rfl | rfl | rfl | rfl | rfl | rfl | rfl | rfl | rfl <;> rfl) (Nat.le_of_ble_eq_true rfl) (Nat.le_of_ble_eq_true rfl) dn_X5_16 (fun q2 H hP hD hS => ?_)
  have hP : va_P (dC, dI) vwCl (([(h0, .inr (5, [.ref (a1 0), .null, .null, .int 0, .null, .null, .null, .int 0, .null, .null, .null]))] ++ wdX0 G a1) ++ wzX0 q2) H := hP
  have hD : va_D A (([(h0, .inr (5, [.ref (a1 0), .null, .null, .int 0, .null, .null, .null, .int 0, .null, .null, .null]))] ++ wdX0 G a1) ++ wzX0 q2) := hD
  refine W.widen (k := 9) (n := 56) (Nat.le_of_ble_eq_true rfl) (Nat.le_of_ble_eq_true rfl) ?_
  refine lv_dup hx hb dn_X5_19 rfl ?_
  have hPc := hP.sub (ws' := wzX0 q2) [9] rfl
  have hDc := hD.sub (ws' := wzX0 q2) [9] (by decide) rfl
  have hFc := va_free (wc := wzX0 q2) hD hS hA [9] rfl
  refine va_callv (va_runIN (As := []) (rest := [.ref q2, .ref h0]) ⟨hx, hb, hml, hown, hts⟩ (cn_X0 l dC dI G q2 H.size) ⟨va_cnB (own := RX5) (host := "TinkerTailor") 0 hts (gi (fun _ h => h) kn_X0) rfl rfl rfl (hN _ (tn_mem (w := .methodLinkNest RX5 9 yX0_init "TinkerTailor") (pos := 143) (by decide +kernel) (by decide +kernel))) (hts (.initialized RX0) (tb_mem (pos := 120) (by decide +kernel) (by decide +kernel))) (by decide +kernel) ⟨Nat.le_of_ble_eq_true rfl, Nat.le_of_ble_eq_true rfl⟩, rfl, hts (.instanceMethod yX0_init) (tb_mem (pos := 144) (by decide +kernel) (by decide +kernel))⟩ ⟨fun a U g mk q => by obtain ⟨q0, q1, qP, qK, qD⟩ := q; exact ⟨q0, q1, qP, va_K.moved (u := U) (U := U.calling g mk a) (Vm.Alike.refl U.vm) qK, qD⟩, fun U hU hW => ⟨rfl, by rw [hU], by rw [hU]; exact hPc, va_K.moved hW.alike hK, hDc.weaken (fun _ _ _ _ => trivial)⟩⟩ rfl rfl hl.1 rfl (lv_room (Nat.le_of_ble_eq_true rfl)) dn_X5_20 ⟨Nat.le_of_ble_eq_true rfl, Nat.le_of_ble_eq_true rfl⟩) hS (fun q _ h => hFc q h) hFc (fun a2 t H1 locs ht hvm hw hB hz1 hk1 hS => ?_)
  obtain ⟨hP1, hK1, hD1⟩ := hB
  rw [ht] at hP1
  try dsimp only at hw
  subst hw
  obtain ⟨hP, hD⟩ := va_join (wr := [(h0, .inr (5, [.ref (a1 0), .null, .null, .int 0, .null, .null, .null, .int 0, .null, .null, .null]))] ++ wdX0 G a1) (w1 := wdX0 G a2) hP hD [9] [0, 1, 2, 3, 4, 5, 6, 7, 8] rfl rfl (by decide) (by decide) hk1 hFc hP1 hD1
  generalize H1 = H at hP hS ⊢
  have hP : va_P (dC, dI) vwCl ([(h0, .inr (5, [.ref (a1 0), .null, .null, .int 0, .null, .null, .null, .int 0, .null, .null, .null]))] ++ wdX0 G a1 ++ wdX0 G a2) H := hP
  have hD : va_D A ([(h0, .inr (5, [.ref (a1 0), .null, .null, .int 0, .null, .null, .null, .int 0, .null, .null, .null]))] ++ wdX0 G a1 ++ wdX0 G a2) := hD
  refine W.widen (k := 16) (n := 84) (Nat.le_of_ble_eq_true rfl) (Nat.le_of_ble_eq_true rfl) ?_
  refine va_putF (D := (dC, dI)) (ci := 5) (v := .ref (a2 0)) (ty := .object "TinkerTailor$Board") (C := RX5) (T := TX5) (N := 11) hx hb hts in_X5 tyX5 tyX5_ok nmX5 hown hK hP hD hS 0 rfl rfl 1 (by decide) (hts (.fieldLink RX5 16 "TinkerTailor" "mind" "LTinkerTailor$Board;") (tb_mem (pos := 279) (by decide +kernel) (by decide +kernel))) (fun _ h9 => h9) rfl hin rfl (by decide +kernel) rfl rfl (Nat.le_of_ble_eq_true rfl) dn_X5_23 (fun H locs hP hD hS => ?_)
  have hP : va_P (dC, dI) vwCl ([(h0, .inr (5, [.ref (a1 0), .ref (a2 0), .null, .int 0, .null, .null, .null, .int 0, .null, .null, .null]))] ++ wdX0 G a1 ++ wdX0 G a2) H := hP
  have hD : va_D A ([(h0, .inr (5, [.ref (a1 0), .ref (a2 0), .null, .int 0, .null, .null, .null, .int 0, .null, .null, .null]))] ++ wdX0 G a1 ++ wdX0 G a2) := hD
  refine lv_aload_n hx hb dn_X5_26 rfl (lv_at hl 0 rfl) ?_
  refine va_new (ci := 0) (fs := [.int 0, .null, .null, .int 0, .null, .null, .null, .null, .int 0, .int 0, .int 0, .int 0, .int 0, .null]) (C := RX0) (T := TX0) (N := 14) hx hb hts in_X0 tyX0 tyX0_ok hown (hts (.classLink RX5 7 RX0) (tb_mem (pos := 141) (by decide +kernel) (by decide +kernel))) (hts (.instantiable RX0 14) (tb_mem (pos := 142) (by decide +kernel) (by decide +kernel))) (hts (.initialized RX0) (tb_mem (pos := 120) (by decide +kernel) (by decide +kernel))) hK hP hD hS hA rfl (fun j hj => by rcases (show j = 0 ∨ j = 1 ∨ j = 2 ∨ j = 3 ∨ j = 4 ∨ j = 5 ∨ j = 6 ∨ j = 7 ∨ j = 8 ∨ j = 9 ∨ j = 10 ∨ j = 11 ∨ j = 12 ∨ j = 13 by omega) with rfl | rfl | rfl | rfl | rfl | rfl | rfl | rfl | rfl | rfl | rfl | rfl | rfl | rfl <;> rfl) (Nat.le_of_ble_eq_true rfl) (Nat.le_of_ble_eq_true rfl) dn_X5_27 (fun q3 H hP hD hS => ?_)
  have hP : va_P (dC, dI) vwCl (([(h0, .inr (5, [.ref (a1 0), .ref (a2 0), .null, .int 0, .null, .null, .null, .int 0, .null, .null, .null]))] ++ wdX0 G a1 ++ wdX0 G a2) ++ wzX0 q3) H := hP
  have hD : va_D A (([(h0, .inr (5, [.ref (a1 0), .ref (a2 0), .null, .int 0, .null, .null, .null, .int 0, .null, .null, .null]))] ++ wdX0 G a1 ++ wdX0 G a2) ++ wzX0 q3) := hD
  refine W.widen (k := 17) (n := 98) (Nat.le_of_ble_eq_true rfl) (Nat.le_of_ble_eq_true rfl) ?_
  refine lv_dup hx hb dn_X5_30 rfl ?_
  have hPc := hP.sub (ws' := wzX0 q3) [17] rfl
  have hDc := hD.sub (ws' := wzX0 q3) [17] (by decide) rfl
  have hFc := va_free (wc := wzX0 q3) hD hS hA [17] rfl
  refine va_callv (va_runIN (As := []) (rest := [.ref q3, .ref h0]) ⟨hx, hb, hml, hown, hts⟩ (cn_X0 l dC dI G q3 H.size) ⟨va_cnB (own := RX5) (host := "TinkerTailor") 0 hts (gi (fun _ h => h) kn_X0) rfl rfl rfl (hN _ (tn_mem (w := .methodLinkNest RX5 9 yX0_init "TinkerTailor") (pos := 143) (by decide +kernel) (by decide +kernel))) (hts (.initialized RX0) (tb_mem (pos := 120) (by decide +kernel) (by decide +kernel))) (by decide +kernel) ⟨Nat.le_of_ble_eq_true rfl, Nat.le_of_ble_eq_true rfl⟩, rfl, hts (.instanceMethod yX0_init) (tb_mem (pos := 144) (by decide +kernel) (by decide +kernel))⟩ ⟨fun a U g mk q => by obtain ⟨q0, q1, qP, qK, qD⟩ := q; exact ⟨q0, q1, qP, va_K.moved (u := U) (U := U.calling g mk a) (Vm.Alike.refl U.vm) qK, qD⟩, fun U hU hW => ⟨rfl, by rw [hU], by rw [hU]; exact hPc, va_K.moved hW.alike hK, hDc.weaken (fun _ _ _ _ => trivial)⟩⟩ rfl rfl hl.1 rfl (lv_room (Nat.le_of_ble_eq_true rfl)) dn_X5_31 ⟨Nat.le_of_ble_eq_true rfl, Nat.le_of_ble_eq_true rfl⟩) hS (fun q _ h => hFc q h) hFc (fun a3 t H1 locs ht hvm hw hB hz1 hk1 hS => ?_)
  obtain ⟨hP1, hK1, hD1⟩ := hB
  rw [ht] at hP1
  try dsimp only at hw
  subst hw
  obtain ⟨hP, hD⟩ := va_join (wr := [(h0, .inr (5, [.ref (a1 0), .ref (a2 0), .null, .int 0, .null, .null, .null, .int 0, .null, .null, .null]))] ++ wdX0 G a1 ++ wdX0 G a2) (w1 := wdX0 G a3) hP hD [17] [0, 1, 2, 3, 4, 5, 6, 7, 8, 9, 10, 11, 12, 13, 14, 15, 16] rfl rfl (by decide) (by decide) hk1 hFc hP1 hD1
  generalize H1 = H at hP hS ⊢
  have hP : va_P (dC, dI) vwCl ([(h0, .inr (5, [.ref (a1 0), .ref (a2 0), .null, .int 0, .null, .null, .null, .int 0, .null, .null, .null]))] ++ wdX0 G a1 ++ wdX0 G a2 ++ wdX0 G a3) H := hP
  have hD : va_D A ([(h0, .inr (5, [.ref (a1 0), .ref (a2 0), .null, .int 0, .null, .null, .null, .int 0, .null, .null, .null]))] ++ wdX0 G a1 ++ wdX0 G a2 ++ wdX0 G a3) := hD
  refine W.widen (k := 24) (n := 126) (Nat.le_of_ble_eq_true rfl) (Nat.le_of_ble_eq_true rfl) ?_
  refine va_putF (D := (dC, dI)) (ci := 5) (v := .ref (a3 0)) (ty := .object "TinkerTailor$Board") (C := RX5) (T := TX5) (N := 11) hx hb hts in_X5 tyX5 tyX5_ok nmX5 hown hK hP hD hS 0 rfl rfl 2 (by decide) (hts (.fieldLink RX5 19 "TinkerTailor" "kept" "LTinkerTailor$Board;") (tb_mem (pos := 280) (by decide +kernel) (by decide +kernel))) (fun _ h9 => h9) rfl hin rfl (by decide +kernel) rfl rfl (Nat.le_of_ble_eq_true rfl) dn_X5_34 (fun H locs hP hD hS => ?_)
  have hP : va_P (dC, dI) vwCl ([(h0, .inr (5, [.ref (a1 0), .ref (a2 0), .ref (a3 0), .int 0, .null, .null, .null, .int 0, .null, .null, .null]))] ++ wdX0 G a1 ++ wdX0 G a2 ++ wdX0 G a3) H := hP
  have hD : va_D A ([(h0, .inr (5, [.ref (a1 0), .ref (a2 0), .ref (a3 0), .int 0, .null, .null, .null, .int 0, .null, .null, .null]))] ++ wdX0 G a1 ++ wdX0 G a2 ++ wdX0 G a3) := hD
  refine lv_aload_n hx hb dn_X5_37 rfl (lv_at hl 0 rfl) ?_
  refine va_new (ci := 2) (fs := [.null, .int 0]) (C := RX2) (T := TX2) (N := 2) hx hb hts in_X2 tyX2 tyX2_ok hown (hts (.classLink RX5 22 RX2) (tb_mem (pos := 220) (by decide +kernel) (by decide +kernel))) (hts (.instantiable RX2 2) (tb_mem (pos := 221) (by decide +kernel) (by decide +kernel))) (hts (.initialized RX2) (tb_mem (pos := 121) (by decide +kernel) (by decide +kernel))) hK hP hD hS hA rfl (fun j hj => by rcases (show j = 0 ∨ j = 1 by omega) with rfl | rfl <;> rfl) (Nat.le_of_ble_eq_true rfl) (Nat.le_of_ble_eq_true rfl) dn_X5_38 (fun q4 H hP hD hS => ?_)
  have hP : va_P (dC, dI) vwCl (([(h0, .inr (5, [.ref (a1 0), .ref (a2 0), .ref (a3 0), .int 0, .null, .null, .null, .int 0, .null, .null, .null]))] ++ wdX0 G a1 ++ wdX0 G a2 ++ wdX0 G a3) ++ wzX2 q4) H := hP
  have hD : va_D A (([(h0, .inr (5, [.ref (a1 0), .ref (a2 0), .ref (a3 0), .int 0, .null, .null, .null, .int 0, .null, .null, .null]))] ++ wdX0 G a1 ++ wdX0 G a2 ++ wdX0 G a3) ++ wzX2 q4) := hD
  refine W.widen (k := 25) (n := 128) (Nat.le_of_ble_eq_true rfl) (Nat.le_of_ble_eq_true rfl) ?_
  refine lv_dup hx hb dn_X5_41 rfl ?_
  have hPc := hP.sub (ws' := wzX2 q4) [25] rfl
  have hDc := hD.sub (ws' := wzX2 q4) [25] (by decide) rfl
  have hFc := va_free (wc := wzX2 q4) hD hS hA [25] rfl
  refine va_callv (va_runIN (As := []) (rest := [.ref q4, .ref h0]) ⟨hx, hb, hml, hown, hts⟩ (cn_X2 l dC dI G q4 H.size) ⟨va_cnB (own := RX5) (host := "TinkerTailor") 0 hts (gi (fun _ h => h) kn_X2) rfl rfl rfl (hN _ (tn_mem (w := .methodLinkNest RX5 24 yX2_init "TinkerTailor") (pos := 222) (by decide +kernel) (by decide +kernel))) (hts (.initialized RX2) (tb_mem (pos := 121) (by decide +kernel) (by decide +kernel))) (by decide +kernel) ⟨Nat.le_of_ble_eq_true rfl, Nat.le_of_ble_eq_true rfl⟩, rfl, hts (.instanceMethod yX2_init) (tb_mem (pos := 223) (by decide +kernel) (by decide +kernel))⟩ ⟨fun a U g mk q => by obtain ⟨q0, q1, qP, qK, qD⟩ := q; exact ⟨q0, q1, qP, va_K.moved (u := U) (U := U.calling g mk a) (Vm.Alike.refl U.vm) qK, qD⟩, fun U hU hW => ⟨rfl, by rw [hU], by rw [hU]; exact hPc, va_K.moved hW.alike hK, hDc.weaken (fun _ _ _ _ => trivial)⟩⟩ rfl rfl hl.1 rfl (lv_room (Nat.le_of_ble_eq_true rfl)) dn_X5_42 ⟨Nat.le_of_ble_eq_true rfl, Nat.le_of_ble_eq_true rfl⟩) hS (fun q _ h => hFc q h) hFc (fun a4 t H1 locs ht hvm hw hB hz1 hk1 hS => ?_)
  obtain ⟨hP1, hK1, hD1⟩ := hB
  rw [ht] at hP1
  try dsimp only at hw
  subst hw
  obtain ⟨hP, hD⟩ := va_join (wr := [(h0, .inr (5, [.ref (a1 0), .ref (a2 0), .ref (a3 0), .int 0, .null, .null, .null, .int 0, .null, .null, .null]))] ++ wdX0 G a1 ++ wdX0 G a2 ++ wdX0 G a3) (w1 := wdX2 G a4) hP hD [25] [0, 1, 2, 3, 4, 5, 6, 7, 8, 9, 10, 11, 12, 13, 14, 15, 16, 17, 18, 19, 20, 21, 22, 23, 24] rfl rfl (by decide) (by decide) hk1 hFc hP1 hD1
  generalize H1 = H at hP hS ⊢
  have hP : va_P (dC, dI) vwCl ([(h0, .inr (5, [.ref (a1 0), .ref (a2 0), .ref (a3 0), .int 0, .null, .null, .null, .int 0, .null, .null, .null]))] ++ wdX0 G a1 ++ wdX0 G a2 ++ wdX0 G a3 ++ wdX2 G a4) H := hP
  have hD : va_D A ([(h0, .inr (5, [.ref (a1 0), .ref (a2 0), .ref (a3 0), .int 0, .null, .null, .null, .int 0, .null, .null, .null]))] ++ wdX0 G a1 ++ wdX0 G a2 ++ wdX0 G a3 ++ wdX2 G a4) := hD
  refine W.widen (k := 26) (n := 224) (Nat.le_of_ble_eq_true rfl) (Nat.le_of_ble_eq_true rfl) ?_
  refine va_putF (D := (dC, dI)) (ci := 5) (v := .ref (a4 0)) (ty := .object "TinkerTailor$Letters") (C := RX5) (T := TX5) (N := 11) hx hb hts in_X5 tyX5 tyX5_ok nmX5 hown hK hP hD hS 0 rfl rfl 4 (by decide) (hts (.fieldLink RX5 25 "TinkerTailor" "letters" "LTinkerTailor$Letters;") (tb_mem (pos := 282) (by decide +kernel) (by decide +kernel))) (fun _ h9 => h9) rfl hin rfl (by decide +kernel) rfl rfl (Nat.le_of_ble_eq_true rfl) dn_X5_45 (fun H locs hP hD hS => ?_)
  have hP : va_P (dC, dI) vwCl ([(h0, .inr (5, [.ref (a1 0), .ref (a2 0), .ref (a3 0), .int 0, .ref (a4 0), .null, .null, .int 0, .null, .null, .null]))] ++ wdX0 G a1 ++ wdX0 G a2 ++ wdX0 G a3 ++ wdX2 G a4) H := hP
  have hD : va_D A ([(h0, .inr (5, [.ref (a1 0), .ref (a2 0), .ref (a3 0), .int 0, .ref (a4 0), .null, .null, .int 0, .null, .null, .null]))] ++ wdX0 G a1 ++ wdX0 G a2 ++ wdX0 G a3 ++ wdX2 G a4) := hD
  refine lv_aload_n hx hb dn_X5_48 rfl (lv_at hl 0 rfl) ?_
  refine va_new (ci := 3) (fs := [.null, .null, .null, .int 0]) (C := RX3) (T := TX3) (N := 4) hx hb hts in_X3 tyX3 tyX3_ok hown (hts (.classLink RX5 29 RX3) (tb_mem (pos := 234) (by decide +kernel) (by decide +kernel))) (hts (.instantiable RX3 4) (tb_mem (pos := 235) (by decide +kernel) (by decide +kernel))) (hts (.initialized RX3) (tb_mem (pos := 122) (by decide +kernel) (by decide +kernel))) hK hP hD hS hA rfl (fun j hj => by rcases (show j = 0 ∨ j = 1 ∨ j = 2 ∨ j = 3 by omega) with rfl | rfl | rfl | rfl <;> rfl) (Nat.le_of_ble_eq_true rfl) (Nat.le_of_ble_eq_true rfl) dn_X5_49 (fun q5 H hP hD hS => ?_)
  have hP : va_P (dC, dI) vwCl (([(h0, .inr (5, [.ref (a1 0), .ref (a2 0), .ref (a3 0), .int 0, .ref (a4 0), .null, .null, .int 0, .null, .null, .null]))] ++ wdX0 G a1 ++ wdX0 G a2 ++ wdX0 G a3 ++ wdX2 G a4) ++ wzX3 q5) H := hP
  have hD : va_D A (([(h0, .inr (5, [.ref (a1 0), .ref (a2 0), .ref (a3 0), .int 0, .ref (a4 0), .null, .null, .int 0, .null, .null, .null]))] ++ wdX0 G a1 ++ wdX0 G a2 ++ wdX0 G a3 ++ wdX2 G a4) ++ wzX3 q5) := hD
  refine W.widen (k := 27) (n := 228) (Nat.le_of_ble_eq_true rfl) (Nat.le_of_ble_eq_true rfl) ?_
  refine lv_dup hx hb dn_X5_52 rfl ?_
  have hPc := hP.sub (ws' := wzX3 q5) [27] rfl
  have hDc := hD.sub (ws' := wzX3 q5) [27] (by decide) rfl
  have hFc := va_free (wc := wzX3 q5) hD hS hA [27] rfl
  refine va_callv (va_runIN (As := []) (rest := [.ref q5, .ref h0]) ⟨hx, hb, hml, hown, hts⟩ (cn_X3 l dC dI G q5 H.size) ⟨va_cnB (own := RX5) (host := "TinkerTailor") 0 hts (gi (fun _ h => h) kn_X3) rfl rfl rfl (hN _ (tn_mem (w := .methodLinkNest RX5 31 yX3_init "TinkerTailor") (pos := 236) (by decide +kernel) (by decide +kernel))) (hts (.initialized RX3) (tb_mem (pos := 122) (by decide +kernel) (by decide +kernel))) (by decide +kernel) ⟨Nat.le_of_ble_eq_true rfl, Nat.le_of_ble_eq_true rfl⟩, rfl, hts (.instanceMethod yX3_init) (tb_mem (pos := 237) (by decide +kernel) (by decide +kernel))⟩ ⟨fun a U g mk q => by obtain ⟨q0, q1, qP, qK, qD⟩ := q; exact ⟨q0, q1, qP, va_K.moved (u := U) (U := U.calling g mk a) (Vm.Alike.refl U.vm) qK, qD⟩, fun U hU hW => ⟨rfl, by rw [hU], by rw [hU]; exact hPc, va_K.moved hW.alike hK, hDc.weaken (fun _ _ _ _ => trivial)⟩⟩ rfl rfl hl.1 rfl (lv_room (Nat.le_of_ble_eq_true rfl)) dn_X5_53 ⟨Nat.le_of_ble_eq_true rfl, Nat.le_of_ble_eq_true rfl⟩) hS (fun q _ h => hFc q h) hFc (fun a5 t H1 locs ht hvm hw hB hz1 hk1 hS => ?_)
  obtain ⟨hP1, hK1, hD1⟩ := hB
  rw [ht] at hP1
  try dsimp only at hw
  subst hw
  obtain ⟨hP, hD⟩ := va_join (wr := [(h0, .inr (5, [.ref (a1 0), .ref (a2 0), .ref (a3 0), .int 0, .ref (a4 0), .null, .null, .int 0, .null, .null, .null]))] ++ wdX0 G a1 ++ wdX0 G a2 ++ wdX0 G a3 ++ wdX2 G a4) (w1 := wdX3 G a5) hP hD [27] [0, 1, 2, 3, 4, 5, 6, 7, 8, 9, 10, 11, 12, 13, 14, 15, 16, 17, 18, 19, 20, 21, 22, 23, 24, 25, 26] rfl rfl (by decide) (by decide) hk1 hFc hP1 hD1
  generalize H1 = H at hP hS ⊢
  have hP : va_P (dC, dI) vwCl ([(h0, .inr (5, [.ref (a1 0), .ref (a2 0), .ref (a3 0), .int 0, .ref (a4 0), .null, .null, .int 0, .null, .null, .null]))] ++ wdX0 G a1 ++ wdX0 G a2 ++ wdX0 G a3 ++ wdX2 G a4 ++ wdX3 G a5) H := hP
  have hD : va_D A ([(h0, .inr (5, [.ref (a1 0), .ref (a2 0), .ref (a3 0), .int 0, .ref (a4 0), .null, .null, .int 0, .null, .null, .null]))] ++ wdX0 G a1 ++ wdX0 G a2 ++ wdX0 G a3 ++ wdX2 G a4 ++ wdX3 G a5) := hD
  refine W.widen (k := 30) (n := 252) (Nat.le_of_ble_eq_true rfl) (Nat.le_of_ble_eq_true rfl) ?_
  refine va_putF (D := (dC, dI)) (ci := 5) (v := .ref (a5 0)) (ty := .object "TinkerTailor$Past") (C := RX5) (T := TX5) (N := 11) hx hb hts in_X5 tyX5 tyX5_ok nmX5 hown hK hP hD hS 0 rfl rfl 5 (by decide) (hts (.fieldLink RX5 32 "TinkerTailor" "past" "LTinkerTailor$Past;") (tb_mem (pos := 283) (by decide +kernel) (by decide +kernel))) (fun _ h9 => h9) rfl hin rfl (by decide +kernel) rfl rfl (Nat.le_of_ble_eq_true rfl) dn_X5_56 (fun H locs hP hD hS => ?_)
  have hP : va_P (dC, dI) vwCl ([(h0, .inr (5, [.ref (a1 0), .ref (a2 0), .ref (a3 0), .int 0, .ref (a4 0), .ref (a5 0), .null, .int 0, .null, .null, .null]))] ++ wdX0 G a1 ++ wdX0 G a2 ++ wdX0 G a3 ++ wdX2 G a4 ++ wdX3 G a5) H := hP
  have hD : va_D A ([(h0, .inr (5, [.ref (a1 0), .ref (a2 0), .ref (a3 0), .int 0, .ref (a4 0), .ref (a5 0), .null, .int 0, .null, .null, .null]))] ++ wdX0 G a1 ++ wdX0 G a2 ++ wdX0 G a3 ++ wdX2 G a4 ++ wdX3 G a5) := hD
  refine lv_aload_n hx hb dn_X5_59 rfl (lv_at hl 0 rfl) ?_
  refine lv_bipush (v := 12) hx hb dn_X5_60 (by decide) ?_
  refine va_newG (a0 := (12, .inl fun _ => 0)) (t0 := 0) hx hb (atype := .int) (hts (.arrayClass .int) kw_int) rfl (by intro C h; cases h) hK hP hD hS hA rfl (fun _ => rfl) (by decide) (by decide) (Nat.le_of_ble_eq_true rfl) (Nat.le_of_ble_eq_true rfl) (Nat.le_of_ble_eq_true rfl) dn_X5_62 (fun q6 H hP hD hS => ?_)
  have hP : va_P (dC, dI) vwCl ([(h0, .inr (5, [.ref (a1 0), .ref (a2 0), .ref (a3 0), .int 0, .ref (a4 0), .ref (a5 0), .null, .int 0, .null, .null, .null]))] ++ wdX0 G a1 ++ wdX0 G a2 ++ wdX0 G a3 ++ wdX2 G a4 ++ wdX3 G a5 ++ [(q6, .inl (G.1, 12, .inl fun _ => 0))]) H := hP
  have hD : va_D A ([(h0, .inr (5, [.ref (a1 0), .ref (a2 0), .ref (a3 0), .int 0, .ref (a4 0), .ref (a5 0), .null, .int 0, .null, .null, .null]))] ++ wdX0 G a1 ++ wdX0 G a2 ++ wdX0 G a3 ++ wdX2 G a4 ++ wdX3 G a5 ++ [(q6, .inl (G.1, 12, .inl fun _ => 0))]) := hD
  refine W.widen (k := 31) (n := 264) (Nat.le_of_ble_eq_true rfl) (Nat.le_of_ble_eq_true rfl) ?_
  refine va_putF (D := (dC, dI)) (ci := 5) (v := .ref q6) (ty := .array .int) (C := RX5) (T := TX5) (N := 11) hx hb hts in_X5 tyX5 tyX5_ok nmX5 hown hK hP hD hS 0 rfl rfl 6 (by decide) (hts (.fieldLink RX5 36 "TinkerTailor" "told" "[I") (tb_mem (pos := 284) (by decide +kernel) (by decide +kernel))) (fun _ h9 => h9) rfl hin rfl (by decide +kernel) rfl rfl (Nat.le_of_ble_eq_true rfl) dn_X5_64 (fun H locs hP hD hS => ?_)
  have hP : va_P (dC, dI) vwCl ([(h0, .inr (5, [.ref (a1 0), .ref (a2 0), .ref (a3 0), .int 0, .ref (a4 0), .ref (a5 0), .ref q6, .int 0, .null, .null, .null]))] ++ wdX0 G a1 ++ wdX0 G a2 ++ wdX0 G a3 ++ wdX2 G a4 ++ wdX3 G a5 ++ [(q6, .inl (G.1, 12, .inl fun _ => 0))]) H := hP
  have hD : va_D A ([(h0, .inr (5, [.ref (a1 0), .ref (a2 0), .ref (a3 0), .int 0, .ref (a4 0), .ref (a5 0), .ref q6, .int 0, .null, .null, .null]))] ++ wdX0 G a1 ++ wdX0 G a2 ++ wdX0 G a3 ++ wdX2 G a4 ++ wdX3 G a5 ++ [(q6, .inl (G.1, 12, .inl fun _ => 0))]) := hD
  refine lv_aload_n hx hb dn_X5_67 rfl (lv_at hl 0 rfl) ?_
  refine lv_bipush (v := 7) hx hb dn_X5_68 (by decide) ?_
  refine va_newG (a0 := (7, .inl fun _ => 0)) (t0 := 0) hx hb (atype := .int) (hts (.arrayClass .int) kw_int) rfl (by intro C h; cases h) hK hP hD hS hA rfl (fun _ => rfl) (by decide) (by decide) (Nat.le_of_ble_eq_true rfl) (Nat.le_of_ble_eq_true rfl) (Nat.le_of_ble_eq_true rfl) dn_X5_70 (fun q7 H hP hD hS => ?_)
  have hP : va_P (dC, dI) vwCl ([(h0, .inr (5, [.ref (a1 0), .ref (a2 0), .ref (a3 0), .int 0, .ref (a4 0), .ref (a5 0), .ref q6, .int 0, .null, .null, .null]))] ++ wdX0 G a1 ++ wdX0 G a2 ++ wdX0 G a3 ++ wdX2 G a4 ++ wdX3 G a5 ++ [(q6, .inl (G.1, 12, .inl fun _ => 0))] ++ [(q7, .inl (G.1, 7, .inl fun _ => 0))]) H := hP
  have hD : va_D A ([(h0, .inr (5, [.ref (a1 0), .ref (a2 0), .ref (a3 0), .int 0, .ref (a4 0), .ref (a5 0), .ref q6, .int 0, .null, .null, .null]))] ++ wdX0 G a1 ++ wdX0 G a2 ++ wdX0 G a3 ++ wdX2 G a4 ++ wdX3 G a5 ++ [(q6, .inl (G.1, 12, .inl fun _ => 0))] ++ [(q7, .inl (G.1, 7, .inl fun _ => 0))]) := hD
  refine W.widen (k := 32) (n := 271) (Nat.le_of_ble_eq_true rfl) (Nat.le_of_ble_eq_true rfl) ?_
  refine va_putF (D := (dC, dI)) (ci := 5) (v := .ref q7) (ty := .array .int) (C := RX5) (T := TX5) (N := 11) hx hb hts in_X5 tyX5 tyX5_ok nmX5 hown hK hP hD hS 0 rfl rfl 8 (by decide) (hts (.fieldLink RX5 40 "TinkerTailor" "refused" "[I") (tb_mem (pos := 286) (by decide +kernel) (by decide +kernel))) (fun _ h9 => h9) rfl hin rfl (by decide +kernel) rfl rfl (Nat.le_of_ble_eq_true rfl) dn_X5_72 (fun H locs hP hD hS => ?_)
  have hP : va_P (dC, dI) vwCl ([(h0, .inr (5, [.ref (a1 0), .ref (a2 0), .ref (a3 0), .int 0, .ref (a4 0), .ref (a5 0), .ref q6, .int 0, .ref q7, .null, .null]))] ++ wdX0 G a1 ++ wdX0 G a2 ++ wdX0 G a3 ++ wdX2 G a4 ++ wdX3 G a5 ++ [(q6, .inl (G.1, 12, .inl fun _ => 0))] ++ [(q7, .inl (G.1, 7, .inl fun _ => 0))]) H := hP
  have hD : va_D A ([(h0, .inr (5, [.ref (a1 0), .ref (a2 0), .ref (a3 0), .int 0, .ref (a4 0), .ref (a5 0), .ref q6, .int 0, .ref q7, .null, .null]))] ++ wdX0 G a1 ++ wdX0 G a2 ++ wdX0 G a3 ++ wdX2 G a4 ++ wdX3 G a5 ++ [(q6, .inl (G.1, 12, .inl fun _ => 0))] ++ [(q7, .inl (G.1, 7, .inl fun _ => 0))]) := hD
  refine lv_aload_n hx hb dn_X5_75 rfl (lv_at hl 0 rfl) ?_
  refine va_new (ci := 1) (fs := [.null]) (C := RX1) (T := TX1) (N := 1) hx hb hts in_X1 tyX1 tyX1_ok hown (hts (.classLink RX5 43 RX1) (tb_mem (pos := 254) (by decide +kernel) (by decide +kernel))) (hts (.instantiable RX1 1) (tb_mem (pos := 255) (by decide +kernel) (by decide +kernel))) (hts (.initialized RX1) (tb_mem (pos := 123) (by decide +kernel) (by decide +kernel))) hK hP hD hS hA rfl (fun j hj => by rcases (show j = 0 by omega) with rfl <;> rfl) (Nat.le_of_ble_eq_true rfl) (Nat.le_of_ble_eq_true rfl) dn_X5_76 (fun q8 H hP hD hS => ?_)
  have hP : va_P (dC, dI) vwCl (([(h0, .inr (5, [.ref (a1 0), .ref (a2 0), .ref (a3 0), .int 0, .ref (a4 0), .ref (a5 0), .ref q6, .int 0, .ref q7, .null, .null]))] ++ wdX0 G a1 ++ wdX0 G a2 ++ wdX0 G a3 ++ wdX2 G a4 ++ wdX3 G a5 ++ [(q6, .inl (G.1, 12, .inl fun _ => 0))] ++ [(q7, .inl (G.1, 7, .inl fun _ => 0))]) ++ wzX1 q8) H := hP
  have hD : va_D A (([(h0, .inr (5, [.ref (a1 0), .ref (a2 0), .ref (a3 0), .int 0, .ref (a4 0), .ref (a5 0), .ref q6, .int 0, .ref q7, .null, .null]))] ++ wdX0 G a1 ++ wdX0 G a2 ++ wdX0 G a3 ++ wdX2 G a4 ++ wdX3 G a5 ++ [(q6, .inl (G.1, 12, .inl fun _ => 0))] ++ [(q7, .inl (G.1, 7, .inl fun _ => 0))]) ++ wzX1 q8) := hD
  refine W.widen (k := 33) (n := 272) (Nat.le_of_ble_eq_true rfl) (Nat.le_of_ble_eq_true rfl) ?_
  refine lv_dup hx hb dn_X5_79 rfl ?_
  have hPc := hP.sub (ws' := wzX1 q8) [33] rfl
  have hDc := hD.sub (ws' := wzX1 q8) [33] (by decide) rfl
  have hFc := va_free (wc := wzX1 q8) hD hS hA [33] rfl
  refine va_callv (va_runIN (As := []) (rest := [.ref q8, .ref h0]) ⟨hx, hb, hml, hown, hts⟩ (cn_X1 l dC dI G q8 H.size) ⟨va_cnB (own := RX5) (host := "TinkerTailor") 0 hts (gi (fun _ h => h) kn_X1) rfl rfl rfl (hN _ (tn_mem (w := .methodLinkNest RX5 45 yX1_init "TinkerTailor") (pos := 256) (by decide +kernel) (by decide +kernel))) (hts (.initialized RX1) (tb_mem (pos := 123) (by decide +kernel) (by decide +kernel))) (by decide +kernel) ⟨Nat.le_of_ble_eq_true rfl, Nat.le_of_ble_eq_true rfl⟩, rfl, hts (.instanceMethod yX1_init) (tb_mem (pos := 257) (by decide +kernel) (by decide +kernel))⟩ ⟨fun a U g mk q => by obtain ⟨q0, q1, qP, qK, qD⟩ := q; exact ⟨q0, q1, qP, va_K.moved (u := U) (U := U.calling g mk a) (Vm.Alike.refl U.vm) qK, qD⟩, fun U hU hW => ⟨rfl, by rw [hU], by rw [hU]; exact hPc, va_K.moved hW.alike hK, hDc.weaken (fun _ _ _ _ => trivial)⟩⟩ rfl rfl hl.1 rfl (lv_room (Nat.le_of_ble_eq_true rfl)) dn_X5_80 ⟨Nat.le_of_ble_eq_true rfl, Nat.le_of_ble_eq_true rfl⟩) hS (fun q _ h => hFc q h) hFc (fun a8 t H1 locs ht hvm hw hB hz1 hk1 hS => ?_)
  obtain ⟨hP1, hK1, hD1⟩ := hB
  rw [ht] at hP1
  try dsimp only at hw
  subst hw
  obtain ⟨hP, hD⟩ := va_join (wr := [(h0, .inr (5, [.ref (a1 0), .ref (a2 0), .ref (a3 0), .int 0, .ref (a4 0), .ref (a5 0), .ref q6, .int 0, .ref q7, .null, .null]))] ++ wdX0 G a1 ++ wdX0 G a2 ++ wdX0 G a3 ++ wdX2 G a4 ++ wdX3 G a5 ++ [(q6, .inl (G.1, 12, .inl fun _ => 0))] ++ [(q7, .inl (G.1, 7, .inl fun _ => 0))]) (w1 := wdX1 G a8) hP hD [33] [0, 1, 2, 3, 4, 5, 6, 7, 8, 9, 10, 11, 12, 13, 14, 15, 16, 17, 18, 19, 20, 21, 22, 23, 24, 25, 26, 27, 28, 29, 30, 31, 32] rfl rfl (by decide) (by decide) hk1 hFc hP1 hD1
  generalize H1 = H at hP hS ⊢
  have hP : va_P (dC, dI) vwCl ([(h0, .inr (5, [.ref (a1 0), .ref (a2 0), .ref (a3 0), .int 0, .ref (a4 0), .ref (a5 0), .ref q6, .int 0, .ref q7, .null, .null]))] ++ wdX0 G a1 ++ wdX0 G a2 ++ wdX0 G a3 ++ wdX2 G a4 ++ wdX3 G a5 ++ [(q6, .inl (G.1, 12, .inl fun _ => 0))] ++ [(q7, .inl (G.1, 7, .inl fun _ => 0))] ++ wdX1 G a8) H := hP
  have hD : va_D A ([(h0, .inr (5, [.ref (a1 0), .ref (a2 0), .ref (a3 0), .int 0, .ref (a4 0), .ref (a5 0), .ref q6, .int 0, .ref q7, .null, .null]))] ++ wdX0 G a1 ++ wdX0 G a2 ++ wdX0 G a3 ++ wdX2 G a4 ++ wdX3 G a5 ++ [(q6, .inl (G.1, 12, .inl fun _ => 0))] ++ [(q7, .inl (G.1, 7, .inl fun _ => 0))] ++ wdX1 G a8) := hD
  refine W.widen (k := 34) (n := 1980) (Nat.le_of_ble_eq_true rfl) (Nat.le_of_ble_eq_true rfl) ?_
  refine va_putF (D := (dC, dI)) (ci := 5) (v := .ref (a8 0)) (ty := .object "TinkerTailor$Games") (C := RX5) (T := TX5) (N := 11) hx hb hts in_X5 tyX5 tyX5_ok nmX5 hown hK hP hD hS 0 rfl rfl 9 (by decide) (hts (.fieldLink RX5 46 "TinkerTailor" "games" "LTinkerTailor$Games;") (tb_mem (pos := 287) (by decide +kernel) (by decide +kernel))) (fun _ h9 => h9) rfl hin rfl (by decide +kernel) rfl rfl (Nat.le_of_ble_eq_true rfl) dn_X5_83 (fun H locs hP hD hS => ?_)
  have hP : va_P (dC, dI) vwCl ([(h0, .inr (5, [.ref (a1 0), .ref (a2 0), .ref (a3 0), .int 0, .ref (a4 0), .ref (a5 0), .ref q6, .int 0, .ref q7, .ref (a8 0), .null]))] ++ wdX0 G a1 ++ wdX0 G a2 ++ wdX0 G a3 ++ wdX2 G a4 ++ wdX3 G a5 ++ [(q6, .inl (G.1, 12, .inl fun _ => 0))] ++ [(q7, .inl (G.1, 7, .inl fun _ => 0))] ++ wdX1 G a8) H := hP
  have hD : va_D A ([(h0, .inr (5, [.ref (a1 0), .ref (a2 0), .ref (a3 0), .int 0, .ref (a4 0), .ref (a5 0), .ref q6, .int 0, .ref q7, .ref (a8 0), .null]))] ++ wdX0 G a1 ++ wdX0 G a2 ++ wdX0 G a3 ++ wdX2 G a4 ++ wdX3 G a5 ++ [(q6, .inl (G.1, 12, .inl fun _ => 0))] ++ [(q7, .inl (G.1, 7, .inl fun _ => 0))] ++ wdX1 G a8) := hD
  refine lv_aload_n hx hb dn_X5_86 rfl (lv_at hl 0 rfl) ?_
  refine va_new (ci := 4) (fs := [.null, .null]) (C := RX4) (T := TX4) (N := 2) hx hb hts in_X4 tyX4 tyX4_ok hown (hts (.classLink RX5 50 RX4) (tb_mem (pos := 264) (by decide +kernel) (by decide +kernel))) (hts (.instantiable RX4 2) (tb_mem (pos := 265) (by decide +kernel) (by decide +kernel))) (hts (.initialized RX4) (tb_mem (pos := 124) (by decide +kernel) (by decide +kernel))) hK hP hD hS hA rfl (fun j hj => by rcases (show j = 0 ∨ j = 1 by omega) with rfl | rfl <;> rfl) (Nat.le_of_ble_eq_true rfl) (Nat.le_of_ble_eq_true rfl) dn_X5_87 (fun q9 H hP hD hS => ?_)
  have hP : va_P (dC, dI) vwCl (([(h0, .inr (5, [.ref (a1 0), .ref (a2 0), .ref (a3 0), .int 0, .ref (a4 0), .ref (a5 0), .ref q6, .int 0, .ref q7, .ref (a8 0), .null]))] ++ wdX0 G a1 ++ wdX0 G a2 ++ wdX0 G a3 ++ wdX2 G a4 ++ wdX3 G a5 ++ [(q6, .inl (G.1, 12, .inl fun _ => 0))] ++ [(q7, .inl (G.1, 7, .inl fun _ => 0))] ++ wdX1 G a8) ++ wzX4 q9) H := hP
  have hD : va_D A (([(h0, .inr (5, [.ref (a1 0), .ref (a2 0), .ref (a3 0), .int 0, .ref (a4 0), .ref (a5 0), .ref q6, .int 0, .ref q7, .ref (a8 0), .null]))] ++ wdX0 G a1 ++ wdX0 G a2 ++ wdX0 G a3 ++ wdX2 G a4 ++ wdX3 G a5 ++ [(q6, .inl (G.1, 12, .inl fun _ => 0))] ++ [(q7, .inl (G.1, 7, .inl fun _ => 0))] ++ wdX1 G a8) ++ wzX4 q9) := hD
  refine W.widen (k := 35) (n := 1982) (Nat.le_of_ble_eq_true rfl) (Nat.le_of_ble_eq_true rfl) ?_
  refine lv_dup hx hb dn_X5_90 rfl ?_
  have hPc := hP.sub (ws' := wzX4 q9) [35] rfl
  have hDc := hD.sub (ws' := wzX4 q9) [35] (by decide) rfl
  have hFc := va_free (wc := wzX4 q9) hD hS hA [35] rfl
  refine va_callv (va_runIN (As := []) (rest := [.ref q9, .ref h0]) ⟨hx, hb, hml, hown, hts⟩ (cn_X4 l dC dI G q9 H.size) ⟨va_cnB (own := RX5) (host := "TinkerTailor") 0 hts (gi (fun _ h => h) kn_X4) rfl rfl rfl (hN _ (tn_mem (w := .methodLinkNest RX5 52 yX4_init "TinkerTailor") (pos := 266) (by decide +kernel) (by decide +kernel))) (hts (.initialized RX4) (tb_mem (pos := 124) (by decide +kernel) (by decide +kernel))) (by decide +kernel) ⟨Nat.le_of_ble_eq_true rfl, Nat.le_of_ble_eq_true rfl⟩, rfl, hts (.instanceMethod yX4_init) (tb_mem (pos := 267) (by decide +kernel) (by decide +kernel))⟩ ⟨fun a U g mk q => by obtain ⟨q0, q1, qP, qK, qD⟩ := q; exact ⟨q0, q1, qP, va_K.moved (u := U) (U := U.calling g mk a) (Vm.Alike.refl U.vm) qK, qD⟩, fun U hU hW => ⟨rfl, by rw [hU], by rw [hU]; exact hPc, va_K.moved hW.alike hK, hDc.weaken (fun _ _ _ _ => trivial)⟩⟩ rfl rfl hl.1 rfl (lv_room (Nat.le_of_ble_eq_true rfl)) dn_X5_91 ⟨Nat.le_of_ble_eq_true rfl, Nat.le_of_ble_eq_true rfl⟩) hS (fun q _ h => hFc q h) hFc (fun a9 t H1 locs ht hvm hw hB hz1 hk1 hS => ?_)
  obtain ⟨hP1, hK1, hD1⟩ := hB
  rw [ht] at hP1
  try dsimp only at hw
  subst hw
  obtain ⟨hP, hD⟩ := va_join (wr := [(h0, .inr (5, [.ref (a1 0), .ref (a2 0), .ref (a3 0), .int 0, .ref (a4 0), .ref (a5 0), .ref q6, .int 0, .ref q7, .ref (a8 0), .null]))] ++ wdX0 G a1 ++ wdX0 G a2 ++ wdX0 G a3 ++ wdX2 G a4 ++ wdX3 G a5 ++ [(q6, .inl (G.1, 12, .inl fun _ => 0))] ++ [(q7, .inl (G.1, 7, .inl fun _ => 0))] ++ wdX1 G a8) (w1 := wdX4 G a9) hP hD [35] [0, 1, 2, 3, 4, 5, 6, 7, 8, 9, 10, 11, 12, 13, 14, 15, 16, 17, 18, 19, 20, 21, 22, 23, 24, 25, 26, 27, 28, 29, 30, 31, 32, 33, 34] rfl rfl (by decide) (by decide) hk1 hFc hP1 hD1
  generalize H1 = H at hP hS ⊢
  have hP : va_P (dC, dI) vwCl ([(h0, .inr (5, [.ref (a1 0), .ref (a2 0), .ref (a3 0), .int 0, .ref (a4 0), .ref (a5 0), .ref q6, .int 0, .ref q7, .ref (a8 0), .null]))] ++ wdX0 G a1 ++ wdX0 G a2 ++ wdX0 G a3 ++ wdX2 G a4 ++ wdX3 G a5 ++ [(q6, .inl (G.1, 12, .inl fun _ => 0))] ++ [(q7, .inl (G.1, 7, .inl fun _ => 0))] ++ wdX1 G a8 ++ wdX4 G a9) H := hP
  have hD : va_D A ([(h0, .inr (5, [.ref (a1 0), .ref (a2 0), .ref (a3 0), .int 0, .ref (a4 0), .ref (a5 0), .ref q6, .int 0, .ref q7, .ref (a8 0), .null]))] ++ wdX0 G a1 ++ wdX0 G a2 ++ wdX0 G a3 ++ wdX2 G a4 ++ wdX3 G a5 ++ [(q6, .inl (G.1, 12, .inl fun _ => 0))] ++ [(q7, .inl (G.1, 7, .inl fun _ => 0))] ++ wdX1 G a8 ++ wdX4 G a9) := hD
  refine W.widen (k := 37) (n := 2440) (Nat.le_of_ble_eq_true rfl) (Nat.le_of_ble_eq_true rfl) ?_
  refine va_putF (D := (dC, dI)) (ci := 5) (v := .ref (a9 0)) (ty := .object "TinkerTailor$Shares") (C := RX5) (T := TX5) (N := 11) hx hb hts in_X5 tyX5 tyX5_ok nmX5 hown hK hP hD hS 0 rfl rfl 10 (by decide) (hts (.fieldLink RX5 53 "TinkerTailor" "shares" "LTinkerTailor$Shares;") (tb_mem (pos := 288) (by decide +kernel) (by decide +kernel))) (fun _ h9 => h9) rfl hin rfl (by decide +kernel) rfl rfl (Nat.le_of_ble_eq_true rfl) dn_X5_94 (fun H locs hP hD hS => ?_)
  have hP : va_P (dC, dI) vwCl ([(h0, .inr (5, [.ref (a1 0), .ref (a2 0), .ref (a3 0), .int 0, .ref (a4 0), .ref (a5 0), .ref q6, .int 0, .ref q7, .ref (a8 0), .ref (a9 0)]))] ++ wdX0 G a1 ++ wdX0 G a2 ++ wdX0 G a3 ++ wdX2 G a4 ++ wdX3 G a5 ++ [(q6, .inl (G.1, 12, .inl fun _ => 0))] ++ [(q7, .inl (G.1, 7, .inl fun _ => 0))] ++ wdX1 G a8 ++ wdX4 G a9) H := hP
  have hD : va_D A ([(h0, .inr (5, [.ref (a1 0), .ref (a2 0), .ref (a3 0), .int 0, .ref (a4 0), .ref (a5 0), .ref q6, .int 0, .ref q7, .ref (a8 0), .ref (a9 0)]))] ++ wdX0 G a1 ++ wdX0 G a2 ++ wdX0 G a3 ++ wdX2 G a4 ++ wdX3 G a5 ++ [(q6, .inl (G.1, 12, .inl fun _ => 0))] ++ [(q7, .inl (G.1, 7, .inl fun _ => 0))] ++ wdX1 G a8 ++ wdX4 G a9) := hD
  exact W.vret hx hb hr (fun t ht hW => ⟨⟨fun k => [h0, a1 0, a1 1, a1 2, a1 3, a1 4, a1 5, a1 6, a1 7, a2 0, a2 1, a2 2, a2 3, a2 4, a2 5, a2 6, a2 7, a3 0, a3 1, a3 2, a3 3, a3 4, a3 5, a3 6, a3 7, a4 0, a4 1, a5 0, a5 1, a5 2, a5 3, q6, q7, a8 0, a8 1, a9 0, a9 1, a9 2].getD k 0, rfl, rfl, by rw [ht]; exact hP, va_K.moved hW.alike hK, hD⟩, hS.F ht⟩) hS.2.2 dn_X5_97
