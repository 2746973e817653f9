/-! ===== soundness of an instruction ===== -/
def ClsOK (c : Nat) (C : String) (T : u_T) (N : Nat) (ty : Nat → FieldType) : Prop := vwCl[c]? = some (C, T, N) ∧ (∀ w ∈ u_ws C T N, w ∈ tb) ∧ (∀ k, k < N → parseFieldDescriptor (T k).2.2.1 = some (ty k)) ∧ (∀ a, a < N → ∀ b, b < N → a ≠ b → (T a).2.1 ≠ (T b).2.1) ∧ N = cN c
theorem cls_ok (c : Nat) (hc : c < 7) : ∃ C T N ty, ClsOK c C T N ty := by
  rcases (show c = 0 ∨ c = 1 ∨ c = 2 ∨ c = 3 ∨ c = 4 ∨ c = 5 ∨ c = 6 by omega) with rfl | rfl | rfl | rfl | rfl | rfl | rfl
  · exact ⟨_, _, _, tyX0, rfl, tb_sub inX0 (by decide +kernel), tyX0_ok, nmX0, rfl⟩
  · exact ⟨_, _, _, tyX1, rfl, tb_sub inX1 (by decide +kernel), tyX1_ok, nmX1, rfl⟩
  · exact ⟨_, _, _, tyX2, rfl, tb_sub inX2 (by decide +kernel), tyX2_ok, nmX2, rfl⟩
  · exact ⟨_, _, _, tyX3, rfl, tb_sub inX3 (by decide +kernel), tyX3_ok, nmX3, rfl⟩
  · exact ⟨_, _, _, tyX4, rfl, tb_sub inX4 (by decide +kernel), tyX4_ok, nmX4, rfl⟩
  · exact ⟨_, _, _, tyX5, rfl, tb_sub inX5 (by decide +kernel), tyX5_ok, nmX5, rfl⟩
  · exact ⟨_, _, _, tyX6, rfl, tb_sub inX6 (by decide +kernel), tyX6_ok, nmX6, rfl⟩
/-- what the Statement gives of things that nobody writes: the text constants, two statics -/
def XT (ad : Nat → Nat) (A : Nat → Prop) (U : State) (H : Heap) : Prop :=
  vk_S 6 (strS.map List.length) (strS.map (fun l => l.map Int32.ofInt)) (fun i => ad (200 + i)) (fun i => ad (220 + i)) A U H ∧
  va_Z "java/lang/String" "COMPACT_STRINGS" "Z" (.int 1) A U H ∧
  (va_Z "jdk/internal/util/Preconditions" "SIOOBE_FORMATTER" "Ljava/util/function/BiFunction;" .null A U H ∨ va_Z "jdk/internal/util/Preconditions" "SIOOBE_FORMATTER" "Ljava/util/function/BiFunction;" (.ref (ad 240)) A U H) ∧
  (∀ i, i < 6 → vk_R "TinkerTailor$Letters" (23 + 2 * i) (strT.getD i "") (ad (200 + i)) U) ∧ ∀ w ∈ tn, va_Nw w U
theorem tn_warm {w : Cond} (h : w ∈ tn) {s U : State} (hW : s.WarmedH U.vm) (hZ : va_Nw w s) : va_Nw w U := by
  have h2 := (List.mem_filter.mp h).2
  unfold isNest at h2
  split at h2
  · exact va_Nw.warmM hW hZ
  · exact va_Nw.warmF hW hZ
  · cases h2
theorem tn_tab {w : Cond} (h : w ∈ tn) : w.onTables = true := by
  have h2 := (List.mem_filter.mp h).2
  unfold isNest at h2
  split at h2
  · rfl
  · rfl
  · cases h2
theorem XT.moved {ad : Nat → Nat} {A : Nat → Prop} {u U : State} {H : Heap} (hW : u.WarmedH U.vm) (h : XT ad A u H) : XT ad A U H :=
  ⟨h.1.moved hW.alike, h.2.1.moved hW.alike, h.2.2.1.imp (fun z => z.moved hW.alike) (fun z => z.moved hW.alike), fun i hi => (h.2.2.2.1 i hi).warm hW, fun w hw => tn_warm hw hW (h.2.2.2.2 w hw)⟩
theorem XT.kept {ad : Nat → Nat} {A : Nat → Prop} {U : State} {H H1 : Heap} (h : XT ad A U H) (hq : ∀ a : Nat, a < H.size → ¬ A a → H1[a]? = H[a]?) : XT ad A U H1 :=
  ⟨h.1.kept hq, h.2.1.kept hq, h.2.2.1.imp (fun z => z.kept hq) (fun z => z.kept hq), h.2.2.2⟩
theorem XT.narrow {ad : Nat → Nat} {A B : Nat → Prop} {U : State} {H : Heap} (h : XT ad A U H) (hAB : ∀ q, B q → A q) : XT ad B U H :=
  ⟨h.1.narrow hAB, h.2.1.narrow hAB, h.2.2.1.imp (fun z => z.narrow hAB) (fun z => z.narrow hAB), h.2.2.2⟩
theorem XT.same {ad : Nat → Nat} {A : Nat → Prop} {u U : State} {H : Heap} (hv : U.vm = u.vm) (ha : u.vm.Alike U.vm) (h : XT ad A u H) : XT ad A U H :=
  ⟨h.1.moved ha, h.2.1.moved ha, h.2.2.1.imp (fun z => z.moved ha) (fun z => z.moved ha), fun i hi => (h.2.2.2.1 i hi).same hv, fun w hw => (h.2.2.2.2 w hw).same (tn_tab hw) hv.symm⟩
section IS
variable {mt : List MDat} {lawq : Bool} {p : Program} {l : Launch} {e : Env} {R : Room} {s : State} {m : MethodId} {args : Array Value} {below : List Frame} {meth : Method} {c : Code} {cells slots : Nat} {Q : State → Prop} {cc : ByteArray} {nL : Nat} {own : String} {ad : Nat → Nat} {G : ClassId × (ClassId × ClassId)} {dC : Nat → ClassId} {dI : Nat → Nat → Nat} {A : Nat → Prop} {sc : Int → Int} {sl : Int} {d : Nat}
/-- what holds all through a method -/
def FX (lawq : Bool) (p : Program) (R : Room) (s : State) (m : MethodId) (args : Array Value) (c : Code) (cells slots : Nat) (cc : ByteArray) (nL : Nat) (own : String) (ad : Nat → Nat) (G : ClassId × (ClassId × ClassId)) (dC : Nat → ClassId) (dI : Nat → Nat → Nat) (A : Nat → Prop) (sc : Int → Int) (sl : Int) (d : Nat) : Prop :=
  p.tables.exec = Jvm.exec ∧ c.code = cc ∧ c.maxLocals = nL ∧ s.vm.findClass own = some m.cls ∧ (∀ w ∈ tb, w.before args s = true) ∧
  va_K (dC, dI) vwCl [(G.1, .int), (G.2.1, .long), (G.2.2, .boolean)] s ∧ XT ad A s s.heap ∧ (∀ q, s.heap.size ≤ q → A q) ∧
  (d + 1 ≤ R.frames ∧ 64 * (d + 1) ≤ R.locals ∧ cells ≤ R.cells ∧ slots ≤ R.slots) ∧
  (lawq = true → ∃ (L : Nat) (xs : Nat → Int32), va_X (ad 300) L xs s s.heap ∧ ad 300 < s.heap.size ∧ ¬ A (ad 300) ∧ sl = (L : Int) ∧ L < 2 ^ 31 ∧ ∀ i : Nat, i < L → inI (sc i) ∧ xs i = Int32.ofInt (sc i))
/-- the state between two instructions -/
def SS (s : State) (ad : Nat → Nat) (G : ClassId × (ClassId × ClassId)) (dC : Nat → ClassId) (dI : Nat → Nat → Nat) (A : Nat → Prop) (nL : Nat) (ls : Array Slot) (L : LL) (st : List AV) (h : AH) (H : Heap) (locs : List Loc) : Prop :=
  LH ad ls nL L ∧ (∀ v ∈ st, vOK v) ∧ (∀ (i : Nat) (v : AV), L[i]? = some (some v) → vOK v) ∧ hOK h ∧ va_P (dC, dI) vwCl (wl ad G h) H ∧ va_D A (wl ad G h) ∧ va_S A s.heap H locs
theorem fWord_of {idx cl j nest pos : Nat} {C : String} {T : u_T} {N : Nat} (hc : vwCl[cl]? = some (C, T, N)) (hf : okF own idx cl j nest pos = true) :
    cl < 7 ∧ j < cN cl ∧ ((.fieldLink own idx (T j).1 (T j).2.1 (T j).2.2.1) ∈ tb ∨ (.fieldLinkNest own idx (T j).1 (T j).2.1 (T j).2.2.1 "TinkerTailor") ∈ tn) := by
  unfold okF fWord at hf
  rw [hc] at hf
  simp only [Option.map_some, Bool.and_eq_true, decide_eq_true_eq] at hf
  obtain ⟨h1, h2, h3⟩ := hf
  refine ⟨h1, h2, ?_⟩
  by_cases hn : nest = 0
  · rw [if_pos hn, if_pos hn] at h3
    simp only [okW, Bool.and_eq_true, decide_eq_true_eq] at h3
    exact Or.inl (tb_mem h3.1 h3.2)
  · rw [if_neg hn, if_neg hn] at h3
    simp only [okN, Bool.and_eq_true, decide_eq_true_eq] at h3
    exact Or.inr (tn_mem h3.1 h3.2)
theorem is_get (F : FX lawq p R s m args c cells slots cc nL own ad G dC dI A sc sl d) {h : AH} {H : Heap} {locs : List Loc} (hP : va_P (dC, dI) vwCl (wl ad G h) H) {a cl j idx nest pos pc : Nat} {ls : Array Slot} {rest : List Value} (hs : (shA a).1 = cl) (hf : okF own idx cl j nest pos = true) (hdg : decode cc pc = .ok (.getfield idx, 3))
    (kk : W p l e R s m args below meth c H locs cells slots Q (F0 m (pc + 3) ls (fv ad h a cl j :: rest))) : W p l e R s m args below meth c H locs cells slots Q (F0 m pc ls (.ref (ad a) :: rest)) := by
  obtain ⟨hx, hb, hml, hown, hts, hK, hXT, -⟩ := F
  have hcl : cl < 7 := by
    unfold okF at hf
    split at hf
    · simp only [Bool.and_eq_true, decide_eq_true_eq] at hf; exact hf.1
    · cases hf
  obtain ⟨C, T, N, ty, h1, h2, h3, h4, h5⟩ := cls_ok cl hcl
  obtain ⟨-, hj, hw⟩ := fWord_of h1 hf
  have hget := wl_get (ad := ad) (G := G) (h := h) (shA_lt hs (by omega))
  rw [cellO hs hcl] at hget
  rcases hw with hw | hw
  · exact va_get hx hb hts h2 hown hK hP a hget h1 j (by rw [h5]; exact hj) (hts _ hw) (fun _ h9 => h9) (fld_get hj) hdg kk
  · exact va_getN hx hb hts h2 hown hK hP a hget h1 j (by rw [h5]; exact hj) ((hXT.2.2.2.2 _ hw).use rfl) (fun _ h9 => h9) (fld_get hj) hdg kk
theorem is_put (F : FX lawq p R s m args c cells slots cc nL own ad G dC dI A sc sl d) {h h' : AH} {H : Heap} {locs : List Loc} (hP : va_P (dC, dI) vwCl (wl ad G h) H) (hD : va_D A (wl ad G h)) (hS : va_S A s.heap H locs) {a cl j idx nest pos pc : Nat} {ls : Array Slot} {rest : List Value} {v : Value} {ty : FieldType} (hs : (shA a).1 = cl) (hf : okF own idx cl j nest pos = true) (hty : fTy cl j = some ty) (hn : narrow ty v = v) (hfit : fits ty v = true)
    (hset : cl < 7 → (wl ad G h).set a (ad a, .inr (cl, ((List.range (cN cl)).map (fun j => fv ad h a cl j)).set j v)) = wl ad G h') (hdg : decode cc pc = .ok (.putfield idx, 3))
    (kk : ∀ (H1 : Heap) (locs1 : List Loc), va_P (dC, dI) vwCl (wl ad G h') H1 → va_D A (wl ad G h') → va_S A s.heap H1 locs1 → W p l e R s m args below meth c H1 locs1 cells slots Q (F0 m (pc + 3) ls rest)) : W p l e R s m args below meth c H locs cells slots Q (F0 m pc ls (v :: .ref (ad a) :: rest)) := by
  obtain ⟨hx, hb, hml, hown, hts, hK, hXT, -⟩ := F
  have hcl : cl < 7 := by
    unfold okF at hf
    split at hf
    · simp only [Bool.and_eq_true, decide_eq_true_eq] at hf; exact hf.1
    · cases hf
  obtain ⟨C, T, N, ty0, h1, h2, h3, h4, h5⟩ := cls_ok cl hcl
  obtain ⟨-, hj, hw⟩ := fWord_of h1 hf
  have hget := wl_get (ad := ad) (G := G) (h := h) (shA_lt hs (by omega))
  rw [cellO hs hcl] at hget
  have hty' : (T j).2.2.2 = false ∧ parseFieldDescriptor (T j).2.2.1 = some ty := by
    unfold fTy at hty
    rw [h1] at hty
    dsimp only at hty
    split at hty
    · cases hty
    · next hq => exact ⟨by simpa using hq, hty⟩
  rcases hw with hw | hw
  · exact va_put hx hb hts h2 ty0 h3 h4 hown hK hP hD hS a hget h1 j (by rw [h5]; exact hj) (hts _ hw) (fun _ h9 => h9) hty'.1 hty'.2 hn hfit (by simp; exact hj) hdg (fun H1 locs1 a1 a2 a3 => by rw [hset hcl] at a1 a2; exact kk H1 locs1 a1 a2 a3)
  · exact va_putN hx hb hts h2 ty0 h3 h4 hown hK hP hD hS a hget h1 j (by rw [h5]; exact hj) ((hXT.2.2.2.2 _ hw).use rfl) (fun _ h9 => h9) hty'.1 hty'.2 hn hfit (by simp; exact hj) hdg (fun H1 locs1 a1 a2 a3 => by rw [hset hcl] at a1 a2; exact kk H1 locs1 a1 a2 a3)
theorem is_cmp (F : FX lawq p R s m args c cells slots cc nL own ad G dC dI A sc sl d) {cd : ClassFile.Cond} {z y off : Int} {tgt pc : Nat} {ls : Array Slot} {rest : List Value} {H : Heap} {locs : List Loc} (hz : inI z) (hy : inI y) (hdg : decode cc pc = .ok (.if_icmp cd off, 3)) (ht : (pc : Int) + off = (tgt : Int))
    (kt : cmpP cd z y → W p l e R s m args below meth c H locs cells slots Q (F0 m tgt ls rest)) (kf : ¬ cmpP cd z y → W p l e R s m args below meth c H locs cells slots Q (F0 m (pc + 3) ls rest)) : W p l e R s m args below meth c H locs cells slots Q (F0 m pc ls (.int (Int32.ofInt y) :: .int (Int32.ofInt z) :: rest)) := by
  obtain ⟨hx, hb, -⟩ := F
  cases cd with
  | eq => exact lv_icmp_eq hx hb hdg ht (fun q => kt ((am_eq hz hy).mp q)) (fun q => kf (fun q2 => q ((am_eq hz hy).mpr q2)))
  | ne => exact lv_icmp_ne hx hb hdg ht (fun q => kt (fun q2 => q ((am_eq hz hy).mpr q2))) (fun q => kf (fun q2 => q2 ((am_eq hz hy).mp q)))
  | lt => exact lv_icmp_lt hx hb hdg ht (fun q => kt ((am_lt hz hy).mp q)) (fun q => kf (fun q2 => q ((am_lt hz hy).mpr q2)))
  | ge => exact lv_icmp_ge hx hb hdg ht (fun q => kt ((am_le hy hz).mp q)) (fun q => kf (fun q2 => q ((am_le hy hz).mpr q2)))
  | gt => exact lv_icmp_gt hx hb hdg ht (fun q => kt ((am_lt hy hz).mp q)) (fun q => kf (fun q2 => q ((am_lt hy hz).mpr q2)))
  | le => exact lv_icmp_le hx hb hdg ht (fun q => kt ((am_le hz hy).mp q)) (fun q => kf (fun q2 => q ((am_le hz hy).mpr q2)))
theorem is_if (F : FX lawq p R s m args c cells slots cc nL own ad G dC dI A sc sl d) {cd : ClassFile.Cond} {z off : Int} {tgt pc : Nat} {ls : Array Slot} {rest : List Value} {H : Heap} {locs : List Loc} (hz : inI z) (hdg : decode cc pc = .ok (.ifCond cd off, 3)) (ht : (pc : Int) + off = (tgt : Int))
    (kt : cmpP cd z 0 → W p l e R s m args below meth c H locs cells slots Q (F0 m tgt ls rest)) (kf : ¬ cmpP cd z 0 → W p l e R s m args below meth c H locs cells slots Q (F0 m (pc + 3) ls rest)) : W p l e R s m args below meth c H locs cells slots Q (F0 m pc ls (.int (Int32.ofInt z) :: rest)) := by
  obtain ⟨hx, hb, -⟩ := F
  have hy : inI 0 := ⟨by decide, by decide⟩
  have e0 : (Int32.ofInt 0) = 0 := rfl
  cases cd with
  | eq => exact lv_if_eq hx hb hdg ht (fun q => kt ((am_eq hz hy).mp q)) (fun q => kf (fun q2 => q ((am_eq hz hy).mpr q2)))
  | ne => exact lv_if_ne hx hb hdg ht (fun q => kt (fun q2 => q ((am_eq hz hy).mpr q2))) (fun q => kf (fun q2 => q2 ((am_eq hz hy).mp q)))
  | lt => exact lv_if_lt hx hb hdg ht (fun q => kt ((am_lt hz hy).mp q)) (fun q => kf (fun q2 => q ((am_lt hz hy).mpr q2)))
  | ge => exact lv_if_ge hx hb hdg ht (fun q => kt ((am_le hy hz).mp q)) (fun q => kf (fun q2 => q ((am_le hy hz).mpr q2)))
  | gt => exact lv_if_gt hx hb hdg ht (fun q => kt ((am_lt hy hz).mp q)) (fun q => kf (fun q2 => q ((am_lt hy hz).mpr q2)))
  | le => exact lv_if_le hx hb hdg ht (fun q => kt ((am_le hz hy).mp q)) (fun q => kf (fun q2 => q ((am_le hz hy).mpr q2)))

theorem okT_pc {bs : List ABlk} {t : Nat} {pc : Int} (h : okT bs t pc = true) : ∃ q, bs[t]? = some q ∧ (q.1 : Int) = pc := by
  unfold okT at h
  split at h
  · next q hq => exact ⟨q, hq, by simpa using h⟩
  · cases h
def isRet : Instr → List Nat → Option AV → Prop
  | .ireturn, x, some (.inl z) => x = [] ∨ (x = [1] ∧ (z = 0 ∨ z = 1)) ∨ (x = [2] ∧ 0 ≤ z ∧ z < 65536) ∨ (x = [3] ∧ z = 0)
  | .lreturn, _, some (.inr (.inl _)) => True
  | .areturn, _, some (.inr (.inr (some _))) => True
  | .return_, _, none => True
  | _, _, _ => False
theorem vOK_st {v : AV} {st : List AV} (h : ∀ w ∈ v :: st, vOK w) : vOK v ∧ ∀ w ∈ st, vOK w := ⟨h v List.mem_cons_self, fun w hw => h w (List.mem_cons_of_mem _ hw)⟩
theorem vOK_cons {v : AV} {st : List AV} (h : vOK v) (h2 : ∀ w ∈ st, vOK w) : ∀ w ∈ v :: st, vOK w := fun w hw => (List.mem_cons.mp hw).elim (fun q => q ▸ h) (h2 w)
theorem LOK.set {L : LL} {n : Nat} {v : AV} (h : ∀ (i : Nat) (v : AV), L[i]? = some (some v) → vOK v) (hv : vOK v) : ∀ (i : Nat) (w : AV), (setL L n v)[i]? = some (some w) → vOK w := fun i w hw => by
  rcases setL_get L n v i w hw with ⟨-, b⟩ | ⟨-, b, -⟩
  · rw [b]; exact hv
  · exact h i w b
theorem LOK.set2 {L : LL} {n : Nat} {v : AV} (h : ∀ (i : Nat) (v : AV), L[i]? = some (some v) → vOK v) (hv : vOK v) : ∀ (i : Nat) (w : AV), (setL2 L n v)[i]? = some (some w) → vOK w := fun i w hw => by
  rcases setL2_get L n v i w hw with ⟨-, b⟩ | ⟨-, -, b, -⟩
  · rw [b]; exact hv
  · exact h i w b
theorem lk_0 {L : LL} {i : Nat} {k : AV → Prop} (h : ldA 0 L i k) : ∃ z, L[i]? = some (some (.inl z)) ∧ k (.inl z) := by
  unfold ldA at h
  generalize L[i]? = o at h ⊢
  match o with
  | some (some (.inl z)) => exact ⟨z, rfl, h⟩
  | some (some (.inr (.inl z))) => exact h.elim
  | some (some (.inr (.inr (some a)))) => exact h.elim
  | some (some (.inr (.inr none))) => exact h.elim
  | some none => exact h.elim
  | none => exact h.elim
theorem lk_1 {L : LL} {i : Nat} {k : AV → Prop} (h : ldA 1 L i k) : ∃ z, L[i]? = some (some (.inr (.inl z))) ∧ k (.inr (.inl z)) := by
  unfold ldA at h
  generalize L[i]? = o at h ⊢
  match o with
  | some (some (.inl z)) => exact h.elim
  | some (some (.inr (.inl z))) => exact ⟨z, rfl, h⟩
  | some (some (.inr (.inr (some a)))) => exact h.elim
  | some (some (.inr (.inr none))) => exact h.elim
  | some none => exact h.elim
  | none => exact h.elim
theorem lk_2 {L : LL} {i : Nat} {k : AV → Prop} (h : ldA 2 L i k) : ∃ a, L[i]? = some (some (.inr (.inr (some a)))) ∧ k (.inr (.inr (some a))) := by
  unfold ldA at h
  generalize L[i]? = o at h ⊢
  match o with
  | some (some (.inl z)) => exact h.elim
  | some (some (.inr (.inl z))) => exact h.elim
  | some (some (.inr (.inr (some a)))) => exact ⟨a, rfl, h⟩
  | some (some (.inr (.inr none))) => exact h.elim
  | some none => exact h.elim
  | none => exact h.elim
theorem okD_1 {cc : ByteArray} {pc n : Nat} {i : Instr} (h : (match decode cc pc with
    | .ok (i', n') => decide (i' = i) && decide (n' = n)
    | _ => false) = true) : decode cc pc = .ok (i, n) := by
  split at h
  · next i' n' hq =>
    simp only [Bool.and_eq_true, decide_eq_true_eq] at h
    rw [hq, h.1, h.2]
  · cases h
theorem catS_eq {ad : Nat → Nat} : ∀ (st : List AV), ((st.map (cv ad)).map fun v => v.category).sum = catS st
  | [] => rfl
  | v :: st => by
    have := catS_eq (ad := ad) st
    simp only [List.map_cons, List.sum_cons, catS, cat_cv] at this ⊢
    rw [this]
theorem popA_eq : ∀ (n : Nat) (acc st as st' : List AV), popA n acc st = some (as, st') → ∃ as0 : List AV, as0.length = n ∧ st = as0 ++ st' ∧ as = as0.reverse ++ acc
  | 0, acc, st, as, st', h => by cases h; exact ⟨[], rfl, rfl, rfl⟩
  | n + 1, acc, [], as, st', h => by simp [popA] at h
  | n + 1, acc, v :: st, as, st', h => by
    obtain ⟨a0, b1, b2, b3⟩ := popA_eq n (v :: acc) st as st' h
    exact ⟨v :: a0, by simp [b1], by rw [b2]; rfl, by rw [b3]; simp⟩
theorem popA_0 {n : Nat} {st as st' : List AV} (h : popA n [] st = some (as, st')) : as.length = n ∧ st = as.reverse ++ st' := by
  obtain ⟨a0, b1, b2, b3⟩ := popA_eq n [] st as st' h
  rw [List.append_nil] at b3
  subst b3
  exact ⟨by simp [b1], by rw [List.reverse_reverse]; exact b2⟩
end IS
