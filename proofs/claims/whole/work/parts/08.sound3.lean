/-! ===== calls, and an instruction whole ===== -/
def tys (G : ClassId × (ClassId × ClassId)) : List (ClassId × FieldType) := [(G.1, .int), (G.2.1, .long), (G.2.2, .boolean)]
def wsy (q : MDat) : List Cond := .code (mdN q) (mdB q) (mdL q) (mdR q) :: tb
def rmd (d : Nat) : Room := { frames := d, cells := 0, slots := 0, locals := 64 * d }
def QQ (ad : Nat → Nat) (G : ClassId × (ClassId × ClassId)) (dC : Nat → ClassId) (dI : Nat → Nat → Nat) (K : AK) (A : Nat → Prop) : Array Value → State → Outcome → State → Prop := fun _ st oc t =>
  (∃ (r : Option AV) (h' : AH), oc = .returned (r.map (cv ad)) ∧ K r h' ∧ hOK h' ∧ (∀ v, r = some v → vOK v) ∧ va_P (dC, dI) vwCl (wl ad G h') t.heap ∧ va_K (dC, dI) vwCl (tys G) t ∧ va_D A (wl ad G h')) ∧ va_F A st t
def PB (ad : Nat → Nat) (G : ClassId × (ClassId × ClassId)) (dC : Nat → ClassId) (dI : Nat → Nat → Nat) (h : AH) (sz : Nat) : State → Prop := fun U =>
  U.heap.size = sz ∧ va_P (dC, dI) vwCl (wl ad G h) U.heap ∧ va_K (dC, dI) vwCl (tys G) U ∧ va_D (fun _ => True) (wl ad G h) ∧ XT ad (va_A (wl ad G h) sz) U U.heap
theorem PB_blind {ad : Nat → Nat} {G : ClassId × (ClassId × ClassId)} {dC : Nat → ClassId} {dI : Nat → Nat → Nat} {h : AH} {sz : Nat} {av : List Value} : FrameBlind (va_Pc av (PB ad G dC dI h sz)) := fun a U g mk q => by
  obtain ⟨q0, q1, qP, qK, qD, qX⟩ := q
  exact ⟨q0, q1, qP, va_K.moved (u := U) (U := U.calling g mk a) (Vm.Alike.refl U.vm) qK, qD, XT.same (u := U) (U := U.calling g mk a) (H := U.heap) rfl (Vm.Alike.refl U.vm) qX⟩
theorem wl_some {ad : Nat → Nat} {G : ClassId × (ClassId × ClassId)} {h : AH} {k : Nat} {q : Nat × va_E} (hq : (wl ad G h)[k]? = some q) : k < 65 ∧ q = (ad k, cellE ad G h k) := by
  have hk : k < 65 := by
    have := (List.getElem?_eq_some_iff.mp hq).1
    simpa [wl] using this
  rw [wl_get hk] at hq
  exact ⟨hk, (Option.some.inj hq).symm⟩
theorem wl_D {ad : Nat → Nat} {G : ClassId × (ClassId × ClassId)} {h h' : AH} {A : Nat → Prop} (hD : va_D A (wl ad G h)) : va_D A (wl ad G h') := by
  refine ⟨fun i j p q hi hj hpq => ?_, fun k q hk => ?_⟩
  · obtain ⟨i1, rfl⟩ := wl_some hi
    obtain ⟨j1, rfl⟩ := wl_some hj
    exact hD.1 i j _ _ (wl_get i1) (wl_get j1) hpq
  · obtain ⟨i1, rfl⟩ := wl_some hk
    exact hD.2 k (ad k, cellE ad G h k) (wl_get i1)
theorem wl_A {ad : Nat → Nat} {G : ClassId × (ClassId × ClassId)} {h : AH} {A : Nat → Prop} {sz q : Nat} (hD : va_D A (wl ad G h)) (hA : ∀ q, sz ≤ q → A q) (hq : va_A (wl ad G h) sz q) : A q := by
  rcases hq with ⟨k, e, hk⟩ | hq
  · exact hD.2 k _ hk
  · exact hA q hq
section IS
variable {mt : List MDat} {lawq : Bool} {p : Program} {l : Launch} {e : Env} {R : Room} {s : State} {m : MethodId} {args : Array Value} {below : List Frame} {meth : Method} {c : Code} {cells slots : Nat} {Q : State → Prop} {cc : ByteArray} {nL : Nat} {own : String} {ad : Nat → Nat} {G : ClassId × (ClassId × ClassId)} {dC : Nat → ClassId} {dI : Nat → Nat → Nat} {A : Nat → Prop} {sc : Int → Int} {sl : Int} {d : Nat}
theorem is_back {h : AH} {H : Heap} {locs : List Loc} {pc : Nat} {ls : Array Slot} {st0 rest : List Value} {K : AK} {a : Array Value} (hD : va_D A (wl ad G h)) (hS : va_S A s.heap H locs) (hA : ∀ q, s.heap.size ≤ q → A q)
    (hr : va_Run p l e R s m args below meth c H locs cells slots 0 0 (F0 m pc ls st0) rest (QQ ad G dC dI K (va_A (wl ad G h) H.size) a) (va_A (wl ad G h) H.size))
    (kk : ∀ (r : Option AV) (h' : AH) (H1 : Heap) (locs1 : List Loc), K r h' → hOK h' → (∀ v, r = some v → vOK v) → va_P (dC, dI) vwCl (wl ad G h') H1 → va_D A (wl ad G h') → va_S A s.heap H1 locs1 → W p l e R s m args below meth c H1 locs1 cells slots Q (F0 m (pc + 3) ls ((r.map (cv ad)).toList ++ rest))) : W p l e R s m args below meth c H locs cells slots Q (F0 m pc ls st0) := by
  have hA1 : ∀ q, va_A (wl ad G h) H.size q → A q := fun q hq => wl_A hD (fun q h2 => hA q (Nat.le_trans hS.1 h2)) hq
  intro T hT X
  obtain ⟨v, st₀, t, T', L, h0, X', hL, e1, e2, ⟨⟨r, h', hv, hK, hh, hvo, hP', hK', hD'⟩, hz, hk⟩, st⟩ := hr T hT X
  cases hv
  rw [h0] at hz hk
  obtain ⟨t2, a1, b1⟩ := kk r h' T'.heap (locs ++ L) hK hh hvo (by rw [e1]; exact hP') (wl_D hD)
    ⟨Nat.le_trans hS.1 (by rw [e1]; exact hz), fun q h1 h2 => by rw [e1, hk q (Nat.lt_of_lt_of_le h1 hS.1) (fun z => h2 (hA1 q z))]; exact hS.2.1 q h1 h2, fun q hq => by
      rcases List.mem_append.mp hq with h | h
      · exact hS.2.2 q h
      · exact hA1 _ (hL q h)⟩ T' rfl X'
  exact ⟨t2, st t2 a1, b1⟩
theorem XT.at (F : FX lawq p R s m args c cells slots cc nL own ad G dC dI A sc sl d) {h : AH} {H : Heap} {locs : List Loc} {U : State} (hD : va_D A (wl ad G h)) (hS : va_S A s.heap H locs) (hU : U.heap = H) (hW : s.WarmedH U.vm) : XT ad (va_A (wl ad G h) H.size) U U.heap := by
  obtain ⟨-, -, -, -, -, -, hX, hA, -⟩ := F
  rw [hU]
  exact ((hX.kept (fun a h1 h2 => hS.2.1 a h1 h2)).narrow (fun q hq => wl_A hD (fun q h2 => hA q (Nat.le_trans hS.1 h2)) hq)).moved hW
theorem okM_1 {q : MDat} (h : okM mt q = true) : (Cond.code (mdN q) (mdB q) (mdL q) (mdR q)) ∈ tb ∧ (Cond.initialized (mdN q).cls) ∈ tb ∧ (mdS q = true → (Cond.static (mdN q)) ∈ tb) ∧ (mdS q = false → (Cond.instanceMethod (mdN q)) ∈ tb ∧ (Cond.selects (mdN q).cls (mdN q) (mdN q)) ∈ tb) := by
  unfold okM at h
  rw [Bool.and_eq_true] at h
  obtain ⟨h, -⟩ := h
  split at h
  · next a b c d _ _ =>
    simp only [Bool.and_eq_true, okW, decide_eq_true_eq] at h
    obtain ⟨⟨h1, h2⟩, ⟨h3, h4⟩, ⟨h5, h6⟩, h7⟩ := h
    refine ⟨tb_mem h1 h2, tb_mem h5 h6, fun hs => ?_, fun hs => ?_⟩
    · rw [if_pos hs] at h3 h4; exact tb_mem h3 h4
    · rw [if_neg (by simp [hs])] at h3 h4
      rw [hs] at h7
      simp only [Bool.false_or, Bool.and_eq_true, decide_eq_true_eq] at h7
      exact ⟨tb_mem h3 h4, tb_mem h7.1 h7.2⟩
  · cases h
theorem okM_2 {q : MDat} (h : okM mt q = true) : ((mdN q).cls ≠ "java/lang/invoke/MethodHandle" ∧ (mdN q).cls ≠ "java/lang/invoke/VarHandle") ∧ (parseMethodDescriptor (mdN q).desc).map (fun d => d.parameters.length) = some (mdP q) ∧ plainName (mdN q).cls = true ∧ mdL q ≤ 45 ∧ (∃ b, (mdK q)[0]? = some b ∧ b.1 = 0) ∧ (mdS q = false → (mdC q = 20 ∧ (mdN q).cls = "java/lang/String") ∨ (mdC q < 7 ∧ ∃ T N, vwCl[mdC q]? = some ((mdN q).cls, T, N))) ∧ ∀ b ∈ mdK q, okB mt false (mdL q) (mdN q).cls (mdB q) (mdK q) (mdR q) b.1 b.2.2 = true := by
  unfold okM at h
  simp only [Bool.and_eq_true, decide_eq_true_eq] at h
  obtain ⟨-, h1, h2, h3, h4, h5, h6, h7, h8⟩ := h
  refine ⟨⟨h1, h2⟩, h3, h4, h5, ?_, fun hs => ?_, fun b hb => List.all_eq_true.mp h8 b hb⟩
  · split at h6
    · next b hb => exact ⟨b, hb, by simpa using h6⟩
    · cases h6
  · rw [hs] at h7
    simp only [Bool.false_or] at h7
    split at h7
    · next hq => exact Or.inl ⟨hq, by simpa using h7⟩
    · split at h7
      · next v hv =>
        simp only [Bool.and_eq_true, decide_eq_true_eq] at h7
        obtain ⟨C, T, N⟩ := v
        exact Or.inr ⟨h7.2, T, N, by rw [hv]; simp only at h7; rw [h7.1]⟩
      · cases h7
theorem pay_tb (F : FX lawq p R s m args c cells slots cc nL own ad G dC dI A sc sl d) {q : MDat} (hq : (Cond.code (mdN q) (mdB q) (mdL q) (mdR q)) ∈ tb) : ∀ w ∈ wsy q, ∀ (a' : Array Value) (U : State), s.WarmedH U.vm → w.before a' U = true := by
  refine pay_in F.2.2.2.2.1 (fun w hw => ?_)
  rcases List.mem_cons.mp hw with rfl | hw
  · exact ⟨hq, good_of_word (tb_good hq)⟩
  · exact ⟨hw, good_of_word (tb_good hw)⟩
theorem is_callS (F : FX lawq p R s m args c cells slots cc nL own ad G dC dI A sc sl d) {q : MDat} (hq : okM mt q = true) (hst : mdS q = true) {h : AH} {H : Heap} {locs : List Loc} {idx nest pos pc : Nat} {ls : Array Slot} {as st : List AV} {K : AK}
    (hn : as.length = mdP q) (hlink : okL own idx nest pos (mdN q) = true)
    (hM : Met l (mdN q) (wsy q) (rmd d) (va_Pc (as.map (cv ad)) (PB ad G dC dI h H.size)) (QQ ad G dC dI K (va_A (wl ad G h) H.size)) 0 0 (va_A (wl ad G h) H.size))
    (hP : va_P (dC, dI) vwCl (wl ad G h) H) (hD : va_D A (wl ad G h)) (hS : va_S A s.heap H locs) (hls : ls.size = nL) (hcat : catS st ≤ 8) (hdg : decode cc pc = .ok (.invokestatic idx, 3)) :
    va_Run p l e R s m args below meth c H locs cells slots 0 0 (F0 m pc ls ((as.reverse ++ st).map (cv ad))) (st.map (cv ad)) (QQ ad G dC dI K (va_A (wl ad G h) H.size) (as.map (cv ad)).toArray) (va_A (wl ad G h) H.size) := by
  obtain ⟨w1, w2, w3, -⟩ := okM_1 hq
  obtain ⟨g1, g2, g3, g4, -⟩ := okM_2 hq
  have hpay := pay_tb F w1
  have hXT := fun (U : State) (hU : U.heap = H) (hW : s.WarmedH U.vm) => XT.at F (U := U) hD hS hU hW
  obtain ⟨hx, hb, hml, hown, hts, hK, hXs, -, hR, -⟩ := F
  have hpre : PreS s H (va_Pc (as.map (cv ad)) (PB ad G dC dI h H.size)) (as.map (cv ad)) := ⟨PB_blind, fun U hU hW => ⟨rfl, by rw [hU], by rw [hU]; exact hP, va_K.moved hW.alike hK, hD.weaken (fun _ _ _ _ => trivial), hXT U hU hW⟩⟩
  have hpn : ∀ sig, parseMethodDescriptor (mdN q).desc = some sig → mdP q = sig.parameters.length := fun sig hsig => by rw [hsig] at g2; exact (Option.some.inj g2).symm
  have hlo : 8 + (mdL q + 11) + (rmd d).locals ≤ R.locals := by show 8 + (mdL q + 11) + 64 * d ≤ R.locals; omega
  have hstk : ((as.reverse ++ st).map (cv ad)) = (as.map (cv ad)).reverse ++ st.map (cv ad) := by simp
  by_cases hnz : nest = 0
  · rw [okL, if_pos hnz] at hlink
    simp only [okW, Bool.and_eq_true, decide_eq_true_eq] at hlink
    have hw := tb_mem hlink.1 hlink.2
    exact va_runS ⟨hx, hb, hml, hown, hts⟩ hM ⟨⟨rfl, rfl, hR.1, hlo, hpay, List.mem_cons_self, hts _ w1, hts _ w2, g1, hpn, hts _ hw⟩, hts _ (w3 hst)⟩ hpre rfl (by simpa using hn) hls hstk (lv_room (by rw [catS_eq]; exact hcat)) hdg ⟨hR.2.2.1, hR.2.2.2⟩
  · rw [okL, if_neg hnz] at hlink
    simp only [okN, Bool.and_eq_true, decide_eq_true_eq] at hlink
    have hw := (hXs.2.2.2.2 _ (tn_mem hlink.1 hlink.2)).use (A := args) rfl
    exact va_runSN ⟨hx, hb, hml, hown, hts⟩ hM ⟨⟨⟨rfl, rfl, hR.1, hlo, hpay, List.mem_cons_self⟩, hts _ w1, hts _ w2, g1, hpn, hw⟩, hts _ (w3 hst), trivial⟩ hpre rfl (by simpa using hn) hls hstk (lv_room (by rw [catS_eq]; exact hcat)) hdg ⟨hR.2.2.1, hR.2.2.2⟩
theorem is_callV (F : FX lawq p R s m args c cells slots cc nL own ad G dC dI A sc sl d) {q : MDat} (hq : okM mt q = true) (hst : mdS q = false) {h : AH} {H : Heap} {locs : List Loc} {idx nest pos pc : Nat} {ls : Array Slot} {as st : List AV} {K : AK} (hrc : rcv (mdC q) as)
    (hn : as.length = mdP q + 1) (hlink : okL own idx nest pos (mdN q) = true)
    (hM : Met l (mdN q) (wsy q) (rmd d) (va_Pc (as.map (cv ad)) (PB ad G dC dI h H.size)) (QQ ad G dC dI K (va_A (wl ad G h) H.size)) 0 0 (va_A (wl ad G h) H.size))
    (hP : va_P (dC, dI) vwCl (wl ad G h) H) (hD : va_D A (wl ad G h)) (hS : va_S A s.heap H locs) (hls : ls.size = nL) (hcat : catS st ≤ 8) (hdg : decode cc pc = .ok (.invokevirtual idx, 3)) :
    va_Run p l e R s m args below meth c H locs cells slots 0 0 (F0 m pc ls ((as.reverse ++ st).map (cv ad))) (st.map (cv ad)) (QQ ad G dC dI K (va_A (wl ad G h) H.size) (as.map (cv ad)).toArray) (va_A (wl ad G h) H.size) := by
  obtain ⟨w1, w2, -, w3⟩ := okM_1 hq
  obtain ⟨w3, w4⟩ := w3 hst
  obtain ⟨g1, g2, g3, g4, -, g5, -⟩ := okM_2 hq
  have hpay := pay_tb F w1
  have hXT := fun (U : State) (hU : U.heap = H) (hW : s.WarmedH U.vm) => XT.at F (U := U) hD hS hU hW
  obtain ⟨hx, hb, hml, hown, hts, hK, hXs, hA, hR, -⟩ := F
  obtain ⟨a, as', rfl⟩ : ∃ a as', as = .inr (.inr (some a)) :: as' := by
    unfold rcv at hrc
    split at hrc
    · exact ⟨_, _, rfl⟩
    · exact hrc.elim
  have hsh : (shA a).1 = mdC q := hrc
  have hcell : ∃ cellB : Cell, H[ad a]? = some cellB ∧ cellB.vm.isStatics = false ∧ s.vm.findClass (mdN q).cls = some cellB.cls := by
    rcases g5 hst with ⟨hc, hcl⟩ | ⟨hc, T, N, hcl⟩
    · rw [hcl]
      have ha : ∃ i, i < 6 ∧ a = 200 + i := by
        rw [hc] at hsh
        unfold shA at hsh
        by_cases h1 : a < 100
        · rw [if_pos h1] at hsh
          exfalso
          have : ∀ a : Fin 100, ¬ ((shT[a.val]?).getD (99, 0)).1 = 20 := by decide +kernel
          exact this ⟨a, h1⟩ hsh
        · rw [if_neg h1] at hsh
          by_cases h2 : 200 ≤ a ∧ a < 206
          · exact ⟨a - 200, by omega, by omega⟩
          · rw [if_neg h2] at hsh
            by_cases h3 : 220 ≤ a ∧ a < 226
            · rw [if_pos h3] at hsh; simp at hsh
            · rw [if_neg h3] at hsh
              by_cases h4 : a = 300
              · rw [if_pos h4] at hsh; simp at hsh
              · rw [if_neg h4] at hsh; simp at hsh
      obtain ⟨i, hi, rfl⟩ := ha
      exact vk_recv (adK := fun i => ad (200 + i)) (i := i) hXs.1 hi hS
    · have hget := wl_get (ad := ad) (G := G) (h := h) (shA_lt hsh (by omega))
      rw [cellO hsh hc] at hget
      exact va_recv hK hP hcl hget
  have hpre : PreV s H (mdN q).cls (ad a) (va_Pc ((.inr (.inr (some a)) :: as').map (cv ad)) (PB ad G dC dI h H.size)) (as'.map (cv ad)) := ⟨PB_blind, hcell, fun U hU hW => ⟨rfl, by rw [hU], by rw [hU]; exact hP, va_K.moved hW.alike hK, hD.weaken (fun _ _ _ _ => trivial), hXT U hU hW⟩⟩
  have hpn : ∀ sig, parseMethodDescriptor (mdN q).desc = some sig → mdP q = sig.parameters.length := fun sig hsig => by rw [hsig] at g2; exact (Option.some.inj g2).symm
  have hlo : 8 + (mdL q + 11) + (rmd d).locals ≤ R.locals := by show 8 + (mdL q + 11) + 64 * d ≤ R.locals; omega
  have hstk : ((((.inr (.inr (some a)) :: as' : List AV)).reverse ++ st).map (cv ad)) = (as'.map (cv ad)).reverse ++ .ref (ad a) :: st.map (cv ad) := by simp [cv]
  by_cases hnz : nest = 0
  · rw [okL, if_pos hnz] at hlink
    simp only [okW, Bool.and_eq_true, decide_eq_true_eq] at hlink
    have hw := tb_mem hlink.1 hlink.2
    exact va_runV ⟨hx, hb, hml, hown, hts⟩ hM ⟨⟨rfl, rfl, hR.1, hlo, hpay, List.mem_cons_self, hts _ w1, hts _ w2, g1, hpn, hts _ hw⟩, hts _ w3, hts _ w4⟩ hpre rfl (by simpa using hn) hls hstk (lv_room (by rw [catS_eq]; exact hcat)) hdg ⟨hR.2.2.1, hR.2.2.2⟩
  · rw [okL, if_neg hnz] at hlink
    simp only [okN, Bool.and_eq_true, decide_eq_true_eq] at hlink
    have hw := (hXs.2.2.2.2 _ (tn_mem hlink.1 hlink.2)).use (A := args) rfl
    exact va_runVN ⟨hx, hb, hml, hown, hts⟩ hM ⟨⟨⟨rfl, rfl, hR.1, hlo, hpay, List.mem_cons_self⟩, hts _ w1, hts _ w2, g1, hpn, hw⟩, hts _ w3, hts _ w4⟩ hpre rfl (by simpa using hn) hls hstk (lv_room (by rw [catS_eq]; exact hcat)) hdg ⟨hR.2.2.1, hR.2.2.2⟩
end IS
