/-! ===== blocks, methods ===== -/
section IS
variable {mt : List MDat} {lawq : Bool} {p : Program} {l : Launch} {e : Env} {R : Room} {s : State} {m : MethodId} {args : Array Value} {below : List Frame} {meth : Method} {c : Code} {cells slots : Nat} {Q : State → Prop} {cc : ByteArray} {nL : Nat} {own : String} {ad : Nat → Nat} {G : ClassId × (ClassId × ClassId)} {dC : Nat → ClassId} {dI : Nat → Nat → Nat} {A : Nat → Prop} {sc : Int → Int} {sl : Int} {d : Nat}
theorem ex_sound {T : AT} {J : AJ} {K : AK} {bs : List ABlk} {rt : Option FieldType} (F : FX lawq p R s m args c cells slots cc nL own ad G dC dI A sc sl d) (hmt : ∀ (id : Nat) (q : MDat), mt[id]? = some q → okM mt q = true) (hT : TOK mt l d T)
    (hJ : JOK p l e R s m args below meth c cells slots Q nL ad G dC dI A bs J)
    (hRet : ∀ (i : Instr) (x : List Nat) (pc : Nat) (r : Option AV) (h : AH) (H : Heap) (locs : List Loc) (ls : Array Slot), decode cc pc = .ok (i, 1) → okI mt lawq nL own bs rt pc i x = true → isRet i x r → K r h → (∀ v, r = some v → vOK v) → hOK h → va_P (dC, dI) vwCl (wl ad G h) H → va_D A (wl ad G h) → va_S A s.heap H locs → W p l e R s m args below meth c H locs cells slots Q (F0 m pc ls (r.toList.map (cv ad)))) :
    ∀ (is : List RI) (pc : Nat) (L : LL) (st : List AV) (h : AH) (H : Heap) (locs : List Loc) (ls : Array Slot), okB mt lawq nL own cc bs rt pc is = true → ex sc sl T J K is L st h → SS s ad G dC dI A nL ls L st h H locs → W p l e R s m args below meth c H locs cells slots Q (F0 m pc ls (st.map (cv ad))) := by
  intro is
  induction is with
  | nil => intro pc L st h H locs ls _ he; exact he.elim
  | cons r is ih =>
    intro pc L st h H locs ls hok he S
    simp only [okB, Bool.and_eq_true] at hok
    exact exS_sound F hmt hT hJ hRet hok.1 hok.2.1 S (fun L' st' h' H' locs' ls' hk S' => ih _ L' st' h' H' locs' ls' hok.2.2 hk S') he
theorem SS.mask {ls : Array Slot} {L : LL} {st : List AV} {h : AH} {H : Heap} {locs : List Loc} (S : SS s ad G dC dI A nL ls L st h H locs) (bs : List Bool) : SS s ad G dC dI A nL ls (maskL bs L) st h H locs :=
  ⟨S.1.mask bs, S.2.1, fun i v hv => S.2.2.1 i v (maskL_get bs L i v hv), S.2.2.2⟩
theorem Bx_sound {T : AT} {K : AK} {bs : List ABlk} {rt : Option FieldType} (F : FX lawq p R s m args c cells slots cc nL own ad G dC dI A sc sl d) (hmt : ∀ (id : Nat) (q : MDat), mt[id]? = some q → okM mt q = true) (hT : TOK mt l d T)
    (hbs : ∀ b ∈ bs, okB mt lawq nL own cc bs rt b.1 b.2.2 = true)
    (hRet : ∀ (i : Instr) (x : List Nat) (pc : Nat) (r : Option AV) (h : AH) (H : Heap) (locs : List Loc) (ls : Array Slot), decode cc pc = .ok (i, 1) → okI mt lawq nL own bs rt pc i x = true → isRet i x r → K r h → (∀ v, r = some v → vOK v) → hOK h → va_P (dC, dI) vwCl (wl ad G h) H → va_D A (wl ad G h) → va_S A s.heap H locs → W p l e R s m args below meth c H locs cells slots Q (F0 m pc ls (r.toList.map (cv ad)))) :
    JOK p l e R s m args below meth c cells slots Q nL ad G dC dI A bs (Bx sc sl T bs K) := by
  intro t q L st h H locs ls hq hB S
  refine hB (fun t L st h => ∀ (q : ABlk) (H : Heap) (locs : List Loc) (ls : Array Slot), bs[t]? = some q → SS s ad G dC dI A nL ls L st h H locs → W p l e R s m args below meth c H locs cells slots Q (F0 m q.1 ls (st.map (cv ad)))) ?_ q H locs ls hq S
  intro b q L st h hq he q' H locs ls hq' S
  rw [hq] at hq'
  cases hq'
  exact ex_sound F hmt hT (fun t q L st h H locs ls h1 h2 h3 => h2 q H locs ls h1 h3) hRet q.2.2 q.1 _ st h H locs ls (hbs q (List.mem_of_getElem? hq)) he (S.mask _)
end IS
theorem tx_sound (mt : List MDat) (l : Launch) (hmt : ∀ (id : Nat) (q : MDat), mt[id]? = some q → okM mt q = true) : ∀ d, TOK mt l d (tx mt d) := by
  intro d
  induction d with
  | zero => intro id as h K ht; exact ht.elim
  | succ d ih =>
    intro id as h K ht q hq
    have ht2 : (mdS q = true ∨ rcv (mdC q) as) ∧ (entL as).length ≤ mdL q ∧ Bx z0 0 (tx mt d) (mdK q) K 0 (entL as) [] h := by
      unfold tx at ht
      rw [hq] at ht
      exact ht
    obtain ⟨h1, h2, h3⟩ := ht2
    refine ⟨h1, fun hh has ad G dC dI sz => ?_⟩
    have hM := hmt id q hq
    obtain ⟨w1, w2, -⟩ := okM_1 hM
    obtain ⟨g1, g2, g3, g4, ⟨b0, g5, g6⟩, -, g7⟩ := okM_2 hM
    refine Met.ofW (cc := mdB q) (maxL := mdL q) (ret := mdR q) g3 rfl ?_
    intro p e s m args below meth c s₁ B hml hv
    obtain ⟨rfl, hsz, hP, hK, hD0, hX⟩ := hv
    have hx := B.exec
    have hb := B.bytes
    have hr := B.returns
    have hts : ∀ w ∈ tb, w.before ((as.map (cv ad)).toArray) s = true := fun w hw => atoms_spec (ws := wsy q) B.pre w (List.mem_cons_of_mem _ hw)
    have hown : s.vm.findClass (mdN q).cls = some m.cls := findClass_of_methodNamed B.named
    have hlocks := B.notSynchronized
    subst hsz
    have hD : va_D (va_A (wl ad G h) s.heap.size) (wl ad G h) := hD0.self
    generalize hAe : va_A (wl ad G h) s.heap.size = A at hD hX ⊢
    have hA : ∀ q : Nat, s.heap.size ≤ q → A q := fun q h => by rw [← hAe]; exact Or.inr h
    have hS : va_S A s.heap s.heap [] := va_S.rf
    rw [lg_entry_eq]
    have F : FX false p (rmd (d + 1)) s m (as.map (cv ad)).toArray c 0 0 (mdB q) (mdL q) (mdN q).cls ad G dC dI A z0 0 d := by
      refine ⟨hx, hb, hml, hown, hts, hK, hX, hA, ⟨?_, ?_, ?_, ?_⟩, fun hc => by cases hc⟩
      · exact Nat.le_refl _
      · exact Nat.le_refl _
      · exact Nat.le_refl _
      · exact Nat.le_refl _
    have hJ := Bx_sound (Q := MQ below (QQ ad G dC dI K A) (as.map (cv ad)).toArray s 0 0 A) (e := e) (below := below) (meth := meth) (K := K) (rt := mdR q) F hmt ih g7 (by
      intro i x pc r h' H locs ls hdg hok hret hKr hvr hh' hP' hD' hS'
      have hq' : ∀ (v : Option Value), v = r.map (cv ad) → ∀ t : State, t.heap = H → s.WarmedH t.vm → QQ ad G dC dI K A (as.map (cv ad)).toArray s (.returned v) t := fun v hv t ht hW => ⟨⟨r, h', by rw [hv], hKr, hh', hvr, by rw [ht]; exact hP', va_K.moved hW.alike hK, hD'⟩, hS'.F ht⟩
      cases i with
      | ireturn =>
        match r, hret, hq' with
        | some (.inl z), hret, hq' =>
          have hdg' : decode (mdB q) pc = .ok (.ireturn, 1) := hdg
          rcases hret with rfl | ⟨rfl, hz⟩ | ⟨rfl, hz⟩ | ⟨rfl, hz⟩
          · have hrt : mdR q = some .int := by simpa [okI] using hok
            rw [hrt] at hr
            exact W.zret hx hb hr rfl (hq' _ rfl) hS'.2.2 hdg'
          · have hrt : mdR q = some .boolean := by simpa [okI] using hok
            rw [hrt] at hr
            exact W.zret hx hb hr (am_bool hz) (hq' _ rfl) hS'.2.2 hdg'
          · have hrt : mdR q = some .char := by simpa [okI] using hok
            rw [hrt] at hr
            exact W.zret hx hb hr (am_char hz.1 hz.2) (hq' _ rfl) hS'.2.2 hdg'
          · have hrt : mdR q = some .byte := by simpa [okI] using hok
            rw [hrt] at hr
            exact W.zret hx hb hr (am_byte z (by omega) (by omega)) (hq' _ rfl) hS'.2.2 hdg'
      | lreturn =>
        match r, hret, hq' with
        | some (.inr (.inl z)), hret, hq' =>
          have hrt : mdR q = some .long := by simpa [okI] using hok
          rw [hrt] at hr
          exact W.lret hx hb hr (hq' _ rfl) hS'.2.2 hdg
      | areturn =>
        match r, hret, hq' with
        | some (.inr (.inr (some a))), hret, hq' =>
          dsimp only [okI] at hok
          split at hok
          · next nm hrt =>
            rw [hrt] at hr
            exact W.aret hx hb hr (Or.inl ⟨_, rfl⟩) (Or.inr ⟨_, rfl⟩) (hq' _ rfl) hS'.2.2 hdg
          · cases hok
      | return_ =>
        match r, hret, hq' with
        | none, hret, hq' =>
          have hrt : mdR q = none := by simpa [okI] using hok
          rw [hrt] at hr
          exact W.vret hx hb hr (hq' _ rfl) hS'.2.2 hdg
      | _ => exact hret.elim)
    have hent := hJ 0 b0 (entL as) [] h s.heap [] _ g5 h3 ⟨LH.entry h2, fun v hv => by simp at hv, fun i v hv => by
      have := entL_mem as i v hv
      exact has v this, hh, hP, hD, hS⟩
    rw [g6] at hent
    exact hent
