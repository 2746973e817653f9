/-! ===== the transformers are monotone; unfolding rules ===== -/
def TMono (T : AT) : Prop := ∀ (id : Nat) (as : List AV) (h : AH) (K K' : AK), (∀ r h, K r h → K' r h) → T id as h K → T id as h K'
theorem swA_mono {z : Int} {J J' : Nat → Prop} (hJ : ∀ t, J t → J' t) : ∀ (ts : List Nat) (lo : Int), swA z J lo ts → swA z J' lo ts
  | [], _, h => h
  | t :: ts, lo, h => ⟨fun q => hJ t (h.1 q), swA_mono hJ ts (lo + 1) h.2⟩
theorem lkA_mono {z : Int} {J J' : Nat → Prop} {d : Nat} (hJ : ∀ t, J t → J' t) : ∀ (ps : List (Int × Int)) (ts : List Nat), lkA z J d ps ts → lkA z J' d ps ts
  | [], [], h => hJ d h
  | [], _ :: _, h => hJ d h
  | (a, o) :: ps, [], h => h.elim
  | (a, o) :: ps, t :: ts, h => ⟨fun q => hJ t (h.1 q), fun q => lkA_mono hJ ps ts (h.2 q)⟩
theorem ldA_mono {kd : Nat} {L : LL} {i : Nat} {k k' : AV → Prop} (hk : ∀ v, k v → k' v) (h : ldA kd L i k) : ldA kd L i k' := by
  unfold ldA at h ⊢
  split at h
  · exact hk _ h
  · exact hk _ h
  · exact hk _ h
  · exact h.elim
theorem exS_mono {sc : Int → Int} {sl : Int} {T : AT} {J J' : AJ} {K K' : AK} {i : Instr} {x : List Nat} {L : LL} {st : List AV} {h : AH} {k k' : LL → List AV → AH → Prop} (hT : TMono T) (hJ : ∀ t L st h, J t L st h → J' t L st h) (hK : ∀ r h, K r h → K' r h) (hk : ∀ L st h, k L st h → k' L st h) (he : exS sc sl T J K i x L st h k) : exS sc sl T J' K' i x L st h k' := by
  cases i with
  | iload_n n => dsimp only [exS] at he ⊢; exact ldA_mono (fun v hv => hk _ _ _ hv) he
  | iload n => dsimp only [exS] at he ⊢; exact ldA_mono (fun v hv => hk _ _ _ hv) he
  | lload_n n => dsimp only [exS] at he ⊢; exact ldA_mono (fun v hv => hk _ _ _ hv) he
  | lload n => dsimp only [exS] at he ⊢; exact ldA_mono (fun v hv => hk _ _ _ hv) he
  | aload_n n => dsimp only [exS] at he ⊢; exact ldA_mono (fun v hv => hk _ _ _ hv) he
  | aload n => dsimp only [exS] at he ⊢; exact ldA_mono (fun v hv => hk _ _ _ hv) he
  | iinc n c =>
    dsimp only [exS] at he ⊢
    refine ldA_mono (fun v hv => ?_) he
    split at hv
    · exact ⟨hv.1, hk _ _ _ hv.2⟩
    · exact hv.elim
  | getstatic idx =>
    dsimp only [exS] at he ⊢
    split at he
    · exact hk _ _ _ he
    · exact ⟨hk _ _ _ he.1, hk _ _ _ he.2⟩
    · exact he.elim
  | tableswitch df lo hi offs =>
    dsimp only [exS] at he ⊢
    split at he
    · exact ⟨fun q => hJ _ _ _ _ (he.1 q), swA_mono (fun t => hJ _ _ _ _) _ _ he.2⟩
    · exact he.elim
  | lookupswitch df ps =>
    dsimp only [exS] at he ⊢
    split at he
    · exact lkA_mono (fun t => hJ _ _ _ _) _ _ he
    · exact he.elim
  | invokestatic idx =>
    dsimp only [exS] at he ⊢
    split at he
    · exact ⟨he.1, hk _ _ _ he.2⟩
    · exact ⟨he.1, hk _ _ _ he.2⟩
    · obtain ⟨e1, e2, e3, e4, e5, e6, e7, e8, he⟩ := he
      exact ⟨e1, e2, e3, e4, e5, e6, e7, e8, hk _ _ _ he⟩
    · next id n w tl =>
      split at he
      · exact ⟨he.1, hT _ _ _ _ _ (fun r h q => hk _ _ _ q) he.2⟩
      · exact he.elim
    · exact he.elim
  | invokevirtual idx =>
    dsimp only [exS] at he ⊢
    split at he
    · split at he
      · exact ⟨he.1, hT _ _ _ _ _ (fun r h q => hk _ _ _ q) he.2⟩
      · exact he.elim
    · exact he.elim
  | if_icmp c off =>
    dsimp only [exS] at he ⊢
    split at he
    · exact ⟨fun q => hJ _ _ _ _ (he.1 q), fun q => hk _ _ _ (he.2 q)⟩
    · exact he.elim
  | ifCond c off =>
    dsimp only [exS] at he ⊢
    split at he
    · exact ⟨fun q => hJ _ _ _ _ (he.1 q), fun q => hk _ _ _ (he.2 q)⟩
    · exact he.elim
  | getfield idx =>
    dsimp only [exS] at he ⊢
    split at he
    · exact ⟨he.1, hk _ _ _ he.2⟩
    · exact ⟨he.1, hk _ _ _ he.2⟩
    · obtain ⟨h1, b, h2, h3⟩ := he
      exact ⟨h1, b, h2, hk _ _ _ h3⟩
    · exact ⟨he.1, hk _ _ _ he.2⟩
    · exact he.elim
  | iconst n => exact hk _ _ _ he
  | bipush n => exact hk _ _ _ he
  | sipush n => exact hk _ _ _ he
  | lconst n => exact hk _ _ _ he
  | iaload =>
    dsimp only [exS] at he ⊢
    split at he
    · exact ⟨he.1, he.2.1, he.2.2.1, hk _ _ _ he.2.2.2⟩
    · exact ⟨he.1, he.2.1, he.2.2.1, hk _ _ _ he.2.2.2⟩
    · exact he.elim
  | baload =>
    dsimp only [exS] at he ⊢
    split at he
    · exact ⟨he.1, he.2.1, he.2.2.1, hk _ _ _ he.2.2.2⟩
    · exact ⟨he.1, he.2.1, he.2.2.1, hk _ _ _ he.2.2.2⟩
    · exact he.elim
  | arraylength =>
    dsimp only [exS] at he ⊢
    split at he
    · exact ⟨he.1, hk _ _ _ he.2⟩
    · exact ⟨he.1, hk _ _ _ he.2⟩
    · exact he.elim
  | ireturn =>
    dsimp only [exS] at he ⊢
    split at he
    · exact hK _ _ he
    · exact ⟨he.1, hK _ _ he.2⟩
    · exact ⟨he.1, hK _ _ he.2⟩
    · exact ⟨he.1, hK _ _ he.2⟩
    · exact he.elim
  | _ =>
    first
    | exact he.elim
    | (dsimp only [exS] at he ⊢
       split at he
       all_goals first
         | exact he.elim
         | exact hk _ _ _ he
         | exact hJ _ _ _ _ he
         | exact hK _ _ he
         | exact ⟨he.1, hk _ _ _ he.2⟩
         | exact ⟨he.1, he.2.1, hk _ _ _ he.2.2⟩
         | exact ⟨he.1, he.2.1, he.2.2.1, hk _ _ _ he.2.2.2⟩
         | exact ⟨he.1, he.2.1, he.2.2.1, he.2.2.2.1, hk _ _ _ he.2.2.2.2⟩
         | (split at he
            all_goals first
              | exact hk _ _ _ he
              | exact ⟨he.1, hk _ _ _ he.2⟩
              | exact ⟨he.1, he.2.1, hk _ _ _ he.2.2⟩))
theorem ex_mono {sc : Int → Int} {sl : Int} {T : AT} {J J' : AJ} {K K' : AK} (hT : TMono T) (hJ : ∀ t L st h, J t L st h → J' t L st h) (hK : ∀ r h, K r h → K' r h) : ∀ (is : List RI) (L : LL) (st : List AV) (h : AH), ex sc sl T J K is L st h → ex sc sl T J' K' is L st h
  | [], _, _, _, he => he
  | r :: is, L, st, h, he => exS_mono hT hJ hK (fun L st h => ex_mono hT hJ hK is L st h) he
theorem Bx_u {sc : Int → Int} {sl : Int} {T : AT} {bs : List ABlk} {K : AK} {b : Nat} {L : LL} {st : List AV} {h : AH} {q : ABlk} (hT : TMono T) (hb : bs[b]? = some q) (he : ex sc sl T (Bx sc sl T bs K) K q.2.2 (maskL q.2.1 L) st h) : Bx sc sl T bs K b L st h := by
  intro P hP
  exact hP b q L st h hb (ex_mono hT (fun t L st h hB => hB P hP) (fun _ _ q => q) q.2.2 _ st h he)
theorem Bx_mono {sc : Int → Int} {sl : Int} {T : AT} {bs : List ABlk} {K K' : AK} {b : Nat} {L : LL} {st : List AV} {h : AH} (hT : TMono T) (hK : ∀ r h, K r h → K' r h) (he : Bx sc sl T bs K b L st h) : Bx sc sl T bs K' b L st h := by
  intro P hP
  exact he P (fun b q L st h hb he => hP b q L st h hb (ex_mono hT (fun _ _ _ _ q => q) hK q.2.2 _ st h he))
theorem tx_mono (mt : List MDat) : ∀ d, TMono (tx mt d) := by
  intro d
  induction d with
  | zero => intro id as h K K' _ ht; exact ht.elim
  | succ d ih =>
    intro id as h K K' hK ht
    unfold tx at ht ⊢
    split at ht
    · exact ht.elim
    · exact ⟨ht.1, ht.2.1, Bx_mono ih hK ht.2.2⟩
theorem tx_u {mt : List MDat} {d id : Nat} {as : List AV} {h : AH} {K : AK} {q : MDat} (hq : mt[id]? = some q) (h1 : mdS q = true ∨ rcv (mdC q) as) (h2 : (entL as).length ≤ mdL q) (h3 : Bx z0 0 (tx mt d) (mdK q) K 0 (entL as) [] h) : tx mt (d + 1) id as h K := by
  unfold tx
  rw [hq]
  exact ⟨h1, h2, h3⟩
