theorem op_unknown {r n w p : Int} : OpL n_X5_unknown n_X6_unknown [vI r, vI n, vI w, vI p] := by
  intro d N h n0 n1 H
  have fa := H.facts
  unfold Facts at fa
  obtain ⟨oR, oE, oS, oP, oZ, mE, mR, mEa, mS, mZ⟩ := H.ok
  have ga := H.1.arr r
  have gr := H.1.get.1 r
  by_cases c : ((r < 0 ∨ h.1 1 0 ≤ r) ∨ 0 ≤ r ∧ r < h.1 1 0 ∧ (w < 0 ∨ h.1 2 r ≤ w)) ∨ n < 1 ∨ 999 < n ∨ p < 0 ∨ 1 < p
  · exact unknown_rf n0 n1 H c
  have bb := ukF_b (fX h 1) r w n.toNat
  have go : ∀ K : Int → AH → Prop, K (ptI (sumN (ukF (fX h 1) r w) n.toNat) n p) h → Bx z0 0 (tx mt (d + 29)) k_X5_unknown (fun r h' => ∃ z, r = some (.inr (.inl z)) ∧ K z h') 4 [some (vR 0), some (vI r), some (vI n), some (vI w), some (vI p), none, none] [] h := by
    intro K q
    exact u_X5_unknown_4 (tx_mono _ _) (x_unknown oR (by omega) n.toNat 0 (by omega) (fun x => u_X5_unknown_7 (tx_mono _ _) (s_X5_partOf bb.1 (by omega) (by omega) (by omega) (by omega) (exL q))))
  have x : ∀ K : Int → AH → Prop, K (ptI (sumN (ukF (fX h 1) r w) n.toNat) n p) h → cL (tx mt (d + 30)) n_X5_unknown [vR 0, vI r, vI n, vI w, vI p] h K := by
    intro K q
    exact cL_i (e_X5_unknown (c_X0_hasWord isB1 (by omega) (fun _ => ⟨fun _ => u_X5_unknown_1 (tx_mono _ _) ⟨fun _ => u_X5_unknown_2 (tx_mono _ _) ⟨fun _ => u_X5_unknown_3 (tx_mono _ _) ⟨fun _ => go K q, fun _ => ⟨fun _ => go K q, fun _ => by omega⟩⟩, fun _ => by omega⟩, fun _ => by omega⟩, fun y => absurd (by decide) y⟩) (fun y => by simp only [Nat.reduceAdd] at y; omega)))
  refine x _ ?_
  refine cL_i (e_X6_unknown ?_)
  intro h1 w1
  rw [w1]
  have c0 : (upI h 38 12 0).1 38 0 = h.1 1 0 := by (simp only [inI, inL, upI_e, Nat.reduceEqDiff, Nat.reduceAdd, true_and, and_true, false_and, and_false, if_true, if_false, ite_true, ite_false, reduceIte, Int.reduceEq, not_true_eq_false, not_false_eq_true, Decidable.not_not]); omega
  have c1 : (upI h 38 12 0).1 39 r = h.1 2 r := by (simp only [inI, inL, upI_e, Nat.reduceEqDiff, Nat.reduceAdd, true_and, and_true, false_and, and_false, if_true, if_false, ite_true, ite_false, reduceIte, Int.reduceEq, not_true_eq_false, not_false_eq_true, Decidable.not_not]); omega
  refine c_X6_isRhyme (by omega) (fun _ => ⟨fun y => absurd y (by decide), fun _ => ⟨by omega, by omega, ?_⟩⟩) (fun y => by omega)
  rw [c1]
  refine ⟨⟨by omega, by omega⟩, c_X6_in (fun _ => ⟨fun _ => u_X6_unknown_2 (tx_mono _ _) (c_X6_wrongNumber (fun y => by omega) (fun y => by omega) (fun _ => u_X6_unknown_3 (tx_mono _ _) ⟨fun y => absurd rfl y, fun _ => c_X6_in (fun _ => ⟨fun _ => u_X6_unknown_4 (tx_mono _ _) (u_X6_unknown_5 (tx_mono _ _) ⟨fun _ => u_X6_unknown_6 (tx_mono _ _) ?_, fun y => absurd (by decide) y⟩), fun y => absurd (by decide) y⟩) (fun y => by omega)⟩)), fun y => absurd (by decide) y⟩) (fun y => by omega)⟩
  refine m_unknown mR (by omega) (by omega) (by omega) n.toNat 0 _ (by omega) (fun x y => u_X6_unknown_10 (tx_mono _ _) (s_X6_partOf (ukF_b _ _ _ _).1 (by omega) (exL ⟨?_, H.m12⟩)))
  rw [mE]
