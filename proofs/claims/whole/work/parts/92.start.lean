/-! ===== the cells at the start ===== -/
def hI : AH := (fun k j => if k = 38 then (if j = 3 then 2 else if j = 4 then 3 else 0) else if k = 1 ∨ k = 9 ∨ k = 17 then (if j = 9 then 2 else if j = 10 then 3 else 0) else 0, fun _ _ => 0, fun _ _ => none)
theorem hI_0 {k : Nat} (a : k ≠ 38) (b : ¬ (k = 1 ∨ k = 9 ∨ k = 17)) (j : Int) : hI.1 k j = 0 := by
  show (if k = 38 then (if j = 3 then (2 : Int) else if j = 4 then 3 else 0) else if k = 1 ∨ k = 9 ∨ k = 17 then (if j = 9 then 2 else if j = 10 then 3 else 0) else 0) = 0
  rw [if_neg a, if_neg b]
theorem hI_ok : hOK hI := by
  refine ⟨fun k j => ?_, fun k j => ⟨by show (-9223372036854775808 : Int) ≤ 0; decide, by show (0 : Int) ≤ 9223372036854775807; decide⟩⟩
  show inI (if k = 38 then (if j = 3 then (2 : Int) else if j = 4 then 3 else 0) else if k = 1 ∨ k = 9 ∨ k = 17 then (if j = 9 then 2 else if j = 10 then 3 else 0) else 0)
  unfold inI
  (repeat' split) <;> omega
theorem xa_z (k : Nat) (hk : k = 1 ∨ k = 9 ∨ k = 17) (j : Nat) (i : Int) : (fX hI k).2 j i = 0 := by
  show hI.1 (xa k j) i = 0
  have : k + 1 ≤ xa k j ∧ xa k j ≤ k + 7 := by
    unfold xa
    split <;> omega
  exact hI_0 (by omega) (by omega) i
theorem hI_Z (k : Nat) (hk : k = 1 ∨ k = 9 ∨ k = 17) : okZ (fX hI k) := fun j i _ => xa_z k hk j i
theorem hI_B : okBd (fX hI 1) := by
  have z := fun j i => xa_z 1 (Or.inl rfl) j i
  have s0 : (fX hI 1).1 0 = 0 := rfl
  have s1 : (fX hI 1).1 1 = 0 := rfl
  have s2 : (fX hI 1).1 2 = 0 := rfl
  have s3 : (fX hI 1).1 3 = 2 := rfl
  have s4 : (fX hI 1).1 4 = 3 := rfl
  have s5 : (fX hI 1).1 5 = 0 := rfl
  have s6 : (fX hI 1).1 6 = 0 := rfl
  refine ⟨⟨by omega, by omega, fun r a b => by omega⟩, ⟨by omega, by omega, fun r a b => by omega⟩, ⟨by omega, by omega, by omega, by omega, by omega, by omega, by omega, Or.inr s5⟩, ⟨by omega, by omega, fun p a b => ?_⟩, hI_Z 1 (Or.inl rfl)⟩
  rw [z 7 p]
  exact ⟨by decide, by decide, fun _ => rfl⟩
theorem hI_M : fM hI = fX hI 1 := by
  refine Prod.ext (funext fun n => ?_) (funext fun j => funext fun i => ?_)
  · match n with
    | 0 | 1 | 2 | 3 | 4 | 5 => rfl
    | n + 6 => rfl
  · rw [xa_z 1 (Or.inl rfl) j i]
    show hI.1 (ma j) i = 0
    have : 38 < ma j := by
      unfold ma
      split <;> omega
    exact hI_0 (by omega) (by omega) i
theorem hI_inv : Inv 0 hI := by
  refine ⟨⟨hI_B, hI_M⟩, ⟨hI_Z 9 (Or.inr (Or.inl rfl)), hI_Z 17 (Or.inr (Or.inr rfl))⟩, ⟨rfl, Or.inl rfl, fun c => absurd rfl c⟩, ⟨rfl, by show (0 : Int) ≤ 0; decide, by show (0 : Int) ≤ 12; decide, fun i a b => ?_⟩, ⟨rfl, by show (0 : Int) ≤ 0; decide, by show (0 : Int) ≤ 96; decide, fun i a b => ?_⟩, fun i a b => ⟨rfl, by show (0 : Int) ≤ 0; decide, by show (0 : Int) ≤ 0; decide⟩, ⟨rfl, by show (0 : Int) ≤ 0; decide, by show (0 : Int) ≤ 8; decide, fun i a b => ?_⟩⟩
  · have b : i < 0 := b
    omega
  · have b : i < 0 := b
    omega
  · have b : i < 0 := b
    omega
/-! ===== the worlds that the constructors leave are the abstract cells ===== -/
def adF (aC aM adK adV : Nat → Nat) (fA b : Nat) (k : Nat) : Nat := if k < 38 then aC k else if k < 65 then aM (k - 38) else if k = 240 then fA else if k = 300 then b else if k < 220 then adK (k - 200) else adV (k - 220)
theorem ce_i {ad : Nat → Nat} {G : ClassId × (ClassId × ClassId)} {k n : Nat} (hs : shA k = (10, n)) (hz : ∀ j, hI.1 k j = 0) : cellE ad G hI k = .inl (G.1, n, .inl (fun _ => 0)) := by
  rw [cell10 (by rw [hs]), hs]
  refine congrArg (fun f => (Sum.inl (G.1, (n, Sum.inl f)) : va_E)) (funext fun j => ?_)
  rw [hz]
  rfl
theorem ce_z {ad : Nat → Nat} {G : ClassId × (ClassId × ClassId)} {k n : Nat} (hs : shA k = (12, n)) (hz : ∀ j, hI.1 k j = 0) : cellE ad G hI k = .inl (G.2.2, n, .inl (fun _ => 0)) := by
  rw [cell12 (by rw [hs]), hs]
  refine congrArg (fun f => (Sum.inl (G.2.2, (n, Sum.inl f)) : va_E)) (funext fun j => ?_)
  rw [hz]
  rfl
theorem ce_l {ad : Nat → Nat} {G : ClassId × (ClassId × ClassId)} {k n : Nat} (hs : shA k = (11, n)) : cellE ad G hI k = .inl (G.2.1, n, .inr (.inl (fun _ => 0))) := by
  rw [cell11 (by rw [hs]), hs]
  rfl
section WK
variable {aC aM adK adV : Nat → Nat} {fA b : Nat} {G : ClassId × (ClassId × ClassId)}
theorem wk_0 : (wdX5 G aC ++ wdX6 G aM)[0]? = some (adF aC aM adK adV fA b 0, cellE (adF aC aM adK adV fA b) G hI 0) := by
  rw [cellO (c := 5) (by decide +kernel) (by decide)]
  rfl
theorem wk_1 : (wdX5 G aC ++ wdX6 G aM)[1]? = some (adF aC aM adK adV fA b 1, cellE (adF aC aM adK adV fA b) G hI 1) := by
  rw [cellO (c := 0) (by decide +kernel) (by decide)]
  rfl
theorem wk_2 : (wdX5 G aC ++ wdX6 G aM)[2]? = some (adF aC aM adK adV fA b 2, cellE (adF aC aM adK adV fA b) G hI 2) := by
  rw [ce_i (n := 4) (by decide +kernel) (hI_0 (by decide) (by decide))]
  rfl
theorem wk_3 : (wdX5 G aC ++ wdX6 G aM)[3]? = some (adF aC aM adK adV fA b 3, cellE (adF aC aM adK adV fA b) G hI 3) := by
  rw [ce_i (n := 4) (by decide +kernel) (hI_0 (by decide) (by decide))]
  rfl
theorem wk_4 : (wdX5 G aC ++ wdX6 G aM)[4]? = some (adF aC aM adK adV fA b 4, cellE (adF aC aM adK adV fA b) G hI 4) := by
  rw [ce_i (n := 4) (by decide +kernel) (hI_0 (by decide) (by decide))]
  rfl
theorem wk_5 : (wdX5 G aC ++ wdX6 G aM)[5]? = some (adF aC aM adK adV fA b 5, cellE (adF aC aM adK adV fA b) G hI 5) := by
  rw [ce_i (n := 4) (by decide +kernel) (hI_0 (by decide) (by decide))]
  rfl
theorem wk_6 : (wdX5 G aC ++ wdX6 G aM)[6]? = some (adF aC aM adK adV fA b 6, cellE (adF aC aM adK adV fA b) G hI 6) := by
  rw [ce_i (n := 4) (by decide +kernel) (hI_0 (by decide) (by decide))]
  rfl
theorem wk_7 : (wdX5 G aC ++ wdX6 G aM)[7]? = some (adF aC aM adK adV fA b 7, cellE (adF aC aM adK adV fA b) G hI 7) := by
  rw [ce_i (n := 4) (by decide +kernel) (hI_0 (by decide) (by decide))]
  rfl
theorem wk_8 : (wdX5 G aC ++ wdX6 G aM)[8]? = some (adF aC aM adK adV fA b 8, cellE (adF aC aM adK adV fA b) G hI 8) := by
  rw [ce_i (n := 4) (by decide +kernel) (hI_0 (by decide) (by decide))]
  rfl
theorem wk_9 : (wdX5 G aC ++ wdX6 G aM)[9]? = some (adF aC aM adK adV fA b 9, cellE (adF aC aM adK adV fA b) G hI 9) := by
  rw [cellO (c := 0) (by decide +kernel) (by decide)]
  rfl
theorem wk_10 : (wdX5 G aC ++ wdX6 G aM)[10]? = some (adF aC aM adK adV fA b 10, cellE (adF aC aM adK adV fA b) G hI 10) := by
  rw [ce_i (n := 4) (by decide +kernel) (hI_0 (by decide) (by decide))]
  rfl
theorem wk_11 : (wdX5 G aC ++ wdX6 G aM)[11]? = some (adF aC aM adK adV fA b 11, cellE (adF aC aM adK adV fA b) G hI 11) := by
  rw [ce_i (n := 4) (by decide +kernel) (hI_0 (by decide) (by decide))]
  rfl
theorem wk_12 : (wdX5 G aC ++ wdX6 G aM)[12]? = some (adF aC aM adK adV fA b 12, cellE (adF aC aM adK adV fA b) G hI 12) := by
  rw [ce_i (n := 4) (by decide +kernel) (hI_0 (by decide) (by decide))]
  rfl
theorem wk_13 : (wdX5 G aC ++ wdX6 G aM)[13]? = some (adF aC aM adK adV fA b 13, cellE (adF aC aM adK adV fA b) G hI 13) := by
  rw [ce_i (n := 4) (by decide +kernel) (hI_0 (by decide) (by decide))]
  rfl
theorem wk_14 : (wdX5 G aC ++ wdX6 G aM)[14]? = some (adF aC aM adK adV fA b 14, cellE (adF aC aM adK adV fA b) G hI 14) := by
  rw [ce_i (n := 4) (by decide +kernel) (hI_0 (by decide) (by decide))]
  rfl
theorem wk_15 : (wdX5 G aC ++ wdX6 G aM)[15]? = some (adF aC aM adK adV fA b 15, cellE (adF aC aM adK adV fA b) G hI 15) := by
  rw [ce_i (n := 4) (by decide +kernel) (hI_0 (by decide) (by decide))]
  rfl
theorem wk_16 : (wdX5 G aC ++ wdX6 G aM)[16]? = some (adF aC aM adK adV fA b 16, cellE (adF aC aM adK adV fA b) G hI 16) := by
  rw [ce_i (n := 4) (by decide +kernel) (hI_0 (by decide) (by decide))]
  rfl
theorem wk_17 : (wdX5 G aC ++ wdX6 G aM)[17]? = some (adF aC aM adK adV fA b 17, cellE (adF aC aM adK adV fA b) G hI 17) := by
  rw [cellO (c := 0) (by decide +kernel) (by decide)]
  rfl
theorem wk_18 : (wdX5 G aC ++ wdX6 G aM)[18]? = some (adF aC aM adK adV fA b 18, cellE (adF aC aM adK adV fA b) G hI 18) := by
  rw [ce_i (n := 4) (by decide +kernel) (hI_0 (by decide) (by decide))]
  rfl
theorem wk_19 : (wdX5 G aC ++ wdX6 G aM)[19]? = some (adF aC aM adK adV fA b 19, cellE (adF aC aM adK adV fA b) G hI 19) := by
  rw [ce_i (n := 4) (by decide +kernel) (hI_0 (by decide) (by decide))]
  rfl
theorem wk_20 : (wdX5 G aC ++ wdX6 G aM)[20]? = some (adF aC aM adK adV fA b 20, cellE (adF aC aM adK adV fA b) G hI 20) := by
  rw [ce_i (n := 4) (by decide +kernel) (hI_0 (by decide) (by decide))]
  rfl
theorem wk_21 : (wdX5 G aC ++ wdX6 G aM)[21]? = some (adF aC aM adK adV fA b 21, cellE (adF aC aM adK adV fA b) G hI 21) := by
  rw [ce_i (n := 4) (by decide +kernel) (hI_0 (by decide) (by decide))]
  rfl
theorem wk_22 : (wdX5 G aC ++ wdX6 G aM)[22]? = some (adF aC aM adK adV fA b 22, cellE (adF aC aM adK adV fA b) G hI 22) := by
  rw [ce_i (n := 4) (by decide +kernel) (hI_0 (by decide) (by decide))]
  rfl
theorem wk_23 : (wdX5 G aC ++ wdX6 G aM)[23]? = some (adF aC aM adK adV fA b 23, cellE (adF aC aM adK adV fA b) G hI 23) := by
  rw [ce_i (n := 4) (by decide +kernel) (hI_0 (by decide) (by decide))]
  rfl
theorem wk_24 : (wdX5 G aC ++ wdX6 G aM)[24]? = some (adF aC aM adK adV fA b 24, cellE (adF aC aM adK adV fA b) G hI 24) := by
  rw [ce_i (n := 4) (by decide +kernel) (hI_0 (by decide) (by decide))]
  rfl
theorem wk_25 : (wdX5 G aC ++ wdX6 G aM)[25]? = some (adF aC aM adK adV fA b 25, cellE (adF aC aM adK adV fA b) G hI 25) := by
  rw [cellO (c := 2) (by decide +kernel) (by decide)]
  rfl
theorem wk_26 : (wdX5 G aC ++ wdX6 G aM)[26]? = some (adF aC aM adK adV fA b 26, cellE (adF aC aM adK adV fA b) G hI 26) := by
  rw [ce_i (n := 96) (by decide +kernel) (hI_0 (by decide) (by decide))]
  rfl
theorem wk_27 : (wdX5 G aC ++ wdX6 G aM)[27]? = some (adF aC aM adK adV fA b 27, cellE (adF aC aM adK adV fA b) G hI 27) := by
  rw [cellO (c := 3) (by decide +kernel) (by decide)]
  rfl
theorem wk_28 : (wdX5 G aC ++ wdX6 G aM)[28]? = some (adF aC aM adK adV fA b 28, cellE (adF aC aM adK adV fA b) G hI 28) := by
  rw [ce_i (n := 8) (by decide +kernel) (hI_0 (by decide) (by decide))]
  rfl
theorem wk_29 : (wdX5 G aC ++ wdX6 G aM)[29]? = some (adF aC aM adK adV fA b 29, cellE (adF aC aM adK adV fA b) G hI 29) := by
  rw [ce_i (n := 8) (by decide +kernel) (hI_0 (by decide) (by decide))]
  rfl
theorem wk_30 : (wdX5 G aC ++ wdX6 G aM)[30]? = some (adF aC aM adK adV fA b 30, cellE (adF aC aM adK adV fA b) G hI 30) := by
  rw [ce_i (n := 8) (by decide +kernel) (hI_0 (by decide) (by decide))]
  rfl
theorem wk_31 : (wdX5 G aC ++ wdX6 G aM)[31]? = some (adF aC aM adK adV fA b 31, cellE (adF aC aM adK adV fA b) G hI 31) := by
  rw [ce_i (n := 12) (by decide +kernel) (hI_0 (by decide) (by decide))]
  rfl
theorem wk_32 : (wdX5 G aC ++ wdX6 G aM)[32]? = some (adF aC aM adK adV fA b 32, cellE (adF aC aM adK adV fA b) G hI 32) := by
  rw [ce_i (n := 7) (by decide +kernel) (hI_0 (by decide) (by decide))]
  rfl
theorem wk_33 : (wdX5 G aC ++ wdX6 G aM)[33]? = some (adF aC aM adK adV fA b 33, cellE (adF aC aM adK adV fA b) G hI 33) := by
  rw [cellO (c := 1) (by decide +kernel) (by decide)]
  rfl
theorem wk_34 : (wdX5 G aC ++ wdX6 G aM)[34]? = some (adF aC aM adK adV fA b 34, cellE (adF aC aM adK adV fA b) G hI 34) := by
  rw [ce_i (n := 1708) (by decide +kernel) (hI_0 (by decide) (by decide))]
  rfl
theorem wk_35 : (wdX5 G aC ++ wdX6 G aM)[35]? = some (adF aC aM adK adV fA b 35, cellE (adF aC aM adK adV fA b) G hI 35) := by
  rw [cellO (c := 4) (by decide +kernel) (by decide)]
  rfl
theorem wk_36 : (wdX5 G aC ++ wdX6 G aM)[36]? = some (adF aC aM adK adV fA b 36, cellE (adF aC aM adK adV fA b) G hI 36) := by
  rw [ce_l (n := 61) (by decide +kernel)]
  rfl
theorem wk_37 : (wdX5 G aC ++ wdX6 G aM)[37]? = some (adF aC aM adK adV fA b 37, cellE (adF aC aM adK adV fA b) G hI 37) := by
  rw [ce_i (n := 397) (by decide +kernel) (hI_0 (by decide) (by decide))]
  rfl
theorem wk_38 : (wdX5 G aC ++ wdX6 G aM)[38]? = some (adF aC aM adK adV fA b 38, cellE (adF aC aM adK adV fA b) G hI 38) := by
  rw [cellO (c := 6) (by decide +kernel) (by decide)]
  rfl
theorem wk_39 : (wdX5 G aC ++ wdX6 G aM)[39]? = some (adF aC aM adK adV fA b 39, cellE (adF aC aM adK adV fA b) G hI 39) := by
  rw [ce_i (n := 4) (by decide +kernel) (hI_0 (by decide) (by decide))]
  rfl
theorem wk_40 : (wdX5 G aC ++ wdX6 G aM)[40]? = some (adF aC aM adK adV fA b 40, cellE (adF aC aM adK adV fA b) G hI 40) := by
  rw [ce_i (n := 4) (by decide +kernel) (hI_0 (by decide) (by decide))]
  rfl
theorem wk_41 : (wdX5 G aC ++ wdX6 G aM)[41]? = some (adF aC aM adK adV fA b 41, cellE (adF aC aM adK adV fA b) G hI 41) := by
  rw [ce_i (n := 4) (by decide +kernel) (hI_0 (by decide) (by decide))]
  rfl
theorem wk_42 : (wdX5 G aC ++ wdX6 G aM)[42]? = some (adF aC aM adK adV fA b 42, cellE (adF aC aM adK adV fA b) G hI 42) := by
  rw [ce_i (n := 4) (by decide +kernel) (hI_0 (by decide) (by decide))]
  rfl
theorem wk_43 : (wdX5 G aC ++ wdX6 G aM)[43]? = some (adF aC aM adK adV fA b 43, cellE (adF aC aM adK adV fA b) G hI 43) := by
  rw [ce_i (n := 4) (by decide +kernel) (hI_0 (by decide) (by decide))]
  rfl
theorem wk_44 : (wdX5 G aC ++ wdX6 G aM)[44]? = some (adF aC aM adK adV fA b 44, cellE (adF aC aM adK adV fA b) G hI 44) := by
  rw [ce_i (n := 4) (by decide +kernel) (hI_0 (by decide) (by decide))]
  rfl
theorem wk_45 : (wdX5 G aC ++ wdX6 G aM)[45]? = some (adF aC aM adK adV fA b 45, cellE (adF aC aM adK adV fA b) G hI 45) := by
  rw [ce_i (n := 7) (by decide +kernel) (hI_0 (by decide) (by decide))]
  rfl
theorem wk_46 : (wdX5 G aC ++ wdX6 G aM)[46]? = some (adF aC aM adK adV fA b 46, cellE (adF aC aM adK adV fA b) G hI 46) := by
  rw [ce_i (n := 35) (by decide +kernel) (hI_0 (by decide) (by decide))]
  rfl
theorem wk_47 : (wdX5 G aC ++ wdX6 G aM)[47]? = some (adF aC aM adK adV fA b 47, cellE (adF aC aM adK adV fA b) G hI 47) := by
  rw [ce_i (n := 35) (by decide +kernel) (hI_0 (by decide) (by decide))]
  rfl
theorem wk_48 : (wdX5 G aC ++ wdX6 G aM)[48]? = some (adF aC aM adK adV fA b 48, cellE (adF aC aM adK adV fA b) G hI 48) := by
  rw [ce_i (n := 96) (by decide +kernel) (hI_0 (by decide) (by decide))]
  rfl
theorem wk_49 : (wdX5 G aC ++ wdX6 G aM)[49]? = some (adF aC aM adK adV fA b 49, cellE (adF aC aM adK adV fA b) G hI 49) := by
  rw [ce_i (n := 49) (by decide +kernel) (hI_0 (by decide) (by decide))]
  rfl
theorem wk_50 : (wdX5 G aC ++ wdX6 G aM)[50]? = some (adF aC aM adK adV fA b 50, cellE (adF aC aM adK adV fA b) G hI 50) := by
  rw [ce_i (n := 49) (by decide +kernel) (hI_0 (by decide) (by decide))]
  rfl
theorem wk_51 : (wdX5 G aC ++ wdX6 G aM)[51]? = some (adF aC aM adK adV fA b 51, cellE (adF aC aM adK adV fA b) G hI 51) := by
  rw [ce_i (n := 196) (by decide +kernel) (hI_0 (by decide) (by decide))]
  rfl
theorem wk_52 : (wdX5 G aC ++ wdX6 G aM)[52]? = some (adF aC aM adK adV fA b 52, cellE (adF aC aM adK adV fA b) G hI 52) := by
  rw [ce_i (n := 8) (by decide +kernel) (hI_0 (by decide) (by decide))]
  rfl
theorem wk_53 : (wdX5 G aC ++ wdX6 G aM)[53]? = some (adF aC aM adK adV fA b 53, cellE (adF aC aM adK adV fA b) G hI 53) := by
  rw [ce_i (n := 8) (by decide +kernel) (hI_0 (by decide) (by decide))]
  rfl
theorem wk_54 : (wdX5 G aC ++ wdX6 G aM)[54]? = some (adF aC aM adK adV fA b 54, cellE (adF aC aM adK adV fA b) G hI 54) := by
  rw [ce_i (n := 8) (by decide +kernel) (hI_0 (by decide) (by decide))]
  rfl
theorem wk_55 : (wdX5 G aC ++ wdX6 G aM)[55]? = some (adF aC aM adK adV fA b 55, cellE (adF aC aM adK adV fA b) G hI 55) := by
  rw [ce_l (n := 61) (by decide +kernel)]
  rfl
theorem wk_56 : (wdX5 G aC ++ wdX6 G aM)[56]? = some (adF aC aM adK adV fA b 56, cellE (adF aC aM adK adV fA b) G hI 56) := by
  rw [ce_l (n := 61) (by decide +kernel)]
  rfl
theorem wk_57 : (wdX5 G aC ++ wdX6 G aM)[57]? = some (adF aC aM adK adV fA b 57, cellE (adF aC aM adK adV fA b) G hI 57) := by
  rw [ce_z (n := 14884) (by decide +kernel) (hI_0 (by decide) (by decide))]
  rfl
theorem wk_58 : (wdX5 G aC ++ wdX6 G aM)[58]? = some (adF aC aM adK adV fA b 58, cellE (adF aC aM adK adV fA b) G hI 58) := by
  rw [ce_i (n := 21) (by decide +kernel) (hI_0 (by decide) (by decide))]
  rfl
theorem wk_59 : (wdX5 G aC ++ wdX6 G aM)[59]? = some (adF aC aM adK adV fA b 59, cellE (adF aC aM adK adV fA b) G hI 59) := by
  rw [ce_i (n := 397) (by decide +kernel) (hI_0 (by decide) (by decide))]
  rfl
theorem wk_60 : (wdX5 G aC ++ wdX6 G aM)[60]? = some (adF aC aM adK adV fA b 60, cellE (adF aC aM adK adV fA b) G hI 60) := by
  rw [ce_i (n := 397) (by decide +kernel) (hI_0 (by decide) (by decide))]
  rfl
theorem wk_61 : (wdX5 G aC ++ wdX6 G aM)[61]? = some (adF aC aM adK adV fA b 61, cellE (adF aC aM adK adV fA b) G hI 61) := by
  rw [ce_i (n := 4) (by decide +kernel) (hI_0 (by decide) (by decide))]
  rfl
theorem wk_62 : (wdX5 G aC ++ wdX6 G aM)[62]? = some (adF aC aM adK adV fA b 62, cellE (adF aC aM adK adV fA b) G hI 62) := by
  rw [ce_z (n := 28561) (by decide +kernel) (hI_0 (by decide) (by decide))]
  rfl
theorem wk_63 : (wdX5 G aC ++ wdX6 G aM)[63]? = some (adF aC aM adK adV fA b 63, cellE (adF aC aM adK adV fA b) G hI 63) := by
  rw [ce_i (n := 7442) (by decide +kernel) (hI_0 (by decide) (by decide))]
  rfl
theorem wk_64 : (wdX5 G aC ++ wdX6 G aM)[64]? = some (adF aC aM adK adV fA b 64, cellE (adF aC aM adK adV fA b) G hI 64) := by
  rw [ce_i (n := 12) (by decide +kernel) (hI_0 (by decide) (by decide))]
  rfl
theorem wk (k : Nat) (hk : k < 65) : (wdX5 G aC ++ wdX6 G aM)[k]? = some (adF aC aM adK adV fA b k, cellE (adF aC aM adK adV fA b) G hI k) :=
  match k, hk with
  | 0, _ => wk_0
  | 1, _ => wk_1
  | 2, _ => wk_2
  | 3, _ => wk_3
  | 4, _ => wk_4
  | 5, _ => wk_5
  | 6, _ => wk_6
  | 7, _ => wk_7
  | 8, _ => wk_8
  | 9, _ => wk_9
  | 10, _ => wk_10
  | 11, _ => wk_11
  | 12, _ => wk_12
  | 13, _ => wk_13
  | 14, _ => wk_14
  | 15, _ => wk_15
  | 16, _ => wk_16
  | 17, _ => wk_17
  | 18, _ => wk_18
  | 19, _ => wk_19
  | 20, _ => wk_20
  | 21, _ => wk_21
  | 22, _ => wk_22
  | 23, _ => wk_23
  | 24, _ => wk_24
  | 25, _ => wk_25
  | 26, _ => wk_26
  | 27, _ => wk_27
  | 28, _ => wk_28
  | 29, _ => wk_29
  | 30, _ => wk_30
  | 31, _ => wk_31
  | 32, _ => wk_32
  | 33, _ => wk_33
  | 34, _ => wk_34
  | 35, _ => wk_35
  | 36, _ => wk_36
  | 37, _ => wk_37
  | 38, _ => wk_38
  | 39, _ => wk_39
  | 40, _ => wk_40
  | 41, _ => wk_41
  | 42, _ => wk_42
  | 43, _ => wk_43
  | 44, _ => wk_44
  | 45, _ => wk_45
  | 46, _ => wk_46
  | 47, _ => wk_47
  | 48, _ => wk_48
  | 49, _ => wk_49
  | 50, _ => wk_50
  | 51, _ => wk_51
  | 52, _ => wk_52
  | 53, _ => wk_53
  | 54, _ => wk_54
  | 55, _ => wk_55
  | 56, _ => wk_56
  | 57, _ => wk_57
  | 58, _ => wk_58
  | 59, _ => wk_59
  | 60, _ => wk_60
  | 61, _ => wk_61
  | 62, _ => wk_62
  | 63, _ => wk_63
  | 64, _ => wk_64
  | k + 65, h => absurd h (by omega)
theorem wP {dC : Nat → ClassId} {dI : Nat → Nat → Nat} {H : Heap} (hP : va_P (dC, dI) vwCl (wdX5 G aC ++ wdX6 G aM) H) : va_P (dC, dI) vwCl (wl (adF aC aM adK adV fA b) G hI) H := fun k q hq => by
  obtain ⟨hk, rfl⟩ := wl_some hq
  exact hP k _ (wk k hk)
theorem wD {A : Nat → Prop} (hD : va_D A (wdX5 G aC ++ wdX6 G aM)) : va_D A (wl (adF aC aM adK adV fA b) G hI) := by
  refine ⟨fun i j p q hi hj e => ?_, fun k q hk => ?_⟩
  · obtain ⟨i1, rfl⟩ := wl_some hi
    obtain ⟨j1, rfl⟩ := wl_some hj
    exact hD.1 i j _ _ (wk i i1) (wk j j1) e
  · obtain ⟨k1, rfl⟩ := wl_some hk
    exact hD.2 k _ (wk k k1)
end WK
/-! ===== what the Statement gives of constants ===== -/
set_option maxRecDepth 100000 in
set_option maxHeartbeats 4000000 in
theorem xt_start {bb : Nat} {s : State} (hts : ∀ w ∈ lw_tbl, w.before #[Value.ref bb] s = true) (hgv : (Jvm.Cond.and given_1 narrow_1).before #[Value.ref bb] s = true) : ∃ (adK adV : Nat → Nat) (fA : Nat), ∀ ad : Nat → Nat, (∀ i, i < 6 → ad (200 + i) = adK i) → (∀ i, i < 6 → ad (220 + i) = adV i) → ad 240 = fA → XT ad (fun q : Nat => s.heap.size ≤ q) s s.heap := by
  have hs := flat_of_before _ hgv
  have hA : ∀ a : Nat, a < s.heap.size → ¬ (fun q : Nat => s.heap.size ≤ q) a := fun a h => Nat.not_le.mpr h
  obtain ⟨adK, adV, hV, hE⟩ := vk_Sof (args := #[Value.ref bb]) (s := s) (N := 6) (tm := fun i => Term.string "TinkerTailor$Letters" (23 + 2 * i)) (len := strS.map List.length) (byt := strS.map (fun l => l.map Int32.ofInt)) (A := fun q : Nat => s.heap.size ≤ q)
    (fun i hi => by rcases six hi with rfl | rfl | rfl | rfl | rfl | rfl <;> decide +kernel)
    (fun i hi => by rcases six hi with rfl | rfl | rfl | rfl | rfl | rfl <;> exact hs _ (by decide +kernel))
    (fun i hi => by rcases six hi with rfl | rfl | rfl | rfl | rfl | rfl <;> exact hs _ (by decide +kernel))
    (fun i hi => by rcases six hi with rfl | rfl | rfl | rfl | rfl | rfl <;> exact hs _ (by decide +kernel))
    (fun i hi => by rcases six hi with rfl | rfl | rfl | rfl | rfl | rfl <;> exact hs _ (by decide +kernel))
    (fun i hi j hj => by
      rcases six hi with rfl | rfl | rfl | rfl | rfl | rfl
      · have hj : j < 3 := hj
        rcases (show j = 0 ∨ j = 1 ∨ j = 2 by omega) with rfl | rfl | rfl <;> exact hs _ (by decide +kernel)
      · have hj : j < 7 := hj
        rcases (show j = 0 ∨ j = 1 ∨ j = 2 ∨ j = 3 ∨ j = 4 ∨ j = 5 ∨ j = 6 by omega) with rfl | rfl | rfl | rfl | rfl | rfl | rfl <;> exact hs _ (by decide +kernel)
      · have hj : j < 6 := hj
        rcases (show j = 0 ∨ j = 1 ∨ j = 2 ∨ j = 3 ∨ j = 4 ∨ j = 5 by omega) with rfl | rfl | rfl | rfl | rfl | rfl <;> exact hs _ (by decide +kernel)
      · have hj : j < 4 := hj
        rcases (show j = 0 ∨ j = 1 ∨ j = 2 ∨ j = 3 by omega) with rfl | rfl | rfl | rfl <;> exact hs _ (by decide +kernel)
      · have hj : j < 1 := hj
        obtain rfl : j = 0 := by omega
        exact hs _ (by decide +kernel)
      · have hj : j < 0 := hj
        omega)
    (fun i j hi hj hij => by
      rcases six hi with rfl | rfl | rfl | rfl | rfl | rfl <;> rcases six hj with rfl | rfl | rfl | rfl | rfl | rfl <;> first | exact absurd rfl hij | exact Or.inl (hs _ (by decide +kernel)) | exact Or.inr (hs _ (by decide +kernel)))
    hA
  have hc : va_Z "java/lang/String" "COMPACT_STRINGS" "Z" (.int 1) (fun q : Nat => s.heap.size ≤ q) s s.heap := va_Zof (hts (.laysStatic "java/lang/String" "COMPACT_STRINGS" "Z") (List.mem_of_getElem? (i := 362) (by decide +kernel))) (hts (.initialized "java/lang/String") (List.mem_of_getElem? (i := 126) (by decide +kernel))) (va_eqi (hs _ (by decide +kernel))) hA
  have hq := va_Zqof (C := "jdk/internal/util/Preconditions") (n := "SIOOBE_FORMATTER") (d := "Ljava/util/function/BiFunction;") (A := fun q : Nat => s.heap.size ≤ q) (hts (.laysStatic "jdk/internal/util/Preconditions" "SIOOBE_FORMATTER" "Ljava/util/function/BiFunction;") (List.mem_of_getElem? (i := 378) (by decide +kernel))) (hts (.initialized "jdk/internal/util/Preconditions") (List.mem_of_getElem? (i := 128) (by decide +kernel))) (hs _ (by decide +kernel)) hA
  have hn : ∀ w ∈ tn, va_Nw w s := fun w hw => va_tabs (tn_tab hw) rfl (hts w (List.mem_filter.mp hw).1)
  have hr : ∀ i, i < 6 → vk_R "TinkerTailor$Letters" (23 + 2 * i) (strT.getD i "") (adK i) s := by
    intro i hi
    have e := hE i hi
    rcases six hi with rfl | rfl | rfl | rfl | rfl | rfl
    · exact vk_R.of (hts (.stringRef "TinkerTailor$Letters" 23 "dD;") (List.mem_of_getElem? (i := 343) (by decide +kernel))) e
    · exact vk_R.of (hts (.stringRef "TinkerTailor$Letters" 25 "dddddd;") (List.mem_of_getElem? (i := 344) (by decide +kernel))) e
    · exact vk_R.of (hts (.stringRef "TinkerTailor$Letters" 27 "dD,dd;") (List.mem_of_getElem? (i := 345) (by decide +kernel))) e
    · exact vk_R.of (hts (.stringRef "TinkerTailor$Letters" 29 "ddd;") (List.mem_of_getElem? (i := 346) (by decide +kernel))) e
    · exact vk_R.of (hts (.stringRef "TinkerTailor$Letters" 31 ";") (List.mem_of_getElem? (i := 347) (by decide +kernel))) e
    · exact vk_R.of (hts (.stringRef "TinkerTailor$Letters" 33 "") (List.mem_of_getElem? (i := 348) (by decide +kernel))) e
  have mk : ∀ fA : Nat, (va_Z "jdk/internal/util/Preconditions" "SIOOBE_FORMATTER" "Ljava/util/function/BiFunction;" .null (fun q : Nat => s.heap.size ≤ q) s s.heap ∨ va_Z "jdk/internal/util/Preconditions" "SIOOBE_FORMATTER" "Ljava/util/function/BiFunction;" (.ref fA) (fun q : Nat => s.heap.size ≤ q) s s.heap) → ∀ ad : Nat → Nat, (∀ i, i < 6 → ad (200 + i) = adK i) → (∀ i, i < 6 → ad (220 + i) = adV i) → ad 240 = fA → XT ad (fun q : Nat => s.heap.size ≤ q) s s.heap := by
    intro fA hf ad h1 h2 h3
    refine ⟨⟨fun i hi => ?_, fun i j hi hj e => hV.2 i j hi hj (by rw [← h1 i hi, ← h1 j hj]; exact e)⟩, hc, by rw [h3]; exact hf, fun i hi => by rw [h1 i hi]; exact hr i hi, hn⟩
    have g := hV.1 i hi
    rw [← h1 i hi, ← h2 i hi] at g
    exact g
  rcases hq with hz | ⟨t, hz⟩
  · exact ⟨adK, adV, 0, mk 0 (Or.inl hz)⟩
  · exact ⟨adK, adV, t, mk t (Or.inr hz)⟩
