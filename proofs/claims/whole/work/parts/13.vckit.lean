/-! ===== what the printed block lemmas are made of ===== -/
def cI (T : AT) (id : Nat) (as : List AV) (h : AH) (k : Int → AH → Prop) : Prop := T id as h (fun r h' => ∃ z, r = some (.inl z) ∧ k z h')
def cL (T : AT) (id : Nat) (as : List AV) (h : AH) (k : Int → AH → Prop) : Prop := T id as h (fun r h' => ∃ z, r = some (.inr (.inl z)) ∧ k z h')
def cV (T : AT) (id : Nat) (as : List AV) (h : AH) (k : AH → Prop) : Prop := T id as h (fun r h' => r = none ∧ k h')
def cR (T : AT) (id : Nat) (as : List AV) (h : AH) (k : Nat → AH → Prop) : Prop := T id as h (fun r h' => ∃ a, r = some (.inr (.inr (some a))) ∧ k a h')
/-- the three boards -/
def isB (k : Nat) : Prop := k = 1 ∨ k = 9 ∨ k = 17
theorem shB0 {k : Nat} (h : isB k) : (shA k).1 = 0 := by rcases h with rfl | rfl | rfl <;> rfl
theorem shB {k : Nat} (h : isB k) (j : Nat) (h1 : 1 ≤ j) (h2 : j ≤ 7) : shA (k + j) = (10, 4) := by
  have : ∀ j : Fin 8, 1 ≤ j.val → shA (1 + j.val) = (10, 4) ∧ shA (9 + j.val) = (10, 4) ∧ shA (17 + j.val) = (10, 4) := by decide +kernel
  obtain ⟨a, b, c⟩ := this ⟨j, by omega⟩ h1
  rcases h with rfl | rfl | rfl
  · exact a
  · exact b
  · exact c
theorem shF {k c n : Nat} (e : shA k = (c, n)) : (shA k).1 = c := by rw [e]
theorem shlt {k c n : Nat} {i m : Int} (e : shA k = (c, n)) (hn : (n : Int) = m) (h : i < m) : i < ((shA k).2 : Int) := by rw [e]; omega
theorem shle {k c n : Nat} {i m : Int} (e : shA k = (c, n)) (hn : (n : Int) = m) (h : i ≤ m) : i ≤ ((shA k).2 : Int) := by rw [e]; omega
theorem sh_0 : shA 0 = (5, 0) := by decide +kernel
theorem sh_1 : shA 1 = (0, 0) := by decide +kernel
theorem sh_2 : shA 2 = (10, 4) := by decide +kernel
theorem sh_3 : shA 3 = (10, 4) := by decide +kernel
theorem sh_4 : shA 4 = (10, 4) := by decide +kernel
theorem sh_5 : shA 5 = (10, 4) := by decide +kernel
theorem sh_6 : shA 6 = (10, 4) := by decide +kernel
theorem sh_7 : shA 7 = (10, 4) := by decide +kernel
theorem sh_8 : shA 8 = (10, 4) := by decide +kernel
theorem sh_9 : shA 9 = (0, 0) := by decide +kernel
theorem sh_10 : shA 10 = (10, 4) := by decide +kernel
theorem sh_11 : shA 11 = (10, 4) := by decide +kernel
theorem sh_12 : shA 12 = (10, 4) := by decide +kernel
theorem sh_13 : shA 13 = (10, 4) := by decide +kernel
theorem sh_14 : shA 14 = (10, 4) := by decide +kernel
theorem sh_15 : shA 15 = (10, 4) := by decide +kernel
theorem sh_16 : shA 16 = (10, 4) := by decide +kernel
theorem sh_17 : shA 17 = (0, 0) := by decide +kernel
theorem sh_18 : shA 18 = (10, 4) := by decide +kernel
theorem sh_19 : shA 19 = (10, 4) := by decide +kernel
theorem sh_20 : shA 20 = (10, 4) := by decide +kernel
theorem sh_21 : shA 21 = (10, 4) := by decide +kernel
theorem sh_22 : shA 22 = (10, 4) := by decide +kernel
theorem sh_23 : shA 23 = (10, 4) := by decide +kernel
theorem sh_24 : shA 24 = (10, 4) := by decide +kernel
theorem sh_25 : shA 25 = (2, 0) := by decide +kernel
theorem sh_26 : shA 26 = (10, 96) := by decide +kernel
theorem sh_27 : shA 27 = (3, 0) := by decide +kernel
theorem sh_28 : shA 28 = (10, 8) := by decide +kernel
theorem sh_29 : shA 29 = (10, 8) := by decide +kernel
theorem sh_30 : shA 30 = (10, 8) := by decide +kernel
theorem sh_31 : shA 31 = (10, 12) := by decide +kernel
theorem sh_32 : shA 32 = (10, 7) := by decide +kernel
theorem sh_33 : shA 33 = (1, 0) := by decide +kernel
theorem sh_34 : shA 34 = (10, 1708) := by decide +kernel
theorem sh_35 : shA 35 = (4, 0) := by decide +kernel
theorem sh_36 : shA 36 = (11, 61) := by decide +kernel
theorem sh_37 : shA 37 = (10, 397) := by decide +kernel
theorem sh_38 : shA 38 = (6, 0) := by decide +kernel
theorem sh_39 : shA 39 = (10, 4) := by decide +kernel
theorem sh_40 : shA 40 = (10, 4) := by decide +kernel
theorem sh_41 : shA 41 = (10, 4) := by decide +kernel
theorem sh_42 : shA 42 = (10, 4) := by decide +kernel
theorem sh_43 : shA 43 = (10, 4) := by decide +kernel
theorem sh_44 : shA 44 = (10, 4) := by decide +kernel
theorem sh_45 : shA 45 = (10, 7) := by decide +kernel
theorem sh_46 : shA 46 = (10, 35) := by decide +kernel
theorem sh_47 : shA 47 = (10, 35) := by decide +kernel
theorem sh_48 : shA 48 = (10, 96) := by decide +kernel
theorem sh_49 : shA 49 = (10, 49) := by decide +kernel
theorem sh_50 : shA 50 = (10, 49) := by decide +kernel
theorem sh_51 : shA 51 = (10, 196) := by decide +kernel
theorem sh_52 : shA 52 = (10, 8) := by decide +kernel
theorem sh_53 : shA 53 = (10, 8) := by decide +kernel
theorem sh_54 : shA 54 = (10, 8) := by decide +kernel
theorem sh_55 : shA 55 = (11, 61) := by decide +kernel
theorem sh_56 : shA 56 = (11, 61) := by decide +kernel
theorem sh_57 : shA 57 = (12, 14884) := by decide +kernel
theorem sh_58 : shA 58 = (10, 21) := by decide +kernel
theorem sh_59 : shA 59 = (10, 397) := by decide +kernel
theorem sh_60 : shA 60 = (10, 397) := by decide +kernel
theorem sh_61 : shA 61 = (10, 4) := by decide +kernel
theorem sh_62 : shA 62 = (12, 28561) := by decide +kernel
theorem sh_63 : shA 63 = (10, 7442) := by decide +kernel
theorem sh_64 : shA 64 = (10, 12) := by decide +kernel
theorem sh_200 : shA 200 = (20, 0) := by decide +kernel
theorem sh_220 : shA 220 = (13, 3) := by decide +kernel
theorem sh_201 : shA 201 = (20, 0) := by decide +kernel
theorem sh_221 : shA 221 = (13, 7) := by decide +kernel
theorem sh_202 : shA 202 = (20, 0) := by decide +kernel
theorem sh_222 : shA 222 = (13, 6) := by decide +kernel
theorem sh_203 : shA 203 = (20, 0) := by decide +kernel
theorem sh_223 : shA 223 = (13, 4) := by decide +kernel
theorem sh_204 : shA 204 = (20, 0) := by decide +kernel
theorem sh_224 : shA 224 = (13, 1) := by decide +kernel
theorem sh_205 : shA 205 = (20, 0) := by decide +kernel
theorem sh_225 : shA 225 = (13, 0) := by decide +kernel
