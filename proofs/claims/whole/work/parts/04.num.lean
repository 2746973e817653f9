/-! ===== ints as Int: what the machine's operations do to Int32.ofInt, Int64.ofInt in range ===== -/
theorem am_t {z : Int} (h : inI z) : (Int32.ofInt z).toInt = z := Int32.toInt_ofInt_of_le h.1 (by have := h.2; omega)
theorem am_T {z : Int} (h : inL z) : (Int64.ofInt z).toInt = z := Int64.toInt_ofInt_of_le h.1 (by have := h.2; omega)
theorem am_r (x : Int32) : inI x.toInt := ⟨Int32.le_toInt x, by have := Int32.toInt_lt x; omega⟩
theorem am_R (x : Int64) : inL x.toInt := ⟨Int64.le_toInt x, by have := Int64.toInt_lt x; omega⟩
theorem am_oi (x : Int32) : Int32.ofInt x.toInt = x := Int32.ofInt_toInt x
theorem am_add (z y : Int) : Int32.ofInt z + Int32.ofInt y = Int32.ofInt (z + y) := (Int32.ofInt_add z y).symm
theorem am_sub (z y : Int) : Int32.ofInt z - Int32.ofInt y = Int32.ofInt (z - y) := (Int32.ofInt_sub z y).symm
theorem am_mul (z y : Int) : Int32.ofInt z * Int32.ofInt y = Int32.ofInt (z * y) := (Int32.ofInt_mul z y).symm
theorem am_neg (z : Int) : -Int32.ofInt z = Int32.ofInt (-z) := (Int32.ofInt_neg z).symm
theorem am_wrap (z : Int) : Int32.ofInt (Int.bmod z 4294967296) = Int32.ofInt z := by
  apply Int32.toInt_inj.mp
  rw [Int32.toInt_ofInt, Int32.toInt_ofInt]
  simp
theorem am_wrapI (z : Int) : inI (Int.bmod z 4294967296) := by
  have h1 := Int.le_bmod (x := z) (m := 4294967296) (by decide)
  have h2 := Int.bmod_lt (x := z) (m := 4294967296) (by decide)
  constructor <;> omega
theorem am_lt {z y : Int} (hz : inI z) (hy : inI y) : Int32.ofInt z < Int32.ofInt y ↔ z < y := by
  rw [Int32.lt_iff_toInt_lt, am_t hz, am_t hy]
theorem am_le {z y : Int} (hz : inI z) (hy : inI y) : Int32.ofInt z ≤ Int32.ofInt y ↔ z ≤ y := by
  rw [Int32.le_iff_toInt_le, am_t hz, am_t hy]
theorem am_eq {z y : Int} (hz : inI z) (hy : inI y) : Int32.ofInt z = Int32.ofInt y ↔ z = y := by
  rw [← Int32.toInt_inj, am_t hz, am_t hy]
theorem am_divI {z y : Int} (hz : inI z) (h0 : 0 ≤ z) (h1 : 0 < y) : inI (z / y) := by
  have a := Int.ediv_nonneg h0 (Int.le_of_lt h1)
  have b := Int.ediv_le_self y h0
  have := hz.2
  constructor <;> omega
theorem am_modI {z y : Int} (hy : inI y) (h1 : 0 < y) : inI (z % y) := by
  have a := Int.emod_nonneg z (show y ≠ 0 by omega)
  have b := Int.emod_lt_of_pos z h1
  have := hy.2
  constructor <;> omega
theorem am_div {z y : Int} (hz : inI z) (hy : inI y) (h0 : 0 ≤ z) (h1 : 0 < y) : Int32.ofInt z / Int32.ofInt y = Int32.ofInt (z / y) := by
  apply Int32.toInt_inj.mp
  have hq := am_divI hz h0 h1
  rw [Int32.toInt_div, am_t hz, am_t hy, am_t hq, Int.tdiv_eq_ediv_of_nonneg h0]
  exact Int.bmod_eq_of_le (by have := hq.1; omega) (by have := hq.2; omega)
theorem am_ne0 {y : Int} (hy : inI y) (h1 : 0 < y) : ¬ Int32.ofInt y = 0 := fun h => by
  have := (am_eq hy (⟨by decide, by decide⟩ : inI 0)).mp h
  omega
theorem am_rem {z y : Int} (hz : inI z) (hy : inI y) (h0 : 0 ≤ z) (h1 : 0 < y) : Int32.ofInt z - Int32.ofInt z / Int32.ofInt y * Int32.ofInt y = Int32.ofInt (z % y) := by
  rw [am_div hz hy h0 h1, am_mul, am_sub]
  congr 1
  have := Int.emod_def z y
  rw [this, Int.mul_comm y]
theorem am_nat (n : Nat) : Int32.ofInt (n : Int) = nI n := by
  show Int32.ofInt (n : Int) = Int32.ofNat n
  exact Int32.ofInt_eq_ofNat
theorem am_nn {z : Int} (h : 0 ≤ z) : Int32.ofInt z = nI z.toNat := by
  conv => lhs; rw [← Int.toNat_of_nonneg h]
  exact am_nat _
theorem am_natI {z : Int} (n : Nat) (hz : inI z) (h : (n : Int) ≤ z) : inI (n : Int) := by
  have := hz.2
  constructor <;> omega
theorem am_bnd (a b : Nat) (ha : a < 2 ^ 31) (hb : b < 2 ^ 31) : (a &&& b) < 2 ^ 31 ∧ (a ||| b) < 2 ^ 31 ∧ (a ^^^ b) < 2 ^ 31 := ⟨Nat.lt_of_le_of_lt Nat.and_le_left ha, Nat.or_lt_two_pow ha hb, Nat.xor_lt_two_pow ha hb⟩
theorem am_nlt {z : Int} (hz : inI z) (h : 0 ≤ z) : z.toNat < 2 ^ 31 := by have := hz.2; omega
theorem am_lti {n : Nat} (h : n < 2 ^ 31) : inI (n : Int) := by constructor <;> omega
theorem am_nbv (n : Nat) : (nI n).toBitVec = BitVec.ofNat 32 n := rfl
theorem am_and {z y : Int} (h0 : 0 ≤ z) (h1 : 0 ≤ y) : Int32.ofInt z &&& Int32.ofInt y = Int32.ofInt ((z.toNat &&& y.toNat : Nat) : Int) := by
  rw [am_nn h0, am_nn h1, am_nat]
  apply Int32.toBitVec_inj.mp
  rw [Int32.toBitVec_and, am_nbv, am_nbv, am_nbv, BitVec.ofNat_and]
theorem am_or {z y : Int} (h0 : 0 ≤ z) (h1 : 0 ≤ y) : Int32.ofInt z ||| Int32.ofInt y = Int32.ofInt ((z.toNat ||| y.toNat : Nat) : Int) := by
  rw [am_nn h0, am_nn h1, am_nat]
  apply Int32.toBitVec_inj.mp
  rw [Int32.toBitVec_or, am_nbv, am_nbv, am_nbv, BitVec.ofNat_or]
theorem am_xor {z y : Int} (h0 : 0 ≤ z) (h1 : 0 ≤ y) : Int32.ofInt z ^^^ Int32.ofInt y = Int32.ofInt ((z.toNat ^^^ y.toNat : Nat) : Int) := by
  rw [am_nn h0, am_nn h1, am_nat]
  apply Int32.toBitVec_inj.mp
  rw [Int32.toBitVec_xor, am_nbv, am_nbv, am_nbv, BitVec.ofNat_xor]
theorem am_mask (z : Int) : Int32.ofInt z &&& Int32.ofInt 2147483647 = Int32.ofInt (z % 2147483648) := by
  rw [pk_and (Int32.ofInt z) (m := Int32.ofInt 2147483647) 31 (by decide +kernel), am_nn (z := z % 2147483648) (by omega)]
  congr 1
  show (BitVec.ofInt 32 z).toNat % 2 ^ 31 = _
  rw [BitVec.toNat_ofInt]
  omega
theorem am_mask6 (z : Int) : Int32.ofInt z &&& Int32.ofInt 63 = Int32.ofInt (z % 64) := by
  rw [pk_and (Int32.ofInt z) (m := Int32.ofInt 63) 6 (by decide +kernel), am_nn (z := z % 64) (by omega)]
  congr 1
  show (BitVec.ofInt 32 z).toNat % 2 ^ 6 = _
  rw [BitVec.toNat_ofInt]
  omega
theorem am_sh (m : Nat) (h : m < 31) : ((nI m &&& 31).toBitVec.smod 32).toNat = m ∧ (((nI m).toUInt32 &&& Int32.toUInt32 31).toBitVec % 32).toNat = m := by
  have : ∀ m : Fin 31, ((nI m.val &&& 31).toBitVec.smod 32).toNat = m.val ∧ (((nI m.val).toUInt32 &&& Int32.toUInt32 31).toBitVec % 32).toNat = m.val := by decide +kernel
  exact this ⟨m, h⟩
theorem am_shl {z y : Int} (h0 : 0 ≤ z) (h1 : 0 ≤ y) (h2 : y < 31) (hr : inI (z * 2 ^ y.toNat)) : Int32.ofInt z <<< (Int32.ofInt y &&& 31) = Int32.ofInt (z * 2 ^ y.toNat) := by
  have hp : 0 ≤ z * 2 ^ y.toNat := Int.mul_nonneg h0 (Int.pow_nonneg (by decide))
  have e : (z * 2 ^ y.toNat).toNat = z.toNat * 2 ^ y.toNat := by
    rw [Int.toNat_mul h0 (Int.pow_nonneg (by decide))]
    congr 1
  rw [am_nn h0, am_nn h1, am_nn hp, e]
  exact pk_shlN _ y.toNat (am_sh y.toNat (by omega)).1 (by rw [← e]; have := hr.2; omega)
theorem am_dn {z : Int} (h0 : 0 ≤ z) (k : Nat) : (z / 2 ^ k).toNat = z.toNat / 2 ^ k := by
  obtain ⟨n, rfl⟩ := Int.eq_ofNat_of_zero_le h0
  rw [show ((2 : Int) ^ k) = ((2 ^ k : Nat) : Int) from by simp, ← Int.natCast_ediv, Int.toNat_natCast, Int.toNat_natCast]
theorem am_shr {z y : Int} (hz : inI z) (h0 : 0 ≤ z) (h1 : 0 ≤ y) (h2 : y < 31) : Int32.ofInt z >>> (Int32.ofInt y &&& 31) = Int32.ofInt (z / 2 ^ y.toNat) := by
  have hp : 0 ≤ z / 2 ^ y.toNat := Int.ediv_nonneg h0 (Int.pow_nonneg (by decide))
  have e : (z / 2 ^ y.toNat).toNat = z.toNat / 2 ^ y.toNat := am_dn h0 _
  rw [am_nn h0, am_nn h1, am_nn hp, e]
  exact pk_shrN (am_nlt hz h0) _ y.toNat (am_sh y.toNat (by omega)).1
theorem am_ushr {z y : Int} (hz : inI z) (h0 : 0 ≤ z) (h1 : 0 ≤ y) (h2 : y < 31) : ((Int32.ofInt z).toUInt32 >>> ((Int32.ofInt y).toUInt32 &&& Int32.toUInt32 31)).toInt32 = Int32.ofInt (z / 2 ^ y.toNat) := by
  have hp : 0 ≤ z / 2 ^ y.toNat := Int.ediv_nonneg h0 (Int.pow_nonneg (by decide))
  have e : (z / 2 ^ y.toNat).toNat = z.toNat / 2 ^ y.toNat := am_dn h0 _
  rw [am_nn h0, am_nn h1, am_nn hp, e]
  exact pk_ushrN (Nat.lt_trans (am_nlt hz h0) (by decide)) _ y.toNat (am_sh y.toNat (by omega)).2
theorem am_shrI {z y : Int} (hz : inI z) (h0 : 0 ≤ z) : inI (z / 2 ^ y.toNat) := am_divI hz h0 (Int.pow_pos (by decide))
theorem am_Add (z y : Int) : Int64.ofInt z + Int64.ofInt y = Int64.ofInt (z + y) := (Int64.ofInt_add z y).symm
theorem am_Sub (z y : Int) : Int64.ofInt z - Int64.ofInt y = Int64.ofInt (z - y) := (Int64.ofInt_sub z y).symm
theorem am_Mul (z y : Int) : Int64.ofInt z * Int64.ofInt y = Int64.ofInt (z * y) := (Int64.ofInt_mul z y).symm
theorem am_Lt {z y : Int} (hz : inL z) (hy : inL y) : Int64.ofInt z < Int64.ofInt y ↔ z < y := by
  rw [Int64.lt_iff_toInt_lt, am_T hz, am_T hy]
theorem am_Eq {z y : Int} (hz : inL z) (hy : inL y) : Int64.ofInt z = Int64.ofInt y ↔ z = y := by
  rw [← Int64.toInt_inj, am_T hz, am_T hy]
theorem am_DivI {z y : Int} (hz : inL z) (h0 : 0 ≤ z) (h1 : 0 < y) : inL (z / y) := by
  have a := Int.ediv_nonneg h0 (Int.le_of_lt h1)
  have b := Int.ediv_le_self y h0
  have := hz.2
  constructor <;> omega
theorem am_ModI {z y : Int} (hy : inL y) (h1 : 0 < y) : inL (z % y) := by
  have a := Int.emod_nonneg z (show y ≠ 0 by omega)
  have b := Int.emod_lt_of_pos z h1
  have := hy.2
  constructor <;> omega
theorem am_Div {z y : Int} (hz : inL z) (hy : inL y) (h0 : 0 ≤ z) (h1 : 0 < y) : Int64.ofInt z / Int64.ofInt y = Int64.ofInt (z / y) := by
  apply Int64.toInt_inj.mp
  have hq := am_DivI hz h0 h1
  rw [Int64.toInt_div, am_T hz, am_T hy, am_T hq, Int.tdiv_eq_ediv_of_nonneg h0]
  exact Int.bmod_eq_of_le (by have := hq.1; omega) (by have := hq.2; omega)
theorem am_Ne0 {y : Int} (hy : inL y) (h1 : 0 < y) : ¬ Int64.ofInt y = 0 := fun h => by
  have := (am_Eq hy (⟨by decide, by decide⟩ : inL 0)).mp h
  omega
theorem am_Rem {z y : Int} (hz : inL z) (hy : inL y) (h0 : 0 ≤ z) (h1 : 0 < y) : Int64.ofInt z - Int64.ofInt z / Int64.ofInt y * Int64.ofInt y = Int64.ofInt (z % y) := by
  rw [am_Div hz hy h0 h1, am_Mul, am_Sub]
  congr 1
  have := Int.emod_def z y
  rw [this, Int.mul_comm y]
theorem am_cmp {z y : Int} (hz : inL z) (hy : inL y) : lg_cmp (Int64.ofInt z) (Int64.ofInt y) = Int32.ofInt (lcz z y) := by
  unfold lg_cmp lcz
  simp only [am_Lt hz hy, am_Lt hy hz, am_Eq hz hy]
  by_cases h1 : z < y
  · have : ¬ y < z := by omega
    have h3 : ¬ z = y := by omega
    simp [h1, this, h3]
  · by_cases h2 : z = y
    · subst h2; simp
    · have : y < z := by omega
      simp [h1, this, h2]
theorem am_lczI (z y : Int) : inI (lcz z y) := by
  unfold lcz inI
  split
  · decide
  · split <;> decide
theorem am_il {z : Int} (h : inI z) : (Int32.ofInt z).toInt64 = Int64.ofInt z := by
  apply Int64.toInt_inj.mp
  have : inL z := ⟨by have := h.1; omega, by have := h.2; omega⟩
  rw [Int32.toInt_toInt64, am_t h, am_T this]
theorem am_li {z : Int} : (Int64.ofInt z).toInt32 = Int32.ofInt z := by
  apply Int32.toInt_inj.mp
  rw [Int64.toInt_toInt32, Int64.toInt_ofInt, Int32.toInt_ofInt]
  exact Int.bmod_bmod_of_dvd (by decide)
theorem am_i2c {z : Int} (h0 : 0 ≤ z) (h1 : z < 65536) : ((Int32.ofInt z).toUInt32 % 65536).toInt32 = Int32.ofInt z := by
  rw [pk_char, am_nn h0]
  congr 1
  rw [am_nbv, BitVec.toNat_ofNat]
  omega
theorem am_Lsh (m : Nat) (h : m < 63) : ((nI m).toInt64 &&& 63).toBitVec.smod 64 = BitVec.ofNat 64 m := by
  have : ∀ m : Fin 63, ((nI m.val).toInt64 &&& 63).toBitVec.smod 64 = BitVec.ofNat 64 m.val := by decide +kernel
  exact this ⟨m, h⟩
theorem am_Nat (n : Nat) : Int64.ofInt (n : Int) = lN n := by
  show Int64.ofInt (n : Int) = Int64.ofNat n
  exact Int64.ofInt_eq_ofNat
theorem am_Nn {z : Int} (h : 0 ≤ z) : Int64.ofInt z = lN z.toNat := by
  conv => lhs; rw [← Int.toNat_of_nonneg h]
  exact am_Nat _
theorem am_Shl {z y : Int} (h0 : 0 ≤ z) (h1 : 0 ≤ y) (h2 : y < 63) (hz : inL z) (hr : inL (z * 2 ^ y.toNat)) : Int64.ofInt z <<< ((Int32.ofInt y).toInt64 &&& 63) = Int64.ofInt (z * 2 ^ y.toNat) := by
  have hp : 0 ≤ z * 2 ^ y.toNat := Int.mul_nonneg h0 (Int.pow_nonneg (by decide))
  have e : (z * 2 ^ y.toNat).toNat = z.toNat * 2 ^ y.toNat := by
    rw [Int.toNat_mul h0 (Int.pow_nonneg (by decide))]
    congr 1
  rw [am_Nn h0, am_nn h1, am_Nn hp, e]
  apply Int64.toBitVec_inj.mp
  rw [Int64.toBitVec_shiftLeft, am_Lsh y.toNat (by omega)]
  apply BitVec.eq_of_toNat_eq
  rw [BitVec.shiftLeft_eq', BitVec.toNat_shiftLeft, BitVec.toNat_ofNat, Nat.mod_eq_of_lt (show y.toNat < 2 ^ 64 by omega)]
  show (z.toNat % 2 ^ 64) <<< y.toNat % 2 ^ 64 = (z.toNat * 2 ^ y.toNat) % 2 ^ 64
  rw [Nat.shiftLeft_eq, Nat.mod_mul_mod]
theorem am_byte (b : Int) (h : 0 ≤ b) (h1 : b < 128) : narrow .byte (.int (Int32.ofInt b)) = .int (Int32.ofInt b) := by
  have : ∀ m : Fin 128, narrow .byte (.int (nI m.val)) = .int (nI m.val) := by decide +kernel
  rw [am_nn h]
  exact this ⟨b.toNat, by omega⟩
theorem am_bool {z : Int} (h : z = 0 ∨ z = 1) : narrow .boolean (.int (Int32.ofInt z)) = .int (Int32.ofInt z) := by
  rcases h with rfl | rfl <;> rfl
theorem am_char {z : Int} (h0 : 0 ≤ z) (h1 : z < 65536) : narrow .char (.int (Int32.ofInt z)) = .int (Int32.ofInt z) := by
  rw [am_nn h0]
  exact (pk_charN (by omega)).1
