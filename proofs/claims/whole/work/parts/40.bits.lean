/-! LAYER 3: bits of numbers that are not below 0 -/
theorem zn_bv {a : Nat} (ha : a < 2147483648) : (Int32.ofInt (a : Int)).toBitVec = BitVec.ofNat 32 a := by
  show BitVec.ofInt 32 (a : Int) = _
  exact BitVec.ofInt_natCast 32 a
theorem zn_ti {x : BitVec 32} {n : Nat} (h : x.toNat = n) (hn : n < 2147483648) : x.toInt = (n : Int) := by
  rw [BitVec.toInt_eq_toNat_of_lt (by omega), h]
theorem zn_and {a b : Nat} (ha : a < 2147483648) (hb : b < 2147483648) : zIandZ (a : Int) (b : Int) = ((a &&& b : Nat) : Int) := by
  show (Int32.ofInt (a : Int) &&& Int32.ofInt (b : Int)).toBitVec.toInt = _
  rw [Int32.toBitVec_and, zn_bv ha, zn_bv hb]
  refine zn_ti ?_ (Nat.lt_of_le_of_lt Nat.and_le_left ha)
  rw [BitVec.toNat_and, BitVec.toNat_ofNat, BitVec.toNat_ofNat, Nat.mod_eq_of_lt (by omega), Nat.mod_eq_of_lt (by omega)]
theorem zn_or {a b : Nat} (ha : a < 2147483648) (hb : b < 2147483648) : zIorZ (a : Int) (b : Int) = ((a ||| b : Nat) : Int) := by
  show (Int32.ofInt (a : Int) ||| Int32.ofInt (b : Int)).toBitVec.toInt = _
  rw [Int32.toBitVec_or, zn_bv ha, zn_bv hb]
  refine zn_ti ?_ (Nat.or_lt_two_pow (n := 31) ha hb)
  rw [BitVec.toNat_or, BitVec.toNat_ofNat, BitVec.toNat_ofNat, Nat.mod_eq_of_lt (by omega), Nat.mod_eq_of_lt (by omega)]
theorem zn_xor {a b : Nat} (ha : a < 2147483648) (hb : b < 2147483648) : zIxorZ (a : Int) (b : Int) = ((a ^^^ b : Nat) : Int) := by
  show (Int32.ofInt (a : Int) ^^^ Int32.ofInt (b : Int)).toBitVec.toInt = _
  rw [Int32.toBitVec_xor, zn_bv ha, zn_bv hb]
  refine zn_ti ?_ (Nat.xor_lt_two_pow (n := 31) ha hb)
  rw [BitVec.toNat_xor, BitVec.toNat_ofNat, BitVec.toNat_ofNat, Nat.mod_eq_of_lt (by omega), Nat.mod_eq_of_lt (by omega)]
theorem zl_bv (a : Nat) : (Int64.ofInt (a : Int)).toBitVec = BitVec.ofNat 64 a := by
  show BitVec.ofInt 64 (a : Int) = _
  exact BitVec.ofInt_natCast 64 a
theorem zl_ti {x : BitVec 64} {n : Nat} (h : x.toNat = n) (hn : n < 9223372036854775808) : x.toInt = (n : Int) := by
  rw [BitVec.toInt_eq_toNat_of_lt (by omega), h]
theorem zl_and {a b : Nat} (ha : a < 9223372036854775808) (hb : b < 9223372036854775808) : zLandZ (a : Int) (b : Int) = ((a &&& b : Nat) : Int) := by
  show (Int64.ofInt (a : Int) &&& Int64.ofInt (b : Int)).toBitVec.toInt = _
  rw [Int64.toBitVec_and, zl_bv, zl_bv]
  refine zl_ti ?_ (Nat.lt_of_le_of_lt Nat.and_le_left ha)
  rw [BitVec.toNat_and, BitVec.toNat_ofNat, BitVec.toNat_ofNat, Nat.mod_eq_of_lt (by omega), Nat.mod_eq_of_lt (by omega)]
theorem zl_or {a b : Nat} (ha : a < 9223372036854775808) (hb : b < 9223372036854775808) : zLorZ (a : Int) (b : Int) = ((a ||| b : Nat) : Int) := by
  show (Int64.ofInt (a : Int) ||| Int64.ofInt (b : Int)).toBitVec.toInt = _
  rw [Int64.toBitVec_or, zl_bv, zl_bv]
  refine zl_ti ?_ (Nat.or_lt_two_pow (n := 63) ha hb)
  rw [BitVec.toNat_or, BitVec.toNat_ofNat, BitVec.toNat_ofNat, Nat.mod_eq_of_lt (by omega), Nat.mod_eq_of_lt (by omega)]
/-- a number not below 0 as a natural one -/
theorem zNat {x : Int} (h : 0 ≤ x) : ∃ n : Nat, x = (n : Int) := ⟨x.toNat, by omega⟩
theorem zA1 {x : Int} (h : 0 ≤ x) (h2 : x < 2147483648) : zIandZ x 1 = x % 2 := by
  obtain ⟨n, rfl⟩ := zNat h
  have := zn_and (a := n) (b := 1) (by omega) (by decide)
  rw [Nat.and_one_is_mod] at this
  rw [show (1 : Int) = ((1 : Nat) : Int) from rfl, this]
  omega
theorem zA31 {x : Int} (h : 0 ≤ x) (h2 : x < 2147483648) : zIandZ x 31 = x % 32 := by
  obtain ⟨n, rfl⟩ := zNat h
  have := zn_and (a := n) (b := 31) (by omega) (by decide)
  rw [show (31 : Nat) = 2 ^ 5 - 1 from rfl, Nat.and_two_pow_sub_one_eq_mod] at this
  rw [show (31 : Int) = ((2 ^ 5 - 1 : Nat) : Int) from rfl, this]
  omega
theorem zL31 {x : Int} (h : 0 ≤ x) (h2 : x < 9223372036854775808) : zLandZ x 31 = x % 32 := by
  obtain ⟨n, rfl⟩ := zNat h
  have := zl_and (a := n) (b := 31) (by omega) (by decide)
  rw [show (31 : Nat) = 2 ^ 5 - 1 from rfl, Nat.and_two_pow_sub_one_eq_mod] at this
  rw [show (31 : Int) = ((2 ^ 5 - 1 : Nat) : Int) from rfl, this]
  omega
theorem zA1023 (x : Int) : 0 ≤ zIandZ x 1023 ∧ zIandZ x 1023 < 1024 := by
  have hb : (Int32.ofInt (1023 : Int)).toBitVec = BitVec.ofNat 32 1023 := zn_bv (a := 1023) (by decide)
  have hle : ((Int32.ofInt x).toBitVec &&& BitVec.ofNat 32 1023).toNat ≤ 1023 := by
    rw [BitVec.toNat_and]
    exact Nat.and_le_right
  have e : zIandZ x 1023 = ((((Int32.ofInt x).toBitVec &&& BitVec.ofNat 32 1023).toNat : Nat) : Int) := by
    show (Int32.ofInt x &&& Int32.ofInt (1023 : Int)).toBitVec.toInt = _
    rw [Int32.toBitVec_and, hb]
    exact zn_ti rfl (by omega)
  omega
theorem zAm2 {x : Int} (h : 0 ≤ x) (h2 : x < 2147483648) : zIandZ x (-2) = 2 * (x / 2) := by
  obtain ⟨n, rfl⟩ := zNat h
  have hn : n < 2147483648 := by omega
  have e : (n &&& 4294967294) = 2 * (n / 2) := by
    have h1 : (n &&& 4294967294) / 2 = n / 2 := by
      rw [Nat.and_div_two, show (4294967294 : Nat) / 2 = 2 ^ 31 - 1 from rfl, Nat.and_two_pow_sub_one_eq_mod]
      omega
    have h2 : (n &&& 4294967294) % 2 = 0 := by
      have := Nat.and_mod_two_pow (a := n) (b := 4294967294) (n := 1)
      rw [show (2 : Nat) ^ 1 = 2 from rfl] at this
      rw [this]
      rw [show 4294967294 % 2 = 0 from rfl, Nat.and_zero]
    omega
  show (Int32.ofInt (n : Int) &&& Int32.ofInt (-2)).toBitVec.toInt = _
  rw [Int32.toBitVec_and, zn_bv hn, show (Int32.ofInt (-2)).toBitVec = BitVec.ofNat 32 4294967294 from by decide]
  rw [zn_ti (n := 2 * (n / 2)) ?_ (by omega)]
  · omega
  · rw [BitVec.toNat_and, BitVec.toNat_ofNat, BitVec.toNat_ofNat, Nat.mod_eq_of_lt (by omega), show 4294967294 % 2 ^ 32 = 4294967294 from rfl, e]
theorem zX1 {x : Int} (h : 0 ≤ x) (h2 : x < 2147483648) : zIxorZ x 1 = 2 * (x / 2) + (1 - x % 2) := by
  obtain ⟨n, rfl⟩ := zNat h
  have h1 := zn_xor (a := n) (b := 1) (by omega) (by decide)
  have d : (n ^^^ 1) / 2 = n / 2 := by
    rw [Nat.xor_div_two, show 1 / 2 = 0 from rfl, Nat.xor_zero]
  have m : (n ^^^ 1) % 2 = 1 - n % 2 := by
    have := Nat.xor_mod_two_pow (a := n) (b := 1) (n := 1)
    rw [show (2 : Nat) ^ 1 = 2 from rfl] at this
    rw [this]
    rcases Nat.mod_two_eq_zero_or_one n with c | c <;> rw [c] <;> rfl
  rw [show (1 : Int) = ((1 : Nat) : Int) from rfl, h1]
  omega
theorem zO1 {x y : Int} (h : 0 ≤ x) (h2 : x < 2147483648) (hy : y = 0 ∨ y = 1) : zIorZ x y = 2 * (x / 2) + (if x % 2 + y > 0 then 1 else 0) := by
  obtain ⟨n, rfl⟩ := zNat h
  have hy' : ∃ k : Nat, y = (k : Int) ∧ (k = 0 ∨ k = 1) := by
    rcases hy with c | c
    · exact ⟨0, c, .inl rfl⟩
    · exact ⟨1, c, .inr rfl⟩
  obtain ⟨k, rfl, hk⟩ := hy'
  have h1 := zn_or (a := n) (b := k) (by omega) (by omega)
  have d : (n ||| k) / 2 = n / 2 := by
    rw [Nat.or_div_two, show k / 2 = 0 by omega, Nat.or_zero]
  have m : (n ||| k) % 2 = if n % 2 + k > 0 then 1 else 0 := by
    have := Nat.or_mod_two_pow (a := n) (b := k) (n := 1)
    rw [show (2 : Nat) ^ 1 = 2 from rfl] at this
    rw [this]
    rcases hk with e | e <;> subst e <;> rcases Nat.mod_two_eq_zero_or_one n with c | c <;> rw [c] <;> rfl
  rw [h1]
  by_cases c : n % 2 + k > 0
  · rw [if_pos c] at m
    rw [if_pos (by omega)]
    omega
  · rw [if_neg c] at m
    rw [if_neg (by omega)]
    omega
/-- a high part and a low one -/
theorem zOp {q b i : Nat} (hb : b < 2 ^ i) (h : 2 ^ i * q + b < 2147483648) : zIorZ ((2 ^ i * q : Nat) : Int) (b : Int) = ((2 ^ i * q + b : Nat) : Int) := by
  rw [zn_or (by omega) (by omega), Nat.two_pow_add_eq_or_of_lt hb]
theorem zOq {q b i : Nat} (hb : b < 2 ^ i) (h : 2 ^ i * q + b < 2147483648) : zIorZ (b : Int) ((2 ^ i * q : Nat) : Int) = ((2 ^ i * q + b : Nat) : Int) := by
  rw [zn_or (by omega) (by omega), Nat.or_comm, Nat.two_pow_add_eq_or_of_lt hb]
theorem zLp {q b i : Nat} (hb : b < 2 ^ i) (h : 2 ^ i * q + b < 9223372036854775808) : zLorZ ((2 ^ i * q : Nat) : Int) (b : Int) = ((2 ^ i * q + b : Nat) : Int) := by
  rw [zl_or (by omega) (by omega), Nat.two_pow_add_eq_or_of_lt hb]
