theorem zR32_iff {x : Int} : zR32 x = true ↔ -2147483648 ≤ x ∧ x ≤ 2147483647 := by simp [zR32]
theorem zR64_iff {x : Int} : zR64 x = true ↔ -9223372036854775808 ≤ x ∧ x ≤ 9223372036854775807 := by simp [zR64]
theorem zSm_iff {i n : Int} : zSm i n = true ↔ 0 ≤ i ∧ i < n := by simp [zSm]
theorem zDv_iff {i n : Int} : zDv i n = true ↔ 0 ≤ i ∧ 0 < n := by simp [zDv]
theorem zBo_iff {i : Int} : zBo i = true ↔ i = 0 ∨ i = 1 := by simp [zBo]
theorem zBy_iff {i : Int} : zBy i = true ↔ -128 ≤ i ∧ i ≤ 127 := by simp [zBy]
theorem zCo_iff {a b c d e : Int} : zCo a b c d e = true ↔ 0 ≤ a ∧ 0 ≤ b ∧ 0 ≤ c ∧ a + c ≤ d ∧ b + c ≤ e := by simp [zCo]
theorem zC_iff {c : Bool} {P : Prop} : zC c P ↔ c = true ∧ P := by cases c <;> simp [zC]
theorem zC_i {c : Bool} {P : Prop} (h : c = true) (p : P) : zC c P := by subst h; exact p
theorem zmin32 : Int32.minValue.toInt = -2147483648 := by decide
theorem zmax32 : Int32.maxValue.toInt = 2147483647 := by decide
theorem zmin64 : Int64.minValue.toInt = -9223372036854775808 := by decide
theorem zmax64 : Int64.maxValue.toInt = 9223372036854775807 := by decide
theorem z32 {x : Int} (h : zR32 x = true) : (Int32.ofInt x).toInt = x := by
  have := zR32_iff.mp h
  exact Int32.toInt_ofInt_of_le (by omega) (by omega)
theorem z64 {x : Int} (h : zR64 x = true) : (Int64.ofInt x).toInt = x := by
  have := zR64_iff.mp h
  exact Int64.toInt_ofInt_of_le (by omega) (by omega)
theorem z32_eq {x y : Int} (hx : zR32 x = true) (hy : zR32 y = true) : Int32.ofInt x = Int32.ofInt y ↔ x = y := by
  constructor
  · intro h
    have := congrArg Int32.toInt h
    rwa [z32 hx, z32 hy] at this
  · rintro rfl; rfl
theorem z32_lt {x y : Int} (hx : zR32 x = true) (hy : zR32 y = true) : Int32.ofInt x < Int32.ofInt y ↔ x < y := by rw [Int32.lt_iff_toInt_lt, z32 hx, z32 hy]
theorem z32_le {x y : Int} (hx : zR32 x = true) (hy : zR32 y = true) : Int32.ofInt x ≤ Int32.ofInt y ↔ x ≤ y := by rw [Int32.le_iff_toInt_le, z32 hx, z32 hy]
theorem z32_div {x y : Int} (hx : zR32 x = true) (hy : zR32 y = true) (h : zDv x y = true) : Int32.ofInt x / Int32.ofInt y = Int32.ofInt (x / y) := by
  have h1 := zR32_iff.mp hx; have h2 := zR32_iff.mp hy; have h3 := zDv_iff.mp h
  rw [← Int.tdiv_eq_ediv_of_nonneg h3.1]
  exact (Int32.ofInt_tdiv (by rw [zmin32]; omega) (by rw [zmax32]; omega) (by rw [zmin32]; omega) (by rw [zmax32]; omega)).symm
theorem z32_mod {x y : Int} (hx : zR32 x = true) (hy : zR32 y = true) (h : zDv x y = true) : Int32.ofInt x - Int32.ofInt x / Int32.ofInt y * Int32.ofInt y = Int32.ofInt (x % y) := by
  rw [z32_div hx hy h, ← Int32.ofInt_mul, ← Int32.ofInt_sub, Int.emod_def, Int.mul_comm y]
theorem z64_div {x y : Int} (hx : zR64 x = true) (hy : zR64 y = true) (h : zDv x y = true) : Int64.ofInt x / Int64.ofInt y = Int64.ofInt (x / y) := by
  have h1 := zR64_iff.mp hx; have h2 := zR64_iff.mp hy; have h3 := zDv_iff.mp h
  rw [← Int.tdiv_eq_ediv_of_nonneg h3.1]
  exact (Int64.ofInt_tdiv (by rw [zmin64]; omega) (by rw [zmax64]; omega) (by rw [zmin64]; omega) (by rw [zmax64]; omega)).symm
theorem z64_mod {x y : Int} (hx : zR64 x = true) (hy : zR64 y = true) (h : zDv x y = true) : Int64.ofInt x - Int64.ofInt x / Int64.ofInt y * Int64.ofInt y = Int64.ofInt (x % y) := by
  rw [z64_div hx hy h, ← Int64.ofInt_mul, ← Int64.ofInt_sub, Int.emod_def, Int.mul_comm y]
theorem z32_nz {x y : Int} (hy : zR32 y = true) (h : zDv x y = true) : ¬ Int32.ofInt y = 0 := by
  intro e
  have h3 := zDv_iff.mp h
  have := (z32_eq (y := 0) hy (by decide)).mp e
  omega
theorem z64_nz {x y : Int} (hy : zR64 y = true) (h : zDv x y = true) : ¬ Int64.ofInt y = 0 := by
  intro e
  have h3 := zDv_iff.mp h
  have h4 := congrArg Int64.toInt e
  rw [z64 hy] at h4
  have : (0 : Int64).toInt = 0 := by decide
  omega
theorem zi2l {x : Int} (h : zR32 x = true) : (Int32.ofInt x).toInt64 = Int64.ofInt x := by
  have h1 := zR32_iff.mp h
  exact Int32.toInt64_ofInt (by rw [zmin32]; omega) (by rw [zmax32]; omega)
theorem zl2i (x : Int) : (Int64.ofInt x).toInt32 = Int32.ofInt x := Int64.toInt32_ofInt
theorem zi2b (x : Int) : (Int32.ofInt x).toInt8.toInt32 = Int32.ofInt (zB8 x) := by
  rw [Int32.toInt8_ofInt, ← Int32.ofInt_int8ToInt, Int8.toInt_ofInt]
  congr 1
  unfold zB8 Int8.size
  rw [Int.bmod_def]
  split <;> omega
theorem zlcmp {x y : Int} (hx : zR64 x = true) (hy : zR64 y = true) : lg_cmp (Int64.ofInt x) (Int64.ofInt y) = Int32.ofInt (zLcmp x y) := by
  unfold lg_cmp zLcmp
  have e : Int64.ofInt x = Int64.ofInt y ↔ x = y := by
    constructor
    · intro h
      have := congrArg Int64.toInt h
      rwa [z64 hx, z64 hy] at this
    · rintro rfl; rfl
  have g : Int64.ofInt x > Int64.ofInt y ↔ y < x := by
    show Int64.ofInt y < Int64.ofInt x ↔ _
    rw [Int64.lt_iff_toInt_lt, z64 hx, z64 hy]
  by_cases h1 : y < x
  · rw [if_pos (g.mpr h1), if_neg (by omega), if_neg (by omega)]; rfl
  · rw [if_neg (fun q => h1 (g.mp q))]
    by_cases h2 : x = y
    · rw [if_pos (e.mpr h2), if_neg (by omega), if_pos h2]; rfl
    · rw [if_neg (fun q => h2 (e.mp q)), if_pos (by omega)]; rfl
theorem ziand (x y : Int) : Int32.ofInt x &&& Int32.ofInt y = Int32.ofInt (zIandZ x y) := by simp [zIandZ]
theorem zior (x y : Int) : Int32.ofInt x ||| Int32.ofInt y = Int32.ofInt (zIorZ x y) := by simp [zIorZ]
theorem zixor (x y : Int) : Int32.ofInt x ^^^ Int32.ofInt y = Int32.ofInt (zIxorZ x y) := by simp [zIxorZ]
theorem zland (x y : Int) : Int64.ofInt x &&& Int64.ofInt y = Int64.ofInt (zLandZ x y) := by simp [zLandZ]
theorem zlor (x y : Int) : Int64.ofInt x ||| Int64.ofInt y = Int64.ofInt (zLorZ x y) := by simp [zLorZ]
theorem zlxor (x y : Int) : Int64.ofInt x ^^^ Int64.ofInt y = Int64.ofInt (zLxorZ x y) := by simp [zLxorZ]
theorem zlushr (x y : Int) : ((Int64.ofInt x).toUInt64 >>> ((Int32.ofInt y).toInt64.toUInt64 &&& Int64.toUInt64 63)).toInt64 = Int64.ofInt (zLushrZ x y) := by
  unfold zLushrZ
  rw [Int64.ofInt_toInt]
theorem zcases32 (P : Int → Prop) (h : ∀ n : Fin 32, P (n.val : Int)) {y : Int} (hy : zSm y 32 = true) : P y := by
  have h1 := zSm_iff.mp hy
  have h2 := h ⟨y.toNat, by omega⟩
  have h3 : ((y.toNat : Nat) : Int) = y := by omega
  rwa [h3] at h2
theorem zcases64 (P : Int → Prop) (h : ∀ n : Fin 64, P (n.val : Int)) {y : Int} (hy : zSm y 64 = true) : P y := by
  have h1 := zSm_iff.mp hy
  have h2 := h ⟨y.toNat, by omega⟩
  have h3 : ((y.toNat : Nat) : Int) = y := by omega
  rwa [h3] at h2
theorem zsh32 : ∀ n : Fin 32, ((Int32.ofInt (n.val : Int) &&& 31).toBitVec.smod 32).toNat = n.val := by decide +kernel
theorem zsh64 : ∀ n : Fin 64, (((Int32.ofInt (n.val : Int)).toInt64 &&& 63).toBitVec.smod 64).toNat = n.val := by decide +kernel
theorem ztp32 : ∀ n : Fin 32, (BitVec.twoPow 32 n.val).toInt = ((2 : Int) ^ n.val).bmod 4294967296 := by decide +kernel
theorem ztp64 : ∀ n : Fin 64, (BitVec.twoPow 64 n.val).toInt = ((2 : Int) ^ n.val).bmod 18446744073709551616 := by decide +kernel
theorem zishl {x y : Int} (hy : zSm y 32 = true) : Int32.ofInt x <<< (Int32.ofInt y &&& 31) = Int32.ofInt (x * 2 ^ y.toNat) := by
  revert hy
  intro hy
  refine zcases32 (fun y => Int32.ofInt x <<< (Int32.ofInt y &&& 31) = Int32.ofInt (x * 2 ^ y.toNat)) (fun n => ?_) hy
  apply Int32.toBitVec.inj
  rw [Int32.toBitVec_shiftLeft, Int32.toBitVec_ofInt, Int32.toBitVec_ofInt]
  rw [BitVec.shiftLeft_eq', zsh32 n]
  rw [BitVec.shiftLeft_eq_mul_twoPow]
  apply BitVec.eq_of_toInt_eq
  rw [BitVec.toInt_mul]
  simp [BitVec.toInt_ofInt, ztp32]
theorem zlshl {x y : Int} (hy : zSm y 64 = true) : Int64.ofInt x <<< ((Int32.ofInt y).toInt64 &&& 63) = Int64.ofInt (x * 2 ^ y.toNat) := by
  refine zcases64 (fun y => Int64.ofInt x <<< ((Int32.ofInt y).toInt64 &&& 63) = Int64.ofInt (x * 2 ^ y.toNat)) (fun n => ?_) hy
  apply Int64.toBitVec.inj
  rw [Int64.toBitVec_shiftLeft, Int64.toBitVec_ofInt, Int64.toBitVec_ofInt]
  rw [BitVec.shiftLeft_eq', zsh64 n]
  rw [BitVec.shiftLeft_eq_mul_twoPow]
  apply BitVec.eq_of_toInt_eq
  rw [BitVec.toInt_mul]
  simp [BitVec.toInt_ofInt, ztp64]
theorem zishr {x y : Int} (hx : zR32 x = true) (hy : zSm y 32 = true) : Int32.ofInt x >>> (Int32.ofInt y &&& 31) = Int32.ofInt (x / 2 ^ y.toNat) := by
  refine zcases32 (fun y => Int32.ofInt x >>> (Int32.ofInt y &&& 31) = Int32.ofInt (x / 2 ^ y.toNat)) (fun n => ?_) hy
  have h1 := zR32_iff.mp hx
  apply Int32.toInt.inj
  have hp : (0 : Int) < 2 ^ (n.val : Int).toNat := Int.pow_pos (by omega)
  have hb : zR32 (x / 2 ^ (n.val : Int).toNat) = true := by
    rw [zR32_iff]
    constructor
    · apply Int.le_ediv_of_mul_le hp
      have : (1 : Int) ≤ 2 ^ (n.val : Int).toNat := hp
      have : (-2147483648) * (2 ^ (n.val : Int).toNat : Int) ≤ (-2147483648) * 1 := Int.mul_le_mul_of_nonpos_left (by omega) this
      omega
    · have h5 : x / 2 ^ (n.val : Int).toNat ≤ 2147483647 / 2 ^ (n.val : Int).toNat := Int.ediv_le_ediv hp h1.2
      have h6 : (2147483647 : Int) / 2 ^ (n.val : Int).toNat ≤ 2147483647 := Int.ediv_le_self _ (by omega)
      omega
  rw [z32 hb]
  show (Int32.toBitVec (Int32.ofInt x >>> (Int32.ofInt (n.val : Int) &&& 31))).toInt = _
  rw [Int32.toBitVec_shiftRight, BitVec.sshiftRight_eq', zsh32 n, BitVec.toInt_sshiftRight, Int.shiftRight_eq_div_pow]
  show (Int32.ofInt x).toInt / _ = _
  rw [z32 hx]
  simp
theorem zlshr {x y : Int} (hx : zR64 x = true) (hy : zSm y 64 = true) : Int64.ofInt x >>> ((Int32.ofInt y).toInt64 &&& 63) = Int64.ofInt (x / 2 ^ y.toNat) := by
  refine zcases64 (fun y => Int64.ofInt x >>> ((Int32.ofInt y).toInt64 &&& 63) = Int64.ofInt (x / 2 ^ y.toNat)) (fun n => ?_) hy
  have h1 := zR64_iff.mp hx
  apply Int64.toInt.inj
  have hp : (0 : Int) < 2 ^ (n.val : Int).toNat := Int.pow_pos (by omega)
  have hb : zR64 (x / 2 ^ (n.val : Int).toNat) = true := by
    rw [zR64_iff]
    constructor
    · apply Int.le_ediv_of_mul_le hp
      have : (1 : Int) ≤ 2 ^ (n.val : Int).toNat := hp
      have : (-9223372036854775808) * (2 ^ (n.val : Int).toNat : Int) ≤ (-9223372036854775808) * 1 := Int.mul_le_mul_of_nonpos_left (by omega) this
      omega
    · have h5 : x / 2 ^ (n.val : Int).toNat ≤ 9223372036854775807 / 2 ^ (n.val : Int).toNat := Int.ediv_le_ediv hp h1.2
      have h6 : (9223372036854775807 : Int) / 2 ^ (n.val : Int).toNat ≤ 9223372036854775807 := Int.ediv_le_self _ (by omega)
      omega
  rw [z64 hb]
  show (Int64.toBitVec (Int64.ofInt x >>> ((Int32.ofInt (n.val : Int)).toInt64 &&& 63))).toInt = _
  rw [Int64.toBitVec_shiftRight, BitVec.sshiftRight_eq', zsh64 n, BitVec.toInt_sshiftRight, Int.shiftRight_eq_div_pow]
  show (Int64.ofInt x).toInt / _ = _
  rw [z64 hx]
  simp
theorem zidx {i : Int} {n : Nat} (h : zSm i (n : Int) = true) (hn : n ≤ 48000) : (Int32.ofInt i).toNatClampNeg = i.toNat ∧ vp_in (Int32.ofInt i) n := by
  have h1 := zSm_iff.mp h
  have hr : zR32 i = true := zR32_iff.mpr ⟨by omega, by omega⟩
  have e : (Int32.ofInt i).toNatClampNeg = i.toNat := by
    show (Int32.ofInt i).toInt.toNat = i.toNat
    rw [z32 hr]
  refine ⟨e, fun q => ?_⟩
  rcases q with q | q
  · have := (z32_lt (y := 0) hr (by decide)).mp q
    omega
  · omega
