/-! Int32 as whole numbers. -/
theorem o_add (a b : Int) : Int32.ofInt a + Int32.ofInt b = Int32.ofInt (a + b) := (Int32.ofInt_add a b).symm
theorem o_sub (a b : Int) : Int32.ofInt a - Int32.ofInt b = Int32.ofInt (a - b) := (Int32.ofInt_sub a b).symm
theorem o_mul (a b : Int) : Int32.ofInt a * Int32.ofInt b = Int32.ofInt (a * b) := (Int32.ofInt_mul a b).symm
theorem o_neg (a : Int) : - Int32.ofInt a = Int32.ofInt (- a) := (Int32.ofInt_neg a).symm
theorem ix_t {a : Int} {n m : Nat} (h : 0 ≤ a ∧ m < n) : (¬ (a < 0 ∨ n ≤ m)) = True := by simp; omega
theorem o_lit (n : Nat) : (@OfNat.ofNat Int32 n _) = Int32.ofInt (n : Int) := rfl
theorem o_lit2 (n : Nat) : (@OfNat.ofNat Int32 n _) = Int32.ofInt (@OfNat.ofNat Int n _) := rfl
theorem o_lt {a b : Int} (h1 : -2147483648 ≤ a ∧ a < 2147483648) (h2 : -2147483648 ≤ b ∧ b < 2147483648) : (Int32.ofInt a < Int32.ofInt b) = (a < b) := propext (Int32.ofInt_lt_iff_lt (by exact h1.1) (by have := h1.2; show a ≤ 2147483647; omega) h2.1 (by have := h2.2; show b ≤ 2147483647; omega))
theorem o_le {a b : Int} (h1 : -2147483648 ≤ a ∧ a < 2147483648) (h2 : -2147483648 ≤ b ∧ b < 2147483648) : (Int32.ofInt a ≤ Int32.ofInt b) = (a ≤ b) := propext (Int32.ofInt_le_iff_le (by exact h1.1) (by have := h1.2; show a ≤ 2147483647; omega) h2.1 (by have := h2.2; show b ≤ 2147483647; omega))
theorem o_int {a : Int} (h1 : -2147483648 ≤ a ∧ a < 2147483648) : (Int32.ofInt a).toInt = a := Int32.toInt_ofInt_of_le h1.1 h1.2
theorem o_eq {a b : Int} (h1 : -2147483648 ≤ a ∧ a < 2147483648) (h2 : -2147483648 ≤ b ∧ b < 2147483648) : (Int32.ofInt a = Int32.ofInt b) = (a = b) := propext ⟨fun h => by have := congrArg Int32.toInt h; rwa [o_int h1, o_int h2] at this, fun h => h ▸ rfl⟩
theorem o_nat {a : Int} (h1 : 0 ≤ a ∧ a < 2147483648) : (Int32.ofInt a).toNatClampNeg = a.toNat := by
  have : (Int32.ofInt a).toInt = a := o_int ⟨by omega, h1.2⟩
  show (Int32.ofInt a).toInt.toNat = _
  rw [this]
theorem o_ix {a : Int} {n : Nat} (h1 : 0 ≤ a ∧ a < n ∧ n < 2147483648) : (¬ (Int32.ofInt a < 0 ∨ n ≤ (Int32.ofInt a).toNatClampNeg)) = True := by
  rw [o_nat (by omega), show (0 : Int32) = Int32.ofInt 0 from rfl, o_lt (by omega) (by omega)]
  simp; omega
theorem o_div {a b : Int} (h1 : 0 ≤ a ∧ a < 2147483648) (h2 : 0 < b ∧ b < 2147483648) : Int32.ofInt a / Int32.ofInt b = Int32.ofInt (a / b) := by
  rw [← Int32.ofInt_tdiv (by show -2147483648 ≤ a; omega) (by show a ≤ 2147483647; omega) (by show -2147483648 ≤ b; omega) (by show b ≤ 2147483647; omega), Int.tdiv_eq_ediv_of_nonneg h1.1]
theorem o_mod {a b : Int} (h1 : 0 ≤ a ∧ a < 2147483648) (h2 : 0 < b ∧ b < 2147483648) : Int32.ofInt a % Int32.ofInt b = Int32.ofInt (a % b) := by
  rw [← Int32.ofInt_tmod (by show -2147483648 ≤ a; omega) (by show a ≤ 2147483647; omega) (by show -2147483648 ≤ b; omega) (by show b ≤ 2147483647; omega), Int.tmod_eq_emod_of_nonneg h1.1]
theorem o_bv (n : Nat) : Int32.ofInt (n : Int) = Int32.ofBitVec (BitVec.ofNat 32 n) := by
  show Int32.ofBitVec (BitVec.ofInt 32 n) = _
  rw [BitVec.ofInt_natCast]
theorem o_or (a b : Nat) : Int32.ofInt (a : Int) ||| Int32.ofInt (b : Int) = Int32.ofInt ((a ||| b : Nat) : Int) := by
  rw [o_bv, o_bv, o_bv, BitVec.ofNat_or]; rfl
theorem o_and (a b : Nat) : Int32.ofInt (a : Int) &&& Int32.ofInt (b : Int) = Int32.ofInt ((a &&& b : Nat) : Int) := by
  rw [o_bv, o_bv, o_bv, BitVec.ofNat_and]; rfl
theorem o_xor (a b : Nat) : Int32.ofInt (a : Int) ^^^ Int32.ofInt (b : Int) = Int32.ofInt ((a ^^^ b : Nat) : Int) := by
  rw [o_bv, o_bv, o_bv, BitVec.ofNat_xor]; rfl
theorem o_k31 {k : Nat} (h : k < 32) : Int32.ofInt (k : Int) &&& Int32.ofInt 31 = Int32.ofInt (k : Int) := by
  rw [show Int32.ofInt 31 = Int32.ofInt ((31 : Nat) : Int) from rfl, o_and]
  congr 2
  rw [show 31 = 2 ^ 5 - 1 from rfl, Nat.and_two_pow_sub_one_eq_mod]
  omega
theorem o_sh {k : Nat} (h : k < 32) : (Int32.ofInt (k : Int)).toBitVec.smod 32 = BitVec.ofNat 32 k := by
  rw [o_bv]
  show (BitVec.ofNat 32 k).smod 32 = _
  rw [BitVec.smod_eq]
  have h1 : (BitVec.ofNat 32 k).msb = false := by
    rw [BitVec.msb_eq_decide]; simp; omega
  have h2 : (32 : BitVec 32).msb = false := by decide
  rw [h1, h2]
  simp only
  apply BitVec.eq_of_toNat_eq
  show ((BitVec.ofNat 32 k) % 32).toNat = _
  rw [BitVec.toNat_umod]
  simp
  omega
theorem o_shr {a : Int} {k : Nat} (h1 : -2147483648 ≤ a ∧ a < 2147483648) (h : k < 32) : Int32.ofInt a >>> (Int32.ofInt (k : Int) &&& Int32.ofInt 31) = Int32.ofInt (a / 2 ^ k) := by
  rw [o_k31 h]
  have h0 : -2147483648 ≤ a / 2 ^ k ∧ a / 2 ^ k < 2147483648 := by
    have hp : (1 : Int) ≤ 2 ^ k := by have := Int.pow_pos (n := 2) (m := k) (by omega); omega
    constructor
    · apply Int.le_ediv_of_mul_le (by omega)
      have : (-2147483648 : Int) * 2 ^ k ≤ -2147483648 * 1 := Int.mul_le_mul_of_nonpos_left (by omega) hp
      omega
    · apply Int.ediv_lt_of_lt_mul (by omega)
      have : (2147483648 : Int) * 1 ≤ 2147483648 * 2 ^ k := Int.mul_le_mul_of_nonneg_left hp (by omega)
      omega
  apply Int32.toInt_inj.mp
  rw [o_int h0]
  show (Int32.ofInt a >>> Int32.ofInt (k : Int)).toBitVec.toInt = _
  rw [Int32.toBitVec_shiftRight, BitVec.sshiftRight_eq', BitVec.toInt_sshiftRight, o_sh h, BitVec.toNat_ofNat, Nat.mod_eq_of_lt (by omega)]
  show (Int32.ofInt a).toInt >>> k = _
  rw [o_int h1, Int.shiftRight_eq_div_pow]
  norm_cast
theorem o_b1 (a : Nat) : Int32.ofInt (a : Int) &&& Int32.ofInt 1 = Int32.ofInt ((a % 2 : Nat) : Int) := by
  rw [show Int32.ofInt 1 = Int32.ofInt ((1 : Nat) : Int) from rfl, o_and]
  congr 2
  exact Nat.and_one_is_mod a
theorem o_tb {s k : Nat} (hs : s < 2147483648) (h : k < 32) : (Int32.ofInt (s : Int) >>> (Int32.ofInt (k : Int) &&& Int32.ofInt 31)) &&& Int32.ofInt 1 = Int32.ofInt (if s.testBit k then 1 else 0) := by
  rw [o_shr (by omega) h, show ((s : Int) / 2 ^ k) = ((s / 2 ^ k : Nat) : Int) by norm_cast, o_b1]
  congr 1
  rw [Nat.testBit_eq_decide_div_mod_eq]
  have := Nat.mod_lt (s / 2 ^ k) (show 2 > 0 by omega)
  by_cases h : s / 2 ^ k % 2 = 1
  · simp [h]
  · have : s / 2 ^ k % 2 = 0 := by omega
    simp [this]
theorem o_shl {k : Nat} (h : k < 32) : Int32.ofInt 1 <<< (Int32.ofInt (k : Int) &&& Int32.ofInt 31) = Int32.ofInt (2 ^ k : Nat) := by
  rw [o_k31 h]
  apply Int32.toBitVec_inj.mp
  rw [Int32.toBitVec_shiftLeft, o_sh h, o_bv]
  apply BitVec.eq_of_toNat_eq
  show ((1 : BitVec 32) <<< (BitVec.ofNat 32 k).toNat).toNat = _
  rw [BitVec.toNat_shiftLeft, BitVec.toNat_ofNat, Nat.mod_eq_of_lt (show k < 2 ^ 32 by omega)]
  show 1 <<< k % 2 ^ 32 = 2 ^ k % 2 ^ 32
  rw [Nat.one_shiftLeft]
theorem o_tt {s k : Nat} : ((if s.testBit k = true then (1 : Int) else 0) = 0) = (s.testBit k = false) := by
  cases s.testBit k <;> simp
theorem cast_pred {x : Nat} (h : 0 < x) : ((x - 1 : Nat) : Int) = (x : Int) - 1 := by omega
theorem o_tb0 {s k : Nat} : (Int32.ofInt (if s.testBit k = true then 1 else 0) = Int32.ofInt 0) = (s.testBit k = false) := by
  cases s.testBit k
  · simp
  · simp only [if_true]
    exact propext ⟨fun h => absurd h (by decide), fun h => Bool.noConfusion h⟩
