/-! Words of the reference: bytes packed into a long. -/
def pkN (b : Nat → Int) (f : Nat) : Nat → Nat
  | 0 => 0
  | k + 1 => pkN b f k * 256 + (b (f + k)).toNat
theorem pkN_s {b : Nat → Int} {f k : Nat} : pkN b f (k + 1) = pkN b f k * 256 + (b (f + k)).toNat := rfl
theorem pkN_lt {b : Nat → Int} {f : Nat} : ∀ k, (∀ i, i < k → 0 ≤ b (f + i) ∧ b (f + i) ≤ 255) → pkN b f k < 256 ^ k
  | 0, _ => by show 0 < 1; decide
  | k + 1, h => by
    have ih := pkN_lt k (fun i hi => h i (by omega))
    have := h k (by omega)
    rw [pkN_s, Nat.pow_succ]
    omega
theorem pkN_inj {b c : Nat → Int} {f g : Nat} : ∀ n m, (∀ i, i < n → 1 ≤ b (f + i) ∧ b (f + i) ≤ 255) → (∀ i, i < m → 1 ≤ c (g + i) ∧ c (g + i) ≤ 255) → (pkN b f n = pkN c g m ↔ n = m ∧ ∀ i, i < n → b (f + i) = c (g + i))
  | 0, 0, _, _ => ⟨fun _ => ⟨rfl, fun i h => by omega⟩, fun _ => rfl⟩
  | 0, m + 1, _, hc => by
    have := hc m (by omega)
    rw [pkN_s]
    exact ⟨fun e => by have e : 0 = pkN c g m * 256 + (c (g + m)).toNat := e; omega, fun e => by omega⟩
  | n + 1, 0, hb, _ => by
    have := hb n (by omega)
    rw [pkN_s]
    exact ⟨fun e => by have e : pkN b f n * 256 + (b (f + n)).toNat = 0 := e; omega, fun e => by omega⟩
  | n + 1, m + 1, hb, hc => by
    have ih := pkN_inj (b := b) (c := c) (f := f) (g := g) n m (fun i hi => hb i (by omega)) (fun i hi => hc i (by omega))
    have h1 := hb n (by omega)
    have h2 := hc m (by omega)
    rw [pkN_s, pkN_s]
    constructor
    · intro e
      have e1 : pkN b f n = pkN c g m := by omega
      obtain ⟨e2, e3⟩ := ih.mp e1
      subst e2
      refine ⟨rfl, fun i hi => ?_⟩
      by_cases q : i = n
      · subst q; omega
      · exact e3 i (by omega)
    · rintro ⟨e2, e3⟩
      have e2 : n = m := by omega
      subst e2
      rw [ih.mpr ⟨rfl, fun i hi => e3 i (by omega)⟩, e3 n (by omega)]
theorem sh8 : (Int32.toInt64 8 &&& 63 : Int64) = 8 := by decide
theorem pk_st {n m : Nat} (hm : m < 256) : ((Int64.ofNat n) <<< (Int32.toInt64 8 &&& 63)) ||| Int64.ofNat m = Int64.ofNat (n * 256 + m) := by
  rw [sh8]
  have e : n * 256 + m = n <<< 8 ||| m := by
    rw [← Nat.shiftLeft_add_eq_or_of_lt (show m < 2 ^ 8 from hm), Nat.shiftLeft_eq]
  rw [e]
  apply Int64.toBitVec_inj.mp
  apply BitVec.eq_of_getLsbD_eq
  intro i hi
  have e1 : (Int64.ofNat n <<< (8 : Int64)).toBitVec = (BitVec.ofNat 64 n) <<< 8 := rfl
  have e2 : (Int64.ofNat m).toBitVec = BitVec.ofNat 64 m := rfl
  have e3 : (Int64.ofNat (n <<< 8 ||| m)).toBitVec = BitVec.ofNat 64 (n <<< 8 ||| m) := rfl
  rw [Int64.toBitVec_or, e1, e2, e3, BitVec.getLsbD_or, BitVec.getLsbD_shiftLeft, BitVec.getLsbD_ofNat, BitVec.getLsbD_ofNat, BitVec.getLsbD_ofNat, Nat.testBit_or, Nat.testBit_shiftLeft]
  by_cases c : i < 8
  · rw [decide_eq_true hi, decide_eq_true c, decide_eq_false (by omega : ¬ i ≥ 8)]
    simp
  · rw [decide_eq_true hi, decide_eq_false c, decide_eq_true (by omega : i ≥ 8), decide_eq_true (by omega : i - 8 < 64)]
    simp
theorem i64_inj {n m : Nat} (hn : n < 2 ^ 63) (hm : m < 2 ^ 63) : Int64.ofNat n = Int64.ofNat m ↔ n = m := by
  constructor
  · intro h
    have := congrArg Int64.toInt h
    rw [Int64.toInt_ofNat_of_lt hn, Int64.toInt_ofNat_of_lt hm] at this
    omega
  · intro h; rw [h]
