/-! Tokens in the reference. -/
/-- the reference's bytes -/
abbrev TPR (V : Nat → Nat → Int) (b : Nat → Int) (N : Nat) : Prop := V 93 7 = N ∧ N ≤ 300 ∧ ∀ k, k < N → V 100 k = b k ∧ 0 ≤ b k ∧ b k ≤ 255
/-- a byte, or -1 behind the end -/
def gby (b : Nat → Int) (N p : Nat) : Int := if N ≤ p then -1 else b p
theorem gby_rg {V : Nat → Nat → Int} {b : Nat → Int} {N p : Nat} (h : TPR V b N) : -1 ≤ gby b N p ∧ gby b N p ≤ 255 := by
  unfold gby
  split
  · omega
  · have := h.2.2 p (by omega); omega
theorem gby_t {b : Nat → Int} {N p : Nat} {f : Int → Bool} (h : f (-1) = false) : f (gby b N p) = true ↔ p < N ∧ f (b p) = true := by
  unfold gby
  split
  · rw [h]; exact ⟨fun h => (by cases h), fun h => by omega⟩
  · exact ⟨fun h => ⟨by omega, h⟩, fun h => h.2⟩
section LR
variable {L d : Nat} {xs : Nat → Int32} {V : Nat → Nat → Int} {J : Nat → Nat → Int64} {tg : Option Nat} {b : Nat → Int} {N : Nat}
theorem m_210 (hT : TPR V b N) {p : Nat} (hp : p ≤ 600) : Runs (GW L xs) (d) 210 (0, [.ref 93, (Value.int (Int32.ofInt (p)))], [], zS (eV (V)) J tg) (some (Value.int (Int32.ofInt (gby b N p))), zS (eV (V)) J tg) := by
  obtain ⟨t1, t2, t3⟩ := hT
  apply sg_210
  unfold gby
  by_cases c : N ≤ p
  · rw [if_pos c]
    simp (disch := omega) only [t1, eV_at, eV_up, o_lit2, o_add, o_sub, o_mul, o_neg, o_div, o_nat, ix_t, o_lt, o_le, o_eq, o_bi0, o_bi1, o_bib, em_t, o_neg1, o_shl, o_tb, o_tb0, o_tt, o_and, o_xor, o_or, o_max, o_min, an_tb, and_true, true_and, not_true, not_false, if_true, if_false, tn_add, tn_mul, Int.reduceToNat, tn_cast, md_x]
    rw [if_pos (by omega)] <;> first | rfl | trivial
  · rw [if_neg c]
    have e := (t3 p (by omega)).1
    simp (disch := omega) only [t1, e, eV_at, eV_up, o_lit2, o_add, o_sub, o_mul, o_neg, o_div, o_nat, ix_t, o_lt, o_le, o_eq, o_bi0, o_bi1, o_bib, em_t, o_neg1, o_shl, o_tb, o_tb0, o_tt, o_and, o_xor, o_or, o_max, o_min, an_tb, and_true, true_and, not_true, not_false, if_true, if_false, tn_add, tn_mul, Int.reduceToNat, tn_cast, md_x]
    rw [if_neg (by omega)] <;> first | rfl | trivial
theorem m_212 {a : Int} (h : -1 ≤ a ∧ a ≤ 255) : Runs (GW L xs) (d + 1) 212 (0, [(Value.int (Int32.ofInt (a)))], [], zS (eV (V)) J tg) (some (Value.int (Int32.ofInt (bi (isD a = true)))), zS (eV (V)) J tg) := by
  have e0 : isD a = true ↔ 48 ≤ a ∧ a ≤ 57 := by unfold isD; rw [decide_eq_true_iff]
  have e : bi (isD a = true) = bi (48 ≤ a ∧ a ≤ 57) := by
    by_cases c : 48 ≤ a ∧ a ≤ 57
    · rw [← bi_t c, ← bi_t (e0.mpr c)]
    · rw [← bi_f c, ← bi_f (fun h => c (e0.mp h))]
  rw [e]
  apply sg_212
  refine ⟨_, _, _, k_177 (a := 48) (b := 57) (by omega) (by omega) (by omega), ?_, rfl⟩
  by_cases c : 48 ≤ a ∧ a ≤ 57
  · rw [← bi_t c]; exact Or.inr rfl
  · rw [← bi_f c]; exact Or.inl rfl
theorem m_211 {a : Int} (h : -1 ≤ a ∧ a ≤ 255) : Runs (GW L xs) (d + 1) 211 (0, [(Value.int (Int32.ofInt (a)))], [], zS (eV (V)) J tg) (some (Value.int (Int32.ofInt (bi (isL a = true)))), zS (eV (V)) J tg) := by
  have e : isL a = true ↔ (97 ≤ a ∧ a ≤ 122) ∨ (65 ≤ a ∧ a ≤ 90) := by unfold isL; rw [decide_eq_true_iff]
  apply sg_211
  refine ⟨_, _, _, k_177 (a := 97) (b := 122) (by omega) (by omega) (by omega), ?_⟩
  by_cases c : 97 ≤ a ∧ a ≤ 122
  · rw [if_neg (b0_f c)]
    rw [← bi_t (e.mpr (Or.inl c))]; rfl
  · rw [if_pos (b0_t c)]
    refine ⟨_, _, _, k_177 (a := 65) (b := 90) (by omega) (by omega) (by omega), ?_⟩
    by_cases c2 : 65 ≤ a ∧ a ≤ 90
    · rw [if_neg (b0_f c2)]
      rw [← bi_t (e.mpr (Or.inr c2))]; rfl
    · rw [if_pos (b0_t c2)]
      rw [← bi_f (fun h => by have := e.mp h; omega)]; rfl
/-- the reference's number: it stops growing -/
def nmr (b : Nat → Int) (p : Nat) : Nat → Int
  | 0 => 0
  | k + 1 => if 100000 ≤ nmr b p k then nmr b p k else 10 * nmr b p k + b (p + k) - 48
theorem nmr_ch {b : Nat → Int} {p : Nat} : ∀ k, (∀ i, p ≤ i → i < p + k → isD (b i) = true) → 0 ≤ nmr b p k ∧ nmr b p k ≤ 1000000 ∧ (nmr b p k < 100000 → nmr b p k = numv b p k) ∧ (100000 ≤ nmr b p k → 100000 ≤ numv b p k)
  | 0, _ => by
    show (0 : Int) ≤ 0 ∧ (0 : Int) ≤ 1000000 ∧ ((0 : Int) < 100000 → (0 : Int) = 0) ∧ ((100000 : Int) ≤ 0 → (100000 : Int) ≤ 0)
    omega
  | k + 1, h => by
    obtain ⟨i1, i2, i3, i4⟩ := nmr_ch k (fun i h1 h2 => h i h1 (by omega))
    have hd := h (p + k) (by omega) (by omega)
    unfold isD at hd
    rw [decide_eq_true_iff] at hd
    have hs : numv b p (k + 1) = numv b p k * 10 + (b (p + k) - 48) := rfl
    have hn : nmr b p (k + 1) = if 100000 ≤ nmr b p k then nmr b p k else 10 * nmr b p k + b (p + k) - 48 := rfl
    rw [hn, hs]
    split
    · rename_i c
      have := i4 c
      omega
    · rename_i c
      have := i3 (by omega)
      omega
end LR
