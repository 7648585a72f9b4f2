/-! The small methods. -/
theorem k_164 {L d : Nat} {xs : Nat → Int32} {V : Nat → Nat → Int} {J : Nat → Nat → Int64} {tg : Option Nat} {v a b : Int} (h1 : (-2147483648 ≤ v ∧ v < 2147483648)) (h2 : (-2147483648 ≤ a ∧ a < 2147483648)) (h3 : (-2147483648 ≤ b ∧ b < 2147483648)) : Runs (GW L xs) (d) 164 (0, [(Value.int (Int32.ofInt (v))), (Value.int (Int32.ofInt (a))), (Value.int (Int32.ofInt (b)))], [], zS (eV (V)) J tg) (some (Value.int (Int32.ofInt (bi (a ≤ v ∧ v ≤ b)))), zS (eV (V)) J tg) := by
  refine sg_164 _ _ _ _ _ _ ?_
  simp (disch := omega) only [eV_at, eV_up, o_lit2, o_add, o_sub, o_mul, o_neg, o_div, o_nat, ix_t, o_lt, o_le, o_eq, o_bi0, o_bi1, o_bib, em_t, o_neg1, o_shl, o_tb, o_tb0, o_tt, o_and, o_xor, o_or, o_max, o_min, an_tb, and_true, true_and, not_true, not_false, if_true, if_false, tn_add, tn_mul, Int.reduceToNat, tn_cast, md_x]
  split
  · first | exact leafI (bi_t (by omega)).symm | exact leafI (bi_f (by omega)).symm
  · split <;> first | exact leafI (bi_t (by omega)).symm | exact leafI (bi_f (by omega)).symm
theorem k_177 {L d : Nat} {xs : Nat → Int32} {V : Nat → Nat → Int} {J : Nat → Nat → Int64} {tg : Option Nat} {v a b : Int} (h1 : (-2147483648 ≤ v ∧ v < 2147483648)) (h2 : (-2147483648 ≤ a ∧ a < 2147483648)) (h3 : (-2147483648 ≤ b ∧ b < 2147483648)) : Runs (GW L xs) (d) 177 (0, [(Value.int (Int32.ofInt (v))), (Value.int (Int32.ofInt (a))), (Value.int (Int32.ofInt (b)))], [], zS (eV (V)) J tg) (some (Value.int (Int32.ofInt (bi (a ≤ v ∧ v ≤ b)))), zS (eV (V)) J tg) := by
  refine sg_177 _ _ _ _ _ _ ?_
  simp (disch := omega) only [eV_at, eV_up, o_lit2, o_add, o_sub, o_mul, o_neg, o_div, o_nat, ix_t, o_lt, o_le, o_eq, o_bi0, o_bi1, o_bib, em_t, o_neg1, o_shl, o_tb, o_tb0, o_tt, o_and, o_xor, o_or, o_max, o_min, an_tb, and_true, true_and, not_true, not_false, if_true, if_false, tn_add, tn_mul, Int.reduceToNat, tn_cast, md_x]
  split
  · first | exact leafI (bi_t (by omega)).symm | exact leafI (bi_f (by omega)).symm
  · split <;> first | exact leafI (bi_t (by omega)).symm | exact leafI (bi_f (by omega)).symm
theorem k_44 {L d : Nat} {xs : Nat → Int32} {V : Nat → Nat → Int} {J : Nat → Nat → Int64} {tg : Option Nat} (hR : RNG V) {v : Int} (h1 : (-2147483648 ≤ v ∧ v < 2147483648)) : Runs (GW L xs) (d + 1) 44 (0, [.ref 1, (Value.int (Int32.ofInt (v)))], [], zS (eV (V)) J tg) (some (Value.int (Int32.ofInt (bi (0 ≤ v ∧ v < V 1 0)))), zS (eV (V)) J tg) := by
  have hD : 0 ≤ V 1 0 ∧ V 1 0 ≤ 12 := hR 1 0 (by decide) (by decide)
  refine sg_44 _ _ _ _ ?_
  simp (disch := omega) only [eV_at, eV_up, o_lit2, o_add, o_sub, o_mul, o_neg, o_div, o_nat, ix_t, o_lt, o_le, o_eq, o_bi0, o_bi1, o_bib, em_t, o_neg1, o_shl, o_tb, o_tb0, o_tt, o_and, o_xor, o_or, o_max, o_min, an_tb, and_true, true_and, not_true, not_false, if_true, if_false, tn_add, tn_mul, Int.reduceToNat, tn_cast, md_x]
  refine ⟨_, _, k_164 h1 (by omega) (by omega), ?_⟩
  simp (disch := omega) only [eV_at, eV_up, o_lit2, o_add, o_sub, o_mul, o_neg, o_div, o_nat, ix_t, o_lt, o_le, o_eq, o_bi0, o_bi1, o_bib, em_t, o_neg1, o_shl, o_tb, o_tb0, o_tt, o_and, o_xor, o_or, o_max, o_min, an_tb, and_true, true_and, not_true, not_false, if_true, if_false, tn_add, tn_mul, Int.reduceToNat, tn_cast, md_x]
  exact leafI (bi_eq ⟨fun h => by omega, fun h => by omega⟩)
theorem k_45 {L d : Nat} {xs : Nat → Int32} {V : Nat → Nat → Int} {J : Nat → Nat → Int64} {tg : Option Nat} (hR : RNG V) {v : Int} (h1 : (-2147483648 ≤ v ∧ v < 2147483648)) : Runs (GW L xs) (d + 1) 45 (0, [.ref 1, (Value.int (Int32.ofInt (v)))], [], zS (eV (V)) J tg) (some (Value.int (Int32.ofInt (bi (12 ≤ v ∧ v < 12 + V 1 1)))), zS (eV (V)) J tg) := by
  have hD : 0 ≤ V 1 1 ∧ V 1 1 ≤ 12 := hR 1 1 (by decide) (by decide)
  refine sg_45 _ _ _ _ ?_
  simp (disch := omega) only [eV_at, eV_up, o_lit2, o_add, o_sub, o_mul, o_neg, o_div, o_nat, ix_t, o_lt, o_le, o_eq, o_bi0, o_bi1, o_bib, em_t, o_neg1, o_shl, o_tb, o_tb0, o_tt, o_and, o_xor, o_or, o_max, o_min, an_tb, and_true, true_and, not_true, not_false, if_true, if_false, tn_add, tn_mul, Int.reduceToNat, tn_cast, md_x]
  refine ⟨_, _, k_164 h1 (by omega) (by omega), ?_⟩
  simp (disch := omega) only [eV_at, eV_up, o_lit2, o_add, o_sub, o_mul, o_neg, o_div, o_nat, ix_t, o_lt, o_le, o_eq, o_bi0, o_bi1, o_bib, em_t, o_neg1, o_shl, o_tb, o_tb0, o_tt, o_and, o_xor, o_or, o_max, o_min, an_tb, and_true, true_and, not_true, not_false, if_true, if_false, tn_add, tn_mul, Int.reduceToNat, tn_cast, md_x]
  exact leafI (bi_eq ⟨fun h => by omega, fun h => by omega⟩)
/-- a LOOK that is told -/
abbrev isT (V : Nat → Nat → Int) (v : Int) : Prop := (0 ≤ v ∧ v < V 1 0) ∨ (12 ≤ v ∧ v < 12 + V 1 1)
theorem k_46 {L d : Nat} {xs : Nat → Int32} {V : Nat → Nat → Int} {J : Nat → Nat → Int64} {tg : Option Nat} (hR : RNG V) {v : Int} (h1 : (-2147483648 ≤ v ∧ v < 2147483648)) : Runs (GW L xs) (d + 2) 46 (0, [.ref 1, (Value.int (Int32.ofInt (v)))], [], zS (eV (V)) J tg) (some (Value.int (Int32.ofInt (bi (isT V v)))), zS (eV (V)) J tg) := by
  refine sg_46 _ _ _ _ ⟨_, _, k_44 hR h1, ?_⟩
  simp (disch := omega) only [eV_at, eV_up, o_lit2, o_add, o_sub, o_mul, o_neg, o_div, o_nat, ix_t, o_lt, o_le, o_eq, o_bi0, o_bi1, o_bib, em_t, o_neg1, o_shl, o_tb, o_tb0, o_tt, o_and, o_xor, o_or, o_max, o_min, an_tb, and_true, true_and, not_true, not_false, if_true, if_false, tn_add, tn_mul, Int.reduceToNat, tn_cast, md_x]
  split
  · refine ⟨_, _, k_45 hR h1, ?_⟩
    simp (disch := omega) only [eV_at, eV_up, o_lit2, o_add, o_sub, o_mul, o_neg, o_div, o_nat, ix_t, o_lt, o_le, o_eq, o_bi0, o_bi1, o_bib, em_t, o_neg1, o_shl, o_tb, o_tb0, o_tt, o_and, o_xor, o_or, o_max, o_min, an_tb, and_true, true_and, not_true, not_false, if_true, if_false, tn_add, tn_mul, Int.reduceToNat, tn_cast, md_x]
    split <;> first | exact leafI (bi_t (by omega)).symm | exact leafI (bi_f (by omega)).symm
  · first | exact leafI (bi_t (by omega)).symm | exact leafI (bi_f (by omega)).symm
theorem p2_12 {k : Nat} (h : k ≤ 12) : 2 ^ k ≤ 4096 := Nat.pow_le_pow_right (n := 2) (by omega) h
theorem k_48 {L d : Nat} {xs : Nat → Int32} {V : Nat → Nat → Int} {J : Nat → Nat → Int64} {tg : Option Nat} (hR : RNG V) : Runs (GW L xs) (d) 48 (0, [.ref 1], [], zS (eV (V)) J tg) (some (Value.int (Int32.ofInt ((2 ^ (V 1 1).toNat - 1 : Nat)))), zS (eV (V)) J tg) := by
  have hD : 0 ≤ V 1 1 ∧ V 1 1 ≤ 12 := hR 1 1 (by decide) (by decide)
  have e : V 1 1 = (((V 1 1).toNat : Nat) : Int) := by omega
  have hp := Nat.pow_pos (a := 2) (n := (V 1 1).toNat) (by omega)
  refine sg_48 _ _ _ ?_
  simp only [eV_at, o_lit2]
  rw [e, o_shl (by omega), o_sub, tn_cast]
  exact leafI (cast_pred hp)
theorem k_47 {L d : Nat} {xs : Nat → Int32} {V : Nat → Nat → Int} {J : Nat → Nat → Int64} {tg : Option Nat} (hR : RNG V) {v : Int} (h1 : (-2147483648 ≤ v ∧ v < 2147483648)) : Runs (GW L xs) (d + 1) 47 (0, [.ref 1, (Value.int (Int32.ofInt (v)))], [], zS (eV (V)) J tg) (some (Value.int (Int32.ofInt (bi (0 ≤ v ∧ v < (2 ^ (V 1 0).toNat : Nat))))), zS (eV (V)) J tg) := by
  have hD : 0 ≤ V 1 0 ∧ V 1 0 ≤ 12 := hR 1 0 (by decide) (by decide)
  have e : V 1 0 = (((V 1 0).toNat : Nat) : Int) := by omega
  have hp := p2_12 (k := (V 1 0).toNat) (by omega)
  have hq := Nat.pow_pos (a := 2) (n := (V 1 0).toNat) (by omega)
  refine sg_47 _ _ _ _ ?_
  simp only [eV_at, o_lit2]
  rw [e, o_shl (by omega), o_sub, tn_cast]
  refine ⟨_, _, k_164 h1 (by omega) (by omega), ?_⟩
  simp (disch := omega) only [eV_at, eV_up, o_lit2, o_add, o_sub, o_mul, o_neg, o_div, o_nat, ix_t, o_lt, o_le, o_eq, o_bi0, o_bi1, o_bib, em_t, o_neg1, o_shl, o_tb, o_tb0, o_tt, o_and, o_xor, o_or, o_max, o_min, an_tb, and_true, true_and, not_true, not_false, if_true, if_false, tn_add, tn_mul, Int.reduceToNat, tn_cast, md_x]
  exact leafI (bi_eq ⟨fun h => by omega, fun h => by omega⟩)
theorem k_165 {L d : Nat} {xs : Nat → Int32} {V : Nat → Nat → Int} {J : Nat → Nat → Int64} {tg : Option Nat} {v : Int} (h1 : (-2147483648 ≤ v ∧ v < 2147483648)) : Runs (GW L xs) (d + 1) 165 (0, [(Value.int (Int32.ofInt (v)))], [], zS (eV (V)) J tg) (some (Value.int (Int32.ofInt (bi (0 ≤ v ∧ v ≤ 5)))), zS (eV (V)) J tg) := by
  refine sg_165 _ _ _ _ ?_
  simp (disch := omega) only [eV_at, eV_up, o_lit2, o_add, o_sub, o_mul, o_neg, o_div, o_nat, ix_t, o_lt, o_le, o_eq, o_bi0, o_bi1, o_bib, em_t, o_neg1, o_shl, o_tb, o_tb0, o_tt, o_and, o_xor, o_or, o_max, o_min, an_tb, and_true, true_and, not_true, not_false, if_true, if_false, tn_add, tn_mul, Int.reduceToNat, tn_cast, md_x]
  refine ⟨_, _, k_164 h1 (by omega) (by omega), ?_⟩
  simp (disch := omega) only [eV_at, eV_up, o_lit2, o_add, o_sub, o_mul, o_neg, o_div, o_nat, ix_t, o_lt, o_le, o_eq, o_bi0, o_bi1, o_bib, em_t, o_neg1, o_shl, o_tb, o_tb0, o_tt, o_and, o_xor, o_or, o_max, o_min, an_tb, and_true, true_and, not_true, not_false, if_true, if_false, tn_add, tn_mul, Int.reduceToNat, tn_cast, md_x]
theorem k_166 {L d : Nat} {xs : Nat → Int32} {V : Nat → Nat → Int} {J : Nat → Nat → Int64} {tg : Option Nat} {v : Int} (h1 : (-2147483648 ≤ v ∧ v < 2147483648)) : Runs (GW L xs) (d + 1) 166 (0, [(Value.int (Int32.ofInt (v)))], [], zS (eV (V)) J tg) (some (Value.int (Int32.ofInt (bi (0 ≤ v ∧ v ≤ 5)))), zS (eV (V)) J tg) := by
  refine sg_166 _ _ _ _ ?_
  simp (disch := omega) only [eV_at, eV_up, o_lit2, o_add, o_sub, o_mul, o_neg, o_div, o_nat, ix_t, o_lt, o_le, o_eq, o_bi0, o_bi1, o_bib, em_t, o_neg1, o_shl, o_tb, o_tb0, o_tt, o_and, o_xor, o_or, o_max, o_min, an_tb, and_true, true_and, not_true, not_false, if_true, if_false, tn_add, tn_mul, Int.reduceToNat, tn_cast, md_x]
  refine ⟨_, _, k_164 h1 (by omega) (by omega), ?_⟩
  simp (disch := omega) only [eV_at, eV_up, o_lit2, o_add, o_sub, o_mul, o_neg, o_div, o_nat, ix_t, o_lt, o_le, o_eq, o_bi0, o_bi1, o_bib, em_t, o_neg1, o_shl, o_tb, o_tb0, o_tt, o_and, o_xor, o_or, o_max, o_min, an_tb, and_true, true_and, not_true, not_false, if_true, if_false, tn_add, tn_mul, Int.reduceToNat, tn_cast, md_x]
theorem k_167 {L d : Nat} {xs : Nat → Int32} {V : Nat → Nat → Int} {J : Nat → Nat → Int64} {tg : Option Nat} {a b c : Int} (h1 : (-2147483648 ≤ a ∧ a < 2147483648)) (h2 : (-2147483648 ≤ b ∧ b < 2147483648)) (h3 : (-2147483648 ≤ c ∧ c < 2147483648)) : Runs (GW L xs) (d + 1) 167 (0, [(Value.int (Int32.ofInt (a))), (Value.int (Int32.ofInt (b))), (Value.int (Int32.ofInt (c)))], [], zS (eV (V)) J tg) (some (Value.int (Int32.ofInt (bi ((0 ≤ a ∧ a ≤ 4) ∧ (0 ≤ b ∧ b ≤ 8) ∧ (0 ≤ c ∧ c ≤ 3))))), zS (eV (V)) J tg) := by
  refine sg_167 _ _ _ _ _ _ ?_
  simp (disch := omega) only [eV_at, eV_up, o_lit2, o_add, o_sub, o_mul, o_neg, o_div, o_nat, ix_t, o_lt, o_le, o_eq, o_bi0, o_bi1, o_bib, em_t, o_neg1, o_shl, o_tb, o_tb0, o_tt, o_and, o_xor, o_or, o_max, o_min, an_tb, and_true, true_and, not_true, not_false, if_true, if_false, tn_add, tn_mul, Int.reduceToNat, tn_cast, md_x]
  refine ⟨_, _, k_164 h1 (by omega) (by omega), ?_⟩
  simp (disch := omega) only [eV_at, eV_up, o_lit2, o_add, o_sub, o_mul, o_neg, o_div, o_nat, ix_t, o_lt, o_le, o_eq, o_bi0, o_bi1, o_bib, em_t, o_neg1, o_shl, o_tb, o_tb0, o_tt, o_and, o_xor, o_or, o_max, o_min, an_tb, and_true, true_and, not_true, not_false, if_true, if_false, tn_add, tn_mul, Int.reduceToNat, tn_cast, md_x]
  split
  · first | exact leafI (bi_t (by omega)).symm | exact leafI (bi_f (by omega)).symm
  · refine ⟨_, _, k_164 h2 (by omega) (by omega), ?_⟩
    simp (disch := omega) only [eV_at, eV_up, o_lit2, o_add, o_sub, o_mul, o_neg, o_div, o_nat, ix_t, o_lt, o_le, o_eq, o_bi0, o_bi1, o_bib, em_t, o_neg1, o_shl, o_tb, o_tb0, o_tt, o_and, o_xor, o_or, o_max, o_min, an_tb, and_true, true_and, not_true, not_false, if_true, if_false, tn_add, tn_mul, Int.reduceToNat, tn_cast, md_x]
    split
    · first | exact leafI (bi_t (by omega)).symm | exact leafI (bi_f (by omega)).symm
    · refine ⟨_, _, k_164 h3 (by omega) (by omega), ?_⟩
      simp (disch := omega) only [eV_at, eV_up, o_lit2, o_add, o_sub, o_mul, o_neg, o_div, o_nat, ix_t, o_lt, o_le, o_eq, o_bi0, o_bi1, o_bib, em_t, o_neg1, o_shl, o_tb, o_tb0, o_tt, o_and, o_xor, o_or, o_max, o_min, an_tb, and_true, true_and, not_true, not_false, if_true, if_false, tn_add, tn_mul, Int.reduceToNat, tn_cast, md_x]
      split <;> first | exact leafI (bi_t (by omega)).symm | exact leafI (bi_f (by omega)).symm
theorem k_183 {L d : Nat} {xs : Nat → Int32} {V : Nat → Nat → Int} {J : Nat → Nat → Int64} {tg : Option Nat} {a b c : Int} (h1 : (-2147483648 ≤ a ∧ a < 2147483648)) (h2 : (-2147483648 ≤ b ∧ b < 2147483648)) (h3 : (-2147483648 ≤ c ∧ c < 2147483648)) : Runs (GW L xs) (d + 1) 183 (0, [(Value.int (Int32.ofInt (a))), (Value.int (Int32.ofInt (b))), (Value.int (Int32.ofInt (c)))], [], zS (eV (V)) J tg) (some (Value.int (Int32.ofInt (bi ((0 ≤ a ∧ a ≤ 4) ∧ (0 ≤ b ∧ b ≤ 8) ∧ (0 ≤ c ∧ c ≤ 3))))), zS (eV (V)) J tg) := by
  refine sg_183 _ _ _ _ _ _ ?_
  simp (disch := omega) only [eV_at, eV_up, o_lit2, o_add, o_sub, o_mul, o_neg, o_div, o_nat, ix_t, o_lt, o_le, o_eq, o_bi0, o_bi1, o_bib, em_t, o_neg1, o_shl, o_tb, o_tb0, o_tt, o_and, o_xor, o_or, o_max, o_min, an_tb, and_true, true_and, not_true, not_false, if_true, if_false, tn_add, tn_mul, Int.reduceToNat, tn_cast, md_x]
  refine ⟨_, _, _, k_177 h1 (by omega) (by omega), ?_⟩
  simp (disch := omega) only [eV_at, eV_up, o_lit2, o_add, o_sub, o_mul, o_neg, o_div, o_nat, ix_t, o_lt, o_le, o_eq, o_bi0, o_bi1, o_bib, em_t, o_neg1, o_shl, o_tb, o_tb0, o_tt, o_and, o_xor, o_or, o_max, o_min, an_tb, and_true, true_and, not_true, not_false, if_true, if_false, tn_add, tn_mul, Int.reduceToNat, tn_cast, md_x]
  split
  · first | exact leafI (bi_t (by omega)).symm | exact leafI (bi_f (by omega)).symm
  · refine ⟨_, _, _, k_177 h2 (by omega) (by omega), ?_⟩
    simp (disch := omega) only [eV_at, eV_up, o_lit2, o_add, o_sub, o_mul, o_neg, o_div, o_nat, ix_t, o_lt, o_le, o_eq, o_bi0, o_bi1, o_bib, em_t, o_neg1, o_shl, o_tb, o_tb0, o_tt, o_and, o_xor, o_or, o_max, o_min, an_tb, and_true, true_and, not_true, not_false, if_true, if_false, tn_add, tn_mul, Int.reduceToNat, tn_cast, md_x]
    split
    · first | exact leafI (bi_t (by omega)).symm | exact leafI (bi_f (by omega)).symm
    · refine ⟨_, _, _, k_177 h3 (by omega) (by omega), ?_⟩
      simp (disch := omega) only [eV_at, eV_up, o_lit2, o_add, o_sub, o_mul, o_neg, o_div, o_nat, ix_t, o_lt, o_le, o_eq, o_bi0, o_bi1, o_bib, em_t, o_neg1, o_shl, o_tb, o_tb0, o_tt, o_and, o_xor, o_or, o_max, o_min, an_tb, and_true, true_and, not_true, not_false, if_true, if_false, tn_add, tn_mul, Int.reduceToNat, tn_cast, md_x]
      split <;> first | exact leafI (bi_t (by omega)).symm | exact leafI (bi_f (by omega)).symm
theorem k_163 {L d : Nat} {xs : Nat → Int32} {V : Nat → Nat → Int} {J : Nat → Nat → Int64} {tg : Option Nat} (hR : RNG V) {a b c : Int} (h1 : (-2147483648 ≤ a ∧ a < 2147483648)) (h2 : (-2147483648 ≤ b ∧ b < 2147483648)) (h3 : (-2147483648 ≤ c ∧ c < 2147483648)) : Runs (GW L xs) (d + 2) 163 (0, [.ref 0, (Value.int (Int32.ofInt (a))), (Value.int (Int32.ofInt (b))), (Value.int (Int32.ofInt (c)))], [], zS (eV (V)) J tg) (some (Value.int (Int32.ofInt (bi ((0 ≤ a ∧ a < V 1 0) ∧ (0 ≤ b ∧ b ≤ 5) ∧ (0 ≤ c ∧ c ≤ 5))))), zS (eV (V)) J tg) := by
  refine sg_163 _ _ _ _ _ _ ⟨_, _, k_44 hR h1, ?_⟩
  simp (disch := omega) only [eV_at, eV_up, o_lit2, o_add, o_sub, o_mul, o_neg, o_div, o_nat, ix_t, o_lt, o_le, o_eq, o_bi0, o_bi1, o_bib, em_t, o_neg1, o_shl, o_tb, o_tb0, o_tt, o_and, o_xor, o_or, o_max, o_min, an_tb, and_true, true_and, not_true, not_false, if_true, if_false, tn_add, tn_mul, Int.reduceToNat, tn_cast, md_x]
  split
  · first | exact leafI (bi_t (by omega)).symm | exact leafI (bi_f (by omega)).symm
  · refine ⟨_, _, k_165 h2, ?_⟩
    simp (disch := omega) only [eV_at, eV_up, o_lit2, o_add, o_sub, o_mul, o_neg, o_div, o_nat, ix_t, o_lt, o_le, o_eq, o_bi0, o_bi1, o_bib, em_t, o_neg1, o_shl, o_tb, o_tb0, o_tt, o_and, o_xor, o_or, o_max, o_min, an_tb, and_true, true_and, not_true, not_false, if_true, if_false, tn_add, tn_mul, Int.reduceToNat, tn_cast, md_x]
    split
    · first | exact leafI (bi_t (by omega)).symm | exact leafI (bi_f (by omega)).symm
    · refine ⟨_, _, k_166 h3, ?_⟩
      simp (disch := omega) only [eV_at, eV_up, o_lit2, o_add, o_sub, o_mul, o_neg, o_div, o_nat, ix_t, o_lt, o_le, o_eq, o_bi0, o_bi1, o_bib, em_t, o_neg1, o_shl, o_tb, o_tb0, o_tt, o_and, o_xor, o_or, o_max, o_min, an_tb, and_true, true_and, not_true, not_false, if_true, if_false, tn_add, tn_mul, Int.reduceToNat, tn_cast, md_x]
      split <;> first | exact leafI (bi_t (by omega)).symm | exact leafI (bi_f (by omega)).symm
theorem k_168 {L d : Nat} {xs : Nat → Int32} {V : Nat → Nat → Int} {J : Nat → Nat → Int64} {tg : Option Nat} {a : Int} (h1 : -1 ≤ a ∧ a ≤ 11) : Runs (GW L xs) (d) 168 (0, [(Value.int (Int32.ofInt (a)))], [], zS (eV (V)) J tg) (some (Value.int (Int32.ofInt (if a = -1 then -1 else 12 + a))), zS (eV (V)) J tg) := by
  refine sg_168 _ _ _ _ ?_
  simp (disch := omega) only [eV_at, eV_up, o_lit2, o_add, o_sub, o_mul, o_neg, o_div, o_nat, ix_t, o_lt, o_le, o_eq, o_bi0, o_bi1, o_bib, em_t, o_neg1, o_shl, o_tb, o_tb0, o_tt, o_and, o_xor, o_or, o_max, o_min, an_tb, and_true, true_and, not_true, not_false, if_true, if_false, tn_add, tn_mul, Int.reduceToNat, tn_cast, md_x]
  split <;> rfl
theorem k_169 {L d : Nat} {xs : Nat → Int32} {V : Nat → Nat → Int} {J : Nat → Nat → Int64} {tg : Option Nat} {a b c : Int} : Runs (GW L xs) (d) 169 (0, [(Value.int (Int32.ofInt (a))), (Value.int (Int32.ofInt (b))), (Value.int (Int32.ofInt (c)))], [], zS (eV (V)) J tg) (some (Value.int (Int32.ofInt ((a * 9 + b) * 4 + c))), zS (eV (V)) J tg) := by
  refine sg_169 _ _ _ _ _ _ ?_
  simp (disch := omega) only [eV_at, eV_up, o_lit2, o_add, o_sub, o_mul, o_neg, o_div, o_nat, ix_t, o_lt, o_le, o_eq, o_bi0, o_bi1, o_bib, em_t, o_neg1, o_shl, o_tb, o_tb0, o_tt, o_and, o_xor, o_or, o_max, o_min, an_tb, and_true, true_and, not_true, not_false, if_true, if_false, tn_add, tn_mul, Int.reduceToNat, tn_cast, md_x]
theorem k_187 {L d : Nat} {xs : Nat → Int32} {V : Nat → Nat → Int} {J : Nat → Nat → Int64} {tg : Option Nat} {a b c : Int} : Runs (GW L xs) (d) 187 (0, [(Value.int (Int32.ofInt (a))), (Value.int (Int32.ofInt (b))), (Value.int (Int32.ofInt (c)))], [], zS (eV (V)) J tg) (some (Value.int (Int32.ofInt ((a * 9 + b) * 4 + c))), zS (eV (V)) J tg) := by
  refine sg_187 _ _ _ _ _ _ ?_
  simp (disch := omega) only [eV_at, eV_up, o_lit2, o_add, o_sub, o_mul, o_neg, o_div, o_nat, ix_t, o_lt, o_le, o_eq, o_bi0, o_bi1, o_bib, em_t, o_neg1, o_shl, o_tb, o_tb0, o_tt, o_and, o_xor, o_or, o_max, o_min, an_tb, and_true, true_and, not_true, not_false, if_true, if_false, tn_add, tn_mul, Int.reduceToNat, tn_cast, md_x]
  exact leafI (by omega)
theorem k_170 {L d : Nat} {xs : Nat → Int32} {V : Nat → Nat → Int} {J : Nat → Nat → Int64} {tg : Option Nat} {a : Int} (h : 0 ≤ a ∧ a < 1000) : Runs (GW L xs) (d) 170 (0, [(Value.int (Int32.ofInt (a)))], [], zS (eV (V)) J tg) (some (Value.int (Int32.ofInt (a / 36))), zS (eV (V)) J tg) := by
  refine sg_170 _ _ _ _ ?_
  simp (disch := omega) only [eV_at, eV_up, o_lit2, o_add, o_sub, o_mul, o_neg, o_div, o_nat, ix_t, o_lt, o_le, o_eq, o_bi0, o_bi1, o_bib, em_t, o_neg1, o_shl, o_tb, o_tb0, o_tt, o_and, o_xor, o_or, o_max, o_min, an_tb, and_true, true_and, not_true, not_false, if_true, if_false, tn_add, tn_mul, Int.reduceToNat, tn_cast, md_x]
theorem k_171 {L d : Nat} {xs : Nat → Int32} {V : Nat → Nat → Int} {J : Nat → Nat → Int64} {tg : Option Nat} {a : Int} (h : 0 ≤ a ∧ a < 1000) : Runs (GW L xs) (d) 171 (0, [(Value.int (Int32.ofInt (a)))], [], zS (eV (V)) J tg) (some (Value.int (Int32.ofInt (a / 4 % 9))), zS (eV (V)) J tg) := by
  refine sg_171 _ _ _ _ ?_
  simp (disch := omega) only [eV_at, eV_up, o_lit2, o_add, o_sub, o_mul, o_neg, o_div, o_nat, ix_t, o_lt, o_le, o_eq, o_bi0, o_bi1, o_bib, em_t, o_neg1, o_shl, o_tb, o_tb0, o_tt, o_and, o_xor, o_or, o_max, o_min, an_tb, and_true, true_and, not_true, not_false, if_true, if_false, tn_add, tn_mul, Int.reduceToNat, tn_cast, md_x]
theorem k_172 {L d : Nat} {xs : Nat → Int32} {V : Nat → Nat → Int} {J : Nat → Nat → Int64} {tg : Option Nat} {a : Int} (h : 0 ≤ a ∧ a < 1000) : Runs (GW L xs) (d) 172 (0, [(Value.int (Int32.ofInt (a)))], [], zS (eV (V)) J tg) (some (Value.int (Int32.ofInt (a % 4))), zS (eV (V)) J tg) := by
  refine sg_172 _ _ _ _ ?_
  simp (disch := omega) only [eV_at, eV_up, o_lit2, o_add, o_sub, o_mul, o_neg, o_div, o_nat, ix_t, o_lt, o_le, o_eq, o_bi0, o_bi1, o_bib, em_t, o_neg1, o_shl, o_tb, o_tb0, o_tt, o_and, o_xor, o_or, o_max, o_min, an_tb, and_true, true_and, not_true, not_false, if_true, if_false, tn_add, tn_mul, Int.reduceToNat, tn_cast, md_x]
theorem k_179 {L d : Nat} {xs : Nat → Int32} {V : Nat → Nat → Int} {J : Nat → Nat → Int64} {tg : Option Nat} (hD : 0 ≤ V 94 1 ∧ V 94 1 ≤ 12) {v : Int} (h1 : (-2147483648 ≤ v ∧ v < 2147483648)) : Runs (GW L xs) (d + 1) 179 (0, [.ref 93, (Value.int (Int32.ofInt (v)))], [], zS (eV (V)) J tg) (some (Value.int (Int32.ofInt (bi (0 ≤ v ∧ v < V 94 1)))), zS (eV (V)) J tg) := by
  refine sg_179 _ _ _ _ ?_
  simp (disch := omega) only [eV_at, eV_up, o_lit2, o_add, o_sub, o_mul, o_neg, o_div, o_nat, ix_t, o_lt, o_le, o_eq, o_bi0, o_bi1, o_bib, em_t, o_neg1, o_shl, o_tb, o_tb0, o_tt, o_and, o_xor, o_or, o_max, o_min, an_tb, and_true, true_and, not_true, not_false, if_true, if_false, tn_add, tn_mul, Int.reduceToNat, tn_cast, md_x]
  refine ⟨_, _, _, k_177 h1 (by omega) (by omega), ?_⟩
  simp (disch := omega) only [eV_at, eV_up, o_lit2, o_add, o_sub, o_mul, o_neg, o_div, o_nat, ix_t, o_lt, o_le, o_eq, o_bi0, o_bi1, o_bib, em_t, o_neg1, o_shl, o_tb, o_tb0, o_tt, o_and, o_xor, o_or, o_max, o_min, an_tb, and_true, true_and, not_true, not_false, if_true, if_false, tn_add, tn_mul, Int.reduceToNat, tn_cast, md_x]
  exact leafI (bi_eq ⟨fun h => by omega, fun h => by omega⟩)
theorem k_180 {L d : Nat} {xs : Nat → Int32} {V : Nat → Nat → Int} {J : Nat → Nat → Int64} {tg : Option Nat} (hD : 0 ≤ V 94 2 ∧ V 94 2 ≤ 12) {v : Int} (h1 : (-2147483648 ≤ v ∧ v < 2147483648)) : Runs (GW L xs) (d + 1) 180 (0, [.ref 93, (Value.int (Int32.ofInt (v)))], [], zS (eV (V)) J tg) (some (Value.int (Int32.ofInt (bi (12 ≤ v ∧ v < 12 + V 94 2)))), zS (eV (V)) J tg) := by
  refine sg_180 _ _ _ _ ?_
  simp (disch := omega) only [eV_at, eV_up, o_lit2, o_add, o_sub, o_mul, o_neg, o_div, o_nat, ix_t, o_lt, o_le, o_eq, o_bi0, o_bi1, o_bib, em_t, o_neg1, o_shl, o_tb, o_tb0, o_tt, o_and, o_xor, o_or, o_max, o_min, an_tb, and_true, true_and, not_true, not_false, if_true, if_false, tn_add, tn_mul, Int.reduceToNat, tn_cast, md_x]
  refine ⟨_, _, _, k_177 h1 (by omega) (by omega), ?_⟩
  simp (disch := omega) only [eV_at, eV_up, o_lit2, o_add, o_sub, o_mul, o_neg, o_div, o_nat, ix_t, o_lt, o_le, o_eq, o_bi0, o_bi1, o_bib, em_t, o_neg1, o_shl, o_tb, o_tb0, o_tt, o_and, o_xor, o_or, o_max, o_min, an_tb, and_true, true_and, not_true, not_false, if_true, if_false, tn_add, tn_mul, Int.reduceToNat, tn_cast, md_x]
  exact leafI (bi_eq ⟨fun h => by omega, fun h => by omega⟩)
theorem k_181 {L d : Nat} {xs : Nat → Int32} {V : Nat → Nat → Int} {J : Nat → Nat → Int64} {tg : Option Nat} (hD : 0 ≤ V 94 1 ∧ V 94 1 ≤ 12) (hT : 0 ≤ V 94 2 ∧ V 94 2 ≤ 12) {v : Int} (h1 : (-2147483648 ≤ v ∧ v < 2147483648)) : Runs (GW L xs) (d + 2) 181 (0, [.ref 93, (Value.int (Int32.ofInt (v)))], [], zS (eV (V)) J tg) (some (Value.int (Int32.ofInt (bi ((0 ≤ v ∧ v < V 94 1) ∨ (12 ≤ v ∧ v < 12 + V 94 2))))), zS (eV (V)) J tg) := by
  refine sg_181 _ _ _ _ ⟨_, _, _, k_179 hD h1, ?_⟩
  simp (disch := omega) only [eV_at, eV_up, o_lit2, o_add, o_sub, o_mul, o_neg, o_div, o_nat, ix_t, o_lt, o_le, o_eq, o_bi0, o_bi1, o_bib, em_t, o_neg1, o_shl, o_tb, o_tb0, o_tt, o_and, o_xor, o_or, o_max, o_min, an_tb, and_true, true_and, not_true, not_false, if_true, if_false, tn_add, tn_mul, Int.reduceToNat, tn_cast, md_x]
  split
  · refine ⟨_, _, _, k_180 hT h1, ?_⟩
    simp (disch := omega) only [eV_at, eV_up, o_lit2, o_add, o_sub, o_mul, o_neg, o_div, o_nat, ix_t, o_lt, o_le, o_eq, o_bi0, o_bi1, o_bib, em_t, o_neg1, o_shl, o_tb, o_tb0, o_tt, o_and, o_xor, o_or, o_max, o_min, an_tb, and_true, true_and, not_true, not_false, if_true, if_false, tn_add, tn_mul, Int.reduceToNat, tn_cast, md_x]
    split <;> first | exact leafI (bi_t (by omega)).symm | exact leafI (bi_f (by omega)).symm
  · first | exact leafI (bi_t (by omega)).symm | exact leafI (bi_f (by omega)).symm
theorem k_182 {L d : Nat} {xs : Nat → Int32} {V : Nat → Nat → Int} {J : Nat → Nat → Int64} {tg : Option Nat} {v : Int} (h1 : (-2147483648 ≤ v ∧ v < 2147483648)) : Runs (GW L xs) (d + 1) 182 (0, [(Value.int (Int32.ofInt (v)))], [], zS (eV (V)) J tg) (some (Value.int (Int32.ofInt (bi (0 ≤ v ∧ v ≤ 5)))), zS (eV (V)) J tg) := by
  refine sg_182 _ _ _ _ ?_
  simp (disch := omega) only [eV_at, eV_up, o_lit2, o_add, o_sub, o_mul, o_neg, o_div, o_nat, ix_t, o_lt, o_le, o_eq, o_bi0, o_bi1, o_bib, em_t, o_neg1, o_shl, o_tb, o_tb0, o_tt, o_and, o_xor, o_or, o_max, o_min, an_tb, and_true, true_and, not_true, not_false, if_true, if_false, tn_add, tn_mul, Int.reduceToNat, tn_cast, md_x]
  refine ⟨_, _, _, k_177 h1 (by omega) (by omega), ?_⟩
  simp (disch := omega) only [eV_at, eV_up, o_lit2, o_add, o_sub, o_mul, o_neg, o_div, o_nat, ix_t, o_lt, o_le, o_eq, o_bi0, o_bi1, o_bib, em_t, o_neg1, o_shl, o_tb, o_tb0, o_tt, o_and, o_xor, o_or, o_max, o_min, an_tb, and_true, true_and, not_true, not_false, if_true, if_false, tn_add, tn_mul, Int.reduceToNat, tn_cast, md_x]
theorem k_194 {L d : Nat} {xs : Nat → Int32} {V : Nat → Nat → Int} {J : Nat → Nat → Int64} {tg : Option Nat} {v : Int} (h1 : (-2147483648 ≤ v ∧ v < 2147483648)) : Runs (GW L xs) (d + 1) 194 (0, [(Value.int (Int32.ofInt (v)))], [], zS (eV (V)) J tg) (some (Value.int (Int32.ofInt (bi (0 ≤ v ∧ v ≤ 99)))), zS (eV (V)) J tg) := by
  refine sg_194 _ _ _ _ ?_
  simp (disch := omega) only [eV_at, eV_up, o_lit2, o_add, o_sub, o_mul, o_neg, o_div, o_nat, ix_t, o_lt, o_le, o_eq, o_bi0, o_bi1, o_bib, em_t, o_neg1, o_shl, o_tb, o_tb0, o_tt, o_and, o_xor, o_or, o_max, o_min, an_tb, and_true, true_and, not_true, not_false, if_true, if_false, tn_add, tn_mul, Int.reduceToNat, tn_cast, md_x]
  refine ⟨_, _, _, k_177 h1 (by omega) (by omega), ?_⟩
  simp (disch := omega) only [eV_at, eV_up, o_lit2, o_add, o_sub, o_mul, o_neg, o_div, o_nat, ix_t, o_lt, o_le, o_eq, o_bi0, o_bi1, o_bib, em_t, o_neg1, o_shl, o_tb, o_tb0, o_tt, o_and, o_xor, o_or, o_max, o_min, an_tb, and_true, true_and, not_true, not_false, if_true, if_false, tn_add, tn_mul, Int.reduceToNat, tn_cast, md_x]
theorem k_291 {L d : Nat} {xs : Nat → Int32} {V : Nat → Nat → Int} {J : Nat → Nat → Int64} {tg : Option Nat} {v : Int} (h1 : (-2147483648 ≤ v ∧ v < 2147483648)) : Runs (GW L xs) (d + 1) 291 (0, [(Value.int (Int32.ofInt (v)))], [], zS (eV (V)) J tg) (some (Value.int (Int32.ofInt (bi (0 ≤ v ∧ v ≤ 999)))), zS (eV (V)) J tg) := by
  refine sg_291 _ _ _ _ ?_
  simp (disch := omega) only [eV_at, eV_up, o_lit2, o_add, o_sub, o_mul, o_neg, o_div, o_nat, ix_t, o_lt, o_le, o_eq, o_bi0, o_bi1, o_bib, em_t, o_neg1, o_shl, o_tb, o_tb0, o_tt, o_and, o_xor, o_or, o_max, o_min, an_tb, and_true, true_and, not_true, not_false, if_true, if_false, tn_add, tn_mul, Int.reduceToNat, tn_cast, md_x]
  refine ⟨_, _, _, k_177 h1 (by omega) (by omega), ?_⟩
  simp (disch := omega) only [eV_at, eV_up, o_lit2, o_add, o_sub, o_mul, o_neg, o_div, o_nat, ix_t, o_lt, o_le, o_eq, o_bi0, o_bi1, o_bib, em_t, o_neg1, o_shl, o_tb, o_tb0, o_tt, o_and, o_xor, o_or, o_max, o_min, an_tb, and_true, true_and, not_true, not_false, if_true, if_false, tn_add, tn_mul, Int.reduceToNat, tn_cast, md_x]
theorem k_199 {L d : Nat} {xs : Nat → Int32} {V : Nat → Nat → Int} {J : Nat → Nat → Int64} {tg : Option Nat} (hD : 0 ≤ V 94 2 ∧ V 94 2 ≤ 12) : Runs (GW L xs) (d) 199 (0, [.ref 93], [], zS (eV (V)) J tg) (some (Value.int (Int32.ofInt ((2 ^ (V 94 2).toNat - 1 : Nat)))), zS (eV (V)) J tg) := by
  have e : V 94 2 = (((V 94 2).toNat : Nat) : Int) := by omega
  have hp := Nat.pow_pos (a := 2) (n := (V 94 2).toNat) (by omega)
  refine sg_199 _ _ _ ?_
  simp only [eV_at, o_lit2]
  rw [e, o_shl (by omega), o_sub, tn_cast]
  exact leafI (cast_pred hp)
theorem k_260 {L d : Nat} {xs : Nat → Int32} {V : Nat → Nat → Int} {J : Nat → Nat → Int64} {tg : Option Nat} (hD : 0 ≤ V 94 1 ∧ V 94 1 ≤ 12) {v : Int} (h1 : (-2147483648 ≤ v ∧ v < 2147483648)) : Runs (GW L xs) (d + 1) 260 (0, [.ref 93, (Value.int (Int32.ofInt (v)))], [], zS (eV (V)) J tg) (some (Value.int (Int32.ofInt (bi (1 ≤ v ∧ v < (2 ^ (V 94 1).toNat : Nat))))), zS (eV (V)) J tg) := by
  have e : V 94 1 = (((V 94 1).toNat : Nat) : Int) := by omega
  have hp := p2_12 (k := (V 94 1).toNat) (by omega)
  have hq := Nat.pow_pos (a := 2) (n := (V 94 1).toNat) (by omega)
  refine sg_260 _ _ _ _ ?_
  simp only [eV_at, o_lit2]
  rw [e, o_shl (by omega), o_sub, tn_cast]
  refine ⟨_, _, _, k_177 h1 (by omega) (by omega), ?_⟩
  simp (disch := omega) only [eV_at, eV_up, o_lit2, o_add, o_sub, o_mul, o_neg, o_div, o_nat, ix_t, o_lt, o_le, o_eq, o_bi0, o_bi1, o_bib, em_t, o_neg1, o_shl, o_tb, o_tb0, o_tt, o_and, o_xor, o_or, o_max, o_min, an_tb, and_true, true_and, not_true, not_false, if_true, if_false, tn_add, tn_mul, Int.reduceToNat, tn_cast, md_x]
  exact leafI (bi_eq ⟨fun h => by omega, fun h => by omega⟩)
/-- a value among the first n of a list -/
def inL (f : Nat → Int) (v : Int) : Nat → Bool
  | 0 => false
  | n + 1 => inL f v n || decide (f n = v)
theorem inL_iff {f : Nat → Int} {v : Int} : ∀ {n : Nat}, inL f v n = true ↔ ∃ i, i < n ∧ f i = v
  | 0 => by simp [inL]
  | n + 1 => by
    have ih := @inL_iff f v n
    simp only [inL, Bool.or_eq_true, ih, decide_eq_true_eq]
    constructor
    · rintro (⟨i, h1, h2⟩ | h)
      · exact ⟨i, by omega, h2⟩
      · exact ⟨n, by omega, h⟩
    · rintro ⟨i, h1, h2⟩
      by_cases e : i = n
      · subst e; exact Or.inr h2
      · exact Or.inl ⟨i, by omega, h2⟩
theorem inL_cg {f g : Nat → Int} {v : Int} : ∀ {n : Nat}, (∀ i, i < n → f i = g i) → inL f v n = inL g v n
  | 0, _ => rfl
  | n + 1, h => by
    simp only [inL]
    rw [inL_cg (n := n) fun i hi => h i (by omega), h n (by omega)]
