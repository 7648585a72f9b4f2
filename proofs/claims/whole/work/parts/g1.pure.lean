/-! The law, case by case. -/
theorem xs_rg (x : Int32) : -2147483648 ≤ x.toInt ∧ x.toInt < 2147483648 := by
  have h1 := Int32.le_toInt x
  have h2 := Int32.toInt_lt x
  omega
section LW
variable {L : Nat} {xs : Nat → Int32} {V : Nat → Nat → Int} {J : Nat → Nat → Int64} {tg : Option Nat}
abbrev lwG (L : Nat) (xs : Nat → Int32) (pc : Nat) (V : Nat → Nat → Int) (J : Nat → Nat → Int64) (tg : Option Nat) (i : Nat) : Prop := ∃ (W : Nat → Nat → Int) (J1 : Nat → Nat → Int64) (tg1 : Option Nat), INV W ∧ ∀ r, Runs (GW L xs) 41 302 (1912, [.retAddr 0, .ref 0, .ref 93, (Value.int (Int32.ofInt ((i : Int))))], [], zS (eV W) J1 tg1) r → Runs (GW L xs) 41 302 (pc, [.retAddr 0, .ref 0, .ref 93, (Value.int (Int32.ofInt ((i : Int))))], [], zS (eV V) J tg) r
theorem lw_232 (h : INV V) {i : Nat} (hi : i + 6 ≤ L) (hL : L ≤ 3072) : lwG L xs 232 V J tg i := by
  by_cases c1 : xs (i + 1) = 0
  · skip
    obtain ⟨v, U, W, J1, r1, r2, hI⟩ := c_lookd h (L := L) (xs := xs) (J := J) (tg := tg)
    refine ⟨W, J1, tg, hI, fun r hr => ?_⟩
    apply sg_302_232 (d := 40)
    simp (disch := omega) only [eV_at, eV_up, o_lit2, o_add, o_sub, o_mul, o_neg, o_div, o_nat, ix_t, o_lt, o_le, o_eq, o_bi0, o_bi1, o_bib, em_t, o_neg1, o_shl, o_tb, o_tb0, o_tt, o_and, o_xor, o_or, o_max, o_min, an_tb, and_true, true_and, not_true, not_false, if_true, if_false, tn_add, tn_mul, Int.reduceToNat, tn_cast, md_x]
    exact ite_p c1 (⟨_, _, r1, ite_p c1 (⟨_, _, _, r2, ite_p rfl hr⟩)⟩)
  · skip
    obtain ⟨v, U, W, J1, r1, r2, hI⟩ := c_lookt h (L := L) (xs := xs) (J := J) (tg := tg)
    refine ⟨W, J1, tg, hI, fun r hr => ?_⟩
    apply sg_302_232 (d := 40)
    simp (disch := omega) only [eV_at, eV_up, o_lit2, o_add, o_sub, o_mul, o_neg, o_div, o_nat, ix_t, o_lt, o_le, o_eq, o_bi0, o_bi1, o_bib, em_t, o_neg1, o_shl, o_tb, o_tb0, o_tt, o_and, o_xor, o_or, o_max, o_min, an_tb, and_true, true_and, not_true, not_false, if_true, if_false, tn_add, tn_mul, Int.reduceToNat, tn_cast, md_x]
    exact ite_n c1 (⟨_, _, r1, ite_n c1 (⟨_, _, _, r2, ite_p rfl hr⟩)⟩)
theorem lw_271 (h : INV V) {i : Nat} (hi : i + 6 ≤ L) (hL : L ≤ 3072) : lwG L xs 271 V J tg i := by
  obtain ⟨v, U, W, J1, r1, r2, hI⟩ := c_part h (xs_rg (xs (i + 1))) (xs_rg (xs (i + 2))) (xs_rg (xs (i + 3))) (xs_rg (xs (i + 4))) (L := L) (xs := xs) (J := J) (tg := tg)
  simp only [Int32.ofInt_toInt] at r1 r2
  refine ⟨W, J1, tg, hI, fun r hr => ?_⟩
  apply sg_302_271 (d := 40)
  simp (disch := omega) only [eV_at, eV_up, o_lit2, o_add, o_sub, o_mul, o_neg, o_div, o_nat, ix_t, o_lt, o_le, o_eq, o_bi0, o_bi1, o_bib, em_t, o_neg1, o_shl, o_tb, o_tb0, o_tt, o_and, o_xor, o_or, o_max, o_min, an_tb, and_true, true_and, not_true, not_false, if_true, if_false, tn_add, tn_mul, Int.reduceToNat, tn_cast, md_x]
  exact ⟨_, _, r1, ⟨_, _, _, r2, ite_p rfl hr⟩⟩
theorem lw_324 (h : INV V) {i : Nat} (hi : i + 6 ≤ L) (hL : L ≤ 3072) : lwG L xs 324 V J tg i := by
  obtain ⟨v, U, W, J1, r1, r2, hI⟩ := c_clear h (xs_rg (xs (i + 1))) (L := L) (xs := xs) (J := J) (tg := tg)
  simp only [Int32.ofInt_toInt] at r1 r2
  refine ⟨W, J1, tg, hI, fun r hr => ?_⟩
  apply sg_302_324 (d := 40)
  simp (disch := omega) only [eV_at, eV_up, o_lit2, o_add, o_sub, o_mul, o_neg, o_div, o_nat, ix_t, o_lt, o_le, o_eq, o_bi0, o_bi1, o_bib, em_t, o_neg1, o_shl, o_tb, o_tb0, o_tt, o_and, o_xor, o_or, o_max, o_min, an_tb, and_true, true_and, not_true, not_false, if_true, if_false, tn_add, tn_mul, Int.reduceToNat, tn_cast, md_x]
  exact ⟨_, _, r1, ⟨_, _, _, r2, ite_p rfl hr⟩⟩
theorem lw_347 (h : INV V) {i : Nat} (hi : i + 6 ≤ L) (hL : L ≤ 3072) : lwG L xs 347 V J tg i := by
  obtain ⟨v, U, W, J1, r1, r2, hI⟩ := c_colour h (xs_rg (xs (i + 1))) (xs_rg (xs (i + 2))) (L := L) (xs := xs) (J := J) (tg := tg)
  simp only [Int32.ofInt_toInt] at r1 r2
  refine ⟨W, J1, tg, hI, fun r hr => ?_⟩
  apply sg_302_347 (d := 40)
  simp (disch := omega) only [eV_at, eV_up, o_lit2, o_add, o_sub, o_mul, o_neg, o_div, o_nat, ix_t, o_lt, o_le, o_eq, o_bi0, o_bi1, o_bib, em_t, o_neg1, o_shl, o_tb, o_tb0, o_tt, o_and, o_xor, o_or, o_max, o_min, an_tb, and_true, true_and, not_true, not_false, if_true, if_false, tn_add, tn_mul, Int.reduceToNat, tn_cast, md_x]
  exact ⟨_, _, r1, ⟨_, _, _, r2, ite_p rfl hr⟩⟩
theorem lw_380 (h : INV V) {i : Nat} (hi : i + 6 ≤ L) (hL : L ≤ 3072) : lwG L xs 380 V J tg i := by
  by_cases c3 : xs (i + 3) = 0
  · skip
    obtain ⟨v, U, W, J1, r1, r2, hI⟩ := c_means h (xs_rg (xs (i + 1))) (xs_rg (xs (i + 2))) (show -2147483648 ≤ (0 : Int) ∧ (0 : Int) < 2147483648 by decide) (L := L) (xs := xs) (J := J) (tg := tg)
    simp only [Int32.ofInt_toInt] at r1 r2
    refine ⟨W, J1, tg, hI, fun r hr => ?_⟩
    apply sg_302_380 (d := 40)
    simp (disch := omega) only [eV_at, eV_up, o_lit2, o_add, o_sub, o_mul, o_neg, o_div, o_nat, ix_t, o_lt, o_le, o_eq, o_bi0, o_bi1, o_bib, em_t, o_neg1, o_shl, o_tb, o_tb0, o_tt, o_and, o_xor, o_or, o_max, o_min, an_tb, and_true, true_and, not_true, not_false, if_true, if_false, tn_add, tn_mul, Int.reduceToNat, tn_cast, md_x]
    exact ite_p c3 (⟨_, _, r1, ite_p c3 (⟨_, _, _, r2, ite_p rfl hr⟩)⟩)
  · skip
    obtain ⟨v, U, W, J1, r1, r2, hI⟩ := c_means h (xs_rg (xs (i + 1))) (xs_rg (xs (i + 2))) (show -2147483648 ≤ (1 : Int) ∧ (1 : Int) < 2147483648 by decide) (L := L) (xs := xs) (J := J) (tg := tg)
    simp only [Int32.ofInt_toInt] at r1 r2
    refine ⟨W, J1, tg, hI, fun r hr => ?_⟩
    apply sg_302_380 (d := 40)
    simp (disch := omega) only [eV_at, eV_up, o_lit2, o_add, o_sub, o_mul, o_neg, o_div, o_nat, ix_t, o_lt, o_le, o_eq, o_bi0, o_bi1, o_bib, em_t, o_neg1, o_shl, o_tb, o_tb0, o_tt, o_and, o_xor, o_or, o_max, o_min, an_tb, and_true, true_and, not_true, not_false, if_true, if_false, tn_add, tn_mul, Int.reduceToNat, tn_cast, md_x]
    exact ite_n c3 (⟨_, _, r1, ite_n c3 (⟨_, _, _, r2, ite_p rfl hr⟩)⟩)
theorem lw_439 (h : INV V) {i : Nat} (hi : i + 6 ≤ L) (hL : L ≤ 3072) : lwG L xs 439 V J tg i := by
  obtain ⟨v, U, W, J1, r1, r2, hI⟩ := c_weights h (xs_rg (xs (i + 1))) (xs_rg (xs (i + 2))) (xs_rg (xs (i + 3))) (xs_rg (xs (i + 4))) (L := L) (xs := xs) (J := J) (tg := tg)
  simp only [Int32.ofInt_toInt] at r1 r2
  refine ⟨W, J1, tg, hI, fun r hr => ?_⟩
  apply sg_302_439 (d := 40)
  simp (disch := omega) only [eV_at, eV_up, o_lit2, o_add, o_sub, o_mul, o_neg, o_div, o_nat, ix_t, o_lt, o_le, o_eq, o_bi0, o_bi1, o_bib, em_t, o_neg1, o_shl, o_tb, o_tb0, o_tt, o_and, o_xor, o_or, o_max, o_min, an_tb, and_true, true_and, not_true, not_false, if_true, if_false, tn_add, tn_mul, Int.reduceToNat, tn_cast, md_x]
  exact ⟨_, _, r1, ⟨_, _, _, r2, ite_p rfl hr⟩⟩
theorem lw_492 (h : INV V) {i : Nat} (hi : i + 6 ≤ L) (hL : L ≤ 3072) : lwG L xs 492 V J tg i := by
  obtain ⟨v, U, W, J1, r1, r2, hI⟩ := c_far h (xs_rg (xs (i + 1))) (xs_rg (xs (i + 2))) (L := L) (xs := xs) (J := J) (tg := tg)
  simp only [Int32.ofInt_toInt] at r1 r2
  refine ⟨W, J1, tg, hI, fun r hr => ?_⟩
  apply sg_302_492 (d := 40)
  simp (disch := omega) only [eV_at, eV_up, o_lit2, o_add, o_sub, o_mul, o_neg, o_div, o_nat, ix_t, o_lt, o_le, o_eq, o_bi0, o_bi1, o_bib, em_t, o_neg1, o_shl, o_tb, o_tb0, o_tt, o_and, o_xor, o_or, o_max, o_min, an_tb, and_true, true_and, not_true, not_false, if_true, if_false, tn_add, tn_mul, Int.reduceToNat, tn_cast, md_x]
  exact ⟨_, _, r1, ⟨_, _, _, r2, ite_p rfl hr⟩⟩
theorem lw_525 (h : INV V) {i : Nat} (hi : i + 6 ≤ L) (hL : L ≤ 3072) : lwG L xs 525 V J tg i := by
  obtain ⟨v, U, W, J1, r1, r2, hI⟩ := c_land (z := (xs (i + 3)).toInt) h (xs_rg (xs (i + 1))) (xs_rg (xs (i + 2))) (L := L) (xs := xs) (J := J) (tg := tg)
  simp only [Int32.ofInt_toInt] at r1 r2
  refine ⟨W, J1, tg, hI, fun r hr => ?_⟩
  apply sg_302_525 (d := 40)
  simp (disch := omega) only [eV_at, eV_up, o_lit2, o_add, o_sub, o_mul, o_neg, o_div, o_nat, ix_t, o_lt, o_le, o_eq, o_bi0, o_bi1, o_bib, em_t, o_neg1, o_shl, o_tb, o_tb0, o_tt, o_and, o_xor, o_or, o_max, o_min, an_tb, and_true, true_and, not_true, not_false, if_true, if_false, tn_add, tn_mul, Int.reduceToNat, tn_cast, md_x]
  exact ⟨_, _, r1, ⟨_, _, _, r2, ite_p rfl hr⟩⟩
theorem lw_568 (h : INV V) {i : Nat} (hi : i + 6 ≤ L) (hL : L ≤ 3072) : lwG L xs 568 V J tg i := by
  obtain ⟨v, U, W, J1, r1, r2, hI⟩ := c_lean h (xs_rg (xs (i + 1))) (xs_rg (xs (i + 2))) (xs_rg (xs (i + 3))) (L := L) (xs := xs) (J := J) (tg := tg)
  simp only [Int32.ofInt_toInt] at r1 r2
  refine ⟨W, J1, tg, hI, fun r hr => ?_⟩
  apply sg_302_568 (d := 40)
  simp (disch := omega) only [eV_at, eV_up, o_lit2, o_add, o_sub, o_mul, o_neg, o_div, o_nat, ix_t, o_lt, o_le, o_eq, o_bi0, o_bi1, o_bib, em_t, o_neg1, o_shl, o_tb, o_tb0, o_tt, o_and, o_xor, o_or, o_max, o_min, an_tb, and_true, true_and, not_true, not_false, if_true, if_false, tn_add, tn_mul, Int.reduceToNat, tn_cast, md_x]
  exact ⟨_, _, r1, ⟨_, _, _, r2, ite_p rfl hr⟩⟩
theorem lw_611 (h : INV V) {i : Nat} (hi : i + 6 ≤ L) (hL : L ≤ 3072) : lwG L xs 611 V J tg i := by
  obtain ⟨v, U, W, J1, r1, r2, hI⟩ := c_rules h (xs_rg (xs (i + 1))) (xs_rg (xs (i + 2))) (xs_rg (xs (i + 3))) (xs_rg (xs (i + 4))) (L := L) (xs := xs) (J := J) (tg := tg)
  simp only [Int32.ofInt_toInt] at r1 r2
  refine ⟨W, J1, tg, hI, fun r hr => ?_⟩
  apply sg_302_611 (d := 40)
  simp (disch := omega) only [eV_at, eV_up, o_lit2, o_add, o_sub, o_mul, o_neg, o_div, o_nat, ix_t, o_lt, o_le, o_eq, o_bi0, o_bi1, o_bib, em_t, o_neg1, o_shl, o_tb, o_tb0, o_tt, o_and, o_xor, o_or, o_max, o_min, an_tb, and_true, true_and, not_true, not_false, if_true, if_false, tn_add, tn_mul, Int.reduceToNat, tn_cast, md_x]
  exact ⟨_, _, r1, ⟨_, _, _, r2, ite_p rfl hr⟩⟩
theorem lw_664 (h : INV V) {i : Nat} (hi : i + 6 ≤ L) (hL : L ≤ 3072) : lwG L xs 664 V J tg i := by
  obtain ⟨v, U, W, J1, r1, r2, hI⟩ := c_feed h (xs_rg (xs (i + 1))) (xs_rg (xs (i + 2))) (xs_rg (xs (i + 3))) (xs_rg (xs (i + 4))) (xs_rg (xs (i + 5))) (L := L) (xs := xs) (J := J) (tg := tg)
  simp only [Int32.ofInt_toInt] at r1 r2
  refine ⟨W, J1, tg, hI, fun r hr => ?_⟩
  apply sg_302_664 (d := 40)
  simp (disch := omega) only [eV_at, eV_up, o_lit2, o_add, o_sub, o_mul, o_neg, o_div, o_nat, ix_t, o_lt, o_le, o_eq, o_bi0, o_bi1, o_bib, em_t, o_neg1, o_shl, o_tb, o_tb0, o_tt, o_and, o_xor, o_or, o_max, o_min, an_tb, and_true, true_and, not_true, not_false, if_true, if_false, tn_add, tn_mul, Int.reduceToNat, tn_cast, md_x]
  exact ⟨_, _, r1, ⟨_, _, _, r2, ite_p rfl hr⟩⟩
theorem lw_727 (h : INV V) {i : Nat} (hi : i + 6 ≤ L) (hL : L ≤ 3072) : lwG L xs 727 V J tg i := by
  obtain ⟨v, U, W, J1, r1, r2, hI⟩ := c_end h (xs_rg (xs (i + 1))) (L := L) (xs := xs) (J := J) (tg := tg)
  simp only [Int32.ofInt_toInt] at r1 r2
  refine ⟨W, J1, tg, hI, fun r hr => ?_⟩
  apply sg_302_727 (d := 40)
  simp (disch := omega) only [eV_at, eV_up, o_lit2, o_add, o_sub, o_mul, o_neg, o_div, o_nat, ix_t, o_lt, o_le, o_eq, o_bi0, o_bi1, o_bib, em_t, o_neg1, o_shl, o_tb, o_tb0, o_tt, o_and, o_xor, o_or, o_max, o_min, an_tb, and_true, true_and, not_true, not_false, if_true, if_false, tn_add, tn_mul, Int.reduceToNat, tn_cast, md_x]
  exact ⟨_, _, r1, ⟨_, _, _, r2, ite_p rfl hr⟩⟩
theorem lw_750 (h : INV V) {i : Nat} (hi : i + 6 ≤ L) (hL : L ≤ 3072) : lwG L xs 750 V J tg i := by
  obtain ⟨v, U, W, J1, tg1, r1, r2, hI⟩ := c_grammar h (L := L) (xs := xs) (J := J) (tg := tg)
  refine ⟨W, J1, tg1, hI, fun r hr => ?_⟩
  apply sg_302_750 (d := 40)
  exact ⟨_, _, _, r1, ⟨_, _, _, r2, ite_p rfl hr⟩⟩
theorem lw_763 (h : INV V) {i : Nat} (hi : i + 6 ≤ L) (hL : L ≤ 3072) : lwG L xs 763 V J tg i := by
  obtain ⟨v, U, W, J1, r1, r2, hI⟩ := c_fault h (xs_rg (xs (i + 1))) (L := L) (xs := xs) (J := J) (tg := tg)
  simp only [Int32.ofInt_toInt] at r1 r2
  refine ⟨W, J1, tg, hI, fun r hr => ?_⟩
  apply sg_302_763 (d := 40)
  simp (disch := omega) only [eV_at, eV_up, o_lit2, o_add, o_sub, o_mul, o_neg, o_div, o_nat, ix_t, o_lt, o_le, o_eq, o_bi0, o_bi1, o_bib, em_t, o_neg1, o_shl, o_tb, o_tb0, o_tt, o_and, o_xor, o_or, o_max, o_min, an_tb, and_true, true_and, not_true, not_false, if_true, if_false, tn_add, tn_mul, Int.reduceToNat, tn_cast, md_x]
  exact ⟨_, _, r1, ⟨_, _, _, r2, ite_p rfl hr⟩⟩
theorem lw_786 (h : INV V) {i : Nat} (hi : i + 6 ≤ L) (hL : L ≤ 3072) : lwG L xs 786 V J tg i := by
  obtain ⟨v, U, W, J1, r1, r2, hI⟩ := c_by h (xs_rg (xs (i + 1))) (L := L) (xs := xs) (J := J) (tg := tg)
  simp only [Int32.ofInt_toInt] at r1 r2
  refine ⟨W, J1, tg, hI, fun r hr => ?_⟩
  apply sg_302_786 (d := 40)
  simp (disch := omega) only [eV_at, eV_up, o_lit2, o_add, o_sub, o_mul, o_neg, o_div, o_nat, ix_t, o_lt, o_le, o_eq, o_bi0, o_bi1, o_bib, em_t, o_neg1, o_shl, o_tb, o_tb0, o_tt, o_and, o_xor, o_or, o_max, o_min, an_tb, and_true, true_and, not_true, not_false, if_true, if_false, tn_add, tn_mul, Int.reduceToNat, tn_cast, md_x]
  exact ⟨_, _, r1, ⟨_, _, _, r2, ite_p rfl hr⟩⟩
theorem lw_809 (h : INV V) {i : Nat} (hi : i + 6 ≤ L) (hL : L ≤ 3072) : lwG L xs 809 V J tg i := by
  obtain ⟨v, U, W, J1, r1, r2, hI⟩ := c_taken h (xs_rg (xs (i + 1))) (xs_rg (xs (i + 2))) (xs_rg (xs (i + 3))) (L := L) (xs := xs) (J := J) (tg := tg)
  simp only [Int32.ofInt_toInt] at r1 r2
  refine ⟨W, J1, tg, hI, fun r hr => ?_⟩
  apply sg_302_809 (d := 40)
  simp (disch := omega) only [eV_at, eV_up, o_lit2, o_add, o_sub, o_mul, o_neg, o_div, o_nat, ix_t, o_lt, o_le, o_eq, o_bi0, o_bi1, o_bib, em_t, o_neg1, o_shl, o_tb, o_tb0, o_tt, o_and, o_xor, o_or, o_max, o_min, an_tb, and_true, true_and, not_true, not_false, if_true, if_false, tn_add, tn_mul, Int.reduceToNat, tn_cast, md_x]
  exact ⟨_, _, r1, ⟨_, _, _, r2, ite_p rfl hr⟩⟩
theorem lw_852 (h : INV V) {i : Nat} (hi : i + 6 ≤ L) (hL : L ≤ 3072) : lwG L xs 852 V J tg i := by
  obtain ⟨v, U, W, J1, r1, r2, hI⟩ := c_says h (xs_rg (xs (i + 1))) (xs_rg (xs (i + 2))) (L := L) (xs := xs) (J := J) (tg := tg)
  simp only [Int32.ofInt_toInt] at r1 r2
  refine ⟨W, J1, tg, hI, fun r hr => ?_⟩
  apply sg_302_852 (d := 40)
  simp (disch := omega) only [eV_at, eV_up, o_lit2, o_add, o_sub, o_mul, o_neg, o_div, o_nat, ix_t, o_lt, o_le, o_eq, o_bi0, o_bi1, o_bib, em_t, o_neg1, o_shl, o_tb, o_tb0, o_tt, o_and, o_xor, o_or, o_max, o_min, an_tb, and_true, true_and, not_true, not_false, if_true, if_false, tn_add, tn_mul, Int.reduceToNat, tn_cast, md_x]
  exact ⟨_, _, r1, ⟨_, _, _, r2, ite_p rfl hr⟩⟩
theorem lw_885 (h : INV V) {i : Nat} (hi : i + 6 ≤ L) (hL : L ≤ 3072) : lwG L xs 885 V J tg i := by
  obtain ⟨v, U, W, J1, r1, r2, hI⟩ := c_right h (xs_rg (xs (i + 1))) (xs_rg (xs (i + 2))) (xs_rg (xs (i + 3))) (L := L) (xs := xs) (J := J) (tg := tg)
  simp only [Int32.ofInt_toInt] at r1 r2
  refine ⟨W, J1, tg, hI, fun r hr => ?_⟩
  apply sg_302_885 (d := 40)
  simp (disch := omega) only [eV_at, eV_up, o_lit2, o_add, o_sub, o_mul, o_neg, o_div, o_nat, ix_t, o_lt, o_le, o_eq, o_bi0, o_bi1, o_bib, em_t, o_neg1, o_shl, o_tb, o_tb0, o_tt, o_and, o_xor, o_or, o_max, o_min, an_tb, and_true, true_and, not_true, not_false, if_true, if_false, tn_add, tn_mul, Int.reduceToNat, tn_cast, md_x]
  exact ⟨_, _, r1, ⟨_, _, _, r2, ite_p rfl hr⟩⟩
theorem lw_928 (h : INV V) {i : Nat} (hi : i + 6 ≤ L) (hL : L ≤ 3072) : lwG L xs 928 V J tg i := by
  obtain ⟨v, U, W, J1, r1, r2, hI⟩ := c_harm h (xs_rg (xs (i + 1))) (xs_rg (xs (i + 2))) (xs_rg (xs (i + 3))) (L := L) (xs := xs) (J := J) (tg := tg)
  simp only [Int32.ofInt_toInt] at r1 r2
  refine ⟨W, J1, tg, hI, fun r hr => ?_⟩
  apply sg_302_928 (d := 40)
  simp (disch := omega) only [eV_at, eV_up, o_lit2, o_add, o_sub, o_mul, o_neg, o_div, o_nat, ix_t, o_lt, o_le, o_eq, o_bi0, o_bi1, o_bib, em_t, o_neg1, o_shl, o_tb, o_tb0, o_tt, o_and, o_xor, o_or, o_max, o_min, an_tb, and_true, true_and, not_true, not_false, if_true, if_false, tn_add, tn_mul, Int.reduceToNat, tn_cast, md_x]
  exact ⟨_, _, r1, ⟨_, _, _, r2, ite_p rfl hr⟩⟩
theorem lw_971 (h : INV V) {i : Nat} (hi : i + 6 ≤ L) (hL : L ≤ 3072) : lwG L xs 971 V J tg i := by
  obtain ⟨v, U, W, J1, r1, r2, hI⟩ := c_odds h (xs_rg (xs (i + 1))) (xs_rg (xs (i + 2))) (xs_rg (xs (i + 3))) (L := L) (xs := xs) (J := J) (tg := tg)
  simp only [Int32.ofInt_toInt] at r1 r2
  refine ⟨W, J1, tg, hI, fun r hr => ?_⟩
  apply sg_302_971 (d := 40)
  simp (disch := omega) only [eV_at, eV_up, o_lit2, o_add, o_sub, o_mul, o_neg, o_div, o_nat, ix_t, o_lt, o_le, o_eq, o_bi0, o_bi1, o_bib, em_t, o_neg1, o_shl, o_tb, o_tb0, o_tt, o_and, o_xor, o_or, o_max, o_min, an_tb, and_true, true_and, not_true, not_false, if_true, if_false, tn_add, tn_mul, Int.reduceToNat, tn_cast, md_x]
  exact ⟨_, _, r1, ⟨_, _, _, r2, ite_p rfl hr⟩⟩
theorem lw_1014 (h : INV V) {i : Nat} (hi : i + 6 ≤ L) (hL : L ≤ 3072) : lwG L xs 1014 V J tg i := by
  obtain ⟨v, U, W, J1, r1, r2, hI⟩ := c_stock h (xs_rg (xs (i + 1))) (xs_rg (xs (i + 2))) (xs_rg (xs (i + 3))) (L := L) (xs := xs) (J := J) (tg := tg)
  simp only [Int32.ofInt_toInt] at r1 r2
  refine ⟨W, J1, tg, hI, fun r hr => ?_⟩
  apply sg_302_1014 (d := 40)
  simp (disch := omega) only [eV_at, eV_up, o_lit2, o_add, o_sub, o_mul, o_neg, o_div, o_nat, ix_t, o_lt, o_le, o_eq, o_bi0, o_bi1, o_bib, em_t, o_neg1, o_shl, o_tb, o_tb0, o_tt, o_and, o_xor, o_or, o_max, o_min, an_tb, and_true, true_and, not_true, not_false, if_true, if_false, tn_add, tn_mul, Int.reduceToNat, tn_cast, md_x]
  exact ⟨_, _, r1, ⟨_, _, _, r2, ite_p rfl hr⟩⟩
theorem lw_1057 (h : INV V) {i : Nat} (hi : i + 6 ≤ L) (hL : L ≤ 3072) : lwG L xs 1057 V J tg i := by
  obtain ⟨v, U, W, J1, r1, r2, hI⟩ := c_made h (xs_rg (xs (i + 1))) (xs_rg (xs (i + 2))) (xs_rg (xs (i + 3))) (L := L) (xs := xs) (J := J) (tg := tg)
  simp only [Int32.ofInt_toInt] at r1 r2
  refine ⟨W, J1, tg, hI, fun r hr => ?_⟩
  apply sg_302_1057 (d := 40)
  simp (disch := omega) only [eV_at, eV_up, o_lit2, o_add, o_sub, o_mul, o_neg, o_div, o_nat, ix_t, o_lt, o_le, o_eq, o_bi0, o_bi1, o_bib, em_t, o_neg1, o_shl, o_tb, o_tb0, o_tt, o_and, o_xor, o_or, o_max, o_min, an_tb, and_true, true_and, not_true, not_false, if_true, if_false, tn_add, tn_mul, Int.reduceToNat, tn_cast, md_x]
  exact ⟨_, _, r1, ⟨_, _, _, r2, ite_p rfl hr⟩⟩
theorem lw_1100 (h : INV V) {i : Nat} (hi : i + 6 ≤ L) (hL : L ≤ 3072) : lwG L xs 1100 V J tg i := by
  obtain ⟨v, U, W, J1, r1, r2, hI⟩ := c_least h (xs_rg (xs (i + 1))) (xs_rg (xs (i + 2))) (L := L) (xs := xs) (J := J) (tg := tg)
  simp only [Int32.ofInt_toInt] at r1 r2
  refine ⟨W, J1, tg, hI, fun r hr => ?_⟩
  apply sg_302_1100 (d := 40)
  simp (disch := omega) only [eV_at, eV_up, o_lit2, o_add, o_sub, o_mul, o_neg, o_div, o_nat, ix_t, o_lt, o_le, o_eq, o_bi0, o_bi1, o_bib, em_t, o_neg1, o_shl, o_tb, o_tb0, o_tt, o_and, o_xor, o_or, o_max, o_min, an_tb, and_true, true_and, not_true, not_false, if_true, if_false, tn_add, tn_mul, Int.reduceToNat, tn_cast, md_x]
  exact ⟨_, _, r1, ⟨_, _, _, r2, ite_p rfl hr⟩⟩
theorem lw_1133 (h : INV V) {i : Nat} (hi : i + 6 ≤ L) (hL : L ≤ 3072) : lwG L xs 1133 V J tg i := by
  obtain ⟨v, U, W, J1, r1, r2, hI⟩ := c_candidate h (xs_rg (xs (i + 1))) (xs_rg (xs (i + 2))) (L := L) (xs := xs) (J := J) (tg := tg)
  simp only [Int32.ofInt_toInt] at r1 r2
  refine ⟨W, J1, tg, hI, fun r hr => ?_⟩
  apply sg_302_1133 (d := 40)
  simp (disch := omega) only [eV_at, eV_up, o_lit2, o_add, o_sub, o_mul, o_neg, o_div, o_nat, ix_t, o_lt, o_le, o_eq, o_bi0, o_bi1, o_bib, em_t, o_neg1, o_shl, o_tb, o_tb0, o_tt, o_and, o_xor, o_or, o_max, o_min, an_tb, and_true, true_and, not_true, not_false, if_true, if_false, tn_add, tn_mul, Int.reduceToNat, tn_cast, md_x]
  exact ⟨_, _, r1, ⟨_, _, _, r2, ite_p rfl hr⟩⟩
theorem lw_1166 (h : INV V) {i : Nat} (hi : i + 6 ≤ L) (hL : L ≤ 3072) : lwG L xs 1166 V J tg i := by
  obtain ⟨v, U, W, J1, r1, r2, hI⟩ := c_choice h (xs_rg (xs (i + 1))) (L := L) (xs := xs) (J := J) (tg := tg)
  simp only [Int32.ofInt_toInt] at r1 r2
  refine ⟨W, J1, tg, hI, fun r hr => ?_⟩
  apply sg_302_1166 (d := 40)
  simp (disch := omega) only [eV_at, eV_up, o_lit2, o_add, o_sub, o_mul, o_neg, o_div, o_nat, ix_t, o_lt, o_le, o_eq, o_bi0, o_bi1, o_bib, em_t, o_neg1, o_shl, o_tb, o_tb0, o_tt, o_and, o_xor, o_or, o_max, o_min, an_tb, and_true, true_and, not_true, not_false, if_true, if_false, tn_add, tn_mul, Int.reduceToNat, tn_cast, md_x]
  exact ⟨_, _, r1, ⟨_, _, _, r2, ite_p rfl hr⟩⟩
theorem lw_1189 (h : INV V) {i : Nat} (hi : i + 6 ≤ L) (hL : L ≤ 3072) : lwG L xs 1189 V J tg i := by
  obtain ⟨v, U, W, J1, r1, r2, hI⟩ := c_bars h (xs_rg (xs (i + 1))) (L := L) (xs := xs) (J := J) (tg := tg)
  simp only [Int32.ofInt_toInt] at r1 r2
  refine ⟨W, J1, tg, hI, fun r hr => ?_⟩
  apply sg_302_1189 (d := 40)
  simp (disch := omega) only [eV_at, eV_up, o_lit2, o_add, o_sub, o_mul, o_neg, o_div, o_nat, ix_t, o_lt, o_le, o_eq, o_bi0, o_bi1, o_bib, em_t, o_neg1, o_shl, o_tb, o_tb0, o_tt, o_and, o_xor, o_or, o_max, o_min, an_tb, and_true, true_and, not_true, not_false, if_true, if_false, tn_add, tn_mul, Int.reduceToNat, tn_cast, md_x]
  exact ⟨_, _, r1, ⟨_, _, _, r2, ite_p rfl hr⟩⟩
theorem lw_1212 (h : INV V) {i : Nat} (hi : i + 6 ≤ L) (hL : L ≤ 3072) : lwG L xs 1212 V J tg i := by
  obtain ⟨v, U, W, J1, r1, r2, hI⟩ := c_group h (xs_rg (xs (i + 1))) (xs_rg (xs (i + 2))) (L := L) (xs := xs) (J := J) (tg := tg)
  simp only [Int32.ofInt_toInt] at r1 r2
  refine ⟨W, J1, tg, hI, fun r hr => ?_⟩
  apply sg_302_1212 (d := 40)
  simp (disch := omega) only [eV_at, eV_up, o_lit2, o_add, o_sub, o_mul, o_neg, o_div, o_nat, ix_t, o_lt, o_le, o_eq, o_bi0, o_bi1, o_bib, em_t, o_neg1, o_shl, o_tb, o_tb0, o_tt, o_and, o_xor, o_or, o_max, o_min, an_tb, and_true, true_and, not_true, not_false, if_true, if_false, tn_add, tn_mul, Int.reduceToNat, tn_cast, md_x]
  exact ⟨_, _, r1, ⟨_, _, _, r2, ite_p rfl hr⟩⟩
theorem lw_1245 (h : INV V) {i : Nat} (hi : i + 6 ≤ L) (hL : L ≤ 3072) : lwG L xs 1245 V J tg i := by
  obtain ⟨v, U, W, J1, r1, r2, hI⟩ := c_hang h (xs_rg (xs (i + 1))) (L := L) (xs := xs) (J := J) (tg := tg)
  simp only [Int32.ofInt_toInt] at r1 r2
  refine ⟨W, J1, tg, hI, fun r hr => ?_⟩
  apply sg_302_1245 (d := 40)
  simp (disch := omega) only [eV_at, eV_up, o_lit2, o_add, o_sub, o_mul, o_neg, o_div, o_nat, ix_t, o_lt, o_le, o_eq, o_bi0, o_bi1, o_bib, em_t, o_neg1, o_shl, o_tb, o_tb0, o_tt, o_and, o_xor, o_or, o_max, o_min, an_tb, and_true, true_and, not_true, not_false, if_true, if_false, tn_add, tn_mul, Int.reduceToNat, tn_cast, md_x]
  exact ⟨_, _, r1, ⟨_, _, _, r2, ite_p rfl hr⟩⟩
theorem lw_1268 (h : INV V) {i : Nat} (hi : i + 6 ≤ L) (hL : L ≤ 3072) : lwG L xs 1268 V J tg i := by
  obtain ⟨v, U, W, J1, r1, r2, hI⟩ := c_unhang h (L := L) (xs := xs) (J := J) (tg := tg)
  refine ⟨W, J1, tg, hI, fun r hr => ?_⟩
  apply sg_302_1268 (d := 40)
  exact ⟨_, _, r1, ⟨_, _, _, r2, ite_p rfl hr⟩⟩
theorem lw_1281 (h : INV V) {i : Nat} (hi : i + 6 ≤ L) (hL : L ≤ 3072) : lwG L xs 1281 V J tg i := by
  obtain ⟨v, U, W, J1, r1, r2, hI⟩ := c_among h (xs_rg (xs (i + 1))) (xs_rg (xs (i + 2))) (xs_rg (xs (i + 3))) (L := L) (xs := xs) (J := J) (tg := tg)
  simp only [Int32.ofInt_toInt] at r1 r2
  refine ⟨W, J1, tg, hI, fun r hr => ?_⟩
  apply sg_302_1281 (d := 40)
  simp (disch := omega) only [eV_at, eV_up, o_lit2, o_add, o_sub, o_mul, o_neg, o_div, o_nat, ix_t, o_lt, o_le, o_eq, o_bi0, o_bi1, o_bib, em_t, o_neg1, o_shl, o_tb, o_tb0, o_tt, o_and, o_xor, o_or, o_max, o_min, an_tb, and_true, true_and, not_true, not_false, if_true, if_false, tn_add, tn_mul, Int.reduceToNat, tn_cast, md_x]
  exact ⟨_, _, r1, ⟨_, _, _, r2, ite_p rfl hr⟩⟩
theorem lw_1324 (h : INV V) {i : Nat} (hi : i + 6 ≤ L) (hL : L ≤ 3072) : lwG L xs 1324 V J tg i := by
  obtain ⟨v, U, W, J1, r1, r2, hI⟩ := c_order h (xs_rg (xs (i + 1))) (xs_rg (xs (i + 2))) (L := L) (xs := xs) (J := J) (tg := tg)
  simp only [Int32.ofInt_toInt] at r1 r2
  refine ⟨W, J1, tg, hI, fun r hr => ?_⟩
  apply sg_302_1324 (d := 40)
  simp (disch := omega) only [eV_at, eV_up, o_lit2, o_add, o_sub, o_mul, o_neg, o_div, o_nat, ix_t, o_lt, o_le, o_eq, o_bi0, o_bi1, o_bib, em_t, o_neg1, o_shl, o_tb, o_tb0, o_tt, o_and, o_xor, o_or, o_max, o_min, an_tb, and_true, true_and, not_true, not_false, if_true, if_false, tn_add, tn_mul, Int.reduceToNat, tn_cast, md_x]
  exact ⟨_, _, r1, ⟨_, _, _, r2, ite_p rfl hr⟩⟩
theorem lw_1357 (h : INV V) {i : Nat} (hi : i + 6 ≤ L) (hL : L ≤ 3072) : lwG L xs 1357 V J tg i := by
  obtain ⟨v, U, W, J1, r1, r2, hI⟩ := c_worn h (xs_rg (xs (i + 1))) (xs_rg (xs (i + 2))) (xs_rg (xs (i + 3))) (xs_rg (xs (i + 4))) (L := L) (xs := xs) (J := J) (tg := tg)
  simp only [Int32.ofInt_toInt] at r1 r2
  refine ⟨W, J1, tg, hI, fun r hr => ?_⟩
  apply sg_302_1357 (d := 40)
  simp (disch := omega) only [eV_at, eV_up, o_lit2, o_add, o_sub, o_mul, o_neg, o_div, o_nat, ix_t, o_lt, o_le, o_eq, o_bi0, o_bi1, o_bib, em_t, o_neg1, o_shl, o_tb, o_tb0, o_tt, o_and, o_xor, o_or, o_max, o_min, an_tb, and_true, true_and, not_true, not_false, if_true, if_false, tn_add, tn_mul, Int.reduceToNat, tn_cast, md_x]
  exact ⟨_, _, r1, ⟨_, _, _, r2, ite_p rfl hr⟩⟩
theorem lw_1410 (h : INV V) {i : Nat} (hi : i + 6 ≤ L) (hL : L ≤ 3072) : lwG L xs 1410 V J tg i := by
  obtain ⟨v, U, W, J1, r1, r2, hI⟩ := c_teach h (xs_rg (xs (i + 1))) (xs_rg (xs (i + 2))) (L := L) (xs := xs) (J := J) (tg := tg)
  simp only [Int32.ofInt_toInt] at r1 r2
  refine ⟨W, J1, tg, hI, fun r hr => ?_⟩
  apply sg_302_1410 (d := 40)
  simp (disch := omega) only [eV_at, eV_up, o_lit2, o_add, o_sub, o_mul, o_neg, o_div, o_nat, ix_t, o_lt, o_le, o_eq, o_bi0, o_bi1, o_bib, em_t, o_neg1, o_shl, o_tb, o_tb0, o_tt, o_and, o_xor, o_or, o_max, o_min, an_tb, and_true, true_and, not_true, not_false, if_true, if_false, tn_add, tn_mul, Int.reduceToNat, tn_cast, md_x]
  exact ⟨_, _, r1, ⟨_, _, _, r2, ite_p rfl hr⟩⟩
theorem lw_1443 (h : INV V) {i : Nat} (hi : i + 6 ≤ L) (hL : L ≤ 3072) : lwG L xs 1443 V J tg i := by
  obtain ⟨v, U, W, J1, r1, r2, hI⟩ := c_weeks h (xs_rg (xs (i + 1))) (L := L) (xs := xs) (J := J) (tg := tg)
  simp only [Int32.ofInt_toInt] at r1 r2
  refine ⟨W, J1, tg, hI, fun r hr => ?_⟩
  apply sg_302_1443 (d := 40)
  simp (disch := omega) only [eV_at, eV_up, o_lit2, o_add, o_sub, o_mul, o_neg, o_div, o_nat, ix_t, o_lt, o_le, o_eq, o_bi0, o_bi1, o_bib, em_t, o_neg1, o_shl, o_tb, o_tb0, o_tt, o_and, o_xor, o_or, o_max, o_min, an_tb, and_true, true_and, not_true, not_false, if_true, if_false, tn_add, tn_mul, Int.reduceToNat, tn_cast, md_x]
  exact ⟨_, _, r1, ⟨_, _, _, r2, ite_p rfl hr⟩⟩
theorem lw_1466 (h : INV V) {i : Nat} (hi : i + 6 ≤ L) (hL : L ≤ 3072) : lwG L xs 1466 V J tg i := by
  obtain ⟨v, U, W, J1, r1, r2, hI⟩ := c_tellings h (xs_rg (xs (i + 1))) (xs_rg (xs (i + 2))) (xs_rg (xs (i + 3))) (L := L) (xs := xs) (J := J) (tg := tg)
  simp only [Int32.ofInt_toInt] at r1 r2
  refine ⟨W, J1, tg, hI, fun r hr => ?_⟩
  apply sg_302_1466 (d := 40)
  simp (disch := omega) only [eV_at, eV_up, o_lit2, o_add, o_sub, o_mul, o_neg, o_div, o_nat, ix_t, o_lt, o_le, o_eq, o_bi0, o_bi1, o_bib, em_t, o_neg1, o_shl, o_tb, o_tb0, o_tt, o_and, o_xor, o_or, o_max, o_min, an_tb, and_true, true_and, not_true, not_false, if_true, if_false, tn_add, tn_mul, Int.reduceToNat, tn_cast, md_x]
  exact ⟨_, _, r1, ⟨_, _, _, r2, ite_p rfl hr⟩⟩
theorem lw_1509 (h : INV V) {i : Nat} (hi : i + 6 ≤ L) (hL : L ≤ 3072) : lwG L xs 1509 V J tg i := by
  obtain ⟨v, U, W, J1, r1, r2, hI⟩ := c_anybody h (xs_rg (xs (i + 1))) (xs_rg (xs (i + 2))) (xs_rg (xs (i + 3))) (xs_rg (xs (i + 4))) (L := L) (xs := xs) (J := J) (tg := tg)
  simp only [Int32.ofInt_toInt] at r1 r2
  refine ⟨W, J1, tg, hI, fun r hr => ?_⟩
  apply sg_302_1509 (d := 40)
  simp (disch := omega) only [eV_at, eV_up, o_lit2, o_add, o_sub, o_mul, o_neg, o_div, o_nat, ix_t, o_lt, o_le, o_eq, o_bi0, o_bi1, o_bib, em_t, o_neg1, o_shl, o_tb, o_tb0, o_tt, o_and, o_xor, o_or, o_max, o_min, an_tb, and_true, true_and, not_true, not_false, if_true, if_false, tn_add, tn_mul, Int.reduceToNat, tn_cast, md_x]
  exact ⟨_, _, r1, ⟨_, _, _, r2, ite_p rfl hr⟩⟩
theorem lw_1562 (h : INV V) {i : Nat} (hi : i + 6 ≤ L) (hL : L ≤ 3072) : lwG L xs 1562 V J tg i := by
  obtain ⟨v, U, W, J1, r1, r2, hI⟩ := c_best h (xs_rg (xs (i + 1))) (xs_rg (xs (i + 2))) (xs_rg (xs (i + 3))) (L := L) (xs := xs) (J := J) (tg := tg)
  simp only [Int32.ofInt_toInt] at r1 r2
  refine ⟨W, J1, tg, hI, fun r hr => ?_⟩
  apply sg_302_1562 (d := 40)
  simp (disch := omega) only [eV_at, eV_up, o_lit2, o_add, o_sub, o_mul, o_neg, o_div, o_nat, ix_t, o_lt, o_le, o_eq, o_bi0, o_bi1, o_bib, em_t, o_neg1, o_shl, o_tb, o_tb0, o_tt, o_and, o_xor, o_or, o_max, o_min, an_tb, and_true, true_and, not_true, not_false, if_true, if_false, tn_add, tn_mul, Int.reduceToNat, tn_cast, md_x]
  exact ⟨_, _, r1, ⟨_, _, _, r2, ite_p rfl hr⟩⟩
theorem lw_1605 (h : INV V) {i : Nat} (hi : i + 6 ≤ L) (hL : L ≤ 3072) : lwG L xs 1605 V J tg i := by
  obtain ⟨v, U, W, J1, r1, r2, hI⟩ := c_days h (xs_rg (xs (i + 1))) (L := L) (xs := xs) (J := J) (tg := tg)
  simp only [Int32.ofInt_toInt] at r1 r2
  refine ⟨W, J1, tg, hI, fun r hr => ?_⟩
  apply sg_302_1605 (d := 40)
  simp (disch := omega) only [eV_at, eV_up, o_lit2, o_add, o_sub, o_mul, o_neg, o_div, o_nat, ix_t, o_lt, o_le, o_eq, o_bi0, o_bi1, o_bib, em_t, o_neg1, o_shl, o_tb, o_tb0, o_tt, o_and, o_xor, o_or, o_max, o_min, an_tb, and_true, true_and, not_true, not_false, if_true, if_false, tn_add, tn_mul, Int.reduceToNat, tn_cast, md_x]
  exact ⟨_, _, r1, ⟨_, _, _, r2, ite_p rfl hr⟩⟩
theorem lw_1628 (h : INV V) {i : Nat} (hi : i + 6 ≤ L) (hL : L ≤ 3072) : lwG L xs 1628 V J tg i := by
  obtain ⟨v, U, W, J1, r1, r2, hI⟩ := c_answer h (xs_rg (xs (i + 1))) (xs_rg (xs (i + 2))) (xs_rg (xs (i + 3))) (xs_rg (xs (i + 4))) (L := L) (xs := xs) (J := J) (tg := tg)
  simp only [Int32.ofInt_toInt] at r1 r2
  refine ⟨W, J1, tg, hI, fun r hr => ?_⟩
  apply sg_302_1628 (d := 40)
  simp (disch := omega) only [eV_at, eV_up, o_lit2, o_add, o_sub, o_mul, o_neg, o_div, o_nat, ix_t, o_lt, o_le, o_eq, o_bi0, o_bi1, o_bib, em_t, o_neg1, o_shl, o_tb, o_tb0, o_tt, o_and, o_xor, o_or, o_max, o_min, an_tb, and_true, true_and, not_true, not_false, if_true, if_false, tn_add, tn_mul, Int.reduceToNat, tn_cast, md_x]
  exact ⟨_, _, r1, ⟨_, _, _, r2, ite_p rfl hr⟩⟩
theorem lw_1681 (h : INV V) {i : Nat} (hi : i + 6 ≤ L) (hL : L ≤ 3072) : lwG L xs 1681 V J tg i := by
  obtain ⟨v, U, W, J1, r1, r2, hI⟩ := c_minds h (xs_rg (xs (i + 1))) (xs_rg (xs (i + 2))) (xs_rg (xs (i + 3))) (L := L) (xs := xs) (J := J) (tg := tg)
  simp only [Int32.ofInt_toInt] at r1 r2
  refine ⟨W, J1, tg, hI, fun r hr => ?_⟩
  apply sg_302_1681 (d := 40)
  simp (disch := omega) only [eV_at, eV_up, o_lit2, o_add, o_sub, o_mul, o_neg, o_div, o_nat, ix_t, o_lt, o_le, o_eq, o_bi0, o_bi1, o_bib, em_t, o_neg1, o_shl, o_tb, o_tb0, o_tt, o_and, o_xor, o_or, o_max, o_min, an_tb, and_true, true_and, not_true, not_false, if_true, if_false, tn_add, tn_mul, Int.reduceToNat, tn_cast, md_x]
  exact ⟨_, _, r1, ⟨_, _, _, r2, ite_p rfl hr⟩⟩
theorem lw_1724 (h : INV V) {i : Nat} (hi : i + 6 ≤ L) (hL : L ≤ 3072) : lwG L xs 1724 V J tg i := by
  obtain ⟨v, U, W, J1, r1, r2, hI⟩ := c_knows h (xs_rg (xs (i + 1))) (xs_rg (xs (i + 2))) (xs_rg (xs (i + 3))) (L := L) (xs := xs) (J := J) (tg := tg)
  simp only [Int32.ofInt_toInt] at r1 r2
  refine ⟨W, J1, tg, hI, fun r hr => ?_⟩
  apply sg_302_1724 (d := 40)
  simp (disch := omega) only [eV_at, eV_up, o_lit2, o_add, o_sub, o_mul, o_neg, o_div, o_nat, ix_t, o_lt, o_le, o_eq, o_bi0, o_bi1, o_bib, em_t, o_neg1, o_shl, o_tb, o_tb0, o_tt, o_and, o_xor, o_or, o_max, o_min, an_tb, and_true, true_and, not_true, not_false, if_true, if_false, tn_add, tn_mul, Int.reduceToNat, tn_cast, md_x]
  exact ⟨_, _, r1, ⟨_, _, _, r2, ite_p rfl hr⟩⟩
theorem lw_1767 (h : INV V) {i : Nat} (hi : i + 6 ≤ L) (hL : L ≤ 3072) : lwG L xs 1767 V J tg i := by
  obtain ⟨v, U, W, J1, r1, r2, hI⟩ := c_parts h (xs_rg (xs (i + 1))) (xs_rg (xs (i + 2))) (xs_rg (xs (i + 3))) (L := L) (xs := xs) (J := J) (tg := tg)
  simp only [Int32.ofInt_toInt] at r1 r2
  refine ⟨W, J1, tg, hI, fun r hr => ?_⟩
  apply sg_302_1767 (d := 40)
  simp (disch := omega) only [eV_at, eV_up, o_lit2, o_add, o_sub, o_mul, o_neg, o_div, o_nat, ix_t, o_lt, o_le, o_eq, o_bi0, o_bi1, o_bib, em_t, o_neg1, o_shl, o_tb, o_tb0, o_tt, o_and, o_xor, o_or, o_max, o_min, an_tb, and_true, true_and, not_true, not_false, if_true, if_false, tn_add, tn_mul, Int.reduceToNat, tn_cast, md_x]
  exact ⟨_, _, r1, ⟨_, _, _, r2, ite_p rfl hr⟩⟩
theorem lw_1810 (h : INV V) {i : Nat} (hi : i + 6 ≤ L) (hL : L ≤ 3072) : lwG L xs 1810 V J tg i := by
  obtain ⟨v, U, W, J1, r1, r2, hI⟩ := c_mended h (xs_rg (xs (i + 1))) (xs_rg (xs (i + 2))) (xs_rg (xs (i + 3))) (xs_rg (xs (i + 4))) (L := L) (xs := xs) (J := J) (tg := tg)
  simp only [Int32.ofInt_toInt] at r1 r2
  refine ⟨W, J1, tg, hI, fun r hr => ?_⟩
  apply sg_302_1810 (d := 40)
  simp (disch := omega) only [eV_at, eV_up, o_lit2, o_add, o_sub, o_mul, o_neg, o_div, o_nat, ix_t, o_lt, o_le, o_eq, o_bi0, o_bi1, o_bib, em_t, o_neg1, o_shl, o_tb, o_tb0, o_tt, o_and, o_xor, o_or, o_max, o_min, an_tb, and_true, true_and, not_true, not_false, if_true, if_false, tn_add, tn_mul, Int.reduceToNat, tn_cast, md_x]
  exact ⟨_, _, r1, ⟨_, _, _, r2, ite_p rfl hr⟩⟩
theorem lw_1863 (h : INV V) {i : Nat} (hi : i + 6 ≤ L) (hL : L ≤ 3072) : lwG L xs 1863 V J tg i := by
  obtain ⟨v, U, W, J1, r1, r2, hI⟩ := c_image h (L := L) (xs := xs) (J := J) (tg := tg)
  refine ⟨W, J1, tg, hI, fun r hr => ?_⟩
  apply sg_302_1863 (d := 40)
  exact ⟨_, _, r1, ⟨_, _, _, r2, ite_p rfl hr⟩⟩
theorem lw_1876 (h : INV V) {i : Nat} (hi : i + 6 ≤ L) (hL : L ≤ 3072) : lwG L xs 1876 V J tg i := by
  obtain ⟨v, U, W, J1, r1, r2, hI⟩ := c_back h (L := L) (xs := xs) (J := J) (tg := tg)
  refine ⟨W, J1, tg, hI, fun r hr => ?_⟩
  apply sg_302_1876 (d := 40)
  exact ⟨_, _, r1, ⟨_, _, _, r2, ite_p rfl hr⟩⟩
theorem lw_1889 (h : INV V) {i : Nat} (hi : i + 6 ≤ L) (hL : L ≤ 3072) : lwG L xs 1889 V J tg i := by
  obtain ⟨v, U, W, J1, r1, r2, hI⟩ := c_about h (xs_rg (xs (i + 1))) (L := L) (xs := xs) (J := J) (tg := tg)
  simp only [Int32.ofInt_toInt] at r1 r2
  refine ⟨W, J1, tg, hI, fun r hr => ?_⟩
  apply sg_302_1889 (d := 40)
  simp (disch := omega) only [eV_at, eV_up, o_lit2, o_add, o_sub, o_mul, o_neg, o_div, o_nat, ix_t, o_lt, o_le, o_eq, o_bi0, o_bi1, o_bib, em_t, o_neg1, o_shl, o_tb, o_tb0, o_tt, o_and, o_xor, o_or, o_max, o_min, an_tb, and_true, true_and, not_true, not_false, if_true, if_false, tn_add, tn_mul, Int.reduceToNat, tn_cast, md_x]
  exact ⟨_, _, r1, ⟨_, _, _, r2, ite_p rfl hr⟩⟩
theorem lw_e (hL : L ≤ 3072) {i : Nat} (hi3 : i ≤ 3100) (c : L < i + 6) : Runs (GW L xs) 41 302 (18, [.retAddr 0, .ref 0, .ref 93, (Value.int (Int32.ofInt ((i : Int))))], [], zS (eV V) J tg) (some (.int 1), zS (eV V) J tg) := by
  have hnI : nI L = Int32.ofInt (L : Int) := rfl
  apply sg_302_18 (d := 40)
  refine ite_p ?_ rfl
  rw [hnI]
  show Int32.ofInt (L : Int) - Int32.ofInt 6 < Int32.ofInt (i : Int)
  rw [o_sub, o_lt (by omega) (by omega)]
  omega
theorem lw_lp (hL : L ≤ 3072) : ∀ (n i : Nat) (V : Nat → Nat → Int) (J : Nat → Nat → Int64) (tg : Option Nat), L < i + 6 * n → i ≤ 3100 → INV V → ∃ (W : Nat → Nat → Int) (J1 : Nat → Nat → Int64) (tg1 : Option Nat), Runs (GW L xs) 41 302 (18, [.retAddr 0, .ref 0, .ref 93, (Value.int (Int32.ofInt ((i : Int))))], [], zS (eV V) J tg) (some (.int 1), zS (eV W) J1 tg1)
  | 0, i, V, J, tg, hn, hi3, hI => ⟨V, J, tg, lw_e hL hi3 (by omega)⟩
  | m + 1, i, V, J, tg, hn, hi3, hI => by
    have hnI : nI L = Int32.ofInt (L : Int) := rfl
    by_cases c : L < i + 6
    · exact ⟨V, J, tg, lw_e hL hi3 c⟩
    · skip
      have key : lwG L xs 18 V J tg i := by
        have hc : ¬ nI L - 6 < Int32.ofInt (i : Int) := by
          rw [hnI]
          show ¬ Int32.ofInt (L : Int) - Int32.ofInt 6 < Int32.ofInt (i : Int)
          rw [o_sub, o_lt (by omega) (by omega)]
          omega
        have ht : (Int32.ofInt (i : Int)).toNatClampNeg = i := by rw [o_nat (by omega)]; rfl
        have hb : ¬ (Int32.ofInt (i : Int) < 0 ∨ L ≤ (Int32.ofInt (i : Int)).toNatClampNeg) := by
          rw [ht]
          intro q
          rcases q with q | q
          · have q : Int32.ofInt (i : Int) < Int32.ofInt 0 := q
            rw [o_lt (by omega) (by omega)] at q
            omega
          · omega
        obtain ⟨x, hx⟩ : ∃ x, x = xs i &&& 63 := ⟨_, rfl⟩
        have sw : ∀ (pc : Nat) (k : Int), lwG L xs pc V J tg i → (∀ r, Runs (GW L xs) 41 302 (pc, [.retAddr 0, .ref 0, .ref 93, (Value.int (Int32.ofInt ((i : Int))))], [], zS (eV V) J tg) r → Runs (GW L xs) 41 302 (18, [.retAddr 0, .ref 0, .ref 93, (Value.int (Int32.ofInt ((i : Int))))], [], zS (eV V) J tg) r) → lwG L xs 18 V J tg i := fun pc k ⟨W, J1, tg1, h1, h2⟩ h3 => ⟨W, J1, tg1, h1, fun r hr => h3 r (h2 r hr)⟩
        by_cases cx : Int32.toInt x < 0 ∨ 45 < Int32.toInt x
        · refine ⟨V, J, tg, hI, fun r hr => ?_⟩
          refine sg_302_18 (d := 40) _ _ _ _ (ite_n hc ⟨hb, ?_⟩)
          rw [ht, ← hx]
          exact ite_p cx hr
        by_cases e0 : x = 0
        · refine sw 232 0 (lw_232 hI (by omega) hL) fun r hr => ?_
          refine sg_302_18 (d := 40) _ _ _ _ (ite_n hc ⟨hb, ?_⟩)
          rw [ht, ← hx]
          exact ite_n cx (ite_p e0 hr)
        by_cases e1 : x = 1
        · refine sw 271 1 (lw_271 hI (by omega) hL) fun r hr => ?_
          refine sg_302_18 (d := 40) _ _ _ _ (ite_n hc ⟨hb, ?_⟩)
          rw [ht, ← hx]
          exact ite_n cx (ite_n e0 (ite_p e1 hr))
        by_cases e2 : x = 2
        · refine sw 324 2 (lw_324 hI (by omega) hL) fun r hr => ?_
          refine sg_302_18 (d := 40) _ _ _ _ (ite_n hc ⟨hb, ?_⟩)
          rw [ht, ← hx]
          exact ite_n cx (ite_n e0 (ite_n e1 (ite_p e2 hr)))
        by_cases e3 : x = 3
        · refine sw 347 3 (lw_347 hI (by omega) hL) fun r hr => ?_
          refine sg_302_18 (d := 40) _ _ _ _ (ite_n hc ⟨hb, ?_⟩)
          rw [ht, ← hx]
          exact ite_n cx (ite_n e0 (ite_n e1 (ite_n e2 (ite_p e3 hr))))
        by_cases e4 : x = 4
        · refine sw 380 4 (lw_380 hI (by omega) hL) fun r hr => ?_
          refine sg_302_18 (d := 40) _ _ _ _ (ite_n hc ⟨hb, ?_⟩)
          rw [ht, ← hx]
          exact ite_n cx (ite_n e0 (ite_n e1 (ite_n e2 (ite_n e3 (ite_p e4 hr)))))
        by_cases e5 : x = 5
        · refine sw 439 5 (lw_439 hI (by omega) hL) fun r hr => ?_
          refine sg_302_18 (d := 40) _ _ _ _ (ite_n hc ⟨hb, ?_⟩)
          rw [ht, ← hx]
          exact ite_n cx (ite_n e0 (ite_n e1 (ite_n e2 (ite_n e3 (ite_n e4 (ite_p e5 hr))))))
        by_cases e6 : x = 6
        · refine sw 492 6 (lw_492 hI (by omega) hL) fun r hr => ?_
          refine sg_302_18 (d := 40) _ _ _ _ (ite_n hc ⟨hb, ?_⟩)
          rw [ht, ← hx]
          exact ite_n cx (ite_n e0 (ite_n e1 (ite_n e2 (ite_n e3 (ite_n e4 (ite_n e5 (ite_p e6 hr)))))))
        by_cases e7 : x = 7
        · refine sw 525 7 (lw_525 hI (by omega) hL) fun r hr => ?_
          refine sg_302_18 (d := 40) _ _ _ _ (ite_n hc ⟨hb, ?_⟩)
          rw [ht, ← hx]
          exact ite_n cx (ite_n e0 (ite_n e1 (ite_n e2 (ite_n e3 (ite_n e4 (ite_n e5 (ite_n e6 (ite_p e7 hr))))))))
        by_cases e8 : x = 8
        · refine sw 568 8 (lw_568 hI (by omega) hL) fun r hr => ?_
          refine sg_302_18 (d := 40) _ _ _ _ (ite_n hc ⟨hb, ?_⟩)
          rw [ht, ← hx]
          exact ite_n cx (ite_n e0 (ite_n e1 (ite_n e2 (ite_n e3 (ite_n e4 (ite_n e5 (ite_n e6 (ite_n e7 (ite_p e8 hr)))))))))
        by_cases e9 : x = 9
        · refine sw 611 9 (lw_611 hI (by omega) hL) fun r hr => ?_
          refine sg_302_18 (d := 40) _ _ _ _ (ite_n hc ⟨hb, ?_⟩)
          rw [ht, ← hx]
          exact ite_n cx (ite_n e0 (ite_n e1 (ite_n e2 (ite_n e3 (ite_n e4 (ite_n e5 (ite_n e6 (ite_n e7 (ite_n e8 (ite_p e9 hr))))))))))
        by_cases e10 : x = 10
        · refine sw 664 10 (lw_664 hI (by omega) hL) fun r hr => ?_
          refine sg_302_18 (d := 40) _ _ _ _ (ite_n hc ⟨hb, ?_⟩)
          rw [ht, ← hx]
          exact ite_n cx (ite_n e0 (ite_n e1 (ite_n e2 (ite_n e3 (ite_n e4 (ite_n e5 (ite_n e6 (ite_n e7 (ite_n e8 (ite_n e9 (ite_p e10 hr)))))))))))
        by_cases e11 : x = 11
        · refine sw 727 11 (lw_727 hI (by omega) hL) fun r hr => ?_
          refine sg_302_18 (d := 40) _ _ _ _ (ite_n hc ⟨hb, ?_⟩)
          rw [ht, ← hx]
          exact ite_n cx (ite_n e0 (ite_n e1 (ite_n e2 (ite_n e3 (ite_n e4 (ite_n e5 (ite_n e6 (ite_n e7 (ite_n e8 (ite_n e9 (ite_n e10 (ite_p e11 hr))))))))))))
        by_cases e12 : x = 12
        · refine sw 750 12 (lw_750 hI (by omega) hL) fun r hr => ?_
          refine sg_302_18 (d := 40) _ _ _ _ (ite_n hc ⟨hb, ?_⟩)
          rw [ht, ← hx]
          exact ite_n cx (ite_n e0 (ite_n e1 (ite_n e2 (ite_n e3 (ite_n e4 (ite_n e5 (ite_n e6 (ite_n e7 (ite_n e8 (ite_n e9 (ite_n e10 (ite_n e11 (ite_p e12 hr)))))))))))))
        by_cases e13 : x = 13
        · refine sw 763 13 (lw_763 hI (by omega) hL) fun r hr => ?_
          refine sg_302_18 (d := 40) _ _ _ _ (ite_n hc ⟨hb, ?_⟩)
          rw [ht, ← hx]
          exact ite_n cx (ite_n e0 (ite_n e1 (ite_n e2 (ite_n e3 (ite_n e4 (ite_n e5 (ite_n e6 (ite_n e7 (ite_n e8 (ite_n e9 (ite_n e10 (ite_n e11 (ite_n e12 (ite_p e13 hr))))))))))))))
        by_cases e14 : x = 14
        · refine sw 786 14 (lw_786 hI (by omega) hL) fun r hr => ?_
          refine sg_302_18 (d := 40) _ _ _ _ (ite_n hc ⟨hb, ?_⟩)
          rw [ht, ← hx]
          exact ite_n cx (ite_n e0 (ite_n e1 (ite_n e2 (ite_n e3 (ite_n e4 (ite_n e5 (ite_n e6 (ite_n e7 (ite_n e8 (ite_n e9 (ite_n e10 (ite_n e11 (ite_n e12 (ite_n e13 (ite_p e14 hr)))))))))))))))
        by_cases e15 : x = 15
        · refine sw 809 15 (lw_809 hI (by omega) hL) fun r hr => ?_
          refine sg_302_18 (d := 40) _ _ _ _ (ite_n hc ⟨hb, ?_⟩)
          rw [ht, ← hx]
          exact ite_n cx (ite_n e0 (ite_n e1 (ite_n e2 (ite_n e3 (ite_n e4 (ite_n e5 (ite_n e6 (ite_n e7 (ite_n e8 (ite_n e9 (ite_n e10 (ite_n e11 (ite_n e12 (ite_n e13 (ite_n e14 (ite_p e15 hr))))))))))))))))
        by_cases e16 : x = 16
        · refine sw 852 16 (lw_852 hI (by omega) hL) fun r hr => ?_
          refine sg_302_18 (d := 40) _ _ _ _ (ite_n hc ⟨hb, ?_⟩)
          rw [ht, ← hx]
          exact ite_n cx (ite_n e0 (ite_n e1 (ite_n e2 (ite_n e3 (ite_n e4 (ite_n e5 (ite_n e6 (ite_n e7 (ite_n e8 (ite_n e9 (ite_n e10 (ite_n e11 (ite_n e12 (ite_n e13 (ite_n e14 (ite_n e15 (ite_p e16 hr)))))))))))))))))
        by_cases e17 : x = 17
        · refine sw 885 17 (lw_885 hI (by omega) hL) fun r hr => ?_
          refine sg_302_18 (d := 40) _ _ _ _ (ite_n hc ⟨hb, ?_⟩)
          rw [ht, ← hx]
          exact ite_n cx (ite_n e0 (ite_n e1 (ite_n e2 (ite_n e3 (ite_n e4 (ite_n e5 (ite_n e6 (ite_n e7 (ite_n e8 (ite_n e9 (ite_n e10 (ite_n e11 (ite_n e12 (ite_n e13 (ite_n e14 (ite_n e15 (ite_n e16 (ite_p e17 hr))))))))))))))))))
        by_cases e18 : x = 18
        · refine sw 928 18 (lw_928 hI (by omega) hL) fun r hr => ?_
          refine sg_302_18 (d := 40) _ _ _ _ (ite_n hc ⟨hb, ?_⟩)
          rw [ht, ← hx]
          exact ite_n cx (ite_n e0 (ite_n e1 (ite_n e2 (ite_n e3 (ite_n e4 (ite_n e5 (ite_n e6 (ite_n e7 (ite_n e8 (ite_n e9 (ite_n e10 (ite_n e11 (ite_n e12 (ite_n e13 (ite_n e14 (ite_n e15 (ite_n e16 (ite_n e17 (ite_p e18 hr)))))))))))))))))))
        by_cases e19 : x = 19
        · refine sw 971 19 (lw_971 hI (by omega) hL) fun r hr => ?_
          refine sg_302_18 (d := 40) _ _ _ _ (ite_n hc ⟨hb, ?_⟩)
          rw [ht, ← hx]
          exact ite_n cx (ite_n e0 (ite_n e1 (ite_n e2 (ite_n e3 (ite_n e4 (ite_n e5 (ite_n e6 (ite_n e7 (ite_n e8 (ite_n e9 (ite_n e10 (ite_n e11 (ite_n e12 (ite_n e13 (ite_n e14 (ite_n e15 (ite_n e16 (ite_n e17 (ite_n e18 (ite_p e19 hr))))))))))))))))))))
        by_cases e20 : x = 20
        · refine sw 1014 20 (lw_1014 hI (by omega) hL) fun r hr => ?_
          refine sg_302_18 (d := 40) _ _ _ _ (ite_n hc ⟨hb, ?_⟩)
          rw [ht, ← hx]
          exact ite_n cx (ite_n e0 (ite_n e1 (ite_n e2 (ite_n e3 (ite_n e4 (ite_n e5 (ite_n e6 (ite_n e7 (ite_n e8 (ite_n e9 (ite_n e10 (ite_n e11 (ite_n e12 (ite_n e13 (ite_n e14 (ite_n e15 (ite_n e16 (ite_n e17 (ite_n e18 (ite_n e19 (ite_p e20 hr)))))))))))))))))))))
        by_cases e21 : x = 21
        · refine sw 1057 21 (lw_1057 hI (by omega) hL) fun r hr => ?_
          refine sg_302_18 (d := 40) _ _ _ _ (ite_n hc ⟨hb, ?_⟩)
          rw [ht, ← hx]
          exact ite_n cx (ite_n e0 (ite_n e1 (ite_n e2 (ite_n e3 (ite_n e4 (ite_n e5 (ite_n e6 (ite_n e7 (ite_n e8 (ite_n e9 (ite_n e10 (ite_n e11 (ite_n e12 (ite_n e13 (ite_n e14 (ite_n e15 (ite_n e16 (ite_n e17 (ite_n e18 (ite_n e19 (ite_n e20 (ite_p e21 hr))))))))))))))))))))))
        by_cases e22 : x = 22
        · refine sw 1100 22 (lw_1100 hI (by omega) hL) fun r hr => ?_
          refine sg_302_18 (d := 40) _ _ _ _ (ite_n hc ⟨hb, ?_⟩)
          rw [ht, ← hx]
          exact ite_n cx (ite_n e0 (ite_n e1 (ite_n e2 (ite_n e3 (ite_n e4 (ite_n e5 (ite_n e6 (ite_n e7 (ite_n e8 (ite_n e9 (ite_n e10 (ite_n e11 (ite_n e12 (ite_n e13 (ite_n e14 (ite_n e15 (ite_n e16 (ite_n e17 (ite_n e18 (ite_n e19 (ite_n e20 (ite_n e21 (ite_p e22 hr)))))))))))))))))))))))
        by_cases e23 : x = 23
        · refine sw 1133 23 (lw_1133 hI (by omega) hL) fun r hr => ?_
          refine sg_302_18 (d := 40) _ _ _ _ (ite_n hc ⟨hb, ?_⟩)
          rw [ht, ← hx]
          exact ite_n cx (ite_n e0 (ite_n e1 (ite_n e2 (ite_n e3 (ite_n e4 (ite_n e5 (ite_n e6 (ite_n e7 (ite_n e8 (ite_n e9 (ite_n e10 (ite_n e11 (ite_n e12 (ite_n e13 (ite_n e14 (ite_n e15 (ite_n e16 (ite_n e17 (ite_n e18 (ite_n e19 (ite_n e20 (ite_n e21 (ite_n e22 (ite_p e23 hr))))))))))))))))))))))))
        by_cases e24 : x = 24
        · refine sw 1166 24 (lw_1166 hI (by omega) hL) fun r hr => ?_
          refine sg_302_18 (d := 40) _ _ _ _ (ite_n hc ⟨hb, ?_⟩)
          rw [ht, ← hx]
          exact ite_n cx (ite_n e0 (ite_n e1 (ite_n e2 (ite_n e3 (ite_n e4 (ite_n e5 (ite_n e6 (ite_n e7 (ite_n e8 (ite_n e9 (ite_n e10 (ite_n e11 (ite_n e12 (ite_n e13 (ite_n e14 (ite_n e15 (ite_n e16 (ite_n e17 (ite_n e18 (ite_n e19 (ite_n e20 (ite_n e21 (ite_n e22 (ite_n e23 (ite_p e24 hr)))))))))))))))))))))))))
        by_cases e25 : x = 25
        · refine sw 1189 25 (lw_1189 hI (by omega) hL) fun r hr => ?_
          refine sg_302_18 (d := 40) _ _ _ _ (ite_n hc ⟨hb, ?_⟩)
          rw [ht, ← hx]
          exact ite_n cx (ite_n e0 (ite_n e1 (ite_n e2 (ite_n e3 (ite_n e4 (ite_n e5 (ite_n e6 (ite_n e7 (ite_n e8 (ite_n e9 (ite_n e10 (ite_n e11 (ite_n e12 (ite_n e13 (ite_n e14 (ite_n e15 (ite_n e16 (ite_n e17 (ite_n e18 (ite_n e19 (ite_n e20 (ite_n e21 (ite_n e22 (ite_n e23 (ite_n e24 (ite_p e25 hr))))))))))))))))))))))))))
        by_cases e26 : x = 26
        · refine sw 1212 26 (lw_1212 hI (by omega) hL) fun r hr => ?_
          refine sg_302_18 (d := 40) _ _ _ _ (ite_n hc ⟨hb, ?_⟩)
          rw [ht, ← hx]
          exact ite_n cx (ite_n e0 (ite_n e1 (ite_n e2 (ite_n e3 (ite_n e4 (ite_n e5 (ite_n e6 (ite_n e7 (ite_n e8 (ite_n e9 (ite_n e10 (ite_n e11 (ite_n e12 (ite_n e13 (ite_n e14 (ite_n e15 (ite_n e16 (ite_n e17 (ite_n e18 (ite_n e19 (ite_n e20 (ite_n e21 (ite_n e22 (ite_n e23 (ite_n e24 (ite_n e25 (ite_p e26 hr)))))))))))))))))))))))))))
        by_cases e27 : x = 27
        · refine sw 1245 27 (lw_1245 hI (by omega) hL) fun r hr => ?_
          refine sg_302_18 (d := 40) _ _ _ _ (ite_n hc ⟨hb, ?_⟩)
          rw [ht, ← hx]
          exact ite_n cx (ite_n e0 (ite_n e1 (ite_n e2 (ite_n e3 (ite_n e4 (ite_n e5 (ite_n e6 (ite_n e7 (ite_n e8 (ite_n e9 (ite_n e10 (ite_n e11 (ite_n e12 (ite_n e13 (ite_n e14 (ite_n e15 (ite_n e16 (ite_n e17 (ite_n e18 (ite_n e19 (ite_n e20 (ite_n e21 (ite_n e22 (ite_n e23 (ite_n e24 (ite_n e25 (ite_n e26 (ite_p e27 hr))))))))))))))))))))))))))))
        by_cases e28 : x = 28
        · refine sw 1268 28 (lw_1268 hI (by omega) hL) fun r hr => ?_
          refine sg_302_18 (d := 40) _ _ _ _ (ite_n hc ⟨hb, ?_⟩)
          rw [ht, ← hx]
          exact ite_n cx (ite_n e0 (ite_n e1 (ite_n e2 (ite_n e3 (ite_n e4 (ite_n e5 (ite_n e6 (ite_n e7 (ite_n e8 (ite_n e9 (ite_n e10 (ite_n e11 (ite_n e12 (ite_n e13 (ite_n e14 (ite_n e15 (ite_n e16 (ite_n e17 (ite_n e18 (ite_n e19 (ite_n e20 (ite_n e21 (ite_n e22 (ite_n e23 (ite_n e24 (ite_n e25 (ite_n e26 (ite_n e27 (ite_p e28 hr)))))))))))))))))))))))))))))
        by_cases e29 : x = 29
        · refine sw 1281 29 (lw_1281 hI (by omega) hL) fun r hr => ?_
          refine sg_302_18 (d := 40) _ _ _ _ (ite_n hc ⟨hb, ?_⟩)
          rw [ht, ← hx]
          exact ite_n cx (ite_n e0 (ite_n e1 (ite_n e2 (ite_n e3 (ite_n e4 (ite_n e5 (ite_n e6 (ite_n e7 (ite_n e8 (ite_n e9 (ite_n e10 (ite_n e11 (ite_n e12 (ite_n e13 (ite_n e14 (ite_n e15 (ite_n e16 (ite_n e17 (ite_n e18 (ite_n e19 (ite_n e20 (ite_n e21 (ite_n e22 (ite_n e23 (ite_n e24 (ite_n e25 (ite_n e26 (ite_n e27 (ite_n e28 (ite_p e29 hr))))))))))))))))))))))))))))))
        by_cases e30 : x = 30
        · refine sw 1324 30 (lw_1324 hI (by omega) hL) fun r hr => ?_
          refine sg_302_18 (d := 40) _ _ _ _ (ite_n hc ⟨hb, ?_⟩)
          rw [ht, ← hx]
          exact ite_n cx (ite_n e0 (ite_n e1 (ite_n e2 (ite_n e3 (ite_n e4 (ite_n e5 (ite_n e6 (ite_n e7 (ite_n e8 (ite_n e9 (ite_n e10 (ite_n e11 (ite_n e12 (ite_n e13 (ite_n e14 (ite_n e15 (ite_n e16 (ite_n e17 (ite_n e18 (ite_n e19 (ite_n e20 (ite_n e21 (ite_n e22 (ite_n e23 (ite_n e24 (ite_n e25 (ite_n e26 (ite_n e27 (ite_n e28 (ite_n e29 (ite_p e30 hr)))))))))))))))))))))))))))))))
        by_cases e31 : x = 31
        · refine sw 1357 31 (lw_1357 hI (by omega) hL) fun r hr => ?_
          refine sg_302_18 (d := 40) _ _ _ _ (ite_n hc ⟨hb, ?_⟩)
          rw [ht, ← hx]
          exact ite_n cx (ite_n e0 (ite_n e1 (ite_n e2 (ite_n e3 (ite_n e4 (ite_n e5 (ite_n e6 (ite_n e7 (ite_n e8 (ite_n e9 (ite_n e10 (ite_n e11 (ite_n e12 (ite_n e13 (ite_n e14 (ite_n e15 (ite_n e16 (ite_n e17 (ite_n e18 (ite_n e19 (ite_n e20 (ite_n e21 (ite_n e22 (ite_n e23 (ite_n e24 (ite_n e25 (ite_n e26 (ite_n e27 (ite_n e28 (ite_n e29 (ite_n e30 (ite_p e31 hr))))))))))))))))))))))))))))))))
        by_cases e32 : x = 32
        · refine sw 1410 32 (lw_1410 hI (by omega) hL) fun r hr => ?_
          refine sg_302_18 (d := 40) _ _ _ _ (ite_n hc ⟨hb, ?_⟩)
          rw [ht, ← hx]
          exact ite_n cx (ite_n e0 (ite_n e1 (ite_n e2 (ite_n e3 (ite_n e4 (ite_n e5 (ite_n e6 (ite_n e7 (ite_n e8 (ite_n e9 (ite_n e10 (ite_n e11 (ite_n e12 (ite_n e13 (ite_n e14 (ite_n e15 (ite_n e16 (ite_n e17 (ite_n e18 (ite_n e19 (ite_n e20 (ite_n e21 (ite_n e22 (ite_n e23 (ite_n e24 (ite_n e25 (ite_n e26 (ite_n e27 (ite_n e28 (ite_n e29 (ite_n e30 (ite_n e31 (ite_p e32 hr)))))))))))))))))))))))))))))))))
        by_cases e33 : x = 33
        · refine sw 1443 33 (lw_1443 hI (by omega) hL) fun r hr => ?_
          refine sg_302_18 (d := 40) _ _ _ _ (ite_n hc ⟨hb, ?_⟩)
          rw [ht, ← hx]
          exact ite_n cx (ite_n e0 (ite_n e1 (ite_n e2 (ite_n e3 (ite_n e4 (ite_n e5 (ite_n e6 (ite_n e7 (ite_n e8 (ite_n e9 (ite_n e10 (ite_n e11 (ite_n e12 (ite_n e13 (ite_n e14 (ite_n e15 (ite_n e16 (ite_n e17 (ite_n e18 (ite_n e19 (ite_n e20 (ite_n e21 (ite_n e22 (ite_n e23 (ite_n e24 (ite_n e25 (ite_n e26 (ite_n e27 (ite_n e28 (ite_n e29 (ite_n e30 (ite_n e31 (ite_n e32 (ite_p e33 hr))))))))))))))))))))))))))))))))))
        by_cases e34 : x = 34
        · refine sw 1466 34 (lw_1466 hI (by omega) hL) fun r hr => ?_
          refine sg_302_18 (d := 40) _ _ _ _ (ite_n hc ⟨hb, ?_⟩)
          rw [ht, ← hx]
          exact ite_n cx (ite_n e0 (ite_n e1 (ite_n e2 (ite_n e3 (ite_n e4 (ite_n e5 (ite_n e6 (ite_n e7 (ite_n e8 (ite_n e9 (ite_n e10 (ite_n e11 (ite_n e12 (ite_n e13 (ite_n e14 (ite_n e15 (ite_n e16 (ite_n e17 (ite_n e18 (ite_n e19 (ite_n e20 (ite_n e21 (ite_n e22 (ite_n e23 (ite_n e24 (ite_n e25 (ite_n e26 (ite_n e27 (ite_n e28 (ite_n e29 (ite_n e30 (ite_n e31 (ite_n e32 (ite_n e33 (ite_p e34 hr)))))))))))))))))))))))))))))))))))
        by_cases e35 : x = 35
        · refine sw 1509 35 (lw_1509 hI (by omega) hL) fun r hr => ?_
          refine sg_302_18 (d := 40) _ _ _ _ (ite_n hc ⟨hb, ?_⟩)
          rw [ht, ← hx]
          exact ite_n cx (ite_n e0 (ite_n e1 (ite_n e2 (ite_n e3 (ite_n e4 (ite_n e5 (ite_n e6 (ite_n e7 (ite_n e8 (ite_n e9 (ite_n e10 (ite_n e11 (ite_n e12 (ite_n e13 (ite_n e14 (ite_n e15 (ite_n e16 (ite_n e17 (ite_n e18 (ite_n e19 (ite_n e20 (ite_n e21 (ite_n e22 (ite_n e23 (ite_n e24 (ite_n e25 (ite_n e26 (ite_n e27 (ite_n e28 (ite_n e29 (ite_n e30 (ite_n e31 (ite_n e32 (ite_n e33 (ite_n e34 (ite_p e35 hr))))))))))))))))))))))))))))))))))))
        by_cases e36 : x = 36
        · refine sw 1562 36 (lw_1562 hI (by omega) hL) fun r hr => ?_
          refine sg_302_18 (d := 40) _ _ _ _ (ite_n hc ⟨hb, ?_⟩)
          rw [ht, ← hx]
          exact ite_n cx (ite_n e0 (ite_n e1 (ite_n e2 (ite_n e3 (ite_n e4 (ite_n e5 (ite_n e6 (ite_n e7 (ite_n e8 (ite_n e9 (ite_n e10 (ite_n e11 (ite_n e12 (ite_n e13 (ite_n e14 (ite_n e15 (ite_n e16 (ite_n e17 (ite_n e18 (ite_n e19 (ite_n e20 (ite_n e21 (ite_n e22 (ite_n e23 (ite_n e24 (ite_n e25 (ite_n e26 (ite_n e27 (ite_n e28 (ite_n e29 (ite_n e30 (ite_n e31 (ite_n e32 (ite_n e33 (ite_n e34 (ite_n e35 (ite_p e36 hr)))))))))))))))))))))))))))))))))))))
        by_cases e37 : x = 37
        · refine sw 1605 37 (lw_1605 hI (by omega) hL) fun r hr => ?_
          refine sg_302_18 (d := 40) _ _ _ _ (ite_n hc ⟨hb, ?_⟩)
          rw [ht, ← hx]
          exact ite_n cx (ite_n e0 (ite_n e1 (ite_n e2 (ite_n e3 (ite_n e4 (ite_n e5 (ite_n e6 (ite_n e7 (ite_n e8 (ite_n e9 (ite_n e10 (ite_n e11 (ite_n e12 (ite_n e13 (ite_n e14 (ite_n e15 (ite_n e16 (ite_n e17 (ite_n e18 (ite_n e19 (ite_n e20 (ite_n e21 (ite_n e22 (ite_n e23 (ite_n e24 (ite_n e25 (ite_n e26 (ite_n e27 (ite_n e28 (ite_n e29 (ite_n e30 (ite_n e31 (ite_n e32 (ite_n e33 (ite_n e34 (ite_n e35 (ite_n e36 (ite_p e37 hr))))))))))))))))))))))))))))))))))))))
        by_cases e38 : x = 38
        · refine sw 1628 38 (lw_1628 hI (by omega) hL) fun r hr => ?_
          refine sg_302_18 (d := 40) _ _ _ _ (ite_n hc ⟨hb, ?_⟩)
          rw [ht, ← hx]
          exact ite_n cx (ite_n e0 (ite_n e1 (ite_n e2 (ite_n e3 (ite_n e4 (ite_n e5 (ite_n e6 (ite_n e7 (ite_n e8 (ite_n e9 (ite_n e10 (ite_n e11 (ite_n e12 (ite_n e13 (ite_n e14 (ite_n e15 (ite_n e16 (ite_n e17 (ite_n e18 (ite_n e19 (ite_n e20 (ite_n e21 (ite_n e22 (ite_n e23 (ite_n e24 (ite_n e25 (ite_n e26 (ite_n e27 (ite_n e28 (ite_n e29 (ite_n e30 (ite_n e31 (ite_n e32 (ite_n e33 (ite_n e34 (ite_n e35 (ite_n e36 (ite_n e37 (ite_p e38 hr)))))))))))))))))))))))))))))))))))))))
        by_cases e39 : x = 39
        · refine sw 1681 39 (lw_1681 hI (by omega) hL) fun r hr => ?_
          refine sg_302_18 (d := 40) _ _ _ _ (ite_n hc ⟨hb, ?_⟩)
          rw [ht, ← hx]
          exact ite_n cx (ite_n e0 (ite_n e1 (ite_n e2 (ite_n e3 (ite_n e4 (ite_n e5 (ite_n e6 (ite_n e7 (ite_n e8 (ite_n e9 (ite_n e10 (ite_n e11 (ite_n e12 (ite_n e13 (ite_n e14 (ite_n e15 (ite_n e16 (ite_n e17 (ite_n e18 (ite_n e19 (ite_n e20 (ite_n e21 (ite_n e22 (ite_n e23 (ite_n e24 (ite_n e25 (ite_n e26 (ite_n e27 (ite_n e28 (ite_n e29 (ite_n e30 (ite_n e31 (ite_n e32 (ite_n e33 (ite_n e34 (ite_n e35 (ite_n e36 (ite_n e37 (ite_n e38 (ite_p e39 hr))))))))))))))))))))))))))))))))))))))))
        by_cases e40 : x = 40
        · refine sw 1724 40 (lw_1724 hI (by omega) hL) fun r hr => ?_
          refine sg_302_18 (d := 40) _ _ _ _ (ite_n hc ⟨hb, ?_⟩)
          rw [ht, ← hx]
          exact ite_n cx (ite_n e0 (ite_n e1 (ite_n e2 (ite_n e3 (ite_n e4 (ite_n e5 (ite_n e6 (ite_n e7 (ite_n e8 (ite_n e9 (ite_n e10 (ite_n e11 (ite_n e12 (ite_n e13 (ite_n e14 (ite_n e15 (ite_n e16 (ite_n e17 (ite_n e18 (ite_n e19 (ite_n e20 (ite_n e21 (ite_n e22 (ite_n e23 (ite_n e24 (ite_n e25 (ite_n e26 (ite_n e27 (ite_n e28 (ite_n e29 (ite_n e30 (ite_n e31 (ite_n e32 (ite_n e33 (ite_n e34 (ite_n e35 (ite_n e36 (ite_n e37 (ite_n e38 (ite_n e39 (ite_p e40 hr)))))))))))))))))))))))))))))))))))))))))
        by_cases e41 : x = 41
        · refine sw 1767 41 (lw_1767 hI (by omega) hL) fun r hr => ?_
          refine sg_302_18 (d := 40) _ _ _ _ (ite_n hc ⟨hb, ?_⟩)
          rw [ht, ← hx]
          exact ite_n cx (ite_n e0 (ite_n e1 (ite_n e2 (ite_n e3 (ite_n e4 (ite_n e5 (ite_n e6 (ite_n e7 (ite_n e8 (ite_n e9 (ite_n e10 (ite_n e11 (ite_n e12 (ite_n e13 (ite_n e14 (ite_n e15 (ite_n e16 (ite_n e17 (ite_n e18 (ite_n e19 (ite_n e20 (ite_n e21 (ite_n e22 (ite_n e23 (ite_n e24 (ite_n e25 (ite_n e26 (ite_n e27 (ite_n e28 (ite_n e29 (ite_n e30 (ite_n e31 (ite_n e32 (ite_n e33 (ite_n e34 (ite_n e35 (ite_n e36 (ite_n e37 (ite_n e38 (ite_n e39 (ite_n e40 (ite_p e41 hr))))))))))))))))))))))))))))))))))))))))))
        by_cases e42 : x = 42
        · refine sw 1810 42 (lw_1810 hI (by omega) hL) fun r hr => ?_
          refine sg_302_18 (d := 40) _ _ _ _ (ite_n hc ⟨hb, ?_⟩)
          rw [ht, ← hx]
          exact ite_n cx (ite_n e0 (ite_n e1 (ite_n e2 (ite_n e3 (ite_n e4 (ite_n e5 (ite_n e6 (ite_n e7 (ite_n e8 (ite_n e9 (ite_n e10 (ite_n e11 (ite_n e12 (ite_n e13 (ite_n e14 (ite_n e15 (ite_n e16 (ite_n e17 (ite_n e18 (ite_n e19 (ite_n e20 (ite_n e21 (ite_n e22 (ite_n e23 (ite_n e24 (ite_n e25 (ite_n e26 (ite_n e27 (ite_n e28 (ite_n e29 (ite_n e30 (ite_n e31 (ite_n e32 (ite_n e33 (ite_n e34 (ite_n e35 (ite_n e36 (ite_n e37 (ite_n e38 (ite_n e39 (ite_n e40 (ite_n e41 (ite_p e42 hr)))))))))))))))))))))))))))))))))))))))))))
        by_cases e43 : x = 43
        · refine sw 1863 43 (lw_1863 hI (by omega) hL) fun r hr => ?_
          refine sg_302_18 (d := 40) _ _ _ _ (ite_n hc ⟨hb, ?_⟩)
          rw [ht, ← hx]
          exact ite_n cx (ite_n e0 (ite_n e1 (ite_n e2 (ite_n e3 (ite_n e4 (ite_n e5 (ite_n e6 (ite_n e7 (ite_n e8 (ite_n e9 (ite_n e10 (ite_n e11 (ite_n e12 (ite_n e13 (ite_n e14 (ite_n e15 (ite_n e16 (ite_n e17 (ite_n e18 (ite_n e19 (ite_n e20 (ite_n e21 (ite_n e22 (ite_n e23 (ite_n e24 (ite_n e25 (ite_n e26 (ite_n e27 (ite_n e28 (ite_n e29 (ite_n e30 (ite_n e31 (ite_n e32 (ite_n e33 (ite_n e34 (ite_n e35 (ite_n e36 (ite_n e37 (ite_n e38 (ite_n e39 (ite_n e40 (ite_n e41 (ite_n e42 (ite_p e43 hr))))))))))))))))))))))))))))))))))))))))))))
        by_cases e44 : x = 44
        · refine sw 1876 44 (lw_1876 hI (by omega) hL) fun r hr => ?_
          refine sg_302_18 (d := 40) _ _ _ _ (ite_n hc ⟨hb, ?_⟩)
          rw [ht, ← hx]
          exact ite_n cx (ite_n e0 (ite_n e1 (ite_n e2 (ite_n e3 (ite_n e4 (ite_n e5 (ite_n e6 (ite_n e7 (ite_n e8 (ite_n e9 (ite_n e10 (ite_n e11 (ite_n e12 (ite_n e13 (ite_n e14 (ite_n e15 (ite_n e16 (ite_n e17 (ite_n e18 (ite_n e19 (ite_n e20 (ite_n e21 (ite_n e22 (ite_n e23 (ite_n e24 (ite_n e25 (ite_n e26 (ite_n e27 (ite_n e28 (ite_n e29 (ite_n e30 (ite_n e31 (ite_n e32 (ite_n e33 (ite_n e34 (ite_n e35 (ite_n e36 (ite_n e37 (ite_n e38 (ite_n e39 (ite_n e40 (ite_n e41 (ite_n e42 (ite_n e43 (ite_p e44 hr)))))))))))))))))))))))))))))))))))))))))))))
        by_cases e45 : x = 45
        · refine sw 1889 45 (lw_1889 hI (by omega) hL) fun r hr => ?_
          refine sg_302_18 (d := 40) _ _ _ _ (ite_n hc ⟨hb, ?_⟩)
          rw [ht, ← hx]
          exact ite_n cx (ite_n e0 (ite_n e1 (ite_n e2 (ite_n e3 (ite_n e4 (ite_n e5 (ite_n e6 (ite_n e7 (ite_n e8 (ite_n e9 (ite_n e10 (ite_n e11 (ite_n e12 (ite_n e13 (ite_n e14 (ite_n e15 (ite_n e16 (ite_n e17 (ite_n e18 (ite_n e19 (ite_n e20 (ite_n e21 (ite_n e22 (ite_n e23 (ite_n e24 (ite_n e25 (ite_n e26 (ite_n e27 (ite_n e28 (ite_n e29 (ite_n e30 (ite_n e31 (ite_n e32 (ite_n e33 (ite_n e34 (ite_n e35 (ite_n e36 (ite_n e37 (ite_n e38 (ite_n e39 (ite_n e40 (ite_n e41 (ite_n e42 (ite_n e43 (ite_n e44 (ite_p e45 hr))))))))))))))))))))))))))))))))))))))))))))))
        exfalso
        have hxt := Int32.ofInt_toInt x
        obtain ⟨t, htt⟩ : ∃ t, t = x.toInt := ⟨_, rfl⟩
        rw [← htt] at hxt cx
        have ne : ∀ k : Int, x ≠ Int32.ofInt k → t ≠ k := fun k hk q => hk (by rw [← hxt, q])
        have n0 := ne 0 e0
        have n1 := ne 1 e1
        have n2 := ne 2 e2
        have n3 := ne 3 e3
        have n4 := ne 4 e4
        have n5 := ne 5 e5
        have n6 := ne 6 e6
        have n7 := ne 7 e7
        have n8 := ne 8 e8
        have n9 := ne 9 e9
        have n10 := ne 10 e10
        have n11 := ne 11 e11
        have n12 := ne 12 e12
        have n13 := ne 13 e13
        have n14 := ne 14 e14
        have n15 := ne 15 e15
        have n16 := ne 16 e16
        have n17 := ne 17 e17
        have n18 := ne 18 e18
        have n19 := ne 19 e19
        have n20 := ne 20 e20
        have n21 := ne 21 e21
        have n22 := ne 22 e22
        have n23 := ne 23 e23
        have n24 := ne 24 e24
        have n25 := ne 25 e25
        have n26 := ne 26 e26
        have n27 := ne 27 e27
        have n28 := ne 28 e28
        have n29 := ne 29 e29
        have n30 := ne 30 e30
        have n31 := ne 31 e31
        have n32 := ne 32 e32
        have n33 := ne 33 e33
        have n34 := ne 34 e34
        have n35 := ne 35 e35
        have n36 := ne 36 e36
        have n37 := ne 37 e37
        have n38 := ne 38 e38
        have n39 := ne 39 e39
        have n40 := ne 40 e40
        have n41 := ne 41 e41
        have n42 := ne 42 e42
        have n43 := ne 43 e43
        have n44 := ne 44 e44
        have n45 := ne 45 e45
        omega
      obtain ⟨W, J1, tg1, h1, h2⟩ := key
      obtain ⟨W2, J2, tg2, h3⟩ := lw_lp hL m (i + 6) W J1 tg1 (by omega) (by omega) h1
      refine ⟨W2, J2, tg2, h2 _ ?_⟩
      apply sg_302_1912 (d := 40)
      have e : Int32.ofInt (i : Int) + 6 = Int32.ofInt ((i + 6 : Nat) : Int) := by
        show Int32.ofInt (i : Int) + Int32.ofInt 6 = Int32.ofInt ((i : Int) + 6)
        exact o_add _ _
      rw [e]
      exact h3
end LW
