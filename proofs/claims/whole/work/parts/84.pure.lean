/-! holds, hasPart, add. -/
theorem k_173_2 {L d : Nat} {xs : Nat → Int32} {V : Nat → Nat → Int} {J : Nat → Nat → Int64} {tg : Option Nat} {f n : Nat} {v : Int} (hf : f + n ≤ 144) (hv : -1000 ≤ v ∧ v ≤ 1000) (hr : ∀ i, i < n → -1000 ≤ V 2 (f + i) ∧ V 2 (f + i) ≤ 1000) : Runs (GW L xs) (d) 173 (0, [.ref 2, (Value.int (Int32.ofInt (f))), (Value.int (Int32.ofInt (n))), (Value.int (Int32.ofInt (v))), vU], [], zS (eV (V)) J tg) (some (Value.int (Int32.ofInt (bi (inL (fun i => V 2 (f + i)) v n = true)))), zS (eV (V)) J tg) := by
  refine sg_173c2 _ _ _ _ _ _ ?_
  obtain ⟨r, hq, hr⟩ := loopE (g := GW L xs) (d := d) (mid := 173) (σ := Unit) (fun i _ => (3, [.ref 2, (Value.int (Int32.ofInt (f))), (Value.int (Int32.ofInt (n))), (Value.int (Int32.ofInt (v))), (Value.int (Int32.ofInt (i)))], [], zS (eV V) J tg)) (fun i _ => inL (fun i => V 2 (f + i)) v i = false) (fun r => r = (some (Value.int (Int32.ofInt (bi (inL (fun i => V 2 (f + i)) v n = true)))), zS (eV V) J tg)) n (by
    intro i _ hi h
    have hi' := hr i hi
    by_cases e : V 2 (f + i) = v
    · refine Or.inr ⟨_, rfl, sg_173c2_3 _ _ _ _ _ _ _ ?_⟩
      simp (disch := omega) only [eV_at, eV_up, o_lit2, o_add, o_sub, o_mul, o_neg, o_div, o_nat, ix_t, o_lt, o_le, o_eq, o_bi0, o_bi1, o_bib, em_t, o_neg1, o_shl, o_tb, o_tb0, o_tt, o_and, o_xor, o_or, o_max, o_min, an_tb, and_true, true_and, not_true, not_false, if_true, if_false, tn_add, tn_mul, Int.reduceToNat, tn_cast, md_x]
      rw [if_neg (by omega), if_pos e]
      exact leafI (bi_t (inL_iff.mpr ⟨i, hi, e⟩)).symm
    · refine Or.inl ⟨(), ?_, fun r hr => sg_173c2_3 _ _ _ _ _ _ _ ?_⟩
      · simp [inL, h, e]
      · simp (disch := omega) only [eV_at, eV_up, o_lit2, o_add, o_sub, o_mul, o_neg, o_div, o_nat, ix_t, o_lt, o_le, o_eq, o_bi0, o_bi1, o_bib, em_t, o_neg1, o_shl, o_tb, o_tb0, o_tt, o_and, o_xor, o_or, o_max, o_min, an_tb, and_true, true_and, not_true, not_false, if_true, if_false, tn_add, tn_mul, Int.reduceToNat, tn_cast, md_x]
        rw [if_neg (by omega), if_neg e]
        exact hr) (by
    intro _ h
    refine ⟨_, rfl, sg_173c2_3 _ _ _ _ _ _ _ ?_⟩
    simp (disch := omega) only [eV_at, eV_up, o_lit2, o_add, o_sub, o_mul, o_neg, o_div, o_nat, ix_t, o_lt, o_le, o_eq, o_bi0, o_bi1, o_bib, em_t, o_neg1, o_shl, o_tb, o_tb0, o_tt, o_and, o_xor, o_or, o_max, o_min, an_tb, and_true, true_and, not_true, not_false, if_true, if_false, tn_add, tn_mul, Int.reduceToNat, tn_cast, md_x]
    rw [if_pos (by omega)]
    exact leafI (bi_f (by simp [h])).symm) n 0 () (by omega) rfl
  rw [hq] at hr
  exact hr
theorem k_173_19 {L d : Nat} {xs : Nat → Int32} {V : Nat → Nat → Int} {J : Nat → Nat → Int64} {tg : Option Nat} {f n : Nat} {v : Int} (hf : f + n ≤ 10) (hv : -1000 ≤ v ∧ v ≤ 1000) (hr : ∀ i, i < n → -1000 ≤ V 19 (f + i) ∧ V 19 (f + i) ≤ 1000) : Runs (GW L xs) (d) 173 (0, [.ref 19, (Value.int (Int32.ofInt (f))), (Value.int (Int32.ofInt (n))), (Value.int (Int32.ofInt (v))), vU], [], zS (eV (V)) J tg) (some (Value.int (Int32.ofInt (bi (inL (fun i => V 19 (f + i)) v n = true)))), zS (eV (V)) J tg) := by
  refine sg_173c19 _ _ _ _ _ _ ?_
  obtain ⟨r, hq, hr⟩ := loopE (g := GW L xs) (d := d) (mid := 173) (σ := Unit) (fun i _ => (3, [.ref 19, (Value.int (Int32.ofInt (f))), (Value.int (Int32.ofInt (n))), (Value.int (Int32.ofInt (v))), (Value.int (Int32.ofInt (i)))], [], zS (eV V) J tg)) (fun i _ => inL (fun i => V 19 (f + i)) v i = false) (fun r => r = (some (Value.int (Int32.ofInt (bi (inL (fun i => V 19 (f + i)) v n = true)))), zS (eV V) J tg)) n (by
    intro i _ hi h
    have hi' := hr i hi
    by_cases e : V 19 (f + i) = v
    · refine Or.inr ⟨_, rfl, sg_173c19_3 _ _ _ _ _ _ _ ?_⟩
      simp (disch := omega) only [eV_at, eV_up, o_lit2, o_add, o_sub, o_mul, o_neg, o_div, o_nat, ix_t, o_lt, o_le, o_eq, o_bi0, o_bi1, o_bib, em_t, o_neg1, o_shl, o_tb, o_tb0, o_tt, o_and, o_xor, o_or, o_max, o_min, an_tb, and_true, true_and, not_true, not_false, if_true, if_false, tn_add, tn_mul, Int.reduceToNat, tn_cast, md_x]
      rw [if_neg (by omega), if_pos e]
      exact leafI (bi_t (inL_iff.mpr ⟨i, hi, e⟩)).symm
    · refine Or.inl ⟨(), ?_, fun r hr => sg_173c19_3 _ _ _ _ _ _ _ ?_⟩
      · simp [inL, h, e]
      · simp (disch := omega) only [eV_at, eV_up, o_lit2, o_add, o_sub, o_mul, o_neg, o_div, o_nat, ix_t, o_lt, o_le, o_eq, o_bi0, o_bi1, o_bib, em_t, o_neg1, o_shl, o_tb, o_tb0, o_tt, o_and, o_xor, o_or, o_max, o_min, an_tb, and_true, true_and, not_true, not_false, if_true, if_false, tn_add, tn_mul, Int.reduceToNat, tn_cast, md_x]
        rw [if_neg (by omega), if_neg e]
        exact hr) (by
    intro _ h
    refine ⟨_, rfl, sg_173c19_3 _ _ _ _ _ _ _ ?_⟩
    simp (disch := omega) only [eV_at, eV_up, o_lit2, o_add, o_sub, o_mul, o_neg, o_div, o_nat, ix_t, o_lt, o_le, o_eq, o_bi0, o_bi1, o_bib, em_t, o_neg1, o_shl, o_tb, o_tb0, o_tt, o_and, o_xor, o_or, o_max, o_min, an_tb, and_true, true_and, not_true, not_false, if_true, if_false, tn_add, tn_mul, Int.reduceToNat, tn_cast, md_x]
    rw [if_pos (by omega)]
    exact leafI (bi_f (by simp [h])).symm) n 0 () (by omega) rfl
  rw [hq] at hr
  exact hr
theorem k_173_20 {L d : Nat} {xs : Nat → Int32} {V : Nat → Nat → Int} {J : Nat → Nat → Int64} {tg : Option Nat} {f n : Nat} {v : Int} (hf : f + n ≤ 24) (hv : -1000 ≤ v ∧ v ≤ 1000) (hr : ∀ i, i < n → -1000 ≤ V 20 (f + i) ∧ V 20 (f + i) ≤ 1000) : Runs (GW L xs) (d) 173 (0, [.ref 20, (Value.int (Int32.ofInt (f))), (Value.int (Int32.ofInt (n))), (Value.int (Int32.ofInt (v))), vU], [], zS (eV (V)) J tg) (some (Value.int (Int32.ofInt (bi (inL (fun i => V 20 (f + i)) v n = true)))), zS (eV (V)) J tg) := by
  refine sg_173c20 _ _ _ _ _ _ ?_
  obtain ⟨r, hq, hr⟩ := loopE (g := GW L xs) (d := d) (mid := 173) (σ := Unit) (fun i _ => (3, [.ref 20, (Value.int (Int32.ofInt (f))), (Value.int (Int32.ofInt (n))), (Value.int (Int32.ofInt (v))), (Value.int (Int32.ofInt (i)))], [], zS (eV V) J tg)) (fun i _ => inL (fun i => V 20 (f + i)) v i = false) (fun r => r = (some (Value.int (Int32.ofInt (bi (inL (fun i => V 20 (f + i)) v n = true)))), zS (eV V) J tg)) n (by
    intro i _ hi h
    have hi' := hr i hi
    by_cases e : V 20 (f + i) = v
    · refine Or.inr ⟨_, rfl, sg_173c20_3 _ _ _ _ _ _ _ ?_⟩
      simp (disch := omega) only [eV_at, eV_up, o_lit2, o_add, o_sub, o_mul, o_neg, o_div, o_nat, ix_t, o_lt, o_le, o_eq, o_bi0, o_bi1, o_bib, em_t, o_neg1, o_shl, o_tb, o_tb0, o_tt, o_and, o_xor, o_or, o_max, o_min, an_tb, and_true, true_and, not_true, not_false, if_true, if_false, tn_add, tn_mul, Int.reduceToNat, tn_cast, md_x]
      rw [if_neg (by omega), if_pos e]
      exact leafI (bi_t (inL_iff.mpr ⟨i, hi, e⟩)).symm
    · refine Or.inl ⟨(), ?_, fun r hr => sg_173c20_3 _ _ _ _ _ _ _ ?_⟩
      · simp [inL, h, e]
      · simp (disch := omega) only [eV_at, eV_up, o_lit2, o_add, o_sub, o_mul, o_neg, o_div, o_nat, ix_t, o_lt, o_le, o_eq, o_bi0, o_bi1, o_bib, em_t, o_neg1, o_shl, o_tb, o_tb0, o_tt, o_and, o_xor, o_or, o_max, o_min, an_tb, and_true, true_and, not_true, not_false, if_true, if_false, tn_add, tn_mul, Int.reduceToNat, tn_cast, md_x]
        rw [if_neg (by omega), if_neg e]
        exact hr) (by
    intro _ h
    refine ⟨_, rfl, sg_173c20_3 _ _ _ _ _ _ _ ?_⟩
    simp (disch := omega) only [eV_at, eV_up, o_lit2, o_add, o_sub, o_mul, o_neg, o_div, o_nat, ix_t, o_lt, o_le, o_eq, o_bi0, o_bi1, o_bib, em_t, o_neg1, o_shl, o_tb, o_tb0, o_tt, o_and, o_xor, o_or, o_max, o_min, an_tb, and_true, true_and, not_true, not_false, if_true, if_false, tn_add, tn_mul, Int.reduceToNat, tn_cast, md_x]
    rw [if_pos (by omega)]
    exact leafI (bi_f (by simp [h])).symm) n 0 () (by omega) rfl
  rw [hq] at hr
  exact hr
theorem k_173_80 {L d : Nat} {xs : Nat → Int32} {V : Nat → Nat → Int} {J : Nat → Nat → Int64} {tg : Option Nat} {f n : Nat} {v : Int} (hf : f + n ≤ 6) (hv : -1000 ≤ v ∧ v ≤ 1000) (hr : ∀ i, i < n → -1000 ≤ V 80 (f + i) ∧ V 80 (f + i) ≤ 1000) : Runs (GW L xs) (d) 173 (0, [.ref 80, (Value.int (Int32.ofInt (f))), (Value.int (Int32.ofInt (n))), (Value.int (Int32.ofInt (v))), vU], [], zS (eV (V)) J tg) (some (Value.int (Int32.ofInt (bi (inL (fun i => V 80 (f + i)) v n = true)))), zS (eV (V)) J tg) := by
  refine sg_173c80 _ _ _ _ _ _ ?_
  obtain ⟨r, hq, hr⟩ := loopE (g := GW L xs) (d := d) (mid := 173) (σ := Unit) (fun i _ => (3, [.ref 80, (Value.int (Int32.ofInt (f))), (Value.int (Int32.ofInt (n))), (Value.int (Int32.ofInt (v))), (Value.int (Int32.ofInt (i)))], [], zS (eV V) J tg)) (fun i _ => inL (fun i => V 80 (f + i)) v i = false) (fun r => r = (some (Value.int (Int32.ofInt (bi (inL (fun i => V 80 (f + i)) v n = true)))), zS (eV V) J tg)) n (by
    intro i _ hi h
    have hi' := hr i hi
    by_cases e : V 80 (f + i) = v
    · refine Or.inr ⟨_, rfl, sg_173c80_3 _ _ _ _ _ _ _ ?_⟩
      simp (disch := omega) only [eV_at, eV_up, o_lit2, o_add, o_sub, o_mul, o_neg, o_div, o_nat, ix_t, o_lt, o_le, o_eq, o_bi0, o_bi1, o_bib, em_t, o_neg1, o_shl, o_tb, o_tb0, o_tt, o_and, o_xor, o_or, o_max, o_min, an_tb, and_true, true_and, not_true, not_false, if_true, if_false, tn_add, tn_mul, Int.reduceToNat, tn_cast, md_x]
      rw [if_neg (by omega), if_pos e]
      exact leafI (bi_t (inL_iff.mpr ⟨i, hi, e⟩)).symm
    · refine Or.inl ⟨(), ?_, fun r hr => sg_173c80_3 _ _ _ _ _ _ _ ?_⟩
      · simp [inL, h, e]
      · simp (disch := omega) only [eV_at, eV_up, o_lit2, o_add, o_sub, o_mul, o_neg, o_div, o_nat, ix_t, o_lt, o_le, o_eq, o_bi0, o_bi1, o_bib, em_t, o_neg1, o_shl, o_tb, o_tb0, o_tt, o_and, o_xor, o_or, o_max, o_min, an_tb, and_true, true_and, not_true, not_false, if_true, if_false, tn_add, tn_mul, Int.reduceToNat, tn_cast, md_x]
        rw [if_neg (by omega), if_neg e]
        exact hr) (by
    intro _ h
    refine ⟨_, rfl, sg_173c80_3 _ _ _ _ _ _ _ ?_⟩
    simp (disch := omega) only [eV_at, eV_up, o_lit2, o_add, o_sub, o_mul, o_neg, o_div, o_nat, ix_t, o_lt, o_le, o_eq, o_bi0, o_bi1, o_bib, em_t, o_neg1, o_shl, o_tb, o_tb0, o_tt, o_and, o_xor, o_or, o_max, o_min, an_tb, and_true, true_and, not_true, not_false, if_true, if_false, tn_add, tn_mul, Int.reduceToNat, tn_cast, md_x]
    rw [if_pos (by omega)]
    exact leafI (bi_f (by simp [h])).symm) n 0 () (by omega) rfl
  rw [hq] at hr
  exact hr
theorem k_188 {L d : Nat} {xs : Nat → Int32} {V : Nat → Nat → Int} {J : Nat → Nat → Int64} {tg : Option Nat} {l n : Nat} {v : Int} (hl : l < 25) (hn : V 94 (20 + 22 * l + 0) = n) (hn6 : n ≤ 6) (hv : -1000 ≤ v ∧ v ≤ 1000) (hr : ∀ i, i < n → -1000 ≤ V 94 (20 + 22 * l + (4 + i)) ∧ V 94 (20 + 22 * l + (4 + i)) ≤ 1000) : Runs (GW L xs) (d + 1) 188 (0, [.ref 93, (Value.int (Int32.ofInt (l))), (Value.int (Int32.ofInt (v))), vU], [], zS (eV (V)) J tg) (some (Value.int (Int32.ofInt (bi (inL (fun i => V 94 (20 + 22 * l + (4 + i))) v n = true)))), zS (eV (V)) J tg) := by
  have k1 := fun dd => k_184 (L := L) (xs := xs) (J := J) (tg := tg) (d := dd) (V := V) (l := l) (w := 0) (by omega)
  rw [hn] at k1
  refine sg_188 _ _ _ _ _ ?_
  obtain ⟨r, hq, hr⟩ := loopE (g := GW L xs) (d := d + 1) (mid := 188) (σ := Unit) (fun i _ => (2, [.ref 93, (Value.int (Int32.ofInt (l))), (Value.int (Int32.ofInt (v))), (Value.int (Int32.ofInt (i)))], [], zS (eV V) J tg)) (fun i _ => inL (fun i => V 94 (20 + 22 * l + (4 + i))) v i = false) (fun r => r = (some (Value.int (Int32.ofInt (bi (inL (fun i => V 94 (20 + 22 * l + (4 + i))) v n = true)))), zS (eV V) J tg)) n (by
    intro i _ hi h
    have hi' := hr i hi
    have k2 := k_184 (L := L) (xs := xs) (J := J) (tg := tg) (d := d) (V := V) (l := l) (w := 4 + i) (by omega)
    by_cases e : V 94 (20 + 22 * l + (4 + i)) = v
    · refine Or.inr ⟨_, rfl, sg_188_2 _ _ _ _ _ _ ⟨_, _, _, k1 d, ?_⟩⟩
      simp (disch := omega) only [eV_at, eV_up, o_lit2, o_add, o_sub, o_mul, o_neg, o_div, o_nat, ix_t, o_lt, o_le, o_eq, o_bi0, o_bi1, o_bib, em_t, o_neg1, o_shl, o_tb, o_tb0, o_tt, o_and, o_xor, o_or, o_max, o_min, an_tb, and_true, true_and, not_true, not_false, if_true, if_false, tn_add, tn_mul, Int.reduceToNat, tn_cast, md_x]
      rw [if_neg (by omega)]
      refine ⟨_, _, _, k2, ?_⟩
      simp (disch := omega) only [eV_at, eV_up, o_lit2, o_add, o_sub, o_mul, o_neg, o_div, o_nat, ix_t, o_lt, o_le, o_eq, o_bi0, o_bi1, o_bib, em_t, o_neg1, o_shl, o_tb, o_tb0, o_tt, o_and, o_xor, o_or, o_max, o_min, an_tb, and_true, true_and, not_true, not_false, if_true, if_false, tn_add, tn_mul, Int.reduceToNat, tn_cast, md_x]
      rw [if_pos e]
      exact leafI (bi_t (inL_iff.mpr ⟨i, hi, e⟩)).symm
    · refine Or.inl ⟨(), ?_, fun r hr => sg_188_2 _ _ _ _ _ _ ⟨_, _, _, k1 d, ?_⟩⟩
      · simp [inL, h, e]
      · simp (disch := omega) only [eV_at, eV_up, o_lit2, o_add, o_sub, o_mul, o_neg, o_div, o_nat, ix_t, o_lt, o_le, o_eq, o_bi0, o_bi1, o_bib, em_t, o_neg1, o_shl, o_tb, o_tb0, o_tt, o_and, o_xor, o_or, o_max, o_min, an_tb, and_true, true_and, not_true, not_false, if_true, if_false, tn_add, tn_mul, Int.reduceToNat, tn_cast, md_x]
        rw [if_neg (by omega)]
        refine ⟨_, _, _, k2, ?_⟩
        simp (disch := omega) only [eV_at, eV_up, o_lit2, o_add, o_sub, o_mul, o_neg, o_div, o_nat, ix_t, o_lt, o_le, o_eq, o_bi0, o_bi1, o_bib, em_t, o_neg1, o_shl, o_tb, o_tb0, o_tt, o_and, o_xor, o_or, o_max, o_min, an_tb, and_true, true_and, not_true, not_false, if_true, if_false, tn_add, tn_mul, Int.reduceToNat, tn_cast, md_x]
        rw [if_neg e]
        exact hr) (by
    intro _ h
    refine ⟨_, rfl, sg_188_2 _ _ _ _ _ _ ⟨_, _, _, k1 d, ?_⟩⟩
    simp (disch := omega) only [eV_at, eV_up, o_lit2, o_add, o_sub, o_mul, o_neg, o_div, o_nat, ix_t, o_lt, o_le, o_eq, o_bi0, o_bi1, o_bib, em_t, o_neg1, o_shl, o_tb, o_tb0, o_tt, o_and, o_xor, o_or, o_max, o_min, an_tb, and_true, true_and, not_true, not_false, if_true, if_false, tn_add, tn_mul, Int.reduceToNat, tn_cast, md_x]
    rw [if_pos (by omega)]
    exact leafI (bi_f (by simp [h])).symm) n 0 () (by omega) rfl
  rw [hq] at hr
  exact hr
theorem k_189 {L d : Nat} {xs : Nat → Int32} {V : Nat → Nat → Int} {J : Nat → Nat → Int64} {tg : Option Nat} {l n : Nat} {v : Int} (hl : l < 25) (hn : V 94 (20 + 22 * l) = n) (hn6 : n < 18) : Runs (GW L xs) (d) 189 (0, [.ref 93, (Value.int (Int32.ofInt (l))), (Value.int (Int32.ofInt (v))), vU], [], zS (eV (V)) J tg) (none, zS (eV (up2 (up2 V 94 (20 + 22 * l + 4 + n) v) 94 (20 + 22 * l) (n + 1))) J tg) := by
  refine sg_189 _ _ _ _ _ ?_
  have e : up2 V 94 (20 + 22 * l + 4 + n) v 94 (20 + 22 * l) = n := by rw [w_at, if_neg (by omega), hn]
  simp (disch := omega) only [hn, eV_at, eV_up, o_lit2, o_add, o_sub, o_mul, o_neg, o_div, o_nat, ix_t, o_lt, o_le, o_eq, o_bi0, o_bi1, o_bib, em_t, o_neg1, o_shl, o_tb, o_tb0, o_tt, o_and, o_xor, o_or, o_max, o_min, an_tb, and_true, true_and, not_true, not_false, if_true, if_false, tn_add, tn_mul, Int.reduceToNat, tn_cast, md_x, e]
