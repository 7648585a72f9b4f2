/-! Lists of the reference. -/
theorem k_256t {L d : Nat} {xs : Nat → Int32} {V : Nat → Nat → Int} {J : Nat → Nat → Int64} {tg : Option Nat} {x1 x2 x3 : Int32} {k : Nat} {v : Int} (hk : V 94 5 = k) (hk10 : k ≤ 10) (hv : 0 ≤ v ∧ v ≤ 179) (hr : ∀ i, i < k → 0 ≤ V 94 (800 + i) ∧ V 94 (800 + i) ≤ 179) (hin : inL (fun i => V 94 (800 + i)) v k = true) : Runs (GW L xs) (d + 1) 256 (33, [.ref 93, .int x1, .int x2, .int x3, (Value.int (Int32.ofInt (v))), (Value.int (Int32.ofInt (0)))], [], zS (eV V) J tg) (some (Value.int (Int32.ofInt (-1))), zS (eV V) J tg) := by
  obtain ⟨r, hq, hr⟩ := loopE (g := GW L xs) (d := d + 1) (mid := 256) (σ := Unit) (fun i _ => (33, [.ref 93, .int x1, .int x2, .int x3, (Value.int (Int32.ofInt (v))), (Value.int (Int32.ofInt (i)))], [], zS (eV V) J tg)) (fun i _ => inL (fun i => V 94 (800 + i)) v i = false) (fun r => r = (some (Value.int (Int32.ofInt (-1))), zS (eV V) J tg)) k (by
    intro i _ hi h
    have hi' := hr i hi
    by_cases e : V 94 (800 + i) = v
    · refine Or.inr ⟨_, rfl, sg_256_33 _ _ _ _ _ _ _ _ ?_⟩
      simp (disch := omega) only [hk, w_eq, w_nc, w_ne2, eV_at, eV_up, o_lit2, o_add, o_sub, o_mul, o_neg, o_div, o_nat, ix_t, o_lt, o_le, o_eq, o_bi0, o_bi1, o_bib, em_t, o_neg1, o_shl, o_tb, o_tb0, o_tt, o_and, o_xor, o_or, o_max, o_min, an_tb, and_true, true_and, not_true, not_false, if_true, if_false, tn_add, tn_mul, Int.reduceToNat, tn_cast, md_x]
      rw [if_neg (by omega), if_pos e] <;> trivial
    · refine Or.inl ⟨(), by simp [inL, h, e], fun r hr => sg_256_33 _ _ _ _ _ _ _ _ ?_⟩
      simp (disch := omega) only [hk, w_eq, w_nc, w_ne2, eV_at, eV_up, o_lit2, o_add, o_sub, o_mul, o_neg, o_div, o_nat, ix_t, o_lt, o_le, o_eq, o_bi0, o_bi1, o_bib, em_t, o_neg1, o_shl, o_tb, o_tb0, o_tt, o_and, o_xor, o_or, o_max, o_min, an_tb, and_true, true_and, not_true, not_false, if_true, if_false, tn_add, tn_mul, Int.reduceToNat, tn_cast, md_x]
      rw [if_neg (by omega), if_neg e]
      exact hr) (by intro _ h; rw [hin] at h; exact Bool.noConfusion h) k 0 () (by omega) rfl
  rw [hq] at hr
  exact hr
theorem k_256f {L d : Nat} {xs : Nat → Int32} {V : Nat → Nat → Int} {J : Nat → Nat → Int64} {tg : Option Nat} {x1 x2 x3 : Int32} {k : Nat} {v : Int} (hk : V 94 5 = k) (hk10 : k ≤ 10) (hv : 0 ≤ v ∧ v ≤ 179) (hr : ∀ i, i < k → 0 ≤ V 94 (800 + i) ∧ V 94 (800 + i) ≤ 179) (hin : ¬ inL (fun i => V 94 (800 + i)) v k = true) : Runs (GW L xs) (d + 1) 256 (33, [.ref 93, .int x1, .int x2, .int x3, (Value.int (Int32.ofInt (v))), (Value.int (Int32.ofInt (0)))], [], zS (eV V) J tg) (some (Value.int (Int32.ofInt (k + 1))), zS (eV (up2 (up2 V 94 (800 + k) v) 94 5 (k + 1))) J tg) := by
  obtain ⟨_, _, hr⟩ := loopN (g := GW L xs) (d := d + 1) (mid := 256) (σ := Unit) (fun i _ => (33, [.ref 93, .int x1, .int x2, .int x3, (Value.int (Int32.ofInt (v))), (Value.int (Int32.ofInt (i)))], [], zS (eV V) J tg)) (fun i _ => True) k (by
    intro i _ hi h
    have hi' := hr i hi
    have e : ¬ V 94 (800 + i) = v := fun e => hin (inL_iff.mpr ⟨i, hi, e⟩)
    refine ⟨(), trivial, fun r hr => sg_256_33 _ _ _ _ _ _ _ _ ?_⟩
    simp (disch := omega) only [hk, w_eq, w_nc, w_ne2, eV_at, eV_up, o_lit2, o_add, o_sub, o_mul, o_neg, o_div, o_nat, ix_t, o_lt, o_le, o_eq, o_bi0, o_bi1, o_bib, em_t, o_neg1, o_shl, o_tb, o_tb0, o_tt, o_and, o_xor, o_or, o_max, o_min, an_tb, and_true, true_and, not_true, not_false, if_true, if_false, tn_add, tn_mul, Int.reduceToNat, tn_cast, md_x]
    rw [if_neg (by omega), if_neg e]
    exact hr) k 0 () (by omega) trivial
  refine hr _ (sg_256_33 _ _ _ _ _ _ _ _ ?_)
  simp (disch := omega) only [hk, w_eq, w_nc, w_ne2, eV_at, eV_up, o_lit2, o_add, o_sub, o_mul, o_neg, o_div, o_nat, ix_t, o_lt, o_le, o_eq, o_bi0, o_bi1, o_bib, em_t, o_neg1, o_shl, o_tb, o_tb0, o_tt, o_and, o_xor, o_or, o_max, o_min, an_tb, and_true, true_and, not_true, not_false, if_true, if_false, tn_add, tn_mul, Int.reduceToNat, tn_cast, md_x]
  rw [if_pos (by omega)] <;> trivial
theorem k_262t {L d : Nat} {xs : Nat → Int32} {V : Nat → Nat → Int} {J : Nat → Nat → Int64} {tg : Option Nat} {s k : Nat} {v : Int} (hs : s < 6) (hk : V 94 (840 + s) = k) (hk4 : k ≤ 4) (hv : 0 ≤ v ∧ v ≤ 11) (hr : ∀ i, i < k → 0 ≤ V 94 (850 + 4 * s + i) ∧ V 94 (850 + 4 * s + i) ≤ 11) (hin : inL (fun i => V 94 (850 + 4 * s + i)) v k = true) : Runs (GW L xs) (d + 1) 262 (33, [.ref 93, (Value.int (Int32.ofInt (s))), (Value.int (Int32.ofInt (v))), (Value.int (Int32.ofInt (0)))], [], zS (eV V) J tg) (some (Value.int (Int32.ofInt (-1))), zS (eV V) J tg) := by
  obtain ⟨r, hq, hr⟩ := loopE (g := GW L xs) (d := d + 1) (mid := 262) (σ := Unit) (fun i _ => (33, [.ref 93, (Value.int (Int32.ofInt (s))), (Value.int (Int32.ofInt (v))), (Value.int (Int32.ofInt (i)))], [], zS (eV V) J tg)) (fun i _ => inL (fun i => V 94 (850 + 4 * s + i)) v i = false) (fun r => r = (some (Value.int (Int32.ofInt (-1))), zS (eV V) J tg)) k (by
    intro i _ hi h
    have hi' := hr i hi
    by_cases e : V 94 (850 + 4 * s + i) = v
    · refine Or.inr ⟨_, rfl, sg_262_33 _ _ _ _ _ _ ?_⟩
      simp (disch := omega) only [hk, w_eq, w_nc, w_ne2, eV_at, eV_up, o_lit2, o_add, o_sub, o_mul, o_neg, o_div, o_nat, ix_t, o_lt, o_le, o_eq, o_bi0, o_bi1, o_bib, em_t, o_neg1, o_shl, o_tb, o_tb0, o_tt, o_and, o_xor, o_or, o_max, o_min, an_tb, and_true, true_and, not_true, not_false, if_true, if_false, tn_add, tn_mul, Int.reduceToNat, tn_cast, md_x]
      rw [if_neg (by omega), if_pos e] <;> trivial
    · refine Or.inl ⟨(), by simp [inL, h, e], fun r hr => sg_262_33 _ _ _ _ _ _ ?_⟩
      simp (disch := omega) only [hk, w_eq, w_nc, w_ne2, eV_at, eV_up, o_lit2, o_add, o_sub, o_mul, o_neg, o_div, o_nat, ix_t, o_lt, o_le, o_eq, o_bi0, o_bi1, o_bib, em_t, o_neg1, o_shl, o_tb, o_tb0, o_tt, o_and, o_xor, o_or, o_max, o_min, an_tb, and_true, true_and, not_true, not_false, if_true, if_false, tn_add, tn_mul, Int.reduceToNat, tn_cast, md_x]
      rw [if_neg (by omega), if_neg e]
      exact hr) (by intro _ h; rw [hin] at h; exact Bool.noConfusion h) k 0 () (by omega) rfl
  rw [hq] at hr
  exact hr
theorem k_262f {L d : Nat} {xs : Nat → Int32} {V : Nat → Nat → Int} {J : Nat → Nat → Int64} {tg : Option Nat} {s k : Nat} {v : Int} (hs : s < 6) (hk : V 94 (840 + s) = k) (hk4 : k ≤ 4) (hv : 0 ≤ v ∧ v ≤ 11) (hr : ∀ i, i < k → 0 ≤ V 94 (850 + 4 * s + i) ∧ V 94 (850 + 4 * s + i) ≤ 11) (hin : ¬ inL (fun i => V 94 (850 + 4 * s + i)) v k = true) : Runs (GW L xs) (d + 1) 262 (33, [.ref 93, (Value.int (Int32.ofInt (s))), (Value.int (Int32.ofInt (v))), (Value.int (Int32.ofInt (0)))], [], zS (eV V) J tg) (some (Value.int (Int32.ofInt (k + 1))), zS (eV (up2 (up2 V 94 (850 + 4 * s + k) v) 94 (840 + s) (k + 1))) J tg) := by
  obtain ⟨_, _, hr⟩ := loopN (g := GW L xs) (d := d + 1) (mid := 262) (σ := Unit) (fun i _ => (33, [.ref 93, (Value.int (Int32.ofInt (s))), (Value.int (Int32.ofInt (v))), (Value.int (Int32.ofInt (i)))], [], zS (eV V) J tg)) (fun i _ => True) k (by
    intro i _ hi h
    have hi' := hr i hi
    have e : ¬ V 94 (850 + 4 * s + i) = v := fun e => hin (inL_iff.mpr ⟨i, hi, e⟩)
    refine ⟨(), trivial, fun r hr => sg_262_33 _ _ _ _ _ _ ?_⟩
    simp (disch := omega) only [hk, w_eq, w_nc, w_ne2, eV_at, eV_up, o_lit2, o_add, o_sub, o_mul, o_neg, o_div, o_nat, ix_t, o_lt, o_le, o_eq, o_bi0, o_bi1, o_bib, em_t, o_neg1, o_shl, o_tb, o_tb0, o_tt, o_and, o_xor, o_or, o_max, o_min, an_tb, and_true, true_and, not_true, not_false, if_true, if_false, tn_add, tn_mul, Int.reduceToNat, tn_cast, md_x]
    rw [if_neg (by omega), if_neg e]
    exact hr) k 0 () (by omega) trivial
  refine hr _ (sg_262_33 _ _ _ _ _ _ ?_)
  simp (disch := omega) only [hk, w_eq, w_nc, w_ne2, eV_at, eV_up, o_lit2, o_add, o_sub, o_mul, o_neg, o_div, o_nat, ix_t, o_lt, o_le, o_eq, o_bi0, o_bi1, o_bib, em_t, o_neg1, o_shl, o_tb, o_tb0, o_tt, o_and, o_xor, o_or, o_max, o_min, an_tb, and_true, true_and, not_true, not_false, if_true, if_false, tn_add, tn_mul, Int.reduceToNat, tn_cast, md_x]
  rw [if_pos (by omega)] <;> trivial
