/-! The cases choice and bars. -/
def nsl (m : Nat → Nat) : Nat → Int
  | 0 => 0
  | t + 1 => nsl m t + (if m t = 0 then 0 else 1)
theorem nsl_rg {m : Nat → Nat} : ∀ n, 0 ≤ nsl m n ∧ nsl m n ≤ n
  | 0 => by simp [nsl]
  | n + 1 => by have := nsl_rg (m := m) n; unfold nsl; split <;> omega
section CK
variable {L d : Nat} {xs : Nat → Int32} {B V : Nat → Nat → Int} {J : Nat → Nat → Int64} {tg : Option Nat}
theorem k_41 (hI : INV B) (q : Qy B V) : Runs (GW L xs) (d) 41 (0, [.ref 18, vU, vU], [], zS (eV (V)) J tg) (some (Value.int (Int32.ofInt (nsl (mN B) 6))), zS (eV (V)) J tg) := by
  obtain ⟨_, _, hr⟩ := loopN (g := GW L xs) (d := d) (mid := 41) (σ := Unit) (fun t _ => (4, [.ref 18, (Value.int (Int32.ofInt (nsl (mN B) t))), (Value.int (Int32.ofInt (t)))], [], zS (eV V) J tg)) (fun _ _ => True) 6 (by
    intro t _ ht _
    have hle := mN_le hI.1 t
    have e21 : V 21 t = (mN B t : Nat) := by rw [q.1 21 (by omega)]; exact mN_eq hI.1 t
    have hs : nsl (mN B) (t + 1) = nsl (mN B) t + (if mN B t = 0 then 0 else 1) := rfl
    refine ⟨(), trivial, fun r hr => ?_⟩
    rw [hs] at hr
    apply sg_41_4
    simp (disch := omega) only [e21, eV_at, eV_up, o_lit2, o_add, o_sub, o_mul, o_neg, o_div, o_nat, ix_t, o_lt, o_le, o_eq, o_bi0, o_bi1, o_bib, em_t, o_neg1, o_shl, o_tb, o_tb0, o_tt, o_and, o_xor, o_or, o_max, o_min, an_tb, and_true, true_and, not_true, not_false, if_true, if_false, tn_add, tn_mul, Int.reduceToNat, tn_cast, md_x]
    rw [if_neg (by omega)]
    by_cases g : mN B t = 0
    · rw [if_pos g] at hr
      rw [if_pos (by omega)]
      exact hr
    · rw [if_neg g] at hr
      rw [if_neg (by omega)]
      exact hr) 6 0 () (by omega) trivial
  apply sg_41
  refine hr _ ?_
  apply sg_41_4
  rw [if_pos (by decide)]
theorem m_263 (hI : INV B) (q : Qy B V) : Runs (GW L xs) (d) 263 (0, [.ref 93, .int 5, vU, vU], [], zS (eV (V)) J tg) (some (Value.int (Int32.ofInt (nsl (mN B) 6))), zS (eV (V)) J tg) := by
  obtain ⟨_, _, hr⟩ := loopN (g := GW L xs) (d := d) (mid := 263) (σ := Unit) (fun t _ => (4, [.ref 93, (Value.int (Int32.ofInt (5))), (Value.int (Int32.ofInt (nsl (mN B) t))), (Value.int (Int32.ofInt (t)))], [], zS (eV V) J tg)) (fun _ _ => True) 6 (by
    intro t _ ht _
    have hle := mN_le hI.1 t
    obtain ⟨e1, -⟩ := slot_m hI q ht
    have hs : nsl (mN B) (t + 1) = nsl (mN B) t + (if mN B t = 0 then 0 else 1) := rfl
    refine ⟨(), trivial, fun r hr => ?_⟩
    rw [hs] at hr
    apply sg_263_4
    simp (disch := omega) only [e1, eV_at, eV_up, o_lit2, o_add, o_sub, o_mul, o_neg, o_div, o_nat, ix_t, o_lt, o_le, o_eq, o_bi0, o_bi1, o_bib, em_t, o_neg1, o_shl, o_tb, o_tb0, o_tt, o_and, o_xor, o_or, o_max, o_min, an_tb, and_true, true_and, not_true, not_false, if_true, if_false, tn_add, tn_mul, Int.reduceToNat, tn_cast, md_x]
    rw [if_neg (by omega)]
    by_cases g : mN B t = 0
    · rw [if_pos g] at hr
      rw [if_pos (by omega)]
      exact hr
    · rw [if_neg g] at hr
      rw [if_neg (by omega)]
      exact hr) 6 0 () (by omega) trivial
  apply sg_263
  refine hr _ ?_
  apply sg_263_4
  rw [if_pos (by decide)]
end CK
theorem c_choice {L : Nat} {xs : Nat → Int32} {V : Nat → Nat → Int} {J : Nat → Nat → Int64} {tg : Option Nat} (h : INV V) {a : Int} (ha : (-2147483648 ≤ a ∧ a < 2147483648)) : ∃ (v : Int) (U W : Nat → Nat → Int) (J1 : Nat → Nat → Int64), Runs (GW L xs) 40 140 (0, [.ref 0, (Value.int (Int32.ofInt (a)))], [], zS (eV V) J tg) (some (Value.int (Int32.ofInt v)), zS (eV U) J tg) ∧ Runs (GW L xs) 40 267 (0, [.ref 93, (Value.int (Int32.ofInt (a)))], [], zS (eV U) J tg) (some (Value.int (Int32.ofInt v)), zS (eV W) J1 tg) ∧ INV W := by
  have h0 := h
  obtain ⟨hR, ⟨hA, hB, hC, hD, hE, hF, hH⟩, h2, h3, h4, h5⟩ := h
  have rD : 0 ≤ V 1 0 ∧ V 1 0 ≤ 12 := hR 1 0 (by decide) (by decide)
  have rT : 0 ≤ V 1 1 ∧ V 1 1 ≤ 12 := hR 1 1 (by decide) (by decide)
  have hns := nsl_rg (m := mN V) 6
  have hG := gN_rg hR
  have hm := mN_le hR
  by_cases g1 : -1 ≤ a ∧ a ≤ 5
  · by_cases g2 : 2 ≤ nsl (mN V) 6
    · have hy0 : 0 ≤ (rf (mN V) (gN V) 6 0 (pr (mN V) 6) (-1, 0)).1 := (rf_max _).mpr (Or.inr ⟨0, pr_pos hm 6, (vv_rg (m := mN V) hG 6 _).1⟩)
      obtain ⟨U, qU, u1, u2, u3⟩ := k_15 (L := L) (xs := xs) (J := J) (tg := tg) (d := 27) h0 (Qy.rf h3)
      obtain ⟨W, w1, w2, w3, w4⟩ := m_266 (L := L) (xs := xs) (J := J) (tg := tg) (d := 35) h0 qU (last := 5) (by omega)
      have w2 : W 93 32 = (rf (mN V) (gN V) 6 0 (pr (mN V) 6) (-1, 0)).1 := w2
      have w3 : CC V W 6 (rf (mN V) (gN V) 6 0 (pr (mN V) 6) (-1, 0)) := w3
      generalize rf (mN V) (gN V) 6 0 (pr (mN V) 6) (-1, 0) = y at hy0 u1 u2 w2 w3
      have u2 := u2 (by omega)
      have w3 := w3 (by omega)
      by_cases c : a = -1
      · subst c
        refine ⟨y.1, U, W, J, ?_, ?_, h0.q (qU.cf w1)⟩
        · apply sg_140
          refine ⟨_, _, k_164 (a := -1) (b := 5) ha (by omega) (by omega), ?_⟩
          rw [if_neg (b0_f g1)]
          refine ⟨_, _, k_41 h0 (Qy.rf h3), ?_⟩
          simp (disch := omega) only [eV_at, eV_up, o_lit2, o_add, o_sub, o_mul, o_neg, o_div, o_nat, ix_t, o_lt, o_le, o_eq, o_bi0, o_bi1, o_bib, em_t, o_neg1, o_shl, o_tb, o_tb0, o_tt, o_and, o_xor, o_or, o_max, o_min, an_tb, and_true, true_and, not_true, not_false, if_true, if_false, tn_add, tn_mul, Int.reduceToNat, tn_cast, md_x]
          rw [if_pos (by omega)]
          refine ⟨_, u3, ?_⟩
          rw [eV_at, u1]
        · apply sg_267
          rw [if_pos (by decide)]
          refine ⟨_, _, _, m_263 h0 qU, ?_⟩
          simp (disch := omega) only [eV_at, eV_up, o_lit2, o_add, o_sub, o_mul, o_neg, o_div, o_nat, ix_t, o_lt, o_le, o_eq, o_bi0, o_bi1, o_bib, em_t, o_neg1, o_shl, o_tb, o_tb0, o_tt, o_and, o_xor, o_or, o_max, o_min, an_tb, and_true, true_and, not_true, not_false, if_true, if_false, tn_add, tn_mul, Int.reduceToNat, tn_cast, md_x]
          rw [if_pos (by omega)]
          refine ⟨_, _, w4, ?_⟩
          rw [eV_at, w2]
      · obtain ⟨s, rfl⟩ : ∃ s : Nat, a = s := ⟨a.toNat, by omega⟩
        have hs : s < 6 := by omega
        have e21 : V 21 s = (mN V s : Nat) := mN_eq hR s
        have hms := hm s
        have e1 := (slot_m h0 qU hs).1
        have e1V := (slot_m h0 (Qy.rf h3) hs).1
        by_cases g3 : mN V s = 0
        · rw [g3] at e21 e1V
          refine ⟨-1, V, V, J, ?_, ?_, h0⟩
          · apply sg_140
            refine ⟨_, _, k_164 (a := -1) (b := 5) ha (by omega) (by omega), ?_⟩
            rw [if_neg (b0_f g1)]
            refine ⟨_, _, k_41 h0 (Qy.rf h3), ?_⟩
            simp (disch := omega) only [e21, eV_at, eV_up, o_lit2, o_add, o_sub, o_mul, o_neg, o_div, o_nat, ix_t, o_lt, o_le, o_eq, o_bi0, o_bi1, o_bib, em_t, o_neg1, o_shl, o_tb, o_tb0, o_tt, o_and, o_xor, o_or, o_max, o_min, an_tb, and_true, true_and, not_true, not_false, if_true, if_false, tn_add, tn_mul, Int.reduceToNat, tn_cast, md_x]
            rw [if_pos (by omega), if_neg (by omega)]
            rw [if_pos (by omega)] <;> first | rfl | trivial
          · apply sg_267
            simp (disch := omega) only [eV_at, eV_up, o_lit2, o_add, o_sub, o_mul, o_neg, o_div, o_nat, ix_t, o_lt, o_le, o_eq, o_bi0, o_bi1, o_bib, em_t, o_neg1, o_shl, o_tb, o_tb0, o_tt, o_and, o_xor, o_or, o_max, o_min, an_tb, and_true, true_and, not_true, not_false, if_true, if_false, tn_add, tn_mul, Int.reduceToNat, tn_cast, md_x]
            rw [if_neg (by omega)]
            refine ⟨_, _, _, k_182 ha, ?_⟩
            rw [if_neg (b0o_f (by omega))]
            simp (disch := omega) only [e1V, eV_at, eV_up, o_lit2, o_add, o_sub, o_mul, o_neg, o_div, o_nat, ix_t, o_lt, o_le, o_eq, o_bi0, o_bi1, o_bib, em_t, o_neg1, o_shl, o_tb, o_tb0, o_tt, o_and, o_xor, o_or, o_max, o_min, an_tb, and_true, true_and, not_true, not_false, if_true, if_false, tn_add, tn_mul, Int.reduceToNat, tn_cast, md_x]
            rw [if_pos (by omega)] <;> first | rfl | trivial
        · have uv := u2 s hs g3
          have wv := w3 s hs g3
          refine ⟨V 20 (s * 4 + pd (mN V) 6 y.2 s), U, W, J, ?_, ?_, h0.q (qU.cf w1)⟩
          · apply sg_140
            refine ⟨_, _, k_164 (a := -1) (b := 5) ha (by omega) (by omega), ?_⟩
            rw [if_neg (b0_f g1)]
            refine ⟨_, _, k_41 h0 (Qy.rf h3), ?_⟩
            simp (disch := omega) only [e21, eV_at, eV_up, o_lit2, o_add, o_sub, o_mul, o_neg, o_div, o_nat, ix_t, o_lt, o_le, o_eq, o_bi0, o_bi1, o_bib, em_t, o_neg1, o_shl, o_tb, o_tb0, o_tt, o_and, o_xor, o_or, o_max, o_min, an_tb, and_true, true_and, not_true, not_false, if_true, if_false, tn_add, tn_mul, Int.reduceToNat, tn_cast, md_x]
            rw [if_pos (by omega), if_neg (by omega), if_neg (by omega)]
            refine ⟨_, u3, ?_⟩
            simp (disch := omega) only [uv, eV_at, eV_up, o_lit2, o_add, o_sub, o_mul, o_neg, o_div, o_nat, ix_t, o_lt, o_le, o_eq, o_bi0, o_bi1, o_bib, em_t, o_neg1, o_shl, o_tb, o_tb0, o_tt, o_and, o_xor, o_or, o_max, o_min, an_tb, and_true, true_and, not_true, not_false, if_true, if_false, tn_add, tn_mul, Int.reduceToNat, tn_cast, md_x]
            rw [if_neg (by omega)] <;> first | rfl | trivial
          · apply sg_267
            simp (disch := omega) only [eV_at, eV_up, o_lit2, o_add, o_sub, o_mul, o_neg, o_div, o_nat, ix_t, o_lt, o_le, o_eq, o_bi0, o_bi1, o_bib, em_t, o_neg1, o_shl, o_tb, o_tb0, o_tt, o_and, o_xor, o_or, o_max, o_min, an_tb, and_true, true_and, not_true, not_false, if_true, if_false, tn_add, tn_mul, Int.reduceToNat, tn_cast, md_x]
            rw [if_neg (by omega)]
            refine ⟨_, _, _, k_182 ha, ?_⟩
            rw [if_neg (b0o_f (by omega))]
            simp (disch := omega) only [e1, eV_at, eV_up, o_lit2, o_add, o_sub, o_mul, o_neg, o_div, o_nat, ix_t, o_lt, o_le, o_eq, o_bi0, o_bi1, o_bib, em_t, o_neg1, o_shl, o_tb, o_tb0, o_tt, o_and, o_xor, o_or, o_max, o_min, an_tb, and_true, true_and, not_true, not_false, if_true, if_false, tn_add, tn_mul, Int.reduceToNat, tn_cast, md_x]
            rw [if_neg (by omega)]
            refine ⟨_, _, _, m_263 h0 qU, ?_⟩
            simp (disch := omega) only [eV_at, eV_up, o_lit2, o_add, o_sub, o_mul, o_neg, o_div, o_nat, ix_t, o_lt, o_le, o_eq, o_bi0, o_bi1, o_bib, em_t, o_neg1, o_shl, o_tb, o_tb0, o_tt, o_and, o_xor, o_or, o_max, o_min, an_tb, and_true, true_and, not_true, not_false, if_true, if_false, tn_add, tn_mul, Int.reduceToNat, tn_cast, md_x]
            rw [if_pos (by omega)]
            refine ⟨_, _, w4, ?_⟩
            simp (disch := omega) only [wv, eV_at, eV_up, o_lit2, o_add, o_sub, o_mul, o_neg, o_div, o_nat, ix_t, o_lt, o_le, o_eq, o_bi0, o_bi1, o_bib, em_t, o_neg1, o_shl, o_tb, o_tb0, o_tt, o_and, o_xor, o_or, o_max, o_min, an_tb, and_true, true_and, not_true, not_false, if_true, if_false, tn_add, tn_mul, Int.reduceToNat, tn_cast, md_x]
            rw [if_neg (by omega)] <;> first | rfl | trivial
    · refine ⟨-1, V, V, J, ?_, ?_, h0⟩
      · apply sg_140
        refine ⟨_, _, k_164 (a := -1) (b := 5) ha (by omega) (by omega), ?_⟩
        rw [if_neg (b0_f g1)]
        refine ⟨_, _, k_41 h0 (Qy.rf h3), ?_⟩
        simp (disch := omega) only [eV_at, eV_up, o_lit2, o_add, o_sub, o_mul, o_neg, o_div, o_nat, ix_t, o_lt, o_le, o_eq, o_bi0, o_bi1, o_bib, em_t, o_neg1, o_shl, o_tb, o_tb0, o_tt, o_and, o_xor, o_or, o_max, o_min, an_tb, and_true, true_and, not_true, not_false, if_true, if_false, tn_add, tn_mul, Int.reduceToNat, tn_cast, md_x]
        rw [if_neg (by omega)] <;> first | rfl | trivial
      · apply sg_267
        by_cases c : a = -1
        · subst c
          rw [if_pos (by decide)]
          refine ⟨_, _, _, m_263 h0 (Qy.rf h3), ?_⟩
          simp (disch := omega) only [eV_at, eV_up, o_lit2, o_add, o_sub, o_mul, o_neg, o_div, o_nat, ix_t, o_lt, o_le, o_eq, o_bi0, o_bi1, o_bib, em_t, o_neg1, o_shl, o_tb, o_tb0, o_tt, o_and, o_xor, o_or, o_max, o_min, an_tb, and_true, true_and, not_true, not_false, if_true, if_false, tn_add, tn_mul, Int.reduceToNat, tn_cast, md_x]
          rw [if_neg (by omega)] <;> first | rfl | trivial
        · obtain ⟨s, rfl⟩ : ∃ s : Nat, a = s := ⟨a.toNat, by omega⟩
          have hms := hm s
          have e1V := (slot_m h0 (Qy.rf h3) (s := s) (by omega)).1
          simp (disch := omega) only [eV_at, eV_up, o_lit2, o_add, o_sub, o_mul, o_neg, o_div, o_nat, ix_t, o_lt, o_le, o_eq, o_bi0, o_bi1, o_bib, em_t, o_neg1, o_shl, o_tb, o_tb0, o_tt, o_and, o_xor, o_or, o_max, o_min, an_tb, and_true, true_and, not_true, not_false, if_true, if_false, tn_add, tn_mul, Int.reduceToNat, tn_cast, md_x]
          rw [if_neg (by omega)]
          refine ⟨_, _, _, k_182 ha, ?_⟩
          rw [if_neg (b0o_f (by omega))]
          simp (disch := omega) only [e1V, eV_at, eV_up, o_lit2, o_add, o_sub, o_mul, o_neg, o_div, o_nat, ix_t, o_lt, o_le, o_eq, o_bi0, o_bi1, o_bib, em_t, o_neg1, o_shl, o_tb, o_tb0, o_tt, o_and, o_xor, o_or, o_max, o_min, an_tb, and_true, true_and, not_true, not_false, if_true, if_false, tn_add, tn_mul, Int.reduceToNat, tn_cast, md_x]
          by_cases g3 : mN V s = 0
          · rw [if_pos (by omega)] <;> first | rfl | trivial
          · rw [if_neg (by omega)]
            refine ⟨_, _, _, m_263 h0 (Qy.rf h3), ?_⟩
            simp (disch := omega) only [eV_at, eV_up, o_lit2, o_add, o_sub, o_mul, o_neg, o_div, o_nat, ix_t, o_lt, o_le, o_eq, o_bi0, o_bi1, o_bib, em_t, o_neg1, o_shl, o_tb, o_tb0, o_tt, o_and, o_xor, o_or, o_max, o_min, an_tb, and_true, true_and, not_true, not_false, if_true, if_false, tn_add, tn_mul, Int.reduceToNat, tn_cast, md_x]
            rw [if_neg (by omega)] <;> first | rfl | trivial
  · refine ⟨-1, V, V, J, ?_, ?_, h0⟩
    · apply sg_140
      refine ⟨_, _, k_164 (a := -1) (b := 5) ha (by omega) (by omega), ?_⟩
      rw [if_pos (b0_t g1)]; rfl
    · apply sg_267
      simp (disch := omega) only [eV_at, eV_up, o_lit2, o_add, o_sub, o_mul, o_neg, o_div, o_nat, ix_t, o_lt, o_le, o_eq, o_bi0, o_bi1, o_bib, em_t, o_neg1, o_shl, o_tb, o_tb0, o_tt, o_and, o_xor, o_or, o_max, o_min, an_tb, and_true, true_and, not_true, not_false, if_true, if_false, tn_add, tn_mul, Int.reduceToNat, tn_cast, md_x]
      rw [if_neg (by omega)]
      refine ⟨_, _, _, k_182 ha, ?_⟩
      rw [if_pos (b0o_t (by omega))]
theorem c_bars {L : Nat} {xs : Nat → Int32} {V : Nat → Nat → Int} {J : Nat → Nat → Int64} {tg : Option Nat} (h : INV V) {a : Int} (ha : (-2147483648 ≤ a ∧ a < 2147483648)) : ∃ (v : Int) (U W : Nat → Nat → Int) (J1 : Nat → Nat → Int64), Runs (GW L xs) 40 141 (0, [.ref 0, (Value.int (Int32.ofInt (a)))], [], zS (eV V) J tg) (some (Value.int (Int32.ofInt v)), zS (eV U) J tg) ∧ Runs (GW L xs) 40 268 (0, [.ref 93, (Value.int (Int32.ofInt (a))), vU], [], zS (eV U) J tg) (some (Value.int (Int32.ofInt v)), zS (eV W) J1 tg) ∧ INV W := by
  have h0 := h
  obtain ⟨hR, ⟨hA, hB, hC, hD, hE, hF, hH⟩, h2, h3, h4, h5⟩ := h
  have rD : 0 ≤ V 1 0 ∧ V 1 0 ≤ 12 := hR 1 0 (by decide) (by decide)
  have rT : 0 ≤ V 1 1 ∧ V 1 1 ≤ 12 := hR 1 1 (by decide) (by decide)
  have hG := gN_rg hR
  have hm := mN_le hR
  by_cases g1 : 1 ≤ a ∧ a ≤ 999
  · obtain ⟨U, f, qU, hf, ⟨p0, hp0, hv0⟩, hmax, hrU⟩ := k_18 (L := L) (xs := xs) (J := J) (tg := tg) (d := 27) h0 (Qy.rf h3) g1
    obtain ⟨v, hv⟩ : ∃ v : Int, v = if f < 6 then (f : Int) else -1 := ⟨_, rfl⟩
    rw [← hv] at hrU
    have far : ∀ s, s < 6 → (a ≤ (rf (mN V) (gN V) (s + 1) 0 (pr (mN V) (s + 1)) (-1, 0)).1 ↔ ∃ i, i < pr (mN V) (s + 1) ∧ a ≤ vv (mN V) (gN V) (s + 1) i) := fun s hs => by
      rw [rf_max]
      constructor
      · rintro (h | ⟨i, h1, h2⟩)
        · have h : a ≤ -1 := h
          omega
        · rw [Nat.zero_add] at h2; exact ⟨i, h1, h2⟩
      · rintro ⟨i, h1, h2⟩
        exact Or.inr ⟨i, h1, by rw [Nat.zero_add]; exact h2⟩
    -- below f a choice stands
    have below : ∀ s, s < f → ∃ i, i < pr (mN V) (s + 1) ∧ a ≤ vv (mN V) (gN V) (s + 1) i := fun s hs => by
      have e : s + 1 + (f - (s + 1)) = f := by omega
      refine ⟨anc (mN V) (s + 1) (f - (s + 1)) p0, anc_lt hm (by rw [e]; exact hp0), Int.le_trans ?_ vv_anc⟩
      rw [e]; exact hv0
    have hres : ∃ r, (∃ W, Qy V W ∧ r = (some (Value.int (Int32.ofInt (v))), zS (eV W) J tg)) ∧ Runs (GW L xs) 40 268 (15, [.ref 93, (Value.int (Int32.ofInt (a))), (Value.int (Int32.ofInt ((0 : Nat))))], [], zS (eV U) J tg) r := by
      refine loopE (g := GW L xs) (d := 40) (mid := 268) (σ := Nat → Nat → Int) (fun s W => (15, [.ref 93, (Value.int (Int32.ofInt (a))), (Value.int (Int32.ofInt (s)))], [], zS (eV W) J tg)) (fun s W => Qy V W ∧ s ≤ f) (fun r => ∃ W, Qy V W ∧ r = (some (Value.int (Int32.ofInt (v))), zS (eV W) J tg)) 6 ?_ ?_ 6 0 U (by omega) ⟨qU, by omega⟩
      · intro s W hs ⟨qW, hsf⟩
        obtain ⟨e1, -⟩ := slot_m h0 qW hs
        have hms := hm s
        by_cases g : mN V s = 0
        · left
          rw [g] at e1
          refine ⟨W, ⟨qW, ?_⟩, fun r hr => ?_⟩
          · by_cases e : s = f
            · exfalso
              subst e
              have hM : mm (mN V) s = 1 := if_pos g
              have hpr : pr (mN V) (s + 1) = pr (mN V) s * mm (mN V) s := rfl
              have hvs : vv (mN V) (gN V) (s + 1) p0 = vv (mN V) (gN V) s p0 := if_pos g
              have := hmax (s + 1) p0 (by omega) (by rw [hpr, hM, Nat.mul_one]; exact hp0) (by rw [hvs]; exact hv0)
              omega
            · omega
          · apply sg_268_15
            simp (disch := omega) only [e1, eV_at, eV_up, o_lit2, o_add, o_sub, o_mul, o_neg, o_div, o_nat, ix_t, o_lt, o_le, o_eq, o_bi0, o_bi1, o_bib, em_t, o_neg1, o_shl, o_tb, o_tb0, o_tt, o_and, o_xor, o_or, o_max, o_min, an_tb, and_true, true_and, not_true, not_false, if_true, if_false, tn_add, tn_mul, Int.reduceToNat, tn_cast, md_x]
            rw [if_neg (by omega), if_pos (by omega)]
            exact hr
        · obtain ⟨X, x1, x2, x3, x4⟩ := m_266 (L := L) (xs := xs) (J := J) (tg := tg) (d := 35) h0 qW (last := s) (by omega)
          have hyr := rf_rg (m := mN V) (S := s + 1) (a := 0) hG (x := (-1, 0)) (by decide) (pr (mN V) (s + 1))
          have hfs := far s hs
          generalize rf (mN V) (gN V) (s + 1) 0 (pr (mN V) (s + 1)) (-1, 0) = y at x2 hyr hfs
          by_cases e : s < f
          · left
            have := hfs.mpr (below s e)
            refine ⟨X, ⟨qW.cf x1, by omega⟩, fun r hr => ?_⟩
            apply sg_268_15
            simp (disch := omega) only [e1, eV_at, eV_up, o_lit2, o_add, o_sub, o_mul, o_neg, o_div, o_nat, ix_t, o_lt, o_le, o_eq, o_bi0, o_bi1, o_bib, em_t, o_neg1, o_shl, o_tb, o_tb0, o_tt, o_and, o_xor, o_or, o_max, o_min, an_tb, and_true, true_and, not_true, not_false, if_true, if_false, tn_add, tn_mul, Int.reduceToNat, tn_cast, md_x]
            rw [if_neg (by omega), if_neg (by omega)]
            refine ⟨_, _, x4, ?_⟩
            simp (disch := omega) only [x2, eV_at, eV_up, o_lit2, o_add, o_sub, o_mul, o_neg, o_div, o_nat, ix_t, o_lt, o_le, o_eq, o_bi0, o_bi1, o_bib, em_t, o_neg1, o_shl, o_tb, o_tb0, o_tt, o_and, o_xor, o_or, o_max, o_min, an_tb, and_true, true_and, not_true, not_false, if_true, if_false, tn_add, tn_mul, Int.reduceToNat, tn_cast, md_x]
            rw [if_pos (by omega)]
            exact hr
          · right
            have e : s = f := by omega
            subst e
            have hno : ¬ a ≤ y.1 := fun h => by
              obtain ⟨i, h1, h2⟩ := hfs.mp h
              have := hmax (s + 1) i (by omega) h1 h2
              omega
            rw [if_pos hs] at hv
            subst hv
            refine ⟨_, ⟨X, qW.cf x1, rfl⟩, ?_⟩
            apply sg_268_15
            simp (disch := omega) only [e1, eV_at, eV_up, o_lit2, o_add, o_sub, o_mul, o_neg, o_div, o_nat, ix_t, o_lt, o_le, o_eq, o_bi0, o_bi1, o_bib, em_t, o_neg1, o_shl, o_tb, o_tb0, o_tt, o_and, o_xor, o_or, o_max, o_min, an_tb, and_true, true_and, not_true, not_false, if_true, if_false, tn_add, tn_mul, Int.reduceToNat, tn_cast, md_x]
            rw [if_neg (by omega), if_neg (by omega)]
            refine ⟨_, _, x4, ?_⟩
            simp (disch := omega) only [x2, eV_at, eV_up, o_lit2, o_add, o_sub, o_mul, o_neg, o_div, o_nat, ix_t, o_lt, o_le, o_eq, o_bi0, o_bi1, o_bib, em_t, o_neg1, o_shl, o_tb, o_tb0, o_tt, o_and, o_xor, o_or, o_max, o_min, an_tb, and_true, true_and, not_true, not_false, if_true, if_false, tn_add, tn_mul, Int.reduceToNat, tn_cast, md_x]
            rw [if_neg hno] <;> first | rfl | trivial
      · intro W ⟨qW, hsf⟩
        rw [if_neg (by omega)] at hv
        subst hv
        refine ⟨_, ⟨W, qW, rfl⟩, ?_⟩
        apply sg_268_15
        rw [if_pos (by decide)]
        rfl
    obtain ⟨r, ⟨W, qW, rfl⟩, hrW⟩ := hres
    refine ⟨v, U, W, J, ?_, ?_, h0.q qW⟩
    · apply sg_141
      refine ⟨_, _, k_164 (a := 1) (b := 999) ha (by omega) (by omega), ?_⟩
      rw [if_neg (b0_f g1)]
      exact ⟨_, _, hrU, rfl⟩
    · apply sg_268
      refine ⟨_, _, _, k_177 (a := 1) (b := 999) ha (by omega) (by omega), ?_⟩
      rw [if_neg (b0_f g1)]
      exact hrW
  · refine ⟨-1, V, V, J, ?_, ?_, h0⟩
    · apply sg_141
      refine ⟨_, _, k_164 (a := 1) (b := 999) ha (by omega) (by omega), ?_⟩
      rw [if_pos (b0_t g1)]; rfl
    · apply sg_268
      refine ⟨_, _, _, k_177 (a := 1) (b := 999) ha (by omega) (by omega), ?_⟩
      rw [if_pos (b0_t g1)]; rfl
