theorem c_group {L : Nat} {xs : Nat → Int32} {V : Nat → Nat → Int} {J : Nat → Nat → Int64} {tg : Option Nat} (h : INV V) {t c : Int} (ht : (-2147483648 ≤ t ∧ t < 2147483648)) (hc : (-2147483648 ≤ c ∧ c < 2147483648)) : ∃ (v : Int) (U W : Nat → Nat → Int) (J1 : Nat → Nat → Int64), Runs (GW L xs) 40 142 (0, [.ref 0, (Value.int (Int32.ofInt (t))), (Value.int (Int32.ofInt (c)))], [], zS (eV V) J tg) (some (Value.int (Int32.ofInt v)), zS (eV U) J tg) ∧ Runs (GW L xs) 40 269 (0, [.ref 93, (Value.int (Int32.ofInt (t))), (Value.int (Int32.ofInt (c)))], [], zS (eV U) J tg) (some (Value.int (Int32.ofInt v)), zS (eV W) J1 tg) ∧ INV W := by
  have h0 := h
  obtain ⟨hR, ⟨hA, hB, hC, hD, hE, hF, hH⟩, h2, h3, h4, h5⟩ := h
  have rD : 0 ≤ V 1 0 ∧ V 1 0 ≤ 12 := hR 1 0 (by decide) (by decide)
  have rT : 0 ≤ V 1 1 ∧ V 1 1 ≤ 12 := hR 1 1 (by decide) (by decide)
  by_cases g1 : 12 ≤ t ∧ t < 12 + V 1 1
  · skip
    by_cases g2 : 0 ≤ c ∧ c ≤ 5
    · skip
      obtain ⟨m, rfl⟩ : ∃ m : Nat, t = m + 12 := ⟨(t - 12).toNat, by omega⟩
      have hRU : RNG (up2 V 11 m c) := hR.up (c := 11) (p := m) (z := c) g2
      have e : ∀ x, x ≠ 11 → up2 V 11 m c x = V x := fun x q => by rw [w_ne _ _ _ _ q]
      have hAU : RA (up2 V 11 m c) 1 94 := hA.up (fun p _ => by rw [e 1 (by omega)]) (fun p _ => by rw [e 94 (by omega)])
      have g1 : 12 ≤ (m : Int) + 12 ∧ (m : Int) + 12 < 12 + up2 V 11 m c 1 1 := by rw [e 1 (by omega)]; exact g1
      have i1 : ((m : Int) + 12 - 12).toNat = m := by omega
      have i2 : (780 + ((m : Int) + 12) - 12).toNat = 780 + m := by omega
      refine ⟨1, up2 V 11 m c, up2 (up2 V 11 m c) 94 (780 + m) c, J, ?_, ?_, ?_⟩
      · skip
        apply sg_142
        simp (disch := omega) only [eV_at, eV_up, o_lit2, o_add, o_sub, o_mul, o_neg, o_div, o_nat, ix_t, o_lt, o_le, o_eq, o_bi0, o_bi1, o_bib, em_t, o_neg1, o_shl, o_tb, o_tb0, o_tt, o_and, o_xor, o_or, o_max, o_min, an_tb, and_true, true_and, not_true, not_false, if_true, if_false, tn_add, tn_mul, Int.reduceToNat, tn_cast, md_x]
        refine ⟨_, _, k_45 hR ht, ?_⟩
        simp (disch := omega) only [eV_at, eV_up, o_lit2, o_add, o_sub, o_mul, o_neg, o_div, o_nat, ix_t, o_lt, o_le, o_eq, o_bi0, o_bi1, o_bib, em_t, o_neg1, o_shl, o_tb, o_tb0, o_tt, o_and, o_xor, o_or, o_max, o_min, an_tb, and_true, true_and, not_true, not_false, if_true, if_false, tn_add, tn_mul, Int.reduceToNat, tn_cast, md_x]
        rw [if_neg (fun q => q (by assumption))]
        refine ⟨_, _, k_164 hc (by omega) (by omega), ?_⟩
        simp (disch := omega) only [eV_at, eV_up, o_lit2, o_add, o_sub, o_mul, o_neg, o_div, o_nat, ix_t, o_lt, o_le, o_eq, o_bi0, o_bi1, o_bib, em_t, o_neg1, o_shl, o_tb, o_tb0, o_tt, o_and, o_xor, o_or, o_max, o_min, an_tb, and_true, true_and, not_true, not_false, if_true, if_false, tn_add, tn_mul, Int.reduceToNat, tn_cast, md_x]
        rw [if_neg (fun q => q (by assumption))]
        rw [i1] <;> trivial
      · skip
        apply sg_269
        simp (disch := omega) only [eV_at, eV_up, o_lit2, o_add, o_sub, o_mul, o_neg, o_div, o_nat, ix_t, o_lt, o_le, o_eq, o_bi0, o_bi1, o_bib, em_t, o_neg1, o_shl, o_tb, o_tb0, o_tt, o_and, o_xor, o_or, o_max, o_min, an_tb, and_true, true_and, not_true, not_false, if_true, if_false, tn_add, tn_mul, Int.reduceToNat, tn_cast, md_x]
        refine ⟨_, _, _, m_180 hRU hAU ht, ?_⟩
        simp (disch := omega) only [eV_at, eV_up, o_lit2, o_add, o_sub, o_mul, o_neg, o_div, o_nat, ix_t, o_lt, o_le, o_eq, o_bi0, o_bi1, o_bib, em_t, o_neg1, o_shl, o_tb, o_tb0, o_tt, o_and, o_xor, o_or, o_max, o_min, an_tb, and_true, true_and, not_true, not_false, if_true, if_false, tn_add, tn_mul, Int.reduceToNat, tn_cast, md_x]
        rw [if_neg (fun q => q (by assumption))]
        refine ⟨_, _, _, k_177 hc (by omega) (by omega), ?_⟩
        simp (disch := omega) only [eV_at, eV_up, o_lit2, o_add, o_sub, o_mul, o_neg, o_div, o_nat, ix_t, o_lt, o_le, o_eq, o_bi0, o_bi1, o_bib, em_t, o_neg1, o_shl, o_tb, o_tb0, o_tt, o_and, o_xor, o_or, o_max, o_min, an_tb, and_true, true_and, not_true, not_false, if_true, if_false, tn_add, tn_mul, Int.reduceToNat, tn_cast, md_x]
        rw [if_neg (fun q => q (by assumption))]
        rw [i2] <;> trivial
      · have f : ∀ x, x ≠ 11 ∧ x ≠ 94 → (up2 (up2 V 11 m c) 94 (780 + m) c) x = V x := fun x q => by rw [w_ne _ _ _ _ q.2, w_ne _ _ _ _ q.1]
        have f11 : ∀ x, (up2 (up2 V 11 m c) 94 (780 + m) c) 11 x = if x = m then c else V 11 x := fun x => by rw [w_ne _ _ _ _ (by decide), w_at]
        have f94 : ∀ p, p ≠ 780 + m → (up2 (up2 V 11 m c) 94 (780 + m) c) 94 p = V 94 p := fun p q => by rw [w_at, if_neg q, w_ne _ _ _ _ (by decide)]
        have f94a : (up2 (up2 V 11 m c) 94 (780 + m) c) 94 (780 + m) = c := w_eq _ _ _ _
        have hRW : RNG (up2 (up2 V 11 m c) 94 (780 + m) c) := hRU.upn (by decide)
        generalize (up2 (up2 V 11 m c) 94 (780 + m) c) = W at *
        refine ⟨hRW, ⟨(hA.up (fun p _ => by rw [f 1 (by omega)]) (fun p q => f94 p (by omega))), (hB.up hR (by rw [f 1 (by omega)]) (by rw [f 1 (by omega)]) (f 2 (by omega)) (f 3 (by omega)) (f 4 (by omega)) (fun l w _ _ => f94 _ (by omega))), (hC.up hR (by rw [f 1 (by omega)]) (f 5 (by omega)) (f 6 (by omega)) (f 12 (by omega)) (fun l w _ _ => f94 _ (by omega)) (fun k _ => f94 _ (by omega))), (hD.up (by rw [f 1 (by omega)]) (by rw [f 1 (by omega)]) (f 3 (by omega)) (f 4 (by omega)) (f 5 (by omega)) (f 6 (by omega)) (f 12 (by omega))), ?_, (hF.up hR (by rw [f 1 (by omega)]) (by rw [f 1 (by omega)]) (by rw [f 7 (by omega)]) (fun x _ _ => f x (by omega)) (fun p _ => f94 _ (by omega))), (hH.up hR (by rw [f 1 (by omega)]) (fun x _ _ => f x (by omega)) (fun p _ => f94 _ (by omega)))⟩, (h2.fr fun x _ => f x (by omega)), (h3.up (f 1 (by omega)) (f 2 (by omega)) (f 3 (by omega)) (f 4 (by omega)) (f 71 (by omega)) (f 81 (by omega))), (h4.fr (fun x _ => f x (by omega)) (by rw [f 93 (by omega)]) (by rw [f 93 (by omega)]) (by rw [f 93 (by omega)])), (h5.fr hR fun x _ => f x (by omega))⟩
        obtain ⟨e1, e2, e3, e4⟩ := hE
        refine ⟨?_, fun j hj => ?_, fun j hj => ?_, fun j hj => ?_⟩
        · rw [f94 _ (by omega), f94 _ (by omega), f94 _ (by omega), f94 _ (by omega), f94 _ (by omega), f94 _ (by omega), f 7 (by omega)]; exact e1
        · rw [f94 _ (by omega), f94 _ (by omega), f (7 + 1) (by omega), f (7 + 2) (by omega), f 1 (by omega)]; exact e2 j hj
        · rw [f94 _ (by omega), f (7 + 3) (by omega)]; exact e3 j hj
        · have f11' : W (7 + 4) j = if j = m then c else V 11 j := f11 j
          rw [f11']
          by_cases q : j = m
          · subst q; rw [if_pos rfl]; exact f94a
          · rw [if_neg q, f94 _ (by omega)]; exact e4 j hj
    · refine ⟨0, V, V, J, ?_, ?_, h0⟩
      · apply sg_142
        simp (disch := omega) only [eV_at, eV_up, o_lit2, o_add, o_sub, o_mul, o_neg, o_div, o_nat, ix_t, o_lt, o_le, o_eq, o_bi0, o_bi1, o_bib, em_t, o_neg1, o_shl, o_tb, o_tb0, o_tt, o_and, o_xor, o_or, o_max, o_min, an_tb, and_true, true_and, not_true, not_false, if_true, if_false, tn_add, tn_mul, Int.reduceToNat, tn_cast, md_x]
        refine ⟨_, _, k_45 hR ht, ?_⟩
        simp (disch := omega) only [eV_at, eV_up, o_lit2, o_add, o_sub, o_mul, o_neg, o_div, o_nat, ix_t, o_lt, o_le, o_eq, o_bi0, o_bi1, o_bib, em_t, o_neg1, o_shl, o_tb, o_tb0, o_tt, o_and, o_xor, o_or, o_max, o_min, an_tb, and_true, true_and, not_true, not_false, if_true, if_false, tn_add, tn_mul, Int.reduceToNat, tn_cast, md_x]
        rw [if_neg (fun q => q (by assumption))]
        refine ⟨_, _, k_164 hc (by omega) (by omega), ?_⟩
        simp (disch := omega) only [eV_at, eV_up, o_lit2, o_add, o_sub, o_mul, o_neg, o_div, o_nat, ix_t, o_lt, o_le, o_eq, o_bi0, o_bi1, o_bib, em_t, o_neg1, o_shl, o_tb, o_tb0, o_tt, o_and, o_xor, o_or, o_max, o_min, an_tb, and_true, true_and, not_true, not_false, if_true, if_false, tn_add, tn_mul, Int.reduceToNat, tn_cast, md_x]
        rw [if_pos (by assumption)] <;> trivial
      · apply sg_269
        simp (disch := omega) only [eV_at, eV_up, o_lit2, o_add, o_sub, o_mul, o_neg, o_div, o_nat, ix_t, o_lt, o_le, o_eq, o_bi0, o_bi1, o_bib, em_t, o_neg1, o_shl, o_tb, o_tb0, o_tt, o_and, o_xor, o_or, o_max, o_min, an_tb, and_true, true_and, not_true, not_false, if_true, if_false, tn_add, tn_mul, Int.reduceToNat, tn_cast, md_x]
        refine ⟨_, _, _, m_180 hR hA ht, ?_⟩
        simp (disch := omega) only [eV_at, eV_up, o_lit2, o_add, o_sub, o_mul, o_neg, o_div, o_nat, ix_t, o_lt, o_le, o_eq, o_bi0, o_bi1, o_bib, em_t, o_neg1, o_shl, o_tb, o_tb0, o_tt, o_and, o_xor, o_or, o_max, o_min, an_tb, and_true, true_and, not_true, not_false, if_true, if_false, tn_add, tn_mul, Int.reduceToNat, tn_cast, md_x]
        rw [if_neg (fun q => q (by assumption))]
        refine ⟨_, _, _, k_177 hc (by omega) (by omega), ?_⟩
        simp (disch := omega) only [eV_at, eV_up, o_lit2, o_add, o_sub, o_mul, o_neg, o_div, o_nat, ix_t, o_lt, o_le, o_eq, o_bi0, o_bi1, o_bib, em_t, o_neg1, o_shl, o_tb, o_tb0, o_tt, o_and, o_xor, o_or, o_max, o_min, an_tb, and_true, true_and, not_true, not_false, if_true, if_false, tn_add, tn_mul, Int.reduceToNat, tn_cast, md_x]
        rw [if_pos (by assumption)] <;> trivial
  · refine ⟨0, V, V, J, ?_, ?_, h0⟩
    · apply sg_142
      simp (disch := omega) only [eV_at, eV_up, o_lit2, o_add, o_sub, o_mul, o_neg, o_div, o_nat, ix_t, o_lt, o_le, o_eq, o_bi0, o_bi1, o_bib, em_t, o_neg1, o_shl, o_tb, o_tb0, o_tt, o_and, o_xor, o_or, o_max, o_min, an_tb, and_true, true_and, not_true, not_false, if_true, if_false, tn_add, tn_mul, Int.reduceToNat, tn_cast, md_x]
      refine ⟨_, _, k_45 hR ht, ?_⟩
      simp (disch := omega) only [eV_at, eV_up, o_lit2, o_add, o_sub, o_mul, o_neg, o_div, o_nat, ix_t, o_lt, o_le, o_eq, o_bi0, o_bi1, o_bib, em_t, o_neg1, o_shl, o_tb, o_tb0, o_tt, o_and, o_xor, o_or, o_max, o_min, an_tb, and_true, true_and, not_true, not_false, if_true, if_false, tn_add, tn_mul, Int.reduceToNat, tn_cast, md_x]
      rw [if_pos (by assumption)] <;> trivial
    · apply sg_269
      simp (disch := omega) only [eV_at, eV_up, o_lit2, o_add, o_sub, o_mul, o_neg, o_div, o_nat, ix_t, o_lt, o_le, o_eq, o_bi0, o_bi1, o_bib, em_t, o_neg1, o_shl, o_tb, o_tb0, o_tt, o_and, o_xor, o_or, o_max, o_min, an_tb, and_true, true_and, not_true, not_false, if_true, if_false, tn_add, tn_mul, Int.reduceToNat, tn_cast, md_x]
      refine ⟨_, _, _, m_180 hR hA ht, ?_⟩
      simp (disch := omega) only [eV_at, eV_up, o_lit2, o_add, o_sub, o_mul, o_neg, o_div, o_nat, ix_t, o_lt, o_le, o_eq, o_bi0, o_bi1, o_bib, em_t, o_neg1, o_shl, o_tb, o_tb0, o_tt, o_and, o_xor, o_or, o_max, o_min, an_tb, and_true, true_and, not_true, not_false, if_true, if_false, tn_add, tn_mul, Int.reduceToNat, tn_cast, md_x]
      rw [if_pos (by assumption)] <;> trivial
theorem c_days {L : Nat} {xs : Nat → Int32} {V : Nat → Nat → Int} {J : Nat → Nat → Int64} {tg : Option Nat} (h : INV V) {a : Int} (ha : (-2147483648 ≤ a ∧ a < 2147483648)) : ∃ (v : Int) (U W : Nat → Nat → Int) (J1 : Nat → Nat → Int64), Runs (GW L xs) 40 153 (0, [.ref 0, (Value.int (Int32.ofInt (a)))], [], zS (eV V) J tg) (some (Value.int (Int32.ofInt v)), zS (eV U) J tg) ∧ Runs (GW L xs) 40 288 (0, [.ref 93, (Value.int (Int32.ofInt (a)))], [], zS (eV U) J tg) (some (Value.int (Int32.ofInt v)), zS (eV W) J1 tg) ∧ INV W := by
  have h0 := h
  obtain ⟨hR, ⟨hA, hB, hC, hD, hE, hF, hH⟩, h2, h3, h4, h5⟩ := h
  have rD : 0 ≤ V 1 0 ∧ V 1 0 ≤ 12 := hR 1 0 (by decide) (by decide)
  have rT : 0 ≤ V 1 1 ∧ V 1 1 ≤ 12 := hR 1 1 (by decide) (by decide)
  have r4 : 0 ≤ V 7 4 ∧ V 7 4 ≤ 999 := hR 7 4 (by decide) (by decide)
  obtain ⟨e1, e2, e3, e4⟩ := id hE
  have h940 : V 94 0 = V 7 4 := e1.2.2.2.2.1
  by_cases g1 : 1 ≤ a ∧ a ≤ 99
  · skip
    by_cases g2 : V 7 4 + a ≤ 999
    · skip
      refine ⟨V 7 4 + a, up2 V 7 4 (V 7 4 + a), up2 (up2 V 7 4 (V 7 4 + a)) 94 0 (V 7 4 + a), J, ?_, ?_, ?_⟩
      · skip
        apply sg_153
        simp (disch := omega) only [h940, w_eq, w_nc, w_ne2, eV_at, eV_up, o_lit2, o_add, o_sub, o_mul, o_neg, o_div, o_nat, ix_t, o_lt, o_le, o_eq, o_bi0, o_bi1, o_bib, em_t, o_neg1, o_shl, o_tb, o_tb0, o_tt, o_and, o_xor, o_or, o_max, o_min, an_tb, and_true, true_and, not_true, not_false, if_true, if_false, tn_add, tn_mul, Int.reduceToNat, tn_cast, md_x]
        refine ⟨_, _, k_164 ha (by omega) (by omega), ?_⟩
        simp (disch := omega) only [h940, w_eq, w_nc, w_ne2, eV_at, eV_up, o_lit2, o_add, o_sub, o_mul, o_neg, o_div, o_nat, ix_t, o_lt, o_le, o_eq, o_bi0, o_bi1, o_bib, em_t, o_neg1, o_shl, o_tb, o_tb0, o_tt, o_and, o_xor, o_or, o_max, o_min, an_tb, and_true, true_and, not_true, not_false, if_true, if_false, tn_add, tn_mul, Int.reduceToNat, tn_cast, md_x]
        rw [if_neg (fun q => q (by assumption))]
        rw [if_pos (by omega)]
        trivial
      · skip
        apply sg_288
        simp (disch := omega) only [h940, w_eq, w_nc, w_ne2, eV_at, eV_up, o_lit2, o_add, o_sub, o_mul, o_neg, o_div, o_nat, ix_t, o_lt, o_le, o_eq, o_bi0, o_bi1, o_bib, em_t, o_neg1, o_shl, o_tb, o_tb0, o_tt, o_and, o_xor, o_or, o_max, o_min, an_tb, and_true, true_and, not_true, not_false, if_true, if_false, tn_add, tn_mul, Int.reduceToNat, tn_cast, md_x]
        refine ⟨_, _, _, k_177 ha (by omega) (by omega), ?_⟩
        simp (disch := omega) only [h940, w_eq, w_nc, w_ne2, eV_at, eV_up, o_lit2, o_add, o_sub, o_mul, o_neg, o_div, o_nat, ix_t, o_lt, o_le, o_eq, o_bi0, o_bi1, o_bib, em_t, o_neg1, o_shl, o_tb, o_tb0, o_tt, o_and, o_xor, o_or, o_max, o_min, an_tb, and_true, true_and, not_true, not_false, if_true, if_false, tn_add, tn_mul, Int.reduceToNat, tn_cast, md_x]
        rw [if_neg (fun q => q (by assumption))]
        rw [if_pos (by omega)]
        trivial
      · have f : ∀ x, x ≠ 7 ∧ x ≠ 94 → (up2 (up2 V 7 4 (V 7 4 + a)) 94 0 (V 7 4 + a)) x = V x := fun x q => by rw [w_ne _ _ _ _ q.2, w_ne _ _ _ _ q.1]
        have f7 : ∀ x, (up2 (up2 V 7 4 (V 7 4 + a)) 94 0 (V 7 4 + a)) 7 x = if x = 4 then V 7 4 + a else V 7 x := fun x => by rw [w_ne _ _ _ _ (by decide), w_at]
        have f94 : ∀ p, p ≠ 0 → (up2 (up2 V 7 4 (V 7 4 + a)) 94 0 (V 7 4 + a)) 94 p = V 94 p := fun p q => by rw [w_at, if_neg q, w_ne _ _ _ _ (by decide)]
        have f94a : (up2 (up2 V 7 4 (V 7 4 + a)) 94 0 (V 7 4 + a)) 94 0 = V 7 4 + a := w_eq _ _ _ _
        have hRW : RNG (up2 (up2 V 7 4 (V 7 4 + a)) 94 0 (V 7 4 + a)) := (hR.up (c := 7) (p := 4) (z := V 7 4 + a) (by show (0 : Int) ≤ _ ∧ _ ≤ (999 : Int); omega)).upn (by decide)
        generalize (up2 (up2 V 7 4 (V 7 4 + a)) 94 0 (V 7 4 + a)) = W at *
        refine ⟨hRW, ⟨(hA.up (fun p _ => by rw [f 1 (by omega)]) (fun p q => f94 p (by omega))), (hB.up hR (by rw [f 1 (by omega)]) (by rw [f 1 (by omega)]) (f 2 (by omega)) (f 3 (by omega)) (f 4 (by omega)) (fun l w _ _ => f94 _ (by omega))), (hC.up hR (by rw [f 1 (by omega)]) (f 5 (by omega)) (f 6 (by omega)) (f 12 (by omega)) (fun l w _ _ => f94 _ (by omega)) (fun k _ => f94 _ (by omega))), (hD.up (by rw [f 1 (by omega)]) (by rw [f 1 (by omega)]) (f 3 (by omega)) (f 4 (by omega)) (f 5 (by omega)) (f 6 (by omega)) (f 12 (by omega))), ?_, hF.up hR (by rw [f 1 (by omega)]) (by rw [f 1 (by omega)]) (by rw [f7]; rfl) (fun x _ _ => f x (by omega)) (fun p _ => f94 _ (by omega)), (hH.up hR (by rw [f 1 (by omega)]) (fun x _ _ => f x (by omega)) (fun p _ => f94 _ (by omega)))⟩, (h2.fr fun x _ => f x (by omega)), (h3.up (f 1 (by omega)) (f 2 (by omega)) (f 3 (by omega)) (f 4 (by omega)) (f 71 (by omega)) (f 81 (by omega))), (h4.fr (fun x _ => f x (by omega)) (by rw [f 93 (by omega)]) (by rw [f 93 (by omega)]) (by rw [f 93 (by omega)])), (h5.fr hR fun x _ => f x (by omega))⟩
        refine ⟨?_, fun j hj => ?_, fun j hj => ?_, fun j hj => ?_⟩
        · rw [f94 12 (by omega), f94 13 (by omega), f94 14 (by omega), f94 15 (by omega), f94a, f94 7 (by omega), f7, f7, f7, f7, f7, f7]; exact ⟨e1.1, e1.2.1, e1.2.2.1, e1.2.2.2.1, rfl, e1.2.2.2.2.2⟩
        · rw [f94 _ (by omega), f94 _ (by omega), f (7 + 1) (by omega), f (7 + 2) (by omega), f 1 (by omega)]; exact e2 j hj
        · rw [f94 _ (by omega), f (7 + 3) (by omega)]; exact e3 j hj
        · rw [f94 _ (by omega), f (7 + 4) (by omega)]; exact e4 j hj
    · refine ⟨-1, V, V, J, ?_, ?_, h0⟩
      · apply sg_153
        simp (disch := omega) only [h940, w_eq, w_nc, w_ne2, eV_at, eV_up, o_lit2, o_add, o_sub, o_mul, o_neg, o_div, o_nat, ix_t, o_lt, o_le, o_eq, o_bi0, o_bi1, o_bib, em_t, o_neg1, o_shl, o_tb, o_tb0, o_tt, o_and, o_xor, o_or, o_max, o_min, an_tb, and_true, true_and, not_true, not_false, if_true, if_false, tn_add, tn_mul, Int.reduceToNat, tn_cast, md_x]
        refine ⟨_, _, k_164 ha (by omega) (by omega), ?_⟩
        simp (disch := omega) only [h940, w_eq, w_nc, w_ne2, eV_at, eV_up, o_lit2, o_add, o_sub, o_mul, o_neg, o_div, o_nat, ix_t, o_lt, o_le, o_eq, o_bi0, o_bi1, o_bib, em_t, o_neg1, o_shl, o_tb, o_tb0, o_tt, o_and, o_xor, o_or, o_max, o_min, an_tb, and_true, true_and, not_true, not_false, if_true, if_false, tn_add, tn_mul, Int.reduceToNat, tn_cast, md_x]
        rw [if_neg (fun q => q (by assumption))]
        rw [if_neg (by omega)] <;> trivial
      · apply sg_288
        simp (disch := omega) only [h940, w_eq, w_nc, w_ne2, eV_at, eV_up, o_lit2, o_add, o_sub, o_mul, o_neg, o_div, o_nat, ix_t, o_lt, o_le, o_eq, o_bi0, o_bi1, o_bib, em_t, o_neg1, o_shl, o_tb, o_tb0, o_tt, o_and, o_xor, o_or, o_max, o_min, an_tb, and_true, true_and, not_true, not_false, if_true, if_false, tn_add, tn_mul, Int.reduceToNat, tn_cast, md_x]
        refine ⟨_, _, _, k_177 ha (by omega) (by omega), ?_⟩
        simp (disch := omega) only [h940, w_eq, w_nc, w_ne2, eV_at, eV_up, o_lit2, o_add, o_sub, o_mul, o_neg, o_div, o_nat, ix_t, o_lt, o_le, o_eq, o_bi0, o_bi1, o_bib, em_t, o_neg1, o_shl, o_tb, o_tb0, o_tt, o_and, o_xor, o_or, o_max, o_min, an_tb, and_true, true_and, not_true, not_false, if_true, if_false, tn_add, tn_mul, Int.reduceToNat, tn_cast, md_x]
        rw [if_neg (fun q => q (by assumption))]
        rw [if_neg (by omega)] <;> trivial
  · refine ⟨-1, V, V, J, ?_, ?_, h0⟩
    · apply sg_153
      simp (disch := omega) only [h940, w_eq, w_nc, w_ne2, eV_at, eV_up, o_lit2, o_add, o_sub, o_mul, o_neg, o_div, o_nat, ix_t, o_lt, o_le, o_eq, o_bi0, o_bi1, o_bib, em_t, o_neg1, o_shl, o_tb, o_tb0, o_tt, o_and, o_xor, o_or, o_max, o_min, an_tb, and_true, true_and, not_true, not_false, if_true, if_false, tn_add, tn_mul, Int.reduceToNat, tn_cast, md_x]
      refine ⟨_, _, k_164 ha (by omega) (by omega), ?_⟩
      simp (disch := omega) only [h940, w_eq, w_nc, w_ne2, eV_at, eV_up, o_lit2, o_add, o_sub, o_mul, o_neg, o_div, o_nat, ix_t, o_lt, o_le, o_eq, o_bi0, o_bi1, o_bib, em_t, o_neg1, o_shl, o_tb, o_tb0, o_tt, o_and, o_xor, o_or, o_max, o_min, an_tb, and_true, true_and, not_true, not_false, if_true, if_false, tn_add, tn_mul, Int.reduceToNat, tn_cast, md_x]
      rw [if_pos (by assumption)] <;> trivial
    · apply sg_288
      simp (disch := omega) only [h940, w_eq, w_nc, w_ne2, eV_at, eV_up, o_lit2, o_add, o_sub, o_mul, o_neg, o_div, o_nat, ix_t, o_lt, o_le, o_eq, o_bi0, o_bi1, o_bib, em_t, o_neg1, o_shl, o_tb, o_tb0, o_tt, o_and, o_xor, o_or, o_max, o_min, an_tb, and_true, true_and, not_true, not_false, if_true, if_false, tn_add, tn_mul, Int.reduceToNat, tn_cast, md_x]
      refine ⟨_, _, _, k_177 ha (by omega) (by omega), ?_⟩
      simp (disch := omega) only [h940, w_eq, w_nc, w_ne2, eV_at, eV_up, o_lit2, o_add, o_sub, o_mul, o_neg, o_div, o_nat, ix_t, o_lt, o_le, o_eq, o_bi0, o_bi1, o_bib, em_t, o_neg1, o_shl, o_tb, o_tb0, o_tt, o_and, o_xor, o_or, o_max, o_min, an_tb, and_true, true_and, not_true, not_false, if_true, if_false, tn_add, tn_mul, Int.reduceToNat, tn_cast, md_x]
      rw [if_pos (by assumption)] <;> trivial
theorem c_hang {L : Nat} {xs : Nat → Int32} {V : Nat → Nat → Int} {J : Nat → Nat → Int64} {tg : Option Nat} (h : INV V) {a : Int} (ha : (-2147483648 ≤ a ∧ a < 2147483648)) : ∃ (v : Int) (U W : Nat → Nat → Int) (J1 : Nat → Nat → Int64), Runs (GW L xs) 40 143 (0, [.ref 0, (Value.int (Int32.ofInt (a)))], [], zS (eV V) J tg) (some (Value.int (Int32.ofInt v)), zS (eV U) J tg) ∧ Runs (GW L xs) 40 270 (0, [.ref 93, (Value.int (Int32.ofInt (a)))], [], zS (eV U) J tg) (some (Value.int (Int32.ofInt v)), zS (eV W) J1 tg) ∧ INV W := by
  have h0 := h
  obtain ⟨hR, ⟨hA, hB, hC, hD, hE, hF, hH⟩, h2, h3, h4, h5⟩ := h
  have rD : 0 ≤ V 1 0 ∧ V 1 0 ≤ 12 := hR 1 0 (by decide) (by decide)
  have rT : 0 ≤ V 1 1 ∧ V 1 1 ≤ 12 := hR 1 1 (by decide) (by decide)
  have r3 : 0 ≤ V 18 3 ∧ V 18 3 ≤ 8 := hR 18 3 (by decide) (by decide)
  obtain ⟨k, hk⟩ : ∃ k : Nat, V 18 3 = k := ⟨(V 18 3).toNat, by omega⟩
  have h946 : V 94 6 = k := by rw [← hk]; exact hH.1.2.2.2.1
  by_cases g1 : 0 ≤ a ∧ a < V 1 0
  · skip
    by_cases g2 : k < 8
    · skip
      obtain ⟨n, rfl⟩ : ∃ n : Nat, a = n := ⟨a.toNat, by omega⟩
      have hRU : RNG (up2 (up2 V 22 k n) 18 3 (k + 1)) := (hR.up (c := 22) (p := k) (z := n) (by show (0 : Int) ≤ _ ∧ _ ≤ (11 : Int); omega)).up (c := 18) (p := 3) (z := k + 1) (by show (0 : Int) ≤ _ ∧ _ ≤ (8 : Int); omega)
      have e : ∀ x, x ≠ 18 ∧ x ≠ 22 → up2 (up2 V 22 k n) 18 3 (k + 1) x = V x := fun x q => by rw [w_ne _ _ _ _ q.1, w_ne _ _ _ _ q.2]
      have hAU : RA (up2 (up2 V 22 k n) 18 3 (k + 1)) 1 94 := hA.up (fun p _ => by rw [e 1 (by omega)]) (fun p _ => by rw [e 94 (by omega)])
      refine ⟨k + 1, up2 (up2 V 22 k n) 18 3 (k + 1), up2 (up2 (up2 (up2 V 22 k n) 18 3 (k + 1)) 94 (880 + k) n) 94 6 (k + 1), J, ?_, ?_, ?_⟩
      · skip
        apply sg_143
        refine ⟨_, _, k_44 hR ha, ?_⟩
        simp (disch := omega) only [hk, h946, w_eq, w_nc, w_ne2, eV_at, eV_up, o_lit2, o_add, o_sub, o_mul, o_neg, o_div, o_nat, ix_t, o_lt, o_le, o_eq, o_bi0, o_bi1, o_bib, em_t, o_neg1, o_shl, o_tb, o_tb0, o_tt, o_and, o_xor, o_or, o_max, o_min, an_tb, and_true, true_and, not_true, not_false, if_true, if_false, tn_add, tn_mul, Int.reduceToNat, tn_cast, md_x]
        rw [if_neg (fun q => q (by assumption))]
        rw [if_pos (by omega)]
        trivial
      · skip
        apply sg_270
        refine ⟨_, _, _, m_179 hRU hAU ha, ?_⟩
        simp (disch := omega) only [hk, h946, w_eq, w_nc, w_ne2, eV_at, eV_up, o_lit2, o_add, o_sub, o_mul, o_neg, o_div, o_nat, ix_t, o_lt, o_le, o_eq, o_bi0, o_bi1, o_bib, em_t, o_neg1, o_shl, o_tb, o_tb0, o_tt, o_and, o_xor, o_or, o_max, o_min, an_tb, and_true, true_and, not_true, not_false, if_true, if_false, tn_add, tn_mul, Int.reduceToNat, tn_cast, md_x]
        rw [if_neg (fun q => q (by assumption))]
        rw [if_neg (by omega)]
        trivial
      · have f : ∀ x, x ≠ 18 ∧ x ≠ 22 ∧ x ≠ 94 → (up2 (up2 (up2 (up2 V 22 k n) 18 3 (k + 1)) 94 (880 + k) n) 94 6 (k + 1)) x = V x := fun x q => by rw [w_ne _ _ _ _ q.2.2, w_ne _ _ _ _ q.2.2]; exact e x ⟨q.1, q.2.1⟩
        have f18 : ∀ x, (up2 (up2 (up2 (up2 V 22 k n) 18 3 (k + 1)) 94 (880 + k) n) 94 6 (k + 1)) 18 x = if x = 3 then (k : Int) + 1 else V 18 x := fun x => by rw [w_ne _ _ _ _ (by decide), w_ne _ _ _ _ (by decide), w_at, w_ne _ _ _ _ (by decide)]
        have f22 : ∀ x, (up2 (up2 (up2 (up2 V 22 k n) 18 3 (k + 1)) 94 (880 + k) n) 94 6 (k + 1)) 22 x = if x = k then (n : Int) else V 22 x := fun x => by rw [w_ne _ _ _ _ (by decide), w_ne _ _ _ _ (by decide), w_ne _ _ _ _ (by decide), w_at]
        have f94 : ∀ p, p ≠ 6 ∧ p ≠ 880 + k → (up2 (up2 (up2 (up2 V 22 k n) 18 3 (k + 1)) 94 (880 + k) n) 94 6 (k + 1)) 94 p = V 94 p := fun p q => by rw [w_at, if_neg q.1, w_at, if_neg q.2, e 94 (by omega)]
        have f94a : (up2 (up2 (up2 (up2 V 22 k n) 18 3 (k + 1)) 94 (880 + k) n) 94 6 (k + 1)) 94 6 = k + 1 := w_eq _ _ _ _
        have f94b : (up2 (up2 (up2 (up2 V 22 k n) 18 3 (k + 1)) 94 (880 + k) n) 94 6 (k + 1)) 94 (880 + k) = n := by rw [w_at, if_neg (by omega), w_eq]
        have hRW : RNG (up2 (up2 (up2 (up2 V 22 k n) 18 3 (k + 1)) 94 (880 + k) n) 94 6 (k + 1)) := (hRU.upn (by decide)).upn (by decide)
        generalize (up2 (up2 (up2 (up2 V 22 k n) 18 3 (k + 1)) 94 (880 + k) n) 94 6 (k + 1)) = W at *
        refine ⟨hRW, ⟨(hA.up (fun p _ => by rw [f 1 (by omega)]) (fun p q => f94 p (by omega))), (hB.up hR (by rw [f 1 (by omega)]) (by rw [f 1 (by omega)]) (f 2 (by omega)) (f 3 (by omega)) (f 4 (by omega)) (fun l w _ _ => f94 _ (by omega))), (hC.up hR (by rw [f 1 (by omega)]) (f 5 (by omega)) (f 6 (by omega)) (f 12 (by omega)) (fun l w _ _ => f94 _ (by omega)) (fun k _ => f94 _ (by omega))), (hD.up (by rw [f 1 (by omega)]) (by rw [f 1 (by omega)]) (f 3 (by omega)) (f 4 (by omega)) (f 5 (by omega)) (f 6 (by omega)) (f 12 (by omega))), (hE.up (by rw [f 1 (by omega)]) (f 7 (by omega)) (f 8 (by omega)) (f 9 (by omega)) (f 10 (by omega)) (f 11 (by omega)) (fun p _ => f94 _ (by omega))), (hF.up hR (by rw [f 1 (by omega)]) (by rw [f 1 (by omega)]) (by rw [f 7 (by omega)]) (fun x _ _ => f x (by omega)) (fun p _ => f94 _ (by omega))), ?_⟩, (h2.fr fun x _ => f x (by omega)), (h3.up (f 1 (by omega)) (f 2 (by omega)) (f 3 (by omega)) (f 4 (by omega)) (f 71 (by omega)) (f 81 (by omega))), (h4.fr (fun x _ => f x (by omega)) (by rw [f 93 (by omega)]) (by rw [f 93 (by omega)]) (by rw [f 93 (by omega)])), (⟨by rw [f 63 (by omega), f 50 (by omega), f 54 (by omega), f 58 (by omega), f 62 (by omega)]; exact h5.1, by rw [f 40 (by omega), f18]; exact h5.2.1, fun i hi => by rw [f18] at hi; have hi2 : (i : Int) < V 18 0 := hi; have r0 : 0 ≤ V 18 0 ∧ V 18 0 ≤ 4 := hR 18 0 (by decide) (by decide); exact (h5.2.2 i hi2).fr (by omega) fun x _ => f x (by omega)⟩)⟩
        obtain ⟨e1, e2, e3, e4⟩ := hH
        refine ⟨?_, fun j hj => ?_, fun s hs => ?_, fun j hj => ?_⟩
        · rw [f94 3 (by omega), f94 4 (by omega), f94 5 (by omega), f94a, f18, f18, f18, f18]
          exact ⟨e1.1, e1.2.1, e1.2.2.1, rfl, e1.2.2.2.2⟩
        · rw [f18] at hj
          have hj' : (j : Int) < V 18 2 := hj
          have r2 : 0 ≤ V 18 2 ∧ V 18 2 ≤ 10 := hR 18 2 (by decide) (by decide)
          rw [f94 _ (by omega), f (18 + 1) (by omega)]; exact e2 j hj'
        · have r3 : 0 ≤ V 21 s ∧ V 21 s ≤ 4 := hR 21 s (by decide) (by decide)
          obtain ⟨q1, q2⟩ := e3 s hs
          rw [f94 _ (by omega), f (18 + 3) (by omega), f 1 (by omega), f (18 + 2) (by omega)]
          refine ⟨q1, fun i hi => ?_⟩
          have hi' : (i : Int) < V 21 s := hi
          rw [f94 _ (by omega)]; exact q2 i hi
        · have f22' : W (18 + 4) j = if j = k then (n : Int) else V 22 j := f22 j
          rw [f18, if_pos rfl] at hj
          rw [f22', f 1 (by omega)]
          by_cases q : j = k
          · subst q; rw [if_pos rfl]; exact ⟨f94b, by omega⟩
          · rw [if_neg q, f94 _ (by omega)]; exact e4 j (by rw [hk]; omega)
    · refine ⟨-1, V, V, J, ?_, ?_, h0⟩
      · apply sg_143
        refine ⟨_, _, k_44 hR ha, ?_⟩
        simp (disch := omega) only [hk, h946, w_eq, w_nc, w_ne2, eV_at, eV_up, o_lit2, o_add, o_sub, o_mul, o_neg, o_div, o_nat, ix_t, o_lt, o_le, o_eq, o_bi0, o_bi1, o_bib, em_t, o_neg1, o_shl, o_tb, o_tb0, o_tt, o_and, o_xor, o_or, o_max, o_min, an_tb, and_true, true_and, not_true, not_false, if_true, if_false, tn_add, tn_mul, Int.reduceToNat, tn_cast, md_x]
        rw [if_neg (fun q => q (by assumption))]
        rw [if_neg (by omega)] <;> trivial
      · apply sg_270
        refine ⟨_, _, _, m_179 hR hA ha, ?_⟩
        simp (disch := omega) only [hk, h946, w_eq, w_nc, w_ne2, eV_at, eV_up, o_lit2, o_add, o_sub, o_mul, o_neg, o_div, o_nat, ix_t, o_lt, o_le, o_eq, o_bi0, o_bi1, o_bib, em_t, o_neg1, o_shl, o_tb, o_tb0, o_tt, o_and, o_xor, o_or, o_max, o_min, an_tb, and_true, true_and, not_true, not_false, if_true, if_false, tn_add, tn_mul, Int.reduceToNat, tn_cast, md_x]
        rw [if_neg (fun q => q (by assumption))]
        rw [if_pos (by omega)] <;> trivial
  · refine ⟨-1, V, V, J, ?_, ?_, h0⟩
    · apply sg_143
      refine ⟨_, _, k_44 hR ha, ?_⟩
      simp (disch := omega) only [hk, h946, w_eq, w_nc, w_ne2, eV_at, eV_up, o_lit2, o_add, o_sub, o_mul, o_neg, o_div, o_nat, ix_t, o_lt, o_le, o_eq, o_bi0, o_bi1, o_bib, em_t, o_neg1, o_shl, o_tb, o_tb0, o_tt, o_and, o_xor, o_or, o_max, o_min, an_tb, and_true, true_and, not_true, not_false, if_true, if_false, tn_add, tn_mul, Int.reduceToNat, tn_cast, md_x]
      rw [if_pos (by assumption)] <;> trivial
    · apply sg_270
      refine ⟨_, _, _, m_179 hR hA ha, ?_⟩
      simp (disch := omega) only [hk, h946, w_eq, w_nc, w_ne2, eV_at, eV_up, o_lit2, o_add, o_sub, o_mul, o_neg, o_div, o_nat, ix_t, o_lt, o_le, o_eq, o_bi0, o_bi1, o_bib, em_t, o_neg1, o_shl, o_tb, o_tb0, o_tt, o_and, o_xor, o_or, o_max, o_min, an_tb, and_true, true_and, not_true, not_false, if_true, if_false, tn_add, tn_mul, Int.reduceToNat, tn_cast, md_x]
      rw [if_pos (by assumption)] <;> trivial
theorem c_unhang {L : Nat} {xs : Nat → Int32} {V : Nat → Nat → Int} {J : Nat → Nat → Int64} {tg : Option Nat} (h : INV V) : ∃ (v : Int) (U W : Nat → Nat → Int) (J1 : Nat → Nat → Int64), Runs (GW L xs) 40 144 (0, [.ref 0, vU], [], zS (eV V) J tg) (some (Value.int (Int32.ofInt v)), zS (eV U) J tg) ∧ Runs (GW L xs) 40 271 (0, [.ref 93, vU], [], zS (eV U) J tg) (some (Value.int (Int32.ofInt v)), zS (eV W) J1 tg) ∧ INV W := by
  have h0 := h
  obtain ⟨hR, ⟨hA, hB, hC, hD, hE, hF, hH⟩, h2, h3, h4, h5⟩ := h
  have rD : 0 ≤ V 1 0 ∧ V 1 0 ≤ 12 := hR 1 0 (by decide) (by decide)
  have rT : 0 ≤ V 1 1 ∧ V 1 1 ≤ 12 := hR 1 1 (by decide) (by decide)
  have r3 : 0 ≤ V 18 3 ∧ V 18 3 ≤ 8 := hR 18 3 (by decide) (by decide)
  have h946 : V 94 6 = V 18 3 := hH.1.2.2.2.1
  refine ⟨V 18 3, up2 V 18 3 0, up2 (up2 V 18 3 0) 94 6 0, J, ?_, ?_, ?_⟩
  · apply sg_144
    simp (disch := omega) only [h946, w_eq, w_nc, w_ne2, eV_at, eV_up, o_lit2, o_add, o_sub, o_mul, o_neg, o_div, o_nat, ix_t, o_lt, o_le, o_eq, o_bi0, o_bi1, o_bib, em_t, o_neg1, o_shl, o_tb, o_tb0, o_tt, o_and, o_xor, o_or, o_max, o_min, an_tb, and_true, true_and, not_true, not_false, if_true, if_false, tn_add, tn_mul, Int.reduceToNat, tn_cast, md_x]
  · apply sg_271
    simp (disch := omega) only [h946, w_eq, w_nc, w_ne2, eV_at, eV_up, o_lit2, o_add, o_sub, o_mul, o_neg, o_div, o_nat, ix_t, o_lt, o_le, o_eq, o_bi0, o_bi1, o_bib, em_t, o_neg1, o_shl, o_tb, o_tb0, o_tt, o_and, o_xor, o_or, o_max, o_min, an_tb, and_true, true_and, not_true, not_false, if_true, if_false, tn_add, tn_mul, Int.reduceToNat, tn_cast, md_x]
  · have f : ∀ x, x ≠ 18 ∧ x ≠ 94 → (up2 (up2 V 18 3 0) 94 6 0) x = V x := fun x q => by rw [w_ne _ _ _ _ q.2, w_ne _ _ _ _ q.1]
    have f18 : ∀ x, (up2 (up2 V 18 3 0) 94 6 0) 18 x = if x = 3 then 0 else V 18 x := fun x => by rw [w_ne _ _ _ _ (by decide), w_at]
    have f94 : ∀ p, p ≠ 6 → (up2 (up2 V 18 3 0) 94 6 0) 94 p = V 94 p := fun p q => by rw [w_at, if_neg q, w_ne _ _ _ _ (by decide)]
    have f94a : (up2 (up2 V 18 3 0) 94 6 0) 94 6 = 0 := w_eq _ _ _ _
    have hRW : RNG (up2 (up2 V 18 3 0) 94 6 0) := (hR.up (c := 18) (p := 3) (z := 0) (by decide)).upn (by decide)
    generalize (up2 (up2 V 18 3 0) 94 6 0) = W at *
    refine ⟨hRW, ⟨(hA.up (fun p _ => by rw [f 1 (by omega)]) (fun p q => f94 p (by omega))), (hB.up hR (by rw [f 1 (by omega)]) (by rw [f 1 (by omega)]) (f 2 (by omega)) (f 3 (by omega)) (f 4 (by omega)) (fun l w _ _ => f94 _ (by omega))), (hC.up hR (by rw [f 1 (by omega)]) (f 5 (by omega)) (f 6 (by omega)) (f 12 (by omega)) (fun l w _ _ => f94 _ (by omega)) (fun k _ => f94 _ (by omega))), (hD.up (by rw [f 1 (by omega)]) (by rw [f 1 (by omega)]) (f 3 (by omega)) (f 4 (by omega)) (f 5 (by omega)) (f 6 (by omega)) (f 12 (by omega))), (hE.up (by rw [f 1 (by omega)]) (f 7 (by omega)) (f 8 (by omega)) (f 9 (by omega)) (f 10 (by omega)) (f 11 (by omega)) (fun p _ => f94 _ (by omega))), (hF.up hR (by rw [f 1 (by omega)]) (by rw [f 1 (by omega)]) (by rw [f 7 (by omega)]) (fun x _ _ => f x (by omega)) (fun p _ => f94 _ (by omega))), ?_⟩, (h2.fr fun x _ => f x (by omega)), (h3.up (f 1 (by omega)) (f 2 (by omega)) (f 3 (by omega)) (f 4 (by omega)) (f 71 (by omega)) (f 81 (by omega))), (h4.fr (fun x _ => f x (by omega)) (by rw [f 93 (by omega)]) (by rw [f 93 (by omega)]) (by rw [f 93 (by omega)])), (⟨by rw [f 63 (by omega), f 50 (by omega), f 54 (by omega), f 58 (by omega), f 62 (by omega)]; exact h5.1, by rw [f 40 (by omega), f18]; exact h5.2.1, fun i hi => by rw [f18] at hi; have hi2 : (i : Int) < V 18 0 := hi; have r0 : 0 ≤ V 18 0 ∧ V 18 0 ≤ 4 := hR 18 0 (by decide) (by decide); exact (h5.2.2 i hi2).fr (by omega) fun x _ => f x (by omega)⟩)⟩
    obtain ⟨e1, e2, e3, e4⟩ := hH
    refine ⟨?_, fun j hj => ?_, fun s hs => ?_, fun j hj => ?_⟩
    · rw [f94 3 (by omega), f94 4 (by omega), f94 5 (by omega), f94a, f18, f18, f18, f18]
      exact ⟨e1.1, e1.2.1, e1.2.2.1, rfl, e1.2.2.2.2⟩
    · rw [f18] at hj
      have hj' : (j : Int) < V 18 2 := hj
      have r2 : 0 ≤ V 18 2 ∧ V 18 2 ≤ 10 := hR 18 2 (by decide) (by decide)
      rw [f94 _ (by omega), f (18 + 1) (by omega)]; exact e2 j hj'
    · obtain ⟨q1, q2⟩ := e3 s hs
      rw [f94 _ (by omega), f (18 + 3) (by omega), f 1 (by omega), f (18 + 2) (by omega)]
      refine ⟨q1, fun i hi => ?_⟩
      rw [f94 _ (by omega)]; exact q2 i hi
    · rw [f18, if_pos rfl] at hj; omega
