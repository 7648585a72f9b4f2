theorem c_answer {L : Nat} {xs : Nat → Int32} {V : Nat → Nat → Int} {J : Nat → Nat → Int64} {tg : Option Nat} (h : INV V) {a b c t : Int} (ha : (-2147483648 ≤ a ∧ a < 2147483648)) (hb : (-2147483648 ≤ b ∧ b < 2147483648)) (hc : (-2147483648 ≤ c ∧ c < 2147483648)) (ht : (-2147483648 ≤ t ∧ t < 2147483648)) : ∃ (v : Int) (U W : Nat → Nat → Int) (J1 : Nat → Nat → Int64), Runs (GW L xs) 40 154 (0, [.ref 0, (Value.int (Int32.ofInt (a))), (Value.int (Int32.ofInt (b))), (Value.int (Int32.ofInt (c))), (Value.int (Int32.ofInt (t))), vU], [], zS (eV V) J tg) (some (Value.int (Int32.ofInt v)), zS (eV U) J tg) ∧ Runs (GW L xs) 40 289 (0, [.ref 93, (Value.int (Int32.ofInt (a))), (Value.int (Int32.ofInt (b))), (Value.int (Int32.ofInt (c))), (Value.int (Int32.ofInt (t))), vU], [], zS (eV U) J tg) (some (Value.int (Int32.ofInt v)), zS (eV W) J1 tg) ∧ INV W := by
  have hI := @INV.answ V h
  have h0 := h
  obtain ⟨hR, ⟨hA, hB, hC, hD, hE, hF, hH⟩, h2, h3, h4, h5⟩ := h
  have rD : 0 ≤ V 1 0 ∧ V 1 0 ≤ 12 := hR 1 0 (by decide) (by decide)
  have rT : 0 ≤ V 1 1 ∧ V 1 1 ≤ 12 := hR 1 1 (by decide) (by decide)
  have r5 : 0 ≤ V 7 5 ∧ V 7 5 ≤ 60 := hR 7 5 (by decide) (by decide)
  have r4 : 0 ≤ V 7 4 ∧ V 7 4 ≤ 999 := hR 7 4 (by decide) (by decide)
  obtain ⟨k, hk⟩ : ∃ k : Nat, V 7 5 = k := ⟨(V 7 5).toNat, by omega⟩
  have h947 : V 94 7 = k := by rw [hE.1.2.2.2.2.2, hk]
  have h940 : V 94 0 = V 7 4 := hE.1.2.2.2.2.1
  by_cases g1 : 0 ≤ a ∧ a ≤ 5
  · by_cases g2 : 0 ≤ b ∧ b ≤ 5
    · by_cases g3 : 0 ≤ c ∧ c < V 1 0
      · obtain ⟨a, rfl⟩ : ∃ n : Nat, a = n := ⟨a.toNat, by omega⟩
        obtain ⟨b, rfl⟩ : ∃ n : Nat, b = n := ⟨b.toNat, by omega⟩
        obtain ⟨c, rfl⟩ : ∃ n : Nat, c = n := ⟨c.toNat, by omega⟩
        by_cases g4 : t = -1
        · subst g4
          by_cases g5 : k < 60
          · skip
            have e : ∀ x, x ≠ 7 ∧ ¬ (13 ≤ x ∧ x ≤ 17) → (up2 (up2 (up2 (up2 (up2 (up2 V 13 k a) 14 k b) 15 k c) 16 k (-1)) 17 k (V 7 4)) 7 5 (k + 1)) x = V x := fun x q => by rw [w_ne _ _ _ _ q.1, w_ne _ _ _ _ (by omega), w_ne _ _ _ _ (by omega), w_ne _ _ _ _ (by omega), w_ne _ _ _ _ (by omega), w_ne _ _ _ _ (by omega)]
            have hRU : RNG (up2 (up2 (up2 (up2 (up2 (up2 V 13 k a) 14 k b) 15 k c) 16 k (-1)) 17 k (V 7 4)) 7 5 (k + 1)) := (((((hR.up (c := 13) (p := k) (z := a) (by show (0 : Int) ≤ _ ∧ _ ≤ (5 : Int); omega)).up (c := 14) (p := k) (z := b) (by show (0 : Int) ≤ _ ∧ _ ≤ (5 : Int); omega)).up (c := 15) (p := k) (z := c) (by show (0 : Int) ≤ _ ∧ _ ≤ (11 : Int); omega)).up (c := 16) (p := k) (z := -1) (by show (-1 : Int) ≤ _ ∧ _ ≤ (11 : Int); omega)).up (c := 17) (p := k) (z := V 7 4) r4).up (c := 7) (p := 5) (z := (k : Int) + 1) (by show (0 : Int) ≤ _ ∧ _ ≤ (60 : Int); omega)
            have hAU : RA (up2 (up2 (up2 (up2 (up2 (up2 V 13 k a) 14 k b) 15 k c) 16 k (-1)) 17 k (V 7 4)) 7 5 (k + 1)) 1 94 := hA.up (fun p _ => by rw [e 1 (by omega)]) (fun p _ => by rw [e 94 (by omega)])
            have g3u : 0 ≤ (c : Int) ∧ (c : Int) < (up2 (up2 (up2 (up2 (up2 (up2 V 13 k a) 14 k b) 15 k c) 16 k (-1)) 17 k (V 7 4)) 7 5 (k + 1)) 1 0 := by rw [e 1 (by omega)]; exact g3
            have hW := hI (k := k) (a := a) (b := b) (c := c) (t := -1) (v := -1) hk g5 (by omega) (by omega) g3.2 (by omega) (by unfold mz; split <;> omega)
            refine ⟨k + 1, up2 (up2 (up2 (up2 (up2 (up2 V 13 k a) 14 k b) 15 k c) 16 k (-1)) 17 k (V 7 4)) 7 5 (k + 1), up2 (up2 (up2 (up2 (up2 (up2 (up2 (up2 (up2 (up2 (up2 (up2 V 13 k a) 14 k b) 15 k c) 16 k (-1)) 17 k (V 7 4)) 7 5 (k + 1)) 94 (890 + 5 * k) a) 94 (890 + 5 * k + 1) b) 94 (890 + 5 * k + 2) c) 94 (890 + 5 * k + 3) (-1)) 94 (890 + 5 * k + 4) (V 7 4)) 94 7 (k + 1), J, ?_, ?_, hW⟩
            · skip
              apply sg_154
              refine ⟨_, _, k_165 ha, ?_⟩
              rw [if_neg (b0_f g1)]
              refine ⟨_, _, k_166 hb, ?_⟩
              rw [if_neg (b0_f g2)]
              refine ⟨_, _, k_44 hR hc, ?_⟩
              rw [if_neg (b0_f g3)]
              simp (disch := omega) only [hk, w_eq, w_nc, w_ne2, eV_at, eV_up, o_lit2, o_add, o_sub, o_mul, o_neg, o_div, o_nat, ix_t, o_lt, o_le, o_eq, o_bi0, o_bi1, o_bib, em_t, o_neg1, o_shl, o_tb, o_tb0, o_tt, o_and, o_xor, o_or, o_max, o_min, an_tb, and_true, true_and, not_true, not_false, if_true, if_false, tn_add, tn_mul, Int.reduceToNat, tn_cast, md_x]
              (repeat (first | rw [if_pos (by omega)] | rw [if_neg (by omega)])) <;> trivial
            · skip
              apply sg_289
              refine ⟨_, _, _, k_182 ha, ?_⟩
              rw [if_neg (b0_f g1)]
              refine ⟨_, _, _, k_182 hb, ?_⟩
              rw [if_neg (b0_f g2)]
              refine ⟨_, _, _, m_179 hRU hAU hc, ?_⟩
              rw [if_neg (b0_f g3u)]
              simp (disch := omega) only [h947, h940, w_eq, w_nc, w_ne2, eV_at, eV_up, o_lit2, o_add, o_sub, o_mul, o_neg, o_div, o_nat, ix_t, o_lt, o_le, o_eq, o_bi0, o_bi1, o_bib, em_t, o_neg1, o_shl, o_tb, o_tb0, o_tt, o_and, o_xor, o_or, o_max, o_min, an_tb, and_true, true_and, not_true, not_false, if_true, if_false, tn_add, tn_mul, Int.reduceToNat, tn_cast, md_x]
              (repeat (first | rw [if_pos (by omega)] | rw [if_neg (by omega)])) <;> trivial
          · refine ⟨-1, V, V, J, ?_, ?_, h0⟩
            · skip
              apply sg_154
              refine ⟨_, _, k_165 ha, ?_⟩
              rw [if_neg (b0_f g1)]
              refine ⟨_, _, k_166 hb, ?_⟩
              rw [if_neg (b0_f g2)]
              refine ⟨_, _, k_44 hR hc, ?_⟩
              rw [if_neg (b0_f g3)]
              simp (disch := omega) only [hk, w_eq, w_nc, w_ne2, eV_at, eV_up, o_lit2, o_add, o_sub, o_mul, o_neg, o_div, o_nat, ix_t, o_lt, o_le, o_eq, o_bi0, o_bi1, o_bib, em_t, o_neg1, o_shl, o_tb, o_tb0, o_tt, o_and, o_xor, o_or, o_max, o_min, an_tb, and_true, true_and, not_true, not_false, if_true, if_false, tn_add, tn_mul, Int.reduceToNat, tn_cast, md_x]
              (repeat (first | rw [if_pos (by omega)] | rw [if_neg (by omega)])) <;> trivial
            · skip
              apply sg_289
              refine ⟨_, _, _, k_182 ha, ?_⟩
              rw [if_neg (b0_f g1)]
              refine ⟨_, _, _, k_182 hb, ?_⟩
              rw [if_neg (b0_f g2)]
              refine ⟨_, _, _, m_179 hR hA hc, ?_⟩
              rw [if_neg (b0_f g3)]
              simp (disch := omega) only [h947, h940, w_eq, w_nc, w_ne2, eV_at, eV_up, o_lit2, o_add, o_sub, o_mul, o_neg, o_div, o_nat, ix_t, o_lt, o_le, o_eq, o_bi0, o_bi1, o_bib, em_t, o_neg1, o_shl, o_tb, o_tb0, o_tt, o_and, o_xor, o_or, o_max, o_min, an_tb, and_true, true_and, not_true, not_false, if_true, if_false, tn_add, tn_mul, Int.reduceToNat, tn_cast, md_x]
              (repeat (first | rw [if_pos (by omega)] | rw [if_neg (by omega)])) <;> trivial
        · skip
          by_cases g4 : 12 ≤ t ∧ t < 12 + V 1 1
          · by_cases g5 : k < 60
            · skip
              have e : ∀ x, x ≠ 7 ∧ ¬ (13 ≤ x ∧ x ≤ 17) → (up2 (up2 (up2 (up2 (up2 (up2 V 13 k a) 14 k b) 15 k c) 16 k (t - 12)) 17 k (V 7 4)) 7 5 (k + 1)) x = V x := fun x q => by rw [w_ne _ _ _ _ q.1, w_ne _ _ _ _ (by omega), w_ne _ _ _ _ (by omega), w_ne _ _ _ _ (by omega), w_ne _ _ _ _ (by omega), w_ne _ _ _ _ (by omega)]
              have hRU : RNG (up2 (up2 (up2 (up2 (up2 (up2 V 13 k a) 14 k b) 15 k c) 16 k (t - 12)) 17 k (V 7 4)) 7 5 (k + 1)) := (((((hR.up (c := 13) (p := k) (z := a) (by show (0 : Int) ≤ _ ∧ _ ≤ (5 : Int); omega)).up (c := 14) (p := k) (z := b) (by show (0 : Int) ≤ _ ∧ _ ≤ (5 : Int); omega)).up (c := 15) (p := k) (z := c) (by show (0 : Int) ≤ _ ∧ _ ≤ (11 : Int); omega)).up (c := 16) (p := k) (z := t - 12) (by show (-1 : Int) ≤ _ ∧ _ ≤ (11 : Int); omega)).up (c := 17) (p := k) (z := V 7 4) r4).up (c := 7) (p := 5) (z := (k : Int) + 1) (by show (0 : Int) ≤ _ ∧ _ ≤ (60 : Int); omega)
              have hAU : RA (up2 (up2 (up2 (up2 (up2 (up2 V 13 k a) 14 k b) 15 k c) 16 k (t - 12)) 17 k (V 7 4)) 7 5 (k + 1)) 1 94 := hA.up (fun p _ => by rw [e 1 (by omega)]) (fun p _ => by rw [e 94 (by omega)])
              have g3u : 0 ≤ (c : Int) ∧ (c : Int) < (up2 (up2 (up2 (up2 (up2 (up2 V 13 k a) 14 k b) 15 k c) 16 k (t - 12)) 17 k (V 7 4)) 7 5 (k + 1)) 1 0 := by rw [e 1 (by omega)]; exact g3
              have g4u : 12 ≤ t ∧ t < 12 + (up2 (up2 (up2 (up2 (up2 (up2 V 13 k a) 14 k b) 15 k c) 16 k (t - 12)) 17 k (V 7 4)) 7 5 (k + 1)) 1 1 := by rw [e 1 (by omega)]; exact g4
              have hW := hI (k := k) (a := a) (b := b) (c := c) (t := t) (v := t - 12) hk g5 (by omega) (by omega) g3.2 (by omega) (by unfold mz; split <;> omega)
              refine ⟨k + 1, up2 (up2 (up2 (up2 (up2 (up2 V 13 k a) 14 k b) 15 k c) 16 k (t - 12)) 17 k (V 7 4)) 7 5 (k + 1), up2 (up2 (up2 (up2 (up2 (up2 (up2 (up2 (up2 (up2 (up2 (up2 V 13 k a) 14 k b) 15 k c) 16 k (t - 12)) 17 k (V 7 4)) 7 5 (k + 1)) 94 (890 + 5 * k) a) 94 (890 + 5 * k + 1) b) 94 (890 + 5 * k + 2) c) 94 (890 + 5 * k + 3) (t)) 94 (890 + 5 * k + 4) (V 7 4)) 94 7 (k + 1), J, ?_, ?_, hW⟩
              · skip
                apply sg_154
                refine ⟨_, _, k_165 ha, ?_⟩
                rw [if_neg (b0_f g1)]
                refine ⟨_, _, k_166 hb, ?_⟩
                rw [if_neg (b0_f g2)]
                refine ⟨_, _, k_44 hR hc, ?_⟩
                rw [if_neg (b0_f g3)]
                rw [if_neg (by rw [o_neg1, o_eq (by omega) (by omega)]; omega)]
                refine ⟨_, _, k_45 hR ht, ?_⟩
                rw [if_neg (b0_f g4)]
                simp (disch := omega) only [hk, w_eq, w_nc, w_ne2, eV_at, eV_up, o_lit2, o_add, o_sub, o_mul, o_neg, o_div, o_nat, ix_t, o_lt, o_le, o_eq, o_bi0, o_bi1, o_bib, em_t, o_neg1, o_shl, o_tb, o_tb0, o_tt, o_and, o_xor, o_or, o_max, o_min, an_tb, and_true, true_and, not_true, not_false, if_true, if_false, tn_add, tn_mul, Int.reduceToNat, tn_cast, md_x]
                (repeat (first | rw [if_pos (by omega)] | rw [if_neg (by omega)])) <;> trivial
              · skip
                apply sg_289
                refine ⟨_, _, _, k_182 ha, ?_⟩
                rw [if_neg (b0_f g1)]
                refine ⟨_, _, _, k_182 hb, ?_⟩
                rw [if_neg (b0_f g2)]
                refine ⟨_, _, _, m_179 hRU hAU hc, ?_⟩
                rw [if_neg (b0_f g3u)]
                rw [if_neg (by rw [o_neg1, o_eq (by omega) (by omega)]; omega)]
                refine ⟨_, _, _, m_180 hRU hAU ht, ?_⟩
                rw [if_neg (b0_f g4u)]
                simp (disch := omega) only [h947, h940, w_eq, w_nc, w_ne2, eV_at, eV_up, o_lit2, o_add, o_sub, o_mul, o_neg, o_div, o_nat, ix_t, o_lt, o_le, o_eq, o_bi0, o_bi1, o_bib, em_t, o_neg1, o_shl, o_tb, o_tb0, o_tt, o_and, o_xor, o_or, o_max, o_min, an_tb, and_true, true_and, not_true, not_false, if_true, if_false, tn_add, tn_mul, Int.reduceToNat, tn_cast, md_x]
                (repeat (first | rw [if_pos (by omega)] | rw [if_neg (by omega)])) <;> trivial
            · refine ⟨-1, V, V, J, ?_, ?_, h0⟩
              · skip
                apply sg_154
                refine ⟨_, _, k_165 ha, ?_⟩
                rw [if_neg (b0_f g1)]
                refine ⟨_, _, k_166 hb, ?_⟩
                rw [if_neg (b0_f g2)]
                refine ⟨_, _, k_44 hR hc, ?_⟩
                rw [if_neg (b0_f g3)]
                rw [if_neg (by rw [o_neg1, o_eq (by omega) (by omega)]; omega)]
                refine ⟨_, _, k_45 hR ht, ?_⟩
                rw [if_neg (b0_f g4)]
                simp (disch := omega) only [hk, w_eq, w_nc, w_ne2, eV_at, eV_up, o_lit2, o_add, o_sub, o_mul, o_neg, o_div, o_nat, ix_t, o_lt, o_le, o_eq, o_bi0, o_bi1, o_bib, em_t, o_neg1, o_shl, o_tb, o_tb0, o_tt, o_and, o_xor, o_or, o_max, o_min, an_tb, and_true, true_and, not_true, not_false, if_true, if_false, tn_add, tn_mul, Int.reduceToNat, tn_cast, md_x]
                (repeat (first | rw [if_pos (by omega)] | rw [if_neg (by omega)])) <;> trivial
              · skip
                apply sg_289
                refine ⟨_, _, _, k_182 ha, ?_⟩
                rw [if_neg (b0_f g1)]
                refine ⟨_, _, _, k_182 hb, ?_⟩
                rw [if_neg (b0_f g2)]
                refine ⟨_, _, _, m_179 hR hA hc, ?_⟩
                rw [if_neg (b0_f g3)]
                rw [if_neg (by rw [o_neg1, o_eq (by omega) (by omega)]; omega)]
                refine ⟨_, _, _, m_180 hR hA ht, ?_⟩
                rw [if_neg (b0_f g4)]
                simp (disch := omega) only [h947, h940, w_eq, w_nc, w_ne2, eV_at, eV_up, o_lit2, o_add, o_sub, o_mul, o_neg, o_div, o_nat, ix_t, o_lt, o_le, o_eq, o_bi0, o_bi1, o_bib, em_t, o_neg1, o_shl, o_tb, o_tb0, o_tt, o_and, o_xor, o_or, o_max, o_min, an_tb, and_true, true_and, not_true, not_false, if_true, if_false, tn_add, tn_mul, Int.reduceToNat, tn_cast, md_x]
                (repeat (first | rw [if_pos (by omega)] | rw [if_neg (by omega)])) <;> trivial
          · refine ⟨-1, V, V, J, ?_, ?_, h0⟩
            · skip
              apply sg_154
              refine ⟨_, _, k_165 ha, ?_⟩
              rw [if_neg (b0_f g1)]
              refine ⟨_, _, k_166 hb, ?_⟩
              rw [if_neg (b0_f g2)]
              refine ⟨_, _, k_44 hR hc, ?_⟩
              rw [if_neg (b0_f g3)]
              rw [if_neg (by rw [o_neg1, o_eq (by omega) (by omega)]; omega)]
              refine ⟨_, _, k_45 hR ht, ?_⟩
              rw [if_pos (b0_t g4)]
              rfl
            · skip
              apply sg_289
              refine ⟨_, _, _, k_182 ha, ?_⟩
              rw [if_neg (b0_f g1)]
              refine ⟨_, _, _, k_182 hb, ?_⟩
              rw [if_neg (b0_f g2)]
              refine ⟨_, _, _, m_179 hR hA hc, ?_⟩
              rw [if_neg (b0_f g3)]
              rw [if_neg (by rw [o_neg1, o_eq (by omega) (by omega)]; omega)]
              refine ⟨_, _, _, m_180 hR hA ht, ?_⟩
              rw [if_pos (b0_t g4)]
              rfl
      · refine ⟨-1, V, V, J, ?_, ?_, h0⟩
        · skip
          apply sg_154
          refine ⟨_, _, k_165 ha, ?_⟩
          rw [if_neg (b0_f g1)]
          refine ⟨_, _, k_166 hb, ?_⟩
          rw [if_neg (b0_f g2)]
          refine ⟨_, _, k_44 hR hc, ?_⟩
          rw [if_pos (b0_t g3)]
          rfl
        · skip
          apply sg_289
          refine ⟨_, _, _, k_182 ha, ?_⟩
          rw [if_neg (b0_f g1)]
          refine ⟨_, _, _, k_182 hb, ?_⟩
          rw [if_neg (b0_f g2)]
          refine ⟨_, _, _, m_179 hR hA hc, ?_⟩
          rw [if_pos (b0_t g3)]
          rfl
    · refine ⟨-1, V, V, J, ?_, ?_, h0⟩
      · skip
        apply sg_154
        refine ⟨_, _, k_165 ha, ?_⟩
        rw [if_neg (b0_f g1)]
        refine ⟨_, _, k_166 hb, ?_⟩
        rw [if_pos (b0_t g2)]
        rfl
      · skip
        apply sg_289
        refine ⟨_, _, _, k_182 ha, ?_⟩
        rw [if_neg (b0_f g1)]
        refine ⟨_, _, _, k_182 hb, ?_⟩
        rw [if_pos (b0_t g2)]
        rfl
  · refine ⟨-1, V, V, J, ?_, ?_, h0⟩
    · skip
      apply sg_154
      refine ⟨_, _, k_165 ha, ?_⟩
      rw [if_pos (b0_t g1)]
      rfl
    · skip
      apply sg_289
      refine ⟨_, _, _, k_182 ha, ?_⟩
      rw [if_pos (b0_t g1)]
      rfl
