/-! The case worn. -/
theorem c_worn {L : Nat} {xs : Nat → Int32} {V : Nat → Nat → Int} {J : Nat → Nat → Int64} {tg : Option Nat} (h : INV V) {a b c e : Int} (ha : (-2147483648 ≤ a ∧ a < 2147483648)) (hb : (-2147483648 ≤ b ∧ b < 2147483648)) (hc : (-2147483648 ≤ c ∧ c < 2147483648)) (he : (-2147483648 ≤ e ∧ e < 2147483648)) : ∃ (v : Int) (U W : Nat → Nat → Int) (J1 : Nat → Nat → Int64), Runs (GW L xs) 40 147 (0, [.ref 0, (Value.int (Int32.ofInt (a))), (Value.int (Int32.ofInt (b))), (Value.int (Int32.ofInt (c))), (Value.int (Int32.ofInt (e)))], [], zS (eV V) J tg) (some (Value.int (Int32.ofInt v)), zS (eV U) J tg) ∧ Runs (GW L xs) 40 279 (0, [.ref 93, (Value.int (Int32.ofInt (a))), (Value.int (Int32.ofInt (b))), (Value.int (Int32.ofInt (c))), (Value.int (Int32.ofInt (e))), vU, vU, vU, vU], [], zS (eV U) J tg) (some (Value.int (Int32.ofInt v)), zS (eV W) J1 tg) ∧ INV W := by
  have h0 := h
  obtain ⟨hR, ⟨hA, hB, hC, hD, hE, hF, hH⟩, h2, h3, h4, h5⟩ := h
  have rD : 0 ≤ V 1 0 ∧ V 1 0 ≤ 12 := hR 1 0 (by decide) (by decide)
  have rT : 0 ≤ V 1 1 ∧ V 1 1 ≤ 12 := hR 1 1 (by decide) (by decide)
  by_cases g1 : 0 ≤ a ∧ a < V 1 0
  · obtain ⟨dr, rfl⟩ : ∃ n : Nat, a = n := ⟨a.toNat, by omega⟩
    have r3 : 0 ≤ V 3 dr ∧ V 3 dr ≤ 6 := hR 3 dr (by decide) (by decide)
    obtain ⟨n, hn⟩ : ∃ n : Nat, V 3 dr = n := ⟨(V 3 dr).toNat, by omega⟩
    have h184 : ∀ (W : Nat → Nat → Int), Qy V W → (Runs (GW L xs) (39) 184 (0, [.ref 93, (Value.int (Int32.ofInt (dr))), .int 0], [], zS (eV (W)) J tg) (some (Value.int (Int32.ofInt (n))), zS (eV (W)) J tg)) := fun W qW => by
      obtain ⟨⟨-, -, c0, -, -, -⟩, -, -⟩ := LKm_of h0 qW g1.2
      have k0 := k_184 (L := L) (xs := xs) (J := J) (tg := tg) (d := 39) (V := W) (l := dr) (w := 0) (by omega)
      rw [c0, hn, tn_cast] at k0
      exact k0
    by_cases g2 : 0 ≤ b ∧ b ≤ 5
    · by_cases g4 : 0 ≤ e ∧ e ≤ 1
      · by_cases g3 : 0 ≤ c ∧ c ≤ n
        · obtain ⟨st, rfl⟩ : ∃ n : Nat, b = n := ⟨b.toNat, by omega⟩
          obtain ⟨k, rfl⟩ : ∃ n : Nat, c = n := ⟨c.toNat, by omega⟩
          have h64 := p2_64 (m := n) (by omega)
          have hpos := Nat.pow_pos (a := 2) (n := n) (by omega)
          have hne : (wns V dr st k).2 ≠ -1 := by
            have hp : 2 ^ k ≤ 2 ^ n := Nat.pow_le_pow_right (by omega) (by omega)
            have h1 : 1 ≤ 2 ^ k := Nat.one_le_two_pow
            unfold wns
            rw [hn, tn_cast]
            exact wnm_ne (pcn_full k (by omega)) _ (by omega)
          obtain ⟨U, qU, u2, u3, u4⟩ := k_8 (L := L) (xs := xs) (J := J) (tg := tg) (d := 34) h0 (Qy.rf h3) (dr := dr) (st := st) (k := k) (by omega) (by omega) (by omega)
          have hIU := h0.q qU
          obtain ⟨W, J2, l, qW, w2, w3⟩ := m_279 (L := L) (xs := xs) (J := J) (tg := tg) (d := 32) h0 qU (dr := dr) (st := st) (k := k) g1.2 (by omega) (by omega) e
          have u3 := u3 hne
          have w2 := w2 hne
          subst w2
          rw [hn, tn_cast] at w3
          have e1 : U 1 = V 1 := qU.1 1 (by omega)
          have kW : Runs (GW L xs) 39 184 (0, [.ref 93, (Value.int (Int32.ofInt (dr))), .int 0], [], zS (eV W) J2 tg) (some (Value.int (Int32.ofInt (n))), zS (eV W) J2 tg) := by
            obtain ⟨⟨-, -, c0, -, -, -⟩, -, -⟩ := LKm_of h0 qW g1.2
            have k0 := k_184 (L := L) (xs := xs) (J := J2) (tg := tg) (d := 39) (V := W) (l := dr) (w := 0) (by omega)
            rw [c0, hn, tn_cast] at k0
            exact k0
          generalize wns V dr st k = m at u2 u3 w3
          obtain ⟨v, hv⟩ : ∃ v : Int, v = if e = 0 then m.1 else m.2 := ⟨_, rfl⟩
          refine ⟨v, U, W, J2, ?_, ?_, h0.q qW⟩
          · apply sg_147
            refine ⟨_, _, k_44 hR ha, ?_⟩
            rw [if_neg (b0_f g1)]
            refine ⟨_, _, k_166 hb, ?_⟩
            rw [if_neg (b0_f g2)]
            refine ⟨_, _, k_164 (a := 0) (b := 1) he (by omega) (by omega), ?_⟩
            rw [if_neg (b0_f g4)]
            simp (disch := omega) only [hn, eV_at, eV_up, o_lit2, o_add, o_sub, o_mul, o_neg, o_div, o_nat, ix_t, o_lt, o_le, o_eq, o_bi0, o_bi1, o_bib, em_t, o_neg1, o_shl, o_tb, o_tb0, o_tt, o_and, o_xor, o_or, o_max, o_min, an_tb, and_true, true_and, not_true, not_false, if_true, if_false, tn_add, tn_mul, Int.reduceToNat, tn_cast, md_x]
            refine ⟨_, _, k_164 (a := 0) (b := n) hc (by omega) (by omega), ?_⟩
            rw [if_neg (b0o_f g3)]
            refine ⟨_, u4, ?_⟩
            rw [eV_at, u2, eV_at, u3, hv]
            by_cases c0 : e = 0
            · rw [if_pos c0, if_pos c0]
            · rw [if_neg c0, if_neg c0]
          · apply sg_279
            refine ⟨_, _, _, m_179 hIU.1 hIU.2.1.1 ha, ?_⟩
            rw [if_neg (b0_f (by rw [e1]; exact g1))]
            refine ⟨_, _, _, k_182 hb, ?_⟩
            rw [if_neg (b0_f g2)]
            refine ⟨_, _, _, h184 U qU, _, _, _, k_177 (a := 0) (b := n) hc (by omega) (by omega), ?_⟩
            rw [if_neg (b0_f g3)]
            refine ⟨_, _, _, k_177 (a := 0) (b := 1) he (by omega) (by omega), ?_⟩
            rw [if_neg (b0_f g4)]
            refine w3 _ ?_
            apply sg_279_50
            refine ⟨_, _, _, kW, ?_⟩
            simp (disch := omega) only [eV_at, eV_up, o_lit2, o_add, o_sub, o_mul, o_neg, o_div, o_nat, ix_t, o_lt, o_le, o_eq, o_bi0, o_bi1, o_bib, em_t, o_neg1, o_shl, o_tb, o_tb0, o_tt, o_and, o_xor, o_or, o_max, o_min, an_tb, and_true, true_and, not_true, not_false, if_true, if_false, tn_add, tn_mul, Int.reduceToNat, tn_cast, md_x]
            rw [if_pos (by omega), hv]
            by_cases c0 : e = 0
            · rw [if_pos c0, if_pos c0]
            · rw [if_neg c0, if_neg c0]
        · refine ⟨-1, V, V, J, ?_, ?_, h0⟩
          · apply sg_147
            refine ⟨_, _, k_44 hR ha, ?_⟩
            rw [if_neg (b0_f g1)]
            refine ⟨_, _, k_166 hb, ?_⟩
            rw [if_neg (b0_f g2)]
            refine ⟨_, _, k_164 (a := 0) (b := 1) he (by omega) (by omega), ?_⟩
            rw [if_neg (b0_f g4)]
            simp (disch := omega) only [hn, eV_at, eV_up, o_lit2, o_add, o_sub, o_mul, o_neg, o_div, o_nat, ix_t, o_lt, o_le, o_eq, o_bi0, o_bi1, o_bib, em_t, o_neg1, o_shl, o_tb, o_tb0, o_tt, o_and, o_xor, o_or, o_max, o_min, an_tb, and_true, true_and, not_true, not_false, if_true, if_false, tn_add, tn_mul, Int.reduceToNat, tn_cast, md_x]
            refine ⟨_, _, k_164 (a := 0) (b := n) hc (by omega) (by omega), ?_⟩
            rw [if_pos (b0o_t g3)]
          · apply sg_279
            refine ⟨_, _, _, m_179 hR hA ha, ?_⟩
            rw [if_neg (b0_f g1)]
            refine ⟨_, _, _, k_182 hb, ?_⟩
            rw [if_neg (b0_f g2)]
            refine ⟨_, _, _, h184 V (Qy.rf h3), _, _, _, k_177 (a := 0) (b := n) hc (by omega) (by omega), ?_⟩
            rw [if_pos (b0_t g3)]; rfl
      · refine ⟨-1, V, V, J, ?_, ?_, h0⟩
        · apply sg_147
          refine ⟨_, _, k_44 hR ha, ?_⟩
          rw [if_neg (b0_f g1)]
          refine ⟨_, _, k_166 hb, ?_⟩
          rw [if_neg (b0_f g2)]
          refine ⟨_, _, k_164 (a := 0) (b := 1) he (by omega) (by omega), ?_⟩
          rw [if_pos (b0_t g4)]; rfl
        · apply sg_279
          refine ⟨_, _, _, m_179 hR hA ha, ?_⟩
          rw [if_neg (b0_f g1)]
          refine ⟨_, _, _, k_182 hb, ?_⟩
          rw [if_neg (b0_f g2)]
          refine ⟨_, _, _, h184 V (Qy.rf h3), _, _, _, k_177 (a := 0) (b := n) hc (by omega) (by omega), ?_⟩
          by_cases g3 : 0 ≤ c ∧ c ≤ n
          · rw [if_neg (b0_f g3)]
            refine ⟨_, _, _, k_177 (a := 0) (b := 1) he (by omega) (by omega), ?_⟩
            rw [if_pos (b0_t g4)]; rfl
          · rw [if_pos (b0_t g3)]; rfl
    · refine ⟨-1, V, V, J, ?_, ?_, h0⟩
      · apply sg_147
        refine ⟨_, _, k_44 hR ha, ?_⟩
        rw [if_neg (b0_f g1)]
        refine ⟨_, _, k_166 hb, ?_⟩
        rw [if_pos (b0_t g2)]; rfl
      · apply sg_279
        refine ⟨_, _, _, m_179 hR hA ha, ?_⟩
        rw [if_neg (b0_f g1)]
        refine ⟨_, _, _, k_182 hb, ?_⟩
        rw [if_pos (b0_t g2)]; rfl
  · refine ⟨-1, V, V, J, ?_, ?_, h0⟩
    · apply sg_147
      refine ⟨_, _, k_44 hR ha, ?_⟩
      rw [if_pos (b0_t g1)]; rfl
    · apply sg_279
      refine ⟨_, _, _, m_179 hR hA ha, ?_⟩
      rw [if_pos (b0_t g1)]; rfl
