theorem c_colour {L : Nat} {xs : Nat → Int32} {V : Nat → Nat → Int} {J : Nat → Nat → Int64} {tg : Option Nat} (h : INV V) {l c : Int} (hl : (-2147483648 ≤ l ∧ l < 2147483648)) (hc : (-2147483648 ≤ c ∧ c < 2147483648)) : ∃ (v : Int) (U W : Nat → Nat → Int) (J1 : Nat → Nat → Int64), Runs (GW L xs) 40 119 (0, [.ref 0, (Value.int (Int32.ofInt (l))), (Value.int (Int32.ofInt (c)))], [], zS (eV V) J tg) (some (Value.int (Int32.ofInt v)), zS (eV U) J tg) ∧ Runs (GW L xs) 40 192 (0, [.ref 93, (Value.int (Int32.ofInt (l))), (Value.int (Int32.ofInt (c)))], [], zS (eV U) J tg) (some (Value.int (Int32.ofInt v)), zS (eV W) J1 tg) ∧ INV W := by
  have h0 := h
  obtain ⟨hR, ⟨hA, hB, hC, hD, hE, hF, hH⟩, h2, h3, h4, h5⟩ := h
  have rD : 0 ≤ V 1 0 ∧ V 1 0 ≤ 12 := hR 1 0 (by decide) (by decide)
  have rT : 0 ≤ V 1 1 ∧ V 1 1 ≤ 12 := hR 1 1 (by decide) (by decide)
  by_cases g1 : isT V l
  · by_cases g2 : 0 ≤ c ∧ c ≤ 3
    · obtain ⟨n, rfl⟩ : ∃ n : Nat, l = n := ⟨l.toNat, by omega⟩
      have hn : n < 24 := by omega
      obtain ⟨U, u1, u2, u3⟩ := k_61 (L := L) (xs := xs) (J := J) (tg := tg) (d := 39) (V := up2 V 4 n c) (l := n) hn
      have e : ∀ x, x ≠ 4 ∧ x ≠ 71 → U x = V x := fun x q => by rw [u1 x q.2, w_ne _ _ _ _ q.1]
      have e4 : U 4 = up2 V 4 n c 4 := u1 4 (by decide)
      have hRU : RNG U := (hR.up (c := 4) (p := n) (z := c) g2).fr fun x q => u1 x (by omega)
      have hAU : RA U 1 94 := hA.up (fun p _ => by rw [e 1 (by omega)]) (fun p _ => by rw [e 94 (by omega)])
      have g1' : isT U n := by unfold isT; rw [e 1 (by omega)]; exact g1
      refine ⟨1, U, up2 U 94 (20 + 22 * n + 1) c, J, ?_, ?_, ?_⟩
      · apply sg_119
        refine ⟨_, _, k_46 hR hl, ?_⟩
        simp (disch := omega) only [eV_at, eV_up, o_lit2, o_add, o_sub, o_mul, o_neg, o_div, o_nat, ix_t, o_lt, o_le, o_eq, o_bi0, o_bi1, o_bib, em_t, o_neg1, o_shl, o_tb, o_tb0, o_tt, o_and, o_xor, o_or, o_max, o_min, an_tb, and_true, true_and, not_true, not_false, if_true, if_false, tn_add, tn_mul, Int.reduceToNat, tn_cast, md_x]
        rw [if_neg (fun q => q (by assumption))]
        refine ⟨_, _, k_164 hc (by omega) (by omega), ?_⟩
        simp (disch := omega) only [eV_at, eV_up, o_lit2, o_add, o_sub, o_mul, o_neg, o_div, o_nat, ix_t, o_lt, o_le, o_eq, o_bi0, o_bi1, o_bib, em_t, o_neg1, o_shl, o_tb, o_tb0, o_tt, o_and, o_xor, o_or, o_max, o_min, an_tb, and_true, true_and, not_true, not_false, if_true, if_false, tn_add, tn_mul, Int.reduceToNat, tn_cast, md_x]
        rw [if_neg (fun q => q (by assumption))]
        exact ⟨_, u3, rfl⟩
      · apply sg_192
        refine ⟨_, _, _, m_181 hRU hAU hl, ?_⟩
        simp (disch := omega) only [eV_at, eV_up, o_lit2, o_add, o_sub, o_mul, o_neg, o_div, o_nat, ix_t, o_lt, o_le, o_eq, o_bi0, o_bi1, o_bib, em_t, o_neg1, o_shl, o_tb, o_tb0, o_tt, o_and, o_xor, o_or, o_max, o_min, an_tb, and_true, true_and, not_true, not_false, if_true, if_false, tn_add, tn_mul, Int.reduceToNat, tn_cast, md_x]
        rw [if_neg (fun q => q (by assumption))]
        refine ⟨_, _, _, k_177 hc (by omega) (by omega), ?_⟩
        simp (disch := omega) only [eV_at, eV_up, o_lit2, o_add, o_sub, o_mul, o_neg, o_div, o_nat, ix_t, o_lt, o_le, o_eq, o_bi0, o_bi1, o_bib, em_t, o_neg1, o_shl, o_tb, o_tb0, o_tt, o_and, o_xor, o_or, o_max, o_min, an_tb, and_true, true_and, not_true, not_false, if_true, if_false, tn_add, tn_mul, Int.reduceToNat, tn_cast, md_x]
        rw [if_neg (fun q => q (by assumption))] <;> trivial
      · have f : ∀ x, x ≠ 4 ∧ x ≠ 71 ∧ x ≠ 94 → up2 U 94 (20 + 22 * n + 1) c x = V x := fun x q => by rw [w_ne _ _ _ _ q.2.2]; exact e x ⟨q.1, q.2.1⟩
        have f4 : ∀ x, up2 U 94 (20 + 22 * n + 1) c 4 x = if x = n then c else V 4 x := fun x => by rw [w_ne _ _ _ _ (by decide), e4, w_at]
        have f94 : ∀ p, p ≠ 20 + 22 * n + 1 → up2 U 94 (20 + 22 * n + 1) c 94 p = V 94 p := fun p q => by rw [w_at, if_neg q, e 94 (by omega)]
        refine ⟨hRU.upn (by decide), ⟨(hA.up (fun p _ => by rw [f 1 (by omega)]) (fun p q => f94 p (by omega))), ?_, (hC.up hR (by rw [f 1 (by omega)]) (f 5 (by omega)) (f 6 (by omega)) (f 12 (by omega)) (fun l w _ _ => f94 _ (by omega)) (fun k _ => f94 _ (by omega))), ?_, (hE.up (by rw [f 1 (by omega)]) (f 7 (by omega)) (f 8 (by omega)) (f 9 (by omega)) (f 10 (by omega)) (f 11 (by omega)) (fun p _ => f94 _ (by omega))), (hF.up hR (by rw [f 1 (by omega)]) (by rw [f 1 (by omega)]) (by rw [f 7 (by omega)]) (fun x _ _ => f x (by omega)) (fun p _ => f94 _ (by omega))), (hH.up hR (by rw [f 1 (by omega)]) (fun x _ _ => f x (by omega)) (fun p _ => f94 _ (by omega)))⟩, (h2.fr fun x _ => f x (by omega)), ?_, (h4.fr (fun x _ => f x (by omega)) (by rw [f 93 (by omega)]) (by rw [f 93 (by omega)]) (by rw [f 93 (by omega)])), (h5.fr hR fun x _ => f x (by omega))⟩
        · intro l hl
          rw [f 1 (by omega)] at hl
          have h3 : 0 ≤ V 3 l ∧ V 3 l ≤ 6 := hR 3 l (by decide) (by decide)
          obtain ⟨b1, b2, b3⟩ := hB l hl
          refine ⟨?_, ?_, fun j hj => ?_⟩
          · rw [f94 _ (by omega), f (1 + 2) (by omega)]; exact b1
          · show _ = up2 U 94 (20 + 22 * n + 1) c 4 l
            rw [f4]
            by_cases q : l = n
            · subst q; rw [if_pos rfl, w_eq]
            · rw [if_neg q, f94 _ (by omega)]; exact b2
          · rw [f (1 + 2) (by omega)] at hj
            have hj' : (j : Int) < V 3 l := hj
            rw [f94 _ (by omega), f (1 + 1) (by omega)]; exact b3 j hj
        · refine ⟨fun l hl ht => ?_, ?_⟩
          · rw [f 1 (by omega)] at ht
            obtain ⟨b1, b2⟩ := hD.1 l hl ht
            rw [f (1 + 2) (by omega)]
            refine ⟨b1, ?_⟩
            show up2 U 94 (20 + 22 * n + 1) c 4 l = 0
            rw [f4, if_neg (by omega)]; exact b2
          · rw [f 1 (by omega), f (1 + 4) (by omega), f (1 + 5) (by omega), f (7 + 5) (by omega)]; exact hD.2
        · refine CA.fg hR h3 (l := n) (fun p _ _ => by rw [f 1 (by omega)]) (fun x j _ _ => by rw [f 2 (by omega)]) (fun x _ => by rw [f 3 (by omega)]) (fun x q => by rw [f4, if_neg q]) (fun a b ha hb => ?_) (f 81 (by omega))
          rw [w_ne _ _ _ _ (by decide : (71 : Nat) ≠ 94)]
          have := u2 a b ha hb
          rw [w_ne _ _ _ _ (by decide : (71 : Nat) ≠ 4)] at this
          exact this
    · refine ⟨0, V, V, J, ?_, ?_, h0⟩
      · apply sg_119
        refine ⟨_, _, k_46 hR hl, ?_⟩
        simp (disch := omega) only [eV_at, eV_up, o_lit2, o_add, o_sub, o_mul, o_neg, o_div, o_nat, ix_t, o_lt, o_le, o_eq, o_bi0, o_bi1, o_bib, em_t, o_neg1, o_shl, o_tb, o_tb0, o_tt, o_and, o_xor, o_or, o_max, o_min, an_tb, and_true, true_and, not_true, not_false, if_true, if_false, tn_add, tn_mul, Int.reduceToNat, tn_cast, md_x]
        rw [if_neg (fun q => q (by assumption))]
        refine ⟨_, _, k_164 hc (by omega) (by omega), ?_⟩
        simp (disch := omega) only [eV_at, eV_up, o_lit2, o_add, o_sub, o_mul, o_neg, o_div, o_nat, ix_t, o_lt, o_le, o_eq, o_bi0, o_bi1, o_bib, em_t, o_neg1, o_shl, o_tb, o_tb0, o_tt, o_and, o_xor, o_or, o_max, o_min, an_tb, and_true, true_and, not_true, not_false, if_true, if_false, tn_add, tn_mul, Int.reduceToNat, tn_cast, md_x]
        rw [if_pos (by assumption)] <;> trivial
      · apply sg_192
        refine ⟨_, _, _, m_181 hR hA hl, ?_⟩
        simp (disch := omega) only [eV_at, eV_up, o_lit2, o_add, o_sub, o_mul, o_neg, o_div, o_nat, ix_t, o_lt, o_le, o_eq, o_bi0, o_bi1, o_bib, em_t, o_neg1, o_shl, o_tb, o_tb0, o_tt, o_and, o_xor, o_or, o_max, o_min, an_tb, and_true, true_and, not_true, not_false, if_true, if_false, tn_add, tn_mul, Int.reduceToNat, tn_cast, md_x]
        rw [if_neg (fun q => q (by assumption))]
        refine ⟨_, _, _, k_177 hc (by omega) (by omega), ?_⟩
        simp (disch := omega) only [eV_at, eV_up, o_lit2, o_add, o_sub, o_mul, o_neg, o_div, o_nat, ix_t, o_lt, o_le, o_eq, o_bi0, o_bi1, o_bib, em_t, o_neg1, o_shl, o_tb, o_tb0, o_tt, o_and, o_xor, o_or, o_max, o_min, an_tb, and_true, true_and, not_true, not_false, if_true, if_false, tn_add, tn_mul, Int.reduceToNat, tn_cast, md_x]
        rw [if_pos (by assumption)] <;> trivial
  · refine ⟨0, V, V, J, ?_, ?_, h0⟩
    · apply sg_119
      refine ⟨_, _, k_46 hR hl, ?_⟩
      simp (disch := omega) only [eV_at, eV_up, o_lit2, o_add, o_sub, o_mul, o_neg, o_div, o_nat, ix_t, o_lt, o_le, o_eq, o_bi0, o_bi1, o_bib, em_t, o_neg1, o_shl, o_tb, o_tb0, o_tt, o_and, o_xor, o_or, o_max, o_min, an_tb, and_true, true_and, not_true, not_false, if_true, if_false, tn_add, tn_mul, Int.reduceToNat, tn_cast, md_x]
      rw [if_pos (by assumption)] <;> trivial
    · apply sg_192
      refine ⟨_, _, _, m_181 hR hA hl, ?_⟩
      simp (disch := omega) only [eV_at, eV_up, o_lit2, o_add, o_sub, o_mul, o_neg, o_div, o_nat, ix_t, o_lt, o_le, o_eq, o_bi0, o_bi1, o_bib, em_t, o_neg1, o_shl, o_tb, o_tb0, o_tt, o_and, o_xor, o_or, o_max, o_min, an_tb, and_true, true_and, not_true, not_false, if_true, if_false, tn_add, tn_mul, Int.reduceToNat, tn_cast, md_x]
      rw [if_pos (by assumption)] <;> trivial
theorem c_clear {L : Nat} {xs : Nat → Int32} {V : Nat → Nat → Int} {J : Nat → Nat → Int64} {tg : Option Nat} (h : INV V) {l : Int} (hl : (-2147483648 ≤ l ∧ l < 2147483648)) : ∃ (v : Int) (U W : Nat → Nat → Int) (J1 : Nat → Nat → Int64), Runs (GW L xs) 40 118 (0, [.ref 0, (Value.int (Int32.ofInt (l))), vU], [], zS (eV V) J tg) (some (Value.int (Int32.ofInt v)), zS (eV U) J tg) ∧ Runs (GW L xs) 40 191 (0, [.ref 93, (Value.int (Int32.ofInt (l))), vU], [], zS (eV U) J tg) (some (Value.int (Int32.ofInt v)), zS (eV W) J1 tg) ∧ INV W := by
  have h0 := h
  obtain ⟨hR, ⟨hA, hB, hC, hD, hE, hF, hH⟩, h2, h3, h4, h5⟩ := h
  have rD : 0 ≤ V 1 0 ∧ V 1 0 ≤ 12 := hR 1 0 (by decide) (by decide)
  have rT : 0 ≤ V 1 1 ∧ V 1 1 ≤ 12 := hR 1 1 (by decide) (by decide)
  by_cases g1 : isT V l
  · obtain ⟨n, rfl⟩ : ∃ n : Nat, l = n := ⟨l.toNat, by omega⟩
    have hn : n < 24 := by omega
    obtain ⟨U, u1, u2, u3⟩ := k_61 (L := L) (xs := xs) (J := J) (tg := tg) (d := 39) (V := up2 V 3 n 0) (l := n) hn
    have e : ∀ x, x ≠ 3 ∧ x ≠ 71 → U x = V x := fun x q => by rw [u1 x q.2, w_ne _ _ _ _ q.1]
    have e3 : U 3 = up2 V 3 n 0 3 := u1 3 (by decide)
    have hRU : RNG U := (hR.up (c := 3) (p := n) (z := 0) (by show (0 : Int) ≤ 0 ∧ (0 : Int) ≤ 6; decide)).fr fun x q => u1 x (by omega)
    have hAU : RA U 1 94 := hA.up (fun p _ => by rw [e 1 (by omega)]) (fun p _ => by rw [e 94 (by omega)])
    have g1' : isT U n := by unfold isT; rw [e 1 (by omega)]; exact g1
    have hs : U 94 (20 + 22 * n + 0) = V 3 n := by rw [e 94 (by omega)]; exact (hB n (by omega)).1
    have k1 := k_184 (L := L) (xs := xs) (J := J) (tg := tg) (d := 39) (V := U) (l := n) (w := 0) (by omega)
    rw [hs] at k1
    refine ⟨V 3 n, U, up2 U 94 (20 + 22 * n) 0, J, ?_, ?_, ?_⟩
    · apply sg_118
      refine ⟨_, _, k_46 hR hl, ?_⟩
      simp (disch := omega) only [eV_at, eV_up, o_lit2, o_add, o_sub, o_mul, o_neg, o_div, o_nat, ix_t, o_lt, o_le, o_eq, o_bi0, o_bi1, o_bib, em_t, o_neg1, o_shl, o_tb, o_tb0, o_tt, o_and, o_xor, o_or, o_max, o_min, an_tb, and_true, true_and, not_true, not_false, if_true, if_false, tn_add, tn_mul, Int.reduceToNat, tn_cast, md_x]
      rw [if_neg (fun q => q (by assumption))]
      exact ⟨_, u3, rfl⟩
    · apply sg_191
      refine ⟨_, _, _, m_181 hRU hAU hl, ?_⟩
      simp (disch := omega) only [eV_at, eV_up, o_lit2, o_add, o_sub, o_mul, o_neg, o_div, o_nat, ix_t, o_lt, o_le, o_eq, o_bi0, o_bi1, o_bib, em_t, o_neg1, o_shl, o_tb, o_tb0, o_tt, o_and, o_xor, o_or, o_max, o_min, an_tb, and_true, true_and, not_true, not_false, if_true, if_false, tn_add, tn_mul, Int.reduceToNat, tn_cast, md_x]
      rw [if_neg (fun q => q (by assumption))]
      refine ⟨_, _, _, k1, ?_⟩
      simp (disch := omega) only [eV_at, eV_up, o_lit2, o_add, o_sub, o_mul, o_neg, o_div, o_nat, ix_t, o_lt, o_le, o_eq, o_bi0, o_bi1, o_bib, em_t, o_neg1, o_shl, o_tb, o_tb0, o_tt, o_and, o_xor, o_or, o_max, o_min, an_tb, and_true, true_and, not_true, not_false, if_true, if_false, tn_add, tn_mul, Int.reduceToNat, tn_cast, md_x]
    · have f : ∀ x, x ≠ 3 ∧ x ≠ 71 ∧ x ≠ 94 → up2 U 94 (20 + 22 * n) 0 x = V x := fun x q => by rw [w_ne _ _ _ _ q.2.2]; exact e x ⟨q.1, q.2.1⟩
      have f3 : ∀ x, up2 U 94 (20 + 22 * n) 0 3 x = if x = n then 0 else V 3 x := fun x => by rw [w_ne _ _ _ _ (by decide), e3, w_at]
      have f94 : ∀ p, p ≠ 20 + 22 * n → up2 U 94 (20 + 22 * n) 0 94 p = V 94 p := fun p q => by rw [w_at, if_neg q, e 94 (by omega)]
      refine ⟨hRU.upn (by decide), ⟨(hA.up (fun p _ => by rw [f 1 (by omega)]) (fun p q => f94 p (by omega))), ?_, (hC.up hR (by rw [f 1 (by omega)]) (f 5 (by omega)) (f 6 (by omega)) (f 12 (by omega)) (fun l w _ _ => f94 _ (by omega)) (fun k _ => f94 _ (by omega))), ?_, (hE.up (by rw [f 1 (by omega)]) (f 7 (by omega)) (f 8 (by omega)) (f 9 (by omega)) (f 10 (by omega)) (f 11 (by omega)) (fun p _ => f94 _ (by omega))), (hF.up hR (by rw [f 1 (by omega)]) (by rw [f 1 (by omega)]) (by rw [f 7 (by omega)]) (fun x _ _ => f x (by omega)) (fun p _ => f94 _ (by omega))), (hH.up hR (by rw [f 1 (by omega)]) (fun x _ _ => f x (by omega)) (fun p _ => f94 _ (by omega)))⟩, (h2.fr fun x _ => f x (by omega)), ?_, (h4.fr (fun x _ => f x (by omega)) (by rw [f 93 (by omega)]) (by rw [f 93 (by omega)]) (by rw [f 93 (by omega)])), (h5.fr hR fun x _ => f x (by omega))⟩
      · intro l hl
        rw [f 1 (by omega)] at hl
        have h3 : 0 ≤ V 3 l ∧ V 3 l ≤ 6 := hR 3 l (by decide) (by decide)
        obtain ⟨b1, b2, b3⟩ := hB l hl
        have f3' : up2 U 94 (20 + 22 * n) 0 (1 + 2) l = if l = n then 0 else V 3 l := f3 l
        by_cases q : l = n
        · subst q
          rw [if_pos rfl] at f3'
          rw [f3']
          refine ⟨w_eq _ _ _ _, ?_, fun j hj => by omega⟩
          rw [f94 _ (by omega), f (1 + 3) (by omega)]; exact b2
        · rw [if_neg q] at f3'
          rw [f3', f94 _ (by omega), f94 _ (by omega), f (1 + 3) (by omega), f (1 + 1) (by omega)]
          refine ⟨b1, b2, fun j hj => ?_⟩
          rw [f94 _ (by omega)]; exact b3 j hj
      · refine ⟨fun l hl ht => ?_, ?_⟩
        · rw [f 1 (by omega)] at ht
          obtain ⟨b1, b2⟩ := hD.1 l hl ht
          rw [f (1 + 3) (by omega)]
          refine ⟨?_, b2⟩
          show up2 U 94 (20 + 22 * n) 0 3 l = 0
          rw [f3, if_neg (by omega)]; exact b1
        · rw [f 1 (by omega), f (1 + 4) (by omega), f (1 + 5) (by omega), f (7 + 5) (by omega)]; exact hD.2
      · refine CA.fg hR h3 (l := n) (fun p _ _ => by rw [f 1 (by omega)]) (fun x j _ _ => by rw [f 2 (by omega)]) (fun x q => by rw [f3, if_neg q]) (fun x _ => by rw [f 4 (by omega)]) (fun a b ha hb => ?_) (f 81 (by omega))
        rw [w_ne _ _ _ _ (by decide : (71 : Nat) ≠ 94)]
        have := u2 a b ha hb
        rw [w_ne _ _ _ _ (by decide : (71 : Nat) ≠ 3)] at this
        exact this
  · refine ⟨-1, V, V, J, ?_, ?_, h0⟩
    · apply sg_118
      refine ⟨_, _, k_46 hR hl, ?_⟩
      simp (disch := omega) only [eV_at, eV_up, o_lit2, o_add, o_sub, o_mul, o_neg, o_div, o_nat, ix_t, o_lt, o_le, o_eq, o_bi0, o_bi1, o_bib, em_t, o_neg1, o_shl, o_tb, o_tb0, o_tt, o_and, o_xor, o_or, o_max, o_min, an_tb, and_true, true_and, not_true, not_false, if_true, if_false, tn_add, tn_mul, Int.reduceToNat, tn_cast, md_x]
      rw [if_pos (by assumption)] <;> trivial
    · apply sg_191
      refine ⟨_, _, _, m_181 hR hA hl, ?_⟩
      simp (disch := omega) only [eV_at, eV_up, o_lit2, o_add, o_sub, o_mul, o_neg, o_div, o_nat, ix_t, o_lt, o_le, o_eq, o_bi0, o_bi1, o_bib, em_t, o_neg1, o_shl, o_tb, o_tb0, o_tt, o_and, o_xor, o_or, o_max, o_min, an_tb, and_true, true_and, not_true, not_false, if_true, if_false, tn_add, tn_mul, Int.reduceToNat, tn_cast, md_x]
      rw [if_pos (by assumption)] <;> trivial
