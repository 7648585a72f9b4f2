/-! FAR, about. -/
theorem b0_t {p : Prop} [Decidable p] (h : ¬ p) : Int32.ofInt (bi p) = (0 : Int32) := by show _ = Int32.ofInt 0; rw [o_bi0]; exact h
theorem b0_f {p : Prop} [Decidable p] (h : p) : ¬ Int32.ofInt (bi p) = (0 : Int32) := by show ¬ _ = Int32.ofInt 0; rw [o_bi0]; exact fun q => q h
theorem okL_of {V : Nat → Nat → Int} (hR : RNG V) (hB : RB V 1 94) {l : Nat} (hl : isT V l) : okL V l (V 3 l).toNat (lkc V l) (V 4 l) := by
  have rD : 0 ≤ V 1 0 ∧ V 1 0 ≤ 12 := hR 1 0 (by decide) (by decide)
  have rT : 0 ≤ V 1 1 ∧ V 1 1 ≤ 12 := hR 1 1 (by decide) (by decide)
  have r3 : 0 ≤ V 3 l ∧ V 3 l ≤ 6 := hR 3 l (by decide) (by decide)
  obtain ⟨b1, b2, b3⟩ := hB l (by omega)
  have b1' : V 94 (20 + 22 * l) = V 3 l := b1
  refine ⟨by omega, by omega, by rw [Nat.add_zero, b1']; omega, b2, hR 4 l (by decide) (by decide), fun i hi => ?_⟩
  have : 0 ≤ V 2 (l * 6 + i) ∧ V 2 (l * 6 + i) ≤ 179 := hR 2 _ (by decide) (by decide)
  have b3' := b3 i (by show (i : Int) < V 3 l; omega)
  exact ⟨b3', by unfold lkc; omega⟩
theorem okW_of {V : Nat → Nat → Int} (hR : RNG V) (hA : RA V 1 94) : okW V := by
  obtain ⟨-, -, a1, a2, a3, a4⟩ := hA
  unfold okW
  rw [a1, a2, a3, a4]
  exact ⟨hR 1 2 (by decide) (by decide), hR 1 3 (by decide) (by decide), hR 1 4 (by decide) (by decide), hR 1 5 (by decide) (by decide)⟩
theorem FARg_p {V : Nat → Nat → Int} (hR : RNG V) (hA : RA V 1 94) (n : Nat) (p : Nat → Int) (cp : Int) (b : Nat) : FARg (V 94 8) (V 94 9) (V 94 10) (V 94 11) n p cp (V 3 b).toNat (lkc V b) (V 4 b) = FARp V n p cp b := by
  obtain ⟨-, -, a1, a2, a3, a4⟩ := hA
  have r3 : 0 ≤ V 3 b ∧ V 3 b ≤ 6 := hR 3 b (by decide) (by decide)
  unfold FARg FARp
  rw [a1, a2, a3, a4, show (((V 3 b).toNat : Nat) : Int) = V 3 b by omega]
  rfl
theorem m_197 {L d : Nat} {xs : Nat → Int32} {V : Nat → Nat → Int} {J : Nat → Nat → Int64} {tg : Option Nat} (hR : RNG V) (hA : RA V 1 94) (hB : RB V 1 94) {a b : Nat} (ha : isT V a) (hb : isT V b) : ∃ X, (∀ c, c ≠ 97 → c ≠ 98 → X c = V c) ∧ Runs (GW L xs) (d + 3) 197 (0, [.ref 93, (Value.int (Int32.ofInt (a))), (Value.int (Int32.ofInt (b))), vU, vU, vU, vU, vU, vU, vU], [], zS (eV (V)) J tg) (some (Value.int (Int32.ofInt (FAR V a b))), zS (eV (X)) J tg) := by
  obtain ⟨X, x1, x2⟩ := k_197 (L := L) (xs := xs) (J := J) (tg := tg) (d := d) (okW_of hR hA) (okL_of hR hB ha) (okL_of hR hB hb)
  rw [FARg_p hR hA] at x2
  exact ⟨X, x1, x2⟩
theorem c_far {L : Nat} {xs : Nat → Int32} {V : Nat → Nat → Int} {J : Nat → Nat → Int64} {tg : Option Nat} (h : INV V) {a b : Int} (ha : (-2147483648 ≤ a ∧ a < 2147483648)) (hb : (-2147483648 ≤ b ∧ b < 2147483648)) : ∃ (v : Int) (U W : Nat → Nat → Int) (J1 : Nat → Nat → Int64), Runs (GW L xs) 40 122 (0, [.ref 0, (Value.int (Int32.ofInt (a))), (Value.int (Int32.ofInt (b)))], [], zS (eV V) J tg) (some (Value.int (Int32.ofInt v)), zS (eV U) J tg) ∧ Runs (GW L xs) 40 198 (0, [.ref 93, (Value.int (Int32.ofInt (a))), (Value.int (Int32.ofInt (b)))], [], zS (eV U) J tg) (some (Value.int (Int32.ofInt v)), zS (eV W) J1 tg) ∧ INV W := by
  have h0 := h
  obtain ⟨hR, ⟨hA, hB, hC, hD, hE, hF, hH⟩, h2, h3, h4, h5⟩ := h
  have rD : 0 ≤ V 1 0 ∧ V 1 0 ≤ 12 := hR 1 0 (by decide) (by decide)
  have rT : 0 ≤ V 1 1 ∧ V 1 1 ≤ 12 := hR 1 1 (by decide) (by decide)
  by_cases g1 : isT V a
  · by_cases g2 : isT V b
    · obtain ⟨n, rfl⟩ : ∃ n : Nat, a = n := ⟨a.toNat, by omega⟩
      obtain ⟨m, rfl⟩ : ∃ m : Nat, b = m := ⟨b.toNat, by omega⟩
      obtain ⟨U, u1, u2, u3⟩ := k_62 (L := L) (xs := xs) (J := J) (tg := tg) (d := 36) hR h3 (a := n) (b := m) (by omega) (by omega)
      have qU : Qy V U := ⟨fun c _ => u1 c (by omega) (by omega) (by omega) (by omega), fun p _ => by rw [u1 94 (by decide) (by decide) (by decide) (by decide)], fun p _ => by rw [u1 93 (by decide) (by decide) (by decide) (by decide)], u2⟩
      obtain ⟨hRU, ⟨hAU, hBU, -, -, -, -, -⟩, -, -, -, -⟩ := h0.q qU
      have e1 : U 1 = V 1 := u1 1 (by decide) (by decide) (by decide) (by decide)
      have g1' : isT U n := by unfold isT; rw [e1]; exact g1
      have g2' : isT U m := by unfold isT; rw [e1]; exact g2
      obtain ⟨X, x1, x2⟩ := m_197 (L := L) (xs := xs) (J := J) (tg := tg) (d := 36) hRU hAU hBU g1' g2'
      have eF : FAR U = FAR V := FAR_fr e1 (u1 2 (by decide) (by decide) (by decide) (by decide)) (u1 3 (by decide) (by decide) (by decide) (by decide)) (u1 4 (by decide) (by decide) (by decide) (by decide))
      rw [eF] at x2
      have qX : Qy U X := ⟨fun c _ => x1 c (by omega) (by omega), fun p _ => by rw [x1 94 (by decide) (by decide)], fun p _ => by rw [x1 93 (by decide) (by decide)], u2.up (x1 1 (by decide) (by decide)) (x1 2 (by decide) (by decide)) (x1 3 (by decide) (by decide)) (x1 4 (by decide) (by decide)) (x1 71 (by decide) (by decide)) (x1 81 (by decide) (by decide))⟩
      refine ⟨FAR V n m, U, X, J, ?_, ?_, h0.q (qU.tr qX)⟩
      · apply sg_122
        refine ⟨_, _, k_46 hR ha, ?_⟩
        simp (disch := omega) only [eV_at, eV_up, o_lit2, o_add, o_sub, o_mul, o_neg, o_div, o_nat, ix_t, o_lt, o_le, o_eq, o_bi0, o_bi1, o_bib, em_t, o_neg1, o_shl, o_tb, o_tb0, o_tt, o_and, o_xor, o_or, o_max, o_min, an_tb, and_true, true_and, not_true, not_false, if_true, if_false, tn_add, tn_mul, Int.reduceToNat, tn_cast, md_x]
        rw [if_neg (fun q => q (by assumption))]
        refine ⟨_, _, k_46 hR hb, ?_⟩
        simp (disch := omega) only [eV_at, eV_up, o_lit2, o_add, o_sub, o_mul, o_neg, o_div, o_nat, ix_t, o_lt, o_le, o_eq, o_bi0, o_bi1, o_bib, em_t, o_neg1, o_shl, o_tb, o_tb0, o_tt, o_and, o_xor, o_or, o_max, o_min, an_tb, and_true, true_and, not_true, not_false, if_true, if_false, tn_add, tn_mul, Int.reduceToNat, tn_cast, md_x]
        rw [if_neg (fun q => q (by assumption))]
        exact ⟨_, _, u3, rfl⟩
      · apply sg_198
        refine ⟨_, _, _, m_181 hRU hAU ha, ?_⟩
        simp (disch := omega) only [eV_at, eV_up, o_lit2, o_add, o_sub, o_mul, o_neg, o_div, o_nat, ix_t, o_lt, o_le, o_eq, o_bi0, o_bi1, o_bib, em_t, o_neg1, o_shl, o_tb, o_tb0, o_tt, o_and, o_xor, o_or, o_max, o_min, an_tb, and_true, true_and, not_true, not_false, if_true, if_false, tn_add, tn_mul, Int.reduceToNat, tn_cast, md_x]
        rw [if_neg (fun q => q (by assumption))]
        refine ⟨_, _, _, m_181 hRU hAU hb, ?_⟩
        simp (disch := omega) only [eV_at, eV_up, o_lit2, o_add, o_sub, o_mul, o_neg, o_div, o_nat, ix_t, o_lt, o_le, o_eq, o_bi0, o_bi1, o_bib, em_t, o_neg1, o_shl, o_tb, o_tb0, o_tt, o_and, o_xor, o_or, o_max, o_min, an_tb, and_true, true_and, not_true, not_false, if_true, if_false, tn_add, tn_mul, Int.reduceToNat, tn_cast, md_x]
        rw [if_neg (fun q => q (by assumption))]
        exact ⟨_, _, _, x2, rfl⟩
    · refine ⟨-1, V, V, J, ?_, ?_, h0⟩
      · apply sg_122
        refine ⟨_, _, k_46 hR ha, ?_⟩
        simp (disch := omega) only [eV_at, eV_up, o_lit2, o_add, o_sub, o_mul, o_neg, o_div, o_nat, ix_t, o_lt, o_le, o_eq, o_bi0, o_bi1, o_bib, em_t, o_neg1, o_shl, o_tb, o_tb0, o_tt, o_and, o_xor, o_or, o_max, o_min, an_tb, and_true, true_and, not_true, not_false, if_true, if_false, tn_add, tn_mul, Int.reduceToNat, tn_cast, md_x]
        rw [if_neg (fun q => q (by assumption))]
        refine ⟨_, _, k_46 hR hb, ?_⟩
        simp (disch := omega) only [eV_at, eV_up, o_lit2, o_add, o_sub, o_mul, o_neg, o_div, o_nat, ix_t, o_lt, o_le, o_eq, o_bi0, o_bi1, o_bib, em_t, o_neg1, o_shl, o_tb, o_tb0, o_tt, o_and, o_xor, o_or, o_max, o_min, an_tb, and_true, true_and, not_true, not_false, if_true, if_false, tn_add, tn_mul, Int.reduceToNat, tn_cast, md_x]
        rw [if_pos (by assumption)] <;> trivial
      · apply sg_198
        refine ⟨_, _, _, m_181 hR hA ha, ?_⟩
        simp (disch := omega) only [eV_at, eV_up, o_lit2, o_add, o_sub, o_mul, o_neg, o_div, o_nat, ix_t, o_lt, o_le, o_eq, o_bi0, o_bi1, o_bib, em_t, o_neg1, o_shl, o_tb, o_tb0, o_tt, o_and, o_xor, o_or, o_max, o_min, an_tb, and_true, true_and, not_true, not_false, if_true, if_false, tn_add, tn_mul, Int.reduceToNat, tn_cast, md_x]
        rw [if_neg (fun q => q (by assumption))]
        refine ⟨_, _, _, m_181 hR hA hb, ?_⟩
        simp (disch := omega) only [eV_at, eV_up, o_lit2, o_add, o_sub, o_mul, o_neg, o_div, o_nat, ix_t, o_lt, o_le, o_eq, o_bi0, o_bi1, o_bib, em_t, o_neg1, o_shl, o_tb, o_tb0, o_tt, o_and, o_xor, o_or, o_max, o_min, an_tb, and_true, true_and, not_true, not_false, if_true, if_false, tn_add, tn_mul, Int.reduceToNat, tn_cast, md_x]
        rw [if_pos (by assumption)] <;> trivial
  · refine ⟨-1, V, V, J, ?_, ?_, h0⟩
    · apply sg_122
      refine ⟨_, _, k_46 hR ha, ?_⟩
      simp (disch := omega) only [eV_at, eV_up, o_lit2, o_add, o_sub, o_mul, o_neg, o_div, o_nat, ix_t, o_lt, o_le, o_eq, o_bi0, o_bi1, o_bib, em_t, o_neg1, o_shl, o_tb, o_tb0, o_tt, o_and, o_xor, o_or, o_max, o_min, an_tb, and_true, true_and, not_true, not_false, if_true, if_false, tn_add, tn_mul, Int.reduceToNat, tn_cast, md_x]
      rw [if_pos (by assumption)] <;> trivial
    · apply sg_198
      refine ⟨_, _, _, m_181 hR hA ha, ?_⟩
      simp (disch := omega) only [eV_at, eV_up, o_lit2, o_add, o_sub, o_mul, o_neg, o_div, o_nat, ix_t, o_lt, o_le, o_eq, o_bi0, o_bi1, o_bib, em_t, o_neg1, o_shl, o_tb, o_tb0, o_tt, o_and, o_xor, o_or, o_max, o_min, an_tb, and_true, true_and, not_true, not_false, if_true, if_false, tn_add, tn_mul, Int.reduceToNat, tn_cast, md_x]
      rw [if_pos (by assumption)] <;> trivial
theorem c_about {L : Nat} {xs : Nat → Int32} {V : Nat → Nat → Int} {J : Nat → Nat → Int64} {tg : Option Nat} (h : INV V) {a : Int} (ha : (-2147483648 ≤ a ∧ a < 2147483648)) : ∃ (v : Int) (U W : Nat → Nat → Int) (J1 : Nat → Nat → Int64), Runs (GW L xs) 40 161 (0, [.ref 0, (Value.int (Int32.ofInt (a)))], [], zS (eV V) J tg) (some (Value.int (Int32.ofInt v)), zS (eV U) J tg) ∧ Runs (GW L xs) 40 299 (0, [.ref 93, (Value.int (Int32.ofInt (a)))], [], zS (eV U) J tg) (some (Value.int (Int32.ofInt v)), zS (eV W) J1 tg) ∧ INV W := by
  have h0 := h
  obtain ⟨hR, ⟨hA, hB, hC, hD, hE, hF, hH⟩, h2, h3, h4, h5⟩ := h
  have rD : 0 ≤ V 1 0 ∧ V 1 0 ≤ 12 := hR 1 0 (by decide) (by decide)
  have rT : 0 ≤ V 1 1 ∧ V 1 1 ≤ 12 := hR 1 1 (by decide) (by decide)
  obtain ⟨e1, e2, e3, e4, e5, e6⟩ := id hE.1
  obtain ⟨i1, i2, i3, i4, -⟩ := id hH.1
  obtain ⟨a1, a2, -⟩ := id hA
  have t2 := h4.2.1
  by_cases g0 : 20 ≤ a ∧ a ≤ 43
  · by_cases g1 : isT V (a - 20)
    · obtain ⟨n, hn⟩ : ∃ n : Nat, a - 20 = n := ⟨(a - 20).toNat, by omega⟩
      have kb := (hB n (by omega)).1
      have kb' : V 94 (20 + 22 * n + 0) = V 3 n := kb
      have k1 := k_184 (L := L) (xs := xs) (J := J) (tg := tg) (d := 39) (V := V) (l := n) (w := 0) (by omega)
      rw [kb'] at k1
      rw [hn] at g1
      refine ⟨V 3 n, V, V, J, ?_, ?_, h0⟩
      · apply sg_161
        simp (disch := omega) only [o_int, eV_at, eV_up, o_lit2, o_add, o_sub, o_mul, o_neg, o_div, o_nat, ix_t, o_lt, o_le, o_eq, o_bi0, o_bi1, o_bib, em_t, o_neg1, o_shl, o_tb, o_tb0, o_tt, o_and, o_xor, o_or, o_max, o_min, an_tb, and_true, true_and, not_true, not_false, if_true, if_false, tn_add, tn_mul, Int.reduceToNat, tn_cast, md_x]
        rw [if_pos (by omega)]
        refine ⟨_, _, ?_, rfl⟩
        apply sg_162
        simp (disch := omega) only [eV_at, eV_up, o_lit2, o_add, o_sub, o_mul, o_neg, o_div, o_nat, ix_t, o_lt, o_le, o_eq, o_bi0, o_bi1, o_bib, em_t, o_neg1, o_shl, o_tb, o_tb0, o_tt, o_and, o_xor, o_or, o_max, o_min, an_tb, and_true, true_and, not_true, not_false, if_true, if_false, tn_add, tn_mul, Int.reduceToNat, tn_cast, md_x]
        refine ⟨_, _, k_164 ha (by omega) (by omega), ?_⟩
        simp (disch := omega) only [hn, eV_at, eV_up, o_lit2, o_add, o_sub, o_mul, o_neg, o_div, o_nat, ix_t, o_lt, o_le, o_eq, o_bi0, o_bi1, o_bib, em_t, o_neg1, o_shl, o_tb, o_tb0, o_tt, o_and, o_xor, o_or, o_max, o_min, an_tb, and_true, true_and, not_true, not_false, if_true, if_false, tn_add, tn_mul, Int.reduceToNat, tn_cast, md_x]
        rw [if_neg (fun q => q (by assumption))]
        refine ⟨_, _, k_46 hR (by omega), ?_⟩
        simp (disch := omega) only [hn, eV_at, eV_up, o_lit2, o_add, o_sub, o_mul, o_neg, o_div, o_nat, ix_t, o_lt, o_le, o_eq, o_bi0, o_bi1, o_bib, em_t, o_neg1, o_shl, o_tb, o_tb0, o_tt, o_and, o_xor, o_or, o_max, o_min, an_tb, and_true, true_and, not_true, not_false, if_true, if_false, tn_add, tn_mul, Int.reduceToNat, tn_cast, md_x]
        rw [if_neg (fun q => q (by assumption))] <;> trivial
      · apply sg_299
        refine ⟨_, _, _, k_177 (a := 20) (b := 43) ha (by omega) (by omega), ?_⟩
        rw [if_neg (b0_f g0)]
        simp (disch := omega) only [hn, eV_at, eV_up, o_lit2, o_add, o_sub, o_mul, o_neg, o_div, o_nat, ix_t, o_lt, o_le, o_eq, o_bi0, o_bi1, o_bib, em_t, o_neg1, o_shl, o_tb, o_tb0, o_tt, o_and, o_xor, o_or, o_max, o_min, an_tb, and_true, true_and, not_true, not_false, if_true, if_false, tn_add, tn_mul, Int.reduceToNat, tn_cast, md_x]
        refine ⟨_, _, _, m_181 hR hA (by omega), ?_⟩
        simp (disch := omega) only [hn, eV_at, eV_up, o_lit2, o_add, o_sub, o_mul, o_neg, o_div, o_nat, ix_t, o_lt, o_le, o_eq, o_bi0, o_bi1, o_bib, em_t, o_neg1, o_shl, o_tb, o_tb0, o_tt, o_and, o_xor, o_or, o_max, o_min, an_tb, and_true, true_and, not_true, not_false, if_true, if_false, tn_add, tn_mul, Int.reduceToNat, tn_cast, md_x]
        rw [if_neg (fun q => q (by assumption))]
        exact ⟨_, _, _, k1, rfl⟩
    · refine ⟨-1, V, V, J, ?_, ?_, h0⟩
      · apply sg_161
        simp (disch := omega) only [o_int, eV_at, eV_up, o_lit2, o_add, o_sub, o_mul, o_neg, o_div, o_nat, ix_t, o_lt, o_le, o_eq, o_bi0, o_bi1, o_bib, em_t, o_neg1, o_shl, o_tb, o_tb0, o_tt, o_and, o_xor, o_or, o_max, o_min, an_tb, and_true, true_and, not_true, not_false, if_true, if_false, tn_add, tn_mul, Int.reduceToNat, tn_cast, md_x]
        rw [if_pos (by omega)]
        refine ⟨_, _, ?_, rfl⟩
        apply sg_162
        simp (disch := omega) only [eV_at, eV_up, o_lit2, o_add, o_sub, o_mul, o_neg, o_div, o_nat, ix_t, o_lt, o_le, o_eq, o_bi0, o_bi1, o_bib, em_t, o_neg1, o_shl, o_tb, o_tb0, o_tt, o_and, o_xor, o_or, o_max, o_min, an_tb, and_true, true_and, not_true, not_false, if_true, if_false, tn_add, tn_mul, Int.reduceToNat, tn_cast, md_x]
        refine ⟨_, _, k_164 ha (by omega) (by omega), ?_⟩
        simp (disch := omega) only [eV_at, eV_up, o_lit2, o_add, o_sub, o_mul, o_neg, o_div, o_nat, ix_t, o_lt, o_le, o_eq, o_bi0, o_bi1, o_bib, em_t, o_neg1, o_shl, o_tb, o_tb0, o_tt, o_and, o_xor, o_or, o_max, o_min, an_tb, and_true, true_and, not_true, not_false, if_true, if_false, tn_add, tn_mul, Int.reduceToNat, tn_cast, md_x]
        rw [if_neg (fun q => q (by assumption))]
        refine ⟨_, _, k_46 hR (by omega), ?_⟩
        simp (disch := omega) only [eV_at, eV_up, o_lit2, o_add, o_sub, o_mul, o_neg, o_div, o_nat, ix_t, o_lt, o_le, o_eq, o_bi0, o_bi1, o_bib, em_t, o_neg1, o_shl, o_tb, o_tb0, o_tt, o_and, o_xor, o_or, o_max, o_min, an_tb, and_true, true_and, not_true, not_false, if_true, if_false, tn_add, tn_mul, Int.reduceToNat, tn_cast, md_x]
        rw [if_pos (by assumption)] <;> trivial
      · apply sg_299
        refine ⟨_, _, _, k_177 (a := 20) (b := 43) ha (by omega) (by omega), ?_⟩
        rw [if_neg (b0_f g0)]
        simp (disch := omega) only [eV_at, eV_up, o_lit2, o_add, o_sub, o_mul, o_neg, o_div, o_nat, ix_t, o_lt, o_le, o_eq, o_bi0, o_bi1, o_bib, em_t, o_neg1, o_shl, o_tb, o_tb0, o_tt, o_and, o_xor, o_or, o_max, o_min, an_tb, and_true, true_and, not_true, not_false, if_true, if_false, tn_add, tn_mul, Int.reduceToNat, tn_cast, md_x]
        refine ⟨_, _, _, m_181 hR hA (by omega), ?_⟩
        simp (disch := omega) only [eV_at, eV_up, o_lit2, o_add, o_sub, o_mul, o_neg, o_div, o_nat, ix_t, o_lt, o_le, o_eq, o_bi0, o_bi1, o_bib, em_t, o_neg1, o_shl, o_tb, o_tb0, o_tt, o_and, o_xor, o_or, o_max, o_min, an_tb, and_true, true_and, not_true, not_false, if_true, if_false, tn_add, tn_mul, Int.reduceToNat, tn_cast, md_x]
        rw [if_pos (by assumption)] <;> trivial
  · by_cases g1 : a < 0 ∨ 8 < a
    · refine ⟨-1, V, V, J, ?_, ?_, h0⟩
      · apply sg_161
        simp (disch := omega) only [o_int, eV_at, eV_up, o_lit2, o_add, o_sub, o_mul, o_neg, o_div, o_nat, ix_t, o_lt, o_le, o_eq, o_bi0, o_bi1, o_bib, em_t, o_neg1, o_shl, o_tb, o_tb0, o_tt, o_and, o_xor, o_or, o_max, o_min, an_tb, and_true, true_and, not_true, not_false, if_true, if_false, tn_add, tn_mul, Int.reduceToNat, tn_cast, md_x]
        rw [if_pos (by omega)]
        refine ⟨_, _, ?_, rfl⟩
        apply sg_162
        simp (disch := omega) only [eV_at, eV_up, o_lit2, o_add, o_sub, o_mul, o_neg, o_div, o_nat, ix_t, o_lt, o_le, o_eq, o_bi0, o_bi1, o_bib, em_t, o_neg1, o_shl, o_tb, o_tb0, o_tt, o_and, o_xor, o_or, o_max, o_min, an_tb, and_true, true_and, not_true, not_false, if_true, if_false, tn_add, tn_mul, Int.reduceToNat, tn_cast, md_x]
        refine ⟨_, _, k_164 ha (by omega) (by omega), ?_⟩
        simp (disch := omega) only [eV_at, eV_up, o_lit2, o_add, o_sub, o_mul, o_neg, o_div, o_nat, ix_t, o_lt, o_le, o_eq, o_bi0, o_bi1, o_bib, em_t, o_neg1, o_shl, o_tb, o_tb0, o_tt, o_and, o_xor, o_or, o_max, o_min, an_tb, and_true, true_and, not_true, not_false, if_true, if_false, tn_add, tn_mul, Int.reduceToNat, tn_cast, md_x]
        rw [if_pos (by assumption)] <;> trivial
      · apply sg_299
        refine ⟨_, _, _, k_177 (a := 20) (b := 43) ha (by omega) (by omega), ?_⟩
        rw [if_pos (b0_t g0), o_int ha, if_pos g1]
        rfl
    · have go : ∀ v : Int, (∀ r : Option Value × SS, r = (some (Value.int (Int32.ofInt (v))), zS (eV V) J tg) → ((if a = 0 then (r = (some (Value.int (Int32.ofInt (V 7 4))), zS (eV V) J tg)) else if a = 1 then (r = (some (Value.int (Int32.ofInt (V 1 0))), zS (eV V) J tg)) else if a = 2 then (r = (some (Value.int (Int32.ofInt (V 1 1))), zS (eV V) J tg)) else if a = 3 then (r = (some (Value.int (Int32.ofInt (V 18 0))), zS (eV V) J tg)) else if a = 4 then (r = (some (Value.int (Int32.ofInt (V 18 1))), zS (eV V) J tg)) else if a = 5 then (r = (some (Value.int (Int32.ofInt (V 18 2))), zS (eV V) J tg)) else if a = 6 then (r = (some (Value.int (Int32.ofInt (V 18 3))), zS (eV V) J tg)) else if a = 7 then (r = (some (Value.int (Int32.ofInt (V 7 5))), zS (eV V) J tg)) else if a = 8 then (r = (some (Value.int (Int32.ofInt (V 67 2))), zS (eV V) J tg)) else False))) → ∃ (v : Int) (U W : Nat → Nat → Int) (J1 : Nat → Nat → Int64), Runs (GW L xs) 40 161 (0, [.ref 0, (Value.int (Int32.ofInt (a)))], [], zS (eV V) J tg) (some (Value.int (Int32.ofInt v)), zS (eV U) J tg) ∧ Runs (GW L xs) 40 299 (0, [.ref 93, (Value.int (Int32.ofInt (a)))], [], zS (eV U) J tg) (some (Value.int (Int32.ofInt v)), zS (eV W) J1 tg) ∧ INV W := by
        intro v hv
        refine ⟨v, V, V, J, ?_, ?_, h0⟩
        · apply sg_161
          simp (disch := omega) only [o_int, eV_at, eV_up, o_lit2, o_add, o_sub, o_mul, o_neg, o_div, o_nat, ix_t, o_lt, o_le, o_eq, o_bi0, o_bi1, o_bib, em_t, o_neg1, o_shl, o_tb, o_tb0, o_tt, o_and, o_xor, o_or, o_max, o_min, an_tb, and_true, true_and, not_true, not_false, if_true, if_false, tn_add, tn_mul, Int.reduceToNat, tn_cast, md_x]
          rw [if_neg g1]
          exact hv _ rfl
        · apply sg_299
          refine ⟨_, _, _, k_177 (a := 20) (b := 43) ha (by omega) (by omega), ?_⟩
          rw [if_pos (b0_t g0), o_int ha, if_neg g1]
          simp (disch := omega) only [e5, a1, a2, i1, i2, i3, i4, e6, t2, eV_at, eV_up, o_lit2, o_add, o_sub, o_mul, o_neg, o_div, o_nat, ix_t, o_lt, o_le, o_eq, o_bi0, o_bi1, o_bib, em_t, o_neg1, o_shl, o_tb, o_tb0, o_tt, o_and, o_xor, o_or, o_max, o_min, an_tb, and_true, true_and, not_true, not_false, if_true, if_false, tn_add, tn_mul, Int.reduceToNat, tn_cast, md_x]
          exact hv _ rfl
      have : a = 0 ∨ a = 1 ∨ a = 2 ∨ a = 3 ∨ a = 4 ∨ a = 5 ∨ a = 6 ∨ a = 7 ∨ a = 8 := by omega
      rcases this with q | q | q | q | q | q | q | q | q <;> subst q
      · exact go (V 7 4) fun r hr => by simpa using hr
      · exact go (V 1 0) fun r hr => by simpa using hr
      · exact go (V 1 1) fun r hr => by simpa using hr
      · exact go (V 18 0) fun r hr => by simpa using hr
      · exact go (V 18 1) fun r hr => by simpa using hr
      · exact go (V 18 2) fun r hr => by simpa using hr
      · exact go (V 18 3) fun r hr => by simpa using hr
      · exact go (V 7 5) fun r hr => by simpa using hr
      · exact go (V 67 2) fun r hr => by simpa using hr
