theorem c_part {L : Nat} {xs : Nat → Int32} {V : Nat → Nat → Int} {J : Nat → Nat → Int64} {tg : Option Nat} (h : INV V) {l a b c : Int} (hl : (-2147483648 ≤ l ∧ l < 2147483648)) (ha : (-2147483648 ≤ a ∧ a < 2147483648)) (hb : (-2147483648 ≤ b ∧ b < 2147483648)) (hc : (-2147483648 ≤ c ∧ c < 2147483648)) : ∃ (v : Int) (U W : Nat → Nat → Int) (J1 : Nat → Nat → Int64), Runs (GW L xs) 40 117 (0, [.ref 0, (Value.int (Int32.ofInt (l))), (Value.int (Int32.ofInt (a))), (Value.int (Int32.ofInt (b))), (Value.int (Int32.ofInt (c))), vU, vU], [], zS (eV V) J tg) (some (Value.int (Int32.ofInt v)), zS (eV U) J tg) ∧ Runs (GW L xs) 40 190 (0, [.ref 93, (Value.int (Int32.ofInt (l))), (Value.int (Int32.ofInt (a))), (Value.int (Int32.ofInt (b))), (Value.int (Int32.ofInt (c)))], [], zS (eV U) J tg) (some (Value.int (Int32.ofInt v)), zS (eV W) J1 tg) ∧ INV W := by
  have h0 := h
  obtain ⟨hR, ⟨hA, hB, hC, hD, hE, hF, hH⟩, h2, h3, h4, h5⟩ := h
  have rD : 0 ≤ V 1 0 ∧ V 1 0 ≤ 12 := hR 1 0 (by decide) (by decide)
  have rT : 0 ≤ V 1 1 ∧ V 1 1 ≤ 12 := hR 1 1 (by decide) (by decide)
  by_cases g1 : isT V l
  · obtain ⟨n, rfl⟩ : ∃ n : Nat, l = n := ⟨l.toNat, by omega⟩
    have hn : n < 24 := by omega
    obtain ⟨b1, b2, b3⟩ := hB n (by omega)
    have s3 : 0 ≤ V 3 n ∧ V 3 n ≤ 6 := hR 3 n (by decide) (by decide)
    obtain ⟨m, hm⟩ : ∃ m : Nat, V 3 n = m := ⟨(V 3 n).toNat, by omega⟩
    have hb1 : V 94 (20 + 22 * n + 0) = (m : Int) := by rw [← hm]; exact b1
    have hr2 : ∀ i, 0 ≤ V 2 i ∧ V 2 i ≤ 179 := fun i => hR 2 i (by decide) (by decide)
    have hb3 : ∀ i, i < m → V 94 (20 + 22 * n + (4 + i)) = V 2 (n * 6 + i) := fun i hi => b3 i (by show (i : Int) < V 3 n; omega)
    by_cases g2 : (0 ≤ a ∧ a ≤ 4) ∧ (0 ≤ b ∧ b ≤ 8) ∧ (0 ≤ c ∧ c ≤ 3)
    · have hv : 0 ≤ (a * 9 + b) * 4 + c ∧ (a * 9 + b) * 4 + c ≤ 179 := by omega
      generalize hvv : (a * 9 + b) * 4 + c = v at hv
      have kc : ∀ {d} {X : Nat → Nat → Int} {J : Nat → Nat → Int64}, Runs (GW L xs) (d) 169 (0, [(Value.int (Int32.ofInt (a))), (Value.int (Int32.ofInt (b))), (Value.int (Int32.ofInt (c)))], [], zS (eV (X)) J tg) (some (Value.int (Int32.ofInt (v))), zS (eV (X)) J tg) := by intro d X J; rw [← hvv]; exact k_169
      have km : ∀ {d} {X : Nat → Nat → Int} {J : Nat → Nat → Int64}, Runs (GW L xs) (d) 187 (0, [(Value.int (Int32.ofInt (a))), (Value.int (Int32.ofInt (b))), (Value.int (Int32.ofInt (c)))], [], zS (eV (X)) J tg) (some (Value.int (Int32.ofInt (v))), zS (eV (X)) J tg) := by intro d X J; rw [← hvv]; exact k_187
      have kh := k_173_2 (L := L) (xs := xs) (J := J) (tg := tg) (d := 39) (V := V) (f := n * 6) (n := m) (v := v) (by omega) (by omega) (fun i _ => by have := hr2 (n * 6 + i); omega)
      have kp := k_188 (L := L) (xs := xs) (J := J) (tg := tg) (d := 38) (V := V) (l := n) (n := m) (v := v) (by omega) hb1 (by omega) (by omega) (fun i hi => by rw [hb3 i hi]; have := hr2 (n * 6 + i); omega)
      rw [inL_cg (g := fun i => V 2 (n * 6 + i)) hb3] at kp
      have k0 := k_184 (L := L) (xs := xs) (J := J) (tg := tg) (d := 39) (V := V) (l := n) (w := 0) (by omega)
      rw [hb1] at k0
      by_cases g3 : m = 6
      · refine ⟨-1, V, V, J, ?_, ?_, h0⟩
        · apply sg_117
          refine ⟨_, _, k_46 hR hl, ?_⟩
          simp (disch := omega) only [eV_at, eV_up, o_lit2, o_add, o_sub, o_mul, o_neg, o_div, o_nat, ix_t, o_lt, o_le, o_eq, o_bi0, o_bi1, o_bib, em_t, o_neg1, o_shl, o_tb, o_tb0, o_tt, o_and, o_xor, o_or, o_max, o_min, an_tb, and_true, true_and, not_true, not_false, if_true, if_false, tn_add, tn_mul, Int.reduceToNat, tn_cast, md_x]
          rw [if_neg (fun q => q (by assumption))]
          refine ⟨_, _, k_167 ha hb hc, ?_⟩
          simp (disch := omega) only [eV_at, eV_up, o_lit2, o_add, o_sub, o_mul, o_neg, o_div, o_nat, ix_t, o_lt, o_le, o_eq, o_bi0, o_bi1, o_bib, em_t, o_neg1, o_shl, o_tb, o_tb0, o_tt, o_and, o_xor, o_or, o_max, o_min, an_tb, and_true, true_and, not_true, not_false, if_true, if_false, tn_add, tn_mul, Int.reduceToNat, tn_cast, md_x]
          rw [if_neg (fun q => q (by assumption))]
          refine ⟨_, _, kc, ?_⟩
          simp (disch := omega) only [eV_at, eV_up, o_lit2, o_add, o_sub, o_mul, o_neg, o_div, o_nat, ix_t, o_lt, o_le, o_eq, o_bi0, o_bi1, o_bib, em_t, o_neg1, o_shl, o_tb, o_tb0, o_tt, o_and, o_xor, o_or, o_max, o_min, an_tb, and_true, true_and, not_true, not_false, if_true, if_false, tn_add, tn_mul, Int.reduceToNat, tn_cast, md_x]
          rw [if_pos (by omega)] <;> trivial
        · apply sg_190
          refine ⟨_, _, _, m_181 hR hA hl, ?_⟩
          simp (disch := omega) only [eV_at, eV_up, o_lit2, o_add, o_sub, o_mul, o_neg, o_div, o_nat, ix_t, o_lt, o_le, o_eq, o_bi0, o_bi1, o_bib, em_t, o_neg1, o_shl, o_tb, o_tb0, o_tt, o_and, o_xor, o_or, o_max, o_min, an_tb, and_true, true_and, not_true, not_false, if_true, if_false, tn_add, tn_mul, Int.reduceToNat, tn_cast, md_x]
          rw [if_neg (fun q => q (by assumption))]
          refine ⟨_, _, _, k_183 ha hb hc, ?_⟩
          simp (disch := omega) only [eV_at, eV_up, o_lit2, o_add, o_sub, o_mul, o_neg, o_div, o_nat, ix_t, o_lt, o_le, o_eq, o_bi0, o_bi1, o_bib, em_t, o_neg1, o_shl, o_tb, o_tb0, o_tt, o_and, o_xor, o_or, o_max, o_min, an_tb, and_true, true_and, not_true, not_false, if_true, if_false, tn_add, tn_mul, Int.reduceToNat, tn_cast, md_x]
          rw [if_neg (fun q => q (by assumption))]
          refine ⟨_, _, _, km, _, _, _, kp, ?_⟩
          simp (disch := omega) only [eV_at, eV_up, o_lit2, o_add, o_sub, o_mul, o_neg, o_div, o_nat, ix_t, o_lt, o_le, o_eq, o_bi0, o_bi1, o_bib, em_t, o_neg1, o_shl, o_tb, o_tb0, o_tt, o_and, o_xor, o_or, o_max, o_min, an_tb, and_true, true_and, not_true, not_false, if_true, if_false, tn_add, tn_mul, Int.reduceToNat, tn_cast, md_x]
          split
          · refine ⟨_, _, _, k0, ?_⟩
            simp (disch := omega) only [eV_at, eV_up, o_lit2, o_add, o_sub, o_mul, o_neg, o_div, o_nat, ix_t, o_lt, o_le, o_eq, o_bi0, o_bi1, o_bib, em_t, o_neg1, o_shl, o_tb, o_tb0, o_tt, o_and, o_xor, o_or, o_max, o_min, an_tb, and_true, true_and, not_true, not_false, if_true, if_false, tn_add, tn_mul, Int.reduceToNat, tn_cast, md_x]
            rw [if_pos (by omega)] <;> trivial
          · trivial
      · by_cases g4 : inL (fun i => V 2 (n * 6 + i)) v m = true
        · refine ⟨-1, V, V, J, ?_, ?_, h0⟩
          · apply sg_117
            refine ⟨_, _, k_46 hR hl, ?_⟩
            simp (disch := omega) only [eV_at, eV_up, o_lit2, o_add, o_sub, o_mul, o_neg, o_div, o_nat, ix_t, o_lt, o_le, o_eq, o_bi0, o_bi1, o_bib, em_t, o_neg1, o_shl, o_tb, o_tb0, o_tt, o_and, o_xor, o_or, o_max, o_min, an_tb, and_true, true_and, not_true, not_false, if_true, if_false, tn_add, tn_mul, Int.reduceToNat, tn_cast, md_x]
            rw [if_neg (fun q => q (by assumption))]
            refine ⟨_, _, k_167 ha hb hc, ?_⟩
            simp (disch := omega) only [eV_at, eV_up, o_lit2, o_add, o_sub, o_mul, o_neg, o_div, o_nat, ix_t, o_lt, o_le, o_eq, o_bi0, o_bi1, o_bib, em_t, o_neg1, o_shl, o_tb, o_tb0, o_tt, o_and, o_xor, o_or, o_max, o_min, an_tb, and_true, true_and, not_true, not_false, if_true, if_false, tn_add, tn_mul, Int.reduceToNat, tn_cast, md_x]
            rw [if_neg (fun q => q (by assumption))]
            refine ⟨_, _, kc, ?_⟩
            simp (disch := omega) only [hm, eV_at, eV_up, o_lit2, o_add, o_sub, o_mul, o_neg, o_div, o_nat, ix_t, o_lt, o_le, o_eq, o_bi0, o_bi1, o_bib, em_t, o_neg1, o_shl, o_tb, o_tb0, o_tt, o_and, o_xor, o_or, o_max, o_min, an_tb, and_true, true_and, not_true, not_false, if_true, if_false, tn_add, tn_mul, Int.reduceToNat, tn_cast, md_x]
            rw [if_neg (by omega)]
            refine ⟨_, _, kh, ?_⟩
            simp (disch := omega) only [eV_at, eV_up, o_lit2, o_add, o_sub, o_mul, o_neg, o_div, o_nat, ix_t, o_lt, o_le, o_eq, o_bi0, o_bi1, o_bib, em_t, o_neg1, o_shl, o_tb, o_tb0, o_tt, o_and, o_xor, o_or, o_max, o_min, an_tb, and_true, true_and, not_true, not_false, if_true, if_false, tn_add, tn_mul, Int.reduceToNat, tn_cast, md_x]
            rw [if_neg (fun q => q (by assumption))] <;> trivial
          · apply sg_190
            refine ⟨_, _, _, m_181 hR hA hl, ?_⟩
            simp (disch := omega) only [eV_at, eV_up, o_lit2, o_add, o_sub, o_mul, o_neg, o_div, o_nat, ix_t, o_lt, o_le, o_eq, o_bi0, o_bi1, o_bib, em_t, o_neg1, o_shl, o_tb, o_tb0, o_tt, o_and, o_xor, o_or, o_max, o_min, an_tb, and_true, true_and, not_true, not_false, if_true, if_false, tn_add, tn_mul, Int.reduceToNat, tn_cast, md_x]
            rw [if_neg (fun q => q (by assumption))]
            refine ⟨_, _, _, k_183 ha hb hc, ?_⟩
            simp (disch := omega) only [eV_at, eV_up, o_lit2, o_add, o_sub, o_mul, o_neg, o_div, o_nat, ix_t, o_lt, o_le, o_eq, o_bi0, o_bi1, o_bib, em_t, o_neg1, o_shl, o_tb, o_tb0, o_tt, o_and, o_xor, o_or, o_max, o_min, an_tb, and_true, true_and, not_true, not_false, if_true, if_false, tn_add, tn_mul, Int.reduceToNat, tn_cast, md_x]
            rw [if_neg (fun q => q (by assumption))]
            refine ⟨_, _, _, km, _, _, _, kp, ?_⟩
            simp (disch := omega) only [eV_at, eV_up, o_lit2, o_add, o_sub, o_mul, o_neg, o_div, o_nat, ix_t, o_lt, o_le, o_eq, o_bi0, o_bi1, o_bib, em_t, o_neg1, o_shl, o_tb, o_tb0, o_tt, o_and, o_xor, o_or, o_max, o_min, an_tb, and_true, true_and, not_true, not_false, if_true, if_false, tn_add, tn_mul, Int.reduceToNat, tn_cast, md_x]
            rw [if_neg (fun q => q (by assumption))] <;> trivial
        · obtain ⟨U, u1, u2, u3⟩ := k_61 (L := L) (xs := xs) (J := J) (tg := tg) (d := 39) (V := up2 (up2 V 2 (n * 6 + m) v) 3 n (m + 1)) (l := n) hn
          have e : ∀ x, x ≠ 2 ∧ x ≠ 3 ∧ x ≠ 71 → U x = V x := fun x q => by rw [u1 x q.2.2, w_ne _ _ _ _ q.2.1, w_ne _ _ _ _ q.1]
          have e2 : U 2 = up2 V 2 (n * 6 + m) v 2 := by rw [u1 2 (by decide), w_ne _ _ _ _ (by decide)]
          have e3 : ∀ x, U 3 x = if x = n then (m : Int) + 1 else V 3 x := fun x => by rw [u1 3 (by decide), w_at, w_ne _ _ _ _ (by decide)]
          have hRU : RNG U := ((hR.up (c := 2) (p := n * 6 + m) (z := v) hv).up (c := 3) (p := n) (z := (m : Int) + 1) (by show (0 : Int) ≤ _ ∧ _ ≤ (6 : Int); omega)).fr fun x q => u1 x (by omega)
          have hAU : RA U 1 94 := hA.up (fun p _ => by rw [e 1 (by omega)]) (fun p _ => by rw [e 94 (by omega)])
          have g1' : isT U n := by unfold isT; rw [e 1 (by omega)]; exact g1
          have e94 : U 94 = V 94 := e 94 (by omega)
          have kp' := k_188 (L := L) (xs := xs) (J := J) (tg := tg) (d := 38) (V := U) (l := n) (n := m) (v := v) (by omega) (by rw [e94]; exact hb1) (by omega) (by omega) (fun i hi => by rw [e94, hb3 i hi]; have := hr2 (n * 6 + i); omega)
          rw [e94, inL_cg (g := fun i => V 2 (n * 6 + i)) hb3] at kp'
          have k0' := k_184 (L := L) (xs := xs) (J := J) (tg := tg) (d := 39) (V := U) (l := n) (w := 0) (by omega)
          rw [e94, hb1] at k0'
          have k9 := k_189 (L := L) (xs := xs) (J := J) (tg := tg) (d := 39) (V := U) (l := n) (n := m) (v := v) (by omega) (by rw [e94]; exact hb1) (by omega)
          have k8 := k_184 (L := L) (xs := xs) (J := J) (tg := tg) (d := 39) (V := up2 (up2 U 94 (20 + 22 * n + 4 + m) v) 94 (20 + 22 * n) (m + 1)) (l := n) (w := 0) (by omega)
          rw [w_at, if_pos (by omega)] at k8
          refine ⟨m + 1, U, up2 (up2 U 94 (20 + 22 * n + 4 + m) v) 94 (20 + 22 * n) (m + 1), J, ?_, ?_, ?_⟩
          · apply sg_117
            refine ⟨_, _, k_46 hR hl, ?_⟩
            simp (disch := omega) only [eV_at, eV_up, o_lit2, o_add, o_sub, o_mul, o_neg, o_div, o_nat, ix_t, o_lt, o_le, o_eq, o_bi0, o_bi1, o_bib, em_t, o_neg1, o_shl, o_tb, o_tb0, o_tt, o_and, o_xor, o_or, o_max, o_min, an_tb, and_true, true_and, not_true, not_false, if_true, if_false, tn_add, tn_mul, Int.reduceToNat, tn_cast, md_x]
            rw [if_neg (fun q => q (by assumption))]
            refine ⟨_, _, k_167 ha hb hc, ?_⟩
            simp (disch := omega) only [eV_at, eV_up, o_lit2, o_add, o_sub, o_mul, o_neg, o_div, o_nat, ix_t, o_lt, o_le, o_eq, o_bi0, o_bi1, o_bib, em_t, o_neg1, o_shl, o_tb, o_tb0, o_tt, o_and, o_xor, o_or, o_max, o_min, an_tb, and_true, true_and, not_true, not_false, if_true, if_false, tn_add, tn_mul, Int.reduceToNat, tn_cast, md_x]
            rw [if_neg (fun q => q (by assumption))]
            refine ⟨_, _, kc, ?_⟩
            simp (disch := omega) only [hm, eV_at, eV_up, o_lit2, o_add, o_sub, o_mul, o_neg, o_div, o_nat, ix_t, o_lt, o_le, o_eq, o_bi0, o_bi1, o_bib, em_t, o_neg1, o_shl, o_tb, o_tb0, o_tt, o_and, o_xor, o_or, o_max, o_min, an_tb, and_true, true_and, not_true, not_false, if_true, if_false, tn_add, tn_mul, Int.reduceToNat, tn_cast, md_x]
            rw [if_neg (by omega)]
            refine ⟨_, _, kh, ?_⟩
            simp (disch := omega) only [eV_at, eV_up, o_lit2, o_add, o_sub, o_mul, o_neg, o_div, o_nat, ix_t, o_lt, o_le, o_eq, o_bi0, o_bi1, o_bib, em_t, o_neg1, o_shl, o_tb, o_tb0, o_tt, o_and, o_xor, o_or, o_max, o_min, an_tb, and_true, true_and, not_true, not_false, if_true, if_false, tn_add, tn_mul, Int.reduceToNat, tn_cast, md_x]
            rw [if_pos g4]
            exact ⟨_, u3, rfl⟩
          · apply sg_190
            refine ⟨_, _, _, m_181 hRU hAU hl, ?_⟩
            simp (disch := omega) only [eV_at, eV_up, o_lit2, o_add, o_sub, o_mul, o_neg, o_div, o_nat, ix_t, o_lt, o_le, o_eq, o_bi0, o_bi1, o_bib, em_t, o_neg1, o_shl, o_tb, o_tb0, o_tt, o_and, o_xor, o_or, o_max, o_min, an_tb, and_true, true_and, not_true, not_false, if_true, if_false, tn_add, tn_mul, Int.reduceToNat, tn_cast, md_x]
            rw [if_neg (fun q => q (by assumption))]
            refine ⟨_, _, _, k_183 ha hb hc, ?_⟩
            simp (disch := omega) only [eV_at, eV_up, o_lit2, o_add, o_sub, o_mul, o_neg, o_div, o_nat, ix_t, o_lt, o_le, o_eq, o_bi0, o_bi1, o_bib, em_t, o_neg1, o_shl, o_tb, o_tb0, o_tt, o_and, o_xor, o_or, o_max, o_min, an_tb, and_true, true_and, not_true, not_false, if_true, if_false, tn_add, tn_mul, Int.reduceToNat, tn_cast, md_x]
            rw [if_neg (fun q => q (by assumption))]
            refine ⟨_, _, _, km, _, _, _, kp', ?_⟩
            simp (disch := omega) only [eV_at, eV_up, o_lit2, o_add, o_sub, o_mul, o_neg, o_div, o_nat, ix_t, o_lt, o_le, o_eq, o_bi0, o_bi1, o_bib, em_t, o_neg1, o_shl, o_tb, o_tb0, o_tt, o_and, o_xor, o_or, o_max, o_min, an_tb, and_true, true_and, not_true, not_false, if_true, if_false, tn_add, tn_mul, Int.reduceToNat, tn_cast, md_x]
            rw [if_pos g4]
            refine ⟨_, _, _, k0', ?_⟩
            simp (disch := omega) only [eV_at, eV_up, o_lit2, o_add, o_sub, o_mul, o_neg, o_div, o_nat, ix_t, o_lt, o_le, o_eq, o_bi0, o_bi1, o_bib, em_t, o_neg1, o_shl, o_tb, o_tb0, o_tt, o_and, o_xor, o_or, o_max, o_min, an_tb, and_true, true_and, not_true, not_false, if_true, if_false, tn_add, tn_mul, Int.reduceToNat, tn_cast, md_x]
            rw [if_neg (by omega)]
            exact ⟨_, _, _, km, _, _, k9, _, _, _, k8, rfl⟩
          · have f : ∀ x, x ≠ 2 ∧ x ≠ 3 ∧ x ≠ 71 ∧ x ≠ 94 → up2 (up2 U 94 (20 + 22 * n + 4 + m) v) 94 (20 + 22 * n) (m + 1) x = V x := fun x q => by rw [w_ne _ _ _ _ q.2.2.2, w_ne _ _ _ _ q.2.2.2]; exact e x ⟨q.1, q.2.1, q.2.2.1⟩
            have f3 : ∀ x, up2 (up2 U 94 (20 + 22 * n + 4 + m) v) 94 (20 + 22 * n) (m + 1) 3 x = if x = n then (m : Int) + 1 else V 3 x := fun x => by rw [w_ne _ _ _ _ (by decide), w_ne _ _ _ _ (by decide), e3]
            have f2 : ∀ x, up2 (up2 U 94 (20 + 22 * n + 4 + m) v) 94 (20 + 22 * n) (m + 1) 2 x = if x = n * 6 + m then v else V 2 x := fun x => by rw [w_ne _ _ _ _ (by decide), w_ne _ _ _ _ (by decide), e2, w_at]
            have f94 : ∀ p, p ≠ 20 + 22 * n ∧ p ≠ 20 + 22 * n + 4 + m → up2 (up2 U 94 (20 + 22 * n + 4 + m) v) 94 (20 + 22 * n) (m + 1) 94 p = V 94 p := fun p q => by rw [w_at, if_neg q.1, w_at, if_neg q.2, e94]
            have f94a : up2 (up2 U 94 (20 + 22 * n + 4 + m) v) 94 (20 + 22 * n) (m + 1) 94 (20 + 22 * n) = m + 1 := w_eq _ _ _ _
            have f94b : up2 (up2 U 94 (20 + 22 * n + 4 + m) v) 94 (20 + 22 * n) (m + 1) 94 (20 + 22 * n + (4 + m)) = v := by rw [w_at, if_neg (by omega), w_at, if_pos (by omega)]
            have hRW : RNG (up2 (up2 U 94 (20 + 22 * n + 4 + m) v) 94 (20 + 22 * n) (m + 1)) := (hRU.upn (by decide)).upn (by decide)
            have u2' : ∀ a b, a < 24 → b < 24 → (a = n ∨ b = n → up2 (up2 U 94 (20 + 22 * n + 4 + m) v) 94 (20 + 22 * n) (m + 1) 71 (a * 24 + b) = -1) ∧ (¬ (a = n ∨ b = n) → up2 (up2 U 94 (20 + 22 * n + 4 + m) v) 94 (20 + 22 * n) (m + 1) 71 (a * 24 + b) = V 71 (a * 24 + b)) := by
              intro a b ha hb
              rw [w_ne _ _ _ _ (by decide : (71 : Nat) ≠ 94), w_ne _ _ _ _ (by decide : (71 : Nat) ≠ 94)]
              have := u2 a b ha hb
              rw [w_ne _ _ _ _ (by decide : (71 : Nat) ≠ 3), w_ne _ _ _ _ (by decide : (71 : Nat) ≠ 2)] at this
              exact this
            generalize up2 (up2 U 94 (20 + 22 * n + 4 + m) v) 94 (20 + 22 * n) (m + 1) = W at *
            refine ⟨hRW, ⟨(hA.up (fun p _ => by rw [f 1 (by omega)]) (fun p q => f94 p (by omega))), ?_, (hC.up hR (by rw [f 1 (by omega)]) (f 5 (by omega)) (f 6 (by omega)) (f 12 (by omega)) (fun l w _ _ => f94 _ (by omega)) (fun k _ => f94 _ (by omega))), ?_, (hE.up (by rw [f 1 (by omega)]) (f 7 (by omega)) (f 8 (by omega)) (f 9 (by omega)) (f 10 (by omega)) (f 11 (by omega)) (fun p _ => f94 _ (by omega))), (hF.up hR (by rw [f 1 (by omega)]) (by rw [f 1 (by omega)]) (by rw [f 7 (by omega)]) (fun x _ _ => f x (by omega)) (fun p _ => f94 _ (by omega))), (hH.up hR (by rw [f 1 (by omega)]) (fun x _ _ => f x (by omega)) (fun p _ => f94 _ (by omega)))⟩, (h2.fr fun x _ => f x (by omega)), ?_, (h4.fr (fun x _ => f x (by omega)) (by rw [f 93 (by omega)]) (by rw [f 93 (by omega)]) (by rw [f 93 (by omega)])), (h5.fr hR fun x _ => f x (by omega))⟩
            · intro l hl
              rw [f 1 (by omega)] at hl
              have h3 : 0 ≤ V 3 l ∧ V 3 l ≤ 6 := hR 3 l (by decide) (by decide)
              obtain ⟨c1, c2, c3⟩ := hB l hl
              have f3' : W (1 + 2) l = if l = n then (m : Int) + 1 else V 3 l := f3 l
              have f2' : ∀ x, W (1 + 1) x = if x = n * 6 + m then v else V 2 x := f2
              rw [f3', f (1 + 3) (by omega)]
              by_cases q : l = n
              · subst q
                rw [if_pos rfl]
                refine ⟨f94a, by rw [f94 _ (by omega)]; exact c2, fun j hj => ?_⟩
                rw [f2']
                by_cases q2 : j = m
                · subst q2; rw [if_pos rfl]; exact f94b
                · rw [if_neg (by omega), f94 _ (by omega)]; exact hb3 j (by omega)
              · rw [if_neg q]
                refine ⟨by rw [f94 _ (by omega)]; exact c1, by rw [f94 _ (by omega)]; exact c2, fun j hj => ?_⟩
                rw [f2', if_neg (by omega), f94 _ (by omega)]; exact c3 j hj
            · refine ⟨fun l hl ht => ?_, ?_⟩
              · rw [f 1 (by omega)] at ht
                obtain ⟨c1, c2⟩ := hD.1 l hl ht
                rw [f (1 + 3) (by omega)]
                refine ⟨?_, c2⟩
                show W 3 l = 0
                rw [f3, if_neg (by omega)]; exact c1
              · rw [f 1 (by omega), f (1 + 4) (by omega), f (1 + 5) (by omega), f (7 + 5) (by omega)]; exact hD.2
            · exact CA.fg hR h3 (l := n) (fun p _ _ => by rw [f 1 (by omega)]) (fun x j q _ => by rw [f2, if_neg (by omega)]) (fun x q => by rw [f3, if_neg q]) (fun x _ => by rw [f 4 (by omega)]) u2' (f 81 (by omega))
    · refine ⟨-1, V, V, J, ?_, ?_, h0⟩
      · apply sg_117
        refine ⟨_, _, k_46 hR hl, ?_⟩
        simp (disch := omega) only [eV_at, eV_up, o_lit2, o_add, o_sub, o_mul, o_neg, o_div, o_nat, ix_t, o_lt, o_le, o_eq, o_bi0, o_bi1, o_bib, em_t, o_neg1, o_shl, o_tb, o_tb0, o_tt, o_and, o_xor, o_or, o_max, o_min, an_tb, and_true, true_and, not_true, not_false, if_true, if_false, tn_add, tn_mul, Int.reduceToNat, tn_cast, md_x]
        rw [if_neg (fun q => q (by assumption))]
        refine ⟨_, _, k_167 ha hb hc, ?_⟩
        simp (disch := omega) only [eV_at, eV_up, o_lit2, o_add, o_sub, o_mul, o_neg, o_div, o_nat, ix_t, o_lt, o_le, o_eq, o_bi0, o_bi1, o_bib, em_t, o_neg1, o_shl, o_tb, o_tb0, o_tt, o_and, o_xor, o_or, o_max, o_min, an_tb, and_true, true_and, not_true, not_false, if_true, if_false, tn_add, tn_mul, Int.reduceToNat, tn_cast, md_x]
        rw [if_pos (by assumption)] <;> trivial
      · apply sg_190
        refine ⟨_, _, _, m_181 hR hA hl, ?_⟩
        simp (disch := omega) only [eV_at, eV_up, o_lit2, o_add, o_sub, o_mul, o_neg, o_div, o_nat, ix_t, o_lt, o_le, o_eq, o_bi0, o_bi1, o_bib, em_t, o_neg1, o_shl, o_tb, o_tb0, o_tt, o_and, o_xor, o_or, o_max, o_min, an_tb, and_true, true_and, not_true, not_false, if_true, if_false, tn_add, tn_mul, Int.reduceToNat, tn_cast, md_x]
        rw [if_neg (fun q => q (by assumption))]
        refine ⟨_, _, _, k_183 ha hb hc, ?_⟩
        simp (disch := omega) only [eV_at, eV_up, o_lit2, o_add, o_sub, o_mul, o_neg, o_div, o_nat, ix_t, o_lt, o_le, o_eq, o_bi0, o_bi1, o_bib, em_t, o_neg1, o_shl, o_tb, o_tb0, o_tt, o_and, o_xor, o_or, o_max, o_min, an_tb, and_true, true_and, not_true, not_false, if_true, if_false, tn_add, tn_mul, Int.reduceToNat, tn_cast, md_x]
        rw [if_pos (by assumption)] <;> trivial
  · refine ⟨-1, V, V, J, ?_, ?_, h0⟩
    · apply sg_117
      refine ⟨_, _, k_46 hR hl, ?_⟩
      simp (disch := omega) only [eV_at, eV_up, o_lit2, o_add, o_sub, o_mul, o_neg, o_div, o_nat, ix_t, o_lt, o_le, o_eq, o_bi0, o_bi1, o_bib, em_t, o_neg1, o_shl, o_tb, o_tb0, o_tt, o_and, o_xor, o_or, o_max, o_min, an_tb, and_true, true_and, not_true, not_false, if_true, if_false, tn_add, tn_mul, Int.reduceToNat, tn_cast, md_x]
      rw [if_pos (by assumption)] <;> trivial
    · apply sg_190
      refine ⟨_, _, _, m_181 hR hA hl, ?_⟩
      simp (disch := omega) only [eV_at, eV_up, o_lit2, o_add, o_sub, o_mul, o_neg, o_div, o_nat, ix_t, o_lt, o_le, o_eq, o_bi0, o_bi1, o_bib, em_t, o_neg1, o_shl, o_tb, o_tb0, o_tt, o_and, o_xor, o_or, o_max, o_min, an_tb, and_true, true_and, not_true, not_false, if_true, if_false, tn_add, tn_mul, Int.reduceToNat, tn_cast, md_x]
      rw [if_pos (by assumption)] <;> trivial
