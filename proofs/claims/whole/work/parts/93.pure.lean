theorem c_stock {L : Nat} {xs : Nat → Int32} {V : Nat → Nat → Int} {J : Nat → Nat → Int64} {tg : Option Nat} (h : INV V) {a b c : Int} (ha : (-2147483648 ≤ a ∧ a < 2147483648)) (hb : (-2147483648 ≤ b ∧ b < 2147483648)) (hc : (-2147483648 ≤ c ∧ c < 2147483648)) : ∃ (v : Int) (U W : Nat → Nat → Int) (J1 : Nat → Nat → Int64), Runs (GW L xs) 40 136 (0, [.ref 0, (Value.int (Int32.ofInt (a))), (Value.int (Int32.ofInt (b))), (Value.int (Int32.ofInt (c))), vU], [], zS (eV V) J tg) (some (Value.int (Int32.ofInt v)), zS (eV U) J tg) ∧ Runs (GW L xs) 40 256 (0, [.ref 93, (Value.int (Int32.ofInt (a))), (Value.int (Int32.ofInt (b))), (Value.int (Int32.ofInt (c))), vU, vU], [], zS (eV U) J tg) (some (Value.int (Int32.ofInt v)), zS (eV W) J1 tg) ∧ INV W := by
  have h0 := h
  obtain ⟨hR, ⟨hA, hB, hC, hD, hE, hF, hH⟩, h2, h3, h4, h5⟩ := h
  have rD : 0 ≤ V 1 0 ∧ V 1 0 ≤ 12 := hR 1 0 (by decide) (by decide)
  have rT : 0 ≤ V 1 1 ∧ V 1 1 ≤ 12 := hR 1 1 (by decide) (by decide)
  have r2 : 0 ≤ V 18 2 ∧ V 18 2 ≤ 10 := hR 18 2 (by decide) (by decide)
  obtain ⟨k, hk⟩ : ∃ k : Nat, V 18 2 = k := ⟨(V 18 2).toNat, by omega⟩
  have h945 : V 94 5 = k := by rw [← hk]; exact hH.1.2.2.1
  have hl : ∀ i, i < k → V 94 (800 + i) = V 19 i := fun i hi => hH.2.1 i (by omega)
  have hr19 : ∀ i, 0 ≤ V 19 i ∧ V 19 i ≤ 179 := fun i => hR 19 i (by decide) (by decide)
  by_cases g1 : (0 ≤ a ∧ a ≤ 4) ∧ (0 ≤ b ∧ b ≤ 8) ∧ (0 ≤ c ∧ c ≤ 3)
  · have hv : 0 ≤ (a * 9 + b) * 4 + c ∧ (a * 9 + b) * 4 + c ≤ 179 := by omega
    generalize hvv : (a * 9 + b) * 4 + c = v at hv
    have kc : ∀ {d} {X : Nat → Nat → Int} {J : Nat → Nat → Int64}, Runs (GW L xs) (d) 169 (0, [(Value.int (Int32.ofInt (a))), (Value.int (Int32.ofInt (b))), (Value.int (Int32.ofInt (c)))], [], zS (eV (X)) J tg) (some (Value.int (Int32.ofInt (v))), zS (eV (X)) J tg) := by intro d X J; rw [← hvv]; exact k_169
    have km : ∀ {d} {X : Nat → Nat → Int} {J : Nat → Nat → Int64}, Runs (GW L xs) (d) 187 (0, [(Value.int (Int32.ofInt (a))), (Value.int (Int32.ofInt (b))), (Value.int (Int32.ofInt (c)))], [], zS (eV (X)) J tg) (some (Value.int (Int32.ofInt (v))), zS (eV (X)) J tg) := by intro d X J; rw [← hvv]; exact k_187
    have kh := k_173_19 (L := L) (xs := xs) (J := J) (tg := tg) (d := 39) (V := V) (f := 0) (n := k) (v := v) (by omega) (by omega) (fun i _ => by have := hr19 (0 + i); omega)
    simp only [Nat.zero_add] at kh
    by_cases g2 : k < 10
    · by_cases g3 : inL (fun i => V 19 i) v k = true
      · refine ⟨-1, V, V, J, ?_, ?_, h0⟩
        · apply sg_136
          refine ⟨_, _, k_167 ha hb hc, ?_⟩
          simp (disch := omega) only [hk, w_eq, w_nc, w_ne2, eV_at, eV_up, o_lit2, o_add, o_sub, o_mul, o_neg, o_div, o_nat, ix_t, o_lt, o_le, o_eq, o_bi0, o_bi1, o_bib, em_t, o_neg1, o_shl, o_tb, o_tb0, o_tt, o_and, o_xor, o_or, o_max, o_min, an_tb, and_true, true_and, not_true, not_false, if_true, if_false, tn_add, tn_mul, Int.reduceToNat, tn_cast, md_x]
          rw [if_neg (fun q => q (by assumption))]
          rw [if_pos (by omega)]
          refine ⟨_, _, kc, ?_⟩
          simp (disch := omega) only [hk, w_eq, w_nc, w_ne2, eV_at, eV_up, o_lit2, o_add, o_sub, o_mul, o_neg, o_div, o_nat, ix_t, o_lt, o_le, o_eq, o_bi0, o_bi1, o_bib, em_t, o_neg1, o_shl, o_tb, o_tb0, o_tt, o_and, o_xor, o_or, o_max, o_min, an_tb, and_true, true_and, not_true, not_false, if_true, if_false, tn_add, tn_mul, Int.reduceToNat, tn_cast, md_x]
          refine ⟨_, _, kh, ?_⟩
          simp (disch := omega) only [hk, w_eq, w_nc, w_ne2, eV_at, eV_up, o_lit2, o_add, o_sub, o_mul, o_neg, o_div, o_nat, ix_t, o_lt, o_le, o_eq, o_bi0, o_bi1, o_bib, em_t, o_neg1, o_shl, o_tb, o_tb0, o_tt, o_and, o_xor, o_or, o_max, o_min, an_tb, and_true, true_and, not_true, not_false, if_true, if_false, tn_add, tn_mul, Int.reduceToNat, tn_cast, md_x]
          rw [if_neg (fun q => q (by assumption))] <;> trivial
        · apply sg_256
          refine ⟨_, _, _, k_183 ha hb hc, ?_⟩
          simp (disch := omega) only [h945, w_eq, w_nc, w_ne2, eV_at, eV_up, o_lit2, o_add, o_sub, o_mul, o_neg, o_div, o_nat, ix_t, o_lt, o_le, o_eq, o_bi0, o_bi1, o_bib, em_t, o_neg1, o_shl, o_tb, o_tb0, o_tt, o_and, o_xor, o_or, o_max, o_min, an_tb, and_true, true_and, not_true, not_false, if_true, if_false, tn_add, tn_mul, Int.reduceToNat, tn_cast, md_x]
          rw [if_neg (fun q => q (by assumption))]
          rw [if_neg (by omega)]
          refine ⟨_, _, _, km, ?_⟩
          exact k_256t h945 (by omega) hv (fun i hi => by rw [hl i hi]; exact hr19 i) (by rw [inL_cg (g := fun i => V 19 i) hl]; exact g3)
      · have e : ∀ x, x ≠ 18 ∧ x ≠ 19 → (up2 (up2 V 19 k v) 18 2 (k + 1)) x = V x := fun x q => by rw [w_ne _ _ _ _ q.1, w_ne _ _ _ _ q.2]
        have hRU : RNG (up2 (up2 V 19 k v) 18 2 (k + 1)) := (hR.up (c := 19) (p := k) (z := v) hv).up (c := 18) (p := 2) (z := k + 1) (by show (0 : Int) ≤ _ ∧ _ ≤ (10 : Int); omega)
        have e94 : (up2 (up2 V 19 k v) 18 2 (k + 1)) 94 = V 94 := e 94 (by omega)
        refine ⟨k + 1, up2 (up2 V 19 k v) 18 2 (k + 1), up2 (up2 (up2 (up2 V 19 k v) 18 2 (k + 1)) 94 (800 + k) v) 94 5 (k + 1), J, ?_, ?_, ?_⟩
        · apply sg_136
          refine ⟨_, _, k_167 ha hb hc, ?_⟩
          simp (disch := omega) only [hk, w_eq, w_nc, w_ne2, eV_at, eV_up, o_lit2, o_add, o_sub, o_mul, o_neg, o_div, o_nat, ix_t, o_lt, o_le, o_eq, o_bi0, o_bi1, o_bib, em_t, o_neg1, o_shl, o_tb, o_tb0, o_tt, o_and, o_xor, o_or, o_max, o_min, an_tb, and_true, true_and, not_true, not_false, if_true, if_false, tn_add, tn_mul, Int.reduceToNat, tn_cast, md_x]
          rw [if_neg (fun q => q (by assumption))]
          rw [if_pos (by omega)]
          refine ⟨_, _, kc, ?_⟩
          simp (disch := omega) only [hk, w_eq, w_nc, w_ne2, eV_at, eV_up, o_lit2, o_add, o_sub, o_mul, o_neg, o_div, o_nat, ix_t, o_lt, o_le, o_eq, o_bi0, o_bi1, o_bib, em_t, o_neg1, o_shl, o_tb, o_tb0, o_tt, o_and, o_xor, o_or, o_max, o_min, an_tb, and_true, true_and, not_true, not_false, if_true, if_false, tn_add, tn_mul, Int.reduceToNat, tn_cast, md_x]
          refine ⟨_, _, kh, ?_⟩
          simp (disch := omega) only [hk, w_eq, w_nc, w_ne2, eV_at, eV_up, o_lit2, o_add, o_sub, o_mul, o_neg, o_div, o_nat, ix_t, o_lt, o_le, o_eq, o_bi0, o_bi1, o_bib, em_t, o_neg1, o_shl, o_tb, o_tb0, o_tt, o_and, o_xor, o_or, o_max, o_min, an_tb, and_true, true_and, not_true, not_false, if_true, if_false, tn_add, tn_mul, Int.reduceToNat, tn_cast, md_x]
          rw [if_pos g3] <;> trivial
        · apply sg_256
          refine ⟨_, _, _, k_183 ha hb hc, ?_⟩
          simp (disch := omega) only [h945, w_eq, w_nc, w_ne2, eV_at, eV_up, o_lit2, o_add, o_sub, o_mul, o_neg, o_div, o_nat, ix_t, o_lt, o_le, o_eq, o_bi0, o_bi1, o_bib, em_t, o_neg1, o_shl, o_tb, o_tb0, o_tt, o_and, o_xor, o_or, o_max, o_min, an_tb, and_true, true_and, not_true, not_false, if_true, if_false, tn_add, tn_mul, Int.reduceToNat, tn_cast, md_x]
          rw [if_neg (fun q => q (by assumption))]
          rw [if_neg (by omega)]
          refine ⟨_, _, _, km, ?_⟩
          exact k_256f (by rw [e94]; exact h945) (by omega) hv (fun i hi => by rw [e94, hl i hi]; exact hr19 i) (by rw [e94, inL_cg (g := fun i => V 19 i) hl]; exact g3)
        · have f : ∀ x, x ≠ 18 ∧ x ≠ 19 ∧ x ≠ 94 → (up2 (up2 (up2 (up2 V 19 k v) 18 2 (k + 1)) 94 (800 + k) v) 94 5 (k + 1)) x = V x := fun x q => by rw [w_ne _ _ _ _ q.2.2, w_ne _ _ _ _ q.2.2]; exact e x ⟨q.1, q.2.1⟩
          have f18 : ∀ x, (up2 (up2 (up2 (up2 V 19 k v) 18 2 (k + 1)) 94 (800 + k) v) 94 5 (k + 1)) 18 x = if x = 2 then (k : Int) + 1 else V 18 x := fun x => by rw [w_ne _ _ _ _ (by decide), w_ne _ _ _ _ (by decide), w_at, w_ne _ _ _ _ (by decide)]
          have f19 : ∀ x, (up2 (up2 (up2 (up2 V 19 k v) 18 2 (k + 1)) 94 (800 + k) v) 94 5 (k + 1)) 19 x = if x = k then v else V 19 x := fun x => by rw [w_ne _ _ _ _ (by decide), w_ne _ _ _ _ (by decide), w_ne _ _ _ _ (by decide), w_at]
          have f94 : ∀ p, p ≠ 5 ∧ p ≠ 800 + k → (up2 (up2 (up2 (up2 V 19 k v) 18 2 (k + 1)) 94 (800 + k) v) 94 5 (k + 1)) 94 p = V 94 p := fun p q => by rw [w_at, if_neg q.1, w_at, if_neg q.2, e94]
          have f94a : (up2 (up2 (up2 (up2 V 19 k v) 18 2 (k + 1)) 94 (800 + k) v) 94 5 (k + 1)) 94 5 = k + 1 := w_eq _ _ _ _
          have f94b : (up2 (up2 (up2 (up2 V 19 k v) 18 2 (k + 1)) 94 (800 + k) v) 94 5 (k + 1)) 94 (800 + k) = v := by rw [w_at, if_neg (by omega), w_eq]
          have hRW : RNG (up2 (up2 (up2 (up2 V 19 k v) 18 2 (k + 1)) 94 (800 + k) v) 94 5 (k + 1)) := (hRU.upn (by decide)).upn (by decide)
          generalize (up2 (up2 (up2 (up2 V 19 k v) 18 2 (k + 1)) 94 (800 + k) v) 94 5 (k + 1)) = W at *
          refine ⟨hRW, ⟨(hA.up (fun p _ => by rw [f 1 (by omega)]) (fun p q => f94 p (by omega))), (hB.up hR (by rw [f 1 (by omega)]) (by rw [f 1 (by omega)]) (f 2 (by omega)) (f 3 (by omega)) (f 4 (by omega)) (fun l w _ _ => f94 _ (by omega))), (hC.up hR (by rw [f 1 (by omega)]) (f 5 (by omega)) (f 6 (by omega)) (f 12 (by omega)) (fun l w _ _ => f94 _ (by omega)) (fun k _ => f94 _ (by omega))), (hD.up (by rw [f 1 (by omega)]) (by rw [f 1 (by omega)]) (f 3 (by omega)) (f 4 (by omega)) (f 5 (by omega)) (f 6 (by omega)) (f 12 (by omega))), (hE.up (by rw [f 1 (by omega)]) (f 7 (by omega)) (f 8 (by omega)) (f 9 (by omega)) (f 10 (by omega)) (f 11 (by omega)) (fun p _ => f94 _ (by omega))), (hF.up hR (by rw [f 1 (by omega)]) (by rw [f 1 (by omega)]) (by rw [f 7 (by omega)]) (fun x _ _ => f x (by omega)) (fun p _ => f94 _ (by omega))), ?_⟩, (h2.fr fun x _ => f x (by omega)), (h3.up (f 1 (by omega)) (f 2 (by omega)) (f 3 (by omega)) (f 4 (by omega)) (f 71 (by omega)) (f 81 (by omega))), (h4.fr (fun x _ => f x (by omega)) (by rw [f 93 (by omega)]) (by rw [f 93 (by omega)]) (by rw [f 93 (by omega)])), (⟨by rw [f 63 (by omega), f 50 (by omega), f 54 (by omega), f 58 (by omega), f 62 (by omega)]; exact h5.1, by rw [f 40 (by omega), f18]; exact h5.2.1, fun i hi => by rw [f18] at hi; have hi2 : (i : Int) < V 18 0 := hi; have r0 : 0 ≤ V 18 0 ∧ V 18 0 ≤ 4 := hR 18 0 (by decide) (by decide); exact (h5.2.2 i hi2).fr (by omega) fun x _ => f x (by omega)⟩)⟩
          obtain ⟨e1, e2, e3, e4⟩ := hH
          refine ⟨?_, fun j hj => ?_, fun s hs => ?_, fun j hj => ?_⟩
          · rw [f94 3 (by omega), f94 4 (by omega), f94 6 (by omega), f94a, f18, f18, f18, f18]
            exact ⟨e1.1, e1.2.1, rfl, e1.2.2.2.1, e1.2.2.2.2⟩
          · rw [f18, if_pos rfl] at hj
            have f19' : W (18 + 1) j = if j = k then v else V 19 j := f19 j
            rw [f19']
            by_cases q : j = k
            · subst q; rw [if_pos rfl]; exact f94b
            · rw [if_neg q, f94 _ (by omega)]; exact e2 j (by rw [hk]; omega)
          · have r3 : 0 ≤ V 21 s ∧ V 21 s ≤ 4 := hR 21 s (by decide) (by decide)
            obtain ⟨q1, q2⟩ := e3 s hs
            rw [f94 _ (by omega), f (18 + 3) (by omega), f 1 (by omega), f (18 + 2) (by omega)]
            refine ⟨q1, fun i hi => ?_⟩
            rw [f94 _ (by omega)]; exact q2 i hi
          · rw [f18] at hj
            have hj' : (j : Int) < V 18 3 := hj
            rw [f94 _ (by omega), f (18 + 4) (by omega), f 1 (by omega)]; exact e4 j hj'
    · refine ⟨-1, V, V, J, ?_, ?_, h0⟩
      · apply sg_136
        refine ⟨_, _, k_167 ha hb hc, ?_⟩
        simp (disch := omega) only [hk, w_eq, w_nc, w_ne2, eV_at, eV_up, o_lit2, o_add, o_sub, o_mul, o_neg, o_div, o_nat, ix_t, o_lt, o_le, o_eq, o_bi0, o_bi1, o_bib, em_t, o_neg1, o_shl, o_tb, o_tb0, o_tt, o_and, o_xor, o_or, o_max, o_min, an_tb, and_true, true_and, not_true, not_false, if_true, if_false, tn_add, tn_mul, Int.reduceToNat, tn_cast, md_x]
        rw [if_neg (fun q => q (by assumption))]
        rw [if_neg (by omega)] <;> trivial
      · apply sg_256
        refine ⟨_, _, _, k_183 ha hb hc, ?_⟩
        simp (disch := omega) only [h945, w_eq, w_nc, w_ne2, eV_at, eV_up, o_lit2, o_add, o_sub, o_mul, o_neg, o_div, o_nat, ix_t, o_lt, o_le, o_eq, o_bi0, o_bi1, o_bib, em_t, o_neg1, o_shl, o_tb, o_tb0, o_tt, o_and, o_xor, o_or, o_max, o_min, an_tb, and_true, true_and, not_true, not_false, if_true, if_false, tn_add, tn_mul, Int.reduceToNat, tn_cast, md_x]
        rw [if_neg (fun q => q (by assumption))]
        rw [if_pos (by omega)] <;> trivial
  · refine ⟨-1, V, V, J, ?_, ?_, h0⟩
    · apply sg_136
      refine ⟨_, _, k_167 ha hb hc, ?_⟩
      simp (disch := omega) only [eV_at, eV_up, o_lit2, o_add, o_sub, o_mul, o_neg, o_div, o_nat, ix_t, o_lt, o_le, o_eq, o_bi0, o_bi1, o_bib, em_t, o_neg1, o_shl, o_tb, o_tb0, o_tt, o_and, o_xor, o_or, o_max, o_min, an_tb, and_true, true_and, not_true, not_false, if_true, if_false, tn_add, tn_mul, Int.reduceToNat, tn_cast, md_x]
      rw [if_pos (by assumption)] <;> trivial
    · apply sg_256
      refine ⟨_, _, _, k_183 ha hb hc, ?_⟩
      simp (disch := omega) only [eV_at, eV_up, o_lit2, o_add, o_sub, o_mul, o_neg, o_div, o_nat, ix_t, o_lt, o_le, o_eq, o_bi0, o_bi1, o_bib, em_t, o_neg1, o_shl, o_tb, o_tb0, o_tt, o_and, o_xor, o_or, o_max, o_min, an_tb, and_true, true_and, not_true, not_false, if_true, if_false, tn_add, tn_mul, Int.reduceToNat, tn_cast, md_x]
      rw [if_pos (by assumption)] <;> trivial
theorem c_candidate {L : Nat} {xs : Nat → Int32} {V : Nat → Nat → Int} {J : Nat → Nat → Int64} {tg : Option Nat} (h : INV V) {a b : Int} (ha : (-2147483648 ≤ a ∧ a < 2147483648)) (hb : (-2147483648 ≤ b ∧ b < 2147483648)) : ∃ (v : Int) (U W : Nat → Nat → Int) (J1 : Nat → Nat → Int64), Runs (GW L xs) 40 139 (0, [.ref 0, (Value.int (Int32.ofInt (a))), (Value.int (Int32.ofInt (b))), vU], [], zS (eV V) J tg) (some (Value.int (Int32.ofInt v)), zS (eV U) J tg) ∧ Runs (GW L xs) 40 262 (0, [.ref 93, (Value.int (Int32.ofInt (a))), (Value.int (Int32.ofInt (b))), vU], [], zS (eV U) J tg) (some (Value.int (Int32.ofInt v)), zS (eV W) J1 tg) ∧ INV W := by
  have h0 := h
  obtain ⟨hR, ⟨hA, hB, hC, hD, hE, hF, hH⟩, h2, h3, h4, h5⟩ := h
  have rD : 0 ≤ V 1 0 ∧ V 1 0 ≤ 12 := hR 1 0 (by decide) (by decide)
  have rT : 0 ≤ V 1 1 ∧ V 1 1 ≤ 12 := hR 1 1 (by decide) (by decide)
  by_cases g1 : 0 ≤ a ∧ a ≤ 5
  · by_cases g2 : 0 ≤ b ∧ b < V 1 0
    · obtain ⟨s, rfl⟩ : ∃ s : Nat, a = s := ⟨a.toNat, by omega⟩
      obtain ⟨n, rfl⟩ : ∃ n : Nat, b = n := ⟨b.toNat, by omega⟩
      have r2 : 0 ≤ V 21 s ∧ V 21 s ≤ 4 := hR 21 s (by decide) (by decide)
      obtain ⟨k, hk⟩ : ∃ k : Nat, V 21 s = k := ⟨(V 21 s).toNat, by omega⟩
      have hs6 : s < 6 := by omega
      obtain ⟨p1, p2⟩ := hH.2.2.1 s hs6
      have h945 : V 94 (840 + s) = k := by rw [← hk]; exact p1
      have hl : ∀ i, i < k → V 94 (850 + 4 * s + i) = V 20 (s * 4 + i) := fun i hi => (p2 i (by show (i : Int) < V 21 s; omega)).1
      have hr20 : ∀ i, 0 ≤ V 20 i ∧ V 20 i ≤ 11 := fun i => hR 20 i (by decide) (by decide)
      by_cases g3 : k < 4
      · have kh := k_173_20 (L := L) (xs := xs) (J := J) (tg := tg) (d := 39) (V := V) (f := s * 4) (n := k) (v := n) (by omega) (by omega) (fun i _ => by have := hr20 (s * 4 + i); omega)
        by_cases g4 : inL (fun i => V 20 (s * 4 + i)) n k = true
        · refine ⟨-1, V, V, J, ?_, ?_, h0⟩
          · apply sg_139
            simp (disch := omega) only [eV_at, eV_up, o_lit2, o_add, o_sub, o_mul, o_neg, o_div, o_nat, ix_t, o_lt, o_le, o_eq, o_bi0, o_bi1, o_bib, em_t, o_neg1, o_shl, o_tb, o_tb0, o_tt, o_and, o_xor, o_or, o_max, o_min, an_tb, and_true, true_and, not_true, not_false, if_true, if_false, tn_add, tn_mul, Int.reduceToNat, tn_cast, md_x]
            refine ⟨_, _, k_164 ha (by omega) (by omega), ?_⟩
            simp (disch := omega) only [eV_at, eV_up, o_lit2, o_add, o_sub, o_mul, o_neg, o_div, o_nat, ix_t, o_lt, o_le, o_eq, o_bi0, o_bi1, o_bib, em_t, o_neg1, o_shl, o_tb, o_tb0, o_tt, o_and, o_xor, o_or, o_max, o_min, an_tb, and_true, true_and, not_true, not_false, if_true, if_false, tn_add, tn_mul, Int.reduceToNat, tn_cast, md_x]
            rw [if_neg (fun q => q (by assumption))]
            refine ⟨_, _, k_44 hR hb, ?_⟩
            simp (disch := omega) only [hk, w_eq, w_nc, w_ne2, eV_at, eV_up, o_lit2, o_add, o_sub, o_mul, o_neg, o_div, o_nat, ix_t, o_lt, o_le, o_eq, o_bi0, o_bi1, o_bib, em_t, o_neg1, o_shl, o_tb, o_tb0, o_tt, o_and, o_xor, o_or, o_max, o_min, an_tb, and_true, true_and, not_true, not_false, if_true, if_false, tn_add, tn_mul, Int.reduceToNat, tn_cast, md_x]
            rw [if_neg (fun q => q (by assumption))]
            rw [if_neg (by omega)]
            refine ⟨_, _, kh, ?_⟩
            simp (disch := omega) only [hk, w_eq, w_nc, w_ne2, eV_at, eV_up, o_lit2, o_add, o_sub, o_mul, o_neg, o_div, o_nat, ix_t, o_lt, o_le, o_eq, o_bi0, o_bi1, o_bib, em_t, o_neg1, o_shl, o_tb, o_tb0, o_tt, o_and, o_xor, o_or, o_max, o_min, an_tb, and_true, true_and, not_true, not_false, if_true, if_false, tn_add, tn_mul, Int.reduceToNat, tn_cast, md_x]
            rw [if_neg (fun q => q (by assumption))] <;> trivial
          · apply sg_262
            refine ⟨_, _, _, k_182 ha, ?_⟩
            simp (disch := omega) only [eV_at, eV_up, o_lit2, o_add, o_sub, o_mul, o_neg, o_div, o_nat, ix_t, o_lt, o_le, o_eq, o_bi0, o_bi1, o_bib, em_t, o_neg1, o_shl, o_tb, o_tb0, o_tt, o_and, o_xor, o_or, o_max, o_min, an_tb, and_true, true_and, not_true, not_false, if_true, if_false, tn_add, tn_mul, Int.reduceToNat, tn_cast, md_x]
            rw [if_neg (fun q => q (by assumption))]
            refine ⟨_, _, _, m_179 hR hA hb, ?_⟩
            simp (disch := omega) only [h945, w_eq, w_nc, w_ne2, eV_at, eV_up, o_lit2, o_add, o_sub, o_mul, o_neg, o_div, o_nat, ix_t, o_lt, o_le, o_eq, o_bi0, o_bi1, o_bib, em_t, o_neg1, o_shl, o_tb, o_tb0, o_tt, o_and, o_xor, o_or, o_max, o_min, an_tb, and_true, true_and, not_true, not_false, if_true, if_false, tn_add, tn_mul, Int.reduceToNat, tn_cast, md_x]
            rw [if_neg (fun q => q (by assumption))]
            rw [if_neg (by omega)]
            exact k_262t hs6 h945 (by omega) (by omega) (fun i hi => by rw [hl i hi]; exact hr20 _) (by rw [inL_cg (g := fun i => V 20 (s * 4 + i)) hl]; exact g4)
        · have e : ∀ x, x ≠ 20 ∧ x ≠ 21 → (up2 (up2 V 20 (s * 4 + k) n) 21 s (k + 1)) x = V x := fun x q => by rw [w_ne _ _ _ _ q.2, w_ne _ _ _ _ q.1]
          have hRU : RNG (up2 (up2 V 20 (s * 4 + k) n) 21 s (k + 1)) := (hR.up (c := 20) (p := s * 4 + k) (z := n) (by show (0 : Int) ≤ _ ∧ _ ≤ (11 : Int); omega)).up (c := 21) (p := s) (z := k + 1) (by show (0 : Int) ≤ _ ∧ _ ≤ (4 : Int); omega)
          have hAU : RA (up2 (up2 V 20 (s * 4 + k) n) 21 s (k + 1)) 1 94 := hA.up (fun p _ => by rw [e 1 (by omega)]) (fun p _ => by rw [e 94 (by omega)])
          have e94 : (up2 (up2 V 20 (s * 4 + k) n) 21 s (k + 1)) 94 = V 94 := e 94 (by omega)
          have g2' : 0 ≤ (n : Int) ∧ (n : Int) < (up2 (up2 V 20 (s * 4 + k) n) 21 s (k + 1)) 1 0 := by rw [e 1 (by omega)]; exact g2
          refine ⟨k + 1, up2 (up2 V 20 (s * 4 + k) n) 21 s (k + 1), up2 (up2 (up2 (up2 V 20 (s * 4 + k) n) 21 s (k + 1)) 94 (850 + 4 * s + k) n) 94 (840 + s) (k + 1), J, ?_, ?_, ?_⟩
          · apply sg_139
            simp (disch := omega) only [eV_at, eV_up, o_lit2, o_add, o_sub, o_mul, o_neg, o_div, o_nat, ix_t, o_lt, o_le, o_eq, o_bi0, o_bi1, o_bib, em_t, o_neg1, o_shl, o_tb, o_tb0, o_tt, o_and, o_xor, o_or, o_max, o_min, an_tb, and_true, true_and, not_true, not_false, if_true, if_false, tn_add, tn_mul, Int.reduceToNat, tn_cast, md_x]
            refine ⟨_, _, k_164 ha (by omega) (by omega), ?_⟩
            simp (disch := omega) only [eV_at, eV_up, o_lit2, o_add, o_sub, o_mul, o_neg, o_div, o_nat, ix_t, o_lt, o_le, o_eq, o_bi0, o_bi1, o_bib, em_t, o_neg1, o_shl, o_tb, o_tb0, o_tt, o_and, o_xor, o_or, o_max, o_min, an_tb, and_true, true_and, not_true, not_false, if_true, if_false, tn_add, tn_mul, Int.reduceToNat, tn_cast, md_x]
            rw [if_neg (fun q => q (by assumption))]
            refine ⟨_, _, k_44 hR hb, ?_⟩
            simp (disch := omega) only [hk, w_eq, w_nc, w_ne2, eV_at, eV_up, o_lit2, o_add, o_sub, o_mul, o_neg, o_div, o_nat, ix_t, o_lt, o_le, o_eq, o_bi0, o_bi1, o_bib, em_t, o_neg1, o_shl, o_tb, o_tb0, o_tt, o_and, o_xor, o_or, o_max, o_min, an_tb, and_true, true_and, not_true, not_false, if_true, if_false, tn_add, tn_mul, Int.reduceToNat, tn_cast, md_x]
            rw [if_neg (fun q => q (by assumption))]
            rw [if_neg (by omega)]
            refine ⟨_, _, kh, ?_⟩
            simp (disch := omega) only [hk, w_eq, w_nc, w_ne2, eV_at, eV_up, o_lit2, o_add, o_sub, o_mul, o_neg, o_div, o_nat, ix_t, o_lt, o_le, o_eq, o_bi0, o_bi1, o_bib, em_t, o_neg1, o_shl, o_tb, o_tb0, o_tt, o_and, o_xor, o_or, o_max, o_min, an_tb, and_true, true_and, not_true, not_false, if_true, if_false, tn_add, tn_mul, Int.reduceToNat, tn_cast, md_x]
            rw [if_pos g4] <;> trivial
          · apply sg_262
            refine ⟨_, _, _, k_182 ha, ?_⟩
            simp (disch := omega) only [eV_at, eV_up, o_lit2, o_add, o_sub, o_mul, o_neg, o_div, o_nat, ix_t, o_lt, o_le, o_eq, o_bi0, o_bi1, o_bib, em_t, o_neg1, o_shl, o_tb, o_tb0, o_tt, o_and, o_xor, o_or, o_max, o_min, an_tb, and_true, true_and, not_true, not_false, if_true, if_false, tn_add, tn_mul, Int.reduceToNat, tn_cast, md_x]
            rw [if_neg (fun q => q (by assumption))]
            refine ⟨_, _, _, m_179 hRU hAU hb, ?_⟩
            simp (disch := omega) only [h945, w_eq, w_nc, w_ne2, eV_at, eV_up, o_lit2, o_add, o_sub, o_mul, o_neg, o_div, o_nat, ix_t, o_lt, o_le, o_eq, o_bi0, o_bi1, o_bib, em_t, o_neg1, o_shl, o_tb, o_tb0, o_tt, o_and, o_xor, o_or, o_max, o_min, an_tb, and_true, true_and, not_true, not_false, if_true, if_false, tn_add, tn_mul, Int.reduceToNat, tn_cast, md_x]
            rw [if_neg (fun q => q (by assumption))]
            rw [if_neg (by omega)]
            exact k_262f hs6 (by rw [e94]; exact h945) (by omega) (by omega) (fun i hi => by rw [e94, hl i hi]; exact hr20 _) (by rw [e94, inL_cg (g := fun i => V 20 (s * 4 + i)) hl]; exact g4)
          · have f : ∀ x, x ≠ 20 ∧ x ≠ 21 ∧ x ≠ 94 → (up2 (up2 (up2 (up2 V 20 (s * 4 + k) n) 21 s (k + 1)) 94 (850 + 4 * s + k) n) 94 (840 + s) (k + 1)) x = V x := fun x q => by rw [w_ne _ _ _ _ q.2.2, w_ne _ _ _ _ q.2.2]; exact e x ⟨q.1, q.2.1⟩
            have f21 : ∀ x, (up2 (up2 (up2 (up2 V 20 (s * 4 + k) n) 21 s (k + 1)) 94 (850 + 4 * s + k) n) 94 (840 + s) (k + 1)) 21 x = if x = s then (k : Int) + 1 else V 21 x := fun x => by rw [w_ne _ _ _ _ (by decide), w_ne _ _ _ _ (by decide), w_at, w_ne _ _ _ _ (by decide)]
            have f20 : ∀ x, (up2 (up2 (up2 (up2 V 20 (s * 4 + k) n) 21 s (k + 1)) 94 (850 + 4 * s + k) n) 94 (840 + s) (k + 1)) 20 x = if x = s * 4 + k then (n : Int) else V 20 x := fun x => by rw [w_ne _ _ _ _ (by decide), w_ne _ _ _ _ (by decide), w_ne _ _ _ _ (by decide), w_at]
            have f94 : ∀ p, p ≠ 840 + s ∧ p ≠ 850 + 4 * s + k → (up2 (up2 (up2 (up2 V 20 (s * 4 + k) n) 21 s (k + 1)) 94 (850 + 4 * s + k) n) 94 (840 + s) (k + 1)) 94 p = V 94 p := fun p q => by rw [w_at, if_neg q.1, w_at, if_neg q.2, e94]
            have f94a : (up2 (up2 (up2 (up2 V 20 (s * 4 + k) n) 21 s (k + 1)) 94 (850 + 4 * s + k) n) 94 (840 + s) (k + 1)) 94 (840 + s) = k + 1 := w_eq _ _ _ _
            have f94b : (up2 (up2 (up2 (up2 V 20 (s * 4 + k) n) 21 s (k + 1)) 94 (850 + 4 * s + k) n) 94 (840 + s) (k + 1)) 94 (850 + 4 * s + k) = n := by rw [w_at, if_neg (by omega), w_eq]
            have hRW : RNG (up2 (up2 (up2 (up2 V 20 (s * 4 + k) n) 21 s (k + 1)) 94 (850 + 4 * s + k) n) 94 (840 + s) (k + 1)) := (hRU.upn (by decide)).upn (by decide)
            generalize (up2 (up2 (up2 (up2 V 20 (s * 4 + k) n) 21 s (k + 1)) 94 (850 + 4 * s + k) n) 94 (840 + s) (k + 1)) = W at *
            refine ⟨hRW, ⟨(hA.up (fun p _ => by rw [f 1 (by omega)]) (fun p q => f94 p (by omega))), (hB.up hR (by rw [f 1 (by omega)]) (by rw [f 1 (by omega)]) (f 2 (by omega)) (f 3 (by omega)) (f 4 (by omega)) (fun l w _ _ => f94 _ (by omega))), (hC.up hR (by rw [f 1 (by omega)]) (f 5 (by omega)) (f 6 (by omega)) (f 12 (by omega)) (fun l w _ _ => f94 _ (by omega)) (fun k _ => f94 _ (by omega))), (hD.up (by rw [f 1 (by omega)]) (by rw [f 1 (by omega)]) (f 3 (by omega)) (f 4 (by omega)) (f 5 (by omega)) (f 6 (by omega)) (f 12 (by omega))), (hE.up (by rw [f 1 (by omega)]) (f 7 (by omega)) (f 8 (by omega)) (f 9 (by omega)) (f 10 (by omega)) (f 11 (by omega)) (fun p _ => f94 _ (by omega))), (hF.up hR (by rw [f 1 (by omega)]) (by rw [f 1 (by omega)]) (by rw [f 7 (by omega)]) (fun x _ _ => f x (by omega)) (fun p _ => f94 _ (by omega))), ?_⟩, (h2.fr fun x _ => f x (by omega)), (h3.up (f 1 (by omega)) (f 2 (by omega)) (f 3 (by omega)) (f 4 (by omega)) (f 71 (by omega)) (f 81 (by omega))), (h4.fr (fun x _ => f x (by omega)) (by rw [f 93 (by omega)]) (by rw [f 93 (by omega)]) (by rw [f 93 (by omega)])), (h5.fr hR fun x _ => f x (by omega))⟩
            obtain ⟨e1, e2, e3, e4⟩ := hH
            refine ⟨?_, fun j hj => ?_, fun i hi => ?_, fun j hj => ?_⟩
            · rw [f94 3 (by omega), f94 4 (by omega), f94 5 (by omega), f94 6 (by omega), f 18 (by omega)]; exact e1
            · rw [f 18 (by omega)] at hj
              have r5 : 0 ≤ V 18 2 ∧ V 18 2 ≤ 10 := hR 18 2 (by decide) (by decide)
              rw [f94 _ (by omega), f (18 + 1) (by omega)]; exact e2 j hj
            · have r3 : 0 ≤ V 21 i ∧ V 21 i ≤ 4 := hR 21 i (by decide) (by decide)
              have f21' : W (18 + 3) i = if i = s then (k : Int) + 1 else V 21 i := f21 i
              have f20' : ∀ x, W (18 + 2) x = if x = s * 4 + k then (n : Int) else V 20 x := f20
              obtain ⟨q1, q2⟩ := e3 i hi
              rw [f21', f 1 (by omega)]
              by_cases q : i = s
              · subst q; rw [if_pos rfl]
                refine ⟨f94a, fun j hj => ?_⟩
                rw [f20']
                by_cases q3 : j = k
                · subst q3; rw [if_pos rfl]; exact ⟨f94b, g2.2⟩
                · rw [if_neg (by omega), f94 _ (by omega)]; exact q2 j (by show (j : Int) < V 21 i; omega)
              · rw [if_neg q, f94 _ (by omega)]
                refine ⟨q1, fun j hj => ?_⟩
                rw [f20', if_neg (by omega), f94 _ (by omega)]; exact q2 j hj
            · rw [f 18 (by omega)] at hj
              rw [f94 _ (by omega), f (18 + 4) (by omega), f 1 (by omega)]; exact e4 j hj
      · refine ⟨-1, V, V, J, ?_, ?_, h0⟩
        · apply sg_139
          simp (disch := omega) only [eV_at, eV_up, o_lit2, o_add, o_sub, o_mul, o_neg, o_div, o_nat, ix_t, o_lt, o_le, o_eq, o_bi0, o_bi1, o_bib, em_t, o_neg1, o_shl, o_tb, o_tb0, o_tt, o_and, o_xor, o_or, o_max, o_min, an_tb, and_true, true_and, not_true, not_false, if_true, if_false, tn_add, tn_mul, Int.reduceToNat, tn_cast, md_x]
          refine ⟨_, _, k_164 ha (by omega) (by omega), ?_⟩
          simp (disch := omega) only [eV_at, eV_up, o_lit2, o_add, o_sub, o_mul, o_neg, o_div, o_nat, ix_t, o_lt, o_le, o_eq, o_bi0, o_bi1, o_bib, em_t, o_neg1, o_shl, o_tb, o_tb0, o_tt, o_and, o_xor, o_or, o_max, o_min, an_tb, and_true, true_and, not_true, not_false, if_true, if_false, tn_add, tn_mul, Int.reduceToNat, tn_cast, md_x]
          rw [if_neg (fun q => q (by assumption))]
          refine ⟨_, _, k_44 hR hb, ?_⟩
          simp (disch := omega) only [hk, w_eq, w_nc, w_ne2, eV_at, eV_up, o_lit2, o_add, o_sub, o_mul, o_neg, o_div, o_nat, ix_t, o_lt, o_le, o_eq, o_bi0, o_bi1, o_bib, em_t, o_neg1, o_shl, o_tb, o_tb0, o_tt, o_and, o_xor, o_or, o_max, o_min, an_tb, and_true, true_and, not_true, not_false, if_true, if_false, tn_add, tn_mul, Int.reduceToNat, tn_cast, md_x]
          rw [if_neg (fun q => q (by assumption))]
          rw [if_pos (by omega)] <;> trivial
        · apply sg_262
          refine ⟨_, _, _, k_182 ha, ?_⟩
          simp (disch := omega) only [eV_at, eV_up, o_lit2, o_add, o_sub, o_mul, o_neg, o_div, o_nat, ix_t, o_lt, o_le, o_eq, o_bi0, o_bi1, o_bib, em_t, o_neg1, o_shl, o_tb, o_tb0, o_tt, o_and, o_xor, o_or, o_max, o_min, an_tb, and_true, true_and, not_true, not_false, if_true, if_false, tn_add, tn_mul, Int.reduceToNat, tn_cast, md_x]
          rw [if_neg (fun q => q (by assumption))]
          refine ⟨_, _, _, m_179 hR hA hb, ?_⟩
          simp (disch := omega) only [h945, w_eq, w_nc, w_ne2, eV_at, eV_up, o_lit2, o_add, o_sub, o_mul, o_neg, o_div, o_nat, ix_t, o_lt, o_le, o_eq, o_bi0, o_bi1, o_bib, em_t, o_neg1, o_shl, o_tb, o_tb0, o_tt, o_and, o_xor, o_or, o_max, o_min, an_tb, and_true, true_and, not_true, not_false, if_true, if_false, tn_add, tn_mul, Int.reduceToNat, tn_cast, md_x]
          rw [if_neg (fun q => q (by assumption))]
          rw [if_pos (by omega)] <;> trivial
    · refine ⟨-1, V, V, J, ?_, ?_, h0⟩
      · apply sg_139
        simp (disch := omega) only [eV_at, eV_up, o_lit2, o_add, o_sub, o_mul, o_neg, o_div, o_nat, ix_t, o_lt, o_le, o_eq, o_bi0, o_bi1, o_bib, em_t, o_neg1, o_shl, o_tb, o_tb0, o_tt, o_and, o_xor, o_or, o_max, o_min, an_tb, and_true, true_and, not_true, not_false, if_true, if_false, tn_add, tn_mul, Int.reduceToNat, tn_cast, md_x]
        refine ⟨_, _, k_164 ha (by omega) (by omega), ?_⟩
        simp (disch := omega) only [eV_at, eV_up, o_lit2, o_add, o_sub, o_mul, o_neg, o_div, o_nat, ix_t, o_lt, o_le, o_eq, o_bi0, o_bi1, o_bib, em_t, o_neg1, o_shl, o_tb, o_tb0, o_tt, o_and, o_xor, o_or, o_max, o_min, an_tb, and_true, true_and, not_true, not_false, if_true, if_false, tn_add, tn_mul, Int.reduceToNat, tn_cast, md_x]
        rw [if_neg (fun q => q (by assumption))]
        refine ⟨_, _, k_44 hR hb, ?_⟩
        simp (disch := omega) only [eV_at, eV_up, o_lit2, o_add, o_sub, o_mul, o_neg, o_div, o_nat, ix_t, o_lt, o_le, o_eq, o_bi0, o_bi1, o_bib, em_t, o_neg1, o_shl, o_tb, o_tb0, o_tt, o_and, o_xor, o_or, o_max, o_min, an_tb, and_true, true_and, not_true, not_false, if_true, if_false, tn_add, tn_mul, Int.reduceToNat, tn_cast, md_x]
        rw [if_pos (by assumption)] <;> trivial
      · apply sg_262
        refine ⟨_, _, _, k_182 ha, ?_⟩
        simp (disch := omega) only [eV_at, eV_up, o_lit2, o_add, o_sub, o_mul, o_neg, o_div, o_nat, ix_t, o_lt, o_le, o_eq, o_bi0, o_bi1, o_bib, em_t, o_neg1, o_shl, o_tb, o_tb0, o_tt, o_and, o_xor, o_or, o_max, o_min, an_tb, and_true, true_and, not_true, not_false, if_true, if_false, tn_add, tn_mul, Int.reduceToNat, tn_cast, md_x]
        rw [if_neg (fun q => q (by assumption))]
        refine ⟨_, _, _, m_179 hR hA hb, ?_⟩
        simp (disch := omega) only [eV_at, eV_up, o_lit2, o_add, o_sub, o_mul, o_neg, o_div, o_nat, ix_t, o_lt, o_le, o_eq, o_bi0, o_bi1, o_bib, em_t, o_neg1, o_shl, o_tb, o_tb0, o_tt, o_and, o_xor, o_or, o_max, o_min, an_tb, and_true, true_and, not_true, not_false, if_true, if_false, tn_add, tn_mul, Int.reduceToNat, tn_cast, md_x]
        rw [if_pos (by assumption)] <;> trivial
  · refine ⟨-1, V, V, J, ?_, ?_, h0⟩
    · apply sg_139
      simp (disch := omega) only [eV_at, eV_up, o_lit2, o_add, o_sub, o_mul, o_neg, o_div, o_nat, ix_t, o_lt, o_le, o_eq, o_bi0, o_bi1, o_bib, em_t, o_neg1, o_shl, o_tb, o_tb0, o_tt, o_and, o_xor, o_or, o_max, o_min, an_tb, and_true, true_and, not_true, not_false, if_true, if_false, tn_add, tn_mul, Int.reduceToNat, tn_cast, md_x]
      refine ⟨_, _, k_164 ha (by omega) (by omega), ?_⟩
      simp (disch := omega) only [eV_at, eV_up, o_lit2, o_add, o_sub, o_mul, o_neg, o_div, o_nat, ix_t, o_lt, o_le, o_eq, o_bi0, o_bi1, o_bib, em_t, o_neg1, o_shl, o_tb, o_tb0, o_tt, o_and, o_xor, o_or, o_max, o_min, an_tb, and_true, true_and, not_true, not_false, if_true, if_false, tn_add, tn_mul, Int.reduceToNat, tn_cast, md_x]
      rw [if_pos (by assumption)] <;> trivial
    · apply sg_262
      refine ⟨_, _, _, k_182 ha, ?_⟩
      simp (disch := omega) only [eV_at, eV_up, o_lit2, o_add, o_sub, o_mul, o_neg, o_div, o_nat, ix_t, o_lt, o_le, o_eq, o_bi0, o_bi1, o_bib, em_t, o_neg1, o_shl, o_tb, o_tb0, o_tt, o_and, o_xor, o_or, o_max, o_min, an_tb, and_true, true_and, not_true, not_false, if_true, if_false, tn_add, tn_mul, Int.reduceToNat, tn_cast, md_x]
      rw [if_pos (by assumption)] <;> trivial
theorem c_end {L : Nat} {xs : Nat → Int32} {V : Nat → Nat → Int} {J : Nat → Nat → Int64} {tg : Option Nat} (h : INV V) {a : Int} (ha : (-2147483648 ≤ a ∧ a < 2147483648)) : ∃ (v : Int) (U W : Nat → Nat → Int) (J1 : Nat → Nat → Int64), Runs (GW L xs) 40 127 (0, [.ref 0, (Value.int (Int32.ofInt (a)))], [], zS (eV V) J tg) (some (Value.int (Int32.ofInt v)), zS (eV U) J tg) ∧ Runs (GW L xs) 40 209 (0, [.ref 93, (Value.int (Int32.ofInt (a)))], [], zS (eV U) J tg) (some (Value.int (Int32.ofInt v)), zS (eV W) J1 tg) ∧ INV W := by
  have h0 := h
  obtain ⟨hR, ⟨hA, hB, hC, hD, hE, hF, hH⟩, h2, h3, h4, h5⟩ := h
  have rD : 0 ≤ V 1 0 ∧ V 1 0 ≤ 12 := hR 1 0 (by decide) (by decide)
  have rT : 0 ≤ V 1 1 ∧ V 1 1 ≤ 12 := hR 1 1 (by decide) (by decide)
  obtain ⟨t1, t2, t3, t4⟩ := id h4
  by_cases g1 : 0 ≤ a ∧ a ≤ V 67 2
  · refine ⟨a, up2 V 67 2 a, up2 (up2 V 67 2 a) 93 7 a, J, ?_, ?_, ?_⟩
    · apply sg_127
      simp (disch := omega) only [eV_at, eV_up, o_lit2, o_add, o_sub, o_mul, o_neg, o_div, o_nat, ix_t, o_lt, o_le, o_eq, o_bi0, o_bi1, o_bib, em_t, o_neg1, o_shl, o_tb, o_tb0, o_tt, o_and, o_xor, o_or, o_max, o_min, an_tb, and_true, true_and, not_true, not_false, if_true, if_false, tn_add, tn_mul, Int.reduceToNat, tn_cast, md_x]
      refine ⟨_, _, k_164 ha (by omega) (by omega), ?_⟩
      simp (disch := omega) only [eV_at, eV_up, o_lit2, o_add, o_sub, o_mul, o_neg, o_div, o_nat, ix_t, o_lt, o_le, o_eq, o_bi0, o_bi1, o_bib, em_t, o_neg1, o_shl, o_tb, o_tb0, o_tt, o_and, o_xor, o_or, o_max, o_min, an_tb, and_true, true_and, not_true, not_false, if_true, if_false, tn_add, tn_mul, Int.reduceToNat, tn_cast, md_x]
      rw [if_neg (fun q => q (by assumption))] <;> trivial
    · apply sg_209
      simp (disch := omega) only [t2, w_eq, w_nc, w_ne2, eV_at, eV_up, o_lit2, o_add, o_sub, o_mul, o_neg, o_div, o_nat, ix_t, o_lt, o_le, o_eq, o_bi0, o_bi1, o_bib, em_t, o_neg1, o_shl, o_tb, o_tb0, o_tt, o_and, o_xor, o_or, o_max, o_min, an_tb, and_true, true_and, not_true, not_false, if_true, if_false, tn_add, tn_mul, Int.reduceToNat, tn_cast, md_x]
      refine ⟨_, _, _, k_177 ha (by omega) (by omega), ?_⟩
      simp (disch := omega) only [eV_at, eV_up, o_lit2, o_add, o_sub, o_mul, o_neg, o_div, o_nat, ix_t, o_lt, o_le, o_eq, o_bi0, o_bi1, o_bib, em_t, o_neg1, o_shl, o_tb, o_tb0, o_tt, o_and, o_xor, o_or, o_max, o_min, an_tb, and_true, true_and, not_true, not_false, if_true, if_false, tn_add, tn_mul, Int.reduceToNat, tn_cast, md_x]
      rw [if_neg (fun q => q (by assumption))] <;> trivial
    · have f : ∀ x, x ≠ 67 ∧ x ≠ 93 → (up2 (up2 V 67 2 a) 93 7 a) x = V x := fun x q => by rw [w_ne _ _ _ _ q.2, w_ne _ _ _ _ q.1]
      have f67 : ∀ x, (up2 (up2 V 67 2 a) 93 7 a) 67 x = if x = 2 then a else V 67 x := fun x => by rw [w_ne _ _ _ _ (by decide), w_at]
      have f93 : ∀ x, (up2 (up2 V 67 2 a) 93 7 a) 93 x = if x = 7 then a else V 93 x := fun x => by rw [w_at, w_ne _ _ _ _ (by decide)]
      have f94 : ∀ p : Nat, 0 ≤ p → (up2 (up2 V 67 2 a) 93 7 a) 94 p = V 94 p := fun p _ => by rw [f 94 (by omega)]
      have hRW : RNG (up2 (up2 V 67 2 a) 93 7 a) := (hR.upn (by decide)).upn (by decide)
      generalize (up2 (up2 V 67 2 a) 93 7 a) = W at *
      refine ⟨hRW, ⟨(hA.up (fun p _ => by rw [f 1 (by omega)]) (fun p q => f94 p (by omega))), (hB.up hR (by rw [f 1 (by omega)]) (by rw [f 1 (by omega)]) (f 2 (by omega)) (f 3 (by omega)) (f 4 (by omega)) (fun l w _ _ => f94 _ (by omega))), (hC.up hR (by rw [f 1 (by omega)]) (f 5 (by omega)) (f 6 (by omega)) (f 12 (by omega)) (fun l w _ _ => f94 _ (by omega)) (fun k _ => f94 _ (by omega))), (hD.up (by rw [f 1 (by omega)]) (by rw [f 1 (by omega)]) (f 3 (by omega)) (f 4 (by omega)) (f 5 (by omega)) (f 6 (by omega)) (f 12 (by omega))), (hE.up (by rw [f 1 (by omega)]) (f 7 (by omega)) (f 8 (by omega)) (f 9 (by omega)) (f 10 (by omega)) (f 11 (by omega)) (fun p _ => f94 _ (by omega))), (hF.up hR (by rw [f 1 (by omega)]) (by rw [f 1 (by omega)]) (by rw [f 7 (by omega)]) (fun x _ _ => f x (by omega)) (fun p _ => f94 _ (by omega))), (hH.up hR (by rw [f 1 (by omega)]) (fun x _ _ => f x (by omega)) (fun p _ => f94 _ (by omega)))⟩, (h2.fr fun x _ => f x (by omega)), (h3.up (f 1 (by omega)) (f 2 (by omega)) (f 3 (by omega)) (f 4 (by omega)) (f 71 (by omega)) (f 81 (by omega))), ?_, (h5.fr hR fun x _ => f x (by omega))⟩
      refine ⟨?_, ?_, fun k hk => ?_, ?_⟩
      · rw [f67, if_pos rfl]; omega
      · rw [f67, f93, if_pos rfl, if_pos rfl]
      · rw [f67, if_pos rfl] at hk
        rw [f 68 (by omega), f 100 (by omega)]; exact t3 k (by omega)
      · rw [f67, f67, f67, f93, f93]; exact t4
  · refine ⟨-1, V, V, J, ?_, ?_, h0⟩
    · apply sg_127
      simp (disch := omega) only [eV_at, eV_up, o_lit2, o_add, o_sub, o_mul, o_neg, o_div, o_nat, ix_t, o_lt, o_le, o_eq, o_bi0, o_bi1, o_bib, em_t, o_neg1, o_shl, o_tb, o_tb0, o_tt, o_and, o_xor, o_or, o_max, o_min, an_tb, and_true, true_and, not_true, not_false, if_true, if_false, tn_add, tn_mul, Int.reduceToNat, tn_cast, md_x]
      refine ⟨_, _, k_164 ha (by omega) (by omega), ?_⟩
      simp (disch := omega) only [eV_at, eV_up, o_lit2, o_add, o_sub, o_mul, o_neg, o_div, o_nat, ix_t, o_lt, o_le, o_eq, o_bi0, o_bi1, o_bib, em_t, o_neg1, o_shl, o_tb, o_tb0, o_tt, o_and, o_xor, o_or, o_max, o_min, an_tb, and_true, true_and, not_true, not_false, if_true, if_false, tn_add, tn_mul, Int.reduceToNat, tn_cast, md_x]
      rw [if_pos (by assumption)] <;> trivial
    · apply sg_209
      simp (disch := omega) only [t2, w_eq, w_nc, w_ne2, eV_at, eV_up, o_lit2, o_add, o_sub, o_mul, o_neg, o_div, o_nat, ix_t, o_lt, o_le, o_eq, o_bi0, o_bi1, o_bib, em_t, o_neg1, o_shl, o_tb, o_tb0, o_tt, o_and, o_xor, o_or, o_max, o_min, an_tb, and_true, true_and, not_true, not_false, if_true, if_false, tn_add, tn_mul, Int.reduceToNat, tn_cast, md_x]
      refine ⟨_, _, _, k_177 ha (by omega) (by omega), ?_⟩
      simp (disch := omega) only [eV_at, eV_up, o_lit2, o_add, o_sub, o_mul, o_neg, o_div, o_nat, ix_t, o_lt, o_le, o_eq, o_bi0, o_bi1, o_bib, em_t, o_neg1, o_shl, o_tb, o_tb0, o_tt, o_and, o_xor, o_or, o_max, o_min, an_tb, and_true, true_and, not_true, not_false, if_true, if_false, tn_add, tn_mul, Int.reduceToNat, tn_cast, md_x]
      rw [if_pos (by assumption)] <;> trivial
theorem c_fault {L : Nat} {xs : Nat → Int32} {V : Nat → Nat → Int} {J : Nat → Nat → Int64} {tg : Option Nat} (h : INV V) {a : Int} (ha : (-2147483648 ≤ a ∧ a < 2147483648)) : ∃ (v : Int) (U W : Nat → Nat → Int) (J1 : Nat → Nat → Int64), Runs (GW L xs) 40 129 (0, [.ref 0, (Value.int (Int32.ofInt (a)))], [], zS (eV V) J tg) (some (Value.int (Int32.ofInt v)), zS (eV U) J tg) ∧ Runs (GW L xs) 40 234 (0, [.ref 93, (Value.int (Int32.ofInt (a)))], [], zS (eV U) J tg) (some (Value.int (Int32.ofInt v)), zS (eV W) J1 tg) ∧ INV W := by
  have h0 := h
  obtain ⟨hR, ⟨hA, hB, hC, hD, hE, hF, hH⟩, h2, h3, h4, h5⟩ := h
  have rD : 0 ≤ V 1 0 ∧ V 1 0 ≤ 12 := hR 1 0 (by decide) (by decide)
  have rT : 0 ≤ V 1 1 ∧ V 1 1 ≤ 12 := hR 1 1 (by decide) (by decide)
  obtain ⟨t1, t2, t3, t4⟩ := id h4
  rcases t4 with ⟨q1, q2, q3⟩ | ⟨q1, q2, q3, q4, q5⟩
  · refine ⟨-1, V, V, J, ?_, ?_, h0⟩
    · apply sg_129
      simp (disch := omega) only [q1, w_eq, w_nc, w_ne2, eV_at, eV_up, o_lit2, o_add, o_sub, o_mul, o_neg, o_div, o_nat, ix_t, o_lt, o_le, o_eq, o_bi0, o_bi1, o_bib, em_t, o_neg1, o_shl, o_tb, o_tb0, o_tt, o_and, o_xor, o_or, o_max, o_min, an_tb, and_true, true_and, not_true, not_false, if_true, if_false, tn_add, tn_mul, Int.reduceToNat, tn_cast, md_x]
    · apply sg_234
      simp (disch := omega) only [q2, q3, w_eq, w_nc, w_ne2, eV_at, eV_up, o_lit2, o_add, o_sub, o_mul, o_neg, o_div, o_nat, ix_t, o_lt, o_le, o_eq, o_bi0, o_bi1, o_bib, em_t, o_neg1, o_shl, o_tb, o_tb0, o_tt, o_and, o_xor, o_or, o_max, o_min, an_tb, and_true, true_and, not_true, not_false, if_true, if_false, tn_add, tn_mul, Int.reduceToNat, tn_cast, md_x]
      split
      · trivial
      · split <;> trivial
  · by_cases g1 : a = 0
    · refine ⟨V 67 4, V, V, J, ?_, ?_, h0⟩
      · apply sg_129
        simp (disch := omega) only [q1, w_eq, w_nc, w_ne2, eV_at, eV_up, o_lit2, o_add, o_sub, o_mul, o_neg, o_div, o_nat, ix_t, o_lt, o_le, o_eq, o_bi0, o_bi1, o_bib, em_t, o_neg1, o_shl, o_tb, o_tb0, o_tt, o_and, o_xor, o_or, o_max, o_min, an_tb, and_true, true_and, not_true, not_false, if_true, if_false, tn_add, tn_mul, Int.reduceToNat, tn_cast, md_x]
        rw [if_neg (by omega), if_pos (by omega)] <;> trivial
      · apply sg_234
        simp (disch := omega) only [q2, q3, w_eq, w_nc, w_ne2, eV_at, eV_up, o_lit2, o_add, o_sub, o_mul, o_neg, o_div, o_nat, ix_t, o_lt, o_le, o_eq, o_bi0, o_bi1, o_bib, em_t, o_neg1, o_shl, o_tb, o_tb0, o_tt, o_and, o_xor, o_or, o_max, o_min, an_tb, and_true, true_and, not_true, not_false, if_true, if_false, tn_add, tn_mul, Int.reduceToNat, tn_cast, md_x]
        rw [if_pos (by omega)] <;> trivial
    · by_cases g2 : a = 1
      · refine ⟨V 67 5, V, V, J, ?_, ?_, h0⟩
        · apply sg_129
          simp (disch := omega) only [q1, w_eq, w_nc, w_ne2, eV_at, eV_up, o_lit2, o_add, o_sub, o_mul, o_neg, o_div, o_nat, ix_t, o_lt, o_le, o_eq, o_bi0, o_bi1, o_bib, em_t, o_neg1, o_shl, o_tb, o_tb0, o_tt, o_and, o_xor, o_or, o_max, o_min, an_tb, and_true, true_and, not_true, not_false, if_true, if_false, tn_add, tn_mul, Int.reduceToNat, tn_cast, md_x]
          rw [if_neg (by omega), if_neg (by omega), if_pos (by omega)] <;> trivial
        · apply sg_234
          simp (disch := omega) only [q2, q3, w_eq, w_nc, w_ne2, eV_at, eV_up, o_lit2, o_add, o_sub, o_mul, o_neg, o_div, o_nat, ix_t, o_lt, o_le, o_eq, o_bi0, o_bi1, o_bib, em_t, o_neg1, o_shl, o_tb, o_tb0, o_tt, o_and, o_xor, o_or, o_max, o_min, an_tb, and_true, true_and, not_true, not_false, if_true, if_false, tn_add, tn_mul, Int.reduceToNat, tn_cast, md_x]
          rw [if_neg (by omega), if_pos (by omega)] <;> trivial
      · refine ⟨-1, V, V, J, ?_, ?_, h0⟩
        · apply sg_129
          simp (disch := omega) only [q1, w_eq, w_nc, w_ne2, eV_at, eV_up, o_lit2, o_add, o_sub, o_mul, o_neg, o_div, o_nat, ix_t, o_lt, o_le, o_eq, o_bi0, o_bi1, o_bib, em_t, o_neg1, o_shl, o_tb, o_tb0, o_tt, o_and, o_xor, o_or, o_max, o_min, an_tb, and_true, true_and, not_true, not_false, if_true, if_false, tn_add, tn_mul, Int.reduceToNat, tn_cast, md_x]
          rw [if_neg (by omega), if_neg (by omega), if_neg (by omega)] <;> trivial
        · apply sg_234
          simp (disch := omega) only [q2, q3, w_eq, w_nc, w_ne2, eV_at, eV_up, o_lit2, o_add, o_sub, o_mul, o_neg, o_div, o_nat, ix_t, o_lt, o_le, o_eq, o_bi0, o_bi1, o_bib, em_t, o_neg1, o_shl, o_tb, o_tb0, o_tt, o_and, o_xor, o_or, o_max, o_min, an_tb, and_true, true_and, not_true, not_false, if_true, if_false, tn_add, tn_mul, Int.reduceToNat, tn_cast, md_x]
          rw [if_neg (by omega), if_neg (by omega)] <;> trivial
theorem c_by {L : Nat} {xs : Nat → Int32} {V : Nat → Nat → Int} {J : Nat → Nat → Int64} {tg : Option Nat} (h : INV V) {a : Int} (ha : (-2147483648 ≤ a ∧ a < 2147483648)) : ∃ (v : Int) (U W : Nat → Nat → Int) (J1 : Nat → Nat → Int64), Runs (GW L xs) 40 130 (0, [.ref 0, (Value.int (Int32.ofInt (a)))], [], zS (eV V) J tg) (some (Value.int (Int32.ofInt v)), zS (eV U) J tg) ∧ Runs (GW L xs) 40 235 (0, [.ref 93, (Value.int (Int32.ofInt (a)))], [], zS (eV U) J tg) (some (Value.int (Int32.ofInt v)), zS (eV W) J1 tg) ∧ INV W := by
  have h0 := h
  obtain ⟨hR, ⟨hA, hB, hC, hD, hE, hF, hH⟩, h2, h3, h4, h5⟩ := h
  have rD : 0 ≤ V 1 0 ∧ V 1 0 ≤ 12 := hR 1 0 (by decide) (by decide)
  have rT : 0 ≤ V 1 1 ∧ V 1 1 ≤ 12 := hR 1 1 (by decide) (by decide)
  have r0 : 0 ≤ V 18 0 ∧ V 18 0 ≤ 4 := hR 18 0 (by decide) (by decide)
  have h943 : V 94 3 = V 18 0 := hH.1.1
  by_cases g1 : -1 ≤ a ∧ a ≤ V 18 0 - 1
  · refine ⟨1, up2 V 18 1 a, up2 (up2 V 18 1 a) 94 4 a, J, ?_, ?_, ?_⟩
    · apply sg_130
      simp (disch := omega) only [eV_at, eV_up, o_lit2, o_add, o_sub, o_mul, o_neg, o_div, o_nat, ix_t, o_lt, o_le, o_eq, o_bi0, o_bi1, o_bib, em_t, o_neg1, o_shl, o_tb, o_tb0, o_tt, o_and, o_xor, o_or, o_max, o_min, an_tb, and_true, true_and, not_true, not_false, if_true, if_false, tn_add, tn_mul, Int.reduceToNat, tn_cast, md_x]
      refine ⟨_, _, k_164 ha (by omega) (by omega), ?_⟩
      simp (disch := omega) only [eV_at, eV_up, o_lit2, o_add, o_sub, o_mul, o_neg, o_div, o_nat, ix_t, o_lt, o_le, o_eq, o_bi0, o_bi1, o_bib, em_t, o_neg1, o_shl, o_tb, o_tb0, o_tt, o_and, o_xor, o_or, o_max, o_min, an_tb, and_true, true_and, not_true, not_false, if_true, if_false, tn_add, tn_mul, Int.reduceToNat, tn_cast, md_x]
      rw [if_neg (fun q => q (by assumption))] <;> trivial
    · apply sg_235
      simp (disch := omega) only [h943, w_eq, w_nc, w_ne2, eV_at, eV_up, o_lit2, o_add, o_sub, o_mul, o_neg, o_div, o_nat, ix_t, o_lt, o_le, o_eq, o_bi0, o_bi1, o_bib, em_t, o_neg1, o_shl, o_tb, o_tb0, o_tt, o_and, o_xor, o_or, o_max, o_min, an_tb, and_true, true_and, not_true, not_false, if_true, if_false, tn_add, tn_mul, Int.reduceToNat, tn_cast, md_x]
      refine ⟨_, _, _, k_177 ha (by omega) (by omega), ?_⟩
      simp (disch := omega) only [eV_at, eV_up, o_lit2, o_add, o_sub, o_mul, o_neg, o_div, o_nat, ix_t, o_lt, o_le, o_eq, o_bi0, o_bi1, o_bib, em_t, o_neg1, o_shl, o_tb, o_tb0, o_tt, o_and, o_xor, o_or, o_max, o_min, an_tb, and_true, true_and, not_true, not_false, if_true, if_false, tn_add, tn_mul, Int.reduceToNat, tn_cast, md_x]
      rw [if_neg (fun q => q (by assumption))] <;> trivial
    · have f : ∀ x, x ≠ 18 ∧ x ≠ 94 → (up2 (up2 V 18 1 a) 94 4 a) x = V x := fun x q => by rw [w_ne _ _ _ _ q.2, w_ne _ _ _ _ q.1]
      have f18 : ∀ x, (up2 (up2 V 18 1 a) 94 4 a) 18 x = if x = 1 then a else V 18 x := fun x => by rw [w_ne _ _ _ _ (by decide), w_at]
      have f94 : ∀ p, p ≠ 4 → (up2 (up2 V 18 1 a) 94 4 a) 94 p = V 94 p := fun p q => by rw [w_at, if_neg q, w_ne _ _ _ _ (by decide)]
      have f94a : (up2 (up2 V 18 1 a) 94 4 a) 94 4 = a := w_eq _ _ _ _
      have hRW : RNG (up2 (up2 V 18 1 a) 94 4 a) := (hR.up (c := 18) (p := 1) (z := a) (by show (-1 : Int) ≤ _ ∧ _ ≤ (3 : Int); omega)).upn (by decide)
      generalize (up2 (up2 V 18 1 a) 94 4 a) = W at *
      refine ⟨hRW, ⟨(hA.up (fun p _ => by rw [f 1 (by omega)]) (fun p q => f94 p (by omega))), (hB.up hR (by rw [f 1 (by omega)]) (by rw [f 1 (by omega)]) (f 2 (by omega)) (f 3 (by omega)) (f 4 (by omega)) (fun l w _ _ => f94 _ (by omega))), (hC.up hR (by rw [f 1 (by omega)]) (f 5 (by omega)) (f 6 (by omega)) (f 12 (by omega)) (fun l w _ _ => f94 _ (by omega)) (fun k _ => f94 _ (by omega))), (hD.up (by rw [f 1 (by omega)]) (by rw [f 1 (by omega)]) (f 3 (by omega)) (f 4 (by omega)) (f 5 (by omega)) (f 6 (by omega)) (f 12 (by omega))), (hE.up (by rw [f 1 (by omega)]) (f 7 (by omega)) (f 8 (by omega)) (f 9 (by omega)) (f 10 (by omega)) (f 11 (by omega)) (fun p _ => f94 _ (by omega))), (hF.up hR (by rw [f 1 (by omega)]) (by rw [f 1 (by omega)]) (by rw [f 7 (by omega)]) (fun x _ _ => f x (by omega)) (fun p _ => f94 _ (by omega))), ?_⟩, (h2.fr fun x _ => f x (by omega)), (h3.up (f 1 (by omega)) (f 2 (by omega)) (f 3 (by omega)) (f 4 (by omega)) (f 71 (by omega)) (f 81 (by omega))), (h4.fr (fun x _ => f x (by omega)) (by rw [f 93 (by omega)]) (by rw [f 93 (by omega)]) (by rw [f 93 (by omega)])), (⟨by rw [f 63 (by omega), f 50 (by omega), f 54 (by omega), f 58 (by omega), f 62 (by omega)]; exact h5.1, by rw [f 40 (by omega), f18]; exact h5.2.1, fun i hi => by rw [f18] at hi; have hi2 : (i : Int) < V 18 0 := hi; have r0 : 0 ≤ V 18 0 ∧ V 18 0 ≤ 4 := hR 18 0 (by decide) (by decide); exact (h5.2.2 i hi2).fr (by omega) fun x _ => f x (by omega)⟩)⟩
      obtain ⟨e1, e2, e3, e4⟩ := hH
      refine ⟨?_, fun j hj => ?_, fun s hs => ?_, fun j hj => ?_⟩
      · rw [f94 3 (by omega), f94a, f94 5 (by omega), f94 6 (by omega), f18, f18, f18, f18]
        exact ⟨e1.1, rfl, e1.2.2.1, e1.2.2.2.1, (by show a < V 18 0; omega)⟩
      · rw [f18] at hj
        have hj' : (j : Int) < V 18 2 := hj
        rw [f94 _ (by omega), f (18 + 1) (by omega)]; exact e2 j hj'
      · obtain ⟨q1, q2⟩ := e3 s hs
        rw [f94 _ (by omega), f (18 + 3) (by omega), f 1 (by omega), f (18 + 2) (by omega)]
        refine ⟨q1, fun i hi => ?_⟩
        rw [f94 _ (by omega)]; exact q2 i hi
      · rw [f18] at hj
        have hj' : (j : Int) < V 18 3 := hj
        rw [f94 _ (by omega), f (18 + 4) (by omega), f 1 (by omega)]; exact e4 j hj'
  · refine ⟨0, V, V, J, ?_, ?_, h0⟩
    · apply sg_130
      simp (disch := omega) only [eV_at, eV_up, o_lit2, o_add, o_sub, o_mul, o_neg, o_div, o_nat, ix_t, o_lt, o_le, o_eq, o_bi0, o_bi1, o_bib, em_t, o_neg1, o_shl, o_tb, o_tb0, o_tt, o_and, o_xor, o_or, o_max, o_min, an_tb, and_true, true_and, not_true, not_false, if_true, if_false, tn_add, tn_mul, Int.reduceToNat, tn_cast, md_x]
      refine ⟨_, _, k_164 ha (by omega) (by omega), ?_⟩
      simp (disch := omega) only [eV_at, eV_up, o_lit2, o_add, o_sub, o_mul, o_neg, o_div, o_nat, ix_t, o_lt, o_le, o_eq, o_bi0, o_bi1, o_bib, em_t, o_neg1, o_shl, o_tb, o_tb0, o_tt, o_and, o_xor, o_or, o_max, o_min, an_tb, and_true, true_and, not_true, not_false, if_true, if_false, tn_add, tn_mul, Int.reduceToNat, tn_cast, md_x]
      rw [if_pos (by assumption)] <;> trivial
    · apply sg_235
      simp (disch := omega) only [h943, w_eq, w_nc, w_ne2, eV_at, eV_up, o_lit2, o_add, o_sub, o_mul, o_neg, o_div, o_nat, ix_t, o_lt, o_le, o_eq, o_bi0, o_bi1, o_bib, em_t, o_neg1, o_shl, o_tb, o_tb0, o_tt, o_and, o_xor, o_or, o_max, o_min, an_tb, and_true, true_and, not_true, not_false, if_true, if_false, tn_add, tn_mul, Int.reduceToNat, tn_cast, md_x]
      refine ⟨_, _, _, k_177 ha (by omega) (by omega), ?_⟩
      simp (disch := omega) only [eV_at, eV_up, o_lit2, o_add, o_sub, o_mul, o_neg, o_div, o_nat, ix_t, o_lt, o_le, o_eq, o_bi0, o_bi1, o_bib, em_t, o_neg1, o_shl, o_tb, o_tb0, o_tt, o_and, o_xor, o_or, o_max, o_min, an_tb, and_true, true_and, not_true, not_false, if_true, if_false, tn_add, tn_mul, Int.reduceToNat, tn_cast, md_x]
      rw [if_pos (by assumption)] <;> trivial
