/-! means, answer. -/
theorem INV.mean {V : Nat → Nat → Int} (h : INV V) {n : Nat} {t z : Int} (g1 : (n : Int) < V 1 0) (g2 : t = -1 ∨ 12 ≤ t ∧ t < 12 + V 1 1) (gz : 0 ≤ z ∧ z ≤ 1) : INV (up2 (up2 (up2 (up2 V 5 n (if t = -1 then -1 else t - 12)) 6 n z) 94 (20 + 22 * n + 2) t) 94 (20 + 22 * n + 3) z) := by
  have h0 := h
  obtain ⟨hR, ⟨hA, hB, hC, hD, hE, hF, hH⟩, h2, h3, h4, h5⟩ := h
  have rD : 0 ≤ V 1 0 ∧ V 1 0 ≤ 12 := hR 1 0 (by decide) (by decide)
  have rT : 0 ≤ V 1 1 ∧ V 1 1 ≤ 12 := hR 1 1 (by decide) (by decide)
  have hm : -1 ≤ (if t = -1 then -1 else t - 12) ∧ (if t = -1 then -1 else t - 12) ≤ 11 := by split <;> omega
  have hmz : t = mz (if t = -1 then -1 else t - 12) := by unfold mz; split <;> split <;> omega
  generalize (if t = -1 then -1 else t - 12) = v at hm hmz
  have hRW : RNG (up2 (up2 (up2 (up2 V 5 n v) 6 n z) 94 (20 + 22 * n + 2) t) 94 (20 + 22 * n + 3) z) := (((hR.up (c := 5) (p := n) (z := v) hm).up (c := 6) (p := n) (z := z) gz).upn (by decide)).upn (by decide)
  have f : ∀ x, x ≠ 5 ∧ x ≠ 6 ∧ x ≠ 94 → up2 (up2 (up2 (up2 V 5 n v) 6 n z) 94 (20 + 22 * n + 2) t) 94 (20 + 22 * n + 3) z x = V x := fun x q => by rw [w_ne _ _ _ _ q.2.2, w_ne _ _ _ _ q.2.2, w_ne _ _ _ _ q.2.1, w_ne _ _ _ _ q.1]
  have f5 : ∀ x, up2 (up2 (up2 (up2 V 5 n v) 6 n z) 94 (20 + 22 * n + 2) t) 94 (20 + 22 * n + 3) z 5 x = if x = n then v else V 5 x := fun x => by rw [w_ne _ _ _ _ (by decide), w_ne _ _ _ _ (by decide), w_ne _ _ _ _ (by decide), w_at]
  have f6 : ∀ x, up2 (up2 (up2 (up2 V 5 n v) 6 n z) 94 (20 + 22 * n + 2) t) 94 (20 + 22 * n + 3) z 6 x = if x = n then z else V 6 x := fun x => by rw [w_ne _ _ _ _ (by decide), w_ne _ _ _ _ (by decide), w_at, w_ne _ _ _ _ (by decide)]
  have f94 : ∀ p, p ≠ 20 + 22 * n + 2 ∧ p ≠ 20 + 22 * n + 3 → up2 (up2 (up2 (up2 V 5 n v) 6 n z) 94 (20 + 22 * n + 2) t) 94 (20 + 22 * n + 3) z 94 p = V 94 p := fun p q => by rw [w_at, if_neg q.2, w_at, if_neg q.1, w_ne _ _ _ _ (by decide), w_ne _ _ _ _ (by decide)]
  have fa : up2 (up2 (up2 (up2 V 5 n v) 6 n z) 94 (20 + 22 * n + 2) t) 94 (20 + 22 * n + 3) z 94 (20 + 22 * n + 2) = t := by rw [w_at, if_neg (by omega), w_eq]
  have fb : up2 (up2 (up2 (up2 V 5 n v) 6 n z) 94 (20 + 22 * n + 2) t) 94 (20 + 22 * n + 3) z 94 (20 + 22 * n + 3) = z := w_eq _ _ _ _
  generalize up2 (up2 (up2 (up2 V 5 n v) 6 n z) 94 (20 + 22 * n + 2) t) 94 (20 + 22 * n + 3) z = W at *
  refine ⟨hRW, ⟨(hA.up (fun p _ => by rw [f 1 (by omega)]) (fun p q => f94 p (by omega))), (hB.up hR (by rw [f 1 (by omega)]) (by rw [f 1 (by omega)]) (f 2 (by omega)) (f 3 (by omega)) (f 4 (by omega)) (fun l w _ _ => f94 _ (by omega))), ?_, ?_, (hE.up (by rw [f 1 (by omega)]) (f 7 (by omega)) (f 8 (by omega)) (f 9 (by omega)) (f 10 (by omega)) (f 11 (by omega)) (fun p _ => f94 _ (by omega))), (hF.up hR (by rw [f 1 (by omega)]) (by rw [f 1 (by omega)]) (by rw [f 7 (by omega)]) (fun x _ _ => f x (by omega)) (fun p _ => f94 _ (by omega))), (hH.up hR (by rw [f 1 (by omega)]) (fun x _ _ => f x (by omega)) (fun p _ => f94 _ (by omega)))⟩, (h2.fr fun x _ => f x (by omega)), (h3.up (f 1 (by omega)) (f 2 (by omega)) (f 3 (by omega)) (f 4 (by omega)) (f 71 (by omega)) (f 81 (by omega))), (h4.fr (fun x _ => f x (by omega)) (by rw [f 93 (by omega)]) (by rw [f 93 (by omega)]) (by rw [f 93 (by omega)])), (h5.fr hR fun x _ => f x (by omega))⟩
  · intro l hl
    rw [f 1 (by omega)] at hl
    obtain ⟨b1, b2, b3⟩ := hC l hl
    have f5' : W (1 + 4) l = if l = n then v else V 5 l := f5 l
    have f6' : W (1 + 5) l = if l = n then z else V 6 l := f6 l
    rw [f5', f6', f (7 + 5) (by omega)]
    by_cases q : l = n
    · subst q
      rw [if_pos rfl, if_pos rfl, fa, fb]
      exact ⟨hmz, rfl, fun j hj => by rw [f94 _ (by omega)]; exact b3 j hj⟩
    · rw [if_neg q, if_neg q, f94 _ (by omega), f94 _ (by omega)]
      exact ⟨b1, b2, fun j hj => by rw [f94 _ (by omega)]; exact b3 j hj⟩
  · refine ⟨?_, fun l hl ht => ?_⟩
    · rw [f 1 (by omega), f (1 + 2) (by omega), f (1 + 3) (by omega)]; exact hD.1
    · rw [f 1 (by omega)] at ht
      have f5' : W (1 + 4) l = if l = n then v else V 5 l := f5 l
      have f6' : W (1 + 5) l = if l = n then z else V 6 l := f6 l
      rw [f5', f6', f (7 + 5) (by omega), if_neg (by omega), if_neg (by omega)]
      exact hD.2 l hl ht
theorem c_means {L : Nat} {xs : Nat → Int32} {V : Nat → Nat → Int} {J : Nat → Nat → Int64} {tg : Option Nat} (h : INV V) {a t z : Int} (ha : (-2147483648 ≤ a ∧ a < 2147483648)) (ht : (-2147483648 ≤ t ∧ t < 2147483648)) (hz : (-2147483648 ≤ z ∧ z < 2147483648)) : ∃ (v : Int) (U W : Nat → Nat → Int) (J1 : Nat → Nat → Int64), Runs (GW L xs) 40 120 (0, [.ref 0, (Value.int (Int32.ofInt (a))), (Value.int (Int32.ofInt (t))), (Value.int (Int32.ofInt (z)))], [], zS (eV V) J tg) (some (Value.int (Int32.ofInt v)), zS (eV U) J tg) ∧ Runs (GW L xs) 40 193 (0, [.ref 93, (Value.int (Int32.ofInt (a))), (Value.int (Int32.ofInt (t))), (Value.int (Int32.ofInt (z)))], [], zS (eV U) J tg) (some (Value.int (Int32.ofInt v)), zS (eV W) J1 tg) ∧ INV W := by
  have hI := @INV.mean V h
  have h0 := h
  obtain ⟨hR, ⟨hA, hB, hC, hD, hE, hF, hH⟩, h2, h3, h4, h5⟩ := h
  have rD : 0 ≤ V 1 0 ∧ V 1 0 ≤ 12 := hR 1 0 (by decide) (by decide)
  have rT : 0 ≤ V 1 1 ∧ V 1 1 ≤ 12 := hR 1 1 (by decide) (by decide)
  by_cases g1 : 0 ≤ a ∧ a < V 1 0
  · obtain ⟨n, rfl⟩ : ∃ n : Nat, a = n := ⟨a.toNat, by omega⟩
    by_cases g2 : t = -1
    · subst g2
      have e : ∀ x, x ≠ 5 ∧ x ≠ 6 → up2 (up2 V 5 n (-1)) 6 n 0 x = V x := fun x q => by rw [w_ne _ _ _ _ q.2, w_ne _ _ _ _ q.1]
      have hRU : RNG (up2 (up2 V 5 n (-1)) 6 n 0) := (hR.up (c := 5) (p := n) (z := -1) (by show (-1 : Int) ≤ _ ∧ _ ≤ (11 : Int); omega)).up (c := 6) (p := n) (z := 0) (by show (0 : Int) ≤ _ ∧ _ ≤ (1 : Int); omega)
      have hAU : RA (up2 (up2 V 5 n (-1)) 6 n 0) 1 94 := hA.up (fun p _ => by rw [e 1 (by omega)]) (fun p _ => by rw [e 94 (by omega)])
      have g1' : 0 ≤ (n : Int) ∧ (n : Int) < up2 (up2 V 5 n (-1)) 6 n 0 1 0 := by rw [e 1 (by omega)]; exact g1
      have hW := hI (n := n) (t := -1) (z := 0) g1.2 (Or.inl rfl) (by omega)
      rw [if_pos rfl] at hW
      refine ⟨1, up2 (up2 V 5 n (-1)) 6 n 0, _, J, ?_, ?_, hW⟩
      · apply sg_120
        refine ⟨_, _, k_44 hR ha, ?_⟩
        rw [if_neg (b0_f g1)]
        simp (disch := omega) only [true_or, or_true, eV_at, eV_up, o_lit2, o_add, o_sub, o_mul, o_neg, o_div, o_nat, ix_t, o_lt, o_le, o_eq, o_bi0, o_bi1, o_bib, em_t, o_neg1, o_shl, o_tb, o_tb0, o_tt, o_and, o_xor, o_or, o_max, o_min, an_tb, and_true, true_and, not_true, not_false, if_true, if_false, tn_add, tn_mul, Int.reduceToNat, tn_cast, md_x]
        by_cases q : z = 0
        · simp only [q, if_true]
        · simp only [q, if_false]
      · apply sg_193
        refine ⟨_, _, _, m_179 hRU hAU ha, ?_⟩
        rw [if_neg (b0_f g1')]
        simp (disch := omega) only [true_or, or_true, eV_at, eV_up, o_lit2, o_add, o_sub, o_mul, o_neg, o_div, o_nat, ix_t, o_lt, o_le, o_eq, o_bi0, o_bi1, o_bib, em_t, o_neg1, o_shl, o_tb, o_tb0, o_tt, o_and, o_xor, o_or, o_max, o_min, an_tb, and_true, true_and, not_true, not_false, if_true, if_false, tn_add, tn_mul, Int.reduceToNat, tn_cast, md_x]
        by_cases q : z = 0
        · simp only [q, if_true]
        · simp only [q, if_false]
    · by_cases g3 : 12 ≤ t ∧ t < 12 + V 1 1
      · have e : ∀ (w : Int) x, x ≠ 5 ∧ x ≠ 6 → up2 (up2 V 5 n (t - 12)) 6 n w x = V x := fun w x q => by rw [w_ne _ _ _ _ q.2, w_ne _ _ _ _ q.1]
        have hRU : ∀ w : Int, 0 ≤ w ∧ w ≤ 1 → RNG (up2 (up2 V 5 n (t - 12)) 6 n w) := fun w hw => (hR.up (c := 5) (p := n) (z := t - 12) (by show (-1 : Int) ≤ _ ∧ _ ≤ (11 : Int); omega)).up (c := 6) (p := n) (z := w) hw
        have hAU : ∀ w : Int, RA (up2 (up2 V 5 n (t - 12)) 6 n w) 1 94 := fun w => hA.up (fun p _ => by rw [e w 1 (by omega)]) (fun p _ => by rw [e w 94 (by omega)])
        have g1' : ∀ w : Int, 0 ≤ (n : Int) ∧ (n : Int) < up2 (up2 V 5 n (t - 12)) 6 n w 1 0 := fun w => by rw [e w 1 (by omega)]; exact g1
        have g3' : ∀ w : Int, 12 ≤ t ∧ t < 12 + up2 (up2 V 5 n (t - 12)) 6 n w 1 1 := fun w => by rw [e w 1 (by omega)]; exact g3
        by_cases q : z = 0
        · subst q
          have hW := hI (n := n) (t := t) (z := 0) g1.2 (Or.inr g3) (by omega)
          rw [if_neg g2] at hW
          refine ⟨1, up2 (up2 V 5 n (t - 12)) 6 n 0, _, J, ?_, ?_, hW⟩
          · apply sg_120
            refine ⟨_, _, k_44 hR ha, ?_⟩
            rw [if_neg (b0_f g1), if_neg (by rw [o_neg1, o_eq (by omega) (by omega)]; omega)]
            refine ⟨_, _, k_45 hR ht, ?_⟩
            rw [if_neg (b0_f g3)]
            simp (disch := omega) only [true_or, or_true, eV_at, eV_up, o_lit2, o_add, o_sub, o_mul, o_neg, o_div, o_nat, ix_t, o_lt, o_le, o_eq, o_bi0, o_bi1, o_bib, em_t, o_neg1, o_shl, o_tb, o_tb0, o_tt, o_and, o_xor, o_or, o_max, o_min, an_tb, and_true, true_and, not_true, not_false, if_true, if_false, tn_add, tn_mul, Int.reduceToNat, tn_cast, md_x]
            (repeat (first | rw [if_pos (by omega)] | rw [if_neg (by omega)])) <;> trivial
          · apply sg_193
            refine ⟨_, _, _, m_179 (hRU 0 (by omega)) (hAU 0) ha, ?_⟩
            rw [if_neg (b0_f (g1' 0)), if_neg (by rw [o_neg1, o_eq (by omega) (by omega)]; omega)]
            refine ⟨_, _, _, m_180 (hRU 0 (by omega)) (hAU 0) ht, ?_⟩
            rw [if_neg (b0_f (g3' 0))]
            simp (disch := omega) only [eV_at, eV_up, o_lit2, o_add, o_sub, o_mul, o_neg, o_div, o_nat, ix_t, o_lt, o_le, o_eq, o_bi0, o_bi1, o_bib, em_t, o_neg1, o_shl, o_tb, o_tb0, o_tt, o_and, o_xor, o_or, o_max, o_min, an_tb, and_true, true_and, not_true, not_false, if_true, if_false, tn_add, tn_mul, Int.reduceToNat, tn_cast, md_x]
        · have hW := hI (n := n) (t := t) (z := 1) g1.2 (Or.inr g3) (by omega)
          rw [if_neg g2] at hW
          refine ⟨1, up2 (up2 V 5 n (t - 12)) 6 n 1, _, J, ?_, ?_, hW⟩
          · apply sg_120
            refine ⟨_, _, k_44 hR ha, ?_⟩
            rw [if_neg (b0_f g1), if_neg (by rw [o_neg1, o_eq (by omega) (by omega)]; omega)]
            refine ⟨_, _, k_45 hR ht, ?_⟩
            rw [if_neg (b0_f g3)]
            simp (disch := omega) only [true_or, or_true, eV_at, eV_up, o_lit2, o_add, o_sub, o_mul, o_neg, o_div, o_nat, ix_t, o_lt, o_le, o_eq, o_bi0, o_bi1, o_bib, em_t, o_neg1, o_shl, o_tb, o_tb0, o_tt, o_and, o_xor, o_or, o_max, o_min, an_tb, and_true, true_and, not_true, not_false, if_true, if_false, tn_add, tn_mul, Int.reduceToNat, tn_cast, md_x]
            (repeat (first | rw [if_pos (by omega)] | rw [if_neg (by omega)])) <;> trivial
          · apply sg_193
            refine ⟨_, _, _, m_179 (hRU 1 (by omega)) (hAU 1) ha, ?_⟩
            rw [if_neg (b0_f (g1' 1)), if_neg (by rw [o_neg1, o_eq (by omega) (by omega)]; omega)]
            refine ⟨_, _, _, m_180 (hRU 1 (by omega)) (hAU 1) ht, ?_⟩
            rw [if_neg (b0_f (g3' 1))]
            simp (disch := omega) only [eV_at, eV_up, o_lit2, o_add, o_sub, o_mul, o_neg, o_div, o_nat, ix_t, o_lt, o_le, o_eq, o_bi0, o_bi1, o_bib, em_t, o_neg1, o_shl, o_tb, o_tb0, o_tt, o_and, o_xor, o_or, o_max, o_min, an_tb, and_true, true_and, not_true, not_false, if_true, if_false, tn_add, tn_mul, Int.reduceToNat, tn_cast, md_x]
            (repeat (first | rw [if_pos (by omega)] | rw [if_neg (by omega)])) <;> trivial
      · refine ⟨0, V, V, J, ?_, ?_, h0⟩
        · apply sg_120
          refine ⟨_, _, k_44 hR ha, ?_⟩
          rw [if_neg (b0_f g1), if_neg (by rw [o_neg1, o_eq (by omega) (by omega)]; omega)]
          refine ⟨_, _, k_45 hR ht, ?_⟩
          rw [if_pos (b0_t g3)]
          rfl
        · apply sg_193
          refine ⟨_, _, _, m_179 hR hA ha, ?_⟩
          rw [if_neg (b0_f g1), if_neg (by rw [o_neg1, o_eq (by omega) (by omega)]; omega)]
          refine ⟨_, _, _, m_180 hR hA ht, ?_⟩
          rw [if_pos (b0_t g3)]
          rfl
  · refine ⟨0, V, V, J, ?_, ?_, h0⟩
    · apply sg_120
      refine ⟨_, _, k_44 hR ha, ?_⟩
      rw [if_pos (b0_t g1)]
      rfl
    · apply sg_193
      refine ⟨_, _, _, m_179 hR hA ha, ?_⟩
      rw [if_pos (b0_t g1)]
      rfl
