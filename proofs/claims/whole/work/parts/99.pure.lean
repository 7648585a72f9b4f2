/-! Memories: teach, weeks, tellings. -/
def fdd (fd m : Int) : Nat → Int
  | 0 => m
  | n + 1 => fdd fd m n - fdd fd m n * fd / 1000
theorem fdd_rg {fd m : Int} (hf : 0 ≤ fd ∧ fd ≤ 1000) (hm : 0 ≤ m ∧ m ≤ 1000) : ∀ n, 0 ≤ fdd fd m n ∧ fdd fd m n ≤ 1000
  | 0 => hm
  | n + 1 => by
    have ih := fdd_rg hf hm n
    have h1 := mul_rg ih hf
    have h2 : fdd fd m n * fd ≤ fdd fd m n * 1000 := Int.mul_le_mul_of_nonneg_left hf.2 ih.1
    unfold fdd
    omega
theorem k_111 {L d : Nat} {xs : Nat → Int32} {V : Nat → Nat → Int} {J : Nat → Nat → Int64} {tg : Option Nat} (hR : RNG V) {m : Int} (hm : 0 ≤ m ∧ m ≤ 1000) {n : Nat} (hn : n ≤ 50) : Runs (GW L xs) (d) 111 (0, [.ref 7, (Value.int (Int32.ofInt (m))), (Value.int (Int32.ofInt (n))), vU, vU], [], zS (eV (V)) J tg) (some (Value.int (Int32.ofInt (fdd (V 7 3) m n))), zS (eV (V)) J tg) := by
  have rf : 0 ≤ V 7 3 ∧ V 7 3 ≤ 1000 := hR 7 3 (by decide) (by decide)
  obtain ⟨_, _, hr⟩ := loopN (g := GW L xs) (d := d) (mid := 111) (σ := Unit) (fun i _ => (5, [.ref 7, (Value.int (Int32.ofInt (m))), (Value.int (Int32.ofInt (n))), (Value.int (Int32.ofInt (fdd (V 7 3) m i))), (Value.int (Int32.ofInt (i)))], [], zS (eV V) J tg)) (fun _ _ => True) n (by
    intro i _ hi _
    have h1 := fdd_rg rf hm i
    have h2 := mul_rg h1 rf
    refine ⟨(), trivial, fun r hr => ?_⟩
    apply sg_111_5
    simp (disch := omega) only [eV_at, eV_up, o_lit2, o_add, o_sub, o_mul, o_neg, o_div, o_nat, ix_t, o_lt, o_le, o_eq, o_bi0, o_bi1, o_bib, em_t, o_neg1, o_shl, o_tb, o_tb0, o_tt, o_and, o_xor, o_or, o_max, o_min, an_tb, and_true, true_and, not_true, not_false, if_true, if_false, tn_add, tn_mul, Int.reduceToNat, tn_cast, md_x]
    rw [if_neg (by omega)]
    exact hr) n 0 () (by omega) trivial
  refine sg_111 _ _ _ _ _ (hr _ ?_)
  apply sg_111_5
  simp (disch := omega) only [eV_at, eV_up, o_lit2, o_add, o_sub, o_mul, o_neg, o_div, o_nat, ix_t, o_lt, o_le, o_eq, o_bi0, o_bi1, o_bib, em_t, o_neg1, o_shl, o_tb, o_tb0, o_tt, o_and, o_xor, o_or, o_max, o_min, an_tb, and_true, true_and, not_true, not_false, if_true, if_false, tn_add, tn_mul, Int.reduceToNat, tn_cast, md_x]
  rw [if_pos (by omega)] <;> trivial
theorem k_281 {L d : Nat} {xs : Nat → Int32} {V : Nat → Nat → Int} {J : Nat → Nat → Int64} {tg : Option Nat} {m : Int} (rf : 0 ≤ V 94 15 ∧ V 94 15 ≤ 1000) (hm : 0 ≤ m ∧ m ≤ 1000) {n : Nat} (hn : n ≤ 50) : Runs (GW L xs) (d) 281 (0, [.ref 93, (Value.int (Int32.ofInt (m))), (Value.int (Int32.ofInt (n))), vU, vU], [], zS (eV (V)) J tg) (some (Value.int (Int32.ofInt (fdd (V 94 15) m n))), zS (eV (V)) J tg) := by
  obtain ⟨_, _, hr⟩ := loopN (g := GW L xs) (d := d) (mid := 281) (σ := Unit) (fun i _ => (5, [.ref 93, (Value.int (Int32.ofInt (m))), (Value.int (Int32.ofInt (n))), (Value.int (Int32.ofInt (fdd (V 94 15) m i))), (Value.int (Int32.ofInt (i)))], [], zS (eV V) J tg)) (fun _ _ => True) n (by
    intro i _ hi _
    have h1 := fdd_rg rf hm i
    have h2 := mul_rg h1 rf
    refine ⟨(), trivial, fun r hr => ?_⟩
    apply sg_281_5
    simp (disch := omega) only [eV_at, eV_up, o_lit2, o_add, o_sub, o_mul, o_neg, o_div, o_nat, ix_t, o_lt, o_le, o_eq, o_bi0, o_bi1, o_bib, em_t, o_neg1, o_shl, o_tb, o_tb0, o_tt, o_and, o_xor, o_or, o_max, o_min, an_tb, and_true, true_and, not_true, not_false, if_true, if_false, tn_add, tn_mul, Int.reduceToNat, tn_cast, md_x]
    rw [if_neg (by omega)]
    exact hr) n 0 () (by omega) trivial
  refine sg_281 _ _ _ _ _ (hr _ ?_)
  apply sg_281_5
  simp (disch := omega) only [eV_at, eV_up, o_lit2, o_add, o_sub, o_mul, o_neg, o_div, o_nat, ix_t, o_lt, o_le, o_eq, o_bi0, o_bi1, o_bib, em_t, o_neg1, o_shl, o_tb, o_tb0, o_tt, o_and, o_xor, o_or, o_max, o_min, an_tb, and_true, true_and, not_true, not_false, if_true, if_false, tn_add, tn_mul, Int.reduceToNat, tn_cast, md_x]
  rw [if_pos (by omega)] <;> trivial
theorem k_110 {L d : Nat} {xs : Nat → Int32} {V : Nat → Nat → Int} {J : Nat → Nat → Int64} {tg : Option Nat} (hR : RNG V) {m : Int} (hm : 0 ≤ m ∧ m ≤ 1000) : Runs (GW L xs) (d) 110 (0, [.ref 7, (Value.int (Int32.ofInt (m)))], [], zS (eV (V)) J tg) (some (Value.int (Int32.ofInt (min (m + V 7 2) 1000))), zS (eV (V)) J tg) := by
  have rf : 1 ≤ V 7 2 ∧ V 7 2 ≤ 1000 := hR 7 2 (by decide) (by decide)
  apply sg_110
  simp (disch := omega) only [eV_at, eV_up, o_lit2, o_add, o_sub, o_mul, o_neg, o_div, o_nat, ix_t, o_lt, o_le, o_eq, o_bi0, o_bi1, o_bib, em_t, o_neg1, o_shl, o_tb, o_tb0, o_tt, o_and, o_xor, o_or, o_max, o_min, an_tb, and_true, true_and, not_true, not_false, if_true, if_false, tn_add, tn_mul, Int.reduceToNat, tn_cast, md_x]
theorem k_280 {L d : Nat} {xs : Nat → Int32} {V : Nat → Nat → Int} {J : Nat → Nat → Int64} {tg : Option Nat} {m : Int} (rf : 1 ≤ V 94 14 ∧ V 94 14 ≤ 1000) (hm : 0 ≤ m ∧ m ≤ 1000) : Runs (GW L xs) (d) 280 (0, [.ref 93, (Value.int (Int32.ofInt (m)))], [], zS (eV (V)) J tg) (some (Value.int (Int32.ofInt (min (m + V 94 14) 1000))), zS (eV (V)) J tg) := by
  apply sg_280
  simp (disch := omega) only [eV_at, eV_up, o_lit2, o_add, o_sub, o_mul, o_neg, o_div, o_nat, ix_t, o_lt, o_le, o_eq, o_bi0, o_bi1, o_bib, em_t, o_neg1, o_shl, o_tb, o_tb0, o_tt, o_and, o_xor, o_or, o_max, o_min, an_tb, and_true, true_and, not_true, not_false, if_true, if_false, tn_add, tn_mul, Int.reduceToNat, tn_cast, md_x]
  split
  · exact leafI (by omega)
  · exact leafI (by omega)
theorem c_teach {L : Nat} {xs : Nat → Int32} {V : Nat → Nat → Int} {J : Nat → Nat → Int64} {tg : Option Nat} (h : INV V) {a b : Int} (ha : (-2147483648 ≤ a ∧ a < 2147483648)) (hb : (-2147483648 ≤ b ∧ b < 2147483648)) : ∃ (v : Int) (U W : Nat → Nat → Int) (J1 : Nat → Nat → Int64), Runs (GW L xs) 40 148 (0, [.ref 0, (Value.int (Int32.ofInt (a))), (Value.int (Int32.ofInt (b))), vU], [], zS (eV V) J tg) (some (Value.int (Int32.ofInt v)), zS (eV U) J tg) ∧ Runs (GW L xs) 40 282 (0, [.ref 93, (Value.int (Int32.ofInt (a))), (Value.int (Int32.ofInt (b)))], [], zS (eV U) J tg) (some (Value.int (Int32.ofInt v)), zS (eV W) J1 tg) ∧ INV W := by
  have h0 := h
  obtain ⟨hR, ⟨hA, hB, hC, hD, hE, hF, hH⟩, h2, h3, h4, h5⟩ := h
  have rD : 0 ≤ V 1 0 ∧ V 1 0 ≤ 12 := hR 1 0 (by decide) (by decide)
  have rT : 0 ≤ V 1 1 ∧ V 1 1 ≤ 12 := hR 1 1 (by decide) (by decide)
  have rf : 1 ≤ V 7 2 ∧ V 7 2 ≤ 1000 := hR 7 2 (by decide) (by decide)
  have h14 : V 94 14 = V 7 2 := hE.1.2.2.1
  by_cases g1 : 0 ≤ a ∧ a < V 1 0
  · by_cases g2 : 0 ≤ b ∧ b ≤ 5
    · obtain ⟨n, rfl⟩ : ∃ n : Nat, a = n := ⟨a.toNat, by omega⟩
      obtain ⟨k, rfl⟩ : ∃ k : Nat, b = k := ⟨b.toNat, by omega⟩
      have rm : 0 ≤ V 12 (n * 6 + k) ∧ V 12 (n * 6 + k) ≤ 1000 := hR 12 _ (by decide) (by decide)
      have hm : V 94 (600 + 6 * n + k) = V 12 (n * 6 + k) := (hC n (by omega)).2.2 k (by omega)
      have k1 := k_110 (L := L) (xs := xs) (J := J) (tg := tg) (d := 39) hR rm
      generalize hv : min (V 12 (n * 6 + k) + V 7 2) 1000 = v at k1
      have rv : 0 ≤ v ∧ v ≤ 1000 := by omega
      have e : ∀ x, x ≠ 12 → up2 V 12 (n * 6 + k) v x = V x := fun x q => w_ne _ _ _ _ q
      have hRU : RNG (up2 V 12 (n * 6 + k) v) := hR.up (c := 12) (p := n * 6 + k) (z := v) rv
      have hAU : RA (up2 V 12 (n * 6 + k) v) 1 94 := hA.up (fun p _ => by rw [e 1 (by omega)]) (fun p _ => by rw [e 94 (by omega)])
      have k2 := k_280 (L := L) (xs := xs) (J := J) (tg := tg) (d := 39) (V := up2 V 12 (n * 6 + k) v) (m := V 12 (n * 6 + k)) (by rw [e 94 (by omega), h14]; exact rf) rm
      rw [e 94 (by omega), h14, hv] at k2
      have g1' : 0 ≤ (n : Int) ∧ (n : Int) < up2 V 12 (n * 6 + k) v 1 0 := by rw [e 1 (by omega)]; exact g1
      refine ⟨v, up2 V 12 (n * 6 + k) v, up2 (up2 V 12 (n * 6 + k) v) 94 (600 + 6 * n + k) v, J, ?_, ?_, ?_⟩
      · apply sg_148
        refine ⟨_, _, k_44 hR ha, ?_⟩
        simp (disch := omega) only [eV_at, eV_up, o_lit2, o_add, o_sub, o_mul, o_neg, o_div, o_nat, ix_t, o_lt, o_le, o_eq, o_bi0, o_bi1, o_bib, em_t, o_neg1, o_shl, o_tb, o_tb0, o_tt, o_and, o_xor, o_or, o_max, o_min, an_tb, and_true, true_and, not_true, not_false, if_true, if_false, tn_add, tn_mul, Int.reduceToNat, tn_cast, md_x]
        rw [if_neg (fun q => q (by assumption))]
        refine ⟨_, _, k_165 hb, ?_⟩
        simp (disch := omega) only [eV_at, eV_up, o_lit2, o_add, o_sub, o_mul, o_neg, o_div, o_nat, ix_t, o_lt, o_le, o_eq, o_bi0, o_bi1, o_bib, em_t, o_neg1, o_shl, o_tb, o_tb0, o_tt, o_and, o_xor, o_or, o_max, o_min, an_tb, and_true, true_and, not_true, not_false, if_true, if_false, tn_add, tn_mul, Int.reduceToNat, tn_cast, md_x]
        rw [if_neg (fun q => q (by assumption))]
        refine ⟨_, _, k1, ?_⟩
        simp (disch := omega) only [w_eq, w_nc, w_ne2, eV_at, eV_up, o_lit2, o_add, o_sub, o_mul, o_neg, o_div, o_nat, ix_t, o_lt, o_le, o_eq, o_bi0, o_bi1, o_bib, em_t, o_neg1, o_shl, o_tb, o_tb0, o_tt, o_and, o_xor, o_or, o_max, o_min, an_tb, and_true, true_and, not_true, not_false, if_true, if_false, tn_add, tn_mul, Int.reduceToNat, tn_cast, md_x]
      · apply sg_282
        refine ⟨_, _, _, m_179 hRU hAU ha, ?_⟩
        simp (disch := omega) only [eV_at, eV_up, o_lit2, o_add, o_sub, o_mul, o_neg, o_div, o_nat, ix_t, o_lt, o_le, o_eq, o_bi0, o_bi1, o_bib, em_t, o_neg1, o_shl, o_tb, o_tb0, o_tt, o_and, o_xor, o_or, o_max, o_min, an_tb, and_true, true_and, not_true, not_false, if_true, if_false, tn_add, tn_mul, Int.reduceToNat, tn_cast, md_x]
        rw [if_neg (fun q => q (by assumption))]
        refine ⟨_, _, _, k_182 hb, ?_⟩
        simp (disch := omega) only [hm, w_eq, w_nc, w_ne2, eV_at, eV_up, o_lit2, o_add, o_sub, o_mul, o_neg, o_div, o_nat, ix_t, o_lt, o_le, o_eq, o_bi0, o_bi1, o_bib, em_t, o_neg1, o_shl, o_tb, o_tb0, o_tt, o_and, o_xor, o_or, o_max, o_min, an_tb, and_true, true_and, not_true, not_false, if_true, if_false, tn_add, tn_mul, Int.reduceToNat, tn_cast, md_x]
        rw [if_neg (fun q => q (by assumption))]
        refine ⟨_, _, _, k2, ?_⟩
        simp (disch := omega) only [w_eq, w_nc, w_ne2, eV_at, eV_up, o_lit2, o_add, o_sub, o_mul, o_neg, o_div, o_nat, ix_t, o_lt, o_le, o_eq, o_bi0, o_bi1, o_bib, em_t, o_neg1, o_shl, o_tb, o_tb0, o_tt, o_and, o_xor, o_or, o_max, o_min, an_tb, and_true, true_and, not_true, not_false, if_true, if_false, tn_add, tn_mul, Int.reduceToNat, tn_cast, md_x]
      · have f : ∀ x, x ≠ 12 ∧ x ≠ 94 → up2 (up2 V 12 (n * 6 + k) v) 94 (600 + 6 * n + k) v x = V x := fun x q => by rw [w_ne _ _ _ _ q.2]; exact e x q.1
        have f12 : ∀ x, up2 (up2 V 12 (n * 6 + k) v) 94 (600 + 6 * n + k) v 12 x = if x = n * 6 + k then v else V 12 x := fun x => by rw [w_ne _ _ _ _ (by decide), w_at]
        have f94 : ∀ p, p ≠ 600 + 6 * n + k → up2 (up2 V 12 (n * 6 + k) v) 94 (600 + 6 * n + k) v 94 p = V 94 p := fun p q => by rw [w_at, if_neg q, e 94 (by omega)]
        have f94a : up2 (up2 V 12 (n * 6 + k) v) 94 (600 + 6 * n + k) v 94 (600 + 6 * n + k) = v := w_eq _ _ _ _
        have hRW : RNG (up2 (up2 V 12 (n * 6 + k) v) 94 (600 + 6 * n + k) v) := hRU.upn (by decide)
        generalize up2 (up2 V 12 (n * 6 + k) v) 94 (600 + 6 * n + k) v = W at *
        refine ⟨hRW, ⟨(hA.up (fun p _ => by rw [f 1 (by omega)]) (fun p q => f94 p (by omega))), (hB.up hR (by rw [f 1 (by omega)]) (by rw [f 1 (by omega)]) (f 2 (by omega)) (f 3 (by omega)) (f 4 (by omega)) (fun l w _ _ => f94 _ (by omega))), ?_, ?_, (hE.up (by rw [f 1 (by omega)]) (f 7 (by omega)) (f 8 (by omega)) (f 9 (by omega)) (f 10 (by omega)) (f 11 (by omega)) (fun p _ => f94 _ (by omega))), (hF.up hR (by rw [f 1 (by omega)]) (by rw [f 1 (by omega)]) (by rw [f 7 (by omega)]) (fun x _ _ => f x (by omega)) (fun p _ => f94 _ (by omega))), (hH.up hR (by rw [f 1 (by omega)]) (fun x _ _ => f x (by omega)) (fun p _ => f94 _ (by omega)))⟩, (h2.fr fun x _ => f x (by omega)), (h3.up (f 1 (by omega)) (f 2 (by omega)) (f 3 (by omega)) (f 4 (by omega)) (f 71 (by omega)) (f 81 (by omega))), (h4.fr (fun x _ => f x (by omega)) (by rw [f 93 (by omega)]) (by rw [f 93 (by omega)]) (by rw [f 93 (by omega)])), (h5.fr hR fun x _ => f x (by omega))⟩
        · intro l hl
          rw [f 1 (by omega)] at hl
          obtain ⟨b1, b2, b3⟩ := hC l hl
          rw [f94 _ (by omega), f94 _ (by omega), f (1 + 4) (by omega), f (1 + 5) (by omega)]
          refine ⟨b1, b2, fun j hj => ?_⟩
          have f12' : W (7 + 5) (l * 6 + j) = if l * 6 + j = n * 6 + k then v else V 12 (l * 6 + j) := f12 _
          rw [f12']
          by_cases q : l * 6 + j = n * 6 + k
          · rw [if_pos q]
            have : l = n ∧ j = k := by omega
            obtain ⟨rfl, rfl⟩ := this
            exact f94a
          · rw [if_neg q, f94 _ (by omega)]; exact b3 j hj
        · refine ⟨?_, fun l hl ht => ?_⟩
          · rw [f 1 (by omega), f (1 + 2) (by omega), f (1 + 3) (by omega)]; exact hD.1
          · rw [f 1 (by omega)] at ht
            obtain ⟨b1, b2, b3⟩ := hD.2 l hl ht
            rw [f (1 + 4) (by omega), f (1 + 5) (by omega)]
            refine ⟨b1, b2, fun j hj => ?_⟩
            have f12' : W (7 + 5) (l * 6 + j) = if l * 6 + j = n * 6 + k then v else V 12 (l * 6 + j) := f12 _
            rw [f12', if_neg (by omega)]; exact b3 j hj
    · refine ⟨-1, V, V, J, ?_, ?_, h0⟩
      · apply sg_148
        refine ⟨_, _, k_44 hR ha, ?_⟩
        simp (disch := omega) only [eV_at, eV_up, o_lit2, o_add, o_sub, o_mul, o_neg, o_div, o_nat, ix_t, o_lt, o_le, o_eq, o_bi0, o_bi1, o_bib, em_t, o_neg1, o_shl, o_tb, o_tb0, o_tt, o_and, o_xor, o_or, o_max, o_min, an_tb, and_true, true_and, not_true, not_false, if_true, if_false, tn_add, tn_mul, Int.reduceToNat, tn_cast, md_x]
        rw [if_neg (fun q => q (by assumption))]
        refine ⟨_, _, k_165 hb, ?_⟩
        simp (disch := omega) only [eV_at, eV_up, o_lit2, o_add, o_sub, o_mul, o_neg, o_div, o_nat, ix_t, o_lt, o_le, o_eq, o_bi0, o_bi1, o_bib, em_t, o_neg1, o_shl, o_tb, o_tb0, o_tt, o_and, o_xor, o_or, o_max, o_min, an_tb, and_true, true_and, not_true, not_false, if_true, if_false, tn_add, tn_mul, Int.reduceToNat, tn_cast, md_x]
        rw [if_pos (by assumption)] <;> trivial
      · apply sg_282
        refine ⟨_, _, _, m_179 hR hA ha, ?_⟩
        simp (disch := omega) only [eV_at, eV_up, o_lit2, o_add, o_sub, o_mul, o_neg, o_div, o_nat, ix_t, o_lt, o_le, o_eq, o_bi0, o_bi1, o_bib, em_t, o_neg1, o_shl, o_tb, o_tb0, o_tt, o_and, o_xor, o_or, o_max, o_min, an_tb, and_true, true_and, not_true, not_false, if_true, if_false, tn_add, tn_mul, Int.reduceToNat, tn_cast, md_x]
        rw [if_neg (fun q => q (by assumption))]
        refine ⟨_, _, _, k_182 hb, ?_⟩
        simp (disch := omega) only [eV_at, eV_up, o_lit2, o_add, o_sub, o_mul, o_neg, o_div, o_nat, ix_t, o_lt, o_le, o_eq, o_bi0, o_bi1, o_bib, em_t, o_neg1, o_shl, o_tb, o_tb0, o_tt, o_and, o_xor, o_or, o_max, o_min, an_tb, and_true, true_and, not_true, not_false, if_true, if_false, tn_add, tn_mul, Int.reduceToNat, tn_cast, md_x]
        rw [if_pos (by assumption)] <;> trivial
  · refine ⟨-1, V, V, J, ?_, ?_, h0⟩
    · apply sg_148
      refine ⟨_, _, k_44 hR ha, ?_⟩
      simp (disch := omega) only [eV_at, eV_up, o_lit2, o_add, o_sub, o_mul, o_neg, o_div, o_nat, ix_t, o_lt, o_le, o_eq, o_bi0, o_bi1, o_bib, em_t, o_neg1, o_shl, o_tb, o_tb0, o_tt, o_and, o_xor, o_or, o_max, o_min, an_tb, and_true, true_and, not_true, not_false, if_true, if_false, tn_add, tn_mul, Int.reduceToNat, tn_cast, md_x]
      rw [if_pos (by assumption)] <;> trivial
    · apply sg_282
      refine ⟨_, _, _, m_179 hR hA ha, ?_⟩
      simp (disch := omega) only [eV_at, eV_up, o_lit2, o_add, o_sub, o_mul, o_neg, o_div, o_nat, ix_t, o_lt, o_le, o_eq, o_bi0, o_bi1, o_bib, em_t, o_neg1, o_shl, o_tb, o_tb0, o_tt, o_and, o_xor, o_or, o_max, o_min, an_tb, and_true, true_and, not_true, not_false, if_true, if_false, tn_add, tn_mul, Int.reduceToNat, tn_cast, md_x]
      rw [if_pos (by assumption)] <;> trivial
/-- a memory after tellings -/
def tlm (ls m : Int) : Nat → Int
  | 0 => m
  | n + 1 => min (tlm ls m n + ls) 1000
theorem tlm_rg {ls m : Int} (hl : 1 ≤ ls ∧ ls ≤ 1000) (hm : 0 ≤ m ∧ m ≤ 1000) : ∀ n, 0 ≤ tlm ls m n ∧ tlm ls m n ≤ 1000
  | 0 => hm
  | n + 1 => by have := tlm_rg hl hm n; unfold tlm; omega
theorem c_tellings {L : Nat} {xs : Nat → Int32} {V : Nat → Nat → Int} {J : Nat → Nat → Int64} {tg : Option Nat} (h : INV V) {a b c : Int} (ha : (-2147483648 ≤ a ∧ a < 2147483648)) (hb : (-2147483648 ≤ b ∧ b < 2147483648)) (hc : (-2147483648 ≤ c ∧ c < 2147483648)) : ∃ (v : Int) (U W : Nat → Nat → Int) (J1 : Nat → Nat → Int64), Runs (GW L xs) 40 150 (0, [.ref 0, (Value.int (Int32.ofInt (a))), (Value.int (Int32.ofInt (b))), (Value.int (Int32.ofInt (c))), vU, vU], [], zS (eV V) J tg) (some (Value.int (Int32.ofInt v)), zS (eV U) J tg) ∧ Runs (GW L xs) 40 284 (0, [.ref 93, (Value.int (Int32.ofInt (a))), (Value.int (Int32.ofInt (b))), (Value.int (Int32.ofInt (c))), vU, vU], [], zS (eV U) J tg) (some (Value.int (Int32.ofInt v)), zS (eV W) J1 tg) ∧ INV W := by
  have h0 := h
  obtain ⟨hR, ⟨hA, hB, hC, hD, hE, hF, hH⟩, h2, h3, h4, h5⟩ := h
  have rD : 0 ≤ V 1 0 ∧ V 1 0 ≤ 12 := hR 1 0 (by decide) (by decide)
  have rT : 0 ≤ V 1 1 ∧ V 1 1 ≤ 12 := hR 1 1 (by decide) (by decide)
  have rl : 1 ≤ V 7 2 ∧ V 7 2 ≤ 1000 := hR 7 2 (by decide) (by decide)
  have rf : 0 ≤ V 7 3 ∧ V 7 3 ≤ 1000 := hR 7 3 (by decide) (by decide)
  have h14 : V 94 14 = V 7 2 := hE.1.2.2.1
  have h15 : V 94 15 = V 7 3 := hE.1.2.2.2.1
  by_cases g1 : 0 ≤ a ∧ a < V 1 0
  · by_cases g2 : 0 ≤ b ∧ b ≤ 5
    · by_cases g3 : 0 ≤ c ∧ c ≤ 50
      · obtain ⟨n, rfl⟩ : ∃ n : Nat, a = n := ⟨a.toNat, by omega⟩
        obtain ⟨k, rfl⟩ : ∃ k : Nat, b = k := ⟨b.toNat, by omega⟩
        obtain ⟨t, rfl⟩ : ∃ t : Nat, c = t := ⟨c.toNat, by omega⟩
        have rm : 0 ≤ V 12 (n * 6 + k) ∧ V 12 (n * 6 + k) ≤ 1000 := hR 12 _ (by decide) (by decide)
        have hm : V 94 (600 + 6 * n + k) = V 12 (n * 6 + k) := (hC n (by omega)).2.2 k (by omega)
        have rt := tlm_rg rl rm
        -- the first telling that is enough, or none
        have key : ∃ v : Int, (∀ q, q = (some (Value.int (Int32.ofInt (v))), zS (eV V) J tg) → Runs (GW L xs) 40 150 (49, [.ref 0, (Value.int (Int32.ofInt (n))), (Value.int (Int32.ofInt (k))), (Value.int (Int32.ofInt (t))), (Value.int (Int32.ofInt (V 12 (n * 6 + k)))), (Value.int (Int32.ofInt (0)))], [], zS (eV V) J tg) q) ∧ (∀ q, q = (some (Value.int (Int32.ofInt (v))), zS (eV V) J tg) → Runs (GW L xs) 40 284 (47, [.ref 93, (Value.int (Int32.ofInt (n))), (Value.int (Int32.ofInt (k))), (Value.int (Int32.ofInt (t))), (Value.int (Int32.ofInt (V 12 (n * 6 + k)))), (Value.int (Int32.ofInt (0)))], [], zS (eV V) J tg) q) := by
          have step : ∀ j i : Nat, i + j = 101 → ∃ v : Int, (∀ q, q = (some (Value.int (Int32.ofInt (v))), zS (eV V) J tg) → Runs (GW L xs) 40 150 (49, [.ref 0, (Value.int (Int32.ofInt (n))), (Value.int (Int32.ofInt (k))), (Value.int (Int32.ofInt (t))), (Value.int (Int32.ofInt (tlm (V 7 2) (V 12 (n * 6 + k)) i))), (Value.int (Int32.ofInt (i)))], [], zS (eV V) J tg) q) ∧ (∀ q, q = (some (Value.int (Int32.ofInt (v))), zS (eV V) J tg) → Runs (GW L xs) 40 284 (47, [.ref 93, (Value.int (Int32.ofInt (n))), (Value.int (Int32.ofInt (k))), (Value.int (Int32.ofInt (t))), (Value.int (Int32.ofInt (tlm (V 7 2) (V 12 (n * 6 + k)) i))), (Value.int (Int32.ofInt (i)))], [], zS (eV V) J tg) q) := by
            intro j
            induction j with
            | zero =>
              intro i hi
              refine ⟨-1, fun q hq => ?_, fun q hq => ?_⟩
              · subst hq
                apply sg_150_49
                simp (disch := omega) only [eV_at, eV_up, o_lit2, o_add, o_sub, o_mul, o_neg, o_div, o_nat, ix_t, o_lt, o_le, o_eq, o_bi0, o_bi1, o_bib, em_t, o_neg1, o_shl, o_tb, o_tb0, o_tt, o_and, o_xor, o_or, o_max, o_min, an_tb, and_true, true_and, not_true, not_false, if_true, if_false, tn_add, tn_mul, Int.reduceToNat, tn_cast, md_x]
                rw [if_pos (by omega)] <;> trivial
              · subst hq
                apply sg_284_47
                simp (disch := omega) only [eV_at, eV_up, o_lit2, o_add, o_sub, o_mul, o_neg, o_div, o_nat, ix_t, o_lt, o_le, o_eq, o_bi0, o_bi1, o_bib, em_t, o_neg1, o_shl, o_tb, o_tb0, o_tt, o_and, o_xor, o_or, o_max, o_min, an_tb, and_true, true_and, not_true, not_false, if_true, if_false, tn_add, tn_mul, Int.reduceToNat, tn_cast, md_x]
                rw [if_pos (by omega)] <;> trivial
            | succ j ih =>
              intro i hi
              have ri := rt i
              have rk := fdd_rg rf ri t
              have k1 := k_111 (L := L) (xs := xs) (J := J) (tg := tg) (d := 39) hR ri (n := t) (by omega)
              have k2 := k_281 (L := L) (xs := xs) (J := J) (tg := tg) (d := 39) (V := V) (by rw [h15]; exact rf) ri (n := t) (by omega)
              rw [h15] at k2
              by_cases ge : fdd (V 7 3) (tlm (V 7 2) (V 12 (n * 6 + k)) i) t < 500
              · obtain ⟨v, i1, i2⟩ := ih (i + 1) (by omega)
                have k3 := k_110 (L := L) (xs := xs) (J := J) (tg := tg) (d := 39) hR ri
                have k4 := k_280 (L := L) (xs := xs) (J := J) (tg := tg) (d := 39) (V := V) (by rw [h14]; exact rl) ri
                rw [h14] at k4
                refine ⟨v, fun q hq => ?_, fun q hq => ?_⟩
                · apply sg_150_49
                  simp (disch := omega) only [eV_at, eV_up, o_lit2, o_add, o_sub, o_mul, o_neg, o_div, o_nat, ix_t, o_lt, o_le, o_eq, o_bi0, o_bi1, o_bib, em_t, o_neg1, o_shl, o_tb, o_tb0, o_tt, o_and, o_xor, o_or, o_max, o_min, an_tb, and_true, true_and, not_true, not_false, if_true, if_false, tn_add, tn_mul, Int.reduceToNat, tn_cast, md_x]
                  rw [if_neg (by omega)]
                  refine ⟨_, _, k1, ?_⟩
                  simp (disch := omega) only [eV_at, eV_up, o_lit2, o_add, o_sub, o_mul, o_neg, o_div, o_nat, ix_t, o_lt, o_le, o_eq, o_bi0, o_bi1, o_bib, em_t, o_neg1, o_shl, o_tb, o_tb0, o_tt, o_and, o_xor, o_or, o_max, o_min, an_tb, and_true, true_and, not_true, not_false, if_true, if_false, tn_add, tn_mul, Int.reduceToNat, tn_cast, md_x]
                  rw [if_pos ge]
                  exact ⟨_, _, k3, i1 q hq⟩
                · apply sg_284_47
                  simp (disch := omega) only [eV_at, eV_up, o_lit2, o_add, o_sub, o_mul, o_neg, o_div, o_nat, ix_t, o_lt, o_le, o_eq, o_bi0, o_bi1, o_bib, em_t, o_neg1, o_shl, o_tb, o_tb0, o_tt, o_and, o_xor, o_or, o_max, o_min, an_tb, and_true, true_and, not_true, not_false, if_true, if_false, tn_add, tn_mul, Int.reduceToNat, tn_cast, md_x]
                  rw [if_neg (by omega)]
                  refine ⟨_, _, _, k2, ?_⟩
                  simp (disch := omega) only [eV_at, eV_up, o_lit2, o_add, o_sub, o_mul, o_neg, o_div, o_nat, ix_t, o_lt, o_le, o_eq, o_bi0, o_bi1, o_bib, em_t, o_neg1, o_shl, o_tb, o_tb0, o_tt, o_and, o_xor, o_or, o_max, o_min, an_tb, and_true, true_and, not_true, not_false, if_true, if_false, tn_add, tn_mul, Int.reduceToNat, tn_cast, md_x]
                  rw [if_pos ge]
                  exact ⟨_, _, _, k4, i2 q hq⟩
              · refine ⟨i, fun q hq => ?_, fun q hq => ?_⟩
                · subst hq
                  apply sg_150_49
                  simp (disch := omega) only [eV_at, eV_up, o_lit2, o_add, o_sub, o_mul, o_neg, o_div, o_nat, ix_t, o_lt, o_le, o_eq, o_bi0, o_bi1, o_bib, em_t, o_neg1, o_shl, o_tb, o_tb0, o_tt, o_and, o_xor, o_or, o_max, o_min, an_tb, and_true, true_and, not_true, not_false, if_true, if_false, tn_add, tn_mul, Int.reduceToNat, tn_cast, md_x]
                  rw [if_neg (by omega)]
                  refine ⟨_, _, k1, ?_⟩
                  simp (disch := omega) only [eV_at, eV_up, o_lit2, o_add, o_sub, o_mul, o_neg, o_div, o_nat, ix_t, o_lt, o_le, o_eq, o_bi0, o_bi1, o_bib, em_t, o_neg1, o_shl, o_tb, o_tb0, o_tt, o_and, o_xor, o_or, o_max, o_min, an_tb, and_true, true_and, not_true, not_false, if_true, if_false, tn_add, tn_mul, Int.reduceToNat, tn_cast, md_x]
                  rw [if_neg ge] <;> trivial
                · subst hq
                  apply sg_284_47
                  simp (disch := omega) only [eV_at, eV_up, o_lit2, o_add, o_sub, o_mul, o_neg, o_div, o_nat, ix_t, o_lt, o_le, o_eq, o_bi0, o_bi1, o_bib, em_t, o_neg1, o_shl, o_tb, o_tb0, o_tt, o_and, o_xor, o_or, o_max, o_min, an_tb, and_true, true_and, not_true, not_false, if_true, if_false, tn_add, tn_mul, Int.reduceToNat, tn_cast, md_x]
                  rw [if_neg (by omega)]
                  refine ⟨_, _, _, k2, ?_⟩
                  simp (disch := omega) only [eV_at, eV_up, o_lit2, o_add, o_sub, o_mul, o_neg, o_div, o_nat, ix_t, o_lt, o_le, o_eq, o_bi0, o_bi1, o_bib, em_t, o_neg1, o_shl, o_tb, o_tb0, o_tt, o_and, o_xor, o_or, o_max, o_min, an_tb, and_true, true_and, not_true, not_false, if_true, if_false, tn_add, tn_mul, Int.reduceToNat, tn_cast, md_x]
                  rw [if_neg ge] <;> trivial
          exact step 101 0 (by omega)
        obtain ⟨v, v1, v2⟩ := key
        refine ⟨v, V, V, J, ?_, ?_, h0⟩
        · apply sg_150
          refine ⟨_, _, k_44 hR ha, ?_⟩
          simp (disch := omega) only [eV_at, eV_up, o_lit2, o_add, o_sub, o_mul, o_neg, o_div, o_nat, ix_t, o_lt, o_le, o_eq, o_bi0, o_bi1, o_bib, em_t, o_neg1, o_shl, o_tb, o_tb0, o_tt, o_and, o_xor, o_or, o_max, o_min, an_tb, and_true, true_and, not_true, not_false, if_true, if_false, tn_add, tn_mul, Int.reduceToNat, tn_cast, md_x]
          rw [if_neg (fun q => q (by assumption))]
          refine ⟨_, _, k_165 hb, ?_⟩
          simp (disch := omega) only [eV_at, eV_up, o_lit2, o_add, o_sub, o_mul, o_neg, o_div, o_nat, ix_t, o_lt, o_le, o_eq, o_bi0, o_bi1, o_bib, em_t, o_neg1, o_shl, o_tb, o_tb0, o_tt, o_and, o_xor, o_or, o_max, o_min, an_tb, and_true, true_and, not_true, not_false, if_true, if_false, tn_add, tn_mul, Int.reduceToNat, tn_cast, md_x]
          rw [if_neg (fun q => q (by assumption))]
          refine ⟨_, _, k_164 hc (by omega) (by omega), ?_⟩
          simp (disch := omega) only [eV_at, eV_up, o_lit2, o_add, o_sub, o_mul, o_neg, o_div, o_nat, ix_t, o_lt, o_le, o_eq, o_bi0, o_bi1, o_bib, em_t, o_neg1, o_shl, o_tb, o_tb0, o_tt, o_and, o_xor, o_or, o_max, o_min, an_tb, and_true, true_and, not_true, not_false, if_true, if_false, tn_add, tn_mul, Int.reduceToNat, tn_cast, md_x]
          rw [if_neg (fun q => q (by assumption))]
          exact v1 _ rfl
        · apply sg_284
          refine ⟨_, _, _, m_179 hR hA ha, ?_⟩
          simp (disch := omega) only [eV_at, eV_up, o_lit2, o_add, o_sub, o_mul, o_neg, o_div, o_nat, ix_t, o_lt, o_le, o_eq, o_bi0, o_bi1, o_bib, em_t, o_neg1, o_shl, o_tb, o_tb0, o_tt, o_and, o_xor, o_or, o_max, o_min, an_tb, and_true, true_and, not_true, not_false, if_true, if_false, tn_add, tn_mul, Int.reduceToNat, tn_cast, md_x]
          rw [if_neg (fun q => q (by assumption))]
          refine ⟨_, _, _, k_182 hb, ?_⟩
          simp (disch := omega) only [eV_at, eV_up, o_lit2, o_add, o_sub, o_mul, o_neg, o_div, o_nat, ix_t, o_lt, o_le, o_eq, o_bi0, o_bi1, o_bib, em_t, o_neg1, o_shl, o_tb, o_tb0, o_tt, o_and, o_xor, o_or, o_max, o_min, an_tb, and_true, true_and, not_true, not_false, if_true, if_false, tn_add, tn_mul, Int.reduceToNat, tn_cast, md_x]
          rw [if_neg (fun q => q (by assumption))]
          refine ⟨_, _, _, k_177 hc (by omega) (by omega), ?_⟩
          simp (disch := omega) only [hm, w_eq, w_nc, w_ne2, eV_at, eV_up, o_lit2, o_add, o_sub, o_mul, o_neg, o_div, o_nat, ix_t, o_lt, o_le, o_eq, o_bi0, o_bi1, o_bib, em_t, o_neg1, o_shl, o_tb, o_tb0, o_tt, o_and, o_xor, o_or, o_max, o_min, an_tb, and_true, true_and, not_true, not_false, if_true, if_false, tn_add, tn_mul, Int.reduceToNat, tn_cast, md_x]
          rw [if_neg (fun q => q (by assumption))]
          exact v2 _ rfl
      · refine ⟨-1, V, V, J, ?_, ?_, h0⟩
        · apply sg_150
          refine ⟨_, _, k_44 hR ha, ?_⟩
          simp (disch := omega) only [eV_at, eV_up, o_lit2, o_add, o_sub, o_mul, o_neg, o_div, o_nat, ix_t, o_lt, o_le, o_eq, o_bi0, o_bi1, o_bib, em_t, o_neg1, o_shl, o_tb, o_tb0, o_tt, o_and, o_xor, o_or, o_max, o_min, an_tb, and_true, true_and, not_true, not_false, if_true, if_false, tn_add, tn_mul, Int.reduceToNat, tn_cast, md_x]
          rw [if_neg (fun q => q (by assumption))]
          refine ⟨_, _, k_165 hb, ?_⟩
          simp (disch := omega) only [eV_at, eV_up, o_lit2, o_add, o_sub, o_mul, o_neg, o_div, o_nat, ix_t, o_lt, o_le, o_eq, o_bi0, o_bi1, o_bib, em_t, o_neg1, o_shl, o_tb, o_tb0, o_tt, o_and, o_xor, o_or, o_max, o_min, an_tb, and_true, true_and, not_true, not_false, if_true, if_false, tn_add, tn_mul, Int.reduceToNat, tn_cast, md_x]
          rw [if_neg (fun q => q (by assumption))]
          refine ⟨_, _, k_164 hc (by omega) (by omega), ?_⟩
          simp (disch := omega) only [eV_at, eV_up, o_lit2, o_add, o_sub, o_mul, o_neg, o_div, o_nat, ix_t, o_lt, o_le, o_eq, o_bi0, o_bi1, o_bib, em_t, o_neg1, o_shl, o_tb, o_tb0, o_tt, o_and, o_xor, o_or, o_max, o_min, an_tb, and_true, true_and, not_true, not_false, if_true, if_false, tn_add, tn_mul, Int.reduceToNat, tn_cast, md_x]
          rw [if_pos (by assumption)] <;> trivial
        · apply sg_284
          refine ⟨_, _, _, m_179 hR hA ha, ?_⟩
          simp (disch := omega) only [eV_at, eV_up, o_lit2, o_add, o_sub, o_mul, o_neg, o_div, o_nat, ix_t, o_lt, o_le, o_eq, o_bi0, o_bi1, o_bib, em_t, o_neg1, o_shl, o_tb, o_tb0, o_tt, o_and, o_xor, o_or, o_max, o_min, an_tb, and_true, true_and, not_true, not_false, if_true, if_false, tn_add, tn_mul, Int.reduceToNat, tn_cast, md_x]
          rw [if_neg (fun q => q (by assumption))]
          refine ⟨_, _, _, k_182 hb, ?_⟩
          simp (disch := omega) only [eV_at, eV_up, o_lit2, o_add, o_sub, o_mul, o_neg, o_div, o_nat, ix_t, o_lt, o_le, o_eq, o_bi0, o_bi1, o_bib, em_t, o_neg1, o_shl, o_tb, o_tb0, o_tt, o_and, o_xor, o_or, o_max, o_min, an_tb, and_true, true_and, not_true, not_false, if_true, if_false, tn_add, tn_mul, Int.reduceToNat, tn_cast, md_x]
          rw [if_neg (fun q => q (by assumption))]
          refine ⟨_, _, _, k_177 hc (by omega) (by omega), ?_⟩
          simp (disch := omega) only [eV_at, eV_up, o_lit2, o_add, o_sub, o_mul, o_neg, o_div, o_nat, ix_t, o_lt, o_le, o_eq, o_bi0, o_bi1, o_bib, em_t, o_neg1, o_shl, o_tb, o_tb0, o_tt, o_and, o_xor, o_or, o_max, o_min, an_tb, and_true, true_and, not_true, not_false, if_true, if_false, tn_add, tn_mul, Int.reduceToNat, tn_cast, md_x]
          rw [if_pos (by assumption)] <;> trivial
    · refine ⟨-1, V, V, J, ?_, ?_, h0⟩
      · apply sg_150
        refine ⟨_, _, k_44 hR ha, ?_⟩
        simp (disch := omega) only [eV_at, eV_up, o_lit2, o_add, o_sub, o_mul, o_neg, o_div, o_nat, ix_t, o_lt, o_le, o_eq, o_bi0, o_bi1, o_bib, em_t, o_neg1, o_shl, o_tb, o_tb0, o_tt, o_and, o_xor, o_or, o_max, o_min, an_tb, and_true, true_and, not_true, not_false, if_true, if_false, tn_add, tn_mul, Int.reduceToNat, tn_cast, md_x]
        rw [if_neg (fun q => q (by assumption))]
        refine ⟨_, _, k_165 hb, ?_⟩
        simp (disch := omega) only [eV_at, eV_up, o_lit2, o_add, o_sub, o_mul, o_neg, o_div, o_nat, ix_t, o_lt, o_le, o_eq, o_bi0, o_bi1, o_bib, em_t, o_neg1, o_shl, o_tb, o_tb0, o_tt, o_and, o_xor, o_or, o_max, o_min, an_tb, and_true, true_and, not_true, not_false, if_true, if_false, tn_add, tn_mul, Int.reduceToNat, tn_cast, md_x]
        rw [if_pos (by assumption)] <;> trivial
      · apply sg_284
        refine ⟨_, _, _, m_179 hR hA ha, ?_⟩
        simp (disch := omega) only [eV_at, eV_up, o_lit2, o_add, o_sub, o_mul, o_neg, o_div, o_nat, ix_t, o_lt, o_le, o_eq, o_bi0, o_bi1, o_bib, em_t, o_neg1, o_shl, o_tb, o_tb0, o_tt, o_and, o_xor, o_or, o_max, o_min, an_tb, and_true, true_and, not_true, not_false, if_true, if_false, tn_add, tn_mul, Int.reduceToNat, tn_cast, md_x]
        rw [if_neg (fun q => q (by assumption))]
        refine ⟨_, _, _, k_182 hb, ?_⟩
        simp (disch := omega) only [eV_at, eV_up, o_lit2, o_add, o_sub, o_mul, o_neg, o_div, o_nat, ix_t, o_lt, o_le, o_eq, o_bi0, o_bi1, o_bib, em_t, o_neg1, o_shl, o_tb, o_tb0, o_tt, o_and, o_xor, o_or, o_max, o_min, an_tb, and_true, true_and, not_true, not_false, if_true, if_false, tn_add, tn_mul, Int.reduceToNat, tn_cast, md_x]
        rw [if_pos (by assumption)] <;> trivial
  · refine ⟨-1, V, V, J, ?_, ?_, h0⟩
    · apply sg_150
      refine ⟨_, _, k_44 hR ha, ?_⟩
      simp (disch := omega) only [eV_at, eV_up, o_lit2, o_add, o_sub, o_mul, o_neg, o_div, o_nat, ix_t, o_lt, o_le, o_eq, o_bi0, o_bi1, o_bib, em_t, o_neg1, o_shl, o_tb, o_tb0, o_tt, o_and, o_xor, o_or, o_max, o_min, an_tb, and_true, true_and, not_true, not_false, if_true, if_false, tn_add, tn_mul, Int.reduceToNat, tn_cast, md_x]
      rw [if_pos (by assumption)] <;> trivial
    · apply sg_284
      refine ⟨_, _, _, m_179 hR hA ha, ?_⟩
      simp (disch := omega) only [eV_at, eV_up, o_lit2, o_add, o_sub, o_mul, o_neg, o_div, o_nat, ix_t, o_lt, o_le, o_eq, o_bi0, o_bi1, o_bib, em_t, o_neg1, o_shl, o_tb, o_tb0, o_tt, o_and, o_xor, o_or, o_max, o_min, an_tb, and_true, true_and, not_true, not_false, if_true, if_false, tn_add, tn_mul, Int.reduceToNat, tn_cast, md_x]
      rw [if_pos (by assumption)] <;> trivial
