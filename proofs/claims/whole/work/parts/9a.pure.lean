/-! weeks, means, answer. -/
theorem fdd_0 (fd : Int) : ∀ n, fdd fd 0 n = 0
  | 0 => rfl
  | n + 1 => by unfold fdd; rw [fdd_0 fd n]; simp
theorem k_281x {L d : Nat} {xs : Nat → Int32} {V : Nat → Nat → Int} {J : Nat → Nat → Int64} {tg : Option Nat} (m : Int32) {n : Nat} (hn : n ≤ 50) : ∃ v : Int, Runs (GW L xs) (d) 281 (0, [.ref 93, .int m, (Value.int (Int32.ofInt (n))), vU, vU], [], zS (eV (V)) J tg) (some (Value.int (Int32.ofInt (v))), zS (eV (V)) J tg) := by
  obtain ⟨s, _, hr⟩ := loopN (g := GW L xs) (d := d) (mid := 281) (σ := Int32) (fun i s => (5, [.ref 93, .int m, (Value.int (Int32.ofInt (n))), .int s, (Value.int (Int32.ofInt (i)))], [], zS (eV V) J tg)) (fun _ _ => True) n (by
    intro i s hi _
    refine ⟨s - (s * (eV V 94 15)) / 1000, trivial, fun r hr => ?_⟩
    apply sg_281_5
    rw [if_neg (by rw [o_le (by omega) (by omega)]; omega)]
    have e : Int32.ofInt (i : Int) + 1 = Int32.ofInt ((i + 1 : Nat) : Int) := by rw [show (1 : Int32) = Int32.ofInt 1 from rfl, o_add]; rfl
    rw [e]
    exact hr) n 0 m (by omega) trivial
  refine ⟨s.toInt, sg_281 _ _ _ _ _ (hr _ ?_)⟩
  apply sg_281_5
  rw [if_pos (by rw [o_le (by omega) (by omega)]; omega), Int32.ofInt_toInt]
theorem k_149 {L : Nat} {xs : Nat → Int32} {V : Nat → Nat → Int} {J : Nat → Nat → Int64} {tg : Option Nat} (hR : RNG V) {n : Nat} (hn : n ≤ 50) : ∃ W, (∀ c, c ≠ 12 → W c = V c) ∧ (∀ p, W 12 p = if p < 72 then fdd (V 7 3) (V 12 p) n else V 12 p) ∧ Runs (GW L xs) 40 149 (14, [.ref 0, (Value.int (Int32.ofInt (n))), (Value.int (Int32.ofInt (0)))], [], zS (eV V) J tg) (some (Value.int (Int32.ofInt (n))), zS (eV W) J tg) := by
  have rf : 0 ≤ V 7 3 ∧ V 7 3 ≤ 1000 := hR 7 3 (by decide) (by decide)
  obtain ⟨W, ⟨i1, i2⟩, hr⟩ := loopN (g := GW L xs) (d := 40) (mid := 149) (σ := Nat → Nat → Int) (fun i W => (14, [.ref 0, (Value.int (Int32.ofInt (n))), (Value.int (Int32.ofInt (i)))], [], zS (eV W) J tg)) (fun i W => (∀ c, c ≠ 12 → W c = V c) ∧ ∀ p, W 12 p = if p < i then fdd (V 7 3) (V 12 p) n else V 12 p) 72 (by
    intro i W hi ⟨i1, i2⟩
    have rm : 0 ≤ V 12 i ∧ V 12 i ≤ 1000 := hR 12 i (by decide) (by decide)
    have e12 : W 12 i = V 12 i := by rw [i2, if_neg (by omega)]
    have hRW : RNG W := by
      intro c p q1 q2
      by_cases q : c = 12
      · subst q
        have rp : 0 ≤ V 12 p ∧ V 12 p ≤ 1000 := hR 12 p (by decide) (by decide)
        rw [i2]; split
        · exact fdd_rg rf rp n
        · exact rp
      · rw [i1 c q]; exact hR c p q1 q2
    have k1 := k_111 (L := L) (xs := xs) (J := J) (tg := tg) (d := 39) hRW rm (n := n) hn
    rw [i1 7 (by decide)] at k1
    refine ⟨up2 W 12 i (fdd (V 7 3) (V 12 i) n), ⟨fun c q => by rw [w_ne _ _ _ _ q]; exact i1 c q, fun p => ?_⟩, fun r hr => ?_⟩
    · rw [w_at, i2]
      by_cases q : p = i
      · subst q; rw [if_pos rfl, if_pos (by omega)]
      · rw [if_neg q]
        by_cases q2 : p < i
        · rw [if_pos q2, if_pos (by omega)]
        · rw [if_neg q2, if_neg (by omega)]
    · apply sg_149_14
      simp (disch := omega) only [e12, o_nI, eV_at, eV_up, o_lit2, o_add, o_sub, o_mul, o_neg, o_div, o_nat, ix_t, o_lt, o_le, o_eq, o_bi0, o_bi1, o_bib, em_t, o_neg1, o_shl, o_tb, o_tb0, o_tt, o_and, o_xor, o_or, o_max, o_min, an_tb, and_true, true_and, not_true, not_false, if_true, if_false, tn_add, tn_mul, Int.reduceToNat, tn_cast, md_x]
      rw [if_neg (by omega)]
      refine ⟨_, _, k1, ?_⟩
      simp (disch := omega) only [eV_at, eV_up, o_lit2, o_add, o_sub, o_mul, o_neg, o_div, o_nat, ix_t, o_lt, o_le, o_eq, o_bi0, o_bi1, o_bib, em_t, o_neg1, o_shl, o_tb, o_tb0, o_tt, o_and, o_xor, o_or, o_max, o_min, an_tb, and_true, true_and, not_true, not_false, if_true, if_false, tn_add, tn_mul, Int.reduceToNat, tn_cast, md_x]
      exact hr) 72 0 V (by omega) ⟨fun _ _ => rfl, fun p => by rw [if_neg (by omega)]⟩
  refine ⟨W, i1, i2, hr _ ?_⟩
  apply sg_149_14
  simp (disch := omega) only [o_nI, eV_at, eV_up, o_lit2, o_add, o_sub, o_mul, o_neg, o_div, o_nat, ix_t, o_lt, o_le, o_eq, o_bi0, o_bi1, o_bib, em_t, o_neg1, o_shl, o_tb, o_tb0, o_tt, o_and, o_xor, o_or, o_max, o_min, an_tb, and_true, true_and, not_true, not_false, if_true, if_false, tn_add, tn_mul, Int.reduceToNat, tn_cast, md_x]
  rw [if_pos (by omega)] <;> trivial
theorem k_283 {L : Nat} {xs : Nat → Int32} {V : Nat → Nat → Int} {J : Nat → Nat → Int64} {tg : Option Nat} (rf : 0 ≤ V 94 15 ∧ V 94 15 ≤ 1000) {n : Nat} (hn : n ≤ 50) : ∃ W, (∀ c, c ≠ 94 → W c = V c) ∧ (∀ p, ¬ (600 ≤ p ∧ p < 672) → W 94 p = V 94 p) ∧ (∀ k, k < 72 → 0 ≤ V 94 (600 + k) ∧ V 94 (600 + k) ≤ 1000 → W 94 (600 + k) = fdd (V 94 15) (V 94 (600 + k)) n) ∧ Runs (GW L xs) 40 283 (14, [.ref 93, (Value.int (Int32.ofInt (n))), (Value.int (Int32.ofInt (0)))], [], zS (eV V) J tg) (some (Value.int (Int32.ofInt (n))), zS (eV W) J tg) := by
  obtain ⟨W, ⟨i1, i2, i3⟩, hr⟩ := loopN (g := GW L xs) (d := 40) (mid := 283) (σ := Nat → Nat → Int) (fun i W => (14, [.ref 93, (Value.int (Int32.ofInt (n))), (Value.int (Int32.ofInt (i)))], [], zS (eV W) J tg)) (fun i W => (∀ c, c ≠ 94 → W c = V c) ∧ (∀ p, ¬ (600 ≤ p ∧ p < 600 + i) → W 94 p = V 94 p) ∧ (∀ k, k < i → 0 ≤ V 94 (600 + k) ∧ V 94 (600 + k) ≤ 1000 → W 94 (600 + k) = fdd (V 94 15) (V 94 (600 + k)) n)) 72 (by
    intro i W hi ⟨i1, i2, i3⟩
    have e : W 94 (600 + i) = V 94 (600 + i) := i2 _ (by omega)
    have e15 : W 94 15 = V 94 15 := i2 15 (by omega)
    have key : ∃ v : Int, (0 ≤ V 94 (600 + i) ∧ V 94 (600 + i) ≤ 1000 → v = fdd (V 94 15) (V 94 (600 + i)) n) ∧ Runs (GW L xs) (39) 281 (0, [.ref 93, (Value.int (Int32.ofInt (V 94 (600 + i)))), (Value.int (Int32.ofInt (n))), vU, vU], [], zS (eV (W)) J tg) (some (Value.int (Int32.ofInt (v))), zS (eV (W)) J tg) := by
      by_cases q : 0 ≤ V 94 (600 + i) ∧ V 94 (600 + i) ≤ 1000
      · have := k_281 (L := L) (xs := xs) (J := J) (tg := tg) (d := 39) (V := W) (by rw [e15]; exact rf) q (n := n) hn
        rw [e15] at this
        exact ⟨_, fun _ => rfl, this⟩
      · obtain ⟨v, hv⟩ := k_281x (L := L) (xs := xs) (J := J) (tg := tg) (d := 39) (V := W) (Int32.ofInt (V 94 (600 + i))) (n := n) hn
        exact ⟨v, fun h => absurd h q, hv⟩
    obtain ⟨v, v1, v2⟩ := key
    refine ⟨up2 W 94 (600 + i) v, ⟨fun c q => by rw [w_ne _ _ _ _ q]; exact i1 c q, fun p q => by rw [w_at, if_neg (by omega)]; exact i2 p (by omega), fun k hk hr => ?_⟩, fun r hr => ?_⟩
    · rw [w_at]
      by_cases q : k = i
      · subst q; rw [if_pos rfl]; exact v1 hr
      · rw [if_neg (by omega)]; exact i3 k (by omega) hr
    · apply sg_283_14
      simp (disch := omega) only [e, eV_at, eV_up, o_lit2, o_add, o_sub, o_mul, o_neg, o_div, o_nat, ix_t, o_lt, o_le, o_eq, o_bi0, o_bi1, o_bib, em_t, o_neg1, o_shl, o_tb, o_tb0, o_tt, o_and, o_xor, o_or, o_max, o_min, an_tb, and_true, true_and, not_true, not_false, if_true, if_false, tn_add, tn_mul, Int.reduceToNat, tn_cast, md_x]
      rw [if_neg (by omega)]
      refine ⟨_, _, _, v2, ?_⟩
      simp (disch := omega) only [eV_at, eV_up, o_lit2, o_add, o_sub, o_mul, o_neg, o_div, o_nat, ix_t, o_lt, o_le, o_eq, o_bi0, o_bi1, o_bib, em_t, o_neg1, o_shl, o_tb, o_tb0, o_tt, o_and, o_xor, o_or, o_max, o_min, an_tb, and_true, true_and, not_true, not_false, if_true, if_false, tn_add, tn_mul, Int.reduceToNat, tn_cast, md_x]
      exact hr) 72 0 V (by omega) ⟨fun _ _ => rfl, fun _ _ => rfl, fun k hk => by omega⟩
  refine ⟨W, i1, i2, i3, hr _ ?_⟩
  apply sg_283_14
  simp (disch := omega) only [eV_at, eV_up, o_lit2, o_add, o_sub, o_mul, o_neg, o_div, o_nat, ix_t, o_lt, o_le, o_eq, o_bi0, o_bi1, o_bib, em_t, o_neg1, o_shl, o_tb, o_tb0, o_tt, o_and, o_xor, o_or, o_max, o_min, an_tb, and_true, true_and, not_true, not_false, if_true, if_false, tn_add, tn_mul, Int.reduceToNat, tn_cast, md_x]
  rw [if_pos (by omega)] <;> trivial
theorem c_weeks {L : Nat} {xs : Nat → Int32} {V : Nat → Nat → Int} {J : Nat → Nat → Int64} {tg : Option Nat} (h : INV V) {a : Int} (ha : (-2147483648 ≤ a ∧ a < 2147483648)) : ∃ (v : Int) (U W : Nat → Nat → Int) (J1 : Nat → Nat → Int64), Runs (GW L xs) 40 149 (0, [.ref 0, (Value.int (Int32.ofInt (a))), vU], [], zS (eV V) J tg) (some (Value.int (Int32.ofInt v)), zS (eV U) J tg) ∧ Runs (GW L xs) 40 283 (0, [.ref 93, (Value.int (Int32.ofInt (a))), vU], [], zS (eV U) J tg) (some (Value.int (Int32.ofInt v)), zS (eV W) J1 tg) ∧ INV W := by
  have h0 := h
  obtain ⟨hR, ⟨hA, hB, hC, hD, hE, hF, hH⟩, h2, h3, h4, h5⟩ := h
  have rD : 0 ≤ V 1 0 ∧ V 1 0 ≤ 12 := hR 1 0 (by decide) (by decide)
  have rT : 0 ≤ V 1 1 ∧ V 1 1 ≤ 12 := hR 1 1 (by decide) (by decide)
  have rf : 0 ≤ V 7 3 ∧ V 7 3 ≤ 1000 := hR 7 3 (by decide) (by decide)
  have h15 : V 94 15 = V 7 3 := hE.1.2.2.2.1
  by_cases g1 : 1 ≤ a ∧ a ≤ 50
  · obtain ⟨n, rfl⟩ : ∃ n : Nat, a = n := ⟨a.toNat, by omega⟩
    obtain ⟨U, u1, u2, u3⟩ := k_149 (L := L) (xs := xs) (J := J) (tg := tg) hR (n := n) (by omega)
    obtain ⟨W, w1, w2, w3, w4⟩ := k_283 (L := L) (xs := xs) (V := U) (J := J) (tg := tg) (by rw [u1 94 (by decide), h15]; exact rf) (n := n) (by omega)
    rw [u1 94 (by decide), h15] at w3
    have rm : ∀ p, 0 ≤ V 12 p ∧ V 12 p ≤ 1000 := fun p => hR 12 p (by decide) (by decide)
    refine ⟨n, U, W, J, ?_, ?_, ?_⟩
    · apply sg_149
      simp (disch := omega) only [eV_at, eV_up, o_lit2, o_add, o_sub, o_mul, o_neg, o_div, o_nat, ix_t, o_lt, o_le, o_eq, o_bi0, o_bi1, o_bib, em_t, o_neg1, o_shl, o_tb, o_tb0, o_tt, o_and, o_xor, o_or, o_max, o_min, an_tb, and_true, true_and, not_true, not_false, if_true, if_false, tn_add, tn_mul, Int.reduceToNat, tn_cast, md_x]
      refine ⟨_, _, k_164 ha (by omega) (by omega), ?_⟩
      simp (disch := omega) only [eV_at, eV_up, o_lit2, o_add, o_sub, o_mul, o_neg, o_div, o_nat, ix_t, o_lt, o_le, o_eq, o_bi0, o_bi1, o_bib, em_t, o_neg1, o_shl, o_tb, o_tb0, o_tt, o_and, o_xor, o_or, o_max, o_min, an_tb, and_true, true_and, not_true, not_false, if_true, if_false, tn_add, tn_mul, Int.reduceToNat, tn_cast, md_x]
      rw [if_neg (fun q => q (by assumption))]
      exact u3
    · apply sg_283
      simp (disch := omega) only [eV_at, eV_up, o_lit2, o_add, o_sub, o_mul, o_neg, o_div, o_nat, ix_t, o_lt, o_le, o_eq, o_bi0, o_bi1, o_bib, em_t, o_neg1, o_shl, o_tb, o_tb0, o_tt, o_and, o_xor, o_or, o_max, o_min, an_tb, and_true, true_and, not_true, not_false, if_true, if_false, tn_add, tn_mul, Int.reduceToNat, tn_cast, md_x]
      refine ⟨_, _, _, k_177 ha (by omega) (by omega), ?_⟩
      simp (disch := omega) only [eV_at, eV_up, o_lit2, o_add, o_sub, o_mul, o_neg, o_div, o_nat, ix_t, o_lt, o_le, o_eq, o_bi0, o_bi1, o_bib, em_t, o_neg1, o_shl, o_tb, o_tb0, o_tt, o_and, o_xor, o_or, o_max, o_min, an_tb, and_true, true_and, not_true, not_false, if_true, if_false, tn_add, tn_mul, Int.reduceToNat, tn_cast, md_x]
      rw [if_neg (fun q => q (by assumption))]
      exact w4
    · have f : ∀ x, x ≠ 12 ∧ x ≠ 94 → W x = V x := fun x q => by rw [w1 x q.2, u1 x q.1]
      have f12 : ∀ p, W 12 p = if p < 72 then fdd (V 7 3) (V 12 p) n else V 12 p := fun p => by rw [w1 12 (by decide), u2]
      have f94 : ∀ p, ¬ (600 ≤ p ∧ p < 672) → W 94 p = V 94 p := fun p q => by rw [w2 p q, u1 94 (by decide)]
      have hRW : RNG W := by
        intro c p q1 q2
        by_cases q : c = 12
        · subst q
          rw [f12]; split
          · exact fdd_rg rf (rm p) n
          · exact rm p
        · rw [f c (by omega)]; exact hR c p q1 q2
      refine ⟨hRW, ⟨(hA.up (fun p _ => by rw [f 1 (by omega)]) (fun p q => f94 p (by omega))), (hB.up hR (by rw [f 1 (by omega)]) (by rw [f 1 (by omega)]) (f 2 (by omega)) (f 3 (by omega)) (f 4 (by omega)) (fun l w _ _ => f94 _ (by omega))), ?_, ?_, (hE.up (by rw [f 1 (by omega)]) (f 7 (by omega)) (f 8 (by omega)) (f 9 (by omega)) (f 10 (by omega)) (f 11 (by omega)) (fun p _ => f94 _ (by omega))), (hF.up hR (by rw [f 1 (by omega)]) (by rw [f 1 (by omega)]) (by rw [f 7 (by omega)]) (fun x _ _ => f x (by omega)) (fun p _ => f94 _ (by omega))), (hH.up hR (by rw [f 1 (by omega)]) (fun x _ _ => f x (by omega)) (fun p _ => f94 _ (by omega)))⟩, (h2.fr fun x _ => f x (by omega)), (h3.up (f 1 (by omega)) (f 2 (by omega)) (f 3 (by omega)) (f 4 (by omega)) (f 71 (by omega)) (f 81 (by omega))), (h4.fr (fun x _ => f x (by omega)) (by rw [f 93 (by omega)]) (by rw [f 93 (by omega)]) (by rw [f 93 (by omega)])), (h5.fr hR fun x _ => f x (by omega))⟩
      · intro l hl
        rw [f 1 (by omega)] at hl
        obtain ⟨b1, b2, b3⟩ := hC l hl
        rw [f94 _ (by omega), f94 _ (by omega), f (1 + 4) (by omega), f (1 + 5) (by omega)]
        refine ⟨b1, b2, fun j hj => ?_⟩
        have f12' : W (7 + 5) (l * 6 + j) = if l * 6 + j < 72 then fdd (V 7 3) (V 12 (l * 6 + j)) n else V 12 (l * 6 + j) := f12 _
        have b3' : V 94 (600 + (6 * l + j)) = V 12 (l * 6 + j) := by rw [← Nat.add_assoc]; exact b3 j hj
        rw [f12', if_pos (by omega), Nat.add_assoc, w3 (6 * l + j) (by omega) (by rw [b3']; exact rm _), b3']
      · refine ⟨?_, fun l hl ht => ?_⟩
        · rw [f 1 (by omega), f (1 + 2) (by omega), f (1 + 3) (by omega)]; exact hD.1
        · rw [f 1 (by omega)] at ht
          obtain ⟨b1, b2, b3⟩ := hD.2 l hl ht
          rw [f (1 + 4) (by omega), f (1 + 5) (by omega)]
          refine ⟨b1, b2, fun j hj => ?_⟩
          have f12' : W (7 + 5) (l * 6 + j) = if l * 6 + j < 72 then fdd (V 7 3) (V 12 (l * 6 + j)) n else V 12 (l * 6 + j) := f12 _
          have b3' : V 12 (l * 6 + j) = 0 := b3 j hj
          rw [f12', b3', fdd_0]; simp
  · refine ⟨-1, V, V, J, ?_, ?_, h0⟩
    · apply sg_149
      simp (disch := omega) only [eV_at, eV_up, o_lit2, o_add, o_sub, o_mul, o_neg, o_div, o_nat, ix_t, o_lt, o_le, o_eq, o_bi0, o_bi1, o_bib, em_t, o_neg1, o_shl, o_tb, o_tb0, o_tt, o_and, o_xor, o_or, o_max, o_min, an_tb, and_true, true_and, not_true, not_false, if_true, if_false, tn_add, tn_mul, Int.reduceToNat, tn_cast, md_x]
      refine ⟨_, _, k_164 ha (by omega) (by omega), ?_⟩
      simp (disch := omega) only [eV_at, eV_up, o_lit2, o_add, o_sub, o_mul, o_neg, o_div, o_nat, ix_t, o_lt, o_le, o_eq, o_bi0, o_bi1, o_bib, em_t, o_neg1, o_shl, o_tb, o_tb0, o_tt, o_and, o_xor, o_or, o_max, o_min, an_tb, and_true, true_and, not_true, not_false, if_true, if_false, tn_add, tn_mul, Int.reduceToNat, tn_cast, md_x]
      rw [if_pos (by assumption)] <;> trivial
    · apply sg_283
      simp (disch := omega) only [eV_at, eV_up, o_lit2, o_add, o_sub, o_mul, o_neg, o_div, o_nat, ix_t, o_lt, o_le, o_eq, o_bi0, o_bi1, o_bib, em_t, o_neg1, o_shl, o_tb, o_tb0, o_tt, o_and, o_xor, o_or, o_max, o_min, an_tb, and_true, true_and, not_true, not_false, if_true, if_false, tn_add, tn_mul, Int.reduceToNat, tn_cast, md_x]
      refine ⟨_, _, _, k_177 ha (by omega) (by omega), ?_⟩
      simp (disch := omega) only [eV_at, eV_up, o_lit2, o_add, o_sub, o_mul, o_neg, o_div, o_nat, ix_t, o_lt, o_le, o_eq, o_bi0, o_bi1, o_bib, em_t, o_neg1, o_shl, o_tb, o_tb0, o_tt, o_and, o_xor, o_or, o_max, o_min, an_tb, and_true, true_and, not_true, not_false, if_true, if_false, tn_add, tn_mul, Int.reduceToNat, tn_cast, md_x]
      rw [if_pos (by assumption)] <;> trivial
