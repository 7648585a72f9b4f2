/-! look. -/
theorem k_186z {L d : Nat} {xs : Nat → Int32} {V : Nat → Nat → Int} {J : Nat → Nat → Int64} {tg : Option Nat} {x1 x2 : Int32} {l : Nat} (hl : l < 24) : ∃ W, (∀ c, c ≠ 94 → W c = V c) ∧ (∀ p, ¬ (20 + 22 * l ≤ p ∧ p < 20 + 22 * l + 22) → W 94 p = V 94 p) ∧ (∀ w, w < 22 → W 94 (20 + 22 * l + w) = if w = 2 then -1 else 0) ∧ Rch (GW L xs) d 186 (55, [.ref 93, .int x1, .int x2, (Value.int (Int32.ofInt (20 + 22 * l))), (Value.int (Int32.ofInt (0)))], [], zS (eV V) J tg) (90, [.ref 93, .int x1, .int x2, (Value.int (Int32.ofInt (20 + 22 * l))), (Value.int (Int32.ofInt (0)))], [], zS (eV W) J tg) := by
  obtain ⟨U, ⟨i1, i2, i3⟩, hr⟩ := loopN (g := GW L xs) (d := d) (mid := 186) (σ := Nat → Nat → Int) (fun i U => (55, [.ref 93, .int x1, .int x2, (Value.int (Int32.ofInt (20 + 22 * l))), (Value.int (Int32.ofInt (i)))], [], zS (eV U) J tg)) (fun i U => (∀ c, c ≠ 94 → U c = V c) ∧ (∀ p, ¬ (20 + 22 * l ≤ p ∧ p < 20 + 22 * l + i) → U 94 p = V 94 p) ∧ (∀ w, w < i → U 94 (20 + 22 * l + w) = 0)) 22 (by
    intro i U hi ⟨i1, i2, i3⟩
    refine ⟨up2 U 94 (20 + 22 * l + i) 0, ⟨fun c q => by rw [w_ne _ _ _ _ q]; exact i1 c q, fun p q => by rw [w_at, if_neg (by omega)]; exact i2 p (by omega), fun w hw => ?_⟩, fun r hr => ?_⟩
    · rw [w_at]
      by_cases q : w = i
      · subst q; rw [if_pos rfl]
      · rw [if_neg (by omega)]; exact i3 w (by omega)
    · apply sg_186_55
      simp (disch := omega) only [eV_at, eV_up, o_lit2, o_add, o_sub, o_mul, o_neg, o_div, o_nat, ix_t, o_lt, o_le, o_eq, o_bi0, o_bi1, o_bib, em_t, o_neg1, o_shl, o_tb, o_tb0, o_tt, o_and, o_xor, o_or, o_max, o_min, an_tb, and_true, true_and, not_true, not_false, if_true, if_false, tn_add, tn_mul, Int.reduceToNat, tn_cast, md_x]
      repeat (first | rw [if_pos (by omega)] | rw [if_neg (by omega)])
      exact hr) 22 0 V (by omega) ⟨fun _ _ => rfl, fun _ _ => rfl, fun w hw => by omega⟩
  refine ⟨up2 U 94 (20 + 22 * l + 2) (-1), fun c q => by rw [w_ne _ _ _ _ q]; exact i1 c q, fun p q => by rw [w_at, if_neg (by omega)]; exact i2 p (by omega), fun w hw => ?_, fun r h => hr r ?_⟩
  · rw [w_at]
    by_cases q : w = 2
    · subst q; rw [if_pos rfl, if_pos rfl]
    · rw [if_neg (by omega), if_neg q]; exact i3 w hw
  · apply sg_186_55
    simp (disch := omega) only [eV_at, eV_up, o_lit2, o_add, o_sub, o_mul, o_neg, o_div, o_nat, ix_t, o_lt, o_le, o_eq, o_bi0, o_bi1, o_bib, em_t, o_neg1, o_shl, o_tb, o_tb0, o_tt, o_and, o_xor, o_or, o_max, o_min, an_tb, and_true, true_and, not_true, not_false, if_true, if_false, tn_add, tn_mul, Int.reduceToNat, tn_cast, md_x]
    repeat (first | rw [if_pos (by omega)] | rw [if_neg (by omega)])
    exact h
theorem k_186d {L d : Nat} {xs : Nat → Int32} {V : Nat → Nat → Int} {J : Nat → Nat → Int64} {tg : Option Nat} {n : Nat} (hn : V 94 1 = n) (h12 : n < 12) : ∃ W, (∀ c, c ≠ 94 → W c = V c) ∧ (∀ p, p ≠ 1 ∧ ¬ (20 + 22 * n ≤ p ∧ p < 20 + 22 * n + 22) ∧ ¬ (600 + 6 * n ≤ p ∧ p < 600 + 6 * n + 6) → W 94 p = V 94 p) ∧ W 94 1 = (n : Int) + 1 ∧ (∀ w, w < 22 → W 94 (20 + 22 * n + w) = if w = 2 then -1 else 0) ∧ (∀ k, k < 6 → W 94 (600 + 6 * n + k) = 0) ∧ Runs (GW L xs) (d) 186 (0, [.ref 93, (Value.int (Int32.ofInt (0))), vU, vU, vU], [], zS (eV (V)) J tg) (some (Value.int (Int32.ofInt (n))), zS (eV (W)) J tg) := by
  obtain ⟨A, a1, a2, a3, a4⟩ := k_186z (L := L) (xs := xs) (V := V) (J := J) (tg := tg) (d := d) (x1 := Int32.ofInt 0) (x2 := Int32.ofInt n) (l := n) (by omega)
  obtain ⟨U, ⟨i1, i2, i3⟩, hr⟩ := loopN (g := GW L xs) (d := d) (mid := 186) (σ := Nat → Nat → Int) (fun i U => (90, [.ref 93, (Value.int (Int32.ofInt (0))), (Value.int (Int32.ofInt (n))), (Value.int (Int32.ofInt (20 + 22 * n))), (Value.int (Int32.ofInt (i)))], [], zS (eV U) J tg)) (fun i U => (∀ c, c ≠ 94 → U c = A c) ∧ (∀ p, ¬ (600 + 6 * n ≤ p ∧ p < 600 + 6 * n + i) → U 94 p = A 94 p) ∧ (∀ w, w < i → U 94 (600 + 6 * n + w) = 0)) 6 (by
    intro i U hi ⟨i1, i2, i3⟩
    refine ⟨up2 U 94 (600 + 6 * n + i) 0, ⟨fun c q => by rw [w_ne _ _ _ _ q]; exact i1 c q, fun p q => by rw [w_at, if_neg (by omega)]; exact i2 p (by omega), fun w hw => ?_⟩, fun r hr => ?_⟩
    · rw [w_at]
      by_cases q : w = i
      · subst q; rw [if_pos rfl]
      · rw [if_neg (by omega)]; exact i3 w (by omega)
    · apply sg_186_90
      simp (disch := omega) only [eV_at, eV_up, o_lit2, o_add, o_sub, o_mul, o_neg, o_div, o_nat, ix_t, o_lt, o_le, o_eq, o_bi0, o_bi1, o_bib, em_t, o_neg1, o_shl, o_tb, o_tb0, o_tt, o_and, o_xor, o_or, o_max, o_min, an_tb, and_true, true_and, not_true, not_false, if_true, if_false, tn_add, tn_mul, Int.reduceToNat, tn_cast, md_x]
      repeat (first | rw [if_pos (by omega)] | rw [if_neg (by omega)])
      exact hr) 6 0 A (by omega) ⟨fun _ _ => rfl, fun _ _ => rfl, fun w hw => by omega⟩
  have e1 : U 94 1 = n := by rw [i2 1 (by omega), a2 1 (by omega), hn]
  refine ⟨up2 U 94 1 (n + 1), fun c q => by rw [w_ne _ _ _ _ q, i1 c q, a1 c q], fun p q => by rw [w_at, if_neg q.1, i2 p q.2.2, a2 p q.2.1], w_eq _ _ _ _, fun w hw => by rw [w_at, if_neg (by omega), i2 _ (by omega)]; exact a3 w hw, fun k hk => by rw [w_at, if_neg (by omega)]; exact i3 k hk, ?_⟩
  apply sg_186
  simp (disch := omega) only [hn, eV_at, eV_up, o_lit2, o_add, o_sub, o_mul, o_neg, o_div, o_nat, ix_t, o_lt, o_le, o_eq, o_bi0, o_bi1, o_bib, em_t, o_neg1, o_shl, o_tb, o_tb0, o_tt, o_and, o_xor, o_or, o_max, o_min, an_tb, and_true, true_and, not_true, not_false, if_true, if_false, tn_add, tn_mul, Int.reduceToNat, tn_cast, md_x]
  repeat (first | rw [if_pos (by omega)] | rw [if_neg (by omega)])
  refine a4 _ (hr _ ?_)
  apply sg_186_90
  simp (disch := omega) only [e1, eV_at, eV_up, o_lit2, o_add, o_sub, o_mul, o_neg, o_div, o_nat, ix_t, o_lt, o_le, o_eq, o_bi0, o_bi1, o_bib, em_t, o_neg1, o_shl, o_tb, o_tb0, o_tt, o_and, o_xor, o_or, o_max, o_min, an_tb, and_true, true_and, not_true, not_false, if_true, if_false, tn_add, tn_mul, Int.reduceToNat, tn_cast, md_x]
  (repeat (first | rw [if_pos (by omega)] | rw [if_neg (by omega)])) <;> trivial
theorem k_186t {L d : Nat} {xs : Nat → Int32} {V : Nat → Nat → Int} {J : Nat → Nat → Int64} {tg : Option Nat} {n : Nat} (hn : V 94 2 = n) (h12 : n < 12) : ∃ W, (∀ c, c ≠ 94 → W c = V c) ∧ (∀ p, p ≠ 2 ∧ ¬ (20 + 22 * (12 + n) ≤ p ∧ p < 20 + 22 * (12 + n) + 22) → W 94 p = V 94 p) ∧ W 94 2 = (n : Int) + 1 ∧ (∀ w, w < 22 → W 94 (20 + 22 * (12 + n) + w) = if w = 2 then -1 else 0) ∧ Runs (GW L xs) (d) 186 (0, [.ref 93, (Value.int (Int32.ofInt (1))), vU, vU, vU], [], zS (eV (V)) J tg) (some (Value.int (Int32.ofInt (12 + n))), zS (eV (W)) J tg) := by
  obtain ⟨A, a1, a2, a3, a4⟩ := k_186z (L := L) (xs := xs) (V := V) (J := J) (tg := tg) (d := d) (x1 := Int32.ofInt 1) (x2 := Int32.ofInt (12 + n)) (l := 12 + n) (by omega)
  have e1 : A 94 2 = n := by rw [a2 2 (by omega), hn]
  refine ⟨up2 A 94 2 (n + 1), fun c q => by rw [w_ne _ _ _ _ q, a1 c q], fun p q => by rw [w_at, if_neg q.1, a2 p q.2], w_eq _ _ _ _, fun w hw => by rw [w_at, if_neg (by omega)]; exact a3 w hw, ?_⟩
  apply sg_186
  simp (disch := omega) only [hn, eV_at, eV_up, o_lit2, o_add, o_sub, o_mul, o_neg, o_div, o_nat, ix_t, o_lt, o_le, o_eq, o_bi0, o_bi1, o_bib, em_t, o_neg1, o_shl, o_tb, o_tb0, o_tt, o_and, o_xor, o_or, o_max, o_min, an_tb, and_true, true_and, not_true, not_false, if_true, if_false, tn_add, tn_mul, Int.reduceToNat, tn_cast, md_x]
  repeat (first | rw [if_pos (by omega)] | rw [if_neg (by omega)])
  refine a4 _ ?_
  apply sg_186_90
  simp (disch := omega) only [e1, eV_at, eV_up, o_lit2, o_add, o_sub, o_mul, o_neg, o_div, o_nat, ix_t, o_lt, o_le, o_eq, o_bi0, o_bi1, o_bib, em_t, o_neg1, o_shl, o_tb, o_tb0, o_tt, o_and, o_xor, o_or, o_max, o_min, an_tb, and_true, true_and, not_true, not_false, if_true, if_false, tn_add, tn_mul, Int.reduceToNat, tn_cast, md_x]
  (repeat (first | rw [if_pos (by omega)] | rw [if_neg (by omega)])) <;> trivial
theorem c_lookd {L : Nat} {xs : Nat → Int32} {V : Nat → Nat → Int} {J : Nat → Nat → Int64} {tg : Option Nat} (h : INV V) : ∃ (v : Int) (U W : Nat → Nat → Int) (J1 : Nat → Nat → Int64), Runs (GW L xs) 40 116 (0, [.ref 0, (Value.int (Int32.ofInt (0)))], [], zS (eV V) J tg) (some (Value.int (Int32.ofInt v)), zS (eV U) J tg) ∧ Runs (GW L xs) 40 186 (0, [.ref 93, (Value.int (Int32.ofInt (0))), vU, vU, vU], [], zS (eV U) J tg) (some (Value.int (Int32.ofInt v)), zS (eV W) J1 tg) ∧ INV W := by
  have h0 := h
  obtain ⟨hR, ⟨hA, hB, hC, hD, hE, hF, hH⟩, h2, h3, h4, h5⟩ := h
  have rD : 0 ≤ V 1 0 ∧ V 1 0 ≤ 12 := hR 1 0 (by decide) (by decide)
  have rT : 0 ≤ V 1 1 ∧ V 1 1 ≤ 12 := hR 1 1 (by decide) (by decide)
  obtain ⟨n, hn⟩ : ∃ n : Nat, V 1 0 = n := ⟨(V 1 0).toNat, by omega⟩
  have h941 : V 94 1 = n := by rw [hA.1, hn]
  by_cases g1 : n < 12
  · have e : ∀ x, x ≠ 1 → up2 V 1 0 (n + 1) x = V x := fun x q => w_ne _ _ _ _ q
    obtain ⟨W, w1, w2, w3, w4, w5, w6⟩ := k_186d (L := L) (xs := xs) (V := up2 V 1 0 (n + 1)) (J := J) (tg := tg) (d := 40) (n := n) (by rw [e 94 (by decide)]; exact h941) g1
    refine ⟨n, up2 V 1 0 (n + 1), W, J, ?_, w6, ?_⟩
    · apply sg_116
      simp (disch := omega) only [hn, w_eq, w_nc, w_ne2, eV_at, eV_up, o_lit2, o_add, o_sub, o_mul, o_neg, o_div, o_nat, ix_t, o_lt, o_le, o_eq, o_bi0, o_bi1, o_bib, em_t, o_neg1, o_shl, o_tb, o_tb0, o_tt, o_and, o_xor, o_or, o_max, o_min, an_tb, and_true, true_and, not_true, not_false, if_true, if_false, tn_add, tn_mul, Int.reduceToNat, tn_cast, md_x]
      repeat (first | rw [if_pos (by omega)] | rw [if_neg (by omega)])
      exact leafI (by omega)
    · have f : ∀ x, x ≠ 1 ∧ x ≠ 94 → W x = V x := fun x q => by rw [w1 x q.2, e x q.1]
      have f1 : ∀ x, W 1 x = if x = 0 then (n : Int) + 1 else V 1 x := fun x => by rw [w1 1 (by decide), w_at]
      have f10 : W 1 0 = n + 1 := by rw [f1]; rfl
      have f11 : W 1 1 = V 1 1 := by rw [f1]; rfl
      have f94 : ∀ p, p ≠ 1 ∧ ¬ (20 + 22 * n ≤ p ∧ p < 20 + 22 * n + 22) ∧ ¬ (600 + 6 * n ≤ p ∧ p < 600 + 6 * n + 6) → W 94 p = V 94 p := fun p q => by rw [w2 p q, e 94 (by decide)]
      have hRW : RNG W := (hR.up (c := 1) (p := 0) (z := n + 1) (by show (0 : Int) ≤ _ ∧ _ ≤ (12 : Int); omega)).fr fun x q => w1 x (by omega)
      refine ⟨hRW, ⟨?_, ?_, ?_, ?_, hE.up f11 (f 7 (by omega)) (f 8 (by omega)) (f 9 (by omega)) (f 10 (by omega)) (f 11 (by omega)) (fun p _ => f94 _ (by omega)), ?_, ?_⟩, (h2.fr fun x _ => f x (by omega)), ?_, (h4.fr (fun x _ => f x (by omega)) (by rw [f 93 (by omega)]) (by rw [f 93 (by omega)]) (by rw [f 93 (by omega)])), (h5.fr hR fun x _ => f x (by omega))⟩
      · unfold RA
        rw [w3, f10, f11, f94 2 (by omega), f94 8 (by omega), f94 9 (by omega), f94 10 (by omega), f94 11 (by omega), f1, f1, f1, f1]
        exact ⟨rfl, hA.2⟩
      · intro l hl
        rw [f10, f11] at hl
        rw [f (1 + 2) (by omega), f (1 + 3) (by omega), f (1 + 1) (by omega)]
        have r3 : 0 ≤ V 3 l ∧ V 3 l ≤ 6 := hR 3 l (by decide) (by decide)
        by_cases q : l = n
        · subst q
          obtain ⟨c1, c2⟩ := hD.1 l (by omega) (by omega)
          rw [c1, c2]
          exact ⟨w4 0 (by omega), w4 1 (by omega), fun j hj => by omega⟩
        · obtain ⟨b1, b2, b3⟩ := hB l (by omega)
          rw [f94 _ (by omega), f94 _ (by omega)]
          refine ⟨b1, b2, fun j hj => ?_⟩
          have hj' : (j : Int) < V 3 l := hj
          rw [f94 _ (by omega)]; exact b3 j hj
      · intro l hl
        rw [f10] at hl
        rw [f (1 + 4) (by omega), f (1 + 5) (by omega), f (7 + 5) (by omega)]
        by_cases q : l = n
        · subst q
          obtain ⟨c1, c2, c3⟩ := hD.2 l (by omega) (by omega)
          rw [c1, c2, w4 2 (by omega), w4 3 (by omega)]
          refine ⟨by decide, by decide, fun k hk => ?_⟩
          rw [c3 k hk, w5 k hk]
        · obtain ⟨b1, b2, b3⟩ := hC l (by omega)
          rw [f94 _ (by omega), f94 _ (by omega)]
          exact ⟨b1, b2, fun k hk => by rw [f94 _ (by omega)]; exact b3 k hk⟩
      · refine ⟨fun l hl ht => ?_, fun l hl ht => ?_⟩
        · rw [f10, f11] at ht
          rw [f (1 + 2) (by omega), f (1 + 3) (by omega)]
          exact hD.1 l hl (by omega)
        · rw [f10] at ht
          rw [f (1 + 4) (by omega), f (1 + 5) (by omega), f (7 + 5) (by omega)]
          exact hD.2 l hl (by omega)
      · intro k hk
        rw [f 7 (by omega)] at hk
        have r5 : 0 ≤ V 7 5 ∧ V 7 5 ≤ 60 := hR 7 5 (by decide) (by decide)
        rw [f94 _ (by omega), f94 _ (by omega), f94 _ (by omega), f94 _ (by omega), f94 _ (by omega), f10, f11, f (7 + 6) (by omega), f (7 + 7) (by omega), f (7 + 8) (by omega), f (7 + 9) (by omega), f (7 + 10) (by omega)]
        have := hF k hk
        exact ⟨this.1, by omega, this.2.2⟩
      · obtain ⟨e1, e2, e3, e4⟩ := hH
        have r2 : 0 ≤ V 18 2 ∧ V 18 2 ≤ 10 := hR 18 2 (by decide) (by decide)
        have r3 : 0 ≤ V 18 3 ∧ V 18 3 ≤ 8 := hR 18 3 (by decide) (by decide)
        refine ⟨?_, fun j hj => ?_, fun s hs => ?_, fun j hj => ?_⟩
        · rw [f94 3 (by omega), f94 4 (by omega), f94 5 (by omega), f94 6 (by omega), f 18 (by omega)]; exact e1
        · rw [f 18 (by omega)] at hj
          rw [f94 _ (by omega), f (18 + 1) (by omega)]; exact e2 j hj
        · have r4 : 0 ≤ V 21 s ∧ V 21 s ≤ 4 := hR 21 s (by decide) (by decide)
          obtain ⟨q1, q2⟩ := e3 s hs
          rw [f94 _ (by omega), f (18 + 3) (by omega), f10, f (18 + 2) (by omega)]
          refine ⟨q1, fun i hi => ?_⟩
          have hi' : (i : Int) < V 21 s := hi
          rw [f94 _ (by omega)]
          have := q2 i hi
          exact ⟨this.1, by omega⟩
        · rw [f 18 (by omega)] at hj
          rw [f94 _ (by omega), f (18 + 4) (by omega), f10]
          have := e4 j hj
          exact ⟨this.1, by omega⟩
      · exact CA.fg hR h3 (l := 24) (fun p q _ => by rw [f1, if_neg (by omega)]) (fun x j _ _ => by rw [f 2 (by omega)]) (fun x _ => by rw [f 3 (by omega)]) (fun x _ => by rw [f 4 (by omega)]) (fun a b _ _ => ⟨fun q => by omega, fun _ => by rw [f 71 (by omega)]⟩) (f 81 (by omega))
  · refine ⟨-1, V, V, J, ?_, ?_, h0⟩
    · apply sg_116
      simp (disch := omega) only [hn, w_eq, w_nc, w_ne2, eV_at, eV_up, o_lit2, o_add, o_sub, o_mul, o_neg, o_div, o_nat, ix_t, o_lt, o_le, o_eq, o_bi0, o_bi1, o_bib, em_t, o_neg1, o_shl, o_tb, o_tb0, o_tt, o_and, o_xor, o_or, o_max, o_min, an_tb, and_true, true_and, not_true, not_false, if_true, if_false, tn_add, tn_mul, Int.reduceToNat, tn_cast, md_x]
      (repeat (first | rw [if_pos (by omega)] | rw [if_neg (by omega)])) <;> trivial
    · apply sg_186
      simp (disch := omega) only [h941, w_eq, w_nc, w_ne2, eV_at, eV_up, o_lit2, o_add, o_sub, o_mul, o_neg, o_div, o_nat, ix_t, o_lt, o_le, o_eq, o_bi0, o_bi1, o_bib, em_t, o_neg1, o_shl, o_tb, o_tb0, o_tt, o_and, o_xor, o_or, o_max, o_min, an_tb, and_true, true_and, not_true, not_false, if_true, if_false, tn_add, tn_mul, Int.reduceToNat, tn_cast, md_x]
      (repeat (first | rw [if_pos (by omega)] | rw [if_neg (by omega)])) <;> trivial
theorem c_lookt {L : Nat} {xs : Nat → Int32} {V : Nat → Nat → Int} {J : Nat → Nat → Int64} {tg : Option Nat} (h : INV V) : ∃ (v : Int) (U W : Nat → Nat → Int) (J1 : Nat → Nat → Int64), Runs (GW L xs) 40 116 (0, [.ref 0, (Value.int (Int32.ofInt (1)))], [], zS (eV V) J tg) (some (Value.int (Int32.ofInt v)), zS (eV U) J tg) ∧ Runs (GW L xs) 40 186 (0, [.ref 93, (Value.int (Int32.ofInt (1))), vU, vU, vU], [], zS (eV U) J tg) (some (Value.int (Int32.ofInt v)), zS (eV W) J1 tg) ∧ INV W := by
  have h0 := h
  obtain ⟨hR, ⟨hA, hB, hC, hD, hE, hF, hH⟩, h2, h3, h4, h5⟩ := h
  have rD : 0 ≤ V 1 0 ∧ V 1 0 ≤ 12 := hR 1 0 (by decide) (by decide)
  have rT : 0 ≤ V 1 1 ∧ V 1 1 ≤ 12 := hR 1 1 (by decide) (by decide)
  obtain ⟨n, hn⟩ : ∃ n : Nat, V 1 1 = n := ⟨(V 1 1).toNat, by omega⟩
  have h942 : V 94 2 = n := by rw [hA.2.1, hn]
  by_cases g1 : n < 12
  · have e : ∀ x, x ≠ 1 → up2 V 1 1 (n + 1) x = V x := fun x q => w_ne _ _ _ _ q
    obtain ⟨W, w1, w2, w3, w4, w6⟩ := k_186t (L := L) (xs := xs) (V := up2 V 1 1 (n + 1)) (J := J) (tg := tg) (d := 40) (n := n) (by rw [e 94 (by decide)]; exact h942) g1
    refine ⟨12 + n, up2 V 1 1 (n + 1), W, J, ?_, w6, ?_⟩
    · apply sg_116
      simp (disch := omega) only [hn, w_eq, w_nc, w_ne2, eV_at, eV_up, o_lit2, o_add, o_sub, o_mul, o_neg, o_div, o_nat, ix_t, o_lt, o_le, o_eq, o_bi0, o_bi1, o_bib, em_t, o_neg1, o_shl, o_tb, o_tb0, o_tt, o_and, o_xor, o_or, o_max, o_min, an_tb, and_true, true_and, not_true, not_false, if_true, if_false, tn_add, tn_mul, Int.reduceToNat, tn_cast, md_x]
      repeat (first | rw [if_pos (by omega)] | rw [if_neg (by omega)])
      exact leafI (by omega)
    · have f : ∀ x, x ≠ 1 ∧ x ≠ 94 → W x = V x := fun x q => by rw [w1 x q.2, e x q.1]
      have f1 : ∀ x, W 1 x = if x = 1 then (n : Int) + 1 else V 1 x := fun x => by rw [w1 1 (by decide), w_at]
      have f10 : W 1 0 = V 1 0 := by rw [f1]; rfl
      have f11 : W 1 1 = n + 1 := by rw [f1]; rfl
      have f94 : ∀ p, p ≠ 2 ∧ ¬ (20 + 22 * (12 + n) ≤ p ∧ p < 20 + 22 * (12 + n) + 22) → W 94 p = V 94 p := fun p q => by rw [w2 p q, e 94 (by decide)]
      have hRW : RNG W := (hR.up (c := 1) (p := 1) (z := n + 1) (by show (0 : Int) ≤ _ ∧ _ ≤ (12 : Int); omega)).fr fun x q => w1 x (by omega)
      refine ⟨hRW, ⟨?_, ?_, hC.up hR f10 (f 5 (by omega)) (f 6 (by omega)) (f 12 (by omega)) (fun l w _ _ => f94 _ (by omega)) (fun k _ => f94 _ (by omega)), ?_, ?_, ?_, hH.up hR f10 (fun x _ _ => f x (by omega)) (fun p _ => f94 _ (by omega))⟩, (h2.fr fun x _ => f x (by omega)), ?_, (h4.fr (fun x _ => f x (by omega)) (by rw [f 93 (by omega)]) (by rw [f 93 (by omega)]) (by rw [f 93 (by omega)])), (h5.fr hR fun x _ => f x (by omega))⟩
      · unfold RA
        rw [w3, f10, f11, f94 1 (by omega), f94 8 (by omega), f94 9 (by omega), f94 10 (by omega), f94 11 (by omega), f1, f1, f1, f1]
        exact ⟨hA.1, rfl, hA.2.2⟩
      · intro l hl
        rw [f10, f11] at hl
        rw [f (1 + 2) (by omega), f (1 + 3) (by omega), f (1 + 1) (by omega)]
        have r3 : 0 ≤ V 3 l ∧ V 3 l ≤ 6 := hR 3 l (by decide) (by decide)
        by_cases q : l = 12 + n
        · subst q
          obtain ⟨c1, c2⟩ := hD.1 (12 + n) (by omega) (by omega)
          rw [c1, c2]
          exact ⟨w4 0 (by omega), w4 1 (by omega), fun j hj => by omega⟩
        · obtain ⟨b1, b2, b3⟩ := hB l (by omega)
          rw [f94 _ (by omega), f94 _ (by omega)]
          refine ⟨b1, b2, fun j hj => ?_⟩
          have hj' : (j : Int) < V 3 l := hj
          rw [f94 _ (by omega)]; exact b3 j hj
      · refine ⟨fun l hl ht => ?_, fun l hl ht => ?_⟩
        · rw [f10, f11] at ht
          rw [f (1 + 2) (by omega), f (1 + 3) (by omega)]
          exact hD.1 l hl (by omega)
        · rw [f10] at ht
          rw [f (1 + 4) (by omega), f (1 + 5) (by omega), f (7 + 5) (by omega)]
          exact hD.2 l hl (by omega)
      · obtain ⟨e1, e2, e3, e4⟩ := hE
        refine ⟨?_, fun j hj => ?_, fun j hj => ?_, fun j hj => ?_⟩
        · rw [f94 _ (by omega), f94 _ (by omega), f94 _ (by omega), f94 _ (by omega), f94 _ (by omega), f94 _ (by omega), f 7 (by omega)]; exact e1
        · rw [f94 _ (by omega), f94 _ (by omega), f (7 + 1) (by omega), f (7 + 2) (by omega), f11]
          have := e2 j hj
          refine ⟨this.1, this.2.1, ?_⟩
          rw [hn] at this
          have h9 := this.2.2
          have hp : 2 ^ n ≤ 2 ^ (n + 1) := Nat.pow_le_pow_right (by omega) (by omega)
          have e9 : ((n : Int) + 1).toNat = n + 1 := by omega
          rw [e9]
          rw [tn_cast] at h9
          omega
        · rw [f94 _ (by omega), f (7 + 3) (by omega)]; exact e3 j hj
        · rw [f94 _ (by omega), f (7 + 4) (by omega)]; exact e4 j hj
      · intro k hk
        rw [f 7 (by omega)] at hk
        have r5 : 0 ≤ V 7 5 ∧ V 7 5 ≤ 60 := hR 7 5 (by decide) (by decide)
        rw [f94 _ (by omega), f94 _ (by omega), f94 _ (by omega), f94 _ (by omega), f94 _ (by omega), f10, f11, f (7 + 6) (by omega), f (7 + 7) (by omega), f (7 + 8) (by omega), f (7 + 9) (by omega), f (7 + 10) (by omega)]
        have := hF k hk
        exact ⟨this.1, this.2.1, by omega⟩
      · exact CA.fg hR h3 (l := 24) (fun p q _ => by rw [f1, if_neg (by omega)]) (fun x j _ _ => by rw [f 2 (by omega)]) (fun x _ => by rw [f 3 (by omega)]) (fun x _ => by rw [f 4 (by omega)]) (fun a b _ _ => ⟨fun q => by omega, fun _ => by rw [f 71 (by omega)]⟩) (f 81 (by omega))
  · refine ⟨-1, V, V, J, ?_, ?_, h0⟩
    · apply sg_116
      simp (disch := omega) only [hn, w_eq, w_nc, w_ne2, eV_at, eV_up, o_lit2, o_add, o_sub, o_mul, o_neg, o_div, o_nat, ix_t, o_lt, o_le, o_eq, o_bi0, o_bi1, o_bib, em_t, o_neg1, o_shl, o_tb, o_tb0, o_tt, o_and, o_xor, o_or, o_max, o_min, an_tb, and_true, true_and, not_true, not_false, if_true, if_false, tn_add, tn_mul, Int.reduceToNat, tn_cast, md_x]
      (repeat (first | rw [if_pos (by omega)] | rw [if_neg (by omega)])) <;> trivial
    · apply sg_186
      simp (disch := omega) only [h942, w_eq, w_nc, w_ne2, eV_at, eV_up, o_lit2, o_add, o_sub, o_mul, o_neg, o_div, o_nat, ix_t, o_lt, o_le, o_eq, o_bi0, o_bi1, o_bib, em_t, o_neg1, o_shl, o_tb, o_tb0, o_tt, o_and, o_xor, o_or, o_max, o_min, an_tb, and_true, true_and, not_true, not_false, if_true, if_false, tn_add, tn_mul, Int.reduceToNat, tn_cast, md_x]
      (repeat (first | rw [if_pos (by omega)] | rw [if_neg (by omega)])) <;> trivial
