/-! seekNearest. -/
theorem and_m2 (a b : Nat) : (a &&& b) % 2 = (a % 2) * (b % 2) := by
  have := Nat.and_mod_two_pow (a := a) (b := b) (n := 1)
  simp at this
  rw [this]
  rcases Nat.mod_two_eq_zero_or_one a with h | h <;> rcases Nat.mod_two_eq_zero_or_one b with k | k <;> simp [h, k]
theorem an2 {s i j : Nat} (hs : s < 4096) (hi : i < 12) (hj : j < 12) : (((Int32.ofInt (s : Int) >>> (Int32.ofInt (i : Int) &&& Int32.ofInt 31)) &&& (Int32.ofInt (s : Int) >>> (Int32.ofInt (j : Int) &&& Int32.ofInt 31))) &&& Int32.ofInt 1) = Int32.ofInt (if (s.testBit i && s.testBit j) = true then 1 else 0) := by
  rw [o_shr (by omega) (by omega), o_shr (by omega) (by omega), show ((s : Int) / 2 ^ i) = ((s / 2 ^ i : Nat) : Int) by norm_cast, show ((s : Int) / 2 ^ j) = ((s / 2 ^ j : Nat) : Int) by norm_cast, o_and, o_b1]
  congr 1
  rw [and_m2, Nat.testBit_eq_decide_div_mod_eq, Nat.testBit_eq_decide_div_mod_eq]
  rcases Nat.mod_two_eq_zero_or_one (s / 2 ^ i) with h | h <;> rcases Nat.mod_two_eq_zero_or_one (s / 2 ^ j) with k | k <;> simp [h, k]
theorem k_14 {L d : Nat} {xs : Nat → Int32} {V : Nat → Nat → Int} {J : Nat → Nat → Int64} {tg : Option Nat} (hR : RNG V) (hC : CA V) {s : Nat} (hs : s < 4096) : ∃ W, (∀ c, ¬ (71 ≤ c ∧ c ≤ 74) → c ≠ 83 → W c = V c) ∧ CA W ∧ W 83 6 = (lsi (FAR V) s 12).1 ∧ ((lsi (FAR V) s 12).2.1 ≠ -1 → W 83 7 = (lsi (FAR V) s 12).2.1 ∧ W 83 8 = (lsi (FAR V) s 12).2.2) ∧ Runs (GW L xs) (d + 4) 14 (0, [.ref 83, (Value.int (Int32.ofInt (s))), vU, vU, vU], [], zS (eV (V)) J tg) (none, zS (eV (W)) J tg) := by
  have hF : ∀ a b, 0 ≤ FAR V a b ∧ FAR V a b ≤ 2000 := fun a b => ⟨FAR_nn hR a b, by have := FAR_rg hR a b; omega⟩
  have inner : ∀ i, i < 12 → ∀ p, lsok p → ∀ A : Nat → Nat → Int, (∀ c, ¬ (71 ≤ c ∧ c ≤ 74) → c ≠ 83 → A c = V c) → CA A → A 83 6 = p.1 → (p.2.1 ≠ -1 → A 83 7 = p.2.1 ∧ A 83 8 = p.2.2) → ∃ B, ((∀ c, ¬ (71 ≤ c ∧ c ≤ 74) → c ≠ 83 → B c = V c) ∧ CA B ∧ B 83 6 = (lsj (FAR V) s i p (11 - i)).1 ∧ ((lsj (FAR V) s i p (11 - i)).2.1 ≠ -1 → B 83 7 = (lsj (FAR V) s i p (11 - i)).2.1 ∧ B 83 8 = (lsj (FAR V) s i p (11 - i)).2.2)) ∧ Rch (GW L xs) (d + 4) 14 (17, [.ref 83, (Value.int (Int32.ofInt (s))), (Value.int (Int32.ofInt (i))), (Value.int (Int32.ofInt (i + 1 + (0 : Nat)))), vU], [], zS (eV A) J tg) (17, [.ref 83, (Value.int (Int32.ofInt (s))), (Value.int (Int32.ofInt (i))), (Value.int (Int32.ofInt (i + 1 + (11 - i : Nat)))), vU], [], zS (eV B) J tg) := by
    intro i hi p hp A a1 a2 a3 a4
    obtain ⟨B, hB, hr⟩ := loopN (g := GW L xs) (d := d + 4) (mid := 14) (σ := Nat → Nat → Int) (fun m B => (17, [.ref 83, (Value.int (Int32.ofInt (s))), (Value.int (Int32.ofInt (i))), (Value.int (Int32.ofInt (i + 1 + (m : Nat)))), vU], [], zS (eV B) J tg)) (fun m B => (∀ c, ¬ (71 ≤ c ∧ c ≤ 74) → c ≠ 83 → B c = V c) ∧ CA B ∧ B 83 6 = (lsj (FAR V) s i p m).1 ∧ ((lsj (FAR V) s i p m).2.1 ≠ -1 → B 83 7 = (lsj (FAR V) s i p m).2.1 ∧ B 83 8 = (lsj (FAR V) s i p m).2.2)) (11 - i) (by
      intro m B hm ⟨b1, b2, b3, b4⟩
      have hok := lsj_ok (s := s) hF hp hi m (by omega)
      have hls : lsj (FAR V) s i p (m + 1) = if (s.testBit i && s.testBit (i + 1 + m)) then (if (lsj (FAR V) s i p m).2.1 = -1 ∨ FAR V i (i + 1 + m) < (lsj (FAR V) s i p m).1 then (FAR V i (i + 1 + m), (i : Int), ((i + 1 + m : Nat) : Int)) else lsj (FAR V) s i p m) else lsj (FAR V) s i p m := rfl
      generalize lsj (FAR V) s i p m = q at b3 b4 hok hls
      have ej : (i : Int) + 1 + (m : Nat) = ((i + 1 + m : Nat) : Int) := by omega
      by_cases t : (s.testBit i && s.testBit (i + 1 + m)) = true
      · rw [if_pos t] at hls
        have hRB : RNG B := hR.fr fun c q => b1 c (by omega) (by omega)
        obtain ⟨X, x1, x2, x3⟩ := k_62 (L := L) (xs := xs) (J := J) (tg := tg) (d := d) hRB b2 (a := i) (b := i + 1 + m) (by omega) (by omega)
        rw [FAR_fr (b1 1 (by omega) (by omega)) (b1 2 (by omega) (by omega)) (b1 3 (by omega) (by omega)) (b1 4 (by omega) (by omega))] at x3
        have e83 : X 83 = B 83 := x1 83 (by decide) (by decide) (by decide) (by decide)
        have hFv := hF i (i + 1 + m)
        have hX : ∀ c, ¬ (71 ≤ c ∧ c ≤ 74) → c ≠ 83 → X c = V c := fun c q1 q2 => by rw [x1 c (by omega) (by omega) (by omega) (by omega)]; exact b1 c q1 q2
        by_cases u : q.2.1 = -1 ∨ FAR V i (i + 1 + m) < q.1
        · rw [if_pos u] at hls
          rw [hls]
          refine ⟨up2 (up2 (up2 X 83 6 (FAR V i (i + 1 + m))) 83 7 i) 83 8 (i + 1 + m : Nat), ⟨fun c q1 q2 => by rw [w_ne _ _ _ _ q2, w_ne _ _ _ _ q2, w_ne _ _ _ _ q2]; exact hX c q1 q2, x2.up (by rw [w_ne _ _ _ _ (by decide), w_ne _ _ _ _ (by decide), w_ne _ _ _ _ (by decide)]) (by rw [w_ne _ _ _ _ (by decide), w_ne _ _ _ _ (by decide), w_ne _ _ _ _ (by decide)]) (by rw [w_ne _ _ _ _ (by decide), w_ne _ _ _ _ (by decide), w_ne _ _ _ _ (by decide)]) (by rw [w_ne _ _ _ _ (by decide), w_ne _ _ _ _ (by decide), w_ne _ _ _ _ (by decide)]) (by rw [w_ne _ _ _ _ (by decide), w_ne _ _ _ _ (by decide), w_ne _ _ _ _ (by decide)]) (by rw [w_ne _ _ _ _ (by decide), w_ne _ _ _ _ (by decide), w_ne _ _ _ _ (by decide)]), by simp [w_at], fun _ => ⟨by simp [w_at], by simp [w_at]⟩⟩, fun r hr => ?_⟩
          apply sg_14_17
          rw [ej]
          simp (disch := omega) only [an2, eV_at, eV_up, o_lit2, o_add, o_sub, o_mul, o_neg, o_div, o_nat, ix_t, o_lt, o_le, o_eq, o_bi0, o_bi1, o_bib, em_t, o_neg1, o_shl, o_tb, o_tb0, o_tt, o_and, o_xor, o_or, o_max, o_min, an_tb, and_true, true_and, not_true, not_false, if_true, if_false, tn_add, tn_mul, Int.reduceToNat, tn_cast, md_x]
          rw [if_neg (by omega), if_neg (by rw [if_pos t]; decide)]
          refine ⟨_, _, x3, ?_⟩
          unfold lsok at hok
          simp (disch := omega) only [e83, b3, eV_at, eV_up, o_lit2, o_add, o_sub, o_mul, o_neg, o_div, o_nat, ix_t, o_lt, o_le, o_eq, o_bi0, o_bi1, o_bib, em_t, o_neg1, o_shl, o_tb, o_tb0, o_tt, o_and, o_xor, o_or, o_max, o_min, an_tb, and_true, true_and, not_true, not_false, if_true, if_false, tn_add, tn_mul, Int.reduceToNat, tn_cast, md_x]
          by_cases c1 : q.1 = -1
          · rw [if_pos c1]; exact hr
          · rw [if_neg c1, if_neg (by omega)]; exact hr
        · rw [if_neg u] at hls
          rw [hls]
          refine ⟨X, ⟨hX, x2, by rw [e83]; exact b3, fun h => by rw [e83]; exact b4 h⟩, fun r hr => ?_⟩
          apply sg_14_17
          rw [ej]
          simp (disch := omega) only [an2, eV_at, eV_up, o_lit2, o_add, o_sub, o_mul, o_neg, o_div, o_nat, ix_t, o_lt, o_le, o_eq, o_bi0, o_bi1, o_bib, em_t, o_neg1, o_shl, o_tb, o_tb0, o_tt, o_and, o_xor, o_or, o_max, o_min, an_tb, and_true, true_and, not_true, not_false, if_true, if_false, tn_add, tn_mul, Int.reduceToNat, tn_cast, md_x]
          rw [if_neg (by omega), if_neg (by rw [if_pos t]; decide)]
          refine ⟨_, _, x3, ?_⟩
          unfold lsok at hok
          simp (disch := omega) only [e83, b3, eV_at, eV_up, o_lit2, o_add, o_sub, o_mul, o_neg, o_div, o_nat, ix_t, o_lt, o_le, o_eq, o_bi0, o_bi1, o_bib, em_t, o_neg1, o_shl, o_tb, o_tb0, o_tt, o_and, o_xor, o_or, o_max, o_min, an_tb, and_true, true_and, not_true, not_false, if_true, if_false, tn_add, tn_mul, Int.reduceToNat, tn_cast, md_x]
          rw [if_neg (by omega), if_pos (by omega)]
          exact hr
      · rw [if_neg t] at hls
        rw [hls]
        refine ⟨B, ⟨b1, b2, b3, b4⟩, fun r hr => ?_⟩
        apply sg_14_17
        rw [ej]
        simp (disch := omega) only [an2, eV_at, eV_up, o_lit2, o_add, o_sub, o_mul, o_neg, o_div, o_nat, ix_t, o_lt, o_le, o_eq, o_bi0, o_bi1, o_bib, em_t, o_neg1, o_shl, o_tb, o_tb0, o_tt, o_and, o_xor, o_or, o_max, o_min, an_tb, and_true, true_and, not_true, not_false, if_true, if_false, tn_add, tn_mul, Int.reduceToNat, tn_cast, md_x]
        rw [if_neg (by omega), if_pos (by rw [if_neg t])]
        exact hr) (11 - i) 0 A (by omega) ⟨a1, a2, a3, a4⟩
    exact ⟨B, hB, hr⟩
  obtain ⟨W, ⟨w1, w2, w3, w4⟩, hr⟩ := loopN (g := GW L xs) (d := d + 4) (mid := 14) (σ := Nat → Nat → Int) (fun i B => (7, [.ref 83, (Value.int (Int32.ofInt (s))), (Value.int (Int32.ofInt (i))), vU, vU], [], zS (eV B) J tg)) (fun i B => (∀ c, ¬ (71 ≤ c ∧ c ≤ 74) → c ≠ 83 → B c = V c) ∧ CA B ∧ B 83 6 = (lsi (FAR V) s i).1 ∧ ((lsi (FAR V) s i).2.1 ≠ -1 → B 83 7 = (lsi (FAR V) s i).2.1 ∧ B 83 8 = (lsi (FAR V) s i).2.2)) 12 (by
    intro i A hi ⟨a1, a2, a3, a4⟩
    obtain ⟨B, hB, hr⟩ := inner i hi _ (lsi_ok hF i (by omega)) A a1 a2 a3 a4
    refine ⟨B, hB, fun r h => ?_⟩
    apply sg_14_7
    simp (disch := omega) only [eV_at, eV_up, o_lit2, o_add, o_sub, o_mul, o_neg, o_div, o_nat, ix_t, o_lt, o_le, o_eq, o_bi0, o_bi1, o_bib, em_t, o_neg1, o_shl, o_tb, o_tb0, o_tt, o_and, o_xor, o_or, o_max, o_min, an_tb, and_true, true_and, not_true, not_false, if_true, if_false, tn_add, tn_mul, Int.reduceToNat, tn_cast, md_x]
    rw [if_neg (by omega)]
    have e0 : (i : Int) + 1 + (0 : Nat) = (i : Int) + 1 := by omega
    rw [e0] at hr
    refine hr r ?_
    apply sg_14_17
    rw [show (i : Int) + 1 + (11 - i : Nat) = 12 by omega]
    simp (disch := omega) only [eV_at, eV_up, o_lit2, o_add, o_sub, o_mul, o_neg, o_div, o_nat, ix_t, o_lt, o_le, o_eq, o_bi0, o_bi1, o_bib, em_t, o_neg1, o_shl, o_tb, o_tb0, o_tt, o_and, o_xor, o_or, o_max, o_min, an_tb, and_true, true_and, not_true, not_false, if_true, if_false, tn_add, tn_mul, Int.reduceToNat, tn_cast, md_x]
    rw [if_pos (by omega)] <;> exact h) 12 0 (up2 V 83 6 (-1)) (by omega) ⟨fun c _ q => w_ne _ _ _ _ q, hC.up (w_ne _ _ _ _ (by decide)) (w_ne _ _ _ _ (by decide)) (w_ne _ _ _ _ (by decide)) (w_ne _ _ _ _ (by decide)) (w_ne _ _ _ _ (by decide)) (w_ne _ _ _ _ (by decide)), w_eq _ _ _ _, fun h => absurd rfl h⟩
  refine ⟨W, w1, w2, w3, w4, ?_⟩
  apply sg_14
  simp (disch := omega) only [eV_at, eV_up, o_lit2, o_add, o_sub, o_mul, o_neg, o_div, o_nat, ix_t, o_lt, o_le, o_eq, o_bi0, o_bi1, o_bib, em_t, o_neg1, o_shl, o_tb, o_tb0, o_tt, o_and, o_xor, o_or, o_max, o_min, an_tb, and_true, true_and, not_true, not_false, if_true, if_false, tn_add, tn_mul, Int.reduceToNat, tn_cast, md_x]
  refine hr _ ?_
  apply sg_14_7
  simp (disch := omega) only [eV_at, eV_up, o_lit2, o_add, o_sub, o_mul, o_neg, o_div, o_nat, ix_t, o_lt, o_le, o_eq, o_bi0, o_bi1, o_bib, em_t, o_neg1, o_shl, o_tb, o_tb0, o_tt, o_and, o_xor, o_or, o_max, o_min, an_tb, and_true, true_and, not_true, not_false, if_true, if_false, tn_add, tn_mul, Int.reduceToNat, tn_cast, md_x]
  rw [if_pos (by omega)] <;> trivial
