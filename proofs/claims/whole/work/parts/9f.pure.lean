/-! takenOf; score and measure. -/
theorem k_204 {L d : Nat} {xs : Nat → Int32} {V : Nat → Nat → Int} {J : Nat → Nat → Int64} {tg : Option Nat} {s T : Nat} {one other : Int} {g : Nat → Int} (hT : V 94 2 = T) (hT12 : T ≤ 12) (hs : s < 4096) (rl : 0 ≤ V 94 12 ∧ V 94 12 ≤ 999) (rh : 0 ≤ V 94 13 ∧ V 94 13 ≤ 99) (ho : 0 ≤ one ∧ one ≤ 5) (ho2 : 0 ≤ other ∧ other ≤ 5) (hG : ∀ t, t < T → 0 ≤ V 94 (780 + t) ∧ V 94 (780 + t) ≤ 5) (hg : ∀ t, t < T → s.testBit t = true → V 99 t = g t ∧ -5000 ≤ g t ∧ g t ≤ 5000) : Runs (GW L xs) (d) 204 (0, [.ref 93, (Value.int (Int32.ofInt (s))), (Value.int (Int32.ofInt (one))), (Value.int (Int32.ofInt (other))), vU, vU, vU, vU, vU], [], zS (eV (V)) J tg) (some (Value.int (Int32.ofInt (mz (tk (V 94 12) (fun t => g t - (if 0 < V 94 (780 + t) ∧ (V 94 (780 + t) = one ∨ V 94 (780 + t) = other) then V 94 13 else 0)) s T)))), zS (eV (V)) J tg) := by
  generalize hf : (fun t => g t - (if 0 < V 94 (780 + t) ∧ (V 94 (780 + t) = one ∨ V 94 (780 + t) = other) then V 94 13 else 0)) = f
  have hfe : ∀ t, f t = g t - (if 0 < V 94 (780 + t) ∧ (V 94 (780 + t) = one ∨ V 94 (780 + t) = other) then V 94 13 else 0) := fun t => by rw [← hf]
  have hb : ∀ n, n ≤ T → ∀ t, t < n → s.testBit t = true → -9000 ≤ f t ∧ f t ≤ 9000 := fun n hn t ht hb => by
    have := hg t (by omega) hb
    rw [hfe t]; split <;> omega
  obtain ⟨_, _, hr⟩ := loopN (g := GW L xs) (d := d) (mid := 204) (σ := Unit) (fun t _ => (9, [.ref 93, (Value.int (Int32.ofInt (s))), (Value.int (Int32.ofInt (one))), (Value.int (Int32.ofInt (other))), (Value.int (Int32.ofInt ((pk f s t).1))), (Value.int (Int32.ofInt ((pk f s t).2))), (Value.int (Int32.ofInt (t))), vU, vU], [], zS (eV V) J tg)) (fun _ _ => True) T (by
    intro t _ ht _
    have hp := pk_rg (hb t (by omega))
    refine ⟨(), trivial, fun r hr => ?_⟩
    rw [pk_s] at hr
    apply sg_204_9
    cases qs : s.testBit t
    · rw [qs] at hr
      simp (disch := omega) only [hT, eV_at, eV_up, o_lit2, o_add, o_sub, o_mul, o_neg, o_div, o_nat, ix_t, o_lt, o_le, o_eq, o_bi0, o_bi1, o_bib, em_t, o_neg1, o_shl, o_tb, o_tb0, o_tt, o_and, o_xor, o_or, o_max, o_min, an_tb, and_true, true_and, not_true, not_false, if_true, if_false, tn_add, tn_mul, Int.reduceToNat, tn_cast, md_x]
      rw [if_neg (by omega), if_pos qs]
      exact hr
    · rw [qs, if_pos rfl] at hr
      obtain ⟨v1, v2⟩ := hg t ht qs
      have hGt := hG t ht
      have hft := hb T (by omega) t ht qs
      have hfv := hfe t
      simp (disch := omega) only [hT, v1, eV_at, eV_up, o_lit2, o_add, o_sub, o_mul, o_neg, o_div, o_nat, ix_t, o_lt, o_le, o_eq, o_bi0, o_bi1, o_bib, em_t, o_neg1, o_shl, o_tb, o_tb0, o_tt, o_and, o_xor, o_or, o_max, o_min, an_tb, and_true, true_and, not_true, not_false, if_true, if_false, tn_add, tn_mul, Int.reduceToNat, tn_cast, md_x]
      rw [if_neg (by omega), if_neg (by rw [qs]; simp)]
      have leaf : ∀ v : Int, f t = v → (if (pk f s t).1 < 0 then Runs (GW L xs) d 204 (9, [.ref 93, (Value.int (Int32.ofInt (s))), (Value.int (Int32.ofInt (one))), (Value.int (Int32.ofInt (other))), (Value.int (Int32.ofInt (t))), (Value.int (Int32.ofInt (v))), (Value.int (Int32.ofInt (t + 1))), vU, vU], [], zS (eV V) J tg) r else if v < (pk f s t).2 then Runs (GW L xs) d 204 (9, [.ref 93, (Value.int (Int32.ofInt (s))), (Value.int (Int32.ofInt (one))), (Value.int (Int32.ofInt (other))), (Value.int (Int32.ofInt (t))), (Value.int (Int32.ofInt (v))), (Value.int (Int32.ofInt (t + 1))), vU, vU], [], zS (eV V) J tg) r else Runs (GW L xs) d 204 (9, [.ref 93, (Value.int (Int32.ofInt (s))), (Value.int (Int32.ofInt (one))), (Value.int (Int32.ofInt (other))), (Value.int (Int32.ofInt ((pk f s t).1))), (Value.int (Int32.ofInt ((pk f s t).2))), (Value.int (Int32.ofInt (t + 1))), vU, vU], [], zS (eV V) J tg) r) := by
        intro v hv
        subst hv
        by_cases c1 : (pk f s t).1 < 0
        · rw [if_pos c1]
          rw [if_pos (Or.inl (by omega))] at hr
          exact hr
        · rw [if_neg c1]
          by_cases c2 : f t < (pk f s t).2
          · rw [if_pos c2]
            rw [if_pos (Or.inr c2)] at hr
            exact hr
          · rw [if_neg c2]
            rw [if_neg (by omega)] at hr
            exact hr
      by_cases c1 : V 94 (780 + t) ≤ 0
      · rw [if_pos c1]
        refine leaf _ ?_
        rw [hfv, if_neg (by omega)]
      · rw [if_neg c1]
        by_cases c2 : V 94 (780 + t) = one
        · rw [if_pos c2]
          refine leaf _ ?_
          rw [hfv, if_pos (by omega)]
        · rw [if_neg c2]
          by_cases c3 : V 94 (780 + t) = other
          · rw [if_pos c3]
            refine leaf _ ?_
            rw [hfv, if_pos (by omega)]
          · rw [if_neg c3]
            refine leaf _ ?_
            rw [hfv, if_neg (by omega)]) T 0 () (by omega) trivial
  have hp := pk_rg (hb T (by omega))
  refine sg_204 _ _ _ _ _ _ (hr _ ?_)
  apply sg_204_9
  simp (disch := omega) only [hT, eV_at, eV_up, o_lit2, o_add, o_sub, o_mul, o_neg, o_div, o_nat, ix_t, o_lt, o_le, o_eq, o_bi0, o_bi1, o_bib, em_t, o_neg1, o_shl, o_tb, o_tb0, o_tt, o_and, o_xor, o_or, o_max, o_min, an_tb, and_true, true_and, not_true, not_false, if_true, if_false, tn_add, tn_mul, Int.reduceToNat, tn_cast, md_x]
  rw [if_pos (by omega)]
  unfold tk mz
  by_cases c1 : (pk f s T).1 < 0
  · rw [if_pos c1]
    refine leafI ?_
    split <;> omega
  · rw [if_neg c1]
    by_cases c2 : (pk f s T).2 ≤ V 94 12
    · rw [if_pos c2, if_pos c2, if_neg (by omega)]
      exact leafI (by omega)
    · rw [if_neg c2, if_neg c2, if_pos rfl]
/-- a score: FAR less LEAN -/
def scr (V : Nat → Nat → Int) (dr st t : Nat) : Int := FAR V dr (12 + t) - V 10 (st * 12 + t)
theorem FAR_rg {V : Nat → Nat → Int} (hR : RNG V) (a b : Nat) : -1188 ≤ FAR V a b ∧ FAR V a b ≤ 1287 := by
  have h3 : 0 ≤ V 3 a ∧ V 3 a ≤ 6 := hR 3 a (by decide) (by decide)
  exact FARp_rg hR (by omega) _ _ _
theorem scr_rg {V : Nat → Nat → Int} (hR : RNG V) (dr st t : Nat) : -5000 ≤ scr V dr st t ∧ scr V dr st t ≤ 5000 := by
  have h1 := FAR_rg hR dr (12 + t)
  have h2 : 0 ≤ V 10 (st * 12 + t) ∧ V 10 (st * 12 + t) ≤ 99 := hR 10 _ (by decide) (by decide)
  unfold scr; omega
theorem k_92 {L d : Nat} {xs : Nat → Int32} {V : Nat → Nat → Int} {J : Nat → Nat → Int64} {tg : Option Nat} (hR : RNG V) (hC : CA V) {dr st : Nat} (hd : dr < 12) (hs : st < 6) : ∃ W, (∀ c, ¬ (71 ≤ c ∧ c ≤ 75) → c ≠ 77 → W c = V c) ∧ (∀ p, p ≠ 8 → p ≠ 9 → W 75 p = V 75 p) ∧ W 75 8 = (dr : Int) ∧ W 75 9 = (st : Int) ∧ CA W ∧ (∀ t : Nat, (t : Int) < V 1 1 → W 77 t = scr V dr st t) ∧ Runs (GW L xs) (d + 4) 92 (0, [.ref 75, (Value.int (Int32.ofInt (dr))), (Value.int (Int32.ofInt (st))), vU], [], zS (eV (V)) J tg) (none, zS (eV (W)) J tg) := by
  have rT : 0 ≤ V 1 1 ∧ V 1 1 ≤ 12 := hR 1 1 (by decide) (by decide)
  obtain ⟨T, hT⟩ : ∃ T : Nat, V 1 1 = T := ⟨(V 1 1).toNat, by omega⟩
  obtain ⟨W, ⟨i1, i2, i3, i4, i5, i6⟩, hr⟩ := loopN (g := GW L xs) (d := d + 4) (mid := 92) (σ := Nat → Nat → Int) (fun t W => (12, [.ref 75, (Value.int (Int32.ofInt (dr))), (Value.int (Int32.ofInt (st))), (Value.int (Int32.ofInt (t)))], [], zS (eV W) J tg)) (fun i W => (∀ c, ¬ (71 ≤ c ∧ c ≤ 75) → c ≠ 77 → W c = V c) ∧ (∀ p, p ≠ 8 → p ≠ 9 → W 75 p = V 75 p) ∧ W 75 8 = (dr : Int) ∧ W 75 9 = (st : Int) ∧ CA W ∧ (∀ t : Nat, t < i → W 77 t = scr V dr st t)) T (by
    intro t W ht ⟨i1, i2, i3, i4, i5, i6⟩
    have hRW : RNG W := hR.fr fun c q => i1 c (by omega) (by omega)
    obtain ⟨X, x1, x2, x3⟩ := k_62 (L := L) (xs := xs) (J := J) (tg := tg) (d := d) hRW i5 (a := dr) (b := 12 + t) (by omega) (by omega)
    have e : ∀ c, c ≤ 44 → X c = V c := fun c q => by rw [x1 c (by omega) (by omega) (by omega) (by omega), i1 c (by omega) (by omega)]
    have eF : FAR W = FAR V := FAR_fr (i1 1 (by omega) (by omega)) (i1 2 (by omega) (by omega)) (i1 3 (by omega) (by omega)) (i1 4 (by omega) (by omega))
    rw [eF] at x3
    have e75 : X 75 = W 75 := x1 75 (by decide) (by decide) (by decide) (by decide)
    have e77 : X 77 = W 77 := x1 77 (by decide) (by decide) (by decide) (by decide)
    have h9 : X 75 9 = st := by rw [e75, i4]
    have k6 : Runs (GW L xs) (d + 3) 96 (0, [.ref 75, (Value.int (Int32.ofInt (t))), (Value.int (Int32.ofInt (FAR V dr (12 + t))))], [], zS (eV (X)) J tg) (none, zS (eV (up2 X 77 t (scr V dr st t))) J tg) := by
      apply sg_96
      simp (disch := omega) only [h9, e 10 (by omega), eV_at, eV_up, o_lit2, o_add, o_sub, o_mul, o_neg, o_div, o_nat, ix_t, o_lt, o_le, o_eq, o_bi0, o_bi1, o_bib, em_t, o_neg1, o_shl, o_tb, o_tb0, o_tt, o_and, o_xor, o_or, o_max, o_min, an_tb, and_true, true_and, not_true, not_false, if_true, if_false, tn_add, tn_mul, Int.reduceToNat, tn_cast, md_x]
      rfl
    refine ⟨up2 X 77 t (scr V dr st t), ⟨fun c q1 q2 => by rw [w_ne _ _ _ _ q2, x1 c (by omega) (by omega) (by omega) (by omega)]; exact i1 c q1 q2, fun p q1 q2 => by rw [w_ne _ _ _ _ (by decide), e75]; exact i2 p q1 q2, by rw [w_ne _ _ _ _ (by decide), e75]; exact i3, by rw [w_ne _ _ _ _ (by decide), e75]; exact i4, x2.up (w_ne _ _ _ _ (by decide)) (w_ne _ _ _ _ (by decide)) (w_ne _ _ _ _ (by decide)) (w_ne _ _ _ _ (by decide)) (w_ne _ _ _ _ (by decide)) (w_ne _ _ _ _ (by decide)), fun j hj => ?_⟩, fun r hr => ?_⟩
    · rw [w_at]
      by_cases q : j = t
      · subst q; rw [if_pos rfl]
      · rw [if_neg q, e77]; exact i6 j (by omega)
    · apply sg_92_12
      simp (disch := omega) only [i1 1 (by omega) (by omega), hT, eV_at, eV_up, o_lit2, o_add, o_sub, o_mul, o_neg, o_div, o_nat, ix_t, o_lt, o_le, o_eq, o_bi0, o_bi1, o_bib, em_t, o_neg1, o_shl, o_tb, o_tb0, o_tt, o_and, o_xor, o_or, o_max, o_min, an_tb, and_true, true_and, not_true, not_false, if_true, if_false, tn_add, tn_mul, Int.reduceToNat, tn_cast, md_x]
      rw [if_neg (by omega)]
      exact ⟨_, _, x3, _, k6, hr⟩) T 0 (up2 (up2 V 75 8 dr) 75 9 st) (by omega) ⟨fun c q1 q2 => by rw [w_ne _ _ _ _ (by omega), w_ne _ _ _ _ (by omega)], fun p q1 q2 => by rw [w_at, if_neg q2, w_at, if_neg q1], by rw [w_at, if_neg (by decide), w_eq], w_eq _ _ _ _, hC.up (by rw [w_ne _ _ _ _ (by decide), w_ne _ _ _ _ (by decide)]) (by rw [w_ne _ _ _ _ (by decide), w_ne _ _ _ _ (by decide)]) (by rw [w_ne _ _ _ _ (by decide), w_ne _ _ _ _ (by decide)]) (by rw [w_ne _ _ _ _ (by decide), w_ne _ _ _ _ (by decide)]) (by rw [w_ne _ _ _ _ (by decide), w_ne _ _ _ _ (by decide)]) (by rw [w_ne _ _ _ _ (by decide), w_ne _ _ _ _ (by decide)]), fun t ht => by omega⟩
  refine ⟨W, i1, i2, i3, i4, i5, fun t ht => i6 t (by omega), ?_⟩
  apply sg_92
  simp only [eV_up]
  refine hr _ ?_
  apply sg_92_12
  simp (disch := omega) only [i1 1 (by omega) (by omega), hT, eV_at, eV_up, o_lit2, o_add, o_sub, o_mul, o_neg, o_div, o_nat, ix_t, o_lt, o_le, o_eq, o_bi0, o_bi1, o_bib, em_t, o_neg1, o_shl, o_tb, o_tb0, o_tt, o_and, o_xor, o_or, o_max, o_min, an_tb, and_true, true_and, not_true, not_false, if_true, if_false, tn_add, tn_mul, Int.reduceToNat, tn_cast, md_x]
  rw [if_pos (by omega)] <;> trivial
