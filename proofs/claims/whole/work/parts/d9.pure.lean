/-! The reference's next token, as a whole. -/
section LR
variable {L d : Nat} {xs : Nat → Int32} {V : Nat → Nat → Int} {J : Nat → Nat → Int64} {tg : Option Nat} {b : Nat → Int} {N : Nat}
theorem m_213 (hT : TPR V b N) {p f : Nat} (hp : p ≤ N) (hf : f = en isW b N p) (h13 : V 93 13 = p) : ∃ (W : Nat → Nat → Int) (J2 : Nat → Nat → Int64), (∀ c, c ≠ 93 → W c = V c) ∧ (∀ x, ¬ (13 ≤ x ∧ x ≤ 16) → W 93 x = V 93 x) ∧ W 93 13 = (lxT b N f : Nat) ∧ W 93 14 = f ∧ W 93 15 = rK b N f ∧ (f < N → isD (b f) = true → W 93 16 = nmr b f (en isD b N f - f)) ∧ (f < N → isD (b f) = false → isL (b f) = true → J2 93 17 = wpk b f (en isL b N f)) ∧ Runs (GW L xs) (d + 2) 213 (0, [.ref 93, vU, vU], [], zS (eV (V)) (J) tg) (none, zS (eV (W)) (J2) tg) := by
  obtain ⟨t1, t2, t3⟩ := id hT
  obtain ⟨e1, e2, e3, e4⟩ := en_ch (f := isW) (b := b) hp
  rw [← hf] at e1 e2 e3 e4
  obtain ⟨U, u1, u2, u3, u4, start⟩ := m_213s (L := L) (xs := xs) (J := J) (tg := tg) (d := d) hT hp hf h13
  have hTU : TPR U b N := hT.up (u2 7 (by decide) (by decide)) (u1 100 (by decide))
  by_cases cN : N ≤ f
  · have hg : gby b N f = -1 := by unfold gby; rw [if_pos cN]
    refine ⟨up2 U 93 15 0, J, fun c hc => by rw [w_ne _ _ _ _ hc]; exact u1 c hc, fun x hx => by rw [w_at, if_neg (by omega)]; exact u2 x (by omega) (by omega), by rw [w_at, if_neg (by decide), u3]; unfold lxT; rw [if_pos cN], by rw [w_at, if_neg (by decide)]; exact u4, by rw [w_eq]; unfold rK; rw [if_pos cN], fun h => by omega, fun h => by omega, start _ ?_⟩
    rw [if_neg (by omega)]
  · obtain ⟨b1, b2, b3⟩ := t3 f (by omega)
    have hg : gby b N f = b f := by unfold gby; rw [if_neg cN]
    rw [hg] at start
    have k2 := m_212 (L := L) (xs := xs) (V := U) (J := J) (tg := tg) (d := d) (a := b f) (by omega)
    have k1 := m_211 (L := L) (xs := xs) (V := U) (J := J) (tg := tg) (d := d) (a := b f) (by omega)
    by_cases cD : isD (b f) = true
    · obtain ⟨W, w1, w2, w3, w4, w5⟩ := m_213n (L := L) (xs := xs) (J := J) (tg := tg) (d := d) (V := up2 (up2 U 93 15 1) 93 16 0) (b := b) (N := N) (hTU.up (by rw [w_at, if_neg (by decide), w_at, if_neg (by decide)]) (by rw [w_ne _ _ _ _ (by decide), w_ne _ _ _ _ (by decide)])) (f := f) (by omega) (by rw [w_at, if_neg (by decide), w_at, if_neg (by decide)]; exact u3) (w_eq _ _ _ _) (x1 := Int32.ofInt (b f))
      refine ⟨W, J, fun c hc => by rw [w1 c hc, w_ne _ _ _ _ hc, w_ne _ _ _ _ hc]; exact u1 c hc, fun x hx => by rw [w2 x (by omega) (by omega), w_at, if_neg (by omega), w_at, if_neg (by omega)]; exact u2 x (by omega) (by omega), by rw [w3]; unfold lxT; rw [if_neg cN, if_pos cD], by rw [w2 14 (by decide) (by decide), w_at, if_neg (by decide), w_at, if_neg (by decide)]; exact u4, by rw [w2 15 (by decide) (by decide), w_at, if_neg (by decide), w_eq]; unfold rK; rw [if_neg cN, if_pos cD], fun _ _ => w4, fun _ h => (by rw [cD] at h; cases h), start _ ?_⟩
      rw [if_pos (by omega)]
      refine ⟨_, _, _, k2, ?_⟩
      rw [if_neg (b0_f cD)]
      simp (disch := omega) only [eV_at, eV_up, o_lit2, o_add, o_sub, o_mul, o_neg, o_div, o_nat, ix_t, o_lt, o_le, o_eq, o_bi0, o_bi1, o_bib, em_t, o_neg1, o_shl, o_tb, o_tb0, o_tt, o_and, o_xor, o_or, o_max, o_min, an_tb, and_true, true_and, not_true, not_false, if_true, if_false, tn_add, tn_mul, Int.reduceToNat, tn_cast, md_x]
      exact w5
    · have cD' : isD (b f) = false := by simpa using cD
      by_cases cL : isL (b f) = true
      · obtain ⟨W, J2, w1, w2, w3, w4, w5⟩ := m_213w (L := L) (xs := xs) (J := up2 J 93 17 0) (tg := tg) (d := d) (V := up2 U 93 15 2) (b := b) (N := N) (hTU.up (by rw [w_at, if_neg (by decide)]) (by rw [w_ne _ _ _ _ (by decide)])) (f := f) (by omega) (by rw [w_at, if_neg (by decide)]; exact u3) (by rw [w_at, if_neg (by decide)]; exact u4) (w_eq _ _ _ _) (x1 := Int32.ofInt (b f))
        refine ⟨W, J2, fun c hc => by rw [w1 c hc, w_ne _ _ _ _ hc]; exact u1 c hc, fun x hx => by rw [w2 x (by omega), w_at, if_neg (by omega)]; exact u2 x (by omega) (by omega), by rw [w3]; unfold lxT; rw [if_neg cN, if_neg cD, if_pos cL], by rw [w2 14 (by decide), w_at, if_neg (by decide)]; exact u4, by rw [w2 15 (by decide), w_eq]; unfold rK; rw [if_neg cN, if_neg cD, if_pos cL], fun _ h => absurd h cD, fun _ _ _ => w4, start _ ?_⟩
        rw [if_pos (by omega)]
        refine ⟨_, _, _, k2, ?_⟩
        rw [if_pos (b0_t cD)]
        refine ⟨_, _, _, k1, ?_⟩
        rw [if_neg (b0_f cL)]
        simp (disch := omega) only [eV_at, eV_up, o_lit2, o_add, o_sub, o_mul, o_neg, o_div, o_nat, ix_t, o_lt, o_le, o_eq, o_bi0, o_bi1, o_bib, em_t, o_neg1, o_shl, o_tb, o_tb0, o_tt, o_and, o_xor, o_or, o_max, o_min, an_tb, and_true, true_and, not_true, not_false, if_true, if_false, tn_add, tn_mul, Int.reduceToNat, tn_cast, md_x]
        exact w5
      · obtain ⟨g1, g2, g3, g4⟩ := sgn_rg (b f)
        have hU : up2 (eV U) 93 13 ((eV U) 93 13 + 1) = eV (up2 U 93 13 ((f : Int) + 1)) := by
          simp (disch := omega) only [u3, eV_at, eV_up, o_lit2, o_add, o_sub, o_mul, o_neg, o_div, o_nat, ix_t, o_lt, o_le, o_eq, o_bi0, o_bi1, o_bib, em_t, o_neg1, o_shl, o_tb, o_tb0, o_tt, o_and, o_xor, o_or, o_max, o_min, an_tb, and_true, true_and, not_true, not_false, if_true, if_false, tn_add, tn_mul, Int.reduceToNat, tn_cast, md_x]
        have enter : ∀ r, (if sgn (b f) = 1 then Runs (GW L xs) (d + 2) 213 (320, [.ref 93, (Value.int (Int32.ofInt (b f))), vU], [.int 0], zS (eV (up2 U 93 13 ((f : Int) + 1))) J tg) r else Runs (GW L xs) (d + 2) 213 (315, [.ref 93, (Value.int (Int32.ofInt (b f))), vU], [], zS (eV (up2 U 93 13 ((f : Int) + 1))) J tg) r) → Runs (GW L xs) (d + 2) 213 (0, [.ref 93, vU, vU], [], zS (eV V) J tg) r := fun r h => by
          refine start _ ?_
          rw [if_pos (by omega)]
          refine ⟨_, _, _, k2, ?_⟩
          rw [if_pos (b0_t cD)]
          refine ⟨_, _, _, k1, ?_⟩
          rw [if_pos (b0_t cL), hU]
          exact h
        have keep : ∀ z : Int, (∀ c, c ≠ 93 → (up2 (up2 U 93 13 ((f : Int) + 1)) 93 15 z) c = V c) ∧ (∀ x, ¬ (13 ≤ x ∧ x ≤ 16) → (up2 (up2 U 93 13 ((f : Int) + 1)) 93 15 z) 93 x = V 93 x) ∧ (up2 (up2 U 93 13 ((f : Int) + 1)) 93 15 z) 93 13 = ((f + 1 : Nat) : Int) ∧ (up2 (up2 U 93 13 ((f : Int) + 1)) 93 15 z) 93 14 = f := fun z => ⟨fun c hc => by rw [w_ne _ _ _ _ hc, w_ne _ _ _ _ hc]; exact u1 c hc, fun x hx => by rw [w_at, if_neg (by omega), w_at, if_neg (by omega)]; exact u2 x (by omega) (by omega), by rw [w_at, if_neg (by decide), w_eq]; rfl, by rw [w_at, if_neg (by decide), w_at, if_neg (by decide)]; exact u4⟩
        by_cases s1 : sgn (b f) = 1
        · have hnd : ¬ dbl b N f := fun h => by have := h.1; omega
          obtain ⟨k3, k4, k5, k6⟩ := keep 3
          refine ⟨_, J, k3, k4, by rw [k5]; unfold lxT; rw [if_neg cN, if_neg cD, if_neg cL, if_neg hnd], k6, by rw [w_eq]; unfold rK; rw [if_neg cN, if_neg cD, if_neg cL, if_neg hnd, if_pos s1], fun _ h => absurd h cD, fun _ _ h => absurd h cL, enter _ ?_⟩
          rw [if_pos s1]
          apply sg_213_320
          rw [if_pos rfl]
          apply sg_213_331
          simp (disch := omega) only [eV_at, eV_up, o_lit2, o_add, o_sub, o_mul, o_neg, o_div, o_nat, ix_t, o_lt, o_le, o_eq, o_bi0, o_bi1, o_bib, em_t, o_neg1, o_shl, o_tb, o_tb0, o_tt, o_and, o_xor, o_or, o_max, o_min, an_tb, and_true, true_and, not_true, not_false, if_true, if_false, tn_add, tn_mul, Int.reduceToNat, tn_cast, md_x]
          rw [if_neg (by omega), if_neg (by omega)] <;> first | rfl | trivial
        · have toSign : ∀ r, Runs (GW L xs) (d + 2) 213 (331, [.ref 93, (Value.int (Int32.ofInt (b f))), .int 1], [(Value.int (Int32.ofInt (b f))), .ref 93], zS (eV (up2 U 93 13 ((f : Int) + 1))) J tg) r → Runs (GW L xs) (d + 2) 213 (0, [.ref 93, vU, vU], [], zS (eV V) J tg) r := fun r h => by
            refine enter _ ?_
            rw [if_neg s1]
            apply sg_213_315
            apply sg_213_320
            rw [if_neg (by decide)]
            exact h
          obtain ⟨k3, k4, k5, k6⟩ := keep (b f)
          by_cases c6 : b f = 60 ∨ b f = 62
          · have hTX : TPR (up2 (up2 U 93 13 ((f : Int) + 1)) 93 15 (b f)) b N := hTU.up (by rw [w_at, if_neg (by decide), w_at, if_neg (by decide)]) (by rw [w_ne _ _ _ _ (by decide), w_ne _ _ _ _ (by decide)])
            have k0 := m_210 (L := L) (xs := xs) (J := J) (tg := tg) (d := d + 1) hTX (p := f + 1) (by omega)
            have hgr := gby_rg (p := f + 1) hTX
            have to346 : ∀ r, Runs (GW L xs) (d + 2) 213 (346, [.ref 93, (Value.int (Int32.ofInt (b f))), .int 1], [], zS (eV (up2 (up2 U 93 13 ((f : Int) + 1)) 93 15 (b f))) J tg) r → Runs (GW L xs) (d + 2) 213 (0, [.ref 93, vU, vU], [], zS (eV V) J tg) r := fun r h => by
              refine toSign _ ?_
              apply sg_213_331
              simp (disch := omega) only [eV_at, eV_up, o_lit2, o_add, o_sub, o_mul, o_neg, o_div, o_nat, ix_t, o_lt, o_le, o_eq, o_bi0, o_bi1, o_bib, em_t, o_neg1, o_shl, o_tb, o_tb0, o_tt, o_and, o_xor, o_or, o_max, o_min, an_tb, and_true, true_and, not_true, not_false, if_true, if_false, tn_add, tn_mul, Int.reduceToNat, tn_cast, md_x]
              by_cases c60 : b f = 60
              · rw [if_pos c60]; exact h
              · rw [if_neg c60, if_pos (by omega)]; exact h
            have s1' : ¬ sgn (b f) = 1 := s1
            generalize hX : up2 (up2 U 93 13 ((f : Int) + 1)) 93 15 (b f) = X at *
            have x15 : X 93 15 = b f := by rw [← hX, w_eq]
            by_cases c61 : gby b N (f + 1) = 61
            · have hlt : f + 1 < N := by
                unfold gby at c61
                split at c61
                · omega
                · omega
              have hd : dbl b N f := ⟨c6, hlt, by unfold gby at c61; rw [if_neg (by omega)] at c61; exact c61⟩
              have hz : ∃ z : Int, z = (if b f = 60 then 4 else 5) := ⟨_, rfl⟩
              obtain ⟨z, hz⟩ := hz
              refine ⟨up2 (up2 X 93 13 (((f + 1 : Nat) : Int) + 1)) 93 15 z, J, fun c hc => by rw [w_ne _ _ _ _ hc, w_ne _ _ _ _ hc]; exact k3 c hc, fun x hx => by rw [w_at, if_neg (by omega), w_at, if_neg (by omega)]; exact k4 x hx, by rw [w_at, if_neg (by decide), w_eq]; unfold lxT; rw [if_neg cN, if_neg cD, if_neg cL, if_pos hd]; omega, by rw [w_at, if_neg (by decide), w_at, if_neg (by decide)]; exact k6, by rw [w_eq, hz]; unfold rK; rw [if_neg cN, if_neg cD, if_neg cL, if_pos hd], fun _ h => absurd h cD, fun _ _ h => absurd h cL, to346 _ ?_⟩
              apply sg_213_346
              rw [eV_at, k5]
              refine ⟨_, _, _, k0, ?_⟩
              simp (disch := omega) only [k5, eV_at, eV_up, o_lit2, o_add, o_sub, o_mul, o_neg, o_div, o_nat, ix_t, o_lt, o_le, o_eq, o_bi0, o_bi1, o_bib, em_t, o_neg1, o_shl, o_tb, o_tb0, o_tt, o_and, o_xor, o_or, o_max, o_min, an_tb, and_true, true_and, not_true, not_false, if_true, if_false, tn_add, tn_mul, Int.reduceToNat, tn_cast, md_x]
              rw [if_pos c61]
              by_cases c60 : b f = 60
              · rw [if_pos c60] at hz
                rw [if_pos c60, hz]
              · rw [if_neg c60] at hz
                rw [if_neg c60, hz]
            · have hnd : ¬ dbl b N f := fun h => c61 (by unfold gby; rw [if_neg (by have := h.2.1; omega)]; exact h.2.2)
              refine ⟨X, J, k3, k4, by rw [k5]; unfold lxT; rw [if_neg cN, if_neg cD, if_neg cL, if_neg hnd], k6, by rw [x15]; unfold rK; rw [if_neg cN, if_neg cD, if_neg cL, if_neg hnd, if_neg s1], fun _ h => absurd h cD, fun _ _ h => absurd h cL, to346 _ ?_⟩
              apply sg_213_346
              rw [eV_at, k5]
              refine ⟨_, _, _, k0, ?_⟩
              simp (disch := omega) only [eV_at, eV_up, o_lit2, o_add, o_sub, o_mul, o_neg, o_div, o_nat, ix_t, o_lt, o_le, o_eq, o_bi0, o_bi1, o_bib, em_t, o_neg1, o_shl, o_tb, o_tb0, o_tt, o_and, o_xor, o_or, o_max, o_min, an_tb, and_true, true_and, not_true, not_false, if_true, if_false, tn_add, tn_mul, Int.reduceToNat, tn_cast, md_x]
              rw [if_neg c61] <;> first | rfl | trivial
          · have hnd : ¬ dbl b N f := fun h => c6 h.1
            refine ⟨_, J, k3, k4, by rw [k5]; unfold lxT; rw [if_neg cN, if_neg cD, if_neg cL, if_neg hnd], k6, by rw [w_eq]; unfold rK; rw [if_neg cN, if_neg cD, if_neg cL, if_neg hnd, if_neg s1], fun _ h => absurd h cD, fun _ _ h => absurd h cL, toSign _ ?_⟩
            apply sg_213_331
            simp (disch := omega) only [eV_at, eV_up, o_lit2, o_add, o_sub, o_mul, o_neg, o_div, o_nat, ix_t, o_lt, o_le, o_eq, o_bi0, o_bi1, o_bib, em_t, o_neg1, o_shl, o_tb, o_tb0, o_tt, o_and, o_xor, o_or, o_max, o_min, an_tb, and_true, true_and, not_true, not_false, if_true, if_false, tn_add, tn_mul, Int.reduceToNat, tn_cast, md_x]
            rw [if_neg (by omega), if_neg (by omega)] <;> first | rfl | trivial
end LR
