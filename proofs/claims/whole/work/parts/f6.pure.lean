/-! grammar. -/
theorem c_grammar {L : Nat} {xs : Nat → Int32} {V : Nat → Nat → Int} {J : Nat → Nat → Int64} {tg : Option Nat} (h : INV V) : ∃ (v : Int) (U W : Nat → Nat → Int) (J1 : Nat → Nat → Int64) (tg' : Option Nat), Runs (GW L xs) 40 128 (0, [.ref 0], [], zS (eV V) J tg) (some (Value.int (Int32.ofInt (v))), zS (eV U) J tg') ∧ Runs (GW L xs) 40 233 (0, [.ref 93], [], zS (eV U) J tg') (some (Value.int (Int32.ofInt (v))), zS (eV W) J1 tg') ∧ INV W := by
  have h0 := h
  obtain ⟨hR, ⟨hA, hB, hC, hD, hE, hF, hH⟩, h2, h3, h4, h5⟩ := h
  have r0 : 0 ≤ V 18 0 ∧ V 18 0 ≤ 4 := hR 18 0 (by decide) (by decide)
  have e94 : V 94 3 = V 18 0 := hH.1.1
  by_cases c4 : V 18 0 = 4
  · refine ⟨-1, V, V, J, tg, sg_128t47 _ _ _ (ite_n ?_ rfl), sg_233 _ _ _ (ite_p ?_ rfl), h0⟩
    · rw [eV_at, c4]; decide
    · rw [eV_at, e94, c4]; rfl
  · obtain ⟨K, hK⟩ : ∃ K : Nat, V 18 0 = K := ⟨(V 18 0).toNat, by omega⟩
    have K4 : K < 4 := by omega
    obtain ⟨C, hCe⟩ : ∃ C, C = 47 + 4 * K := ⟨_, rfl⟩
    have hG : isG C := by show C = 47 ∨ C = 51 ∨ C = 55 ∨ C = 59; omega
    obtain ⟨t1, t2, t3, t4⟩ := h4
    obtain ⟨N, hN⟩ : ∃ N : Nat, V 67 2 = N := ⟨(V 67 2).toNat, by omega⟩
    have hTE : TPE V (V 100) N := ⟨hN, by omega, fun k hk => t3 k (by omega)⟩
    have hz0 : ∀ c, c = 50 ∨ c = 54 ∨ c = 58 ∨ c = 62 → V c 0 = 0 := fun c hc => by
      obtain ⟨-, y1, y2, y3, y4⟩ := h5.1
      rcases hc with rfl | rfl | rfl | rfl
      · exact y1
      · exact y2
      · exact y3
      · exact y4
    obtain ⟨U, r1, v, z1, ⟨u1, u2, u3, u4⟩, hr1, hcase⟩ := k_71 (L := L) (xs := xs) (J := J) (tg := tg) (d := 34) (C := C) (b := V 100) (N := N) hG hTE (hz0 _ (by omega))
    have hk18 : (eV V) 18 0 = Int32.ofInt (K : Int) := by rw [eV_at, hK]
    have hCk : (C = 47 ∧ (K : Int) = 0) ∨ (C = 51 ∧ (K : Int) = 1) ∨ (C = 55 ∧ (K : Int) = 2) ∨ (C = 59 ∧ (K : Int) = 3) := by omega
    have uV : ∀ c, (c ≤ 46 ∨ (63 ≤ c ∧ c ≠ 67 ∧ c ≠ 69)) → U c = V c := fun c hc => u1 c (by omega) (by omega) (by omega) (by omega) (by omega) (by omega)
    rcases hcase with ⟨hv0, e, f, y1, y2, y3, y4, y5⟩ | ⟨hv1, s', y1, y2, y3, y4⟩
    · -- a FAULT
      have hTU : TPR U (V 100) N := ⟨by rw [uV 93 (by omega), t2]; exact hN, by omega, fun k hk => ⟨by rw [uV 100 (by omega)], (hTE.2.2 k hk).2⟩⟩
      obtain ⟨v', W0, J2, w1, w2, hr2, hcase2⟩ := m_232 (L := L) (xs := xs) (tg := some C) (d := 30) (V := U) (J := J) K4 hTU (by rw [uV 94 (by omega), e94]; exact hK) (V 67 8) 0
      rcases hcase2 with ⟨q0, f', q1, q2, q3⟩ | ⟨q0, p', hc', cl', q1, q2⟩
      · rw [y1] at z1
        have ez := Prod.mk.inj (Fi_d z1 q3)
        have ev : e = v' := ez.1
        have ef : f = f' := (Prod.mk.inj ez.2).1
        subst ev
        subst ef
        obtain ⟨W, hW⟩ : ∃ W, W = up2 (up2 (up2 W0 93 11 e) 93 12 (f : Int)) 93 7 0 := ⟨_, rfl⟩
        have wc0 : ∀ c, c ≠ 93 → W c = W0 c := fun c z => by rw [hW, w_ne _ _ _ _ z, w_ne _ _ _ _ z, w_ne _ _ _ _ z]
        have wU : ∀ c, c ≠ 93 → c ≠ 96 → c ≠ 101 → c ≠ 102 → W c = U c := fun c a1 a2 a3 a4 => by rw [wc0 c a1, w1.1 c a1 a2 a3 a4]
        have wc : ∀ c, c ≠ C → c ≠ C + 1 → c ≠ C + 2 → c ≠ C + 3 → c ≠ 67 → c ≠ 69 → c ≠ 93 → c ≠ 96 → c ≠ 101 → c ≠ 102 → W c = V c := fun c a1 a2 a3 a4 a5 a6 a7 a8 a9 b1 => by rw [wU c a7 a8 a9 b1, u1 c a1 a2 a3 a4 a5 a6]
        have fV : ∀ c, (c ≤ 46 ∨ c = 63 ∨ c = 71 ∨ c = 81 ∨ c = 94 ∨ c = 95) → W c = V c := fun c hc => wc c (by omega) (by omega) (by omega) (by omega) (by omega) (by omega) (by omega) (by omega) (by omega) (by omega)
        have w96 : ∀ x, x < 800 * K → W 96 x = V 96 x := fun x hx => by rw [wc0 96 (by decide), w1.2.2 x hx, uV 96 (by omega)]
        have w67 : W 67 = U 67 := wU 67 (by decide) (by decide) (by decide) (by decide)
        refine ⟨-1, U, W, J2, some C, sgc_128 _ _ _ hCk hk18 ⟨_, _, hr1, ite_p (by rw [hv0]; rfl) rfl⟩, ?_, ?_⟩
        · apply sg_233
          refine ite_n ?_ ⟨_, _, _, hr2, ?_⟩
          · rw [eV_at, uV 94 (by omega), e94, hK]
            intro z
            have z : Int32.ofInt (K : Int) = Int32.ofInt 4 := z
            rw [o_eq (by omega) (by omega)] at z
            omega
          · have ne : ¬ Int32.ofInt e = 0 := by
              intro z
              have z : Int32.ofInt e = Int32.ofInt 0 := z
              rw [o_eq (by omega) (by omega)] at z
              exact q0 z
            refine ite_n ne (ite_n ne ?_)
            simp (disch := omega) only [q1, eV_at, eV_up, o_lit2, o_add, o_sub, o_mul, o_neg, o_div, o_nat, ix_t, o_lt, o_le, o_eq, o_bi0, o_bi1, o_bib, em_t, o_neg1, o_shl, o_tb, o_tb0, o_tt, o_and, o_xor, o_or, o_max, o_min, an_tb, and_true, true_and, not_true, not_false, if_true, if_false, tn_add, tn_mul, Int.reduceToNat, tn_cast, md_x]
            rw [← hW]
        · refine ⟨hR.fr fun c hc => fV c (by omega), REL.fr (V := V) ⟨hA, hB, hC, hD, hE, hF, hH⟩ (fun c hc => fV c (by omega)), h2.fr (fun c hc => fV c (by omega)), h3.up (fV 1 (by omega)) (fV 2 (by omega)) (fV 3 (by omega)) (fV 4 (by omega)) (fV 71 (by omega)) (fV 81 (by omega)), ?_, ?_⟩
          · refine ⟨by rw [w67, u4]; decide, by rw [w67, u4, hW, w_eq], fun k hk => ?_, Or.inr ⟨by rw [w67]; exact u2, ?_, ?_, by rw [w67, y4]; omega, by rw [w67, y5]; omega⟩⟩
            · rw [w67, u4] at hk; omega
            · rw [w67, y4, hW, w_at, if_neg (by decide), w_at, if_neg (by decide), w_eq]
            · rw [w67, y5, hW, w_at, if_neg (by decide), w_eq]
          · have hzW : ∀ c, c = 50 ∨ c = 54 ∨ c = 58 ∨ c = 62 → W c 0 = 0 := fun c hc => by
              by_cases z : c = C + 3
              · rw [z, wU _ (by omega) (by omega) (by omega) (by omega)]; exact u3
              · rw [wc c (by omega) (by omega) (by omega) z (by omega) (by omega) (by omega) (by omega) (by omega) (by omega)]; exact hz0 c hc
            refine ⟨⟨by rw [fV 63 (by omega)]; exact h5.1.1, hzW 50 (by omega), hzW 54 (by omega), hzW 58 (by omega), hzW 62 (by omega)⟩, by rw [fV 40 (by omega), fV 18 (by omega)]; exact h5.2.1, fun k hk => ?_⟩
            rw [fV 18 (by omega)] at hk
            exact (h5.2.2 k hk).f2 (fun c a1 a2 => wc c (by omega) (by omega) (by omega) (by omega) (by omega) (by omega) (by omega) (by omega) (by omega) (by omega)) (fun x hx => w96 x (by omega))
      · rw [y1] at z1
        have ez := Prod.mk.inj (Fi_d z1 q2)
        have ev : e = 0 := ez.1
        omega
    · -- a GRAMMAR
      obtain ⟨X, hX⟩ : ∃ X, X = up2 U 18 0 ((K : Int) + 1) := ⟨_, rfl⟩
      have xc : ∀ c, c ≠ 18 → X c = U c := fun c z => by rw [hX, w_ne _ _ _ _ z]
      have hTX : TPR X (V 100) N := ⟨by rw [xc 93 (by decide), uV 93 (by omega), t2]; exact hN, by omega, fun k hk => ⟨by rw [xc 100 (by decide), uV 100 (by omega)], (hTE.2.2 k hk).2⟩⟩
      obtain ⟨v', W0, J2, w1, w2, hr2, hcase2⟩ := m_232 (L := L) (xs := xs) (tg := some C) (d := 30) (V := X) (J := J) K4 hTX (by rw [xc 94 (by decide), uV 94 (by omega), e94]; exact hK) (V 67 8) 0
      rcases hcase2 with ⟨q0, f', q1, q2, q3⟩ | ⟨q0, p', hc', cl', q1, q2⟩
      · rw [y1] at z1
        have ez := Prod.mk.inj (Fi_d z1 q3)
        have ev : 0 = v' := ez.1
        omega
      · rw [y1] at z1
        have ez := Prod.mk.inj (Fi_d z1 q2)
        have ez2 := Prod.mk.inj (Prod.mk.inj ez.2).2
        have ecl : s'.2.2.2.2.2.2.2.1 = cl' := ez2.1
        have ehc : s'.2.2.2.2.2.2.2.2.2 = hc' := ez2.2
        obtain ⟨-, -, -, -, -, s6, s7, s8, s9, -⟩ := y4
        rw [ecl] at s6 s7 s9
        rw [ehc] at s8
        obtain ⟨p1, p2, p3, p4, p5, p6, p7, p8, p9, pa, pb⟩ := q1
        have hW94 : W0 94 3 = K := by rw [w1.1 94 (by decide) (by decide) (by decide) (by decide), xc 94 (by decide), uV 94 (by omega), e94]; exact hK
        obtain ⟨W, hW⟩ : ∃ W, W = up2 (up2 (up2 (up2 W0 93 11 0) 93 12 (-1)) 93 7 0) 94 3 ((K : Int) + 1) := ⟨_, rfl⟩
        have wc0 : ∀ c, c ≠ 93 → c ≠ 94 → W c = W0 c := fun c z z2 => by rw [hW, w_ne _ _ _ _ z2, w_ne _ _ _ _ z, w_ne _ _ _ _ z, w_ne _ _ _ _ z]
        have wU : ∀ c, c ≠ 18 → c ≠ 93 → c ≠ 94 → c ≠ 96 → c ≠ 101 → c ≠ 102 → W c = U c := fun c a0 a1 a1' a2 a3 a4 => by rw [wc0 c a1 a1', w1.1 c a1 a2 a3 a4, xc c a0]
        have wc : ∀ c, c ≠ C → c ≠ C + 1 → c ≠ C + 2 → c ≠ C + 3 → c ≠ 18 → c ≠ 67 → c ≠ 69 → c ≠ 93 → c ≠ 94 → c ≠ 96 → c ≠ 101 → c ≠ 102 → W c = V c := fun c a1 a2 a3 a4 a4' a5 a6 a7 a7' a8 a9 b1 => by rw [wU c a4' a7 a7' a8 a9 b1, u1 c a1 a2 a3 a4 a5 a6]
        have f : ∀ c, (c ≤ 46 ∨ c = 63 ∨ c = 71 ∨ c = 81 ∨ c = 95) ∧ c ≠ 18 → W c = V c := fun c hc => wc c (by omega) (by omega) (by omega) (by omega) (by omega) (by omega) (by omega) (by omega) (by omega) (by omega) (by omega) (by omega)
        have f18 : ∀ x, W 18 x = if x = 0 then (K : Int) + 1 else V 18 x := fun x => by rw [wc0 18 (by decide) (by decide), w1.1 18 (by decide) (by decide) (by decide) (by decide), hX, w_at, uV 18 (by omega)]
        have f94 : ∀ x, x ≠ 3 → W 94 x = V 94 x := fun x hx => by rw [hW, w_at, if_neg hx, w_ne _ _ _ _ (by decide), w_ne _ _ _ _ (by decide), w_ne _ _ _ _ (by decide), w1.1 94 (by decide) (by decide) (by decide) (by decide), xc 94 (by decide), uV 94 (by omega)]
        have f943 : W 94 3 = (K : Int) + 1 := by rw [hW, w_eq]
        have w96' : W 96 = W0 96 := wc0 96 (by decide) (by decide)
        have w96 : ∀ x, x < 800 * K → W 96 x = V 96 x := fun x hx => by rw [w96', w1.2.2 x hx, xc 96 (by decide), uV 96 (by omega)]
        have w67 : W 67 = U 67 := wU 67 (by decide) (by decide) (by decide) (by decide) (by decide) (by decide)
        have wC : ∀ c, C ≤ c → c ≤ C + 3 → W c = U c := fun c a1 a2 => wU c (by omega) (by omega) (by omega) (by omega) (by omega) (by omega)
        refine ⟨K, X, W, J2, some C, sgc_128 _ _ _ hCk hk18 ⟨_, _, hr1, ite_n (by rw [hv1]; decide) ?_⟩, ?_, ?_⟩
        · have hU18 : U 18 0 = K := by rw [uV 18 (by omega)]; exact hK
          simp (disch := omega) only [hU18, Int.add_sub_cancel, eV_at, eV_up, o_lit2, o_add, o_sub, o_mul, o_neg, o_div, o_nat, ix_t, o_lt, o_le, o_eq, o_bi0, o_bi1, o_bib, em_t, o_neg1, o_shl, o_tb, o_tb0, o_tt, o_and, o_xor, o_or, o_max, o_min, an_tb, and_true, true_and, not_true, not_false, if_true, if_false, tn_add, tn_mul, Int.reduceToNat, tn_cast, md_x]
          rw [← hX]
        · rw [q0] at hr2
          apply sg_233
          refine ite_n ?_ ⟨_, _, _, hr2, ite_p rfl (ite_p rfl ?_)⟩
          · rw [eV_at, xc 94 (by decide), uV 94 (by omega), e94, hK]
            intro z
            have z : Int32.ofInt (K : Int) = Int32.ofInt 4 := z
            rw [o_eq (by omega) (by omega)] at z
            omega
          · simp (disch := omega) only [hW94, Int.add_sub_cancel, eV_at, eV_up, o_lit2, o_add, o_sub, o_mul, o_neg, o_div, o_nat, ix_t, o_lt, o_le, o_eq, o_bi0, o_bi1, o_bib, em_t, o_neg1, o_shl, o_tb, o_tb0, o_tt, o_and, o_xor, o_or, o_max, o_min, an_tb, and_true, true_and, not_true, not_false, if_true, if_false, tn_add, tn_mul, Int.reduceToNat, tn_cast, md_x]
            rw [← hW]
        · have hRW : RNG W := fun c p a1 a2 => by
            by_cases z : c = 18
            · subst z
              rw [f18]
              by_cases z2 : p = 0
              · subst z2
                rw [if_pos rfl]
                show (0 : Int) ≤ _ ∧ _ ≤ (4 : Int)
                omega
              · rw [if_neg z2]; exact hR 18 p a1 a2
            · rw [f c (by omega)]; exact hR c p a1 a2
          refine ⟨hRW, ⟨(hA.up (fun p _ => by rw [f 1 (by omega)]) (fun p q => f94 p (by omega))), (hB.up hR (by rw [f 1 (by omega)]) (by rw [f 1 (by omega)]) (f 2 (by omega)) (f 3 (by omega)) (f 4 (by omega)) (fun l w _ _ => f94 _ (by omega))), (hC.up hR (by rw [f 1 (by omega)]) (f 5 (by omega)) (f 6 (by omega)) (f 12 (by omega)) (fun l w _ _ => f94 _ (by omega)) (fun k _ => f94 _ (by omega))), (hD.up (by rw [f 1 (by omega)]) (by rw [f 1 (by omega)]) (f 3 (by omega)) (f 4 (by omega)) (f 5 (by omega)) (f 6 (by omega)) (f 12 (by omega))), (hE.up (by rw [f 1 (by omega)]) (f 7 (by omega)) (f 8 (by omega)) (f 9 (by omega)) (f 10 (by omega)) (f 11 (by omega)) (fun p _ => f94 _ (by omega))), (hF.up hR (by rw [f 1 (by omega)]) (by rw [f 1 (by omega)]) (by rw [f 7 (by omega)]) (fun x _ _ => f x (by omega)) (fun p _ => f94 _ (by omega))), ?_⟩, h2.fr (fun c hc => f c (by omega)), h3.up (f 1 (by omega)) (f 2 (by omega)) (f 3 (by omega)) (f 4 (by omega)) (f 71 (by omega)) (f 81 (by omega)), ?_, ?_⟩
          · obtain ⟨e1, e2, e3, e4⟩ := hH
            refine ⟨?_, fun j hj => ?_, fun s hs => ?_, fun j hj => ?_⟩
            · rw [f943, f94 4 (by omega), f94 5 (by omega), f94 6 (by omega), f18, f18, f18, f18, if_pos rfl, if_neg (by decide), if_neg (by decide), if_neg (by decide)]
              exact ⟨rfl, e1.2.1, e1.2.2.1, e1.2.2.2.1, by have := e1.2.2.2.2; omega⟩
            · rw [f18, if_neg (by decide)] at hj
              rw [f94 _ (by omega), f (18 + 1) (by omega)]; exact e2 j hj
            · obtain ⟨q1, q2⟩ := e3 s hs
              rw [f94 _ (by omega), f (18 + 3) (by omega), f 1 (by omega), f (18 + 2) (by omega)]
              refine ⟨q1, fun i hi => ?_⟩
              rw [f94 _ (by omega)]; exact q2 i hi
            · rw [f18, if_neg (by decide)] at hj
              rw [f94 _ (by omega), f (18 + 4) (by omega), f 1 (by omega)]; exact e4 j hj
          · refine ⟨by rw [w67, u4]; decide, by rw [w67, u4, hW, w_ne _ _ _ _ (by decide), w_eq], fun k hk => ?_, Or.inr ⟨by rw [w67]; exact u2, ?_, ?_, by rw [w67, y2]; decide, by rw [w67, y3]; decide⟩⟩
            · rw [w67, u4] at hk; omega
            · rw [w67, y2, hW, w_ne _ _ _ _ (by decide), w_at, if_neg (by decide), w_at, if_neg (by decide), w_eq]
            · rw [w67, y3, hW, w_ne _ _ _ _ (by decide), w_at, if_neg (by decide), w_eq]
          · have hzW : ∀ c, c = 50 ∨ c = 54 ∨ c = 58 ∨ c = 62 → W c 0 = 0 := fun c hc => by
              by_cases z : c = C + 3
              · rw [z, wC _ (by omega) (by omega)]; exact u3
              · rw [wc c (by omega) (by omega) (by omega) z (by omega) (by omega) (by omega) (by omega) (by omega) (by omega) (by omega) (by omega)]; exact hz0 c hc
            refine ⟨⟨by rw [f 63 (by omega)]; exact h5.1.1, hzW 50 (by omega), hzW 54 (by omega), hzW 58 (by omega), hzW 62 (by omega)⟩, ?_, fun k hk => ?_⟩
            · rw [f 40 (by omega), f18, if_pos rfl]
              have := h5.2.1
              omega
            · rw [f18, if_pos rfl] at hk
              by_cases zk : k = K
              · subst zk
                subst hCe
                refine GRk.mk (cl := cl') (hc := hc') (s9.up (fun j _ => by rw [wC _ (by omega) (by omega)]) (fun j _ => by rw [wC _ (by omega) (by omega)])) (by rw [w96']; exact p6) pa (by rw [wC _ (by omega) (by omega)]; exact SkF.suf s6.2) (by rw [w96']; exact p3.2.2) (by rw [wC _ (by omega) (by omega)]; exact s7) (by rw [wC _ (by omega) (by omega)]; exact s8) (by rw [w96']; exact p5) p9 (by omega) pb
              · exact (h5.2.2 k (by omega)).f2 (fun c a1 a2 => wc c (by omega) (by omega) (by omega) (by omega) (by omega) (by omega) (by omega) (by omega) (by omega) (by omega) (by omega) (by omega)) (fun x hx => w96 x (by omega))
