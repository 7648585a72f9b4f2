/-! A ONE in the reference. -/
theorem tk_f {b : Nat → Int} {N f : Nat} : ∃ w : Int, (w = 1 ∨ (3 ≤ w ∧ w ≤ 8)) ∧ ((lxK b N f = 0 ∧ rK b N f = 0 ∧ N ≤ f) ∨ (f < N ∧ ((lxK b N f = 2 ∧ rK b N f = 1) ∨ (lxK b N f = w ∧ rK b N f = 2) ∨ (lxK b N f = 1 ∧ rK b N f = 3) ∨ (lxK b N f = 9 ∧ rK b N f = 60) ∨ (lxK b N f = 10 ∧ rK b N f = 4) ∨ (lxK b N f = 11 ∧ rK b N f = 62) ∨ (lxK b N f = 12 ∧ rK b N f = 5) ∨ (lxK b N f = 13 ∧ rK b N f = 61) ∨ (lxK b N f = 14 ∧ rK b N f = 35) ∨ (lxK b N f = 15 ∧ rK b N f = 43) ∨ (lxK b N f = 16 ∧ rK b N f = 45) ∨ (lxK b N f = 17 ∧ rK b N f = 42) ∨ (lxK b N f = 18 ∧ rK b N f = 40) ∨ (lxK b N f = 19 ∧ rK b N f = 41) ∨ (lxK b N f = 20 ∧ rK b N f = 59)))) := by
  have hc := rk_lx (b := b) (N := N) (f := f)
  have hw := wfd_rg (b := b) (f := f) (t := en isL b N f) 17 0
  have hw := (wtk_k (v := wfd b f (en isL b N f) 17 0) (by omega)).2.2.2
  refine ⟨_, hw, ?_⟩
  rcases hc with h | ⟨h0, ⟨h1, h2, h3⟩ | ⟨h1, h2, h3⟩ | h⟩
  · exact Or.inl h
  · exact Or.inr ⟨h0, Or.inl ⟨h1, h2⟩⟩
  · exact Or.inr ⟨h0, Or.inr (Or.inl ⟨h1, h2⟩)⟩
  · exact Or.inr ⟨h0, Or.inr (Or.inr h)⟩
theorem lx_2 {b : Nat → Int} {N f : Nat} (h : lxK b N f = 2) : f < N ∧ isD (b f) = true ∧ rK b N f = 1 := by
  have hc := rk_lx (b := b) (N := N) (f := f)
  have hw := wfd_rg (b := b) (f := f) (t := en isL b N f) 17 0
  have hw := (wtk_k (v := wfd b f (en isL b N f) 17 0) (by omega)).2.2.2
  rcases hc with h | ⟨h0, ⟨h1, h2, h3⟩ | ⟨h1, h2, h3⟩ | h⟩
  · omega
  · exact ⟨h0, h3, h2⟩
  · omega
  · omega
theorem lx_3 {b : Nat → Int} {N f : Nat} (h : lxK b N f = 3) : f < N ∧ 0 ≤ lxV b N f ∧ lxV b N f ≤ 11 ∧ rK b N f = 2 := by
  have hc := rk_lx (b := b) (N := N) (f := f)
  have hw := wfd_rg (b := b) (f := f) (t := en isL b N f) 17 0
  have hw2 := (wtk_k (v := wfd b f (en isL b N f) 17 0) (by omega)).2.1
  rcases hc with h | ⟨h0, ⟨h1, h2, h3⟩ | ⟨h1, h2, h3, h4⟩ | h⟩
  · omega
  · omega
  · have e : lxV b N f = wfd b f (en isL b N f) 17 0 := by unfold lxV; rw [if_neg (by rw [h3]; decide)]
    rw [e]
    omega
  · omega
section LR
variable {L d : Nat} {xs : Nat → Int32} {V : Nat → Nat → Int} {J : Nat → Nat → Int64} {tg : Option Nat} {b : Nat → Int} {N K : Nat}
theorem m_223v {p br mi : Nat} {ar : List Int} {cs : Cd} {o v : Int} (h : TKS V J b N p) (hp : p ≤ N) (hK : K < 4) (har : ∀ o ∈ ar, 3 ≤ o ∧ o ≤ 5) (hP : PLS V (List.replicate mi 2 ++ ar)) (hC : CDS V K cs) (h24 : V 93 24 = (br : Int) + mi) (hbm : br + mi ≤ 8) (ha : ar.length + mi < 160) (hcs : cs.length + mi < 300) : ∃ (W : Nat → Nat → Int) (J2 : Nat → Nat → Int64), FRR K V W ∧ W 101 = V 101 ∧ W 93 10 = V 93 10 ∧ TKS W J2 b N (lxT b N (en isW b N p)) ∧ PLS W ar ∧ CDS W K (List.replicate mi (2, 0) ++ (o, v) :: cs) ∧ W 93 24 = br ∧ W 93 25 = 1 ∧ ∃ (I1 : Nat → Nat → Int32) (J1 : Nat → Nat → Int64), Runs (GW L xs) (d + 2) 219 (0, [.ref 93, (Value.int (Int32.ofInt (o))), (Value.int (Int32.ofInt (v)))], [], zS (eV V) J tg) (none, zS I1 J1 tg) ∧ ∃ (I2 : Nat → Nat → Int32) (J3 : Nat → Nat → Int64), Runs (GW L xs) (d + 2) 213 (0, [.ref 93, vU, vU], [], zS I1 J1 tg) (none, zS I2 J3 tg) ∧ Runs (GW L xs) (d + 3) 223 (115, [.ref 93, vU], [], zS (up2 I2 93 25 (Int32.ofInt 1)) J3 tg) (some (Value.int (Int32.ofInt (0))), zS (eV W) J2 tg) := by
  obtain ⟨U, u1, u2, u3, u4, hu⟩ := m_219 (L := L) (xs := xs) (J := J) (tg := tg) (d := d + 2) (o := o) (v := v) hC hK (by omega)
  have hTU : TKS U J b N p := h.up (u2 7 (by decide)) (fun x h1 h2 => u2 x (by omega)) (u1 100 (by decide) (by decide))
  obtain ⟨X, J2, x1, x2, x3, hx⟩ := m_213T (L := L) (xs := xs) (tg := tg) (d := d) hTU hp
  have hPX : PLS (up2 X 93 25 1) (List.replicate mi 2 ++ ar) := hP.up (by rw [w_at, if_neg (by decide), x2 23 (by omega), u2 23 (by decide)]) (by rw [w_ne _ _ _ _ (by decide), x1 102 (by decide), u1 102 (by decide) (by decide)])
  have hCX : CDS (up2 X 93 25 1) K ((o, v) :: cs) := u4.up (by rw [w_at, if_neg (by decide), x2 18 (by omega)]) (by rw [w_at, if_neg (by decide), x2 20 (by omega)]) (fun x => by rw [w_ne _ _ _ _ (by decide), x1 96 (by decide)])
  obtain ⟨W, w1, w2, w3, w4, w5, w6, hw⟩ := m_223p (L := L) (xs := xs) (J := J2) (tg := tg) (d := d + 2) hK har (op := br) (by omega) mi (up2 X 93 25 1) ((o, v) :: cs) hPX hCX (by rw [w_at, if_neg (by decide), x2 24 (by omega), u2 24 (by decide)]; exact h24) (by rw [List.length_cons]; omega) (by omega)
  refine ⟨W, J2, ⟨fun c h1 h2 h3 h4 => by rw [w1 c h1 h2, w_ne _ _ _ _ h1, x1 c h1, u1 c h1 h2], fun x hx => by rw [w2 x (by omega) (by omega) (by omega), w_at, if_neg (by omega), x2 x (by omega), u2 x (by omega)], fun x hx => by rw [w3 x hx, w_ne _ _ _ _ (by decide), x1 96 (by decide), u3 x hx]⟩, by rw [w1 101 (by decide) (by decide), w_ne _ _ _ _ (by decide), x1 101 (by decide), u1 101 (by decide) (by decide)], by rw [w2 10 (by decide) (by decide) (by decide), w_at, if_neg (by decide), x2 10 (by omega), u2 10 (by decide)], ?_, w4, w5, w6, by rw [w2 25 (by decide) (by decide) (by decide), w_eq], _, _, hu, _, _, hx, ?_⟩
  · exact x3.up (by rw [w2 7 (by decide) (by decide) (by decide), w_at, if_neg (by decide)]) (fun x h1 h2 => by rw [w2 x (by omega) (by omega) (by omega), w_at, if_neg (by omega)]) (by rw [w1 100 (by decide) (by decide), w_ne _ _ _ _ (by decide)])
  · rw [eV_up]; exact hw
theorem m_223 {p br mi : Nat} {ar : List Int} {cs : Cd} {sd : Int} (h : TKS V J b N p) (hp : p ≤ N) (hK : K < 4) (har : ∀ o ∈ ar, 3 ≤ o ∧ o ≤ 5) (hP : PLS V (List.replicate mi 2 ++ ar)) (hC : CDS V K cs) (h24 : V 93 24 = (br : Int) + mi) (h8 : V 93 8 = 3 ↔ sd = 2) (r8 : 0 ≤ V 93 8 ∧ V 93 8 ≤ 3) (hbm : br + mi ≤ 8) (ha : ar.length + mi < 160) (hcs : cs.length + mi < 300) : ∃ (v : Int) (W : Nat → Nat → Int) (J2 : Nat → Nat → Int64), FRR K V W ∧ W 101 = V 101 ∧ W 93 10 = V 93 10 ∧ (0 ≤ v ∧ v ≤ 6) ∧ Runs (GW L xs) (d + 4) 223 (0, [.ref 93, vU], [], zS (eV (V)) (J) tg) (some (Value.int (Int32.ofInt (v))), zS (eV (W)) (J2) tg) ∧ ((v ≠ 0 ∧ W 93 14 = en isW b N p ∧ ∀ ws cu cl kd hc, (sTp b N (p, 2, sd, ws, br, mi, cu, cl, kd, hc)).2 = v) ∨ (v = 0 ∧ en isW b N p < N ∧ br + mi < 8 ∧ TKS W J2 b N (lxT b N (en isW b N p)) ∧ PLS W (List.replicate (mi + 1) 2 ++ ar) ∧ CDS W K cs ∧ W 93 24 = (br : Int) + (mi + 1 : Nat) ∧ W 93 25 = V 93 25 ∧ ∀ ws cu cl kd hc, sTp b N (p, 2, sd, ws, br, mi, cu, cl, kd, hc) = ((lxT b N (en isW b N p), 2, sd, ws, br, mi + 1, cu, cl, kd, hc), 0)) ∨ (v = 0 ∧ en isW b N p < N ∧ ∃ x : Int × Int, vop x.1 x.2 ∧ x.1 ≤ 1 ∧ (sd ≠ 2 → x.1 = 1 → x.2 ≤ 7) ∧ TKS W J2 b N (lxT b N (en isW b N p)) ∧ PLS W ar ∧ CDS W K (List.replicate mi (2, 0) ++ x :: cs) ∧ W 93 24 = br ∧ W 93 25 = 1 ∧ ∀ ws cu cl kd hc, sTp b N (p, 2, sd, ws, br, mi, cu, cl, kd, hc) = ((lxT b N (en isW b N p), 3, sd, ws, br, 0, List.replicate mi (2, 0) ++ x :: cu, cl, kd, hc), 0))) := by
  have h0 := h
  obtain ⟨hT, k1, k2, k3, k4, k5⟩ := h
  obtain ⟨e1, e2, e3, e4⟩ := en_ch (f := isW) (b := b) hp
  have hr := rK_rg (b := b) (N := N) (f := en isW b N p) (fun k hk => (hT.2.2 k hk).2)
  obtain ⟨w, hw, hc⟩ := tk_f (b := b) (N := N) (f := en isW b N p)
  by_cases c16 : lxK b N (en isW b N p) = 16
  · by_cases c8 : br + mi = 8
    · refine ⟨3, V, J, FRR.rf, rfl, rfl, by decide, ?_, Or.inl ⟨by decide, k2, fun ws cu cl kd hc => ?_⟩⟩
      · apply sg_223
        simp (disch := omega) only [k3, h24, eV_at, eV_up, o_lit2, o_add, o_sub, o_mul, o_neg, o_div, o_nat, ix_t, o_lt, o_le, o_eq, o_bi0, o_bi1, o_bib, em_t, o_neg1, o_shl, o_tb, o_tb0, o_tt, o_and, o_xor, o_or, o_max, o_min, an_tb, and_true, true_and, not_true, not_false, if_true, if_false, tn_add, tn_mul, Int.reduceToNat, tn_cast, md_x]
        rw [if_pos (by omega), if_pos (by omega)] <;> first | rfl | trivial
      · rw [st_2]; unfold sOne
        rw [if_neg (by omega), if_neg (by omega), if_neg (by omega), if_pos (by omega)]
    · have hPV : PLS (up2 V 93 24 ((br : Int) + mi + 1)) (List.replicate mi 2 ++ ar) := hP.up (by rw [w_at, if_neg (by decide)]) (by rw [w_ne _ _ _ _ (by decide)])
      obtain ⟨U, u1, u2, u3, hu⟩ := m_221 (L := L) (xs := xs) (J := J) (tg := tg) (d := d + 3) (o := 2) hPV (by rw [List.length_append, List.length_replicate]; omega)
      have hTU : TKS U J b N p := h0.up (by rw [u2 7 (by decide), w_at, if_neg (by decide)]) (fun x h1 h2 => by rw [u2 x (by omega), w_at, if_neg (by omega)]) (by rw [u1 100 (by decide) (by decide), w_ne _ _ _ _ (by decide)])
      obtain ⟨X, J2, x1, x2, x3, hx⟩ := m_213T (L := L) (xs := xs) (tg := tg) (d := d + 1) hTU hp
      refine ⟨0, X, J2, ⟨fun c h1 h2 h3 h4 => by rw [x1 c h1, u1 c h1 h4, w_ne _ _ _ _ h1], fun x hx => by rw [x2 x (by omega), u2 x (by omega), w_at, if_neg (by omega)], fun x hx => by rw [x1 96 (by decide), u1 96 (by decide) (by decide), w_ne _ _ _ _ (by decide)]⟩, by rw [x1 101 (by decide), u1 101 (by decide) (by decide), w_ne _ _ _ _ (by decide)], by rw [x2 10 (by omega), u2 10 (by decide), w_at, if_neg (by decide)], by decide, ?_, Or.inr (Or.inl ⟨rfl, by omega, by omega, x3, ?_, ?_, ?_, ?_, fun ws cu cl kd hc => ?_⟩)⟩
      · apply sg_223
        simp (disch := omega) only [k3, h24, eV_at, eV_up, o_lit2, o_add, o_sub, o_mul, o_neg, o_div, o_nat, ix_t, o_lt, o_le, o_eq, o_bi0, o_bi1, o_bib, em_t, o_neg1, o_shl, o_tb, o_tb0, o_tt, o_and, o_xor, o_or, o_max, o_min, an_tb, and_true, true_and, not_true, not_false, if_true, if_false, tn_add, tn_mul, Int.reduceToNat, tn_cast, md_x]
        rw [if_pos (by omega), if_neg (by omega)]
        exact ⟨_, _, hu, _, _, hx, rfl⟩
      · exact u3.up (by rw [x2 23 (by omega)]) (by rw [x1 102 (by decide)])
      · exact hC.up (by rw [x2 18 (by omega), u2 18 (by decide), w_at, if_neg (by decide)]) (by rw [x2 20 (by omega), u2 20 (by decide), w_at, if_neg (by decide)]) (fun x => by rw [x1 96 (by decide), u1 96 (by decide) (by decide), w_ne _ _ _ _ (by decide)])
      · rw [x2 24 (by omega), u2 24 (by decide), w_eq]; omega
      · rw [x2 25 (by omega), u2 25 (by decide), w_at, if_neg (by decide)]
      · rw [st_2]; unfold sOne
        rw [if_neg (by omega), if_neg (by omega), if_neg (by omega), if_neg (by omega)]
  · by_cases c2 : lxK b N (en isW b N p) = 2
    · obtain ⟨f1, f2, f3⟩ := lx_2 c2
      obtain ⟨n1, n2, n3, n4⟩ := nm_lx f1 f2
      have h16 := k4 f1 f2
      generalize hz : nmr b (en isW b N p) (en isD b N (en isW b N p) - en isW b N p) = z at *
      by_cases c9 : z ≤ 9999
      · obtain ⟨W, J2, w1, w2, w3, w4, w5, w6, w7, w8, hw9⟩ := m_223v (L := L) (xs := xs) (tg := tg) (d := d + 1) (o := 0) (v := z) h0 hp hK har hP hC h24 hbm ha hcs
        refine ⟨0, W, J2, w1, w2, w3, by decide, ?_, Or.inr (Or.inr ⟨rfl, f1, (0, z), Or.inl ⟨rfl, n1, c9⟩, (show (0 : Int) ≤ 1 by decide), fun _ q => absurd (show (0 : Int) = 1 from q) (by decide), w4, w5, w6, w7, w8, fun ws cu cl kd hc => ?_⟩)⟩
        · apply sg_223
          simp (disch := omega) only [k3, h16, eV_at, eV_up, o_lit2, o_add, o_sub, o_mul, o_neg, o_div, o_nat, ix_t, o_lt, o_le, o_eq, o_bi0, o_bi1, o_bib, em_t, o_neg1, o_shl, o_tb, o_tb0, o_tt, o_and, o_xor, o_or, o_max, o_min, an_tb, and_true, true_and, not_true, not_false, if_true, if_false, tn_add, tn_mul, Int.reduceToNat, tn_cast, md_x]
          rw [if_neg (by omega), if_pos (by omega), if_pos (by omega)]
          exact hw9
        · rw [st_2]; unfold sOne
          rw [if_pos c2, if_neg (by have := n3.mp c9; omega), n4 c9]
      · refine ⟨2, V, J, FRR.rf, rfl, rfl, by decide, ?_, Or.inl ⟨by decide, k2, fun ws cu cl kd hc => ?_⟩⟩
        · apply sg_223
          simp (disch := omega) only [k3, h16, eV_at, eV_up, o_lit2, o_add, o_sub, o_mul, o_neg, o_div, o_nat, ix_t, o_lt, o_le, o_eq, o_bi0, o_bi1, o_bib, em_t, o_neg1, o_shl, o_tb, o_tb0, o_tt, o_and, o_xor, o_or, o_max, o_min, an_tb, and_true, true_and, not_true, not_false, if_true, if_false, tn_add, tn_mul, Int.reduceToNat, tn_cast, md_x]
          rw [if_neg (by omega), if_pos (by omega), if_neg (by omega)] <;> first | rfl | trivial
        · rw [st_2]; unfold sOne
          rw [if_pos c2, if_pos (by omega)]
    · have hn := m_220 (L := L) (xs := xs) (tg := tg) (d := d) hT e2 ⟨k1, k2, k3, k4, k5⟩
      by_cases c3 : lxK b N (en isW b N p) = 3
      · obtain ⟨f1, f2, f3, f4⟩ := lx_3 c3
        rw [if_pos c3] at hn
        by_cases c7 : lxV b N (en isW b N p) ≤ 7 ∨ sd = 2
        · obtain ⟨W, J2, w1, w2, w3, w4, w5, w6, w7, w8, hw9⟩ := m_223v (L := L) (xs := xs) (tg := tg) (d := d + 1) (o := 1) (v := lxV b N (en isW b N p)) h0 hp hK har hP hC h24 hbm ha hcs
          refine ⟨0, W, J2, w1, w2, w3, by decide, ?_, Or.inr (Or.inr ⟨rfl, f1, (1, lxV b N (en isW b N p)), Or.inr (Or.inl ⟨rfl, f2, f3⟩), (show (1 : Int) ≤ 1 by decide), fun q _ => by rcases c7 with y | y; exact y; exact absurd y q, w4, w5, w6, w7, w8, fun ws cu cl kd hc => ?_⟩)⟩
          · apply sg_223
            generalize lxV b N (en isW b N p) = z at *
            simp (disch := omega) only [k3, eV_at, eV_up, o_lit2, o_add, o_sub, o_mul, o_neg, o_div, o_nat, ix_t, o_lt, o_le, o_eq, o_bi0, o_bi1, o_bib, em_t, o_neg1, o_shl, o_tb, o_tb0, o_tt, o_and, o_xor, o_or, o_max, o_min, an_tb, and_true, true_and, not_true, not_false, if_true, if_false, tn_add, tn_mul, Int.reduceToNat, tn_cast, md_x]
            rw [if_neg (by omega), if_neg (by omega)]
            refine ⟨_, _, _, hn, ?_⟩
            simp (disch := omega) only [eV_at, eV_up, o_lit2, o_add, o_sub, o_mul, o_neg, o_div, o_nat, ix_t, o_lt, o_le, o_eq, o_bi0, o_bi1, o_bib, em_t, o_neg1, o_shl, o_tb, o_tb0, o_tt, o_and, o_xor, o_or, o_max, o_min, an_tb, and_true, true_and, not_true, not_false, if_true, if_false, tn_add, tn_mul, Int.reduceToNat, tn_cast, md_x]
            rw [if_pos (by omega)]
            by_cases c7' : z ≤ 7
            · rw [if_pos c7']; exact hw9
            · rw [if_neg c7', if_pos (h8.mpr (by omega))]; exact hw9
          · rw [st_2]; unfold sOne
            rw [if_neg c2, if_pos c3, if_neg (by omega)]
        · refine ⟨5, V, J, FRR.rf, rfl, rfl, by decide, ?_, Or.inl ⟨by decide, k2, fun ws cu cl kd hc => ?_⟩⟩
          · apply sg_223
            generalize lxV b N (en isW b N p) = z at *
            simp (disch := omega) only [k3, eV_at, eV_up, o_lit2, o_add, o_sub, o_mul, o_neg, o_div, o_nat, ix_t, o_lt, o_le, o_eq, o_bi0, o_bi1, o_bib, em_t, o_neg1, o_shl, o_tb, o_tb0, o_tt, o_and, o_xor, o_or, o_max, o_min, an_tb, and_true, true_and, not_true, not_false, if_true, if_false, tn_add, tn_mul, Int.reduceToNat, tn_cast, md_x]
            rw [if_neg (by omega), if_neg (by omega)]
            refine ⟨_, _, _, hn, ?_⟩
            simp (disch := omega) only [eV_at, eV_up, o_lit2, o_add, o_sub, o_mul, o_neg, o_div, o_nat, ix_t, o_lt, o_le, o_eq, o_bi0, o_bi1, o_bib, em_t, o_neg1, o_shl, o_tb, o_tb0, o_tt, o_and, o_xor, o_or, o_max, o_min, an_tb, and_true, true_and, not_true, not_false, if_true, if_false, tn_add, tn_mul, Int.reduceToNat, tn_cast, md_x]
            rw [if_pos (by omega), if_neg (by omega), if_neg (fun q => c7 (Or.inr (h8.mp q)))] <;> first | rfl | trivial
          · rw [st_2]; unfold sOne
            rw [if_neg c2, if_pos c3, if_pos (by omega)]
      · rw [if_neg c3] at hn
        refine ⟨1, V, J, FRR.rf, rfl, rfl, by decide, ?_, Or.inl ⟨by decide, k2, fun ws cu cl kd hc => ?_⟩⟩
        · apply sg_223
          simp (disch := omega) only [k3, eV_at, eV_up, o_lit2, o_add, o_sub, o_mul, o_neg, o_div, o_nat, ix_t, o_lt, o_le, o_eq, o_bi0, o_bi1, o_bib, em_t, o_neg1, o_shl, o_tb, o_tb0, o_tt, o_and, o_xor, o_or, o_max, o_min, an_tb, and_true, true_and, not_true, not_false, if_true, if_false, tn_add, tn_mul, Int.reduceToNat, tn_cast, md_x]
          rw [if_neg (by omega), if_neg (by omega)]
          refine ⟨_, _, _, hn, ?_⟩
          rw [if_neg (by decide)] <;> first | rfl | trivial
        · rw [st_2]; unfold sOne
          rw [if_neg c2, if_neg c3, if_pos (by omega)]
end LR
