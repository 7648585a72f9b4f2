/-! An ASK without and, or: the reference. -/
def wlO (l : List Int) : Prop := ∀ o ∈ l, o = 40 ∨ o = 21 ∨ o = 22
theorem wlO.st {l : List Int} (h : wlO l) {m : Int} (hm : 3 ≤ m) : l = [] ∨ ∃ o t, l = o :: t ∧ rkO o < m := by
  cases l with
  | nil => exact Or.inl rfl
  | cons o t =>
    refine Or.inr ⟨o, t, rfl, ?_⟩
    have h2 : rkO o ≤ 2 := by
      rcases h o (List.mem_cons_self ..) with rfl | rfl | rfl <;> decide
    omega
theorem rl_st {m : Int} {l : List Int} {cu : Cd} (h : l = [] ∨ ∃ o t, l = o :: t ∧ rkO o < m) : rl m l cu = (l, cu) := by
  rcases h with rfl | ⟨o, t, rfl, q⟩
  · rfl
  · unfold rl
    rw [relP]
    exact if_neg (fun z => by have := of_decide_eq_true z; omega)
section LR
variable {L d : Nat} {xs : Nat → Int32} {tg : Option Nat} {b : Nat → Int} {N K : Nat}
theorem m_227 (hK : K < 4) {kd hc : Int} {F : Cd} {cl : List (Int × Cd)} (hkd : 4 ≤ kd ∧ kd ≤ 5) : ∀ (n p : Nat) (V : Nat → Nat → Int) (J : Nat → Nat → Int64) (sd : Int) (br : Nat) (wl : List Int) (cu : Cd), N - p < n → p ≤ N → TKS V J b N p → WLS V wl → wlO wl → brC wl = br → CDS V K (cu ++ F) → V 93 24 = br → V 93 8 = kd - 3 → br ≤ 8 → wl.length ≤ (cu ++ F).length + br → (cu ++ F).length + wl.length < p → tyL cu = some (aoC wl, 0) → (∀ x ∈ cu, okc kd x) → ∃ (v : Int) (W : Nat → Nat → Int) (J2 : Nat → Nat → Int64), FRR K V W ∧ (0 ≤ v ∧ v ≤ 6) ∧ Runs (GW L xs) (d + 6) 227 (0, [.ref 93, vU, vU], [], zS (eV (V)) (J) tg) (some (Value.int (Int32.ofInt (v))), zS (eV (W)) (J2) tg) ∧ ((v ≠ 0 ∧ ∃ f : Nat, W 93 14 = f ∧ f ≤ N ∧ Fi b N (p, 1, sd, wl, br, 0, cu, cl, kd, hc) (v, f, [], 0)) ∨ (v = 0 ∧ ∃ (p' br' : Nat) (wl' : List Int) (cu' : Cd), p ≤ p' ∧ p' ≤ N ∧ TKS W J2 b N p' ∧ WLS W wl' ∧ wlO wl' ∧ brC wl' = br' ∧ CDS W K (cu' ++ F) ∧ W 93 24 = br' ∧ br' ≤ 8 ∧ wl'.length + 1 ≤ (cu' ++ F).length + br' ∧ (cu' ++ F).length + wl'.length < p' ∧ tyL cu' = some (aoC wl' + 1, 0) ∧ (∀ x ∈ cu', okc kd x) ∧ ∀ r, Fi b N (p', 4, 1, wl', br', 0, cu', cl, kd, hc) r → Fi b N (p, 1, sd, wl, br, 0, cu, cl, kd, hc) r))
  | 0, p, V, J, sd, br, wl, cu, hn, _, _, _, _, _, _, _, _, _, _, _, _, _ => by omega
  | n + 1, p, V, J, sd, br, wl, cu, hn, hp, hT, hW, hwo, hbr, hC, h24, h8, hb8, hl1, hl2, hty, hok => by
    obtain ⟨e1, e2, e3, e4⟩ := en_ch (f := isW) (b := b) hp
    have hN : N ≤ 300 := hT.1.2.1
    obtain ⟨t1, t2, t3⟩ := lxT_le (b := b) e2
    obtain ⟨w, hw, hcs⟩ := tk_f (b := b) (N := N) (f := en isW b N p)
    have hr15 := rK_rg (b := b) (N := N) (f := en isW b N p) (fun k hk => (hT.1.2.2 k hk).2)
    have k15 : V 93 15 = rK b N (en isW b N p) := hT.2.2.2.1
    have h10 := hW.1
    by_cases c18 : lxK b N (en isW b N p) = 18
    · by_cases c8 : br = 8
      · refine ⟨3, V, J, FRR.rf, by decide, ?_, Or.inl ⟨by decide, en isW b N p, hT.2.2.1, e2, ?_⟩⟩
        · apply sg_227
          simp (disch := omega) only [k15, h24, eV_at, eV_up, o_lit2, o_add, o_sub, o_mul, o_neg, o_div, o_nat, ix_t, o_lt, o_le, o_eq, o_bi0, o_bi1, o_bib, em_t, o_neg1, o_shl, o_tb, o_tb0, o_tt, o_and, o_xor, o_or, o_max, o_min, an_tb, and_true, true_and, not_true, not_false, if_true, if_false, tn_add, tn_mul, Int.reduceToNat, tn_cast, md_x]
          rw [if_pos (by omega), if_pos (by omega)] <;> first | rfl | trivial
        · refine Fi_f (s := (p, 1, sd, wl, br, 0, cu, cl, kd, hc)) ?_ (by decide)
          rw [st_1]; unfold sAsk
          rw [if_neg (by omega), if_pos (by omega)]
      · have f1 : en isW b N p < N := by omega
        have k40 : rK b N (en isW b N p) = 40 := by omega
        have nb8 : ¬ (br : Int) = 8 := by omega
        obtain ⟨U, hU⟩ : ∃ U, U = up2 (up2 (up2 V 93 24 ((br : Int) + 1)) 101 wl.length 40) 93 10 ((wl.length : Int) + 1) := ⟨_, rfl⟩
        have u93 : ∀ x, x ≠ 10 → x ≠ 24 → U 93 x = V 93 x := fun x h1 h2 => by rw [hU, w_at, if_neg h1, w_ne _ _ _ _ (by decide), w_at, if_neg h2]
        have uc : ∀ c, c ≠ 93 → c ≠ 101 → U c = V c := fun c h1 h2 => by rw [hU, w_ne _ _ _ _ h1, w_ne _ _ _ _ h2, w_ne _ _ _ _ h1]
        have u24 : U 93 24 = (br : Int) + 1 := by rw [hU, w_at, if_neg (by decide), w_ne _ _ _ _ (by decide), w_eq]
        have u10 : U 93 10 = (wl.length : Int) + 1 := by rw [hU, w_eq]
        have u101 : ∀ x, U 101 x = if x = wl.length then 40 else V 101 x := fun x => by rw [hU, w_ne _ _ _ _ (by decide), w_at, w_ne _ _ _ _ (by decide)]
        have hTU : TKS U J b N p := hT.up (u93 7 (by decide) (by decide)) (fun x h1 h2 => u93 x (by omega) (by omega)) (uc 100 (by decide) (by decide))
        obtain ⟨X, J2, x1, x2, x3, hx⟩ := m_213T (L := L) (xs := xs) (tg := tg) (d := d + 3) hTU hp
        have hWX : WLS X (40 :: wl) := ⟨by rw [x2 10 (by omega), u10, List.length_cons]; omega, by rw [x1 101 (by decide), u101, if_pos rfl], hW.2.up fun k hk => by rw [x1 101 (by decide), u101, if_neg (by omega)]⟩
        have hCX : CDS X K (cu ++ F) := hC.up (by rw [x2 18 (by omega), u93 18 (by decide) (by decide)]) (by rw [x2 20 (by omega), u93 20 (by decide) (by decide)]) (fun x => by rw [x1 96 (by decide), uc 96 (by decide) (by decide)])
        have hfr : FRR K V X := ⟨fun c h1 h2 h3 h4 => by rw [x1 c h1, uc c h1 h3], fun x hx => by rw [x2 x (by omega), u93 x (by omega) (by omega)], fun x hx => by rw [x1 96 (by decide), uc 96 (by decide) (by decide)]⟩
        obtain ⟨v', W', J', z1, z4, hr', hres'⟩ := m_227 hK hkd (cl := cl) (hc := hc) (F := F) n (lxT b N (en isW b N p)) X J2 sd (br + 1) (40 :: wl) cu (by have := t3 f1; omega) t1 x3 hWX (fun o ho => by rcases List.mem_cons.mp ho with e | e; exact Or.inl e; exact hwo o e) (by rw [brC, if_pos rfl, hbr]) hCX (by rw [x2 24 (by omega), u24]; omega) (by rw [hfr.2.1 8 (by omega)]; exact h8) (by omega) (by rw [List.length_cons]; omega) (by rw [List.length_cons]; have := t3 f1; omega) (by rw [aoC, if_pos rfl]; exact hty) hok
        have hstp : sTp b N (p, 1, sd, wl, br, 0, cu, cl, kd, hc) = ((lxT b N (en isW b N p), 1, sd, 40 :: wl, br + 1, 0, cu, cl, kd, hc), 0) := by
          rw [st_1]; unfold sAsk
          rw [if_neg (by omega), if_neg (by omega)]
        refine ⟨v', W', J', hfr.tr z1, z4, ?_, ?_⟩
        · apply sg_227
          simp (disch := omega) only [k15, h24, h10, eV_at, eV_up, o_lit2, o_add, o_sub, o_mul, o_neg, o_div, o_nat, ix_t, o_lt, o_le, o_eq, o_bi0, o_bi1, o_bib, em_t, o_neg1, o_shl, o_tb, o_tb0, o_tt, o_and, o_xor, o_or, o_max, o_min, an_tb, and_true, true_and, not_true, not_false, if_true, if_false, tn_add, tn_mul, Int.reduceToNat, tn_cast, md_x]
          rw [if_pos k40, if_neg nb8, ← hU]
          exact ⟨_, _, hx, hr'⟩
        · rcases hres' with ⟨y0, f, y1, y2, y3⟩ | ⟨y0, p', br', wl', cu', y1, y2, y3, y4, y5, y6, y7, y8, y9, ya, yb, yc, yd, ye⟩
          · exact Or.inl ⟨y0, f, y1, y2, Fi_s (s := (p, 1, sd, wl, br, 0, cu, cl, kd, hc)) hstp (by show ¬ N ≤ en isW b N p; omega) y3⟩
          · exact Or.inr ⟨y0, p', br', wl', cu', by have := t3 f1; omega, y2, y3, y4, y5, y6, y7, y8, y9, ya, yb, yc, yd, fun r hr => Fi_s (s := (p, 1, sd, wl, br, 0, cu, cl, kd, hc)) hstp (by show ¬ N ≤ en isW b N p; omega) (ye r hr)⟩
    · have hsil : sTp b N (p, 1, sd, wl, br, 0, cu, cl, kd, hc) = sTp b N (p, 2, 0, wl, br, 0, cu, cl, kd, hc) := by
        rw [st_1, st_2]; unfold sAsk
        rw [if_pos c18]
      have c40 : ¬ rK b N (en isW b N p) = 40 := by omega
      obtain ⟨v1, W1, J1, a1, a2, a3, a4, r1, hres1⟩ := m_225 (L := L) (xs := xs) (tg := tg) (d := d) (V := V) (J := J) hK (sd := 0) (kd := kd) (hc := hc) (cl := cl) (by omega) (by omega) (hwo.st (by decide)) hp hT hC h24 h8 hb8 hl2 hty hok
      rcases hres1 with ⟨v0, f, g1, g2, g3⟩ | ⟨v0, p1, cu1, g1, g2, g3, g4, g5, g6, g7, g8, g9, ga, gb⟩
      · refine ⟨v1, W1, J1, a1, a4, ?_, Or.inl ⟨v0, f, g1, g2, Fi_c (s := (p, 1, sd, wl, br, 0, cu, cl, kd, hc)) hsil rfl g3⟩⟩
        apply sg_227
        simp (disch := omega) only [k15, eV_at, eV_up, o_lit2, o_add, o_sub, o_mul, o_neg, o_div, o_nat, ix_t, o_lt, o_le, o_eq, o_bi0, o_bi1, o_bib, em_t, o_neg1, o_shl, o_tb, o_tb0, o_tt, o_and, o_xor, o_or, o_max, o_min, an_tb, and_true, true_and, not_true, not_false, if_true, if_false, tn_add, tn_mul, Int.reduceToNat, tn_cast, md_x]
        rw [if_neg c40]
        refine ⟨_, _, _, r1, ?_⟩
        simp (disch := omega) only [eV_at, eV_up, o_lit2, o_add, o_sub, o_mul, o_neg, o_div, o_nat, ix_t, o_lt, o_le, o_eq, o_bi0, o_bi1, o_bib, em_t, o_neg1, o_shl, o_tb, o_tb0, o_tt, o_and, o_xor, o_or, o_max, o_min, an_tb, and_true, true_and, not_true, not_false, if_true, if_false, tn_add, tn_mul, Int.reduceToNat, tn_cast, md_x]
        rw [if_neg v0] <;> first | rfl | trivial
      · have k26 := m_226 (L := L) (xs := xs) (tg := tg) (d := d + 5) g4
        obtain ⟨E1, E2, E3, E4⟩ := en_ch (f := isW) (b := b) g2
        obtain ⟨T1, T2, T3⟩ := lxT_le (b := b) E2
        have r1 : Runs (GW L xs) (d + 5) 225 (0, [.ref 93, vU], [], zS (eV (V)) (J) tg) (some (Value.int (Int32.ofInt (0))), zS (eV (W1)) (J1) tg) := by rw [v0] at r1; exact r1
        by_cases cc : 9 ≤ lxK b N (en isW b N p1) ∧ lxK b N (en isW b N p1) ≤ 14
        · rw [if_pos cc] at k26
          obtain ⟨w', hw', hcs'⟩ := tk_f (b := b) (N := N) (f := en isW b N p1)
          have f1 : en isW b N p1 < N := by omega
          obtain ⟨c, hce⟩ : ∃ c, c = lxK b N (en isW b N p1) + 1 := ⟨_, rfl⟩
          rw [← hce] at k26
          obtain ⟨X, J2, x1, x2, x3, hx⟩ := m_213T (L := L) (xs := xs) (tg := tg) (d := d + 3) g4 g2
          have hoT : opT (lxK b N (en isW b N p1)) = c := by unfold opT; rw [if_neg (by omega), if_neg (by omega), if_pos (by omega), hce]
          have hrc : rkO c = 3 := by unfold rkO; rw [if_neg (by omega), if_neg (by omega), if_neg (by omega), if_neg (by omega), if_neg (by omega)]
          have hstp : sTp b N (p1, 3, 0, wl, br, 0, cu1, cl, kd, hc) = ((lxT b N (en isW b N p1), 2, 1, c :: wl, br, 0, cu1, cl, kd, hc), 0) := by
            rw [st_3]; unfold fOne
            rw [if_neg (by omega), if_pos rfl, if_pos cc, hoT, rl_st (hwo.st (by decide))]
          have hCX : CDS X K (cu1 ++ F) := g5.up (x2 18 (by omega)) (x2 20 (by omega)) (fun x => by rw [x1 96 (by decide)])
          have hfr : FRR K V X := a1.tr ⟨fun c h1 h2 h3 h4 => x1 c h1, fun x hx => x2 x (by omega), fun x hx => by rw [x1 96 (by decide)]⟩
          obtain ⟨v2, W2, J3, b1, b2, b3, b4, r2, hres2⟩ := m_225 (L := L) (xs := xs) (tg := tg) (d := d) (V := X) (J := J2) hK (sd := 1) (kd := kd) (hc := hc) (cl := cl) (R := c :: wl) (br := br) (by omega) (by omega) (Or.inr ⟨c, wl, rfl, by omega⟩) T1 x3 hCX (by rw [x2 24 (by omega)]; exact g6) (by rw [hfr.2.1 8 (by omega)]; exact h8) hb8 (by rw [List.length_cons]; have := T3 f1; omega) g9 ga
          have start : ∀ r, (if Int32.ofInt v2 = 0 then (∃ (I14 : Nat → Nat → Int32) (J15 : Nat → Nat → Int64), Runs (GW L xs) (d + 5) 219 (0, [.ref 93, (Value.int (Int32.ofInt (c))), .int 0], [], zS (eV W2) J3 tg) (none, zS I14 J15 tg) ∧ r = (some (.int 0), zS I14 J15 tg)) else r = (some (Value.int (Int32.ofInt (v2))), zS (eV W2) J3 tg)) → Runs (GW L xs) (d + 6) 227 (0, [.ref 93, vU, vU], [], zS (eV V) J tg) r := fun r hh => by
            apply sg_227
            simp (disch := omega) only [k15, eV_at, eV_up, o_lit2, o_add, o_sub, o_mul, o_neg, o_div, o_nat, ix_t, o_lt, o_le, o_eq, o_bi0, o_bi1, o_bib, em_t, o_neg1, o_shl, o_tb, o_tb0, o_tt, o_and, o_xor, o_or, o_max, o_min, an_tb, and_true, true_and, not_true, not_false, if_true, if_false, tn_add, tn_mul, Int.reduceToNat, tn_cast, md_x]
            rw [if_neg c40]
            refine ⟨_, _, _, r1, ite_p rfl ⟨_, _, _, k26, ?_⟩⟩
            simp (disch := omega) only [eV_at, eV_up, o_lit2, o_add, o_sub, o_mul, o_neg, o_div, o_nat, ix_t, o_lt, o_le, o_eq, o_bi0, o_bi1, o_bib, em_t, o_neg1, o_shl, o_tb, o_tb0, o_tt, o_and, o_xor, o_or, o_max, o_min, an_tb, and_true, true_and, not_true, not_false, if_true, if_false, tn_add, tn_mul, Int.reduceToNat, tn_cast, md_x]
            rw [if_pos (by omega)]
            exact ⟨_, _, hx, _, _, _, r2, hh⟩
          rcases hres2 with ⟨y0, f, y1, y2, y3⟩ | ⟨y0, p3, cu3, y1, y2, y3, y4, y5, y6, y7, y8, y9, ya, yb⟩
          · refine ⟨v2, W2, J3, hfr.tr b1, b4, start _ (ite_n ?_ rfl), Or.inl ⟨y0, f, y1, y2, ?_⟩⟩
            · intro q
              have q : Int32.ofInt v2 = Int32.ofInt 0 := q
              rw [o_eq (by omega) (by omega)] at q
              exact y0 q
            · exact Fi_c (s := (p, 1, sd, wl, br, 0, cu, cl, kd, hc)) hsil rfl (gb _ (Fi_s (s := (p1, 3, 0, wl, br, 0, cu1, cl, kd, hc)) hstp (by show ¬ N ≤ en isW b N p1; omega) y3))
          · rw [List.length_cons] at y8
            obtain ⟨U, u1, u2, u3, u4, hu⟩ := m_219 (L := L) (xs := xs) (J := J3) (tg := tg) (d := d + 5) (o := c) (v := 0) y5 hK (by omega)
            have hWU : WLS U wl := hW.up (by rw [u2 10 (by decide), b3, x2 10 (by omega), a3]) (by rw [u1 101 (by decide) (by decide), b2, x1 101 (by decide), a2])
            have elen : (((c, (0 : Int)) :: cu3) ++ F).length = (cu3 ++ F).length + 1 := by rw [List.cons_append, List.length_cons]
            refine ⟨0, U, J3, hfr.tr (b1.tr ⟨fun c h1 h2 h3 h4 => u1 c h1 h2, fun x hx => u2 x (by omega), u3⟩), by decide, start _ (ite_p (by rw [y0]; rfl) ⟨_, _, hu, rfl⟩), Or.inr ⟨rfl, p3, br, wl, (c, 0) :: cu3, ?_, y2, ?_, hWU, hwo, hbr, u4, ?_, hb8, ?_, ?_, ?_, ?_, ?_⟩⟩
            · have := T3 f1; omega
            · exact y4.up (u2 7 (by decide)) (fun x h1 h2 => u2 x (by omega)) (u1 100 (by decide) (by decide))
            · rw [u2 24 (by decide)]; exact y6
            · rw [elen]; omega
            · rw [elen]; omega
            · exact ty_c y9 (show 10 ≤ c ∧ c ≤ 15 by omega)
            · intro x hx
              rcases List.mem_cons.mp hx with e | e
              · rw [e]; exact okc_o (by omega)
              · exact ya x e
            · intro r hr
              refine Fi_c (s := (p, 1, sd, wl, br, 0, cu, cl, kd, hc)) hsil rfl (gb _ (Fi_s (s := (p1, 3, 0, wl, br, 0, cu1, cl, kd, hc)) hstp (by show ¬ N ≤ en isW b N p1; omega) (yb _ (Fi_c (s' := (p3, 4, 1, wl, br, 0, (c, 0) :: cu3, cl, kd, hc)) ?_ rfl hr))))
              have hrl : rl 3 (c :: wl) cu3 = (wl, (c, 0) :: cu3) := by
                have q := rl_st (m := 3) (l := wl) (cu := (c, 0) :: cu3) (hwo.st (by decide))
                unfold rl at q ⊢
                rw [relP, if_pos (decide_eq_true (by omega))]
                exact q
              rw [st_3, st_4]; unfold fOne
              rw [if_neg y3, if_neg (by decide), if_pos (Or.inl rfl)]
              have q := fAsk_rl (l := 3) (k := lxK b N (en isW b N p3)) (p := lxT b N (en isW b N p3)) (sd := 1) (ws := c :: wl) (br := br) (mi := 0) (cu := cu3) (cl := cl) (kd := kd) (hc := hc) (by decide) (fun _ => by decide)
              rw [hrl] at q
              exact q.symm
        · rw [if_neg cc] at k26
          refine ⟨1, W1, J1, a1, by decide, ?_, Or.inl ⟨by decide, en isW b N p1, g4.2.2.1, E2, ?_⟩⟩
          · apply sg_227
            simp (disch := omega) only [k15, eV_at, eV_up, o_lit2, o_add, o_sub, o_mul, o_neg, o_div, o_nat, ix_t, o_lt, o_le, o_eq, o_bi0, o_bi1, o_bib, em_t, o_neg1, o_shl, o_tb, o_tb0, o_tt, o_and, o_xor, o_or, o_max, o_min, an_tb, and_true, true_and, not_true, not_false, if_true, if_false, tn_add, tn_mul, Int.reduceToNat, tn_cast, md_x]
            rw [if_neg c40]
            refine ⟨_, _, _, r1, ite_p rfl ⟨_, _, _, k26, ?_⟩⟩
            exact ite_n (by decide) rfl
          · refine Fi_c (s := (p, 1, sd, wl, br, 0, cu, cl, kd, hc)) hsil rfl (gb _ (Fi_f (s := (p1, 3, 0, wl, br, 0, cu1, cl, kd, hc)) ?_ (by decide)))
            rw [st_3]; unfold fOne
            rw [if_neg g3, if_pos rfl, if_neg cc]
end LR
