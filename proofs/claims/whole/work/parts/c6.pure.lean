/-! MADE. -/
theorem c_made {L : Nat} {xs : Nat → Int32} {V : Nat → Nat → Int} {J : Nat → Nat → Int64} {tg : Option Nat} (h : INV V) {a b c : Int} (ha : (-2147483648 ≤ a ∧ a < 2147483648)) (hb : (-2147483648 ≤ b ∧ b < 2147483648)) (hc : (-2147483648 ≤ c ∧ c < 2147483648)) : ∃ (v : Int) (U W : Nat → Nat → Int) (J1 : Nat → Nat → Int64), Runs (GW L xs) 40 137 (0, [.ref 0, (Value.int (Int32.ofInt (a))), (Value.int (Int32.ofInt (b))), (Value.int (Int32.ofInt (c)))], [], zS (eV V) J tg) (some (Value.int (Int32.ofInt v)), zS (eV U) J tg) ∧ Runs (GW L xs) 40 259 (0, [.ref 93, (Value.int (Int32.ofInt (a))), (Value.int (Int32.ofInt (b))), (Value.int (Int32.ofInt (c))), vU, vU, vU, vU, vU], [], zS (eV U) J tg) (some (Value.int (Int32.ofInt v)), zS (eV W) J1 tg) ∧ INV W := by
  have h0 := h
  obtain ⟨hR, ⟨hA, hB, hC, hD, hE, hF, hH⟩, h2, h3, h4, h5⟩ := h
  have rD : 0 ≤ V 1 0 ∧ V 1 0 ≤ 12 := hR 1 0 (by decide) (by decide)
  have rT : 0 ≤ V 1 1 ∧ V 1 1 ≤ 12 := hR 1 1 (by decide) (by decide)
  by_cases g1 : 0 ≤ a ∧ a < V 1 0
  · by_cases g2 : 0 ≤ b ∧ b ≤ 5
    · by_cases g3 : 0 ≤ c ∧ c ≤ 2
      · obtain ⟨dr, rfl⟩ : ∃ n : Nat, a = n := ⟨a.toNat, by omega⟩
        obtain ⟨st, rfl⟩ : ∃ n : Nat, b = n := ⟨b.toNat, by omega⟩
        have rS : 0 ≤ V 18 2 ∧ V 18 2 ≤ 10 := hR 18 2 (by decide) (by decide)
        obtain ⟨S, hS⟩ : ∃ S : Nat, V 18 2 = S := ⟨(V 18 2).toNat, by omega⟩
        have hS10 : S ≤ 10 := by omega
        have h1024 : 2 ^ S ≤ 1024 := Nat.pow_le_pow_right (n := 2) (by omega) hS10
        have hd12 : dr < 12 := by omega
        obtain ⟨X, qX, bX, x1⟩ := k_1 (L := L) (xs := xs) (J := J) (tg := tg) (d := 26) h0 (Qy.rf h3) (dr := dr) (st := st) hd12 (by omega) hS10 hS
        obtain ⟨r1, r2⟩ := bX.rg h0 (by omega) hS10 (fun u hu => hu)
        have hIX := h0.q qX
        have cls : ∀ r, (if X 79 10 = -1 then r = (some (Value.int (Int32.ofInt (-1))), zS (eV X) J tg) else if c = 2 then (∃ (v17 : Int32) (I18 : Nat → Nat → Int32), Runs (GW L xs) 39 7 (0, [.ref 79, (Value.int (Int32.ofInt (dr))), vU, vU], [], zS (eV X) J tg) (some (.int v17), zS I18 J tg) ∧ r = (some (.int v17), zS I18 J tg)) else if c = 0 then r = (some (Value.int (Int32.ofInt (X 79 10))), zS (eV X) J tg) else r = (some (Value.int (Int32.ofInt (X 79 11))), zS (eV X) J tg)) → Runs (GW L xs) 40 137 (0, [.ref 0, (Value.int (Int32.ofInt (dr))), (Value.int (Int32.ofInt (st))), (Value.int (Int32.ofInt (c)))], [], zS (eV V) J tg) r := fun r hr => by
          apply sg_137
          refine ⟨_, _, k_44 hR ha, ?_⟩
          rw [if_neg (b0_f g1)]
          refine ⟨_, _, k_166 hb, ?_⟩
          rw [if_neg (b0_f g2)]
          refine ⟨_, _, k_164 (a := 0) (b := 2) hc (by omega) (by omega), ?_⟩
          rw [if_neg (b0_f g3)]
          refine ⟨_, x1, ?_⟩
          simp (disch := omega) only [eV_at, eV_up, o_lit2, o_add, o_sub, o_mul, o_neg, o_div, o_nat, ix_t, o_lt, o_le, o_eq, o_bi0, o_bi1, o_bib, em_t, o_neg1, o_shl, o_tb, o_tb0, o_tt, o_and, o_xor, o_or, o_max, o_min, an_tb, and_true, true_and, not_true, not_false, if_true, if_false, tn_add, tn_mul, Int.reduceToNat, tn_cast, md_x]
          exact hr
        have rfs : ∀ (U : Nat → Nat → Int), RNG U → RA U 1 94 → U 1 = V 1 → ∀ r, Runs (GW L xs) 40 259 (35, [.ref 93, (Value.int (Int32.ofInt (dr))), (Value.int (Int32.ofInt (st))), (Value.int (Int32.ofInt (c))), (Value.int (Int32.ofInt (-1))), (Value.int (Int32.ofInt (0))), (Value.int (Int32.ofInt (0))), vU, vU], [], zS (eV U) J tg) r → Runs (GW L xs) 40 259 (0, [.ref 93, (Value.int (Int32.ofInt (dr))), (Value.int (Int32.ofInt (st))), (Value.int (Int32.ofInt (c))), vU, vU, vU, vU, vU], [], zS (eV U) J tg) r := fun U hRU hAU e1 r hr => by
          apply sg_259
          refine ⟨_, _, _, m_179 hRU hAU ha, ?_⟩
          rw [if_neg (b0_f (by rw [e1]; exact g1))]
          refine ⟨_, _, _, k_182 hb, ?_⟩
          rw [if_neg (b0_f g2)]
          refine ⟨_, _, _, k_177 (a := 0) (b := 2) hc (by omega) (by omega), ?_⟩
          rw [if_neg (b0_f g3)]
          exact hr
        by_cases y1 : X 79 10 = -1
        · obtain ⟨W, J2, zs, zh, w1, ⟨zc, w2⟩, w3⟩ := m_259s (L := L) (xs := xs) (J := J) (tg := tg) (d := 31) h0 qX (dr := dr) (st := st) g1.2 (by omega) hS10 hS (x3 := Int32.ofInt c)
          obtain ⟨e1, e2⟩ := bX.eq w2
          have ez : zs = -1 := by omega
          subst ez
          refine ⟨-1, X, W, J2, cls _ (by rw [if_pos y1]), rfs X hIX.1 hIX.2.1.1 (qX.1 1 (by omega)) _ (w3 _ ?_), h0.q (qX.tf w1)⟩
          apply sg_259_35
          simp (disch := omega) only [eV_at, eV_up, o_lit2, o_add, o_sub, o_mul, o_neg, o_div, o_nat, ix_t, o_lt, o_le, o_eq, o_bi0, o_bi1, o_bib, em_t, o_neg1, o_shl, o_tb, o_tb0, o_tt, o_and, o_xor, o_or, o_max, o_min, an_tb, and_true, true_and, not_true, not_false, if_true, if_false, tn_add, tn_mul, Int.reduceToNat, tn_cast, md_x]
          rw [if_pos (by omega), if_pos (by omega)]
          apply sg_259_151
          simp (disch := omega) only [eV_at, eV_up, o_lit2, o_add, o_sub, o_mul, o_neg, o_div, o_nat, ix_t, o_lt, o_le, o_eq, o_bi0, o_bi1, o_bib, em_t, o_neg1, o_shl, o_tb, o_tb0, o_tt, o_and, o_xor, o_or, o_max, o_min, an_tb, and_true, true_and, not_true, not_false, if_true, if_false, tn_add, tn_mul, Int.reduceToNat, tn_cast, md_x]
          rw [if_pos (by omega)]
          apply sg_259_160
          apply sg_259_167
          rfl
        · obtain ⟨rh, rc⟩ := r2 y1
          by_cases g4 : c = 2
          · subst g4
            obtain ⟨s, hsC, hok, hs10, -, -, -⟩ : ∃ s : Nat, ALL S s ∧ OK V dr S s ∧ X 79 10 = s ∧ True ∧ True ∧ True := by
              rcases id bX with ⟨b1, b2⟩ | ⟨s, b1, b2, b3, -⟩
              · exact absurd b1 y1
              · exact ⟨s, b1, b2, b3, trivial, trivial, trivial⟩
            obtain ⟨hs, hp⟩ := hsC
            obtain ⟨U, u1, u2, u3, u4, u5⟩ := k_7 (L := L) (xs := xs) (J := J) (tg := tg) (d := 38) h0 qX hd12 hS10 hS hs hp hs10
            have hlen := mdL_len (B := V) (s := s) S
            have hlv : ∀ v, v ∈ mdL V s S → 0 ≤ v ∧ v < 180 := mdL_ok hR S
            have hl6 : (mdL V s S).length ≤ 6 := by omega
            have qU : Qr V U := by
              refine ⟨fun x hx => by rw [u1 x (by omega) (by omega) (by omega)]; exact qX.1 x (by omega), fun p hp => by rw [u1 94 (by decide) (by decide) (by decide)]; exact qX.2.1 p hp, fun p hp => by rw [u1 93 (by decide) (by decide) (by decide)]; exact qX.2.2.1 p hp, fun p => ?_, fun p => ?_⟩
              · rw [u2]
                split
                · have := hlv _ (lf_mem (l := mdL V s S) (j := p - dr * 6) (by omega))
                  show (0 : Int) ≤ _ ∧ _ ≤ (179 : Int)
                  omega
                · rw [qX.1 2 (by omega)]; exact hR 2 p (by decide) (by decide)
              · rw [u3]
                split
                · show (0 : Int) ≤ _ ∧ _ ≤ (6 : Int)
                  omega
                · rw [qX.1 3 (by omega)]; exact hR 3 p (by decide) (by decide)
            obtain ⟨W, J2, zs, zh, w1, ⟨zc, w2⟩, w3⟩ := m_259sr (L := L) (xs := xs) (J := J) (tg := tg) (d := 31) h0 qU (dr := dr) (st := st) g1.2 (by omega) hS10 hS (x3 := Int32.ofInt 2)
            obtain ⟨e1, e2⟩ := bX.eq w2
            have ez : zs = s := by omega
            subst ez
            have qW := qU.tf w1
            have hIW := h0.qr qW
            obtain ⟨⟨-, -, c5, -⟩, c8, -⟩ := hIW.2.1.2.2.2.2.2.2
            have c5 : W 94 5 = W 18 2 := c5
            have e18 : W 18 2 = S := by rw [qW.1 18 (by omega)]; exact hS
            obtain ⟨F, f1, f2, f3, f4, f5⟩ := m_258d (L := L) (xs := xs) (J := J2) (tg := tg) (d := 38) (B := V) (V := up2 W 94 (20 + 22 * dr) 0) hS10 hd12 (by rw [w_at, if_neg (by omega), c5, e18]) (fun i hi => by
              rw [w_at, if_neg (by omega)]
              have : W 94 (800 + i) = W 19 i := c8 i (by rw [e18]; omega)
              rw [this, qW.1 19 (by omega)]) hR hs hp (w_eq _ _ _ _)
            have k8 := k_184 (L := L) (xs := xs) (J := J2) (tg := tg) (d := 39) (V := F) (l := dr) (w := 0) (by omega)
            rw [Nat.add_zero, f3] at k8
            -- the state behind
            have F94 : ∀ p, ¬ (p = 20 + 22 * dr ∨ (20 + 22 * dr + 4 ≤ p ∧ p < 20 + 22 * dr + 10)) → ¬ (548 ≤ p ∧ p < 570) → F 94 p = V 94 p := fun p hp hq => by
              rw [f2 p hp, w_at, if_neg (by omega)]; exact qW.2.1 p hq
            have FW : ∀ x, x ≠ 94 → F x = W x := fun x hx => by rw [f1 x hx, w_ne _ _ _ _ hx]
            have WU : ∀ x, x = 2 ∨ x = 3 ∨ x = 71 → W x = U x := fun x hx => w1.1 x (by omega) (by omega) (by omega) (by omega)
            obtain ⟨N, hN⟩ : ∃ N : Nat → Nat → Int, N = fun x => if x = 2 ∨ x = 3 ∨ x = 71 then F x else if x = 94 then (fun p => if 548 ≤ p ∧ p < 570 then V 94 p else F 94 p) else V x := ⟨_, rfl⟩
            have n1 : ∀ x, x ≠ 2 ∧ x ≠ 3 ∧ x ≠ 71 ∧ x ≠ 94 → N x = V x := fun x hx => by rw [hN]; dsimp only; rw [if_neg (by omega), if_neg (by omega)]
            have n2 : ∀ x, x = 2 ∨ x = 3 ∨ x = 71 → N x = U x := fun x hx => by rw [hN]; dsimp only; rw [if_pos hx, FW x (by omega)]; exact WU x hx
            have n3 : ∀ p, N 94 p = if 548 ≤ p ∧ p < 570 then V 94 p else F 94 p := fun p => by rw [hN]; dsimp only; rw [if_neg (by decide), if_pos rfl]
            have caN : CA N := ⟨CA.fg0 (V := X) (W := N) hIX.1 qX.2.2.2 (l := dr) (fun p _ _ => by rw [n1 1 (by omega), qX.1 1 (by omega)]) (fun x j hx hj => by rw [n2 2 (by omega), u2, if_neg (by omega)]) (fun x hx => by rw [n2 3 (by omega), u3, if_neg hx]) (fun x _ => by rw [n1 4 (by omega), qX.1 4 (by omega)]) (fun a b ha hb => by rw [n2 71 (by omega)]; exact u4 a b ha hb), fun x hx => by rw [n1 81 (by omega)]; exact h3.2 x hx⟩
            have iN : INV N := inv_made h0 (n := dr) (l := mdL V s S) g1.2 hl6 hlv n1 (fun p => by rw [n2 2 (by omega), u2, qX.1 2 (by omega)]) (fun x => by rw [n2 3 (by omega), u3, qX.1 3 (by omega)]) (fun p hp => by
              rw [n3]
              split
              · rfl
              · rename_i hq; exact F94 p hp hq) (by rw [n3, if_neg (by omega)]; exact f3) (fun j hj => by rw [n3, if_neg (by omega)]; exact f4 j hj) caN
            have qF : Qy N F := by
              refine ⟨fun x hx => ?_, fun p hp => by rw [n3, if_neg hp], fun p hp => ?_, ?_⟩
              · by_cases c2 : x = 2 ∨ x = 3
                · rw [n2 x (by omega), FW x (by omega)]; exact WU x (by omega)
                · rw [n1 x (by omega), FW x (by omega)]; exact qW.1 x (by omega)
              · rw [n1 93 (by omega), FW 93 (by omega)]; exact qW.2.2.1 p hp
              · exact ⟨caN.up0 (W := F) (by rw [n1 1 (by omega), FW 1 (by omega)]; exact qW.1 1 (by omega)) (by rw [n2 2 (by omega), FW 2 (by omega)]; exact WU 2 (by omega)) (by rw [n2 3 (by omega), FW 3 (by omega)]; exact WU 3 (by omega)) (by rw [n1 4 (by omega), FW 4 (by omega)]; exact qW.1 4 (by omega)) (by rw [n2 71 (by omega), FW 71 (by omega)]; exact WU 71 (by omega)), fun x hx => by rw [FW 81 (by omega), w1.1 81 (by omega) (by omega) (by omega) (by omega), u1 81 (by omega) (by omega) (by omega)]; exact qX.2.2.2.2 x hx⟩
            have hIU := h0.qr qU
            refine ⟨(mdL V s S).length, U, F, J2, cls _ (by rw [if_neg y1, if_pos rfl]; exact ⟨_, _, u5, rfl⟩), rfs U hIU.1 hIU.2.1.1 (qU.1 1 (by omega)) _ (w3 _ ?_), iN.q qF⟩
            apply sg_259_35
            simp (disch := omega) only [eV_at, eV_up, o_lit2, o_add, o_sub, o_mul, o_neg, o_div, o_nat, ix_t, o_lt, o_le, o_eq, o_bi0, o_bi1, o_bib, em_t, o_neg1, o_shl, o_tb, o_tb0, o_tt, o_and, o_xor, o_or, o_max, o_min, an_tb, and_true, true_and, not_true, not_false, if_true, if_false, tn_add, tn_mul, Int.reduceToNat, tn_cast, md_x]
            rw [if_pos (by omega), if_neg (by omega), if_pos (by omega)]
            exact ⟨_, _, f5, _, _, _, k8, rfl⟩
          · obtain ⟨W, J2, zs, zh, w1, ⟨zc, w2⟩, w3⟩ := m_259s (L := L) (xs := xs) (J := J) (tg := tg) (d := 31) h0 qX (dr := dr) (st := st) g1.2 (by omega) hS10 hS (x3 := Int32.ofInt c)
            obtain ⟨e1, e2⟩ := bX.eq w2
            have e2 := e2 y1
            rw [← e1, ← e2] at w3
            refine ⟨if c = 0 then X 79 10 else X 79 11, X, W, J2, cls _ ?_, rfs X hIX.1 hIX.2.1.1 (qX.1 1 (by omega)) _ (w3 _ ?_), h0.q (qX.tf w1)⟩
            · rw [if_neg y1, if_neg g4]
              by_cases g5 : c = 0
              · rw [if_pos g5]; refine leafI ?_; rw [if_pos g5]
              · rw [if_neg g5]; refine leafI ?_; rw [if_neg g5]
            · apply sg_259_35
              simp (disch := omega) only [eV_at, eV_up, o_lit2, o_add, o_sub, o_mul, o_neg, o_div, o_nat, ix_t, o_lt, o_le, o_eq, o_bi0, o_bi1, o_bib, em_t, o_neg1, o_shl, o_tb, o_tb0, o_tt, o_and, o_xor, o_or, o_max, o_min, an_tb, and_true, true_and, not_true, not_false, if_true, if_false, tn_add, tn_mul, Int.reduceToNat, tn_cast, md_x]
              rw [if_pos (by omega), if_neg (by omega), if_neg (by omega)]
              apply sg_259_151
              simp (disch := omega) only [eV_at, eV_up, o_lit2, o_add, o_sub, o_mul, o_neg, o_div, o_nat, ix_t, o_lt, o_le, o_eq, o_bi0, o_bi1, o_bib, em_t, o_neg1, o_shl, o_tb, o_tb0, o_tt, o_and, o_xor, o_or, o_max, o_min, an_tb, and_true, true_and, not_true, not_false, if_true, if_false, tn_add, tn_mul, Int.reduceToNat, tn_cast, md_x]
              rw [if_neg (by omega)]
              by_cases g5 : c = 0
              · rw [if_pos g5]
                apply sg_259_160
                apply sg_259_167
                refine leafI ?_
                rw [if_pos g5]
              · rw [if_neg g5]
                apply sg_259_167
                refine leafI ?_
                rw [if_neg g5]
      · refine ⟨-1, V, V, J, ?_, ?_, h0⟩
        · apply sg_137
          refine ⟨_, _, k_44 hR ha, ?_⟩
          rw [if_neg (b0_f g1)]
          refine ⟨_, _, k_166 hb, ?_⟩
          rw [if_neg (b0_f g2)]
          refine ⟨_, _, k_164 (a := 0) (b := 2) hc (by omega) (by omega), ?_⟩
          rw [if_pos (b0_t g3)]; rfl
        · apply sg_259
          refine ⟨_, _, _, m_179 hR hA ha, ?_⟩
          rw [if_neg (b0_f g1)]
          refine ⟨_, _, _, k_182 hb, ?_⟩
          rw [if_neg (b0_f g2)]
          refine ⟨_, _, _, k_177 (a := 0) (b := 2) hc (by omega) (by omega), ?_⟩
          rw [if_pos (b0_t g3)]
          apply sg_259_24
          rfl
    · refine ⟨-1, V, V, J, ?_, ?_, h0⟩
      · apply sg_137
        refine ⟨_, _, k_44 hR ha, ?_⟩
        rw [if_neg (b0_f g1)]
        refine ⟨_, _, k_166 hb, ?_⟩
        rw [if_pos (b0_t g2)]; rfl
      · apply sg_259
        refine ⟨_, _, _, m_179 hR hA ha, ?_⟩
        rw [if_neg (b0_f g1)]
        refine ⟨_, _, _, k_182 hb, ?_⟩
        rw [if_pos (b0_t g2)]
        apply sg_259_24
        rfl
  · refine ⟨-1, V, V, J, ?_, ?_, h0⟩
    · apply sg_137
      refine ⟨_, _, k_44 hR ha, ?_⟩
      rw [if_pos (b0_t g1)]; rfl
    · apply sg_259
      refine ⟨_, _, _, m_179 hR hA ha, ?_⟩
      rw [if_pos (b0_t g1)]
      apply sg_259_24
      rfl
