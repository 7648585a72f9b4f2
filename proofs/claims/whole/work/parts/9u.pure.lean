/-! The cases says, right, harm, odds. -/
theorem scr_p (B : Nat → Nat → Int) (dr st : Nat) : scp B (B 3 dr).toNat (lkc B dr) (B 4 dr) st = scr B dr st := rfl
theorem c_says {L : Nat} {xs : Nat → Int32} {V : Nat → Nat → Int} {J : Nat → Nat → Int64} {tg : Option Nat} (h : INV V) {a b : Int} (ha : (-2147483648 ≤ a ∧ a < 2147483648)) (hb : (-2147483648 ≤ b ∧ b < 2147483648)) : ∃ (v : Int) (U W : Nat → Nat → Int) (J1 : Nat → Nat → Int64), Runs (GW L xs) 40 132 (0, [.ref 0, (Value.int (Int32.ofInt (a))), (Value.int (Int32.ofInt (b)))], [], zS (eV V) J tg) (some (Value.int (Int32.ofInt v)), zS (eV U) J tg) ∧ Runs (GW L xs) 40 244 (0, [.ref 93, (Value.int (Int32.ofInt (a))), (Value.int (Int32.ofInt (b)))], [], zS (eV U) J tg) (some (Value.int (Int32.ofInt v)), zS (eV W) J1 tg) ∧ INV W := by
  have h0 := h
  obtain ⟨hR, ⟨hA, hB, hC, hD, hE, hF, hH⟩, h2, h3, h4, h5⟩ := h
  have rD : 0 ≤ V 1 0 ∧ V 1 0 ≤ 12 := hR 1 0 (by decide) (by decide)
  have rT : 0 ≤ V 1 1 ∧ V 1 1 ≤ 12 := hR 1 1 (by decide) (by decide)
  by_cases g1 : 0 ≤ a ∧ a < V 1 0
  · by_cases g2 : 0 ≤ b ∧ b ≤ 1
    · obtain ⟨dr, rfl⟩ : ∃ n : Nat, a = n := ⟨a.toNat, by omega⟩
      have r3 : 0 ≤ V 3 dr ∧ V 3 dr ≤ 6 := hR 3 dr (by decide) (by decide)
      obtain ⟨U, u1, u2, u3, u4, u5, u6⟩ := k_93 (L := L) (xs := xs) (J := J) (tg := tg) (d := 35) h0 (Qy.rf h3) (dr := dr) (st := 0) (by omega)
      have qU : Qy V U := (Qy.rf h3).cl fun c q1 q2 => u1 c q1 (by omega) (by omega)
      have hN : N12 (U 78) := fun k hk => by rw [u5 k hk]; have := fct_rg hR (dr := dr) (n := (V 3 dr).toNat) (by omega) (lkc V dr) k; omega
      by_cases b0 : b = 0
      · obtain ⟨W, J2, w1, w2⟩ := m_242 (L := L) (xs := xs) (J := J) (tg := tg) (d := 35) h0 qU (LKm_of h0 qU g1.2)
        have qW : Qy V W := qU.mf fun c _ q2 q3 => w1 c q2 q3
        obtain ⟨hRU, ⟨hAU, -⟩, -⟩ := h0.q qU
        refine ⟨bi (smG V 4 1 (fct V dr (V 3 dr).toNat (lkc V dr)) = true), U, W, J2, ?_, ?_, h0.q qW⟩
        · apply sg_132
          refine ⟨_, _, k_44 hR ha, ?_⟩
          rw [if_neg (b0_f g1)]
          refine ⟨_, _, k_164 (a := 0) (b := 1) hb (by omega) (by omega), ?_⟩
          rw [if_neg (b0_f g2)]
          refine ⟨_, u6, ?_⟩
          rw [b0, if_pos (by rfl), eV_at, u4]
          by_cases c : smG V 4 1 (fct V dr (V 3 dr).toNat (lkc V dr)) = true
          · rw [if_neg (b0_f c)]; exact leafI (bi_t c).symm
          · rw [if_pos (b0_t c)]; exact leafI (bi_f c).symm
        · apply sg_244
          refine ⟨_, _, _, m_179 hRU hAU ha, ?_⟩
          rw [if_neg (b0_f (by rw [qU.1 1 (by omega)]; exact g1))]
          refine ⟨_, _, _, k_177 (a := 0) (b := 1) hb (by omega) (by omega), ?_⟩
          rw [if_neg (b0_f g2), b0, if_pos (by rfl)]
          refine ⟨_, _, _, w2, ?_⟩
          by_cases c : smG V 4 1 (fct V dr (V 3 dr).toNat (lkc V dr)) = true
          · rw [if_neg (b0_f c)]; exact leafI (bi_t c).symm
          · rw [if_pos (b0_t c)]; exact leafI (bi_f c).symm
      · have b1 : b = 1 := by omega
        obtain ⟨X, x1, x2⟩ := k_99 (L := L) (xs := xs) (J := J) (tg := tg) (d := 36) h0 qU hN
        rw [smG_cg h0 (by decide) (fun v hv => u5 v (by omega))] at x2
        have qX : Qy V X := qU.cl fun c q1 _ => x1 c q1
        obtain ⟨W, J2, w1, w2⟩ := m_243 (L := L) (xs := xs) (J := J) (tg := tg) (d := 35) h0 qX (LKm_of h0 qX g1.2)
        have qW : Qy V W := qX.mf fun c _ q2 q3 => w1 c q2 q3
        obtain ⟨hRU, ⟨hAU, -⟩, -⟩ := h0.q qX
        refine ⟨bi (¬ smG V 5 0 (fct V dr (V 3 dr).toNat (lkc V dr)) = true), X, W, J2, ?_, ?_, h0.q qW⟩
        · apply sg_132
          refine ⟨_, _, k_44 hR ha, ?_⟩
          rw [if_neg (b0_f g1)]
          refine ⟨_, _, k_164 (a := 0) (b := 1) hb (by omega) (by omega), ?_⟩
          rw [if_neg (b0_f g2)]
          refine ⟨_, u6, ?_⟩
          rw [b1, if_neg (by decide)]
          refine ⟨_, _, x2, ?_⟩
          by_cases c : ¬ smG V 5 0 (fct V dr (V 3 dr).toNat (lkc V dr)) = true
          · rw [if_neg (b0_f c)]; exact leafI (bi_t c).symm
          · rw [if_pos (b0_t c)]; exact leafI (bi_f c).symm
        · apply sg_244
          refine ⟨_, _, _, m_179 hRU hAU ha, ?_⟩
          rw [if_neg (b0_f (by rw [qX.1 1 (by omega)]; exact g1))]
          refine ⟨_, _, _, k_177 (a := 0) (b := 1) hb (by omega) (by omega), ?_⟩
          rw [if_neg (b0_f g2), b1, if_neg (by decide)]
          refine ⟨_, _, _, w2, ?_⟩
          by_cases c : ¬ smG V 5 0 (fct V dr (V 3 dr).toNat (lkc V dr)) = true
          · rw [if_neg (b0_f c)]; exact leafI (bi_t c).symm
          · rw [if_pos (b0_t c)]; exact leafI (bi_f c).symm
    · refine ⟨-1, V, V, J, ?_, ?_, h0⟩
      · apply sg_132
        refine ⟨_, _, k_44 hR ha, ?_⟩
        rw [if_neg (b0_f g1)]
        refine ⟨_, _, k_164 (a := 0) (b := 1) hb (by omega) (by omega), ?_⟩
        rw [if_pos (b0_t g2)]; rfl
      · apply sg_244
        refine ⟨_, _, _, m_179 hR hA ha, ?_⟩
        rw [if_neg (b0_f g1)]
        refine ⟨_, _, _, k_177 (a := 0) (b := 1) hb (by omega) (by omega), ?_⟩
        rw [if_pos (b0_t g2)]; rfl
  · refine ⟨-1, V, V, J, ?_, ?_, h0⟩
    · apply sg_132
      refine ⟨_, _, k_44 hR ha, ?_⟩
      rw [if_pos (b0_t g1)]; rfl
    · apply sg_244
      refine ⟨_, _, _, m_179 hR hA ha, ?_⟩
      rw [if_pos (b0_t g1)]; rfl
/-- the guards of right and harm in the reference, refused -/
theorem c_right {L : Nat} {xs : Nat → Int32} {V : Nat → Nat → Int} {J : Nat → Nat → Int64} {tg : Option Nat} (h : INV V) {a b c : Int} (ha : (-2147483648 ≤ a ∧ a < 2147483648)) (hb : (-2147483648 ≤ b ∧ b < 2147483648)) (hc : (-2147483648 ≤ c ∧ c < 2147483648)) : ∃ (v : Int) (U W : Nat → Nat → Int) (J1 : Nat → Nat → Int64), Runs (GW L xs) 40 133 (0, [.ref 0, (Value.int (Int32.ofInt (a))), (Value.int (Int32.ofInt (b))), (Value.int (Int32.ofInt (c)))], [], zS (eV V) J tg) (some (Value.int (Int32.ofInt v)), zS (eV U) J tg) ∧ Runs (GW L xs) 40 250 (0, [.ref 93, (Value.int (Int32.ofInt (a))), (Value.int (Int32.ofInt (b))), (Value.int (Int32.ofInt (c)))], [], zS (eV U) J tg) (some (Value.int (Int32.ofInt v)), zS (eV W) J1 tg) ∧ INV W := by
  have h0 := h
  obtain ⟨hR, ⟨hA, hB, hC, hD, hE, hF, hH⟩, h2, h3, h4, h5⟩ := h
  have rD : 0 ≤ V 1 0 ∧ V 1 0 ≤ 12 := hR 1 0 (by decide) (by decide)
  have rT : 0 ≤ V 1 1 ∧ V 1 1 ≤ 12 := hR 1 1 (by decide) (by decide)
  by_cases g : (0 ≤ a ∧ a < V 1 0) ∧ (0 ≤ b ∧ b ≤ 5) ∧ (0 ≤ c ∧ c ≤ 5)
  · obtain ⟨g1, g2, g3⟩ := id g
    obtain ⟨dr, rfl⟩ : ∃ n : Nat, a = n := ⟨a.toNat, by omega⟩
    obtain ⟨ld, rfl⟩ : ∃ n : Nat, b = n := ⟨b.toNat, by omega⟩
    obtain ⟨st, rfl⟩ : ∃ n : Nat, c = n := ⟨c.toNat, by omega⟩
    obtain ⟨k1, k2, k3⟩ := know_lt h0 (ld := ld) (by omega)
    obtain ⟨U, qU, u1, M, u2, u3⟩ := k_94 (L := L) (xs := xs) (J := J) (tg := tg) (d := 34) h0 (Qy.rf h3) (dr := dr) (st := st) (by omega) (by omega)
    obtain ⟨m1, m2, m3, m4, m5, m6⟩ := M
    have hIU := h0.q qU
    have hsc := scr_rg hR dr st
    have htk := tk_rg (lim := V 7 0) (f := scr V dr st) (s := (V 9 ld).toNat) (n := 12) (by omega) (fun t => by have := hsc t; omega)
    have e9 : U 9 ld = ((V 9 ld).toNat : Nat) := by rw [qU.1 9 (by omega)]; exact k3
    have t1 := k_100 (L := L) (xs := xs) (J := J) (tg := tg) (d := 38) hIU.1 (s := (V 9 ld).toNat) (g := scr V dr st) k2 (fun t _ ht => u2 t (by
      have : t < (V 1 1).toNat := Nat.lt_of_not_le fun hle => by rw [tb_hi k1 hle] at ht; exact Bool.noConfusion ht
      omega)) hsc
    rw [qU.1 7 (by omega)] at t1
    have rb := bi_rg (smG V 4 1 (fct V dr (V 3 dr).toNat (lkc V dr)) = true)
    have k3' := k_103 (L := L) (xs := xs) (J := J) (tg := tg) (d := 38) hIU.1 (land := (ld : Int)) (took := tk (V 7 0) (scr V dr st) (V 9 ld).toNat 12) m1 m3 rb (by omega) (by omega) htk
    have er : (lrn U dr ld ∨ rt (U 5 dr) (bi (smG V 4 1 (fct V dr (V 3 dr).toNat (lkc V dr)) = true)) (U 6 dr) (tk (V 7 0) (scr V dr st) (V 9 ld).toNat 12)) = (lrn V dr ld ∨ rt (V 5 dr) (bi (smG V 4 1 (fct V dr (V 3 dr).toNat (lkc V dr)) = true)) (V 6 dr) (tk (V 7 0) (scr V dr st) (V 9 ld).toNat 12)) := by unfold lrn rt; rw [qU.1 12 (by omega), qU.1 5 (by omega), qU.1 6 (by omega)]
    obtain ⟨W, J2, w1, w2⟩ := m_249 (L := L) (xs := xs) (J := J) (tg := tg) (d := 33) h0 qU (LKm_of h0 qU g1.2) g1.2 (ld := ld) (st := st) (by omega) (by omega)
    rw [scr_p] at w2
    refine ⟨bi (lrn V dr ld ∨ rt (V 5 dr) (bi (smG V 4 1 (fct V dr (V 3 dr).toNat (lkc V dr)) = true)) (V 6 dr) (tk (V 7 0) (scr V dr st) (V 9 ld).toNat 12)), U, W, J2, ?_, ?_, h0.q (qU.mf w1)⟩
    · apply sg_133
      refine ⟨_, _, k_163 hR ha hb hc, ?_⟩
      rw [if_neg (b0_f g)]
      refine ⟨_, u3, ?_⟩
      simp (disch := omega) only [e9, eV_at, eV_up, o_lit2, o_add, o_sub, o_mul, o_neg, o_div, o_nat, ix_t, o_lt, o_le, o_eq, o_bi0, o_bi1, o_bib, em_t, o_neg1, o_shl, o_tb, o_tb0, o_tt, o_and, o_xor, o_or, o_max, o_min, an_tb, and_true, true_and, not_true, not_false, if_true, if_false, tn_add, tn_mul, Int.reduceToNat, tn_cast, md_x]
      refine ⟨_, _, t1, _, _, k3', ?_⟩
      by_cases r : lrn U dr ld ∨ rt (U 5 dr) (bi (smG V 4 1 (fct V dr (V 3 dr).toNat (lkc V dr)) = true)) (U 6 dr) (tk (V 7 0) (scr V dr st) (V 9 ld).toNat 12)
      · rw [if_neg (b0o_f r)]; exact leafI (bi_t (er.mp r)).symm
      · rw [if_pos (b0o_t r)]; exact leafI (bi_f (fun q => r (er.mpr q))).symm
    · apply sg_250
      refine ⟨_, _, _, m_179 hIU.1 hIU.2.1.1 ha, ?_⟩
      rw [if_neg (b0_f (by rw [qU.1 1 (by omega)]; exact g1))]
      refine ⟨_, _, _, k_182 hb, ?_⟩
      rw [if_neg (b0_f g2)]
      refine ⟨_, _, _, k_182 hc, ?_⟩
      rw [if_neg (b0_f g3)]
      refine ⟨_, _, _, w2, ?_⟩
      by_cases r : lrn V dr ld ∨ rt (V 5 dr) (bi (smG V 4 1 (fct V dr (V 3 dr).toNat (lkc V dr)) = true)) (V 6 dr) (tk (V 7 0) (scr V dr st) (V 9 ld).toNat 12)
      · rw [if_neg (b0_f r)]; exact leafI (bi_t r).symm
      · rw [if_pos (b0_t r)]; exact leafI (bi_f r).symm
  · refine ⟨-1, V, V, J, ?_, ?_, h0⟩
    · apply sg_133
      refine ⟨_, _, k_163 hR ha hb hc, ?_⟩
      rw [if_pos (b0_t g)]
      rfl
    · apply sg_250
      refine ⟨_, _, _, m_179 hR hA ha, ?_⟩
      by_cases g1 : 0 ≤ a ∧ a < V 1 0
      · rw [if_neg (b0_f g1)]
        refine ⟨_, _, _, k_182 hb, ?_⟩
        by_cases g2 : 0 ≤ b ∧ b ≤ 5
        · rw [if_neg (b0_f g2)]
          refine ⟨_, _, _, k_182 hc, ?_⟩
          rw [if_pos (b0_t (by omega))]
          rfl
        · rw [if_pos (b0_t g2)]
          rfl
      · rw [if_pos (b0_t g1)]
        rfl
theorem c_harm {L : Nat} {xs : Nat → Int32} {V : Nat → Nat → Int} {J : Nat → Nat → Int64} {tg : Option Nat} (h : INV V) {a b c : Int} (ha : (-2147483648 ≤ a ∧ a < 2147483648)) (hb' : (-2147483648 ≤ b ∧ b < 2147483648)) (hc : (-2147483648 ≤ c ∧ c < 2147483648)) : ∃ (v : Int) (U W : Nat → Nat → Int) (J1 : Nat → Nat → Int64), Runs (GW L xs) 40 134 (0, [.ref 0, (Value.int (Int32.ofInt (a))), (Value.int (Int32.ofInt (b))), (Value.int (Int32.ofInt (c)))], [], zS (eV V) J tg) (some (Value.int (Int32.ofInt v)), zS (eV U) J tg) ∧ Runs (GW L xs) 40 251 (0, [.ref 93, (Value.int (Int32.ofInt (a))), (Value.int (Int32.ofInt (b))), (Value.int (Int32.ofInt (c)))], [], zS (eV U) J tg) (some (Value.int (Int32.ofInt v)), zS (eV W) J1 tg) ∧ INV W := by
  have h0 := h
  obtain ⟨hR, ⟨hA, hB, hC, hD, hE, hF, hH⟩, h2, h3, h4, h5⟩ := h
  have rD : 0 ≤ V 1 0 ∧ V 1 0 ≤ 12 := hR 1 0 (by decide) (by decide)
  have rT : 0 ≤ V 1 1 ∧ V 1 1 ≤ 12 := hR 1 1 (by decide) (by decide)
  by_cases g : (0 ≤ a ∧ a < V 1 0) ∧ (0 ≤ b ∧ b ≤ 5) ∧ (0 ≤ c ∧ c ≤ 5)
  · obtain ⟨g1, g2, g3⟩ := id g
    obtain ⟨dr, rfl⟩ : ∃ n : Nat, a = n := ⟨a.toNat, by omega⟩
    obtain ⟨ld, rfl⟩ : ∃ n : Nat, b = n := ⟨b.toNat, by omega⟩
    obtain ⟨st, rfl⟩ : ∃ n : Nat, c = n := ⟨c.toNat, by omega⟩
    obtain ⟨k1, k2, k3⟩ := know_lt h0 (ld := ld) (by omega)
    obtain ⟨U, qU, u1, M, u2, u3⟩ := k_94 (L := L) (xs := xs) (J := J) (tg := tg) (d := 34) h0 (Qy.rf h3) (dr := dr) (st := st) (by omega) (by omega)
    obtain ⟨m1, m2, m3, m4, m5, m6⟩ := M
    have hIU := h0.q qU
    have hsc := scr_rg hR dr st
    have htk := tk_rg (lim := V 7 0) (f := scr V dr st) (s := (V 9 ld).toNat) (n := 12) (by omega) (fun t => by have := hsc t; omega)
    have e9 : U 9 ld = ((V 9 ld).toNat : Nat) := by rw [qU.1 9 (by omega)]; exact k3
    have t1 := k_100 (L := L) (xs := xs) (J := J) (tg := tg) (d := 38) hIU.1 (s := (V 9 ld).toNat) (g := scr V dr st) k2 (fun t _ ht => u2 t (by
      have : t < (V 1 1).toNat := Nat.lt_of_not_le fun hle => by rw [tb_hi k1 hle] at ht; exact Bool.noConfusion ht
      omega)) hsc
    rw [qU.1 7 (by omega)] at t1
    have rb := bi_rg (smG V 4 1 (fct V dr (V 3 dr).toNat (lkc V dr)) = true)
    obtain ⟨X, x1, x2, x3, x4⟩ := k_104 (L := L) (xs := xs) (J := J) (tg := tg) (d := 37) h0 qU (dr := dr) (st := st) (land := (ld : Int)) (took := tk (V 7 0) (scr V dr st) (V 9 ld).toNat 12) m1 m2 m3 (by omega) (by omega) rb (by omega) htk m5
    rw [hb_cg h0 m4] at x4
    have qX : Qy V X := qU.cl fun c q1 q2 => x1 c q1 (by omega)
    have hIX := h0.q qX
    obtain ⟨W, J2, w1, w2⟩ := m_248 (L := L) (xs := xs) (J := J) (tg := tg) (d := 33) h0 qX (LKm_of h0 qX g1.2) g1.2 (ld := ld) (st := st) (by omega) (by omega)
    rw [scr_p] at w2
    refine ⟨hb V dr st (bi (smG V 4 1 (fct V dr (V 3 dr).toNat (lkc V dr)) = true)) (fct V dr (V 3 dr).toNat (lkc V dr)) ld (tk (V 7 0) (scr V dr st) (V 9 ld).toNat 12), X, W, J2, ?_, ?_, h0.q (qX.mf w1)⟩
    · apply sg_134
      refine ⟨_, _, k_163 hR ha hb' hc, ?_⟩
      rw [if_neg (b0_f g)]
      refine ⟨_, u3, ?_⟩
      simp (disch := omega) only [e9, eV_at, eV_up, o_lit2, o_add, o_sub, o_mul, o_neg, o_div, o_nat, ix_t, o_lt, o_le, o_eq, o_bi0, o_bi1, o_bib, em_t, o_neg1, o_shl, o_tb, o_tb0, o_tt, o_and, o_xor, o_or, o_max, o_min, an_tb, and_true, true_and, not_true, not_false, if_true, if_false, tn_add, tn_mul, Int.reduceToNat, tn_cast, md_x]
      exact ⟨_, _, t1, _, _, x4, rfl⟩
    · apply sg_251
      refine ⟨_, _, _, m_179 hIX.1 hIX.2.1.1 ha, ?_⟩
      rw [if_neg (b0_f (by rw [qX.1 1 (by omega)]; exact g1))]
      refine ⟨_, _, _, k_182 hb', ?_⟩
      rw [if_neg (b0_f g2)]
      refine ⟨_, _, _, k_182 hc, ?_⟩
      rw [if_neg (b0_f g3)]
      exact ⟨_, _, _, w2, rfl⟩
  · refine ⟨-1, V, V, J, ?_, ?_, h0⟩
    · apply sg_134
      refine ⟨_, _, k_163 hR ha hb' hc, ?_⟩
      rw [if_pos (b0_t g)]
      rfl
    · apply sg_251
      refine ⟨_, _, _, m_179 hR hA ha, ?_⟩
      by_cases g1 : 0 ≤ a ∧ a < V 1 0
      · rw [if_neg (b0_f g1)]
        refine ⟨_, _, _, k_182 hb', ?_⟩
        by_cases g2 : 0 ≤ b ∧ b ≤ 5
        · rw [if_neg (b0_f g2)]
          refine ⟨_, _, _, k_182 hc, ?_⟩
          rw [if_pos (b0_t (by omega))]
          rfl
        · rw [if_pos (b0_t g2)]
          rfl
      · rw [if_pos (b0_t g1)]
        rfl
theorem c_odds {L : Nat} {xs : Nat → Int32} {V : Nat → Nat → Int} {J : Nat → Nat → Int64} {tg : Option Nat} (h : INV V) {a b c : Int} (ha : (-2147483648 ≤ a ∧ a < 2147483648)) (hb : (-2147483648 ≤ b ∧ b < 2147483648)) (hc : (-2147483648 ≤ c ∧ c < 2147483648)) : ∃ (v : Int) (U W : Nat → Nat → Int) (J1 : Nat → Nat → Int64), Runs (GW L xs) 40 135 (0, [.ref 0, (Value.int (Int32.ofInt (a))), (Value.int (Int32.ofInt (b))), (Value.int (Int32.ofInt (c)))], [], zS (eV V) J tg) (some (Value.int (Int32.ofInt v)), zS (eV U) J tg) ∧ Runs (GW L xs) 40 255 (0, [.ref 93, (Value.int (Int32.ofInt (a))), (Value.int (Int32.ofInt (b))), (Value.int (Int32.ofInt (c)))], [], zS (eV U) J tg) (some (Value.int (Int32.ofInt v)), zS (eV W) J1 tg) ∧ INV W := by
  have h0 := h
  obtain ⟨hR, ⟨hA, hB, hC, hD, hE, hF, hH⟩, h2, h3, h4, h5⟩ := h
  have rD : 0 ≤ V 1 0 ∧ V 1 0 ≤ 12 := hR 1 0 (by decide) (by decide)
  have rT : 0 ≤ V 1 1 ∧ V 1 1 ≤ 12 := hR 1 1 (by decide) (by decide)
  by_cases g1 : 0 ≤ a ∧ a < V 1 0
  · by_cases g2 : 0 ≤ b ∧ b ≤ 5
    · by_cases g3 : 0 ≤ c ∧ c ≤ 2
      · obtain ⟨dr, rfl⟩ : ∃ n : Nat, a = n := ⟨a.toNat, by omega⟩
        obtain ⟨st, rfl⟩ : ∃ n : Nat, b = n := ⟨b.toNat, by omega⟩
        by_cases c2 : c = 2
        · subst c2
          refine ⟨shs V 6, V, V, J, ?_, ?_, h0⟩
          · apply sg_135
            refine ⟨_, _, k_44 hR ha, ?_⟩
            rw [if_neg (b0_f g1)]
            refine ⟨_, _, k_166 hb, ?_⟩
            rw [if_neg (b0_f g2)]
            refine ⟨_, _, k_164 (a := 0) (b := 2) hc (by omega) (by omega), ?_⟩
            rw [if_neg (b0_f g3), if_pos (by rfl)]
            exact ⟨_, _, k_109 (Qy.rf h3), rfl⟩
          · apply sg_255
            refine ⟨_, _, _, m_179 hR hA ha, ?_⟩
            rw [if_neg (b0_f g1)]
            refine ⟨_, _, _, k_182 hb, ?_⟩
            rw [if_neg (b0_f g2)]
            refine ⟨_, _, _, k_177 (a := 0) (b := 2) hc (by omega) (by omega), ?_⟩
            rw [if_neg (b0_f g3), if_neg (by decide), if_neg (by decide)]
            exact ⟨_, _, _, m_254 h0 (Qy.rf h3), rfl⟩
        · obtain ⟨U, qU, u1, M, u2, u3⟩ := k_94 (L := L) (xs := xs) (J := J) (tg := tg) (d := 34) h0 (Qy.rf h3) (dr := dr) (st := st) (by omega) (by omega)
          have hIU := h0.q qU
          have hsc := scr_rg hR dr st
          have rb := bi_rg (smG V 4 1 (fct V dr (V 3 dr).toNat (lkc V dr)) = true)
          by_cases c0 : c = 0
          · subst c0
            obtain ⟨X, x1, x2, x3, x4⟩ := k_105 (L := L) (xs := xs) (J := J) (tg := tg) (d := 36) h0 qU (by omega) (by omega) rb hsc M
            have qX : Qy V X := qU.cl fun c q1 q2 => x1 c q1 (by omega)
            have hIX := h0.q qX
            obtain ⟨W, J2, w1, w2⟩ := m_252 (L := L) (xs := xs) (J := J) (tg := tg) (d := 32) h0 qX (LKm_of h0 qX g1.2) g1.2 (st := st) (by omega)
            rw [scr_p] at w2
            refine ⟨alh V dr st (bi (smG V 4 1 (fct V dr (V 3 dr).toNat (lkc V dr)) = true)) (fct V dr (V 3 dr).toNat (lkc V dr)) (scr V dr st) 6, X, W, J2, ?_, ?_, h0.q (qX.mf w1)⟩
            · apply sg_135
              refine ⟨_, _, k_44 hR ha, ?_⟩
              rw [if_neg (b0_f g1)]
              refine ⟨_, _, k_166 hb, ?_⟩
              rw [if_neg (b0_f g2)]
              refine ⟨_, _, k_164 (a := 0) (b := 2) hc (by omega) (by omega), ?_⟩
              rw [if_neg (b0_f g3), if_neg (by decide)]
              refine ⟨_, u3, ?_⟩
              rw [if_pos (by rfl)]
              exact ⟨_, _, x4, rfl⟩
            · apply sg_255
              refine ⟨_, _, _, m_179 hIX.1 hIX.2.1.1 ha, ?_⟩
              rw [if_neg (b0_f (by rw [qX.1 1 (by omega)]; exact g1))]
              refine ⟨_, _, _, k_182 hb, ?_⟩
              rw [if_neg (b0_f g2)]
              refine ⟨_, _, _, k_177 (a := 0) (b := 2) hc (by omega) (by omega), ?_⟩
              rw [if_neg (b0_f g3), if_pos (by rfl)]
              exact ⟨_, _, _, w2, rfl⟩
          · have c1 : c = 1 := by omega
            subst c1
            have x4 := k_106 (L := L) (xs := xs) (J := J) (tg := tg) (d := 37) h0 qU (by omega) rb hsc M
            obtain ⟨W, J2, w1, w2⟩ := m_253 (L := L) (xs := xs) (J := J) (tg := tg) (d := 32) h0 qU (LKm_of h0 qU g1.2) g1.2 (st := st) (by omega)
            rw [scr_p] at w2
            refine ⟨rsh V dr (bi (smG V 4 1 (fct V dr (V 3 dr).toNat (lkc V dr)) = true)) (scr V dr st) 6, U, W, J2, ?_, ?_, h0.q (qU.mf w1)⟩
            · apply sg_135
              refine ⟨_, _, k_44 hR ha, ?_⟩
              rw [if_neg (b0_f g1)]
              refine ⟨_, _, k_166 hb, ?_⟩
              rw [if_neg (b0_f g2)]
              refine ⟨_, _, k_164 (a := 0) (b := 2) hc (by omega) (by omega), ?_⟩
              rw [if_neg (b0_f g3), if_neg (by decide)]
              refine ⟨_, u3, ?_⟩
              rw [if_neg (by decide)]
              exact ⟨_, _, x4, rfl⟩
            · apply sg_255
              refine ⟨_, _, _, m_179 hIU.1 hIU.2.1.1 ha, ?_⟩
              rw [if_neg (b0_f (by rw [qU.1 1 (by omega)]; exact g1))]
              refine ⟨_, _, _, k_182 hb, ?_⟩
              rw [if_neg (b0_f g2)]
              refine ⟨_, _, _, k_177 (a := 0) (b := 2) hc (by omega) (by omega), ?_⟩
              rw [if_neg (b0_f g3), if_neg (by decide), if_pos (by rfl)]
              exact ⟨_, _, _, w2, rfl⟩
      · refine ⟨-1, V, V, J, ?_, ?_, h0⟩
        · apply sg_135
          refine ⟨_, _, k_44 hR ha, ?_⟩
          rw [if_neg (b0_f g1)]
          refine ⟨_, _, k_166 hb, ?_⟩
          rw [if_neg (b0_f g2)]
          refine ⟨_, _, k_164 (a := 0) (b := 2) hc (by omega) (by omega), ?_⟩
          rw [if_pos (b0_t g3)]; rfl
        · apply sg_255
          refine ⟨_, _, _, m_179 hR hA ha, ?_⟩
          rw [if_neg (b0_f g1)]
          refine ⟨_, _, _, k_182 hb, ?_⟩
          rw [if_neg (b0_f g2)]
          refine ⟨_, _, _, k_177 (a := 0) (b := 2) hc (by omega) (by omega), ?_⟩
          rw [if_pos (b0_t g3)]; rfl
    · refine ⟨-1, V, V, J, ?_, ?_, h0⟩
      · apply sg_135
        refine ⟨_, _, k_44 hR ha, ?_⟩
        rw [if_neg (b0_f g1)]
        refine ⟨_, _, k_166 hb, ?_⟩
        rw [if_pos (b0_t g2)]; rfl
      · apply sg_255
        refine ⟨_, _, _, m_179 hR hA ha, ?_⟩
        rw [if_neg (b0_f g1)]
        refine ⟨_, _, _, k_182 hb, ?_⟩
        rw [if_pos (b0_t g2)]; rfl
  · refine ⟨-1, V, V, J, ?_, ?_, h0⟩
    · apply sg_135
      refine ⟨_, _, k_44 hR ha, ?_⟩
      rw [if_pos (b0_t g1)]; rfl
    · apply sg_255
      refine ⟨_, _, _, m_179 hR hA ha, ?_⟩
      rw [if_pos (b0_t g1)]; rfl
