/-! measure; taken. -/
theorem m_203 {L d : Nat} {xs : Nat → Int32} {V : Nat → Nat → Int} {J : Nat → Nat → Int64} {tg : Option Nat} (hR : RNG V) (h : REL V 1 7 18 94) {dr st : Nat} (hd : (dr : Int) < V 1 0) (hs : st < 6) : ∃ W, (∀ c, ¬ (97 ≤ c ∧ c ≤ 99) → W c = V c) ∧ (∀ t : Nat, (t : Int) < V 1 1 → W 99 t = scr V dr st t) ∧ Runs (GW L xs) (d + 4) 203 (0, [.ref 93, (Value.int (Int32.ofInt (dr))), (Value.int (Int32.ofInt (st))), vU], [], zS (eV (V)) J tg) (none, zS (eV (W)) J tg) := by
  obtain ⟨hA, hB, hC, hD, hE, hF, hH⟩ := h
  have rD : 0 ≤ V 1 0 ∧ V 1 0 ≤ 12 := hR 1 0 (by decide) (by decide)
  have rT : 0 ≤ V 1 1 ∧ V 1 1 ≤ 12 := hR 1 1 (by decide) (by decide)
  obtain ⟨T, hT⟩ : ∃ T : Nat, V 1 1 = T := ⟨(V 1 1).toNat, by omega⟩
  have hT94 : V 94 2 = T := by rw [hA.2.1, hT]
  obtain ⟨W, ⟨i1, i2⟩, hr⟩ := loopN (g := GW L xs) (d := d + 4) (mid := 203) (σ := Nat → Nat → Int) (fun t W => (2, [.ref 93, (Value.int (Int32.ofInt (dr))), (Value.int (Int32.ofInt (st))), (Value.int (Int32.ofInt (t)))], [], zS (eV W) J tg)) (fun i W => (∀ c, ¬ (97 ≤ c ∧ c ≤ 99) → W c = V c) ∧ (∀ t : Nat, t < i → W 99 t = scr V dr st t)) T (by
    intro t W ht ⟨i1, i2⟩
    have hRW : RNG W := hR.fr fun c q => i1 c (by omega)
    have hAW : RA W 1 94 := hA.up (fun p _ => by rw [i1 1 (by omega)]) (fun p _ => by rw [i1 94 (by omega)])
    have hBW : RB W 1 94 := hB.up hR (by rw [i1 1 (by omega)]) (by rw [i1 1 (by omega)]) (i1 2 (by omega)) (i1 3 (by omega)) (i1 4 (by omega)) (fun l w _ _ => by rw [i1 94 (by omega)])
    obtain ⟨X, x1, x2⟩ := m_197 (L := L) (xs := xs) (J := J) (tg := tg) (d := d) hRW hAW hBW (a := dr) (b := 12 + t) (by unfold isT; rw [i1 1 (by omega)]; omega) (by unfold isT; rw [i1 1 (by omega)]; omega)
    have eF : FAR W = FAR V := FAR_fr (i1 1 (by omega)) (i1 2 (by omega)) (i1 3 (by omega)) (i1 4 (by omega))
    rw [eF] at x2
    have e94 : X 94 = V 94 := by rw [x1 94 (by decide) (by decide), i1 94 (by omega)]
    have hl : V 94 (700 + 12 * st + t) = V 10 (st * 12 + t) := by
      have := hE.2.2.1 (st * 12 + t) (by omega)
      have e : 700 + (st * 12 + t) = 700 + 12 * st + t := by omega
      rw [e] at this; exact this
    refine ⟨up2 X 99 t (scr V dr st t), ⟨fun c q => by rw [w_ne _ _ _ _ (by omega), x1 c (by omega) (by omega)]; exact i1 c q, fun j hj => ?_⟩, fun r hr => ?_⟩
    · rw [w_at]
      by_cases q : j = t
      · subst q; rw [if_pos rfl]
      · rw [if_neg q, x1 99 (by decide) (by decide)]; exact i2 j (by omega)
    · apply sg_203_2
      simp (disch := omega) only [i1 94 (by omega), hT94, eV_at, eV_up, o_lit2, o_add, o_sub, o_mul, o_neg, o_div, o_nat, ix_t, o_lt, o_le, o_eq, o_bi0, o_bi1, o_bib, em_t, o_neg1, o_shl, o_tb, o_tb0, o_tt, o_and, o_xor, o_or, o_max, o_min, an_tb, and_true, true_and, not_true, not_false, if_true, if_false, tn_add, tn_mul, Int.reduceToNat, tn_cast, md_x]
      rw [if_neg (by omega)]
      refine ⟨_, _, _, x2, ?_⟩
      simp (disch := omega) only [e94, hl, eV_at, eV_up, o_lit2, o_add, o_sub, o_mul, o_neg, o_div, o_nat, ix_t, o_lt, o_le, o_eq, o_bi0, o_bi1, o_bib, em_t, o_neg1, o_shl, o_tb, o_tb0, o_tt, o_and, o_xor, o_or, o_max, o_min, an_tb, and_true, true_and, not_true, not_false, if_true, if_false, tn_add, tn_mul, Int.reduceToNat, tn_cast, md_x]
      exact hr) T 0 V (by omega) ⟨fun _ _ => rfl, fun t ht => by omega⟩
  refine ⟨W, i1, fun t ht => i2 t (by omega), sg_203 _ _ _ _ _ (hr _ ?_)⟩
  apply sg_203_2
  simp (disch := omega) only [i1 94 (by omega), hT94, eV_at, eV_up, o_lit2, o_add, o_sub, o_mul, o_neg, o_div, o_nat, ix_t, o_lt, o_le, o_eq, o_bi0, o_bi1, o_bib, em_t, o_neg1, o_shl, o_tb, o_tb0, o_tt, o_and, o_xor, o_or, o_max, o_min, an_tb, and_true, true_and, not_true, not_false, if_true, if_false, tn_add, tn_mul, Int.reduceToNat, tn_cast, md_x]
  rw [if_pos (by omega)] <;> trivial
theorem c_taken {L : Nat} {xs : Nat → Int32} {V : Nat → Nat → Int} {J : Nat → Nat → Int64} {tg : Option Nat} (h : INV V) {a b c : Int} (ha : (-2147483648 ≤ a ∧ a < 2147483648)) (hb : (-2147483648 ≤ b ∧ b < 2147483648)) (hc : (-2147483648 ≤ c ∧ c < 2147483648)) : ∃ (v : Int) (U W : Nat → Nat → Int) (J1 : Nat → Nat → Int64), Runs (GW L xs) 40 131 (0, [.ref 0, (Value.int (Int32.ofInt (a))), (Value.int (Int32.ofInt (b))), (Value.int (Int32.ofInt (c)))], [], zS (eV V) J tg) (some (Value.int (Int32.ofInt v)), zS (eV U) J tg) ∧ Runs (GW L xs) 40 206 (0, [.ref 93, (Value.int (Int32.ofInt (a))), (Value.int (Int32.ofInt (b))), (Value.int (Int32.ofInt (c)))], [], zS (eV U) J tg) (some (Value.int (Int32.ofInt v)), zS (eV W) J1 tg) ∧ INV W := by
  have h0 := h
  obtain ⟨hR, ⟨hA, hB, hC, hD, hE, hF, hH⟩, h2, h3, h4, h5⟩ := h
  have rD : 0 ≤ V 1 0 ∧ V 1 0 ≤ 12 := hR 1 0 (by decide) (by decide)
  have rT : 0 ≤ V 1 1 ∧ V 1 1 ≤ 12 := hR 1 1 (by decide) (by decide)
  by_cases g : (0 ≤ a ∧ a < V 1 0) ∧ (0 ≤ b ∧ b ≤ 5) ∧ (0 ≤ c ∧ c ≤ 5)
  · obtain ⟨g1, g2, g3⟩ := id g
    obtain ⟨dr, rfl⟩ : ∃ n : Nat, a = n := ⟨a.toNat, by omega⟩
    obtain ⟨ld, rfl⟩ : ∃ n : Nat, b = n := ⟨b.toNat, by omega⟩
    obtain ⟨st, rfl⟩ : ∃ n : Nat, c = n := ⟨c.toNat, by omega⟩
    obtain ⟨T, hT⟩ : ∃ T : Nat, V 1 1 = T := ⟨(V 1 1).toNat, by omega⟩
    have rk : 0 ≤ V 9 ld ∧ V 9 ld ≤ 4095 := hR 9 ld (by decide) (by decide)
    obtain ⟨s, hs⟩ : ∃ s : Nat, V 9 ld = s := ⟨(V 9 ld).toNat, by omega⟩
    have hE2 := hE.2.1 ld (by omega)
    have hsT : s < 2 ^ T := by
      have h1 : V 9 ld < ((2 ^ (V 1 1).toNat : Nat) : Int) := hE2.2.2
      rw [hT, tn_cast] at h1; omega
    have bits : ∀ t, s.testBit t = true → t < T := fun t q => Nat.lt_of_not_le fun hle => by rw [tb_hi hsT hle] at q; exact Bool.noConfusion q
    obtain ⟨U, u1, u2, u3, u4, u5, u6, u7⟩ := k_92 (L := L) (xs := xs) (J := J) (tg := tg) (d := 35) hR h3 (dr := dr) (st := st) (by omega) (by omega)
    have qU : Qy V U := ⟨fun x _ => u1 x (by omega) (by omega), fun p _ => by rw [u1 94 (by omega) (by omega)], fun p _ => by rw [u1 93 (by omega) (by omega)], u5⟩
    have hIU := h0.q qU
    have hRU := hIU.1
    have kp := k_113_77 (L := L) (xs := xs) (J := J) (tg := tg) (d := 38) hRU (fr := 0) (s := s) (h := 0) (g := scr V dr st) (by omega) (by omega) (by omega) (fun t _ q => by rw [Nat.zero_add]; exact ⟨u6 t (by have := bits t q; omega), scr_rg hR dr st t⟩)
    rw [u1 7 (by omega) (by omega), tk_cg (g := scr V dr st) (fun t _ _ => by simp), tk_ext hsT (by omega)] at kp
    have hpr := pk_rg (f := scr V dr st) (s := s) (n := T) (fun t _ _ => by have := scr_rg hR dr st t; omega)
    have htr : -1 ≤ tk (V 7 0) (scr V dr st) s T ∧ tk (V 7 0) (scr V dr st) s T ≤ 11 := by unfold tk; split <;> omega
    obtain ⟨W, w1, w2, w3⟩ := m_203 (L := L) (xs := xs) (J := J) (tg := tg) (d := 34) hRU hIU.2.1 (dr := dr) (st := st) (by rw [u1 1 (by omega) (by omega)]; exact g1.2) (by omega)
    have eS : ∀ t, scr U dr st t = scr V dr st t := fun t => by
      unfold scr
      rw [FAR_fr (u1 1 (by omega) (by omega)) (u1 2 (by omega) (by omega)) (u1 3 (by omega) (by omega)) (u1 4 (by omega) (by omega)), u1 10 (by omega) (by omega)]
    rw [u1 1 (by omega) (by omega)] at w2
    have e94 : W 94 = V 94 := by rw [w1 94 (by omega), u1 94 (by omega) (by omega)]
    have hG : ∀ t, t < T → V 94 (780 + t) = V 11 t := fun t ht => hE.2.2.2 t (by omega)
    have rl : 0 ≤ V 7 0 ∧ V 7 0 ≤ 999 := hR 7 0 (by decide) (by decide)
    have rh : 0 ≤ V 7 1 ∧ V 7 1 ≤ 99 := hR 7 1 (by decide) (by decide)
    have km := k_204 (L := L) (xs := xs) (J := J) (tg := tg) (d := 38) (V := W) (s := s) (T := T) (one := 0) (other := 0) (g := scr V dr st) (by rw [e94, hA.2.1, hT]) (by omega) (by omega) (by rw [e94, hE.1.1]; exact rl) (by rw [e94, hE.1.2.1]; exact rh) (by omega) (by omega) (fun t ht => by rw [e94, hG t ht]; exact hR 11 t (by decide) (by decide)) (fun t ht _ => ⟨by rw [w2 t (by omega), eS], scr_rg hR dr st t⟩)
    rw [tk_cg (g := scr V dr st) (fun t _ _ => by rw [if_neg (by omega)]; omega), e94, hE.1.1] at km
    have qW : Qy U W := ⟨fun x _ => w1 x (by omega), fun p _ => by rw [w1 94 (by omega)], fun p _ => by rw [w1 93 (by omega)], u5.up (w1 1 (by omega)) (w1 2 (by omega)) (w1 3 (by omega)) (w1 4 (by omega)) (w1 71 (by omega)) (w1 81 (by omega))⟩
    refine ⟨mz (tk (V 7 0) (scr V dr st) s T), U, W, J, ?_, ?_, hIU.q qW⟩
    · apply sg_131
      refine ⟨_, _, k_163 hR ha hb hc, ?_⟩
      rw [if_neg (b0_f g)]
      refine ⟨_, u7, ?_⟩
      simp (disch := omega) only [u1 9 (by omega) (by omega), hs, eV_at, eV_up, o_lit2, o_add, o_sub, o_mul, o_neg, o_div, o_nat, ix_t, o_lt, o_le, o_eq, o_bi0, o_bi1, o_bib, em_t, o_neg1, o_shl, o_tb, o_tb0, o_tt, o_and, o_xor, o_or, o_max, o_min, an_tb, and_true, true_and, not_true, not_false, if_true, if_false, tn_add, tn_mul, Int.reduceToNat, tn_cast, md_x]
      refine ⟨_, _, sg_100 _ _ _ _ ⟨_, _, kp, rfl⟩, ?_⟩
      refine ⟨_, _, k_168 htr, ?_⟩
      unfold mz
      split
      · rfl
      · exact leafI (by omega)
    · apply sg_206
      have g1' : 0 ≤ (dr : Int) ∧ (dr : Int) < U 1 0 := by rw [u1 1 (by omega) (by omega)]; exact g1
      refine ⟨_, _, _, m_179 hRU hIU.2.1.1 ha, ?_⟩
      rw [if_neg (b0_f g1')]
      refine ⟨_, _, _, k_182 hb, ?_⟩
      rw [if_neg (b0_f g2)]
      refine ⟨_, _, _, k_182 hc, ?_⟩
      rw [if_neg (b0_f g3)]
      refine ⟨_, _, _, ?_, rfl⟩
      apply sg_205
      refine ⟨_, _, w3, ?_⟩
      have hk9 : V 94 (690 + ld) = s := by rw [hE2.2.1]; exact hs
      simp (disch := omega) only [e94, hk9, eV_at, eV_up, o_lit2, o_add, o_sub, o_mul, o_neg, o_div, o_nat, ix_t, o_lt, o_le, o_eq, o_bi0, o_bi1, o_bib, em_t, o_neg1, o_shl, o_tb, o_tb0, o_tt, o_and, o_xor, o_or, o_max, o_min, an_tb, and_true, true_and, not_true, not_false, if_true, if_false, tn_add, tn_mul, Int.reduceToNat, tn_cast, md_x]
      exact ⟨_, _, _, km, rfl⟩
  · refine ⟨-1, V, V, J, ?_, ?_, h0⟩
    · apply sg_131
      refine ⟨_, _, k_163 hR ha hb hc, ?_⟩
      rw [if_pos (b0_t g)]
      rfl
    · apply sg_206
      refine ⟨_, _, _, m_179 hR hA ha, ?_⟩
      by_cases g1 : 0 ≤ a ∧ a < V 1 0
      · rw [if_neg (b0_f g1)]
        refine ⟨_, _, _, k_182 hb, ?_⟩
        by_cases g2 : 0 ≤ b ∧ b ≤ 5
        · rw [if_neg (b0_f g2)]
          refine ⟨_, _, _, k_182 hc, ?_⟩
          rw [if_pos (b0_t (by omega))]
          rfl
        · rw [if_pos (b0_t g2)]
          rfl
      · rw [if_pos (b0_t g1)]
        rfl
