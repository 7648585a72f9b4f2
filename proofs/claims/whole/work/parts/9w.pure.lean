/-! The cases anybody and best. -/
theorem c_anybody {L : Nat} {xs : Nat → Int32} {V : Nat → Nat → Int} {J : Nat → Nat → Int64} {tg : Option Nat} (h : INV V) {a b c e : Int} (ha : (-2147483648 ≤ a ∧ a < 2147483648)) (hb : (-2147483648 ≤ b ∧ b < 2147483648)) (hc : (-2147483648 ≤ c ∧ c < 2147483648)) (he : (-2147483648 ≤ e ∧ e < 2147483648)) : ∃ (v : Int) (U W : Nat → Nat → Int) (J1 : Nat → Nat → Int64), Runs (GW L xs) 40 151 (0, [.ref 0, (Value.int (Int32.ofInt (a))), (Value.int (Int32.ofInt (b))), (Value.int (Int32.ofInt (c))), (Value.int (Int32.ofInt (e)))], [], zS (eV V) J tg) (some (Value.int (Int32.ofInt v)), zS (eV U) J tg) ∧ Runs (GW L xs) 40 286 (0, [.ref 93, (Value.int (Int32.ofInt (a))), (Value.int (Int32.ofInt (b))), (Value.int (Int32.ofInt (c))), (Value.int (Int32.ofInt (e))), vU], [], zS (eV U) J tg) (some (Value.int (Int32.ofInt v)), zS (eV W) J1 tg) ∧ INV W := by
  have h0 := h
  obtain ⟨hR, ⟨hA, hB, hC, hD, hE, hF, hH⟩, h2, h3, h4, h5⟩ := h
  have rD : 0 ≤ V 1 0 ∧ V 1 0 ≤ 12 := hR 1 0 (by decide) (by decide)
  have rT : 0 ≤ V 1 1 ∧ V 1 1 ≤ 12 := hR 1 1 (by decide) (by decide)
  have e942 : V 94 2 = V 1 1 := hA.2.1
  by_cases g1 : 0 ≤ a ∧ a < V 1 0
  · by_cases g2 : 0 ≤ b ∧ b ≤ 5
    · by_cases g3 : 0 ≤ c ∧ c ≤ V 1 1
      · by_cases g4 : 0 ≤ e ∧ e ≤ 1
        · obtain ⟨dr, rfl⟩ : ∃ n : Nat, a = n := ⟨a.toNat, by omega⟩
          obtain ⟨st, rfl⟩ : ∃ n : Nat, b = n := ⟨b.toNat, by omega⟩
          obtain ⟨k, rfl⟩ : ∃ n : Nat, c = n := ⟨c.toNat, by omega⟩
          have hne := wrs_ne h0 dr (st := st) (k := k) (by omega) (by omega)
          obtain ⟨U, qU, u1, u2, u3, u4⟩ := k_107 (L := L) (xs := xs) (J := J) (tg := tg) (d := 34) h0 (Qy.rf h3) (dr := dr) (st := st) (k := k) (by omega) (by omega) (by omega)
          have hIU := h0.q qU
          obtain ⟨W, J2, qW, w1, w2, w3⟩ := m_285 (L := L) (xs := xs) (J := J) (tg := tg) (d := 33) h0 qU (dr := dr) (st := st) (k := k) g1.2 (by omega) (by omega)
          have u3 := u3 hne
          have w2 := w2 hne
          have e1 : U 1 = V 1 := qU.1 1 (by omega)
          have e2 : U 94 2 = V 1 1 := by rw [hIU.2.1.1.2.1, e1]
          generalize wrs V dr st k = m at u2 u3 w2 w3
          by_cases c0 : e = 0
          · subst c0
            refine ⟨m.1, U, W, J2, ?_, ?_, h0.q qW⟩
            · apply sg_151
              refine ⟨_, _, k_44 hR ha, ?_⟩
              rw [if_neg (b0_f g1)]
              refine ⟨_, _, k_166 hb, ?_⟩
              rw [if_neg (b0_f g2)]
              refine ⟨_, _, k_164 (a := 0) (b := V 1 1) hc (by omega) (by omega), ?_⟩
              rw [if_neg (b0_f g3)]
              refine ⟨_, _, k_164 (a := 0) (b := 1) he (by omega) (by omega), ?_⟩
              rw [if_neg (b0_f g4)]
              refine ⟨_, u4, ?_⟩
              rw [if_pos (by rfl), eV_at, u2]
            · apply sg_286
              refine ⟨_, _, _, m_179 hIU.1 hIU.2.1.1 ha, ?_⟩
              rw [if_neg (b0_f (by rw [e1]; exact g1))]
              refine ⟨_, _, _, k_182 hb, ?_⟩
              rw [if_neg (b0_f g2), eV_at, e2]
              refine ⟨_, _, _, k_177 (a := 0) (b := V 1 1) hc (by omega) (by omega), ?_⟩
              rw [if_neg (b0_f g3)]
              refine ⟨_, _, _, k_177 (a := 0) (b := 1) he (by omega) (by omega), ?_⟩
              rw [if_neg (b0_f g4)]
              refine ⟨_, _, _, w3, ?_⟩
              rw [if_pos (by rfl)]
          · refine ⟨m.2, U, W, J2, ?_, ?_, h0.q qW⟩
            · apply sg_151
              refine ⟨_, _, k_44 hR ha, ?_⟩
              rw [if_neg (b0_f g1)]
              refine ⟨_, _, k_166 hb, ?_⟩
              rw [if_neg (b0_f g2)]
              refine ⟨_, _, k_164 (a := 0) (b := V 1 1) hc (by omega) (by omega), ?_⟩
              rw [if_neg (b0_f g3)]
              refine ⟨_, _, k_164 (a := 0) (b := 1) he (by omega) (by omega), ?_⟩
              rw [if_neg (b0_f g4)]
              refine ⟨_, u4, ?_⟩
              simp (disch := omega) only [u3, eV_at, eV_up, o_lit2, o_add, o_sub, o_mul, o_neg, o_div, o_nat, ix_t, o_lt, o_le, o_eq, o_bi0, o_bi1, o_bib, em_t, o_neg1, o_shl, o_tb, o_tb0, o_tt, o_and, o_xor, o_or, o_max, o_min, an_tb, and_true, true_and, not_true, not_false, if_true, if_false, tn_add, tn_mul, Int.reduceToNat, tn_cast, md_x]
              rw [if_neg c0] <;> first | rfl | trivial
            · apply sg_286
              refine ⟨_, _, _, m_179 hIU.1 hIU.2.1.1 ha, ?_⟩
              rw [if_neg (b0_f (by rw [e1]; exact g1))]
              refine ⟨_, _, _, k_182 hb, ?_⟩
              rw [if_neg (b0_f g2), eV_at, e2]
              refine ⟨_, _, _, k_177 (a := 0) (b := V 1 1) hc (by omega) (by omega), ?_⟩
              rw [if_neg (b0_f g3)]
              refine ⟨_, _, _, k_177 (a := 0) (b := 1) he (by omega) (by omega), ?_⟩
              rw [if_neg (b0_f g4)]
              refine ⟨_, _, _, w3, ?_⟩
              simp (disch := omega) only [w2, eV_at, eV_up, o_lit2, o_add, o_sub, o_mul, o_neg, o_div, o_nat, ix_t, o_lt, o_le, o_eq, o_bi0, o_bi1, o_bib, em_t, o_neg1, o_shl, o_tb, o_tb0, o_tt, o_and, o_xor, o_or, o_max, o_min, an_tb, and_true, true_and, not_true, not_false, if_true, if_false, tn_add, tn_mul, Int.reduceToNat, tn_cast, md_x]
              rw [if_neg c0] <;> first | rfl | trivial
        · refine ⟨-1, V, V, J, ?_, ?_, h0⟩
          · apply sg_151
            refine ⟨_, _, k_44 hR ha, ?_⟩
            rw [if_neg (b0_f g1)]
            refine ⟨_, _, k_166 hb, ?_⟩
            rw [if_neg (b0_f g2)]
            refine ⟨_, _, k_164 (a := 0) (b := V 1 1) hc (by omega) (by omega), ?_⟩
            rw [if_neg (b0_f g3)]
            refine ⟨_, _, k_164 (a := 0) (b := 1) he (by omega) (by omega), ?_⟩
            rw [if_pos (b0_t g4)]; rfl
          · apply sg_286
            refine ⟨_, _, _, m_179 hR hA ha, ?_⟩
            rw [if_neg (b0_f g1)]
            refine ⟨_, _, _, k_182 hb, ?_⟩
            rw [if_neg (b0_f g2), eV_at, e942]
            refine ⟨_, _, _, k_177 (a := 0) (b := V 1 1) hc (by omega) (by omega), ?_⟩
            rw [if_neg (b0_f g3)]
            refine ⟨_, _, _, k_177 (a := 0) (b := 1) he (by omega) (by omega), ?_⟩
            rw [if_pos (b0_t g4)]; rfl
      · refine ⟨-1, V, V, J, ?_, ?_, h0⟩
        · apply sg_151
          refine ⟨_, _, k_44 hR ha, ?_⟩
          rw [if_neg (b0_f g1)]
          refine ⟨_, _, k_166 hb, ?_⟩
          rw [if_neg (b0_f g2)]
          refine ⟨_, _, k_164 (a := 0) (b := V 1 1) hc (by omega) (by omega), ?_⟩
          rw [if_pos (b0_t g3)]; rfl
        · apply sg_286
          refine ⟨_, _, _, m_179 hR hA ha, ?_⟩
          rw [if_neg (b0_f g1)]
          refine ⟨_, _, _, k_182 hb, ?_⟩
          rw [if_neg (b0_f g2), eV_at, e942]
          refine ⟨_, _, _, k_177 (a := 0) (b := V 1 1) hc (by omega) (by omega), ?_⟩
          rw [if_pos (b0_t g3)]; rfl
    · refine ⟨-1, V, V, J, ?_, ?_, h0⟩
      · apply sg_151
        refine ⟨_, _, k_44 hR ha, ?_⟩
        rw [if_neg (b0_f g1)]
        refine ⟨_, _, k_166 hb, ?_⟩
        rw [if_pos (b0_t g2)]; rfl
      · apply sg_286
        refine ⟨_, _, _, m_179 hR hA ha, ?_⟩
        rw [if_neg (b0_f g1)]
        refine ⟨_, _, _, k_182 hb, ?_⟩
        rw [if_pos (b0_t g2)]; rfl
  · refine ⟨-1, V, V, J, ?_, ?_, h0⟩
    · apply sg_151
      refine ⟨_, _, k_44 hR ha, ?_⟩
      rw [if_pos (b0_t g1)]; rfl
    · apply sg_286
      refine ⟨_, _, _, m_179 hR hA ha, ?_⟩
      rw [if_pos (b0_t g1)]; rfl
theorem pk_rgM {f : Nat → Int} {s : Nat} {m : Int} (hm : 0 ≤ m) (h : ∀ t, -1 ≤ f t ∧ f t ≤ m) : ∀ n, (-1 ≤ (pk f s n).1 ∧ (pk f s n).1 < n) ∧ -1 ≤ (pk f s n).2 ∧ (pk f s n).2 ≤ m
  | 0 => by simp [pk]; omega
  | n + 1 => by
    have ih := @pk_rgM f s m hm h n
    have := h n
    rw [pk_s]
    split
    · split
      · dsimp only; omega
      · omega
    · omega
def bsv (B : Nat → Nat → Int) (st k dr : Nat) : Int := (wrs B dr st k).1
theorem bsv_rg {B : Nat → Nat → Int} (hI : INV B) {st k : Nat} (hst : st < 6) (dr : Nat) : -1 ≤ bsv B st k dr ∧ bsv B st k dr ≤ 1000000 := by
  have := wst_rg (v := wvl B dr st) (k := k) (wvl_rg hI dr hst) (2 ^ (B 1 1).toNat)
  unfold bsv wrs; omega
theorem c_best {L : Nat} {xs : Nat → Int32} {V : Nat → Nat → Int} {J : Nat → Nat → Int64} {tg : Option Nat} (h : INV V) {a b c : Int} (ha : (-2147483648 ≤ a ∧ a < 2147483648)) (hb : (-2147483648 ≤ b ∧ b < 2147483648)) (hc : (-2147483648 ≤ c ∧ c < 2147483648)) : ∃ (v : Int) (U W : Nat → Nat → Int) (J1 : Nat → Nat → Int64), Runs (GW L xs) 40 152 (0, [.ref 0, (Value.int (Int32.ofInt (a))), (Value.int (Int32.ofInt (b))), (Value.int (Int32.ofInt (c))), vU, vU, vU], [], zS (eV V) J tg) (some (Value.int (Int32.ofInt v)), zS (eV U) J tg) ∧ Runs (GW L xs) 40 287 (0, [.ref 93, (Value.int (Int32.ofInt (a))), (Value.int (Int32.ofInt (b))), (Value.int (Int32.ofInt (c))), vU, vU, vU, vU], [], zS (eV U) J tg) (some (Value.int (Int32.ofInt v)), zS (eV W) J1 tg) ∧ INV W := by
  have h0 := h
  obtain ⟨hR, ⟨hA, hB, hC, hD, hE, hF, hH⟩, h2, h3, h4, h5⟩ := h
  have rD : 0 ≤ V 1 0 ∧ V 1 0 ≤ 12 := hR 1 0 (by decide) (by decide)
  have rT : 0 ≤ V 1 1 ∧ V 1 1 ≤ 12 := hR 1 1 (by decide) (by decide)
  have e942 : V 94 2 = V 1 1 := hA.2.1
  have h4096 : (2 ^ (V 1 0).toNat : Nat) ≤ 4096 := p2_12 (by omega)
  by_cases g1 : 0 ≤ a ∧ a < (2 ^ (V 1 0).toNat : Nat)
  · by_cases g2 : 0 ≤ b ∧ b ≤ 5
    · by_cases g3 : 0 ≤ c ∧ c ≤ V 1 1
      · obtain ⟨s, rfl⟩ : ∃ n : Nat, a = n := ⟨a.toNat, by omega⟩
        obtain ⟨st, rfl⟩ : ∃ n : Nat, b = n := ⟨b.toNat, by omega⟩
        obtain ⟨k, rfl⟩ : ∃ n : Nat, c = n := ⟨c.toNat, by omega⟩
        obtain ⟨D, hD'⟩ : ∃ D : Nat, V 1 0 = D := ⟨(V 1 0).toNat, by omega⟩
        have hsD : s < 2 ^ D := by rw [hD', tn_cast] at g1; omega
        have hs : s < 4096 := by omega
        have hpr := pk_rgM (f := bsv V st k) (s := s) (m := 1000000) (by omega) (bsv_rg h0 (by omega))
        -- the class
        obtain ⟨U, ⟨qU, u1⟩, hrU⟩ := loopN (g := GW L xs) (d := 40) (mid := 152) (σ := Nat → Nat → Int) (fun i W => (44, [.ref 0, (Value.int (Int32.ofInt (s))), (Value.int (Int32.ofInt (st))), (Value.int (Int32.ofInt (k))), (Value.int (Int32.ofInt ((pk (bsv V st k) s i).1))), (Value.int (Int32.ofInt ((pk (bsv V st k) s i).2))), (Value.int (Int32.ofInt (i)))], [], zS (eV W) J tg)) (fun i W => Qy V W ∧ ∀ c, 93 ≤ c → W c = V c) D (by
          intro i W hi ⟨i1, i2⟩
          have e1 : W 1 0 = D := by rw [i1.1 1 (by omega)]; exact hD'
          have hps := pk_s (f := bsv V st k) (s := s) (t := i)
          have hpi := hpr i
          have hbi := bsv_rg h0 (st := st) (k := k) (by omega) i
          cases q : s.testBit i
          · rw [q, if_neg (by decide)] at hps
            rw [hps]
            refine ⟨W, ⟨i1, i2⟩, fun r hr => ?_⟩
            apply sg_152_44
            simp (disch := omega) only [e1, eV_at, eV_up, o_lit2, o_add, o_sub, o_mul, o_neg, o_div, o_nat, ix_t, o_lt, o_le, o_eq, o_bi0, o_bi1, o_bib, em_t, o_neg1, o_shl, o_tb, o_tb0, o_tt, o_and, o_xor, o_or, o_max, o_min, an_tb, and_true, true_and, not_true, not_false, if_true, if_false, tn_add, tn_mul, Int.reduceToNat, tn_cast, md_x]
            rw [if_neg (by omega), if_pos q]
            exact hr
          · rw [q, if_pos rfl] at hps
            obtain ⟨X, qX, x1, x2, x3, x4⟩ := k_107 (L := L) (xs := xs) (J := J) (tg := tg) (d := 34) h0 i1 (dr := i) (st := st) (k := k) (by omega) (by omega) (by omega)
            have x2 : X 75 11 = bsv V st k i := x2
            generalize pk (bsv V st k) s i = p at hps hpi ⊢
            generalize bsv V st k i = v at hps hbi x2
            by_cases c1 : p.1 = -1
            · rw [if_pos (Or.inl c1)] at hps
              rw [hps]
              refine ⟨X, ⟨qX, fun c hc => by rw [x1 c hc]; exact i2 c hc⟩, fun r hr => ?_⟩
              apply sg_152_44
              simp (disch := omega) only [e1, eV_at, eV_up, o_lit2, o_add, o_sub, o_mul, o_neg, o_div, o_nat, ix_t, o_lt, o_le, o_eq, o_bi0, o_bi1, o_bib, em_t, o_neg1, o_shl, o_tb, o_tb0, o_tt, o_and, o_xor, o_or, o_max, o_min, an_tb, and_true, true_and, not_true, not_false, if_true, if_false, tn_add, tn_mul, Int.reduceToNat, tn_cast, md_x]
              rw [if_neg (by omega), if_neg (by rw [q]; decide)]
              refine ⟨_, x4, ?_⟩
              rw [if_pos c1, eV_at, x2]
              exact hr
            · by_cases c2 : v < p.2
              · rw [if_pos (Or.inr c2)] at hps
                rw [hps]
                refine ⟨X, ⟨qX, fun c hc => by rw [x1 c hc]; exact i2 c hc⟩, fun r hr => ?_⟩
                apply sg_152_44
                simp (disch := omega) only [e1, eV_at, eV_up, o_lit2, o_add, o_sub, o_mul, o_neg, o_div, o_nat, ix_t, o_lt, o_le, o_eq, o_bi0, o_bi1, o_bib, em_t, o_neg1, o_shl, o_tb, o_tb0, o_tt, o_and, o_xor, o_or, o_max, o_min, an_tb, and_true, true_and, not_true, not_false, if_true, if_false, tn_add, tn_mul, Int.reduceToNat, tn_cast, md_x]
                rw [if_neg (by omega), if_neg (by rw [q]; decide)]
                refine ⟨_, x4, ?_⟩
                rw [if_neg c1]
                simp (disch := omega) only [x2, eV_at, eV_up, o_lit2, o_add, o_sub, o_mul, o_neg, o_div, o_nat, ix_t, o_lt, o_le, o_eq, o_bi0, o_bi1, o_bib, em_t, o_neg1, o_shl, o_tb, o_tb0, o_tt, o_and, o_xor, o_or, o_max, o_min, an_tb, and_true, true_and, not_true, not_false, if_true, if_false, tn_add, tn_mul, Int.reduceToNat, tn_cast, md_x]
                rw [if_neg (by omega)]
                exact hr
              · rw [if_neg (fun h => h.elim c1 c2)] at hps
                rw [hps]
                refine ⟨X, ⟨qX, fun c hc => by rw [x1 c hc]; exact i2 c hc⟩, fun r hr => ?_⟩
                apply sg_152_44
                simp (disch := omega) only [e1, eV_at, eV_up, o_lit2, o_add, o_sub, o_mul, o_neg, o_div, o_nat, ix_t, o_lt, o_le, o_eq, o_bi0, o_bi1, o_bib, em_t, o_neg1, o_shl, o_tb, o_tb0, o_tt, o_and, o_xor, o_or, o_max, o_min, an_tb, and_true, true_and, not_true, not_false, if_true, if_false, tn_add, tn_mul, Int.reduceToNat, tn_cast, md_x]
                rw [if_neg (by omega), if_neg (by rw [q]; decide)]
                refine ⟨_, x4, ?_⟩
                rw [if_neg c1]
                simp (disch := omega) only [x2, eV_at, eV_up, o_lit2, o_add, o_sub, o_mul, o_neg, o_div, o_nat, ix_t, o_lt, o_le, o_eq, o_bi0, o_bi1, o_bib, em_t, o_neg1, o_shl, o_tb, o_tb0, o_tt, o_and, o_xor, o_or, o_max, o_min, an_tb, and_true, true_and, not_true, not_false, if_true, if_false, tn_add, tn_mul, Int.reduceToNat, tn_cast, md_x]
                rw [if_pos (by omega)]
                exact hr) D 0 V (by omega) ⟨Qy.rf h3, fun _ _ => rfl⟩
        -- the reference
        obtain ⟨⟨W, J2⟩, qW, hrW⟩ := loopN (g := GW L xs) (d := 40) (mid := 287) (σ := (Nat → Nat → Int) × (Nat → Nat → Int64)) (fun i σ => (40, [.ref 93, (Value.int (Int32.ofInt (s))), (Value.int (Int32.ofInt (st))), (Value.int (Int32.ofInt (k))), (Value.int (Int32.ofInt ((pk (bsv V st k) s i).1))), (Value.int (Int32.ofInt ((pk (bsv V st k) s i).2))), (Value.int (Int32.ofInt (i))), vU], [], zS (eV σ.1) σ.2 tg)) (fun i σ => Qy V σ.1) 12 (by
          intro i ⟨W, J⟩ hi i1
          dsimp only at i1 ⊢
          have hps := pk_s (f := bsv V st k) (s := s) (t := i)
          have hpi := hpr i
          have hbi := bsv_rg h0 (st := st) (k := k) (by omega) i
          cases q : s.testBit i
          · rw [q, if_neg (by decide)] at hps
            rw [hps]
            refine ⟨(W, J), i1, fun r hr => ?_⟩
            apply sg_287_40
            simp (disch := omega) only [eV_at, eV_up, o_lit2, o_add, o_sub, o_mul, o_neg, o_div, o_nat, ix_t, o_lt, o_le, o_eq, o_bi0, o_bi1, o_bib, em_t, o_neg1, o_shl, o_tb, o_tb0, o_tt, o_and, o_xor, o_or, o_max, o_min, an_tb, and_true, true_and, not_true, not_false, if_true, if_false, tn_add, tn_mul, Int.reduceToNat, tn_cast, md_x]
            rw [if_neg (by omega), if_pos q]
            exact hr
          · rw [q, if_pos rfl] at hps
            have hiD : i < D := Nat.lt_of_not_le fun hle => by rw [tb_hi hsD hle] at q; exact Bool.noConfusion q
            obtain ⟨X, J2, qX, x1, x2, x4⟩ := m_285 (L := L) (xs := xs) (J := J) (tg := tg) (d := 33) h0 i1 (dr := i) (st := st) (k := k) (by omega) (by omega) (by omega)
            have x4 : Runs (GW L xs) (39) 285 (0, [.ref 93, (Value.int (Int32.ofInt (i))), (Value.int (Int32.ofInt (st))), (Value.int (Int32.ofInt (k))), vU, vU, vU, vU], [], zS (eV (W)) (J) tg) (some (Value.int (Int32.ofInt (bsv V st k i))), zS (eV (X)) (J2) tg) := x4
            generalize pk (bsv V st k) s i = p at hps hpi ⊢
            generalize bsv V st k i = v at hps hbi x4
            by_cases c1 : p.1 = -1
            · rw [if_pos (Or.inl c1)] at hps
              rw [hps]
              refine ⟨(X, J2), qX, fun r hr => ?_⟩
              apply sg_287_40
              simp (disch := omega) only [eV_at, eV_up, o_lit2, o_add, o_sub, o_mul, o_neg, o_div, o_nat, ix_t, o_lt, o_le, o_eq, o_bi0, o_bi1, o_bib, em_t, o_neg1, o_shl, o_tb, o_tb0, o_tt, o_and, o_xor, o_or, o_max, o_min, an_tb, and_true, true_and, not_true, not_false, if_true, if_false, tn_add, tn_mul, Int.reduceToNat, tn_cast, md_x]
              rw [if_neg (by omega), if_neg (by rw [q]; decide)]
              refine ⟨_, _, _, x4, ?_⟩
              rw [if_pos (by omega)]
              exact hr
            · by_cases c2 : v < p.2
              · rw [if_pos (Or.inr c2)] at hps
                rw [hps]
                refine ⟨(X, J2), qX, fun r hr => ?_⟩
                apply sg_287_40
                simp (disch := omega) only [eV_at, eV_up, o_lit2, o_add, o_sub, o_mul, o_neg, o_div, o_nat, ix_t, o_lt, o_le, o_eq, o_bi0, o_bi1, o_bib, em_t, o_neg1, o_shl, o_tb, o_tb0, o_tt, o_and, o_xor, o_or, o_max, o_min, an_tb, and_true, true_and, not_true, not_false, if_true, if_false, tn_add, tn_mul, Int.reduceToNat, tn_cast, md_x]
                rw [if_neg (by omega), if_neg (by rw [q]; decide)]
                refine ⟨_, _, _, x4, ?_⟩
                rw [if_neg (by omega)]
                simp (disch := omega) only [eV_at, eV_up, o_lit2, o_add, o_sub, o_mul, o_neg, o_div, o_nat, ix_t, o_lt, o_le, o_eq, o_bi0, o_bi1, o_bib, em_t, o_neg1, o_shl, o_tb, o_tb0, o_tt, o_and, o_xor, o_or, o_max, o_min, an_tb, and_true, true_and, not_true, not_false, if_true, if_false, tn_add, tn_mul, Int.reduceToNat, tn_cast, md_x]
                rw [if_pos (by omega)]
                exact hr
              · rw [if_neg (fun h => h.elim c1 c2)] at hps
                rw [hps]
                refine ⟨(X, J2), qX, fun r hr => ?_⟩
                apply sg_287_40
                simp (disch := omega) only [eV_at, eV_up, o_lit2, o_add, o_sub, o_mul, o_neg, o_div, o_nat, ix_t, o_lt, o_le, o_eq, o_bi0, o_bi1, o_bib, em_t, o_neg1, o_shl, o_tb, o_tb0, o_tt, o_and, o_xor, o_or, o_max, o_min, an_tb, and_true, true_and, not_true, not_false, if_true, if_false, tn_add, tn_mul, Int.reduceToNat, tn_cast, md_x]
                rw [if_neg (by omega), if_neg (by rw [q]; decide)]
                refine ⟨_, _, _, x4, ?_⟩
                rw [if_neg (by omega)]
                simp (disch := omega) only [eV_at, eV_up, o_lit2, o_add, o_sub, o_mul, o_neg, o_div, o_nat, ix_t, o_lt, o_le, o_eq, o_bi0, o_bi1, o_bib, em_t, o_neg1, o_shl, o_tb, o_tb0, o_tt, o_and, o_xor, o_or, o_max, o_min, an_tb, and_true, true_and, not_true, not_false, if_true, if_false, tn_add, tn_mul, Int.reduceToNat, tn_cast, md_x]
                rw [if_neg (by omega)]
                exact hr) 12 0 (U, J) (by omega) qU
        dsimp only at qW hrW
        have hIU := h0.q qU
        have e1 : U 1 = V 1 := qU.1 1 (by omega)
        have e2 : U 94 2 = V 1 1 := by rw [hIU.2.1.1.2.1, e1]
        have ep : pk (bsv V st k) s 12 = pk (bsv V st k) s D := by rw [show 12 = D + (12 - D) by omega, pk_ext hsD]
        have hpD := hpr D
        by_cases z : s = 0
        · subst z
          have ez : ∀ n, pk (bsv V st k) 0 n = (-1, 0) := fun n => by
            induction n with
            | zero => rfl
            | succ n ih => rw [pk_s, Nat.zero_testBit, if_neg (by decide), ih]
          refine ⟨-1, U, U, J, ?_, ?_, hIU⟩
          · apply sg_152
            refine ⟨_, _, k_47 hR ha, ?_⟩
            rw [if_neg (b0_f g1)]
            refine ⟨_, _, k_166 hb, ?_⟩
            rw [if_neg (b0_f g2)]
            refine ⟨_, _, k_164 (a := 0) (b := V 1 1) hc (by omega) (by omega), ?_⟩
            rw [if_neg (b0_f g3)]
            refine hrU _ ?_
            apply sg_152_44
            have e10 : U 1 0 = D := by rw [e1]; exact hD'
            simp (disch := omega) only [e10, ez, eV_at, eV_up, o_lit2, o_add, o_sub, o_mul, o_neg, o_div, o_nat, ix_t, o_lt, o_le, o_eq, o_bi0, o_bi1, o_bib, em_t, o_neg1, o_shl, o_tb, o_tb0, o_tt, o_and, o_xor, o_or, o_max, o_min, an_tb, and_true, true_and, not_true, not_false, if_true, if_false, tn_add, tn_mul, Int.reduceToNat, tn_cast, md_x]
            rw [if_pos (by omega)] <;> first | rfl | trivial
          · apply sg_287
            refine ⟨_, _, _, m_260 hIU.1 hIU.2.1.1 ha, ?_⟩
            rw [if_pos (b0_t (by omega))]; rfl
        · refine ⟨(pk (bsv V st k) s D).1, U, W, J2, ?_, ?_, h0.q qW⟩
          · apply sg_152
            refine ⟨_, _, k_47 hR ha, ?_⟩
            rw [if_neg (b0_f g1)]
            refine ⟨_, _, k_166 hb, ?_⟩
            rw [if_neg (b0_f g2)]
            refine ⟨_, _, k_164 (a := 0) (b := V 1 1) hc (by omega) (by omega), ?_⟩
            rw [if_neg (b0_f g3)]
            refine hrU _ ?_
            apply sg_152_44
            have e10 : U 1 0 = D := by rw [e1]; exact hD'
            simp (disch := omega) only [e10, eV_at, eV_up, o_lit2, o_add, o_sub, o_mul, o_neg, o_div, o_nat, ix_t, o_lt, o_le, o_eq, o_bi0, o_bi1, o_bib, em_t, o_neg1, o_shl, o_tb, o_tb0, o_tt, o_and, o_xor, o_or, o_max, o_min, an_tb, and_true, true_and, not_true, not_false, if_true, if_false, tn_add, tn_mul, Int.reduceToNat, tn_cast, md_x]
            rw [if_pos (by omega)] <;> first | rfl | trivial
          · apply sg_287
            refine ⟨_, _, _, m_260 hIU.1 hIU.2.1.1 ha, ?_⟩
            rw [if_neg (b0_f (by rw [e1]; omega))]
            refine ⟨_, _, _, k_182 hb, ?_⟩
            rw [if_neg (b0_f g2), eV_at, e2]
            refine ⟨_, _, _, k_177 (a := 0) (b := V 1 1) hc (by omega) (by omega), ?_⟩
            rw [if_neg (b0_f g3)]
            refine hrW _ ?_
            apply sg_287_40
            simp (disch := omega) only [ep, eV_at, eV_up, o_lit2, o_add, o_sub, o_mul, o_neg, o_div, o_nat, ix_t, o_lt, o_le, o_eq, o_bi0, o_bi1, o_bib, em_t, o_neg1, o_shl, o_tb, o_tb0, o_tt, o_and, o_xor, o_or, o_max, o_min, an_tb, and_true, true_and, not_true, not_false, if_true, if_false, tn_add, tn_mul, Int.reduceToNat, tn_cast, md_x]
            rw [if_pos (by omega)] <;> first | rfl | trivial
      · refine ⟨-1, V, V, J, ?_, ?_, h0⟩
        · apply sg_152
          refine ⟨_, _, k_47 hR ha, ?_⟩
          rw [if_neg (b0_f g1)]
          refine ⟨_, _, k_166 hb, ?_⟩
          rw [if_neg (b0_f g2)]
          refine ⟨_, _, k_164 (a := 0) (b := V 1 1) hc (by omega) (by omega), ?_⟩
          rw [if_pos (b0_t g3)]; rfl
        · apply sg_287
          refine ⟨_, _, _, m_260 hR hA ha, ?_⟩
          by_cases z : a = 0
          · rw [if_pos (b0_t (by omega))]; rfl
          · rw [if_neg (b0_f (by omega))]
            refine ⟨_, _, _, k_182 hb, ?_⟩
            rw [if_neg (b0_f g2), eV_at, e942]
            refine ⟨_, _, _, k_177 (a := 0) (b := V 1 1) hc (by omega) (by omega), ?_⟩
            rw [if_pos (b0_t g3)]; rfl
    · refine ⟨-1, V, V, J, ?_, ?_, h0⟩
      · apply sg_152
        refine ⟨_, _, k_47 hR ha, ?_⟩
        rw [if_neg (b0_f g1)]
        refine ⟨_, _, k_166 hb, ?_⟩
        rw [if_pos (b0_t g2)]; rfl
      · apply sg_287
        refine ⟨_, _, _, m_260 hR hA ha, ?_⟩
        by_cases z : a = 0
        · rw [if_pos (b0_t (by omega))]; rfl
        · rw [if_neg (b0_f (by omega))]
          refine ⟨_, _, _, k_182 hb, ?_⟩
          rw [if_pos (b0_t g2)]; rfl
  · refine ⟨-1, V, V, J, ?_, ?_, h0⟩
    · apply sg_152
      refine ⟨_, _, k_47 hR ha, ?_⟩
      rw [if_pos (b0_t g1)]; rfl
    · apply sg_287
      refine ⟨_, _, _, m_260 hR hA ha, ?_⟩
      rw [if_pos (b0_t (by omega))]; rfl
