/-! MINDS in the reference. -/
section MR
variable {L d : Nat} {xs : Nat → Int32} {B V : Nat → Nat → Int} {J : Nat → Nat → Int64} {tg : Option Nat}
def NF (V W : Nat → Nat → Int) : Prop := ∀ c, ¬ (97 ≤ c ∧ c ≤ 99) → c ≠ 112 → c ≠ 113 → W c = V c
theorem NF.rf : NF V V := fun _ _ _ _ => rfl
theorem NF.tr {U W : Nat → Nat → Int} (h : NF U V) (k : NF V W) : NF U W := fun c q1 q2 q3 => (k c q1 q2 q3).trans (h c q1 q2 q3)
theorem NF.u {W : Nat → Nat → Int} (h : NF V W) {c p : Nat} {z : Int} (hc : c = 112 ∨ c = 113) : NF V (up2 W c p z) := fun x q1 q2 q3 => by rw [w_ne _ _ _ _ (by omega)]; exact h x q1 q2 q3
theorem Qy.nf {W : Nat → Nat → Int} (q : Qy B V) (f : NF V W) : Qy B W := ⟨fun c h => by rw [f c (by omega) (by omega) (by omega)]; exact q.1 c h, fun p h => by rw [f 94 (by omega) (by omega) (by omega)]; exact q.2.1 p h, fun p h => by rw [f 93 (by omega) (by omega) (by omega)]; exact q.2.2.1 p h, q.2.2.2.up (f 1 (by omega) (by omega) (by omega)) (f 2 (by omega) (by omega) (by omega)) (f 3 (by omega) (by omega) (by omega)) (f 4 (by omega) (by omega) (by omega)) (f 71 (by omega) (by omega) (by omega)) (f 81 (by omega) (by omega) (by omega))⟩
theorem mz_inj {a b : Int} (ha : -1 ≤ a ∧ a ≤ 11) (hb : -1 ≤ b ∧ b ≤ 11) : mz a = mz b ↔ a = b := by
  obtain ⟨a1, a2, a3, a4⟩ := mz_rg ha
  obtain ⟨b1, b2, b3, b4⟩ := mz_rg hb
  omega
theorem m_told (hI : INV B) (q : Qy B V) {T : Nat} (hT : B 1 1 = T) : Runs (GW L xs) (d) 199 (0, [.ref 93], [], zS (eV (V)) J tg) (some (Value.int (Int32.ofInt (((2 ^ T : Nat) : Int) - 1))), zS (eV (V)) J tg) := by
  have hV := hI.q q
  have k48 := m_199 (L := L) (xs := xs) (J := J) (tg := tg) (d := d) hV.1 hV.2.1.1
  have e11 : V 1 1 = T := by rw [q.1 1 (by omega)]; exact hT
  rw [e11, tn_cast, cast_pred (Nat.pow_pos (by omega))] at k48
  exact k48
/-- findMinds -/
theorem m_290 (hI : INV B) (q : Qy B V) {T : Nat} {ld day : Int} (hT : B 1 1 = T) (hld : 0 ≤ ld ∧ ld ≤ 5) (hday : 0 ≤ day ∧ day ≤ 999) : ∃ W, NF V W ∧ (∀ s, s < 2 ^ T → W 112 s = bi (mndB B ld day s (B 7 5).toNat = true)) ∧ Runs (GW L xs) (d + 5) 290 (0, [.ref 93, (Value.int (Int32.ofInt (ld))), (Value.int (Int32.ofInt (day))), vU, vU, vU], [], zS (eV (V)) J tg) (none, zS (eV (W)) J tg) := by
  have rT : 0 ≤ B 1 1 ∧ B 1 1 ≤ 12 := hI.1 1 1 (by decide) (by decide)
  have rA : 0 ≤ B 7 5 ∧ B 7 5 ≤ 60 := hI.1 7 5 (by decide) (by decide)
  obtain ⟨A, hA⟩ : ∃ A : Nat, B 7 5 = A := ⟨(B 7 5).toNat, by omega⟩
  have hpos := Nat.pow_pos (a := 2) (n := T) (by omega)
  have h2T : 2 ^ T ≤ 4096 := p2_12 (by omega)
  rw [hA, tn_cast]
  obtain ⟨U, ⟨u1, u2⟩, hrU⟩ := loopN (g := GW L xs) (d := d + 5) (mid := 290) (σ := Nat → Nat → Int) (fun s W => (2, [.ref 93, (Value.int (Int32.ofInt (ld))), (Value.int (Int32.ofInt (day))), (Value.int (Int32.ofInt (s))), vU, vU], [], zS (eV W) J tg)) (fun s W => NF V W ∧ ∀ j, j < s → W 112 j = 1) (2 ^ T) (by
    intro s W hs ⟨i1, i2⟩
    have kt := m_told (L := L) (xs := xs) (J := J) (tg := tg) (d := d + 4) hI (q.nf i1) hT
    refine ⟨up2 W 112 s 1, ⟨i1.u (by omega), fun j hj => ?_⟩, fun r hr => ?_⟩
    · rw [w_at]
      split
      · rfl
      · exact i2 j (by omega)
    · apply sg_290_2
      refine ⟨_, _, _, kt, ?_⟩
      simp (disch := omega) only [or_true, true_or, eV_at, eV_up, o_lit2, o_add, o_sub, o_mul, o_neg, o_div, o_nat, ix_t, o_lt, o_le, o_eq, o_bi0, o_bi1, o_bib, em_t, o_neg1, o_shl, o_tb, o_tb0, o_tt, o_and, o_xor, o_or, o_max, o_min, an_tb, and_true, true_and, not_true, not_false, if_true, if_false, tn_add, tn_mul, Int.reduceToNat, tn_cast, md_x]
      rw [if_neg (by omega)]
      first | exact hr | exact ⟨Or.inr rfl, hr⟩ | exact ⟨Or.inr trivial, hr⟩) (2 ^ T) 0 V (by omega) ⟨NF.rf, fun j h => by omega⟩
  obtain ⟨W, ⟨i1, i2⟩, hr⟩ := loopN (g := GW L xs) (d := d + 5) (mid := 290) (σ := Nat → Nat → Int) (fun k W => (25, [.ref 93, (Value.int (Int32.ofInt (ld))), (Value.int (Int32.ofInt (day))), (Value.int (Int32.ofInt (k))), vU, vU], [], zS (eV W) J tg)) (fun k W => NF V W ∧ ∀ s, s < 2 ^ T → W 112 s = bi (mndB B ld day s k = true)) A (by
    intro k W hk ⟨i1, i2⟩
    have qW := q.nf i1
    have hIW := hI.q qW
    have r13 : 0 ≤ B 13 k ∧ B 13 k ≤ 5 := hI.1 13 k (by decide) (by decide)
    have r14 : 0 ≤ B 14 k ∧ B 14 k ≤ 5 := hI.1 14 k (by decide) (by decide)
    have r15 : 0 ≤ B 15 k ∧ B 15 k ≤ 11 := hI.1 15 k (by decide) (by decide)
    have r16 : -1 ≤ B 16 k ∧ B 16 k ≤ 11 := hI.1 16 k (by decide) (by decide)
    have r17 : 0 ≤ B 17 k ∧ B 17 k ≤ 999 := hI.1 17 k (by decide) (by decide)
    have cells : ∀ X : Nat → Nat → Int, Qy B X → X 94 7 = A ∧ X 94 (890 + 5 * k) = B 13 k ∧ X 94 (890 + 5 * k + 1) = B 14 k ∧ X 94 (890 + 5 * k + 2) = B 15 k ∧ X 94 (890 + 5 * k + 3) = mz (B 16 k) ∧ X 94 (890 + 5 * k + 4) = B 17 k := fun X qX => by
      have hIX := hI.q qX
      have h7 : X 94 7 = X 7 5 := hIX.2.1.2.2.2.2.1.1.2.2.2.2.2
      have hk' : (k : Int) < X 7 5 := by rw [qX.1 7 (by omega)]; omega
      obtain ⟨⟨b1, b2, b3, b4, b5⟩, -, -⟩ := hIX.2.1.2.2.2.2.2.1 k hk'
      refine ⟨by rw [h7, qX.1 7 (by omega)]; exact hA, ?_, ?_, ?_, ?_, ?_⟩
      · rw [b1]; exact congrFun (qX.1 13 (by omega)) k
      · rw [b2]; exact congrFun (qX.1 14 (by omega)) k
      · rw [b3]; exact congrFun (qX.1 15 (by omega)) k
      · rw [b4]; exact congrArg mz (congrFun (qX.1 16 (by omega)) k)
      · rw [b5]; exact congrFun (qX.1 17 (by omega)) k
    obtain ⟨g0, g1, g2, g3, g4, g5⟩ := cells W qW
    have x0 : (890 : Int) + 5 * (k : Int) = ((890 + 5 * k : Nat) : Int) := by omega
    have x1 : ((890 + 5 * k : Nat) : Int) + 1 = ((890 + 5 * k + 1 : Nat) : Int) := by omega
    have x2 : ((890 + 5 * k : Nat) : Int) + 2 = ((890 + 5 * k + 2 : Nat) : Int) := by omega
    have x3 : ((890 + 5 * k : Nat) : Int) + 3 = ((890 + 5 * k + 3 : Nat) : Int) := by omega
    have x4 : ((890 + 5 * k : Nat) : Int) + 4 = ((890 + 5 * k + 4 : Nat) : Int) := by omega
    have hs : ∀ s, mndB B ld day s (k + 1) = (mndB B ld day s k && (!(decide (B 13 k = ld) && decide (B 17 k ≤ day)) || decide (tk (B 7 0) (scr B (B 15 k).toNat (B 14 k).toNat) s 12 = B 16 k))) := fun s => rfl
    by_cases c1 : B 13 k = ld
    · by_cases c2 : B 17 k ≤ day
      · obtain ⟨dr, hdr⟩ : ∃ n : Nat, B 15 k = n := ⟨(B 15 k).toNat, by omega⟩
        obtain ⟨st, hst⟩ : ∃ n : Nat, B 14 k = n := ⟨(B 14 k).toNat, by omega⟩
        have hdl : (dr : Int) < B 1 0 := by
          have := (hI.2.1.2.2.2.2.2.1 k (by show (k : Int) < B 7 5; omega)).2.1
          have this : B 15 k < B 1 0 := this
          omega
        obtain ⟨X, y1, y2, y3⟩ := m_203g (L := L) (xs := xs) (J := J) (tg := tg) (d := d) hI qW (LKm_of hI qW hdl).1 (st := st) (by omega)
        rw [scr_p] at y2
        have hsc := scr_rg hI.1 dr st
        have fX : NF V X := i1.tr (fun c q1 _ _ => y1 c q1)
        obtain ⟨Y, ⟨z1, z2, z3⟩, hrY⟩ := loopN (g := GW L xs) (d := d + 5) (mid := 290) (σ := Nat → Nat → Int) (fun s Y => (97, [.ref 93, (Value.int (Int32.ofInt (ld))), (Value.int (Int32.ofInt (day))), (Value.int (Int32.ofInt (k))), (Value.int (Int32.ofInt ((890 + 5 * k : Nat)))), (Value.int (Int32.ofInt (s)))], [], zS (eV Y) J tg)) (fun s Y => NF V Y ∧ (∀ c, c ≠ 112 → Y c = X c) ∧ ∀ j, j < 2 ^ T → Y 112 j = bi (mndB B ld day j (if j < s then k + 1 else k) = true)) (2 ^ T) (by
          intro s Y hs' ⟨z1, z2, z3⟩
          have qY := q.nf z1
          have kt := m_told (L := L) (xs := xs) (J := J) (tg := tg) (d := d + 4) hI qY hT
          have zs := z3 s hs'
          rw [if_neg (by omega)] at zs
          have hss := hs s
          rw [decide_eq_true c1, decide_eq_true c2, hdr, hst, tn_cast, tn_cast] at hss
          have keep : ∀ (v : Int), v = bi (mndB B ld day s (k + 1) = true) → ∀ j, j < 2 ^ T → (up2 Y 112 s v) 112 j = bi (mndB B ld day j (if j < s + 1 then k + 1 else k) = true) := fun v hv j hj => by
            rw [w_at]
            by_cases e : j = s
            · subst e
              rw [if_pos rfl, if_pos (by omega)]; exact hv
            · rw [if_neg e, z3 j hj]
              by_cases c : j < s
              · rw [if_pos c, if_pos (by omega)]
              · rw [if_neg c, if_neg (by omega)]
          by_cases m : mndB B ld day s k = true
          · have kk := m_204 (L := L) (xs := xs) (J := J) (tg := tg) (d := d + 4) hI qY (s := s) (sc := scr B dr st) (by rw [hT]; exact hs') hsc (fun t ht => by rw [z2 99 (by decide)]; exact y2 t ht)
            have htk := tk_rg (lim := B 7 0) (f := scr B dr st) (s := s) (n := 12) (by omega) (fun t => by have := hsc t; omega)
            obtain ⟨-, -, -, -, g4Y, -⟩ := cells Y qY
            rw [bi, if_pos m] at zs
            have hmi := mz_inj htk r16
            obtain ⟨t1, t2, -, -⟩ := mz_rg htk
            obtain ⟨t3, t4, -, -⟩ := mz_rg r16
            by_cases c3 : tk (B 7 0) (scr B dr st) s 12 = B 16 k
            · have hv : (1 : Int) = bi (mndB B ld day s (k + 1) = true) := bi_t (by rw [hss, m, decide_eq_true c3]; rfl)
              refine ⟨up2 Y 112 s 1, ⟨z1.u (by omega), fun c hc => by rw [w_ne _ _ _ _ hc]; exact z2 c hc, keep 1 hv⟩, fun r hr => ?_⟩
              apply sg_290_97
              refine ⟨_, _, _, kt, ?_⟩
              simp (disch := omega) only [zs, x3, eV_at, eV_up, o_lit2, o_add, o_sub, o_mul, o_neg, o_div, o_nat, ix_t, o_lt, o_le, o_eq, o_bi0, o_bi1, o_bib, em_t, o_neg1, o_shl, o_tb, o_tb0, o_tt, o_and, o_xor, o_or, o_max, o_min, an_tb, and_true, true_and, not_true, not_false, if_true, if_false, tn_add, tn_mul, Int.reduceToNat, tn_cast, md_x]
              rw [if_neg (by omega), if_neg (by omega)]
              refine ⟨_, _, _, kk, ?_⟩
              simp (disch := omega) only [g4Y, or_true, true_or, eV_at, eV_up, o_lit2, o_add, o_sub, o_mul, o_neg, o_div, o_nat, ix_t, o_lt, o_le, o_eq, o_bi0, o_bi1, o_bib, em_t, o_neg1, o_shl, o_tb, o_tb0, o_tt, o_and, o_xor, o_or, o_max, o_min, an_tb, and_true, true_and, not_true, not_false, if_true, if_false, tn_add, tn_mul, Int.reduceToNat, tn_cast, md_x]
              rw [if_pos (hmi.mpr c3)]
              first | exact hr | exact ⟨Or.inr rfl, hr⟩ | exact ⟨Or.inr trivial, hr⟩
            · have hv : (0 : Int) = bi (mndB B ld day s (k + 1) = true) := bi_f (by rw [hss, m, decide_eq_false c3]; decide)
              refine ⟨up2 Y 112 s 0, ⟨z1.u (by omega), fun c hc => by rw [w_ne _ _ _ _ hc]; exact z2 c hc, keep 0 hv⟩, fun r hr => ?_⟩
              apply sg_290_97
              refine ⟨_, _, _, kt, ?_⟩
              simp (disch := omega) only [zs, x3, eV_at, eV_up, o_lit2, o_add, o_sub, o_mul, o_neg, o_div, o_nat, ix_t, o_lt, o_le, o_eq, o_bi0, o_bi1, o_bib, em_t, o_neg1, o_shl, o_tb, o_tb0, o_tt, o_and, o_xor, o_or, o_max, o_min, an_tb, and_true, true_and, not_true, not_false, if_true, if_false, tn_add, tn_mul, Int.reduceToNat, tn_cast, md_x]
              rw [if_neg (by omega), if_neg (by omega)]
              refine ⟨_, _, _, kk, ?_⟩
              simp (disch := omega) only [g4Y, or_true, true_or, eV_at, eV_up, o_lit2, o_add, o_sub, o_mul, o_neg, o_div, o_nat, ix_t, o_lt, o_le, o_eq, o_bi0, o_bi1, o_bib, em_t, o_neg1, o_shl, o_tb, o_tb0, o_tt, o_and, o_xor, o_or, o_max, o_min, an_tb, and_true, true_and, not_true, not_false, if_true, if_false, tn_add, tn_mul, Int.reduceToNat, tn_cast, md_x]
              rw [if_neg (fun h => c3 (hmi.mp h))]
              first | exact hr | exact ⟨Or.inl rfl, hr⟩ | exact ⟨Or.inl trivial, hr⟩
          · have hv : (0 : Int) = bi (mndB B ld day s (k + 1) = true) := bi_f (by rw [hss]; intro h; rw [Bool.and_eq_true] at h; exact m h.1)
            rw [bi, if_neg m] at zs
            refine ⟨Y, ⟨z1, z2, fun j hj => ?_⟩, fun r hr => ?_⟩
            · by_cases e : j = s
              · subst e
                rw [if_pos (by omega), zs]; exact hv
              · rw [z3 j hj]
                by_cases c : j < s
                · rw [if_pos c, if_pos (by omega)]
                · rw [if_neg c, if_neg (by omega)]
            · apply sg_290_97
              refine ⟨_, _, _, kt, ?_⟩
              simp (disch := omega) only [zs, eV_at, eV_up, o_lit2, o_add, o_sub, o_mul, o_neg, o_div, o_nat, ix_t, o_lt, o_le, o_eq, o_bi0, o_bi1, o_bib, em_t, o_neg1, o_shl, o_tb, o_tb0, o_tt, o_and, o_xor, o_or, o_max, o_min, an_tb, and_true, true_and, not_true, not_false, if_true, if_false, tn_add, tn_mul, Int.reduceToNat, tn_cast, md_x]
              rw [if_neg (by omega)]
              exact hr) (2 ^ T) 0 X (by omega) ⟨fX, fun _ _ => rfl, fun j hj => by rw [if_neg (by omega), y1 112 (by omega)]; exact i2 j hj⟩
        have kt := m_told (L := L) (xs := xs) (J := J) (tg := tg) (d := d + 4) hI (q.nf z1) hT
        refine ⟨Y, ⟨z1, fun s hs' => by have := z3 s hs'; rw [if_pos hs'] at this; exact this⟩, fun r hr => ?_⟩
        rw [hdr] at g3
        rw [hst] at g2
        apply sg_290_25
        simp (disch := omega) only [x0, x1, x2, x4, g0, g1, g2, g3, g5, eV_at, eV_up, o_lit2, o_add, o_sub, o_mul, o_neg, o_div, o_nat, ix_t, o_lt, o_le, o_eq, o_bi0, o_bi1, o_bib, em_t, o_neg1, o_shl, o_tb, o_tb0, o_tt, o_and, o_xor, o_or, o_max, o_min, an_tb, and_true, true_and, not_true, not_false, if_true, if_false, tn_add, tn_mul, Int.reduceToNat, tn_cast, md_x]
        rw [if_neg (by omega), if_pos c1, if_pos c2]
        refine ⟨_, _, y3, ?_⟩
        refine hrY _ ?_
        apply sg_290_97
        refine ⟨_, _, _, kt, ?_⟩
        simp (disch := omega) only [eV_at, eV_up, o_lit2, o_add, o_sub, o_mul, o_neg, o_div, o_nat, ix_t, o_lt, o_le, o_eq, o_bi0, o_bi1, o_bib, em_t, o_neg1, o_shl, o_tb, o_tb0, o_tt, o_and, o_xor, o_or, o_max, o_min, an_tb, and_true, true_and, not_true, not_false, if_true, if_false, tn_add, tn_mul, Int.reduceToNat, tn_cast, md_x]
        rw [if_pos (by omega)]
        exact hr
      · refine ⟨W, ⟨i1, fun s hs' => ?_⟩, fun r hr => ?_⟩
        · rw [i2 s hs', hs s, decide_eq_false c2, Bool.and_false]; simp
        · apply sg_290_25
          simp (disch := omega) only [x0, x4, g0, g1, g5, eV_at, eV_up, o_lit2, o_add, o_sub, o_mul, o_neg, o_div, o_nat, ix_t, o_lt, o_le, o_eq, o_bi0, o_bi1, o_bib, em_t, o_neg1, o_shl, o_tb, o_tb0, o_tt, o_and, o_xor, o_or, o_max, o_min, an_tb, and_true, true_and, not_true, not_false, if_true, if_false, tn_add, tn_mul, Int.reduceToNat, tn_cast, md_x]
          rw [if_neg (by omega), if_pos c1, if_neg c2]
          exact hr
    · refine ⟨W, ⟨i1, fun s hs' => ?_⟩, fun r hr => ?_⟩
      · rw [i2 s hs', hs s, decide_eq_false c1, Bool.false_and]; simp
      · apply sg_290_25
        simp (disch := omega) only [x0, g0, g1, eV_at, eV_up, o_lit2, o_add, o_sub, o_mul, o_neg, o_div, o_nat, ix_t, o_lt, o_le, o_eq, o_bi0, o_bi1, o_bib, em_t, o_neg1, o_shl, o_tb, o_tb0, o_tt, o_and, o_xor, o_or, o_max, o_min, an_tb, and_true, true_and, not_true, not_false, if_true, if_false, tn_add, tn_mul, Int.reduceToNat, tn_cast, md_x]
        rw [if_neg (by omega), if_neg c1]
        exact hr) A 0 U (by omega) ⟨u1, fun s hs => by rw [u2 s hs]; exact bi_t rfl⟩
  have ku := m_told (L := L) (xs := xs) (J := J) (tg := tg) (d := d + 4) hI (q.nf u1) hT
  have h947 : W 94 7 = A := by
    have qW := q.nf i1
    have : W 94 7 = W 7 5 := (hI.q qW).2.1.2.2.2.2.1.1.2.2.2.2.2
    rw [this, qW.1 7 (by omega)]; exact hA
  refine ⟨W, i1, i2, ?_⟩
  apply sg_290
  refine hrU _ ?_
  apply sg_290_2
  refine ⟨_, _, _, ku, ?_⟩
  simp (disch := omega) only [eV_at, eV_up, o_lit2, o_add, o_sub, o_mul, o_neg, o_div, o_nat, ix_t, o_lt, o_le, o_eq, o_bi0, o_bi1, o_bib, em_t, o_neg1, o_shl, o_tb, o_tb0, o_tt, o_and, o_xor, o_or, o_max, o_min, an_tb, and_true, true_and, not_true, not_false, if_true, if_false, tn_add, tn_mul, Int.reduceToNat, tn_cast, md_x]
  rw [if_pos (by omega)]
  refine hr _ ?_
  apply sg_290_25
  simp (disch := omega) only [h947, eV_at, eV_up, o_lit2, o_add, o_sub, o_mul, o_neg, o_div, o_nat, ix_t, o_lt, o_le, o_eq, o_bi0, o_bi1, o_bib, em_t, o_neg1, o_shl, o_tb, o_tb0, o_tt, o_and, o_xor, o_or, o_max, o_min, an_tb, and_true, true_and, not_true, not_false, if_true, if_false, tn_add, tn_mul, Int.reduceToNat, tn_cast, md_x]
  rw [if_pos (by omega)] <;> first | rfl | trivial
/-- the i-th mind, or how many -/
def mnR (T nd br : Nat) (P : Bool) (i : Int) : Int := if P = true then (if i = -1 then ((2 ^ pcn (frN T nd br) 12 : Nat) : Int) else if i < (2 ^ pcn (frN T nd br) 12 : Nat) then (mem nd (frN T nd br) i.toNat 12 : Nat) else -1) else (if i = -1 then 0 else -1)
theorem m_292 (hI : INV B) (q : Qy B V) {T nd br : Nat} {P : Bool} {x1 x2 : Int32} {i : Int} (hi : -1 ≤ i ∧ i < 2147483648) (hT : B 1 1 = T) (hnd : nd < 2 ^ T) (hdis : P = true → ∀ t, nd.testBit t = true → br.testBit t = false) {mn : Nat → Bool} (hmn : ∀ s, s < 2 ^ T → (mn s = true ↔ inM P nd br s)) (h112 : ∀ s, s < 2 ^ T → V 112 s = bi (mn s = true)) : Runs (GW L xs) (d + 1) 292 (33, [.ref 93, .int x1, .int x2, (Value.int (Int32.ofInt (i))), (Value.int (Int32.ofInt (0))), (Value.int (Int32.ofInt (0)))], [], zS (eV V) J tg) (some (Value.int (Int32.ofInt (mnR T nd br P i))), zS (eV V) J tg) := by
  have rT : 0 ≤ B 1 1 ∧ B 1 1 ≤ 12 := hI.1 1 1 (by decide) (by decide)
  have hT12 : T ≤ 12 := by omega
  have hpos := Nat.pow_pos (a := 2) (n := T) (by omega)
  have h2T : 2 ^ T ≤ 4096 := p2_12 hT12
  have hF := frN_F (T := T) (nd := nd) (br := br) hT12
  have hpc := pcn_le (frN T nd br) 12
  have hN : 2 ^ pcn (frN T nd br) 12 ≤ 4096 := p2_12 hpc
  have kt := m_told (L := L) (xs := xs) (J := J) (tg := tg) (d := d) hI q hT
  unfold mnR
  generalize frN T nd br = fr at hF hpc hN
  have hNp0 := Nat.pow_pos (a := 2) (n := pcn fr 12) (by omega)
  obtain ⟨r, hq, hr⟩ := loopE (g := GW L xs) (d := d + 1) (mid := 292) (σ := Nat) (fun s n => (33, [.ref 93, .int x1, .int x2, (Value.int (Int32.ofInt (i))), (Value.int (Int32.ofInt (n))), (Value.int (Int32.ofInt (s)))], [], zS (eV V) J tg)) (fun s n => (i = -1 ∨ (n : Int) ≤ i) ∧ n ≤ s ∧ (P ≠ true → n = 0) ∧ (P = true → n ≤ 2 ^ pcn fr 12 ∧ (∀ j, j < n → mem nd fr j 12 < s) ∧ ∀ j, n ≤ j → j < 2 ^ pcn fr 12 → s ≤ mem nd fr j 12)) (fun r => r = (some (Value.int (Int32.ofInt (if P = true then (if i = -1 then ((2 ^ pcn fr 12 : Nat) : Int) else if i < (2 ^ pcn fr 12 : Nat) then (mem nd fr i.toNat 12 : Nat) else -1) else (if i = -1 then 0 else -1)))), zS (eV V) J tg)) (2 ^ T) (by
    intro s n hs ⟨i1, i2, i3, i4⟩
    have e112 := h112 s hs
    by_cases m : mn s = true
    · have hin := (hmn s hs).mp m
      have p : P = true := hin.1
      obtain ⟨j1, j2, j3⟩ := i4 p
      have hin' : inM true nd br s := ⟨rfl, hin.2⟩
      have hmem := mem_of hT12 hF hnd hs hin'
      have hpx := pxt_lt (fr := fr) (s := s) 12
      generalize pxt fr s 12 = x at hmem hpx
      rw [bi, if_pos m] at e112
      -- it is the n-th
      have hxn : x = n := by
        rcases Nat.lt_trichotomy x n with h | h | h
        · have := j2 x h; omega
        · exact h
        · exfalso
          have h1 := j3 n (Nat.le_refl _) (by omega)
          have h2 := (mem_mono (nd := nd) (fr := fr) (i := n) (j := x) 12).2 (by rw [Nat.mod_eq_of_lt (by omega), Nat.mod_eq_of_lt hpx]; exact h)
          omega
      subst hxn
      by_cases c : (x : Int) = i
      · right
        refine ⟨_, rfl, ?_⟩
        apply sg_292_33
        refine ⟨_, _, _, kt, ?_⟩
        simp (disch := omega) only [e112, eV_at, eV_up, o_lit2, o_add, o_sub, o_mul, o_neg, o_div, o_nat, ix_t, o_lt, o_le, o_eq, o_bi0, o_bi1, o_bib, em_t, o_neg1, o_shl, o_tb, o_tb0, o_tt, o_and, o_xor, o_or, o_max, o_min, an_tb, and_true, true_and, not_true, not_false, if_true, if_false, tn_add, tn_mul, Int.reduceToNat, tn_cast, md_x]
        rw [if_neg (by omega), if_neg (by omega), if_pos c]
        refine leafI ?_
        rw [if_pos p, if_neg (by omega), if_pos (by omega), ← c, tn_cast, hmem]
      · left
        refine ⟨x + 1, ⟨by omega, by omega, fun h => absurd p h, fun _ => ⟨by omega, fun j hj => ?_, fun j hj1 hj2 => ?_⟩⟩, fun r hr => ?_⟩
        · by_cases e : j = x
          · subst e; omega
          · have := j2 j (by omega); omega
        · have h2 := (mem_mono (nd := nd) (fr := fr) (i := x) (j := j) 12).2 (by rw [Nat.mod_eq_of_lt (by omega), Nat.mod_eq_of_lt hj2]; omega)
          omega
        · apply sg_292_33
          refine ⟨_, _, _, kt, ?_⟩
          simp (disch := omega) only [e112, eV_at, eV_up, o_lit2, o_add, o_sub, o_mul, o_neg, o_div, o_nat, ix_t, o_lt, o_le, o_eq, o_bi0, o_bi1, o_bib, em_t, o_neg1, o_shl, o_tb, o_tb0, o_tt, o_and, o_xor, o_or, o_max, o_min, an_tb, and_true, true_and, not_true, not_false, if_true, if_false, tn_add, tn_mul, Int.reduceToNat, tn_cast, md_x]
          rw [if_neg (by omega), if_neg (by omega), if_neg c]
          exact hr
    · left
      rw [bi, if_neg m] at e112
      refine ⟨n, ⟨i1, by omega, i3, fun p => ?_⟩, fun r hr => ?_⟩
      · obtain ⟨j1, j2, j3⟩ := i4 p
        refine ⟨j1, fun j hj => by have := j2 j hj; omega, fun j hj1 hj2 => ?_⟩
        have h1 := j3 j hj1 hj2
        have hne : mem nd fr j 12 ≠ s := fun e => by
          have := (mem_in (i := j) hT12 hF hnd (hdis p)).1
          rw [e] at this
          exact m ((hmn s hs).mpr ⟨p, this.2⟩)
        omega
      · apply sg_292_33
        refine ⟨_, _, _, kt, ?_⟩
        simp (disch := omega) only [e112, eV_at, eV_up, o_lit2, o_add, o_sub, o_mul, o_neg, o_div, o_nat, ix_t, o_lt, o_le, o_eq, o_bi0, o_bi1, o_bib, em_t, o_neg1, o_shl, o_tb, o_tb0, o_tt, o_and, o_xor, o_or, o_max, o_min, an_tb, and_true, true_and, not_true, not_false, if_true, if_false, tn_add, tn_mul, Int.reduceToNat, tn_cast, md_x]
        rw [if_neg (by omega)]
        exact hr) (by
    intro n ⟨i1, i2, i3, i4⟩
    refine ⟨_, rfl, ?_⟩
    apply sg_292_33
    refine ⟨_, _, _, kt, ?_⟩
    simp (disch := omega) only [eV_at, eV_up, o_lit2, o_add, o_sub, o_mul, o_neg, o_div, o_nat, ix_t, o_lt, o_le, o_eq, o_bi0, o_bi1, o_bib, em_t, o_neg1, o_shl, o_tb, o_tb0, o_tt, o_and, o_xor, o_or, o_max, o_min, an_tb, and_true, true_and, not_true, not_false, if_true, if_false, tn_add, tn_mul, Int.reduceToNat, tn_cast, md_x]
    rw [if_pos (by omega)]
    by_cases p : P = true
    · obtain ⟨j1, j2, j3⟩ := i4 p
      have hn : n = 2 ^ pcn fr 12 := by
        by_cases e : n = 2 ^ pcn fr 12
        · exact e
        · exfalso
          have h1 := j3 n (Nat.le_refl _) (by omega)
          have h2 := (mem_in (i := n) hT12 hF hnd (hdis p)).2
          omega
      by_cases c : i = -1
      · rw [if_pos c]
        refine leafI ?_
        rw [if_pos p, if_pos c, hn]
      · rw [if_neg c]
        refine leafI ?_
        rw [if_pos p, if_neg c, if_neg (by omega)]
    · have hn := i3 p
      subst hn
      by_cases c : i = -1
      · rw [if_pos c]
        refine leafI ?_
        rw [if_neg p, if_pos c]; rfl
      · rw [if_neg c]
        refine leafI ?_
        rw [if_neg p, if_neg c]) (2 ^ T) 0 0 (by omega) ⟨by omega, by omega, fun _ => rfl, fun p => ⟨by omega, fun j h => by omega, fun j _ _ => by omega⟩⟩
  rw [hq] at hr
  exact hr
end MR
theorem c_minds {L : Nat} {xs : Nat → Int32} {V : Nat → Nat → Int} {J : Nat → Nat → Int64} {tg : Option Nat} (h : INV V) {a b c : Int} (ha : (-2147483648 ≤ a ∧ a < 2147483648)) (hb : (-2147483648 ≤ b ∧ b < 2147483648)) (hc : (-2147483648 ≤ c ∧ c < 2147483648)) : ∃ (v : Int) (U W : Nat → Nat → Int) (J1 : Nat → Nat → Int64), Runs (GW L xs) 40 155 (0, [.ref 0, (Value.int (Int32.ofInt (a))), (Value.int (Int32.ofInt (b))), (Value.int (Int32.ofInt (c)))], [], zS (eV V) J tg) (some (Value.int (Int32.ofInt v)), zS (eV U) J tg) ∧ Runs (GW L xs) 40 292 (0, [.ref 93, (Value.int (Int32.ofInt (a))), (Value.int (Int32.ofInt (b))), (Value.int (Int32.ofInt (c))), vU, vU], [], zS (eV U) J tg) (some (Value.int (Int32.ofInt v)), zS (eV W) J1 tg) ∧ INV W := by
  have h0 := h
  obtain ⟨hR, ⟨hA, hB, hC, hD, hE, hF, hH⟩, h2, h3, h4, h5⟩ := h
  have rD : 0 ≤ V 1 0 ∧ V 1 0 ≤ 12 := hR 1 0 (by decide) (by decide)
  have rT : 0 ≤ V 1 1 ∧ V 1 1 ≤ 12 := hR 1 1 (by decide) (by decide)
  by_cases g1 : 0 ≤ a ∧ a ≤ 5
  · by_cases g2 : 0 ≤ b ∧ b ≤ 999
    · obtain ⟨T, hT⟩ : ∃ T : Nat, V 1 1 = T := ⟨(V 1 1).toNat, by omega⟩
      obtain ⟨U, P, nd, br, qU, hM, u1⟩ := k_51 (L := L) (xs := xs) (J := J) (tg := tg) (d := 34) h0 (Qy.rf h3) hT g1 g2
      obtain ⟨m3, m4, m5, m6, m7, m8, m9⟩ := id hM
      have h2T : 2 ^ T ≤ 4096 := p2_12 (by omega)
      have k54 := k_54 (L := L) (xs := xs) (J := J) (tg := tg) (d := 37) h0 qU hT hM
      have hpc := pcn_le (frN T nd br) 12
      have hN : 2 ^ pcn (frN T nd br) 12 ≤ 4096 := p2_12 hpc
      have hNp := Nat.pow_pos (a := 2) (n := pcn (frN T nd br) 12) (by omega)
      by_cases g3 : -1 ≤ c
      · obtain ⟨W, w1, w2, w3⟩ := m_290 (L := L) (xs := xs) (J := J) (tg := tg) (d := 34) h0 qU hT g1 g2
        have qW := qU.nf w1
        have w4 := m_292 (L := L) (xs := xs) (J := J) (tg := tg) (d := 39) h0 qW (x1 := Int32.ofInt a) (x2 := Int32.ofInt b) (i := c) ⟨g3, hc.2⟩ hT m6 m8 (mn := fun s => mndB V a b s (V 7 5).toNat) m9 w2
        refine ⟨mnR T nd br P c, U, W, J, ?_, ?_, h0.q qW⟩
        · apply sg_155
          refine ⟨_, _, k_165 ha, ?_⟩
          rw [if_neg (b0_f g1)]
          refine ⟨_, _, k_164 (a := 0) (b := 999) hb (by omega) (by omega), ?_⟩
          rw [if_neg (b0_f g2)]
          refine ⟨_, u1, ?_⟩
          by_cases cn : c = -1
          · subst cn
            rw [if_pos (by decide)]
            refine ⟨_, _, k54, ?_⟩
            refine leafI ?_
            unfold mnR
            by_cases p : P = true
            · rw [if_pos p, if_pos rfl, if_pos p]
            · rw [if_neg p, if_pos rfl, if_neg p]
          · have cn' : ¬ Int32.ofInt c = -1 := by rw [o_neg1, o_eq hc (by omega)]; exact cn
            rw [if_neg cn']
            refine ⟨_, _, k54, ?_⟩
            obtain ⟨i, rfl⟩ : ∃ i : Nat, c = i := ⟨c.toNat, by omega⟩
            by_cases p : P = true
            · rw [if_pos p]
              simp (disch := omega) only [eV_at, eV_up, o_lit2, o_add, o_sub, o_mul, o_neg, o_div, o_nat, ix_t, o_lt, o_le, o_eq, o_bi0, o_bi1, o_bib, em_t, o_neg1, o_shl, o_tb, o_tb0, o_tt, o_and, o_xor, o_or, o_max, o_min, an_tb, and_true, true_and, not_true, not_false, if_true, if_false, tn_add, tn_mul, Int.reduceToNat, tn_cast, md_x]
              refine ⟨_, _, k_164 (a := 0) (b := ((2 ^ pcn (frN T nd br) 12 : Nat) : Int) - 1) hc (by omega) (by omega), ?_⟩
              by_cases ci : i < 2 ^ pcn (frN T nd br) 12
              · rw [if_neg (b0o_f (by omega))]
                refine ⟨_, _, k_55 h0 qU hT m4 m5 m6 (by omega), ?_⟩
                refine leafI ?_
                unfold mnR
                rw [if_pos p, if_neg cn, if_pos (by omega), tn_cast]
              · rw [if_pos (b0o_t (by omega))]
                refine leafI ?_
                unfold mnR
                rw [if_pos p, if_neg cn, if_neg (by omega)]
            · rw [if_neg p]
              simp (disch := omega) only [eV_at, eV_up, o_lit2, o_add, o_sub, o_mul, o_neg, o_div, o_nat, ix_t, o_lt, o_le, o_eq, o_bi0, o_bi1, o_bib, em_t, o_neg1, o_shl, o_tb, o_tb0, o_tt, o_and, o_xor, o_or, o_max, o_min, an_tb, and_true, true_and, not_true, not_false, if_true, if_false, tn_add, tn_mul, Int.reduceToNat, tn_cast, md_x]
              refine ⟨_, _, k_164 (a := 0) (b := 0 - 1) hc (by omega) (by omega), ?_⟩
              rw [if_pos (b0o_t (by omega))]
              refine leafI ?_
              unfold mnR
              rw [if_neg p, if_neg cn]
        · apply sg_292
          refine ⟨_, _, _, k_182 ha, ?_⟩
          rw [if_neg (b0_f g1)]
          refine ⟨_, _, _, k_291 hb, ?_⟩
          rw [if_neg (b0_f g2)]
          simp (disch := omega) only [eV_at, eV_up, o_lit2, o_add, o_sub, o_mul, o_neg, o_div, o_nat, ix_t, o_lt, o_le, o_eq, o_bi0, o_bi1, o_bib, em_t, o_neg1, o_shl, o_tb, o_tb0, o_tt, o_and, o_xor, o_or, o_max, o_min, an_tb, and_true, true_and, not_true, not_false, if_true, if_false, tn_add, tn_mul, Int.reduceToNat, tn_cast, md_x]
          rw [if_pos g3]
          exact ⟨_, _, w3, w4⟩
      · refine ⟨-1, U, U, J, ?_, ?_, h0.q qU⟩
        · apply sg_155
          refine ⟨_, _, k_165 ha, ?_⟩
          rw [if_neg (b0_f g1)]
          refine ⟨_, _, k_164 (a := 0) (b := 999) hb (by omega) (by omega), ?_⟩
          rw [if_neg (b0_f g2)]
          refine ⟨_, u1, ?_⟩
          have cn' : ¬ Int32.ofInt c = -1 := by rw [o_neg1, o_eq hc (by omega)]; omega
          rw [if_neg cn']
          refine ⟨_, _, k54, ?_⟩
          by_cases p : P = true
          · rw [if_pos p]
            simp (disch := omega) only [eV_at, eV_up, o_lit2, o_add, o_sub, o_mul, o_neg, o_div, o_nat, ix_t, o_lt, o_le, o_eq, o_bi0, o_bi1, o_bib, em_t, o_neg1, o_shl, o_tb, o_tb0, o_tt, o_and, o_xor, o_or, o_max, o_min, an_tb, and_true, true_and, not_true, not_false, if_true, if_false, tn_add, tn_mul, Int.reduceToNat, tn_cast, md_x]
            refine ⟨_, _, k_164 (a := 0) (b := ((2 ^ pcn (frN T nd br) 12 : Nat) : Int) - 1) hc (by omega) (by omega), ?_⟩
            rw [if_pos (b0o_t (by omega))]
          · rw [if_neg p]
            simp (disch := omega) only [eV_at, eV_up, o_lit2, o_add, o_sub, o_mul, o_neg, o_div, o_nat, ix_t, o_lt, o_le, o_eq, o_bi0, o_bi1, o_bib, em_t, o_neg1, o_shl, o_tb, o_tb0, o_tt, o_and, o_xor, o_or, o_max, o_min, an_tb, and_true, true_and, not_true, not_false, if_true, if_false, tn_add, tn_mul, Int.reduceToNat, tn_cast, md_x]
            refine ⟨_, _, k_164 (a := 0) (b := 0 - 1) hc (by omega) (by omega), ?_⟩
            rw [if_pos (b0o_t (by omega))]
        · apply sg_292
          refine ⟨_, _, _, k_182 ha, ?_⟩
          rw [if_neg (b0_f g1)]
          refine ⟨_, _, _, k_291 hb, ?_⟩
          rw [if_neg (b0_f g2)]
          simp (disch := omega) only [eV_at, eV_up, o_lit2, o_add, o_sub, o_mul, o_neg, o_div, o_nat, ix_t, o_lt, o_le, o_eq, o_bi0, o_bi1, o_bib, em_t, o_neg1, o_shl, o_tb, o_tb0, o_tt, o_and, o_xor, o_or, o_max, o_min, an_tb, and_true, true_and, not_true, not_false, if_true, if_false, tn_add, tn_mul, Int.reduceToNat, tn_cast, md_x]
          rw [if_neg g3] <;> first | rfl | trivial
    · refine ⟨-1, V, V, J, ?_, ?_, h0⟩
      · apply sg_155
        refine ⟨_, _, k_165 ha, ?_⟩
        rw [if_neg (b0_f g1)]
        refine ⟨_, _, k_164 (a := 0) (b := 999) hb (by omega) (by omega), ?_⟩
        rw [if_pos (b0_t g2)]; rfl
      · apply sg_292
        refine ⟨_, _, _, k_182 ha, ?_⟩
        rw [if_neg (b0_f g1)]
        refine ⟨_, _, _, k_291 hb, ?_⟩
        rw [if_pos (b0_t g2)]; rfl
  · refine ⟨-1, V, V, J, ?_, ?_, h0⟩
    · apply sg_155
      refine ⟨_, _, k_165 ha, ?_⟩
      rw [if_pos (b0_t g1)]; rfl
    · apply sg_292
      refine ⟨_, _, _, k_182 ha, ?_⟩
      rw [if_pos (b0_t g1)]; rfl
