/-! What to draw: the reference's search. -/
section MK
variable {L d : Nat} {xs : Nat → Int32} {B V : Nat → Nat → Int} {J : Nat → Nat → Int64} {tg : Option Nat} {dr st S : Nat}
abbrev SEEN (S c i : Nat) : Nat → Prop := fun u => u < 2 ^ S ∧ pcn u S ≤ 6 ∧ (pcn u S < c ∨ (pcn u S = c ∧ u < i))
def BS2 (B : Nat → Nat → Int) (dr st S : Nat) (C : Nat → Prop) (ys yh : Int) : Prop := ∃ yc, BST (HM B dr st S) (CN S) (OK B dr S) C ys yh yc
theorem o_sh1s {k : Nat} (hk : k ≤ 10) : Int32.ofInt 1 <<< (Int32.ofInt (k : Int) &&& Int32.ofInt 31) = Int32.ofInt ((2 ^ k : Nat) : Int) := by
  have h := o_shb (b := 1) (t := k) (by omega) (by omega)
  rw [Nat.one_mul] at h
  exact h
theorem m_259s (hI : INV B) (q : Qy B V) (hd : (dr : Int) < B 1 0) (hst : st < 6) (hS : S ≤ 10) (hBS : B 18 2 = S) {x3 : Int32} : ∃ W J2 ys yh, TF V W ∧ BS2 B dr st S (ALL S) ys yh ∧ Rch (GW L xs) (d + 9) 259 (35, [.ref 93, (Value.int (Int32.ofInt (dr))), (Value.int (Int32.ofInt (st))), .int x3, (Value.int (Int32.ofInt (-1))), (Value.int (Int32.ofInt (0))), (Value.int (Int32.ofInt (0))), vU, vU], [], zS (eV V) J tg) (35, [.ref 93, (Value.int (Int32.ofInt (dr))), (Value.int (Int32.ofInt (st))), .int x3, (Value.int (Int32.ofInt (ys))), (Value.int (Int32.ofInt (yh))), (Value.int (Int32.ofInt (7))), vU, vU], [], zS (eV W) J2 tg) := by
  have h10 : 2 ^ S ≤ 1024 := Nat.pow_le_pow_right (n := 2) (by omega) hS
  have hpos := Nat.pow_pos (a := 2) (n := S) (by omega)
  have rD : 0 ≤ B 1 0 ∧ B 1 0 ≤ 12 := hI.1 1 0 (by decide) (by decide)
  have c5 : ∀ W, TF V W → W 94 5 = S := fun W f => by
    have qW := q.tf f
    have : W 94 5 = W 18 2 := (hI.q qW).2.1.2.2.2.2.2.2.1.2.2.1
    rw [this, qW.1 18 (by omega)]; exact hBS
  obtain ⟨⟨⟨W, J2⟩, ys, yh⟩, ⟨w1, w2⟩, hr⟩ := loopN (g := GW L xs) (d := d + 9) (mid := 259) (σ := ((Nat → Nat → Int) × (Nat → Nat → Int64)) × Int × Int) (fun c z => (35, [.ref 93, (Value.int (Int32.ofInt (dr))), (Value.int (Int32.ofInt (st))), .int x3, (Value.int (Int32.ofInt (z.2.1))), (Value.int (Int32.ofInt (z.2.2))), (Value.int (Int32.ofInt (c))), vU, vU], [], zS (eV z.1.1) z.1.2 tg)) (fun c z => TF V z.1.1 ∧ BS2 B dr st S (SEEN S c 0) z.2.1 z.2.2) 7 (by
    intro c z hc ⟨w1, w2⟩
    obtain ⟨⟨X, J3⟩, xs', xh⟩ := z
    obtain ⟨⟨⟨Y, J4⟩, ys, yh⟩, ⟨y1, y2⟩, hrY⟩ := loopN (g := GW L xs) (d := d + 9) (mid := 259) (σ := ((Nat → Nat → Int) × (Nat → Nat → Int64)) × Int × Int) (fun i z => (45, [.ref 93, (Value.int (Int32.ofInt (dr))), (Value.int (Int32.ofInt (st))), .int x3, (Value.int (Int32.ofInt (z.2.1))), (Value.int (Int32.ofInt (z.2.2))), (Value.int (Int32.ofInt (c))), (Value.int (Int32.ofInt (i))), vU], [], zS (eV z.1.1) z.1.2 tg)) (fun i z => TF V z.1.1 ∧ BS2 B dr st S (SEEN S c i) z.2.1 z.2.2) (2 ^ S) (by
      intro i z hi ⟨w1, yc, w2⟩
      obtain ⟨⟨W, J2⟩, ys, yh⟩ := z
      dsimp only at w1 w2 ⊢
      have qW := q.tf w1
      have e5 := c5 W w1
      have k185 := k_185 (L := L) (xs := xs) (J := J2) (tg := tg) (d := d + 8) (V := W) (s := i) (by omega)
      rw [pcn_top (n := 12) hi (by omega)] at k185
      have hpc : pcn i S ≤ 12 := by have := pcn_le i S; omega
      have hC : ∀ u, SEEN S c i u → u < 2 ^ S ∧ pcn u S ≤ 6 := fun u hu => ⟨hu.1, hu.2.1⟩
      by_cases hp : pcn i S = c
      · have hseen : ∀ u, ((SEEN S c i u) ∨ u = i) ↔ SEEN S c (i + 1) u := fun u => by
          constructor
          · rintro (hu | hu)
            · exact ⟨hu.1, hu.2.1, by omega⟩
            · subst hu; exact ⟨hi, by omega, by omega⟩
          · intro hu
            by_cases e : u = i
            · exact Or.inr e
            · exact Or.inl ⟨hu.1, hu.2.1, by omega⟩
        obtain ⟨r1, r2⟩ := w2.rg hI hst hS hC
        obtain ⟨A, a1, a2, a3, a4⟩ := m_257 (L := L) (xs := xs) (J := J2) (tg := tg) (d := d + 7) hI qW hd
        have fA : TF W A := ⟨fun c _ q2 _ _ => a1 c q2, a2⟩
        obtain ⟨X, x1, x2, x3'⟩ := m_258 (L := L) (xs := xs) (J := J2) (tg := tg) (d := d + 7) hI (qW.tf fA) hd hS hBS (s := i) hi (by omega) a3
        have qX := (qW.tf fA).tf x1
        obtain ⟨E, J5, e1, e2⟩ := m_243 (L := L) (xs := xs) (J := J2) (tg := tg) (d := d + 4) hI qX x2
        have fE : TF X E := ⟨fun c _ _ q3 q4 => e1 c q3 q4, fun p _ => by rw [e1 94 (by decide) (by decide)]⟩
        have qE := qX.tf fE
        have fVE : TF V E := ((w1.tr fA).tr x1).tr fE
        by_cases ok : ¬ smG B 5 0 (fct B dr (mdL B i S).length (lf (mdL B i S))) = true
        · have lE : LKm B E 24 dr (mdL B i S).length (lf (mdL B i S)) := by
            unfold LKm okL at x2 ⊢
            rw [e1 94 (by decide) (by decide)]
            exact x2
          obtain ⟨G, J6, g1, g2⟩ := m_252 (L := L) (xs := xs) (J := J5) (tg := tg) (d := d + 1) hI qE lE hd hst
          have g2 : Runs (GW L xs) (d + 8) 252 (0, [.ref 93, (Value.int (Int32.ofInt (24))), (Value.int (Int32.ofInt (dr))), (Value.int (Int32.ofInt (st))), vU, vU], [], zS (eV (E)) (J5) tg) (some (Value.int (Int32.ofInt (HM B dr st S i))), zS (eV (G)) (J6) tg) := g2
          have hh := hmd_rg hI (dr := dr) (st := st) (l := mdL B i S) hst (by rw [mdL_len]; omega)
          have fVG : TF V G := fVE.tr g1.tf
          have hh : 0 ≤ HM B dr st S i ∧ HM B dr st S i ≤ 594000000 := hh
          by_cases nw : ys < 0 ∨ HM B dr st S i < yh
          · refine ⟨⟨⟨G, J6⟩, (i : Int), HM B dr st S i⟩, ⟨fVG, _, (w2.new (s := i) ok (by omega)).cg hseen⟩, fun r hr => ?_⟩
            apply sg_259_45
            simp (disch := omega) only [e5, o_sh1s, eV_at, eV_up, o_lit2, o_add, o_sub, o_mul, o_neg, o_div, o_nat, ix_t, o_lt, o_le, o_eq, o_bi0, o_bi1, o_bib, em_t, o_neg1, o_shl, o_tb, o_tb0, o_tt, o_and, o_xor, o_or, o_max, o_min, an_tb, and_true, true_and, not_true, not_false, if_true, if_false, tn_add, tn_mul, Int.reduceToNat, tn_cast, md_x]
            rw [if_neg (by omega)]
            refine ⟨_, _, _, k185, ?_⟩
            simp (disch := omega) only [eV_at, eV_up, o_lit2, o_add, o_sub, o_mul, o_neg, o_div, o_nat, ix_t, o_lt, o_le, o_eq, o_bi0, o_bi1, o_bib, em_t, o_neg1, o_shl, o_tb, o_tb0, o_tt, o_and, o_xor, o_or, o_max, o_min, an_tb, and_true, true_and, not_true, not_false, if_true, if_false, tn_add, tn_mul, Int.reduceToNat, tn_cast, md_x]
            rw [if_pos (by omega)]
            refine ⟨_, _, a4, _, _, x3', _, _, _, e2, ?_⟩
            rw [if_neg (b0o_f ok)]
            refine ⟨_, _, _, g2, ?_⟩
            have leaf : Runs (GW L xs) (d + 9) 259 (121, [.ref 93, (Value.int (Int32.ofInt (dr))), (Value.int (Int32.ofInt (st))), .int x3, (Value.int (Int32.ofInt (ys))), (Value.int (Int32.ofInt (yh))), (Value.int (Int32.ofInt (c))), (Value.int (Int32.ofInt (i))), (Value.int (Int32.ofInt (HM B dr st S i)))], [], zS (eV G) J6 tg) r := by
              apply sg_259_121
              apply sg_259_129
              simp (disch := omega) only [eV_at, eV_up, o_lit2, o_add, o_sub, o_mul, o_neg, o_div, o_nat, ix_t, o_lt, o_le, o_eq, o_bi0, o_bi1, o_bib, em_t, o_neg1, o_shl, o_tb, o_tb0, o_tt, o_and, o_xor, o_or, o_max, o_min, an_tb, and_true, true_and, not_true, not_false, if_true, if_false, tn_add, tn_mul, Int.reduceToNat, tn_cast, md_x]
              exact hr
            by_cases c1 : ys < 0
            · simp (disch := omega) only [eV_at, eV_up, o_lit2, o_add, o_sub, o_mul, o_neg, o_div, o_nat, ix_t, o_lt, o_le, o_eq, o_bi0, o_bi1, o_bib, em_t, o_neg1, o_shl, o_tb, o_tb0, o_tt, o_and, o_xor, o_or, o_max, o_min, an_tb, and_true, true_and, not_true, not_false, if_true, if_false, tn_add, tn_mul, Int.reduceToNat, tn_cast, md_x]
              rw [if_pos c1]; exact leaf
            · obtain ⟨r3, r4⟩ := r2 (by omega)
              simp (disch := omega) only [eV_at, eV_up, o_lit2, o_add, o_sub, o_mul, o_neg, o_div, o_nat, ix_t, o_lt, o_le, o_eq, o_bi0, o_bi1, o_bib, em_t, o_neg1, o_shl, o_tb, o_tb0, o_tt, o_and, o_xor, o_or, o_max, o_min, an_tb, and_true, true_and, not_true, not_false, if_true, if_false, tn_add, tn_mul, Int.reduceToNat, tn_cast, md_x]
              rw [if_neg c1, if_pos (by omega)]; exact leaf
          · have hb : ¬ (ys = -1 ∨ HM B dr st S i < yh ∨ (HM B dr st S i = yh ∧ ((CN S i : Int) < yc ∨ ((CN S i : Int) = yc ∧ (i : Int) < ys)))) := by
              rcases id w2 with ⟨h1, h2⟩ | ⟨z, h1, h2, h3, h4, h5, h6⟩
              · omega
              · have h5 : yc = ((pcn z S : Nat) : Int) := h5
                have h7 : (CN S i : Nat) = c := hp
                have h8 := h1.2.2
                omega
            refine ⟨⟨⟨G, J6⟩, ys, yh⟩, ⟨fVG, _, (w2.old (s := i) hb).cg hseen⟩, fun r hr => ?_⟩
            obtain ⟨r3, r4⟩ := r2 (by omega)
            apply sg_259_45
            simp (disch := omega) only [e5, o_sh1s, eV_at, eV_up, o_lit2, o_add, o_sub, o_mul, o_neg, o_div, o_nat, ix_t, o_lt, o_le, o_eq, o_bi0, o_bi1, o_bib, em_t, o_neg1, o_shl, o_tb, o_tb0, o_tt, o_and, o_xor, o_or, o_max, o_min, an_tb, and_true, true_and, not_true, not_false, if_true, if_false, tn_add, tn_mul, Int.reduceToNat, tn_cast, md_x]
            rw [if_neg (by omega)]
            refine ⟨_, _, _, k185, ?_⟩
            simp (disch := omega) only [eV_at, eV_up, o_lit2, o_add, o_sub, o_mul, o_neg, o_div, o_nat, ix_t, o_lt, o_le, o_eq, o_bi0, o_bi1, o_bib, em_t, o_neg1, o_shl, o_tb, o_tb0, o_tt, o_and, o_xor, o_or, o_max, o_min, an_tb, and_true, true_and, not_true, not_false, if_true, if_false, tn_add, tn_mul, Int.reduceToNat, tn_cast, md_x]
            rw [if_pos (by omega)]
            refine ⟨_, _, a4, _, _, x3', _, _, _, e2, ?_⟩
            rw [if_neg (b0o_f ok)]
            refine ⟨_, _, _, g2, ?_⟩
            simp (disch := omega) only [eV_at, eV_up, o_lit2, o_add, o_sub, o_mul, o_neg, o_div, o_nat, ix_t, o_lt, o_le, o_eq, o_bi0, o_bi1, o_bib, em_t, o_neg1, o_shl, o_tb, o_tb0, o_tt, o_and, o_xor, o_or, o_max, o_min, an_tb, and_true, true_and, not_true, not_false, if_true, if_false, tn_add, tn_mul, Int.reduceToNat, tn_cast, md_x]
            rw [if_neg (by omega), if_neg (by omega)]
            apply sg_259_129
            simp (disch := omega) only [eV_at, eV_up, o_lit2, o_add, o_sub, o_mul, o_neg, o_div, o_nat, ix_t, o_lt, o_le, o_eq, o_bi0, o_bi1, o_bib, em_t, o_neg1, o_shl, o_tb, o_tb0, o_tt, o_and, o_xor, o_or, o_max, o_min, an_tb, and_true, true_and, not_true, not_false, if_true, if_false, tn_add, tn_mul, Int.reduceToNat, tn_cast, md_x]
            exact hr
        · refine ⟨⟨⟨E, J5⟩, ys, yh⟩, ⟨fVE, _, (w2.no (s := i) ok).cg hseen⟩, fun r hr => ?_⟩
          apply sg_259_45
          simp (disch := omega) only [e5, o_sh1s, eV_at, eV_up, o_lit2, o_add, o_sub, o_mul, o_neg, o_div, o_nat, ix_t, o_lt, o_le, o_eq, o_bi0, o_bi1, o_bib, em_t, o_neg1, o_shl, o_tb, o_tb0, o_tt, o_and, o_xor, o_or, o_max, o_min, an_tb, and_true, true_and, not_true, not_false, if_true, if_false, tn_add, tn_mul, Int.reduceToNat, tn_cast, md_x]
          rw [if_neg (by omega)]
          refine ⟨_, _, _, k185, ?_⟩
          simp (disch := omega) only [eV_at, eV_up, o_lit2, o_add, o_sub, o_mul, o_neg, o_div, o_nat, ix_t, o_lt, o_le, o_eq, o_bi0, o_bi1, o_bib, em_t, o_neg1, o_shl, o_tb, o_tb0, o_tt, o_and, o_xor, o_or, o_max, o_min, an_tb, and_true, true_and, not_true, not_false, if_true, if_false, tn_add, tn_mul, Int.reduceToNat, tn_cast, md_x]
          rw [if_pos (by omega)]
          refine ⟨_, _, a4, _, _, x3', _, _, _, e2, ?_⟩
          rw [if_pos (b0o_t ok)]
          apply sg_259_129
          simp (disch := omega) only [eV_at, eV_up, o_lit2, o_add, o_sub, o_mul, o_neg, o_div, o_nat, ix_t, o_lt, o_le, o_eq, o_bi0, o_bi1, o_bib, em_t, o_neg1, o_shl, o_tb, o_tb0, o_tt, o_and, o_xor, o_or, o_max, o_min, an_tb, and_true, true_and, not_true, not_false, if_true, if_false, tn_add, tn_mul, Int.reduceToNat, tn_cast, md_x]
          exact hr
      · refine ⟨⟨⟨W, J2⟩, ys, yh⟩, ⟨w1, yc, w2.cg (fun u => ?_)⟩, fun r hr => ?_⟩
        · constructor
          · intro hu; exact ⟨hu.1, hu.2.1, by omega⟩
          · intro hu
            refine ⟨hu.1, hu.2.1, ?_⟩
            rcases hu.2.2 with h | h
            · exact Or.inl h
            · by_cases e : u = i
              · subst e; exact absurd h.1 hp
              · exact Or.inr ⟨h.1, by omega⟩
        · apply sg_259_45
          simp (disch := omega) only [e5, o_sh1s, eV_at, eV_up, o_lit2, o_add, o_sub, o_mul, o_neg, o_div, o_nat, ix_t, o_lt, o_le, o_eq, o_bi0, o_bi1, o_bib, em_t, o_neg1, o_shl, o_tb, o_tb0, o_tt, o_and, o_xor, o_or, o_max, o_min, an_tb, and_true, true_and, not_true, not_false, if_true, if_false, tn_add, tn_mul, Int.reduceToNat, tn_cast, md_x]
          rw [if_neg (by omega)]
          refine ⟨_, _, _, k185, ?_⟩
          simp (disch := omega) only [eV_at, eV_up, o_lit2, o_add, o_sub, o_mul, o_neg, o_div, o_nat, ix_t, o_lt, o_le, o_eq, o_bi0, o_bi1, o_bib, em_t, o_neg1, o_shl, o_tb, o_tb0, o_tt, o_and, o_xor, o_or, o_max, o_min, an_tb, and_true, true_and, not_true, not_false, if_true, if_false, tn_add, tn_mul, Int.reduceToNat, tn_cast, md_x]
          rw [if_neg (by omega)]
          apply sg_259_129
          simp (disch := omega) only [eV_at, eV_up, o_lit2, o_add, o_sub, o_mul, o_neg, o_div, o_nat, ix_t, o_lt, o_le, o_eq, o_bi0, o_bi1, o_bib, em_t, o_neg1, o_shl, o_tb, o_tb0, o_tt, o_and, o_xor, o_or, o_max, o_min, an_tb, and_true, true_and, not_true, not_false, if_true, if_false, tn_add, tn_mul, Int.reduceToNat, tn_cast, md_x]
          exact hr) (2 ^ S) 0 ⟨⟨X, J3⟩, xs', xh⟩ (by omega) ⟨w1, w2⟩
    obtain ⟨yc, y2⟩ := y2
    refine ⟨⟨⟨Y, J4⟩, ys, yh⟩, ⟨y1, yc, y2.cg (fun u => ⟨fun hu => ⟨hu.1, hu.2.1, ?_⟩, fun hu => ⟨hu.1, hu.2.1, ?_⟩⟩)⟩, fun r hr => ?_⟩
    · have := hu.2.2; omega
    · have := hu.2.2; have := hu.1; omega
    · have e5 := c5 Y y1
      apply sg_259_35
      simp (disch := omega) only [eV_at, eV_up, o_lit2, o_add, o_sub, o_mul, o_neg, o_div, o_nat, ix_t, o_lt, o_le, o_eq, o_bi0, o_bi1, o_bib, em_t, o_neg1, o_shl, o_tb, o_tb0, o_tt, o_and, o_xor, o_or, o_max, o_min, an_tb, and_true, true_and, not_true, not_false, if_true, if_false, tn_add, tn_mul, Int.reduceToNat, tn_cast, md_x]
      rw [if_neg (by omega)]
      refine hrY _ ?_
      apply sg_259_45
      simp (disch := omega) only [e5, o_sh1s, eV_at, eV_up, o_lit2, o_add, o_sub, o_mul, o_neg, o_div, o_nat, ix_t, o_lt, o_le, o_eq, o_bi0, o_bi1, o_bib, em_t, o_neg1, o_shl, o_tb, o_tb0, o_tt, o_and, o_xor, o_or, o_max, o_min, an_tb, and_true, true_and, not_true, not_false, if_true, if_false, tn_add, tn_mul, Int.reduceToNat, tn_cast, md_x]
      rw [if_pos (by omega)]
      exact hr) 7 0 ⟨⟨V, J⟩, -1, 0⟩ (by omega) ⟨TF.rf, 0, Or.inl ⟨rfl, fun u hu => by have := hu.2.2; omega⟩⟩
  obtain ⟨yc, w2⟩ := w2
  refine ⟨W, J2, ys, yh, w1, ⟨yc, w2.cg (fun u => ⟨fun hu => ⟨hu.1, hu.2.1⟩, fun hu => ⟨hu.1, hu.2, ?_⟩⟩)⟩, hr⟩
  have := hu.2; omega
end MK
