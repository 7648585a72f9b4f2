/-! What to draw: rows and weighing in the class. -/
def RW (B V : Nat → Nat → Int) (us : Nat) (l : List Int) : Prop := ∀ t : Nat, (t : Int) < B 1 1 → us.testBit t = true → ∀ s, s < 2 ^ (B 3 (12 + t)).toNat → V 81 ((l.length * 12 + t) * 64 + s) = GN (gF B (lf l) (lkc B (12 + t))) (B 3 (12 + t)).toNat l.length s
def CS (B V : Nat → Nat → Int) (dr st us : Nat) (l : List Int) : Prop := Qy B V ∧ (V 75 8 = dr ∧ V 75 9 = st) ∧ (V 79 7 = dr ∧ V 79 8 = us) ∧ (∀ k, k < 8 → V 78 k = fct B dr l.length (lf l) k) ∧ N12 (V 78) ∧ RW B V us l
section MK
variable {L d : Nat} {xs : Nat → Int32} {B V : Nat → Nat → Int} {J : Nat → Nat → Int64} {tg : Option Nat} {dr st us : Nat} {l : List Int}
theorem k_3 {a b : Nat} (ha : a < 8) (hb : b < 12) : Runs (GW L xs) (d) 3 (0, [(Value.int (Int32.ofInt (a))), (Value.int (Int32.ofInt (b)))], [], zS (eV (V)) J tg) (some (Value.int (Int32.ofInt (((a * 12 + b) * 64 : Nat)))), zS (eV (V)) J tg) := by
  apply sg_3
  simp (disch := omega) only [eV_at, eV_up, o_lit2, o_add, o_sub, o_mul, o_neg, o_div, o_nat, ix_t, o_lt, o_le, o_eq, o_bi0, o_bi1, o_bib, em_t, o_neg1, o_shl, o_tb, o_tb0, o_tt, o_and, o_xor, o_or, o_max, o_min, an_tb, and_true, true_and, not_true, not_false, if_true, if_false, tn_add, tn_mul, Int.reduceToNat, tn_cast, md_x]
  rfl
/-- addToRows -/
theorem k_4 (hI : INV B) (h : CS B V dr st us l) (hl : l.length ≤ 5) {v : Int} (hv : 0 ≤ v ∧ v < 180) (hus : us < 4096) : ∃ W, (∀ c, c ≠ 73 → c ≠ 74 → c ≠ 81 → W c = V c) ∧ (∀ x, x < (l.length + 1) * 768 → W 81 x = V 81 x) ∧ RW B W us (l ++ [v]) ∧ Runs (GW L xs) (d + 2) 4 (0, [.ref 79, (Value.int (Int32.ofInt (v))), (Value.int (Int32.ofInt (l.length))), vU], [], zS (eV (V)) J tg) (none, zS (eV (W)) J tg) := by
  obtain ⟨q, -, ⟨-, h8⟩, -, -, hrw⟩ := h
  have rT : 0 ≤ B 1 1 ∧ B 1 1 ≤ 12 := hI.1 1 1 (by decide) (by decide)
  obtain ⟨T, hT⟩ : ∃ T : Nat, B 1 1 = T := ⟨(B 1 1).toNat, by omega⟩
  have hla : (l ++ [v]).length = l.length + 1 := by rw [List.length_append, List.length_singleton]
  have hcl : ∀ W : Nat → Nat → Int, (∀ c, c ≠ 73 → c ≠ 74 → c ≠ 81 → W c = V c) → (∀ x, x < (l.length + 1) * 768 → W 81 x = V 81 x) → Qy B W ∧ W 1 1 = T ∧ W 79 8 = us := fun W f f2 => by
    have qW : Qy B W := q.c8 (fun c _ q2 => f c (by omega) (by omega) (by omega)) fun x hx => f2 x (by omega)
    exact ⟨qW, by rw [qW.1 1 (by omega)]; exact hT, by rw [f 79 (by decide) (by decide) (by decide)]; exact h8⟩
  obtain ⟨W, ⟨i1, i2, i3⟩, hr⟩ := loopN (g := GW L xs) (d := d + 2) (mid := 4) (σ := Nat → Nat → Int) (fun t W => (2, [.ref 79, (Value.int (Int32.ofInt (v))), (Value.int (Int32.ofInt (l.length))), (Value.int (Int32.ofInt (t)))], [], zS (eV W) J tg)) (fun t W => (∀ c, c ≠ 73 → c ≠ 74 → c ≠ 81 → W c = V c) ∧ (∀ x, x < (l.length + 1) * 768 → W 81 x = V 81 x) ∧ ∀ j, j < t → us.testBit j = true → ∀ s, s < 2 ^ (B 3 (12 + j)).toNat → W 81 (((l.length + 1) * 12 + j) * 64 + s) = GN (gF B (lf (l ++ [v])) (lkc B (12 + j))) (B 3 (12 + j)).toNat (l ++ [v]).length s) T (by
    intro t W ht ⟨i1, i2, i3⟩
    obtain ⟨qW, e11, e8⟩ := hcl W i1 i2
    cases b : us.testBit t
    · refine ⟨W, ⟨i1, i2, fun j hj hb => ?_⟩, fun r hr => ?_⟩
      · by_cases e : j = t
        · subst e; rw [b] at hb; cases hb
        · exact i3 j (by omega) hb
      · apply sg_4_2
        simp (disch := omega) only [e11, e8, b, eV_at, eV_up, o_lit2, o_add, o_sub, o_mul, o_neg, o_div, o_nat, ix_t, o_lt, o_le, o_eq, o_bi0, o_bi1, o_bib, em_t, o_neg1, o_shl, o_tb, o_tb0, o_tt, o_and, o_xor, o_or, o_max, o_min, an_tb, and_true, true_and, not_true, not_false, if_true, if_false, tn_add, tn_mul, Int.reduceToNat, tn_cast, md_x]
        rw [if_neg (by omega)]
        first | exact hr | (rw [if_pos (by decide)]; exact hr)
    · have hRW : RNG W := hI.1.fr fun c hc => qW.1 c (by omega)
      have r3 : 0 ≤ B 3 (12 + t) ∧ B 3 (12 + t) ≤ 6 := hI.1 3 (12 + t) (by decide) (by decide)
      have h64 := p2_64 (m := (B 3 (12 + t)).toNat) (by omega)
      have e3 : W 3 = B 3 := qW.1 3 (by omega)
      have e1 : W 1 = B 1 := qW.1 1 (by omega)
      have e2 : W 2 = B 2 := qW.1 2 (by omega)
      have hgr := gF_rg hI.1 (lf l) (lkc B (12 + t))
      obtain ⟨X, j1, j2, j3, j4⟩ := k_66_81 (L := L) (xs := xs) (J := J) (tg := tg) (d := d) hRW (l := 12 + t) (by omega) (p := v) hv (F := GN (gF B (lf l) (lkc B (12 + t))) (B 3 (12 + t)).toNat l.length) (fr := (l.length * 12 + t) * 64) (to := ((l.length + 1) * 12 + t) * 64) (by omega) (by omega) (Or.inr (by omega)) (by
        rw [e3]; intro s hs
        rw [i2 _ (by omega)]
        exact hrw t (by omega) b s hs) (fun s => by have := GN_rg (m := (B 3 (12 + t)).toNat) hgr l.length s; omega) (fun s j hb => GN_mono hb)
      rw [e3, g1_fr e1, lkc_fr e2] at j3
      refine ⟨X, ⟨fun c a b e => by rw [j1 c a b e]; exact i1 c a b e, fun x hx => by rw [j2 x (by omega)]; exact i2 x hx, fun j hj hb s hs => ?_⟩, fun r hr => ?_⟩
      · by_cases e : j = t
        · subst e
          rw [j3 s hs, GN_app]
        · have r3' : 0 ≤ B 3 (12 + j) ∧ B 3 (12 + j) ≤ 6 := hI.1 3 (12 + j) (by decide) (by decide)
          have h64' := p2_64 (m := (B 3 (12 + j)).toNat) (by omega)
          rw [j2 _ (by omega)]
          exact i3 j (by omega) hb s hs
      · apply sg_4_2
        simp (disch := omega) only [e11, e8, b, eV_at, eV_up, o_lit2, o_add, o_sub, o_mul, o_neg, o_div, o_nat, ix_t, o_lt, o_le, o_eq, o_bi0, o_bi1, o_bib, em_t, o_neg1, o_shl, o_tb, o_tb0, o_tt, o_and, o_xor, o_or, o_max, o_min, an_tb, and_true, true_and, not_true, not_false, if_true, if_false, tn_add, tn_mul, Int.reduceToNat, tn_cast, md_x]
        rw [if_neg (by omega)]
        first | rw [if_neg (by decide)] | skip
        refine ⟨_, _, k_3 (a := l.length) (b := t) (by omega) (by omega), _, _, k_3 (a := l.length + 1) (b := t) (by omega) (by omega), ?_⟩
        exact ⟨_, j4, hr⟩) T 0 V (by omega) ⟨fun _ _ _ _ => rfl, fun _ _ => rfl, fun j h => by omega⟩
  obtain ⟨qW, e11, e8⟩ := hcl W i1 i2
  refine ⟨W, i1, i2, fun t ht hb s hs => by rw [hla]; have := i3 t (by omega) hb s hs; rw [hla] at this; exact this, ?_⟩
  apply sg_4
  refine hr _ ?_
  apply sg_4_2
  simp (disch := omega) only [e11, eV_at, eV_up, o_lit2, o_add, o_sub, o_mul, o_neg, o_div, o_nat, ix_t, o_lt, o_le, o_eq, o_bi0, o_bi1, o_bib, em_t, o_neg1, o_shl, o_tb, o_tb0, o_tt, o_and, o_xor, o_or, o_max, o_min, an_tb, and_true, true_and, not_true, not_false, if_true, if_false, tn_add, tn_mul, Int.reduceToNat, tn_cast, md_x]
  rw [if_pos (by omega)] <;> first | rfl | trivial
/-- better than the best so far -/
def bte (ys yh yc hm : Int) (n s : Nat) : Prop := ys = -1 ∨ hm < yh ∨ (hm = yh ∧ ((n : Int) < yc ∨ ((n : Int) = yc ∧ (s : Int) < ys)))
theorem k_6 {s n : Nat} {ys yc : Int} (hs : s < 4096) (hn : n < 100) (h10 : V 79 10 = ys) (h9 : V 79 9 = yc) (r1 : -1 ≤ ys ∧ ys < 4096) (r2 : 0 ≤ yc ∧ yc ≤ 100) : Runs (GW L xs) (d) 6 (0, [.ref 79, (Value.int (Int32.ofInt (s))), (Value.int (Int32.ofInt (n)))], [], zS (eV (V)) J tg) (some (Value.int (Int32.ofInt (bi ((n : Int) < yc ∨ ((n : Int) = yc ∧ (s : Int) < ys))))), zS (eV (V)) J tg) := by
  apply sg_6
  simp (disch := omega) only [h10, h9, eV_at, eV_up, o_lit2, o_add, o_sub, o_mul, o_neg, o_div, o_nat, ix_t, o_lt, o_le, o_eq, o_bi0, o_bi1, o_bib, em_t, o_neg1, o_shl, o_tb, o_tb0, o_tt, o_and, o_xor, o_or, o_max, o_min, an_tb, and_true, true_and, not_true, not_false, if_true, if_false, tn_add, tn_mul, Int.reduceToNat, tn_cast, md_x]
  by_cases c1 : (n : Int) < yc
  · rw [if_pos c1]; refine leafI ?_; exact (bi_t (Or.inl c1)).symm
  · rw [if_neg c1]
    by_cases c2 : (n : Int) = yc
    · rw [if_pos c2]
      by_cases c3 : ys ≤ (s : Int)
      · rw [if_pos c3]; refine leafI ?_; exact (bi_f (by omega)).symm
      · rw [if_neg c3]; refine leafI ?_; exact (bi_t (by omega)).symm
    · rw [if_neg c2]; refine leafI ?_; exact (bi_f (by omega)).symm
def hmd (B : Nat → Nat → Int) (dr st : Nat) (l : List Int) : Int := alh B dr st (bi (smG B 4 1 (fct B dr l.length (lf l)) = true)) (fct B dr l.length (lf l)) (scp B l.length (lf l) (B 4 dr) st) 6
theorem hmd_rg (hI : INV B) (hst : st < 6) (hl : l.length ≤ 6) : 0 ≤ hmd B dr st l ∧ hmd B dr st l ≤ 594000000 := by
  have := alh_rg hI (dr := dr) (st := st) (dn := bi (smG B 4 1 (fct B dr l.length (lf l)) = true)) (F := fct B dr l.length (lf l)) (sc := scp B l.length (lf l) (B 4 dr) st) (fun k _ => by have := fct_rg hI.1 (dr := dr) (n := l.length) (by omega) (lf l) k; omega) hst (fun t => scp_rg hI.1 hl _ _ _ t) 6
  unfold hmd
  omega
/-- weighMade -/
theorem k_5 (hI : INV B) (h : CS B V dr st us l) (hd : dr < 12) (hst : st < 6) (hl : l.length ≤ 6) (hus : us < 4096) (huse : ∀ ld, ld < 6 → 0 < B 8 ld → ∀ t, (B 9 ld).toNat.testBit t = true → us.testBit t = true) {ys yh yc : Int} (h10 : V 79 10 = ys) (h11 : V 79 11 = yh) (h9 : V 79 9 = yc) {s : Nat} (hs : s < 4096) (r1 : -1 ≤ ys ∧ ys < 4096) (r2 : ys ≠ -1 → (0 ≤ yh ∧ yh ≤ 594000000) ∧ 0 ≤ yc ∧ yc ≤ 100) : ∃ W : Nat → Nat → Int, (∀ c, c ≠ 45 → c ≠ 75 → c ≠ 77 → c ≠ 78 → c ≠ 79 → W c = V c) ∧ W 75 8 = dr ∧ W 75 9 = st ∧ W 79 7 = dr ∧ W 79 8 = us ∧ (∀ k, k < 8 → W 78 k = V 78 k) ∧ N12 (W 78) ∧ ((bte ys yh yc (hmd B dr st l) l.length s ∧ W 79 10 = s ∧ W 79 11 = hmd B dr st l ∧ W 79 9 = l.length) ∨ (¬ bte ys yh yc (hmd B dr st l) l.length s ∧ W 79 10 = ys ∧ W 79 11 = yh ∧ W 79 9 = yc)) ∧ Runs (GW L xs) (d + 5) 5 (0, [.ref 79, (Value.int (Int32.ofInt (s))), (Value.int (Int32.ofInt (l.length))), vU, vU, vU], [], zS (eV (V)) J tg) (none, zS (eV (W)) J tg) := by
  obtain ⟨q, ⟨g8, g9⟩, ⟨g7, h8⟩, hF, hN, hrw⟩ := h
  have rT : 0 ≤ B 1 1 ∧ B 1 1 ≤ 12 := hI.1 1 1 (by decide) (by decide)
  have r4 : 0 ≤ B 4 dr ∧ B 4 dr ≤ 3 := hI.1 4 dr (by decide) (by decide)
  obtain ⟨T, hT⟩ : ∃ T : Nat, B 1 1 = T := ⟨(B 1 1).toNat, by omega⟩
  have hcl : ∀ W : Nat → Nat → Int, (∀ c, c ≠ 77 → W c = V c) → Qy B W ∧ W 1 1 = T ∧ W 79 8 = us ∧ W 79 7 = dr := fun W f => by
    have qW : Qy B W := q.cl fun c _ q2 => f c (by omega)
    exact ⟨qW, by rw [qW.1 1 (by omega)]; exact hT, by rw [f 79 (by decide)]; exact h8, by rw [f 79 (by decide)]; exact g7⟩
  obtain ⟨U, ⟨i1, i2⟩, hr⟩ := loopN (g := GW L xs) (d := d + 5) (mid := 5) (σ := Nat → Nat → Int) (fun t W => (2, [.ref 79, (Value.int (Int32.ofInt (s))), (Value.int (Int32.ofInt (l.length))), (Value.int (Int32.ofInt (t))), vU, vU], [], zS (eV W) J tg)) (fun t W => (∀ c, c ≠ 77 → W c = V c) ∧ ∀ j, j < t → us.testBit j = true → W 77 j = scp B l.length (lf l) (B 4 dr) st j) T (by
    intro t W ht ⟨i1, i2⟩
    obtain ⟨qW, e11, e8, e7⟩ := hcl W i1
    cases b : us.testBit t
    · refine ⟨W, ⟨i1, fun j hj hb => ?_⟩, fun r hr => ?_⟩
      · by_cases e : j = t
        · subst e; rw [b] at hb; cases hb
        · exact i2 j (by omega) hb
      · apply sg_5_2
        simp (disch := omega) only [e11, e8, b, eV_at, eV_up, o_lit2, o_add, o_sub, o_mul, o_neg, o_div, o_nat, ix_t, o_lt, o_le, o_eq, o_bi0, o_bi1, o_bib, em_t, o_neg1, o_shl, o_tb, o_tb0, o_tt, o_and, o_xor, o_or, o_max, o_min, an_tb, and_true, true_and, not_true, not_false, if_true, if_false, tn_add, tn_mul, Int.reduceToNat, tn_cast, md_x]
        rw [if_neg (by omega)]
        first | exact hr | (rw [if_pos (by decide)]; exact hr)
    · have hRW : RNG W := hI.1.fr fun c hc => qW.1 c (by omega)
      have r3 : 0 ≤ B 3 (12 + t) ∧ B 3 (12 + t) ≤ 6 := hI.1 3 (12 + t) (by decide) (by decide)
      have h64 := p2_64 (m := (B 3 (12 + t)).toNat) (by omega)
      have hpos := Nat.pow_pos (a := 2) (n := (B 3 (12 + t)).toNat) (by omega)
      have e3 : W 3 (12 + t) = B 3 (12 + t) := by rw [qW.1 3 (by omega)]
      have e1 : W 1 = B 1 := qW.1 1 (by omega)
      have e4 : W 4 = B 4 := qW.1 4 (by omega)
      have e10 : W 10 = B 10 := qW.1 10 (by omega)
      have e9 : W 75 9 = st := by rw [i1 75 (by decide)]; exact g9
      have k5 := k_65 (L := L) (xs := xs) (J := J) (tg := tg) (d := d + 4) hRW (l := 12 + t) (by omega)
      rw [e3] at k5
      have k4 := fun gn => k_64 (L := L) (xs := xs) (J := J) (tg := tg) (d := d + 4) hRW (l := 12 + t) (by omega) (sz := l.length) (cl := B 4 dr) (gn := gn) r4
      have hro := hrw t (by omega) b (2 ^ (B 3 (12 + t)).toNat - 1) (by omega)
      have k4 := k4 (GN (gF B (lf l) (lkc B (12 + t))) (B 3 (12 + t)).toNat l.length (2 ^ (B 3 (12 + t)).toNat - 1))
      rw [e1, e3, e4] at k4
      have k4 : Runs (GW L xs) (d + 4) 64 (0, [.ref 70, (Value.int (Int32.ofInt (l.length))), (Value.int (Int32.ofInt (B 4 dr))), (Value.int (Int32.ofInt ((12 + t : Nat)))), (Value.int (Int32.ofInt (GN (gF B (lf l) (lkc B (12 + t))) (B 3 (12 + t)).toNat l.length (2 ^ (B 3 (12 + t)).toNat - 1)))), vU], [], zS (eV (W)) J tg) (some (Value.int (Int32.ofInt (FARp B l.length (lf l) (B 4 dr) (12 + t)))), zS (eV (W)) J tg) := k4
      have k6 : Runs (GW L xs) (d + 4) 96 (0, [.ref 75, (Value.int (Int32.ofInt (t))), (Value.int (Int32.ofInt (FARp B l.length (lf l) (B 4 dr) (12 + t))))], [], zS (eV (W)) J tg) (none, zS (eV (up2 W 77 t (scp B l.length (lf l) (B 4 dr) st t))) J tg) := by
        apply sg_96
        simp (disch := omega) only [e9, e10, eV_at, eV_up, o_lit2, o_add, o_sub, o_mul, o_neg, o_div, o_nat, ix_t, o_lt, o_le, o_eq, o_bi0, o_bi1, o_bib, em_t, o_neg1, o_shl, o_tb, o_tb0, o_tt, o_and, o_xor, o_or, o_max, o_min, an_tb, and_true, true_and, not_true, not_false, if_true, if_false, tn_add, tn_mul, Int.reduceToNat, tn_cast, md_x]
        rfl
      have hz : 2 ^ (B 3 (12 + t)).toNat - 1 < 64 := by omega
      generalize 2 ^ (B 3 (12 + t)).toNat - 1 = z at k5 k4 hro hz
      refine ⟨up2 W 77 t (scp B l.length (lf l) (B 4 dr) st t), ⟨fun c hc => by rw [w_ne _ _ _ _ hc]; exact i1 c hc, fun j hj hb => ?_⟩, fun r hr => ?_⟩
      · rw [w_at]
        by_cases e : j = t
        · rw [if_pos e, e]
        · rw [if_neg e]; exact i2 j (by omega) hb
      · have e81 : W 81 ((l.length * 12 + t) * 64 + z) = GN (gF B (lf l) (lkc B (12 + t))) (B 3 (12 + t)).toNat l.length z := by rw [i1 81 (by decide)]; exact hro
        have ez : (((l.length * 12 + t) * 64 : Nat) : Int) + (z : Int) = (((l.length * 12 + t) * 64 + z : Nat) : Int) := by omega
        apply sg_5_2
        simp (disch := omega) only [e11, e8, b, eV_at, eV_up, o_lit2, o_add, o_sub, o_mul, o_neg, o_div, o_nat, ix_t, o_lt, o_le, o_eq, o_bi0, o_bi1, o_bib, em_t, o_neg1, o_shl, o_tb, o_tb0, o_tt, o_and, o_xor, o_or, o_max, o_min, an_tb, and_true, true_and, not_true, not_false, if_true, if_false, tn_add, tn_mul, Int.reduceToNat, tn_cast, md_x]
        rw [if_neg (by omega)]
        first | rw [if_neg (by decide)] | skip
        refine ⟨_, _, k_3 (a := l.length) (b := t) (by omega) (by omega), _, _, k5, ?_⟩
        simp (disch := omega) only [e7, e4, ez, e81, eV_at, eV_up, o_lit2, o_add, o_sub, o_mul, o_neg, o_div, o_nat, ix_t, o_lt, o_le, o_eq, o_bi0, o_bi1, o_bib, em_t, o_neg1, o_shl, o_tb, o_tb0, o_tt, o_and, o_xor, o_or, o_max, o_min, an_tb, and_true, true_and, not_true, not_false, if_true, if_false, tn_add, tn_mul, Int.reduceToNat, tn_cast, md_x]
        exact ⟨_, _, k4, _, k6, hr⟩) T 0 V (by omega) ⟨fun _ _ => rfl, fun j h => by omega⟩
  obtain ⟨qU, e11, e8, e7⟩ := hcl U i1
  have eF : ∀ k, k < 8 → U 78 k = fct B dr l.length (lf l) k := fun k hk => by rw [i1 78 (by decide)]; exact hF k hk
  have hNU : N12 (U 78) := by rw [i1 78 (by decide)]; exact hN
  obtain ⟨X, w1, w2, w3, w4⟩ := k_98 (L := L) (xs := xs) (J := J) (tg := tg) (d := d + 1) hI qU hNU
  rw [smG_cg hI (by decide) eF] at w3
  have qX : Qy B X := qU.cl fun c q1 q2 => w1 c (by omega) (by omega)
  have x78 : X 78 = V 78 := by rw [w1 78 (by decide) (by decide), i1 78 (by decide)]
  have x758 : X 75 8 = dr := by rw [w2 8 (by decide), i1 75 (by decide)]; exact g8
  have x759 : X 75 9 = st := by rw [w2 9 (by decide), i1 75 (by decide)]; exact g9
  have hM : MT B X dr st (bi (smG B 4 1 (fct B dr l.length (lf l)) = true)) (fct B dr l.length (lf l)) (scp B l.length (lf l) (B 4 dr) st) := ⟨x758, x759, w3, fun k hk => by rw [x78]; exact hF k hk, by rw [x78]; exact hN, fun ld hld hsh t ht => by
    rw [w1 77 (by decide) (by decide)]
    refine i2 t ?_ (huse ld hld hsh t ht)
    obtain ⟨k1, k2, k3⟩ := know_lt hI hld
    have := Nat.lt_of_not_le fun hle => by rw [tb_hi k1 hle] at ht; exact Bool.noConfusion ht
    omega⟩
  obtain ⟨Y, y1, y2, y3, y4⟩ := k_105 (L := L) (xs := xs) (J := J) (tg := tg) (d := d + 1) hI qX hd hst (by unfold bi; split <;> omega) (fun t => scp_rg hI.1 hl _ _ _ t) hM
  have y4 : Runs (GW L xs) (d + 4) 105 (0, [.ref 75, vU, vU], [], zS (eV (X)) J tg) (some (Value.int (Int32.ofInt (hmd B dr st l))), zS (eV (Y)) J tg) := y4
  have hh := hmd_rg hI (dr := dr) (st := st) (l := l) hst hl
  generalize hmd B dr st l = hm at *
  have y79 : Y 79 = V 79 := by rw [y1 79 (by decide) (by decide), w1 79 (by decide) (by decide), i1 79 (by decide)]
  have y75 : Y 75 = X 75 := y1 75 (by decide) (by decide)
  have z10 : Y 79 10 = ys := by rw [y79]; exact h10
  have z11 : Y 79 11 = yh := by rw [y79]; exact h11
  have z9 : Y 79 9 = yc := by rw [y79]; exact h9
  have z7 : Y 79 7 = dr := by rw [y79]; exact g7
  have z8 : Y 79 8 = us := by rw [y79]; exact h8
  have start : ∀ r, Runs (GW L xs) (d + 5) 5 (2, [.ref 79, (Value.int (Int32.ofInt (s))), (Value.int (Int32.ofInt (l.length))), (Value.int (Int32.ofInt (T))), vU, vU], [], zS (eV U) J tg) r → Runs (GW L xs) (d + 5) 5 (0, [.ref 79, (Value.int (Int32.ofInt (s))), (Value.int (Int32.ofInt (l.length))), vU, vU, vU], [], zS (eV V) J tg) r := fun r h => by
    apply sg_5
    exact hr _ h
  have fr : ∀ c, c ≠ 45 → c ≠ 75 → c ≠ 77 → c ≠ 78 → c ≠ 79 → Y c = V c := fun c q1 q2 q3 q4 q5 => by rw [y1 c q1 q4, w1 c q1 q2]; exact i1 c q3
  have f78 : ∀ k, k < 8 → Y 78 k = V 78 k := fun k hk => by rw [y2 k hk, x78]
  have newR : bte ys yh yc hm l.length s → ∃ W : Nat → Nat → Int, (∀ c, c ≠ 45 → c ≠ 75 → c ≠ 77 → c ≠ 78 → c ≠ 79 → W c = V c) ∧ W 75 8 = dr ∧ W 75 9 = st ∧ W 79 7 = dr ∧ W 79 8 = us ∧ (∀ k, k < 8 → W 78 k = V 78 k) ∧ N12 (W 78) ∧ ((bte ys yh yc hm l.length s ∧ W 79 10 = s ∧ W 79 11 = hm ∧ W 79 9 = l.length) ∨ (¬ bte ys yh yc hm l.length s ∧ W 79 10 = ys ∧ W 79 11 = yh ∧ W 79 9 = yc)) ∧ W = up2 (up2 (up2 Y 79 10 s) 79 11 hm) 79 9 l.length := fun hb => ⟨_, fun c q1 q2 q3 q4 q5 => by rw [w_ne _ _ _ _ q5, w_ne _ _ _ _ q5, w_ne _ _ _ _ q5]; exact fr c q1 q2 q3 q4 q5, by rw [w_nc _ _ _ _ (by decide), w_nc _ _ _ _ (by decide), w_nc _ _ _ _ (by decide), y75]; exact x758, by rw [w_nc _ _ _ _ (by decide), w_nc _ _ _ _ (by decide), w_nc _ _ _ _ (by decide), y75]; exact x759, by rw [w_at, if_neg (by decide), w_at, if_neg (by decide), w_at, if_neg (by decide)]; exact z7, by rw [w_at, if_neg (by decide), w_at, if_neg (by decide), w_at, if_neg (by decide)]; exact z8, fun k hk => by rw [w_nc _ _ _ _ (by decide), w_nc _ _ _ _ (by decide), w_nc _ _ _ _ (by decide)]; exact f78 k hk, by rw [w_ne _ _ _ _ (by decide), w_ne _ _ _ _ (by decide), w_ne _ _ _ _ (by decide)]; exact y3, Or.inl ⟨hb, by rw [w_at, if_neg (by decide), w_at, if_neg (by decide), w_eq], by rw [w_at, if_neg (by decide), w_eq], by rw [w_eq]⟩, rfl⟩
  by_cases hb : bte ys yh yc hm l.length s
  · obtain ⟨W, a1, a2, a3, a4, a5, a6, a7, a8, a9⟩ := newR hb
    refine ⟨W, a1, a2, a3, a4, a5, a6, a7, a8, ?_⟩
    refine start _ ?_
    apply sg_5_2
    simp (disch := omega) only [e11, eV_at, eV_up, o_lit2, o_add, o_sub, o_mul, o_neg, o_div, o_nat, ix_t, o_lt, o_le, o_eq, o_bi0, o_bi1, o_bib, em_t, o_neg1, o_shl, o_tb, o_tb0, o_tt, o_and, o_xor, o_or, o_max, o_min, an_tb, and_true, true_and, not_true, not_false, if_true, if_false, tn_add, tn_mul, Int.reduceToNat, tn_cast, md_x]
    rw [if_pos (by omega)]
    refine ⟨_, w4, _, _, y4, ?_⟩
    by_cases c1 : ys = -1
    · simp (disch := omega) only [z10, eV_at, eV_up, o_lit2, o_add, o_sub, o_mul, o_neg, o_div, o_nat, ix_t, o_lt, o_le, o_eq, o_bi0, o_bi1, o_bib, em_t, o_neg1, o_shl, o_tb, o_tb0, o_tt, o_and, o_xor, o_or, o_max, o_min, an_tb, and_true, true_and, not_true, not_false, if_true, if_false, tn_add, tn_mul, Int.reduceToNat, tn_cast, md_x]
      rw [if_pos c1, a9]
    · obtain ⟨r3, r4⟩ := r2 c1
      simp (disch := omega) only [z10, z11, eV_at, eV_up, o_lit2, o_add, o_sub, o_mul, o_neg, o_div, o_nat, ix_t, o_lt, o_le, o_eq, o_bi0, o_bi1, o_bib, em_t, o_neg1, o_shl, o_tb, o_tb0, o_tt, o_and, o_xor, o_or, o_max, o_min, an_tb, and_true, true_and, not_true, not_false, if_true, if_false, tn_add, tn_mul, Int.reduceToNat, tn_cast, md_x]
      rw [if_neg c1]
      by_cases c2 : hm < yh
      · rw [if_pos c2, a9]
      · rw [if_neg c2]
        unfold bte at hb
        have c3 : hm = yh := by omega
        rw [if_pos c3]
        refine ⟨_, _, k_6 hs (by omega) z10 z9 r1 r4, ?_⟩
        rw [if_neg (b0o_f (by omega)), a9]
        simp only [eV_up]
  · refine ⟨Y, fr, by rw [y75]; exact x758, by rw [y75]; exact x759, z7, z8, f78, y3, Or.inr ⟨hb, z10, z11, z9⟩, ?_⟩
    refine start _ ?_
    apply sg_5_2
    simp (disch := omega) only [e11, eV_at, eV_up, o_lit2, o_add, o_sub, o_mul, o_neg, o_div, o_nat, ix_t, o_lt, o_le, o_eq, o_bi0, o_bi1, o_bib, em_t, o_neg1, o_shl, o_tb, o_tb0, o_tt, o_and, o_xor, o_or, o_max, o_min, an_tb, and_true, true_and, not_true, not_false, if_true, if_false, tn_add, tn_mul, Int.reduceToNat, tn_cast, md_x]
    rw [if_pos (by omega)]
    refine ⟨_, w4, _, _, y4, ?_⟩
    have c1 : ¬ ys = -1 := fun e => hb (Or.inl e)
    obtain ⟨r3, r4⟩ := r2 c1
    simp (disch := omega) only [z10, z11, eV_at, eV_up, o_lit2, o_add, o_sub, o_mul, o_neg, o_div, o_nat, ix_t, o_lt, o_le, o_eq, o_bi0, o_bi1, o_bib, em_t, o_neg1, o_shl, o_tb, o_tb0, o_tt, o_and, o_xor, o_or, o_max, o_min, an_tb, and_true, true_and, not_true, not_false, if_true, if_false, tn_add, tn_mul, Int.reduceToNat, tn_cast, md_x]
    rw [if_neg c1, if_neg (fun e => hb (Or.inr (Or.inl e)))]
    by_cases c3 : hm = yh
    · rw [if_pos c3]
      refine ⟨_, _, k_6 hs (by omega) z10 z9 r1 r4, ?_⟩
      rw [if_pos (b0o_t (fun e => hb (Or.inr (Or.inr ⟨c3, e⟩))))]
    · rw [if_neg c3]; trivial
end MK
