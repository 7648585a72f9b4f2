/-! farOf. -/
def FARg (mv tn dr ti : Int) (n : Nat) (p : Nat → Int) (cp : Int) (m : Nat) (q : Nat → Int) (cq : Int) : Int := dr * (n + m) - GN (gpr dr (okF p q) (csF mv tn p q)) m n (2 ^ m - 1) + (if cp = cq then 0 else ti)
section FN
variable {L d : Nat} {xs : Nat → Int32} {J : Nat → Nat → Int64} {tg : Option Nat} {V : Nat → Nat → Int} {a b n m : Nat} {p q : Nat → Int} {cp cq : Int}
theorem k_197 (hW : okW V) (ha : okL V a n p cp) (hb : okL V b m q cq) : ∃ X, (∀ c, c ≠ 97 → c ≠ 98 → X c = V c) ∧ Runs (GW L xs) (d + 3) 197 (0, [.ref 93, (Value.int (Int32.ofInt (a))), (Value.int (Int32.ofInt (b))), vU, vU, vU, vU, vU, vU, vU], [], zS (eV (V)) J tg) (some (Value.int (Int32.ofInt (FARg (V 94 8) (V 94 9) (V 94 10) (V 94 11) n p cp m q cq))), zS (eV (X)) J tg) := by
  obtain ⟨a1, a2, a3, a4, a5, a6⟩ := ha
  have hb' := hb
  obtain ⟨b1, b2, b3, b4, b5, b6⟩ := hb
  have h64 := p2_64 b2
  have hpos := Nat.pow_pos (a := 2) (n := m) (by omega)
  have hdr := hW.2.2.1
  have hsn := SN_rg (ok := okF p q) (c := csF (V 94 8) (V 94 9) p q) (m := m) hW.2.2.1 (fun i j => (cst_rg hW.1 hW.2.1).1)
  obtain ⟨A, ⟨c1, c2⟩, hr1⟩ := loopN (g := GW L xs) (d := d + 3) (mid := 197) (σ := Nat → Nat → Int) (fun s X => (10, [.ref 93, (Value.int (Int32.ofInt (a))), (Value.int (Int32.ofInt (b))), (Value.int (Int32.ofInt (m))), (Value.int (Int32.ofInt (s))), vU, vU, vU, vU, vU], [], zS (eV X) J tg)) (fun s X => (∀ c, c ≠ 97 → X c = V c) ∧ ∀ t, t < s → X 97 t = SN (okF p q) (csF (V 94 8) (V 94 9) p q) (V 94 10) m 0 t) (2 ^ m) (by
    intro s X hs ⟨i1, i2⟩
    refine ⟨up2 X 97 s (if s = 0 then 0 else 1000000), ⟨fun c h => by rw [w_ne _ _ _ _ h]; exact i1 c h, fun t ht => ?_⟩, fun r hr => sg_197_10 _ _ _ _ _ _ _ ?_⟩
    · rw [w_at]
      by_cases e : t = s
      · subst e; rw [if_pos rfl]; rfl
      · rw [if_neg e]; exact i2 t (by omega)
    · by_cases e : s = 0
      · subst e
        simp (disch := omega) only [eV_at, eV_up, o_lit2, o_add, o_sub, o_mul, o_neg, o_div, o_nat, ix_t, o_lt, o_le, o_eq, o_bi0, o_bi1, o_bib, em_t, o_neg1, o_shl, o_tb, o_tb0, o_tt, o_and, o_xor, o_or, o_max, o_min, an_tb, and_true, true_and, not_true, not_false, if_true, if_false, tn_add, tn_mul, Int.reduceToNat, tn_cast, md_x]
        rw [if_neg (by omega), if_pos (by omega)]
        exact hr
      · rw [if_neg e] at hr
        simp (disch := omega) only [eV_at, eV_up, o_lit2, o_add, o_sub, o_mul, o_neg, o_div, o_nat, ix_t, o_lt, o_le, o_eq, o_bi0, o_bi1, o_bib, em_t, o_neg1, o_shl, o_tb, o_tb0, o_tt, o_and, o_xor, o_or, o_max, o_min, an_tb, and_true, true_and, not_true, not_false, if_true, if_false, tn_add, tn_mul, Int.reduceToNat, tn_cast, md_x]
        rw [if_neg (by omega), if_neg (by omega)]
        exact hr) (2 ^ m) 0 V (by omega) ⟨fun _ _ => rfl, fun t h => by omega⟩
  obtain ⟨B, ⟨d1, d2⟩, hr2⟩ := loopN (g := GW L xs) (d := d + 3) (mid := 197) (σ := Nat → Nat → Int) (fun i X => (45, [.ref 93, (Value.int (Int32.ofInt (a))), (Value.int (Int32.ofInt (b))), (Value.int (Int32.ofInt (m))), (Value.int (Int32.ofInt (i))), vU, vU, vU, vU, vU], [], zS (eV X) J tg)) (fun i X => (∀ c, c ≠ 97 → c ≠ 98 → X c = V c) ∧ ∀ t, t < 2 ^ m → X 97 t = SN (okF p q) (csF (V 94 8) (V 94 9) p q) (V 94 10) m i t) n (by
    intro i W hi ⟨i1, i2⟩
    have e94 : W 94 = V 94 := i1 94 (by decide) (by decide)
    obtain ⟨a7, a8, a9⟩ := a6 i hi
    have k1 := k_184 (L := L) (xs := xs) (J := J) (tg := tg) (d := d + 2) (V := W) (l := a) (w := 0) (by omega)
    have k2 := k_184 (L := L) (xs := xs) (J := J) (tg := tg) (d := d + 2) (V := W) (l := a) (w := 4 + i) (by omega)
    rw [e94, a3] at k1
    rw [e94, a7] at k2
    obtain ⟨X, j1, j2, j3⟩ := k_197s (L := L) (xs := xs) (J := J) (tg := tg) (d := d + 1) (W := W) (b := b) (m := m) (p := p) (q := q) (cq := cq) (by unfold okW; rw [e94]; exact hW) (by unfold okL; rw [e94]; exact hb') (i := i) (x1 := a) ⟨a8, a9⟩ (by omega) (by rw [e94]; exact i2)
    rw [e94] at j2
    obtain ⟨Y, l1, l2, l3⟩ := k_197c (L := L) (xs := xs) (J := J) (tg := tg) (d := d + 1) (W := X) (m := m) b2 (x1 := Int32.ofInt a) (x2 := Int32.ofInt b) (x4 := Int32.ofInt i) (x5 := Int32.ofInt (p i))
    refine ⟨Y, ⟨fun c h1 h2 => by rw [l1 c h1, j1 c h2]; exact i1 c h1 h2, fun t ht => by rw [l2 t ht]; exact j2 t ht⟩, fun r hr => sg_197_45 _ _ _ _ _ _ _ ⟨_, _, _, k1, ?_⟩⟩
    simp (disch := omega) only [eV_at, eV_up, o_lit2, o_add, o_sub, o_mul, o_neg, o_div, o_nat, ix_t, o_lt, o_le, o_eq, o_bi0, o_bi1, o_bib, em_t, o_neg1, o_shl, o_tb, o_tb0, o_tt, o_and, o_xor, o_or, o_max, o_min, an_tb, and_true, true_and, not_true, not_false, if_true, if_false, tn_add, tn_mul, Int.reduceToNat, tn_cast, md_x]
    rw [if_neg (by omega)]
    refine ⟨_, _, _, k2, j3 r (sg_197_70 _ _ _ _ _ _ _ _ _ ?_)⟩
    simp (disch := omega) only [eV_at, eV_up, o_lit2, o_add, o_sub, o_mul, o_neg, o_div, o_nat, ix_t, o_lt, o_le, o_eq, o_bi0, o_bi1, o_bib, em_t, o_neg1, o_shl, o_tb, o_tb0, o_tt, o_and, o_xor, o_or, o_max, o_min, an_tb, and_true, true_and, not_true, not_false, if_true, if_false, tn_add, tn_mul, Int.reduceToNat, tn_cast, md_x]
    rw [if_pos (by omega)]
    refine l3 r (sg_197_205 _ _ _ _ _ _ _ _ _ ?_)
    simp (disch := omega) only [eV_at, eV_up, o_lit2, o_add, o_sub, o_mul, o_neg, o_div, o_nat, ix_t, o_lt, o_le, o_eq, o_bi0, o_bi1, o_bib, em_t, o_neg1, o_shl, o_tb, o_tb0, o_tt, o_and, o_xor, o_or, o_max, o_min, an_tb, and_true, true_and, not_true, not_false, if_true, if_false, tn_add, tn_mul, Int.reduceToNat, tn_cast, md_x]
    rw [if_pos (by omega)]
    exact hr) n 0 A (by omega) ⟨fun c h _ => c1 c h, c2⟩
  have e94 : B 94 = V 94 := d1 94 (by decide) (by decide)
  have k1 := k_184 (L := L) (xs := xs) (J := J) (tg := tg) (d := d + 2) (V := V) (l := b) (w := 0) (by omega)
  rw [b3] at k1
  have k2 := k_184 (L := L) (xs := xs) (J := J) (tg := tg) (d := d + 2) (V := B) (l := a) (w := 0) (by omega)
  rw [e94, a3] at k2
  have k3 := k_184 (L := L) (xs := xs) (J := J) (tg := tg) (d := d + 2) (V := B) (l := a) (w := 1) (by omega)
  rw [e94, a4] at k3
  have k4 := k_184 (L := L) (xs := xs) (J := J) (tg := tg) (d := d + 2) (V := B) (l := b) (w := 1) (by omega)
  rw [e94, b4] at k4
  obtain ⟨_, _, hr3⟩ := loopN (g := GW L xs) (d := d + 3) (mid := 197) (σ := Unit) (fun s _ => (246, [.ref 93, (Value.int (Int32.ofInt (a))), (Value.int (Int32.ofInt (b))), (Value.int (Int32.ofInt (m))), (Value.int (Int32.ofInt (bst (fun s => SN (okF p q) (csF (V 94 8) (V 94 9) p q) (V 94 10) m n s + V 94 10 * (m - pcn s 12)) s))), (Value.int (Int32.ofInt (s))), vU, vU, vU, vU], [], zS (eV B) J tg)) (fun _ _ => True) (2 ^ m) (by
    intro s _ hs _
    have hsn' := hsn n s
    have hpc := pcn_le s m
    have epc : pcn s 12 = pcn s m := by rw [show 12 = m + (12 - m) by omega, pcn_ext hs]
    have hml := mul_rg hdr (b := (m : Int) - pcn s 12) (n := 6) (by omega)
    have hbs : 0 ≤ bst (fun s => SN (okF p q) (csF (V 94 8) (V 94 9) p q) (V 94 10) m n s + V 94 10 * (m - pcn s 12)) s ∧ bst (fun s => SN (okF p q) (csF (V 94 8) (V 94 9) p q) (V 94 10) m n s + V 94 10 * (m - pcn s 12)) s ≤ 1000000 := by
      constructor
      · rw [le_bst]
        refine ⟨by omega, fun t ht => ?_⟩
        have := hsn n t
        have epc : pcn t 12 = pcn t m := by rw [show 12 = m + (12 - m) by omega, pcn_ext (by omega)]
        have := pcn_le t m
        have := mul_rg hdr (b := (m : Int) - pcn t 12) (n := 6) (by omega)
        omega
      · exact ((le_bst (N := s)).mp (Int.le_refl _)).1
    have k5 := k_185 (L := L) (xs := xs) (J := J) (tg := tg) (d := d + 2) (V := B) (s := s) (by omega)
    refine ⟨(), trivial, fun r hr => sg_197_246 _ _ _ _ _ _ _ _ ?_⟩
    have eB := d2 s hs
    simp (disch := omega) only [eV_at, eV_up, o_lit2, o_add, o_sub, o_mul, o_neg, o_div, o_nat, ix_t, o_lt, o_le, o_eq, o_bi0, o_bi1, o_bib, em_t, o_neg1, o_shl, o_tb, o_tb0, o_tt, o_and, o_xor, o_or, o_max, o_min, an_tb, and_true, true_and, not_true, not_false, if_true, if_false, tn_add, tn_mul, Int.reduceToNat, tn_cast, md_x]
    rw [if_neg (by omega)]
    refine ⟨_, _, _, k5, ?_⟩
    simp (disch := omega) only [eB, e94, eV_at, eV_up, o_lit2, o_add, o_sub, o_mul, o_neg, o_div, o_nat, ix_t, o_lt, o_le, o_eq, o_bi0, o_bi1, o_bib, em_t, o_neg1, o_shl, o_tb, o_tb0, o_tt, o_and, o_xor, o_or, o_max, o_min, an_tb, and_true, true_and, not_true, not_false, if_true, if_false, tn_add, tn_mul, Int.reduceToNat, tn_cast, md_x]
    generalize hbb : bst (fun s => SN (okF p q) (csF (V 94 8) (V 94 9) p q) (V 94 10) m n s + V 94 10 * (m - pcn s 12)) s = bb at hbs ⊢
    have hr' : Runs (GW L xs) (d + 3) 197 (246, [.ref 93, (Value.int (Int32.ofInt (a))), (Value.int (Int32.ofInt (b))), (Value.int (Int32.ofInt (m))), (Value.int (Int32.ofInt (min bb (SN (okF p q) (csF (V 94 8) (V 94 9) p q) (V 94 10) m n s + V 94 10 * (m - pcn s 12))))), (Value.int (Int32.ofInt (s + 1))), vU, vU, vU, vU], [], zS (eV B) J tg) r := by rw [← hbb]; exact hr
    split
    · rename_i h; rw [Int.min_eq_left h] at hr'; exact hr'
    · rename_i h; rw [Int.min_eq_right (by omega)] at hr'; exact hr') (2 ^ m) 0 () (by omega) trivial
  refine ⟨B, d1, ?_⟩
  refine sg_197 _ _ _ _ _ ⟨_, _, _, k1, hr1 _ (sg_197_10 _ _ _ _ _ _ _ ?_)⟩
  simp (disch := omega) only [eV_at, eV_up, o_lit2, o_add, o_sub, o_mul, o_neg, o_div, o_nat, ix_t, o_lt, o_le, o_eq, o_bi0, o_bi1, o_bib, em_t, o_neg1, o_shl, o_tb, o_tb0, o_tt, o_and, o_xor, o_or, o_max, o_min, an_tb, and_true, true_and, not_true, not_false, if_true, if_false, tn_add, tn_mul, Int.reduceToNat, tn_cast, md_x]
  rw [if_pos (by omega)]
  refine hr2 _ (sg_197_45 _ _ _ _ _ _ _ ⟨_, _, _, k2, ?_⟩)
  simp (disch := omega) only [eV_at, eV_up, o_lit2, o_add, o_sub, o_mul, o_neg, o_div, o_nat, ix_t, o_lt, o_le, o_eq, o_bi0, o_bi1, o_bib, em_t, o_neg1, o_shl, o_tb, o_tb0, o_tt, o_and, o_xor, o_or, o_max, o_min, an_tb, and_true, true_and, not_true, not_false, if_true, if_false, tn_add, tn_mul, Int.reduceToNat, tn_cast, md_x]
  rw [if_pos (by omega)]
  refine hr3 _ (sg_197_246 _ _ _ _ _ _ _ _ ?_)
  simp (disch := omega) only [eV_at, eV_up, o_lit2, o_add, o_sub, o_mul, o_neg, o_div, o_nat, ix_t, o_lt, o_le, o_eq, o_bi0, o_bi1, o_bib, em_t, o_neg1, o_shl, o_tb, o_tb0, o_tt, o_and, o_xor, o_or, o_max, o_min, an_tb, and_true, true_and, not_true, not_false, if_true, if_false, tn_add, tn_mul, Int.reduceToNat, tn_cast, md_x]
  rw [if_pos (by omega)]
  refine ⟨_, _, _, k3, _, _, _, k4, ?_⟩
  simp (disch := omega) only [e94, eV_at, eV_up, o_lit2, o_add, o_sub, o_mul, o_neg, o_div, o_nat, ix_t, o_lt, o_le, o_eq, o_bi0, o_bi1, o_bib, em_t, o_neg1, o_shl, o_tb, o_tb0, o_tt, o_and, o_xor, o_or, o_max, o_min, an_tb, and_true, true_and, not_true, not_false, if_true, if_false, tn_add, tn_mul, Int.reduceToNat, tn_cast, md_x]
  rw [SN_min hdr b2 a2]
  unfold FARg
  split <;> rfl
end FN
