/-! Tokens. -/
def isD (b : Int) : Bool := decide (48 ≤ b ∧ b ≤ 57)
def isL (b : Int) : Bool := decide ((97 ≤ b ∧ b ≤ 122) ∨ (65 ≤ b ∧ b ≤ 90))
def isW (b : Int) : Bool := decide (b = 32 ∨ b = 10)
/-- where a run of bytes of a sort ends -/
def spn (f : Int → Bool) (b : Nat → Int) (N : Nat) : Nat → Nat → Nat
  | 0, p => p
  | k + 1, p => if p < N ∧ f (b p) = true then spn f b N k (p + 1) else p
def en (f : Int → Bool) (b : Nat → Int) (N p : Nat) : Nat := spn f b N (N - p) p
theorem spn_ch {f : Int → Bool} {b : Nat → Int} {N : Nat} : ∀ k p, p + k = N → p ≤ spn f b N k p ∧ spn f b N k p ≤ N ∧ (∀ i, p ≤ i → i < spn f b N k p → f (b i) = true) ∧ ¬ (spn f b N k p < N ∧ f (b (spn f b N k p)) = true)
  | 0, p, h => by
    show p ≤ p ∧ p ≤ N ∧ (∀ i, p ≤ i → i < p → f (b i) = true) ∧ ¬ (p < N ∧ f (b p) = true)
    exact ⟨Nat.le_refl _, by omega, fun i h1 h2 => by omega, fun h => by omega⟩
  | k + 1, p, h => by
    have hs : spn f b N (k + 1) p = if p < N ∧ f (b p) = true then spn f b N k (p + 1) else p := rfl
    by_cases c : p < N ∧ f (b p) = true
    · rw [if_pos c] at hs
      obtain ⟨i1, i2, i3, i4⟩ := spn_ch (f := f) (b := b) (N := N) k (p + 1) (by omega)
      rw [hs]
      refine ⟨by omega, i2, fun i h1 h2 => ?_, i4⟩
      by_cases e : i = p
      · rw [e]; exact c.2
      · exact i3 i (by omega) h2
    · rw [if_neg c] at hs
      rw [hs]
      exact ⟨Nat.le_refl _, by omega, fun i h1 h2 => by omega, c⟩
theorem en_ch {f : Int → Bool} {b : Nat → Int} {N p : Nat} (h : p ≤ N) : p ≤ en f b N p ∧ en f b N p ≤ N ∧ (∀ i, p ≤ i → i < en f b N p → f (b i) = true) ∧ ¬ (en f b N p < N ∧ f (b (en f b N p)) = true) := spn_ch (N - p) p (by omega)
def numv (b : Nat → Int) (p : Nat) : Nat → Int
  | 0 => 0
  | k + 1 => numv b p k * 10 + (b (p + k) - 48)
theorem numv_nn {b : Nat → Int} {p : Nat} : ∀ k, (∀ i, p ≤ i → i < p + k → isD (b i) = true) → 0 ≤ numv b p k
  | 0, _ => Int.le_refl _
  | k + 1, h => by
    have ih := numv_nn k (fun i h1 h2 => h i h1 (by omega))
    have hd := h (p + k) (by omega) (by omega)
    unfold isD at hd
    rw [decide_eq_true_iff] at hd
    unfold numv
    omega
def mn4 (v : Int) : Int := min v 10000
/-- the class's bytes -/
abbrev TPE (V : Nat → Nat → Int) (b : Nat → Int) (N : Nat) : Prop := V 67 2 = N ∧ N ≤ 300 ∧ ∀ k, k < N → V 68 k = sby (b k) ∧ 0 ≤ b k ∧ b k ≤ 255
section LX
variable {L d : Nat} {xs : Nat → Int32} {V : Nat → Nat → Int} {J : Nat → Nat → Int64} {tg : Option Nat} {b : Nat → Int} {N : Nat}
theorem sby_rg {x : Int} (h : 0 ≤ x ∧ x ≤ 255) : -128 ≤ sby x ∧ sby x ≤ 127 ∧ (x < 128 → sby x = x) ∧ (128 ≤ x → sby x < 0) := by unfold sby; split <;> omega
theorem k_73 {a : Int} (h : 0 ≤ a ∧ a ≤ 255) : Runs (GW L xs) (d) 73 (0, [(Value.int (Int32.ofInt (sby a)))], [], zS (eV (V)) J tg) (some (Value.int (Int32.ofInt (bi (isD a = true)))), zS (eV (V)) J tg) := by
  obtain ⟨s1, s2, s3, s4⟩ := sby_rg h
  have e : isD a = true ↔ 48 ≤ sby a ∧ sby a ≤ 57 := by unfold isD; rw [decide_eq_true_iff]; unfold sby; split <;> omega
  apply sg_73
  simp (disch := omega) only [eV_at, eV_up, o_lit2, o_add, o_sub, o_mul, o_neg, o_div, o_nat, ix_t, o_lt, o_le, o_eq, o_bi0, o_bi1, o_bib, em_t, o_neg1, o_shl, o_tb, o_tb0, o_tt, o_and, o_xor, o_or, o_max, o_min, an_tb, and_true, true_and, not_true, not_false, if_true, if_false, tn_add, tn_mul, Int.reduceToNat, tn_cast, md_x]
  by_cases c1 : sby a < 48
  · rw [if_pos c1]; refine leafI ?_; exact (bi_f (by rw [e]; omega)).symm
  · rw [if_neg c1]
    by_cases c2 : 57 < sby a
    · rw [if_pos c2]; refine leafI ?_; exact (bi_f (by rw [e]; omega)).symm
    · rw [if_neg c2]; refine leafI ?_; exact (bi_t (by rw [e]; omega)).symm
theorem k_74 {a : Int} (h : 0 ≤ a ∧ a ≤ 255) : Runs (GW L xs) (d) 74 (0, [(Value.int (Int32.ofInt (sby a)))], [], zS (eV (V)) J tg) (some (Value.int (Int32.ofInt (bi (isL a = true)))), zS (eV (V)) J tg) := by
  obtain ⟨s1, s2, s3, s4⟩ := sby_rg h
  have e : isL a = true ↔ (97 ≤ sby a ∧ sby a ≤ 122) ∨ (65 ≤ sby a ∧ sby a ≤ 90) := by unfold isL; rw [decide_eq_true_iff]; unfold sby; split <;> omega
  apply sg_74
  simp (disch := omega) only [eV_at, eV_up, o_lit2, o_add, o_sub, o_mul, o_neg, o_div, o_nat, ix_t, o_lt, o_le, o_eq, o_bi0, o_bi1, o_bib, em_t, o_neg1, o_shl, o_tb, o_tb0, o_tt, o_and, o_xor, o_or, o_max, o_min, an_tb, and_true, true_and, not_true, not_false, if_true, if_false, tn_add, tn_mul, Int.reduceToNat, tn_cast, md_x]
  by_cases c1 : sby a < 97
  · rw [if_pos c1]
    by_cases c2 : sby a < 65
    · rw [if_pos c2]; refine leafI ?_; exact (bi_f (by rw [e]; omega)).symm
    · rw [if_neg c2]
      by_cases c3 : 90 < sby a
      · rw [if_pos c3]; refine leafI ?_; exact (bi_f (by rw [e]; omega)).symm
      · rw [if_neg c3]; refine leafI ?_; exact (bi_t (by rw [e]; omega)).symm
  · rw [if_neg c1]
    by_cases c2 : sby a ≤ 122
    · rw [if_pos c2]; refine leafI ?_; exact (bi_t (by rw [e]; omega)).symm
    · rw [if_neg c2, if_neg (by omega)]
      rw [if_pos (by omega)]; refine leafI ?_; exact (bi_f (by rw [e]; omega)).symm
/-- scanNumber -/
theorem k_75 (hT : TPE V b N) {f : Nat} (hf : f ≤ N) (h14 : V 67 14 = f) (h15 : V 67 15 = f) : ∃ W : Nat → Nat → Int, (∀ c, c ≠ 67 → W c = V c) ∧ (∀ p, p ≠ 12 → p ≠ 13 → p ≠ 15 → W 67 p = V 67 p) ∧ W 67 12 = 2 ∧ W 67 13 = mn4 (numv b f (en isD b N f - f)) ∧ W 67 15 = (en isD b N f : Nat) ∧ Runs (GW L xs) (d + 1) 75 (0, [.ref 67, vU], [], zS (eV (V)) J tg) (none, zS (eV (W)) J tg) := by
  obtain ⟨t2, t3, t4⟩ := hT
  obtain ⟨e1, e2, e3, e4⟩ := en_ch (f := isD) (b := b) hf
  generalize en isD b N f = t at e1 e2 e3 e4
  obtain ⟨W, ⟨-, i2, i3, i4, i5⟩, hr⟩ := loopN (g := GW L xs) (d := d + 1) (mid := 75) (σ := Nat → Nat → Int) (fun i W => (15, [.ref 67, (Value.int (Int32.ofInt (i)))], [], zS (eV W) J tg)) (fun i W => f ≤ i ∧ (∀ c, c ≠ 67 → W c = V c) ∧ (∀ p, p ≠ 12 → p ≠ 13 → p ≠ 15 → W 67 p = V 67 p) ∧ W 67 12 = 2 ∧ W 67 13 = mn4 (numv b f (i - f)) ∧ W 67 15 = (i : Int)) t (by
    intro i W hi ⟨i0, i1, i2, i3, i4, i5⟩
    obtain ⟨b1, b2, b3⟩ := t4 i (by omega)
    have hD := e3 i i0 hi
    have k7 := k_73 (L := L) (xs := xs) (J := J) (tg := tg) (d := d) (V := W) (a := b i) (by omega)
    have hD' := hD
    unfold isD at hD'
    rw [decide_eq_true_iff] at hD'
    have es : sby (b i) = b i := (sby_rg ⟨b2, b3⟩).2.2.1 (by omega)
    have e2' : W 67 2 = N := by rw [i2 2 (by decide) (by decide) (by decide)]; exact t2
    have e68 : W 68 i = sby (b i) := by rw [i1 68 (by decide)]; exact b1
    have hnn := numv_nn (b := b) (p := f) (i - f) (fun j h1 h2 => e3 j h1 (by omega))
    have hs : numv b f (i + 1 - f) = numv b f (i - f) * 10 + (b i - 48) := by
      have : i + 1 - f = (i - f) + 1 := by omega
      rw [this]
      show numv b f (i - f) * 10 + (b (f + (i - f)) - 48) = _
      rw [show f + (i - f) = i by omega]
    have hm : min (mn4 (numv b f (i - f)) * 10 + b i - 48) 10000 = mn4 (numv b f (i + 1 - f)) := by
      rw [hs]
      unfold mn4
      omega
    have hr4 : 0 ≤ mn4 (numv b f (i - f)) ∧ mn4 (numv b f (i - f)) ≤ 10000 := by unfold mn4; omega
    generalize mn4 (numv b f (i - f)) = m at *
    generalize mn4 (numv b f (i + 1 - f)) = m' at *
    refine ⟨up2 (up2 W 67 13 m') 67 15 (i + 1 : Int), ⟨by omega, fun c hc => by rw [w_ne _ _ _ _ hc, w_ne _ _ _ _ hc]; exact i1 c hc, fun p h1 h2 h3 => by rw [w_at, if_neg h3, w_at, if_neg h2]; exact i2 p h1 h2 h3, by rw [w_at, if_neg (by decide), w_at, if_neg (by decide)]; exact i3, by rw [w_at, if_neg (by decide), w_eq], by rw [w_eq]; rfl⟩, fun r hr => ?_⟩
    apply sg_75_15
    simp (disch := omega) only [e2', e68, eV_at, eV_up, o_lit2, o_add, o_sub, o_mul, o_neg, o_div, o_nat, ix_t, o_lt, o_le, o_eq, o_bi0, o_bi1, o_bib, em_t, o_neg1, o_shl, o_tb, o_tb0, o_tt, o_and, o_xor, o_or, o_max, o_min, an_tb, and_true, true_and, not_true, not_false, if_true, if_false, tn_add, tn_mul, Int.reduceToNat, tn_cast, md_x]
    rw [if_neg (by omega)]
    rw [es] at k7
    rw [es]
    refine ⟨_, _, k7, ?_⟩
    rw [if_neg (b0o_f hD)]
    simp (disch := omega) only [i4, e68, es, eV_at, eV_up, o_lit2, o_add, o_sub, o_mul, o_neg, o_div, o_nat, ix_t, o_lt, o_le, o_eq, o_bi0, o_bi1, o_bib, em_t, o_neg1, o_shl, o_tb, o_tb0, o_tt, o_and, o_xor, o_or, o_max, o_min, an_tb, and_true, true_and, not_true, not_false, if_true, if_false, tn_add, tn_mul, Int.reduceToNat, tn_cast, md_x]
    rw [hm]
    exact hr) (t - f) f (up2 (up2 V 67 12 2) 67 13 0) (by omega) ⟨Nat.le_refl _, fun c hc => by rw [w_ne _ _ _ _ hc, w_ne _ _ _ _ hc], fun p h1 h2 h3 => by rw [w_at, if_neg h2, w_at, if_neg h1], by rw [w_at, if_neg (by decide), w_eq], by rw [w_eq, Nat.sub_self]; rfl, by rw [w_at, if_neg (by decide), w_at, if_neg (by decide)]; exact h15⟩
  have e2' : W 67 2 = N := by rw [i3 2 (by decide) (by decide) (by decide)]; exact t2
  refine ⟨W, i2, i3, i4, i5.1, i5.2, ?_⟩
  apply sg_75
  simp (disch := omega) only [h14, eV_at, eV_up, o_lit2, o_add, o_sub, o_mul, o_neg, o_div, o_nat, ix_t, o_lt, o_le, o_eq, o_bi0, o_bi1, o_bib, em_t, o_neg1, o_shl, o_tb, o_tb0, o_tt, o_and, o_xor, o_or, o_max, o_min, an_tb, and_true, true_and, not_true, not_false, if_true, if_false, tn_add, tn_mul, Int.reduceToNat, tn_cast, md_x]
  refine hr _ ?_
  apply sg_75_15
  simp (disch := omega) only [e2', eV_at, eV_up, o_lit2, o_add, o_sub, o_mul, o_neg, o_div, o_nat, ix_t, o_lt, o_le, o_eq, o_bi0, o_bi1, o_bib, em_t, o_neg1, o_shl, o_tb, o_tb0, o_tt, o_and, o_xor, o_or, o_max, o_min, an_tb, and_true, true_and, not_true, not_false, if_true, if_false, tn_add, tn_mul, Int.reduceToNat, tn_cast, md_x]
  by_cases c : N ≤ t
  · rw [if_pos (by omega)] <;> first | rfl | trivial
  · obtain ⟨b1, b2, b3⟩ := t4 t (by omega)
    have k7 := k_73 (L := L) (xs := xs) (J := J) (tg := tg) (d := d) (V := W) (a := b t) (by omega)
    have e68 : W 68 t = sby (b t) := by rw [i2 68 (by decide)]; exact b1
    rw [if_neg (by omega)]
    simp (disch := omega) only [e68, eV_at, eV_up, o_lit2, o_add, o_sub, o_mul, o_neg, o_div, o_nat, ix_t, o_lt, o_le, o_eq, o_bi0, o_bi1, o_bib, em_t, o_neg1, o_shl, o_tb, o_tb0, o_tt, o_and, o_xor, o_or, o_max, o_min, an_tb, and_true, true_and, not_true, not_false, if_true, if_false, tn_add, tn_mul, Int.reduceToNat, tn_cast, md_x]
    refine ⟨_, _, k7, ?_⟩
    rw [if_pos (b0o_t (fun h => e4 ⟨by omega, h⟩))] <;> first | rfl | trivial
end LX
