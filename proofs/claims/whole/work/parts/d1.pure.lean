/-! Words. -/
def wch (j : Nat) : Int := (wordsT.getD j 0).toInt
theorem wch_o (j : Nat) : wordsT.getD j (Int32.ofInt 0) = Int32.ofInt (wch j) := (Int32.ofInt_toInt _).symm
def wln (k : Nat) : Nat := [5, 7, 4, 6, 5, 5, 6, 5, 4, 6, 4, 4, 3, 4, 4, 2, 3].getD k 0
def wof (k : Nat) : Nat := [0, 6, 14, 19, 26, 32, 38, 45, 51, 56, 63, 68, 73, 77, 82, 87, 90, 94].getD k 0
theorem w_tab : ∀ k, k < 17 → wof (k + 1) = wof k + wln k + 1 ∧ wof k + wln k < 94 ∧ wch (wof k + wln k) = 32 ∧ wln k ≤ 7 ∧ 1 ≤ wln k := by decide
theorem w_chr : ∀ k, k < 17 → ∀ i, i < 7 → i < wln k → 97 ≤ wch (wof k + i) ∧ wch (wof k + i) ≤ 122 := by decide
abbrev wEq (b : Nat → Int) (f t k : Nat) : Prop := f + wln k = t ∧ ∀ i, i < wln k → b (f + i) = wch (wof k + i)
def wfd (b : Nat → Int) (f t : Nat) : Nat → Nat → Int
  | 0, _ => -1
  | n + 1, k => if wEq b f t k then (k : Int) else wfd b f t n (k + 1)
theorem wfd_rg {b : Nat → Int} {f t : Nat} : ∀ n k, wfd b f t n k = -1 ∨ ((k : Int) ≤ wfd b f t n k ∧ wfd b f t n k < k + n)
  | 0, _ => Or.inl rfl
  | n + 1, k => by
    have ih := wfd_rg (b := b) (f := f) (t := t) n (k + 1)
    unfold wfd
    split
    · exact Or.inr (by omega)
    · rcases ih with h | h
      · exact Or.inl h
      · exact Or.inr (by omega)
section LX
variable {L d : Nat} {xs : Nat → Int32} {V : Nat → Nat → Int} {J : Nat → Nat → Int64} {tg : Option Nat} {b : Nat → Int} {N : Nat}
theorem k_77w (hT : TPE V b N) {f t : Nat} (hft : f ≤ t) (ht : t ≤ N) (h14 : V 67 14 = f) (h15 : V 67 15 = t) : ∀ (n k : Nat), k + n = 17 → Runs (GW L xs) d 77 (12, [.ref 67, (Value.int (Int32.ofInt (k))), (Value.int (Int32.ofInt (f))), (Value.int (Int32.ofInt (1))), (Value.int (Int32.ofInt (wof k))), vU], [], zS (eV V) J tg) (some (Value.int (Int32.ofInt (wfd b f t n k))), zS (eV V) J tg)
  | 0, k, h => by
    have hk : k = 17 := by omega
    subst hk
    have h94 : wof 17 = 94 := rfl
    rw [h94]
    apply sg_77_12
    simp (disch := omega) only [eV_at, eV_up, o_lit2, o_add, o_sub, o_mul, o_neg, o_div, o_nat, ix_t, o_lt, o_le, o_eq, o_bi0, o_bi1, o_bib, em_t, o_neg1, o_shl, o_tb, o_tb0, o_tt, o_and, o_xor, o_or, o_max, o_min, an_tb, and_true, true_and, not_true, not_false, if_true, if_false, tn_add, tn_mul, Int.reduceToNat, tn_cast, md_x]
    rw [if_pos (by omega)]; rfl
  | n + 1, k, h => by
    obtain ⟨t2, t3, t4⟩ := id hT
    obtain ⟨w1, w2, w3, w4, w5⟩ := w_tab k (by omega)
    have w6 := w_chr k (by omega)
    have ih := k_77w hT hft ht h14 h15 n (k + 1) (by omega)
    rw [w1] at ih
    obtain ⟨⟨a, sm⟩, ⟨i1, i2, i3⟩, hr⟩ := loopN (g := GW L xs) (d := d) (mid := 77) (σ := Nat × Bool) (fun j z => (12, [.ref 67, (Value.int (Int32.ofInt (k))), (Value.int (Int32.ofInt (z.1))), (Value.int (Int32.ofInt (bi (z.2 = true)))), (Value.int (Int32.ofInt (wof k + j))), vU], [], zS (eV V) J tg)) (fun j z => z.1 ≤ 307 ∧ (z.2 = true → z.1 = f + j ∧ ∀ i, i < j → f + i < t ∧ b (f + i) = wch (wof k + i)) ∧ (z.2 = false → ∃ i, i < j ∧ ¬ (f + i < t ∧ b (f + i) = wch (wof k + i)))) (wln k) (by
      intro j ⟨a, sm⟩ hj ⟨i1, i2, i3⟩
      dsimp only at i1 i2 i3
      have hc := w6 j (by omega) hj
      have ej : (wof k : Int) + (j : Int) = ((wof k + j : Nat) : Int) := by omega
      generalize hch : wch (wof k + j) = ch at hc
      cases sm
      · obtain ⟨i, h1, h2⟩ := i3 rfl
        refine ⟨(a, false), ⟨i1, fun h => (by cases h), fun _ => ⟨i, by omega, h2⟩⟩, fun r hr => ?_⟩
        dsimp only
        rw [show bi (false = true) = 0 from (bi_f (by decide)).symm] at hr ⊢
        apply sg_77_12
        simp (disch := omega) only [ej, wch_o, hch, eV_at, eV_up, o_lit2, o_add, o_sub, o_mul, o_neg, o_div, o_nat, ix_t, o_lt, o_le, o_eq, o_bi0, o_bi1, o_bib, em_t, o_neg1, o_shl, o_tb, o_tb0, o_tt, o_and, o_xor, o_or, o_max, o_min, an_tb, and_true, true_and, not_true, not_false, if_true, if_false, tn_add, tn_mul, Int.reduceToNat, tn_cast, md_x]
        repeat (first | rw [if_pos (by omega)] | rw [if_neg (by omega)])
        exact hr
      · obtain ⟨g1, g2⟩ := i2 rfl
        subst g1
        by_cases c1 : f + j < t
        · obtain ⟨b1, b2, b3⟩ := t4 (f + j) (by omega)
          obtain ⟨s1, s2, s3, s4⟩ := sby_rg ⟨b2, b3⟩
          have e68 : V 68 (f + j) = sby (b (f + j)) := b1
          have esb : sby (b (f + j)) = ch ↔ b (f + j) = ch := by
            constructor
            · intro h
              by_cases q : b (f + j) < 128
              · rw [← s3 q]; exact h
              · have := s4 (by omega); omega
            · intro h
              rw [s3 (by omega)]; exact h
          have ef : ((f + j : Nat) : Int) = (f : Int) + (j : Int) := by omega
          by_cases c2 : b (f + j) = ch
          · refine ⟨(f + (j + 1), true), ⟨by dsimp only; omega, fun _ => ⟨rfl, fun i hi => ?_⟩, fun h => by cases h⟩, fun r hr => ?_⟩
            · by_cases e : i = j
              · subst e; exact ⟨c1, by rw [hch]; exact c2⟩
              · exact g2 i (by omega)
            · dsimp only at hr ⊢
              rw [show bi (true = true) = 1 from (bi_t rfl).symm] at hr ⊢
              apply sg_77_12
              simp (disch := omega) only [ej, wch_o, hch, h15, e68, eV_at, eV_up, o_lit2, o_add, o_sub, o_mul, o_neg, o_div, o_nat, ix_t, o_lt, o_le, o_eq, o_bi0, o_bi1, o_bib, em_t, o_neg1, o_shl, o_tb, o_tb0, o_tt, o_and, o_xor, o_or, o_max, o_min, an_tb, and_true, true_and, not_true, not_false, if_true, if_false, tn_add, tn_mul, Int.reduceToNat, tn_cast, md_x]
              have hsb := esb.mpr c2
              repeat (first | rw [if_pos (by omega)] | rw [if_neg (by omega)])
              exact hr
          · refine ⟨(f + j, false), ⟨i1, fun h => (by cases h), fun _ => ⟨j, by omega, fun h => c2 (by rw [← hch]; exact h.2)⟩⟩, fun r hr => ?_⟩
            dsimp only at hr ⊢
            rw [show bi (true = true) = 1 from (bi_t rfl).symm]
            rw [show bi (false = true) = 0 from (bi_f (by decide)).symm] at hr
            apply sg_77_12
            simp (disch := omega) only [ej, wch_o, hch, h15, e68, eV_at, eV_up, o_lit2, o_add, o_sub, o_mul, o_neg, o_div, o_nat, ix_t, o_lt, o_le, o_eq, o_bi0, o_bi1, o_bib, em_t, o_neg1, o_shl, o_tb, o_tb0, o_tt, o_and, o_xor, o_or, o_max, o_min, an_tb, and_true, true_and, not_true, not_false, if_true, if_false, tn_add, tn_mul, Int.reduceToNat, tn_cast, md_x]
            have hsb : ¬ sby (b (f + j)) = ch := fun h => c2 (esb.mp h)
            repeat (first | rw [if_pos (by omega)] | rw [if_neg (by omega)])
            exact hr
        · refine ⟨(f + j, false), ⟨i1, fun h => (by cases h), fun _ => ⟨j, by omega, fun h => c1 h.1⟩⟩, fun r hr => ?_⟩
          dsimp only at hr ⊢
          rw [show bi (true = true) = 1 from (bi_t rfl).symm]
          rw [show bi (false = true) = 0 from (bi_f (by decide)).symm] at hr
          apply sg_77_12
          simp (disch := omega) only [ej, wch_o, hch, h15, eV_at, eV_up, o_lit2, o_add, o_sub, o_mul, o_neg, o_div, o_nat, ix_t, o_lt, o_le, o_eq, o_bi0, o_bi1, o_bib, em_t, o_neg1, o_shl, o_tb, o_tb0, o_tt, o_and, o_xor, o_or, o_max, o_min, an_tb, and_true, true_and, not_true, not_false, if_true, if_false, tn_add, tn_mul, Int.reduceToNat, tn_cast, md_x]
          repeat (first | rw [if_pos (by omega)] | rw [if_neg (by omega)])
          exact hr) (wln k) 0 (f, true) (by omega) ⟨by dsimp only; omega, fun _ => ⟨rfl, fun i h => by omega⟩, fun h => by cases h⟩
    dsimp only at i1 i2 i3 hr
    have start : ∀ r, Runs (GW L xs) d 77 (12, [.ref 67, (Value.int (Int32.ofInt (k))), (Value.int (Int32.ofInt (a))), (Value.int (Int32.ofInt (bi (sm = true)))), (Value.int (Int32.ofInt ((wof k : Int) + (wln k : Int)))), vU], [], zS (eV V) J tg) r → Runs (GW L xs) d 77 (12, [.ref 67, (Value.int (Int32.ofInt (k))), (Value.int (Int32.ofInt (f))), (Value.int (Int32.ofInt (1))), (Value.int (Int32.ofInt (wof k))), vU], [], zS (eV V) J tg) r := fun r h => by
      have := hr r h
      rw [show bi (true = true) = 1 from (bi_t rfl).symm] at this
      exact this
    refine start _ ?_
    have ej : (wof k : Int) + (wln k : Int) = ((wof k + wln k : Nat) : Int) := by omega
    have hw : wfd b f t (n + 1) k = if wEq b f t k then (k : Int) else wfd b f t n (k + 1) := rfl
    cases sm
    · obtain ⟨i, h1, h2⟩ := i3 rfl
      have hne : ¬ wEq b f t k := fun h => h2 ⟨by have := h.1; omega, h.2 i h1⟩
      rw [hw, if_neg hne, show bi (false = true) = 0 from (bi_f (by decide)).symm]
      apply sg_77_12
      simp (disch := omega) only [ej, wch_o, w3, h14, eV_at, eV_up, o_lit2, o_add, o_sub, o_mul, o_neg, o_div, o_nat, ix_t, o_lt, o_le, o_eq, o_bi0, o_bi1, o_bib, em_t, o_neg1, o_shl, o_tb, o_tb0, o_tt, o_and, o_xor, o_or, o_max, o_min, an_tb, and_true, true_and, not_true, not_false, if_true, if_false, tn_add, tn_mul, Int.reduceToNat, tn_cast, md_x]
      repeat (first | rw [if_pos (by omega)] | rw [if_neg (by omega)])
      exact ih
    · obtain ⟨g1, g2⟩ := i2 rfl
      subst g1
      rw [show bi (true = true) = 1 from (bi_t rfl).symm]
      by_cases c : f + wln k = t
      · have he : wEq b f t k := ⟨c, fun i hi => (g2 i hi).2⟩
        rw [hw, if_pos he]
        apply sg_77_12
        simp (disch := omega) only [ej, wch_o, w3, h14, h15, eV_at, eV_up, o_lit2, o_add, o_sub, o_mul, o_neg, o_div, o_nat, ix_t, o_lt, o_le, o_eq, o_bi0, o_bi1, o_bib, em_t, o_neg1, o_shl, o_tb, o_tb0, o_tt, o_and, o_xor, o_or, o_max, o_min, an_tb, and_true, true_and, not_true, not_false, if_true, if_false, tn_add, tn_mul, Int.reduceToNat, tn_cast, md_x]
        (repeat (first | rw [if_pos (by omega)] | rw [if_neg (by omega)])) <;> trivial
      · have hne : ¬ wEq b f t k := fun h => c h.1
        rw [hw, if_neg hne]
        apply sg_77_12
        simp (disch := omega) only [ej, wch_o, w3, h14, h15, eV_at, eV_up, o_lit2, o_add, o_sub, o_mul, o_neg, o_div, o_nat, ix_t, o_lt, o_le, o_eq, o_bi0, o_bi1, o_bib, em_t, o_neg1, o_shl, o_tb, o_tb0, o_tt, o_and, o_xor, o_or, o_max, o_min, an_tb, and_true, true_and, not_true, not_false, if_true, if_false, tn_add, tn_mul, Int.reduceToNat, tn_cast, md_x]
        repeat (first | rw [if_pos (by omega)] | rw [if_neg (by omega)])
        exact ih
end LX
