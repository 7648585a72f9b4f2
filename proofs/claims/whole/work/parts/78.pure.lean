/-! FAR in the class. -/
def gapZ (P Q : Int) : Int := max (max (P % 3 - Q % 3) (Q % 3 - P % 3)) (max (P / 3 - Q / 3) (Q / 3 - P / 3))
theorem gap_at : ∀ P : Nat, P < 9 → ∀ Q : Nat, Q < 9 → gaps.getD (P * 9 + Q) 0 = Int32.ofInt (gapZ P Q) := by decide +kernel
theorem gapZ_rg {P Q : Int} (hP : 0 ≤ P ∧ P < 9) (hQ : 0 ≤ Q ∧ Q < 9) : 0 ≤ gapZ P Q ∧ gapZ P Q ≤ 2 := by unfold gapZ; omega
theorem gapZ_sym {P Q : Int} : gapZ P Q = gapZ Q P := by unfold gapZ; omega
def cst (mv tn p q : Int) : Int := mv * gapZ (p / 4 % 9) (q / 4 % 9) + (if p % 4 = q % 4 then 0 else tn)
def okF (p q : Nat → Int) (i j : Nat) : Bool := decide (p i / 36 = q j / 36)
def csF (mv tn : Int) (p q : Nat → Int) (i j : Nat) : Int := cst mv tn (p i) (q j)
/-- what a PART gains with the j-th of a LOOK -/
def g1 (V : Nat → Nat → Int) (p : Int) (q : Nat → Int) (j : Nat) : Int := gpr (V 1 4) (okF (fun _ => p) q) (csF (V 1 2) (V 1 3) (fun _ => p) q) 0 j
def lkc (V : Nat → Nat → Int) (l j : Nat) : Int := V 2 (l * 6 + j)
theorem k_65 {L d : Nat} {xs : Nat → Int32} {V : Nat → Nat → Int} {J : Nat → Nat → Int64} {tg : Option Nat} (hR : RNG V) {l : Nat} (hl : l < 24) : Runs (GW L xs) (d) 65 (0, [.ref 70, (Value.int (Int32.ofInt (l)))], [], zS (eV (V)) J tg) (some (Value.int (Int32.ofInt ((2 ^ (V 3 l).toNat - 1 : Nat)))), zS (eV (V)) J tg) := by
  have h3 : 0 ≤ V 3 l ∧ V 3 l ≤ 6 := hR 3 l (by decide) (by decide)
  refine sg_65 _ _ _ _ ?_
  simp (disch := omega) only [eV_at, eV_up, o_lit2, o_add, o_sub, o_mul, o_neg, o_div, o_nat, ix_t, o_lt, o_le, o_eq, o_bi0, o_bi1, o_bib, em_t, o_neg1, o_shl, o_tb, o_tb0, o_tt, o_and, o_xor, o_or, o_max, o_min, an_tb, and_true, true_and, not_true, not_false, if_true, if_false, tn_add, tn_mul, Int.reduceToNat, tn_cast, md_x]
  have e : V 3 l = (((V 3 l).toNat : Nat) : Int) := by omega
  have hp := Nat.pow_pos (a := 2) (n := (V 3 l).toNat) (by omega)
  rw [e, o_shl (by omega), o_sub, tn_cast]
  refine leafI ?_
  exact cast_pred hp
theorem k_64 {L d : Nat} {xs : Nat → Int32} {V : Nat → Nat → Int} {J : Nat → Nat → Int64} {tg : Option Nat} (hR : RNG V) {l : Nat} (hl : l < 24) {sz cl gn : Int} (h1 : 0 ≤ cl ∧ cl ≤ 3) : Runs (GW L xs) (d) 64 (0, [.ref 70, (Value.int (Int32.ofInt (sz))), (Value.int (Int32.ofInt (cl))), (Value.int (Int32.ofInt (l))), (Value.int (Int32.ofInt (gn))), vU], [], zS (eV (V)) J tg) (some (Value.int (Int32.ofInt (V 1 4 * (sz + V 3 l) - gn + (if cl = V 4 l then 0 else V 1 5)))), zS (eV (V)) J tg) := by
  have h4 : 0 ≤ V 4 l ∧ V 4 l ≤ 3 := hR 4 l (by decide) (by decide)
  refine sg_64 _ _ _ _ _ _ _ ?_
  simp (disch := omega) only [eV_at, eV_up, o_lit2, o_add, o_sub, o_mul, o_neg, o_div, o_nat, ix_t, o_lt, o_le, o_eq, o_bi0, o_bi1, o_bib, em_t, o_neg1, o_shl, o_tb, o_tb0, o_tt, o_and, o_xor, o_or, o_max, o_min, an_tb, and_true, true_and, not_true, not_false, if_true, if_false, tn_add, tn_mul, Int.reduceToNat, tn_cast, md_x]
  split <;> rfl
theorem gap_z {a b : Int} (ha : 0 ≤ a ∧ a < 9) (hb : 0 ≤ b ∧ b < 9) : gaps.getD (a.toNat * 9 + b.toNat) (Int32.ofInt 0) = Int32.ofInt (gapZ a b) := by
  show gaps.getD (a.toNat * 9 + b.toNat) 0 = _
  rw [gap_at a.toNat (by omega) b.toNat (by omega)]
  congr 2 <;> omega
def fgl (g : Nat → Int) : Nat → List Nat
  | 0 => []
  | j + 1 => if 0 < g j then fgl g j ++ [j] else fgl g j
theorem fgl_pos {g : Nat → Int} {j : Nat} (h : 0 < g j) : fgl g (j + 1) = fgl g j ++ [j] := if_pos h
theorem fgl_neg {g : Nat → Int} {j : Nat} (h : ¬ 0 < g j) : fgl g (j + 1) = fgl g j := if_neg h
theorem fgl_len (g : Nat → Int) : ∀ j, (fgl g j).length ≤ j
  | 0 => Nat.le_refl _
  | j + 1 => by have := fgl_len g j; unfold fgl; split <;> simp <;> omega
theorem fgl_mem (g : Nat → Int) : ∀ j i, i ∈ fgl g j ↔ i < j ∧ 0 < g i
  | 0, i => by simp [fgl]
  | j + 1, i => by
    have ih := fgl_mem g j i
    unfold fgl
    split
    · rename_i h
      rw [List.mem_append, ih]
      simp
      constructor
      · rintro (h | h)
        · exact ⟨by omega, h.2⟩
        · subst h; exact ⟨by omega, by assumption⟩
      · rintro ⟨h1, h2⟩
        by_cases e : i = j
        · exact Or.inr e
        · exact Or.inl ⟨by omega, h2⟩
    · rename_i h
      rw [ih]
      constructor
      · rintro h; exact ⟨by omega, h.2⟩
      · rintro ⟨h1, h2⟩
        by_cases e : i = j
        · subst e; exact absurd h2 h
        · exact ⟨by omega, h2⟩
theorem gD_last {α : Type} {l : List α} {a b : α} {t : Nat} (e : t = l.length) : (l ++ [a]).getD t b = a := by subst e; simp [List.getD]
theorem gD_init {α : Type} {l : List α} {a b : α} {t : Nat} (e : t < l.length) : (l ++ [a]).getD t b = l.getD t b := by simp [List.getD, List.getElem?_append, e]
theorem mul_rg {a b : Int} {m n : Int} (ha : 0 ≤ a ∧ a ≤ m) (hb : 0 ≤ b ∧ b ≤ n) : 0 ≤ a * b ∧ a * b ≤ m * n := ⟨Int.mul_nonneg ha.1 hb.1, Int.mul_le_mul ha.2 hb.2 hb.1 (by omega)⟩
theorem k_67 {L d : Nat} {xs : Nat → Int32} {V : Nat → Nat → Int} {J : Nat → Nat → Int64} {tg : Option Nat} (hR : RNG V) {l : Nat} (hl : l < 24) {p : Int} (hp : 0 ≤ p ∧ p < 180) : ∃ W, (∀ c, c ≠ 73 → c ≠ 74 → W c = V c) ∧ (∀ t, t < (fgl (g1 V p (lkc V l)) (V 3 l).toNat).length → W 73 t = ((2 ^ ((fgl (g1 V p (lkc V l)) (V 3 l).toNat).getD t 0) : Nat) : Int) ∧ W 74 t = g1 V p (lkc V l) ((fgl (g1 V p (lkc V l)) (V 3 l).toNat).getD t 0)) ∧ Runs (GW L xs) (d) 67 (0, [.ref 70, (Value.int (Int32.ofInt (p))), (Value.int (Int32.ofInt (l))), vU, vU, vU, vU, vU], [], zS (eV (V)) J tg) (some (Value.int (Int32.ofInt ((fgl (g1 V p (lkc V l)) (V 3 l).toNat).length))), zS (eV (W)) J tg) := by
  have h3 : 0 ≤ V 3 l ∧ V 3 l ≤ 6 := hR 3 l (by decide) (by decide)
  have w2 : 0 ≤ V 1 2 ∧ V 1 2 ≤ 99 := hR 1 2 (by decide) (by decide)
  have w3 : 0 ≤ V 1 3 ∧ V 1 3 ≤ 99 := hR 1 3 (by decide) (by decide)
  have w4 : 0 ≤ V 1 4 ∧ V 1 4 ≤ 99 := hR 1 4 (by decide) (by decide)
  obtain ⟨s, hi, hr⟩ := loopN (g := GW L xs) (d := d) (mid := 67) (σ := Nat → Nat → Int) (fun n W => (5, [.ref 70, (Value.int (Int32.ofInt (p))), (Value.int (Int32.ofInt (l))), (Value.int (Int32.ofInt ((fgl (g1 V p (lkc V l)) n).length))), (Value.int (Int32.ofInt (n))), vU, vU, vU], [], zS (eV W) J tg))
    (fun n W => (∀ c, c ≠ 73 → c ≠ 74 → W c = V c) ∧ (∀ t, t < (fgl (g1 V p (lkc V l)) n).length → W 73 t = ((2 ^ ((fgl (g1 V p (lkc V l)) n).getD t 0) : Nat) : Int) ∧ W 74 t = g1 V p (lkc V l) ((fgl (g1 V p (lkc V l)) n).getD t 0))) (V 3 l).toNat (by
      intro n W hn ⟨hf, ht⟩
      have e1 : W 1 = V 1 := hf 1 (by decide) (by decide)
      have e2 : W 2 = V 2 := hf 2 (by decide) (by decide)
      have e3 : W 3 = V 3 := hf 3 (by decide) (by decide)
      have hq : 0 ≤ V 2 (l * 6 + n) ∧ V 2 (l * 6 + n) ≤ 179 := hR 2 _ (by decide) (by decide)
      have hL := fgl_len (g1 V p (lkc V l)) n
      have hgp := gapZ_rg (P := p / 4 % 9) (Q := V 2 (l * 6 + n) / 4 % 9) (by omega) (by omega)
      have hm := mul_rg w2 hgp
      have hv : g1 V p (lkc V l) n = if p / 36 = V 2 (l * 6 + n) / 36 then max 0 (2 * V 1 4 - (V 1 2 * gapZ (p / 4 % 9) (V 2 (l * 6 + n) / 4 % 9) + if p % 4 = V 2 (l * 6 + n) % 4 then 0 else V 1 3)) else 0 := by
        unfold g1 gpr okF csF cst lkc; simp only [decide_eq_true_eq]
      by_cases hg : 0 < g1 V p (lkc V l) n
      · refine ⟨up2 (up2 W 73 (fgl (g1 V p (lkc V l)) n).length (2 ^ n : Nat)) 74 (fgl (g1 V p (lkc V l)) n).length (g1 V p (lkc V l) n), ⟨fun c h1 h2 => by rw [w_ne _ _ _ _ h2, w_ne _ _ _ _ h1, hf c h1 h2], ?_⟩, ?_⟩
        · rw [fgl_pos hg]
          intro t h
          rw [List.length_append, List.length_singleton] at h
          rw [w_ne _ _ _ _ (by decide : (73 : Nat) ≠ 74), w_at, w_at, w_ne _ _ _ _ (by decide : (74 : Nat) ≠ 73)]
          by_cases e : t = (fgl (g1 V p (lkc V l)) n).length
          · rw [if_pos e, if_pos e, gD_last e]; exact ⟨rfl, rfl⟩
          · rw [if_neg e, if_neg e, gD_init (by omega)]; exact ht t (by omega)
        · intro r hr
          rw [fgl_pos hg, List.length_append, List.length_singleton] at hr
          refine sg_67_5 _ _ _ _ _ _ _ ?_
          simp (disch := omega) only [e1, e2, e3, eV_at, eV_up, o_lit2, o_add, o_sub, o_mul, o_neg, o_div, o_nat, ix_t, o_lt, o_le, o_eq, o_bi0, o_bi1, o_bib, em_t, o_neg1, o_shl, o_tb, o_tb0, o_tt, o_and, o_xor, o_or, o_max, o_min, an_tb, and_true, true_and, not_true, not_false, if_true, if_false, tn_add, tn_mul, Int.reduceToNat, tn_cast, md_x, gap_z]
          repeat' split
          all_goals first | (exfalso; omega) | (rw [show 2 * V 1 4 - (V 1 2 * gapZ (p / 4 % 9) (V 2 (l * 6 + n) / 4 % 9) + 0) = g1 V p (lkc V l) n by omega]; exact hr) | (rw [show 2 * V 1 4 - (V 1 2 * gapZ (p / 4 % 9) (V 2 (l * 6 + n) / 4 % 9) + V 1 3) = g1 V p (lkc V l) n by omega]; exact hr)
      · refine ⟨W, ⟨hf, ?_⟩, ?_⟩
        · rw [fgl_neg hg]; exact ht
        · intro r hr
          rw [fgl_neg hg] at hr
          refine sg_67_5 _ _ _ _ _ _ _ ?_
          simp (disch := omega) only [e1, e2, e3, eV_at, eV_up, o_lit2, o_add, o_sub, o_mul, o_neg, o_div, o_nat, ix_t, o_lt, o_le, o_eq, o_bi0, o_bi1, o_bib, em_t, o_neg1, o_shl, o_tb, o_tb0, o_tt, o_and, o_xor, o_or, o_max, o_min, an_tb, and_true, true_and, not_true, not_false, if_true, if_false, tn_add, tn_mul, Int.reduceToNat, tn_cast, md_x, gap_z]
          repeat' split
          all_goals first | (exfalso; omega) | exact hr) (V 3 l).toNat 0 V (by omega) ⟨fun _ _ _ => rfl, by simp [fgl]⟩
  refine ⟨s, hi.1, hi.2, sg_67 _ _ _ _ _ (hr _ ?_)⟩
  have e3 : s 3 = V 3 := hi.1 3 (by decide) (by decide)
  refine sg_67_5 _ _ _ _ _ _ _ ?_
  simp (disch := omega) only [e3, eV_at, eV_up, o_lit2, o_add, o_sub, o_mul, o_neg, o_div, o_nat, ix_t, o_lt, o_le, o_eq, o_bi0, o_bi1, o_bib, em_t, o_neg1, o_shl, o_tb, o_tb0, o_tt, o_and, o_xor, o_or, o_max, o_min, an_tb, and_true, true_and, not_true, not_false, if_true, if_false, tn_add, tn_mul, Int.reduceToNat, tn_cast, md_x]
  rw [if_pos (by omega)]
  trivial
