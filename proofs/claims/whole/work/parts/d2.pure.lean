/-! Scanning in the class. -/
def sgn (a : Int) : Int := if a = 35 then 14 else if a = 40 then 18 else if a = 41 then 19 else if a = 42 then 17 else if a = 43 then 15 else if a = 45 then 16 else if a = 59 then 20 else if a = 60 then 9 else if a = 61 then 13 else if a = 62 then 11 else 1
theorem sgn_rg (a : Int) : 1 ≤ sgn a ∧ sgn a ≤ 20 ∧ (sgn a = 9 ↔ a = 60) ∧ (sgn a = 11 ↔ a = 62) := by unfold sgn; (repeat' split) <;> omega
theorem o_ti {z : Int} (h : -2147483648 ≤ z ∧ z < 2147483648) : (Int32.ofInt z).toInt = z := Int32.toInt_ofInt_of_le (by omega) (by omega)
/-- a token: its code, where it ends, its value -/
abbrev dbl (b : Nat → Int) (N f : Nat) : Prop := (b f = 60 ∨ b f = 62) ∧ f + 1 < N ∧ b (f + 1) = 61
def wtk (k : Int) : Int := if k = -1 then 1 else if 12 ≤ k then 4 + k - 12 else 3
def lxT (b : Nat → Int) (N f : Nat) : Nat := if N ≤ f then f else if isD (b f) = true then en isD b N f else if isL (b f) = true then en isL b N f else if dbl b N f then f + 2 else f + 1
def lxV (b : Nat → Int) (N f : Nat) : Int := if isD (b f) = true then mn4 (numv b f (en isD b N f - f)) else wfd b f (en isL b N f) 17 0
def lxK (b : Nat → Int) (N f : Nat) : Int := if N ≤ f then 0 else if isD (b f) = true then 2 else if isL (b f) = true then wtk (wfd b f (en isL b N f) 17 0) else if dbl b N f then sgn (b f) + 1 else sgn (b f)
section LX
variable {L d : Nat} {xs : Nat → Int32} {V : Nat → Nat → Int} {J : Nat → Nat → Int64} {tg : Option Nat} {b : Nat → Int} {N : Nat}
theorem ite_p {c P Q : Prop} [Decidable c] (h : c) (hp : P) : if c then P else Q := by rw [if_pos h]; exact hp
theorem ite_n {c P Q : Prop} [Decidable c] (h : ¬ c) (hq : Q) : if c then P else Q := by rw [if_neg h]; exact hq
theorem k_79 {a : Int} (h : 0 ≤ a ∧ a ≤ 255) : Runs (GW L xs) (d) 79 (0, [(Value.int (Int32.ofInt (sby a)))], [], zS (eV (V)) J tg) (some (Value.int (Int32.ofInt (sgn a))), zS (eV (V)) J tg) := by
  obtain ⟨s1, s2, s3, s4⟩ := sby_rg h
  apply sg_79
  by_cases c : 35 ≤ a ∧ a ≤ 62
  · rw [s3 (by omega)]
    have hv : a = 35 ∨ a = 36 ∨ a = 37 ∨ a = 38 ∨ a = 39 ∨ a = 40 ∨ a = 41 ∨ a = 42 ∨ a = 43 ∨ a = 44 ∨ a = 45 ∨ a = 46 ∨ a = 47 ∨ a = 48 ∨ a = 49 ∨ a = 50 ∨ a = 51 ∨ a = 52 ∨ a = 53 ∨ a = 54 ∨ a = 55 ∨ a = 56 ∨ a = 57 ∨ a = 58 ∨ a = 59 ∨ a = 60 ∨ a = 61 ∨ a = 62 := by omega
    clear s1 s2 s3 s4 h c
    rcases hv with rfl | rfl | rfl | rfl | rfl | rfl | rfl | rfl | rfl | rfl | rfl | rfl | rfl | rfl | rfl | rfl | rfl | rfl | rfl | rfl | rfl | rfl | rfl | rfl | rfl | rfl | rfl | rfl <;> (refine ite_n (by decide) ?_; (repeat (first | refine ite_p (by decide) ?_ | refine ite_n (by decide) ?_)); rfl)
  · refine ite_p ?_ ?_
    · rw [o_ti (by omega)]
      by_cases q : a < 128
      · have := s3 q; omega
      · have := s4 (by omega); omega
    · have e : sgn a = 1 := by unfold sgn; (repeat' split) <;> omega
      rw [e]; rfl
/-- scanWord -/
theorem k_76 (hT : TPE V b N) {f : Nat} (hf : f ≤ N) (h14 : V 67 14 = f) (h15 : V 67 15 = f) : ∃ W : Nat → Nat → Int, (∀ c, c ≠ 67 → W c = V c) ∧ (∀ p, p ≠ 12 → p ≠ 13 → p ≠ 15 → W 67 p = V 67 p) ∧ W 67 12 = wtk (wfd b f (en isL b N f) 17 0) ∧ W 67 13 = wfd b f (en isL b N f) 17 0 ∧ W 67 15 = (en isL b N f : Nat) ∧ Runs (GW L xs) (d + 1) 76 (0, [.ref 67, vU], [], zS (eV (V)) J tg) (none, zS (eV (W)) J tg) := by
  obtain ⟨t2, t3, t4⟩ := id hT
  obtain ⟨e1, e2, e3, e4⟩ := en_ch (f := isL) (b := b) hf
  generalize en isL b N f = t at e1 e2 e3 e4
  obtain ⟨W, ⟨-, i2, i3, i5⟩, hr⟩ := loopN (g := GW L xs) (d := d + 1) (mid := 76) (σ := Nat → Nat → Int) (fun i W => (5, [.ref 67, (Value.int (Int32.ofInt (i)))], [], zS (eV W) J tg)) (fun i W => f ≤ i ∧ (∀ c, c ≠ 67 → W c = V c) ∧ (∀ p, p ≠ 15 → W 67 p = V 67 p) ∧ W 67 15 = (i : Int)) t (by
    intro i W hi ⟨i0, i1, i2, i5⟩
    obtain ⟨b1, b2, b3⟩ := t4 i (by omega)
    have k7 := k_74 (L := L) (xs := xs) (J := J) (tg := tg) (d := d) (V := W) (a := b i) (by omega)
    have e2' : W 67 2 = N := by rw [i2 2 (by decide)]; exact t2
    have e68 : W 68 i = sby (b i) := by rw [i1 68 (by decide)]; exact b1
    have hL := e3 i i0 hi
    refine ⟨up2 W 67 15 (i + 1 : Int), ⟨by omega, fun c hc => by rw [w_ne _ _ _ _ hc]; exact i1 c hc, fun p hp => by rw [w_at, if_neg hp]; exact i2 p hp, by rw [w_eq]; rfl⟩, fun r hr => ?_⟩
    apply sg_76_5
    simp (disch := omega) only [e2', e68, eV_at, eV_up, o_lit2, o_add, o_sub, o_mul, o_neg, o_div, o_nat, ix_t, o_lt, o_le, o_eq, o_bi0, o_bi1, o_bib, em_t, o_neg1, o_shl, o_tb, o_tb0, o_tt, o_and, o_xor, o_or, o_max, o_min, an_tb, and_true, true_and, not_true, not_false, if_true, if_false, tn_add, tn_mul, Int.reduceToNat, tn_cast, md_x]
    rw [if_neg (by omega)]
    refine ⟨_, _, k7, ?_⟩
    rw [if_neg (b0o_f hL)]
    simp (disch := omega) only [eV_at, eV_up, o_lit2, o_add, o_sub, o_mul, o_neg, o_div, o_nat, ix_t, o_lt, o_le, o_eq, o_bi0, o_bi1, o_bib, em_t, o_neg1, o_shl, o_tb, o_tb0, o_tt, o_and, o_xor, o_or, o_max, o_min, an_tb, and_true, true_and, not_true, not_false, if_true, if_false, tn_add, tn_mul, Int.reduceToNat, tn_cast, md_x]
    exact hr) (t - f) f V (by omega) ⟨Nat.le_refl _, fun _ _ => rfl, fun _ _ => rfl, h15⟩
  have hTW : TPE W b N := ⟨by rw [i3 2 (by decide)]; exact t2, t3, fun k hk => by rw [i2 68 (by decide)]; exact t4 k hk⟩
  have k77 := k_77w (L := L) (xs := xs) (J := J) (tg := tg) (d := d) hTW e1 e2 (by rw [i3 14 (by decide)]; exact h14) i5 17 0 rfl
  have k77 : Runs (GW L xs) (d) 77 (0, [.ref 67, vU, vU, vU, vU, vU], [], zS (eV (W)) J tg) (some (Value.int (Int32.ofInt (wfd b f t 17 0))), zS (eV (W)) J tg) := by
    apply sg_77
    rw [eV_at, i3 14 (by decide), h14]
    exact k77
  have hrg := wfd_rg (b := b) (f := f) (t := t) 17 0
  have e2' : W 67 2 = N := hTW.1
  generalize wfd b f t 17 0 = v at hrg k77
  refine ⟨up2 (up2 W 67 13 v) 67 12 (wtk v), fun c hc => by rw [w_ne _ _ _ _ hc, w_ne _ _ _ _ hc]; exact i2 c hc, fun p h1 h2 h3 => by rw [w_at, if_neg h1, w_at, if_neg h2]; exact i3 p h3, w_eq _ _ _ _, by rw [w_at, if_neg (by decide), w_eq], by rw [w_at, if_neg (by decide), w_at, if_neg (by decide)]; exact i5, ?_⟩
  have fin : ∀ w : Int, w = wtk v → ((none, zS (eV (up2 (up2 W 67 13 v) 67 12 (wtk v))) J tg) : Option Value × SS) = (none, zS (eV (up2 (up2 W 67 13 v) 67 12 w)) J tg) := fun w e => by rw [e]
  apply sg_76
  rw [eV_at, h14]
  refine hr _ ?_
  apply sg_76_5
  simp (disch := omega) only [e2', eV_at, eV_up, o_lit2, o_add, o_sub, o_mul, o_neg, o_div, o_nat, ix_t, o_lt, o_le, o_eq, o_bi0, o_bi1, o_bib, em_t, o_neg1, o_shl, o_tb, o_tb0, o_tt, o_and, o_xor, o_or, o_max, o_min, an_tb, and_true, true_and, not_true, not_false, if_true, if_false, tn_add, tn_mul, Int.reduceToNat, tn_cast, md_x]
  by_cases c : N ≤ t
  · rw [if_pos (by omega)]
    refine ⟨_, _, k77, ?_⟩
    simp (disch := omega) only [eV_at, eV_up, o_lit2, o_add, o_sub, o_mul, o_neg, o_div, o_nat, ix_t, o_lt, o_le, o_eq, o_bi0, o_bi1, o_bib, em_t, o_neg1, o_shl, o_tb, o_tb0, o_tt, o_and, o_xor, o_or, o_max, o_min, an_tb, and_true, true_and, not_true, not_false, if_true, if_false, tn_add, tn_mul, Int.reduceToNat, tn_cast, md_x]
    by_cases c1 : v = -1
    · rw [if_pos c1]; exact fin _ (by unfold wtk; rw [if_pos c1])
    · rw [if_neg c1]
      by_cases c2 : 12 ≤ v
      · rw [if_pos c2]; exact fin _ (by unfold wtk; rw [if_neg c1, if_pos c2])
      · rw [if_neg c2]; exact fin _ (by unfold wtk; rw [if_neg c1, if_neg c2])
  · obtain ⟨b1, b2, b3⟩ := t4 t (by omega)
    have k7 := k_74 (L := L) (xs := xs) (J := J) (tg := tg) (d := d) (V := W) (a := b t) (by omega)
    have e68 : W 68 t = sby (b t) := by rw [i2 68 (by decide)]; exact b1
    rw [if_neg (by omega)]
    simp (disch := omega) only [e68, eV_at, eV_up, o_lit2, o_add, o_sub, o_mul, o_neg, o_div, o_nat, ix_t, o_lt, o_le, o_eq, o_bi0, o_bi1, o_bib, em_t, o_neg1, o_shl, o_tb, o_tb0, o_tt, o_and, o_xor, o_or, o_max, o_min, an_tb, and_true, true_and, not_true, not_false, if_true, if_false, tn_add, tn_mul, Int.reduceToNat, tn_cast, md_x]
    refine ⟨_, _, k7, ?_⟩
    rw [if_pos (b0o_t (fun h => e4 ⟨by omega, h⟩))]
    refine ⟨_, _, k77, ?_⟩
    simp (disch := omega) only [eV_at, eV_up, o_lit2, o_add, o_sub, o_mul, o_neg, o_div, o_nat, ix_t, o_lt, o_le, o_eq, o_bi0, o_bi1, o_bib, em_t, o_neg1, o_shl, o_tb, o_tb0, o_tt, o_and, o_xor, o_or, o_max, o_min, an_tb, and_true, true_and, not_true, not_false, if_true, if_false, tn_add, tn_mul, Int.reduceToNat, tn_cast, md_x]
    by_cases c1 : v = -1
    · rw [if_pos c1]; exact fin _ (by unfold wtk; rw [if_pos c1])
    · rw [if_neg c1]
      by_cases c2 : 12 ≤ v
      · rw [if_pos c2]; exact fin _ (by unfold wtk; rw [if_neg c1, if_pos c2])
      · rw [if_neg c2]; exact fin _ (by unfold wtk; rw [if_neg c1, if_neg c2])
end LX
