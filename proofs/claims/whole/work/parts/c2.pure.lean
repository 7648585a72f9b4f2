/-! What to draw: the class's start, and the reference's search. -/
def usf (B : Nat → Nat → Int) : Nat → Nat
  | 0 => 0
  | n + 1 => if 0 < B 8 n then usf B n ||| (B 9 n).toNat else usf B n
theorem usf_s {B : Nat → Nat → Int} {n : Nat} : usf B (n + 1) = if 0 < B 8 n then usf B n ||| (B 9 n).toNat else usf B n := rfl
theorem usf_lt {B : Nat → Nat → Int} (hI : INV B) : ∀ n, n ≤ 6 → usf B n < 2 ^ 12
  | 0, _ => by show 0 < 2 ^ 12; decide
  | n + 1, h => by
    have ih := usf_lt hI n (by omega)
    rw [usf_s]
    split
    · exact Nat.or_lt_two_pow ih (know_lt hI (by omega : n < 6)).2.1
    · exact ih
theorem usf_in {B : Nat → Nat → Int} {ld t : Nat} (h0 : 0 < B 8 ld) (ht : (B 9 ld).toNat.testBit t = true) : ∀ n, ld < n → (usf B n).testBit t = true
  | 0, h => by omega
  | n + 1, h => by
    rw [usf_s]
    by_cases e : ld = n
    · subst e
      rw [if_pos h0, Nat.testBit_or, ht, Bool.or_true]
    · have ih := usf_in h0 ht n (by omega)
      split
      · rw [Nat.testBit_or, ih, Bool.true_or]
      · exact ih
section MK
variable {L d : Nat} {xs : Nat → Int32} {B V : Nat → Nat → Int} {J : Nat → Nat → Int64} {tg : Option Nat} {dr st S : Nat}
abbrev ALL (S : Nat) : Nat → Prop := fun u => u < 2 ^ S ∧ pcn u S ≤ 6
/-- seekMade -/
theorem k_1 (hI : INV B) (q : Qy B V) (hd : dr < 12) (hst : st < 6) (hS : S ≤ 10) (hBS : B 18 2 = S) : ∃ W, Qy B W ∧ BST (HM B dr st S) (CN S) (OK B dr S) (ALL S) (W 79 10) (W 79 11) (W 79 9) ∧ Runs (GW L xs) (d + 13) 1 (0, [.ref 79, (Value.int (Int32.ofInt (dr))), (Value.int (Int32.ofInt (st))), vU], [], zS (eV (V)) J tg) (none, zS (eV (W)) J tg) := by
  have q0 : Qy B (up2 V 79 7 dr) := q.cl fun c q1 q2 => by rw [w_ne _ _ _ _ (by omega)]
  have hR0 : RNG (up2 V 79 7 dr) := hI.1.fr fun c hc => q0.1 c (by omega)
  obtain ⟨A, a1, a2, a3, a4, a5, a6⟩ := k_97_80 (L := L) (xs := xs) (J := J) (tg := tg) (d := d + 11) hR0 (dr := dr) (st := st) (f := 0) (n := 0) hd (by omega) (fun i hi => by omega)
  have qA : Qy B A := q0.cl fun c q1 q2 => a1 c (by omega) (by omega)
  have aF : ∀ k, k < 12 → A 78 k = fct B dr 0 (lf []) k := fun k hk => by
    rw [a5 k hk]
    unfold fct
    rw [q0.1 4 (by omega), q0.1 5 (by omega)]
    rfl
  have aN : N12 (A 78) := fun k hk => by rw [aF k hk]; have := fct_rg hI.1 (dr := dr) (n := 0) (by omega) (lf []) k; omega
  have e8 : ∀ W : Nat → Nat → Int, (∀ c, c ≠ 79 → W c = A c) → ∀ n, n < 6 → W 8 n = B 8 n ∧ W 9 n = (((B 9 n).toNat : Nat) : Int) := fun W f n hn => by
    rw [f 8 (by decide), f 9 (by decide), qA.1 8 (by omega), qA.1 9 (by omega)]
    exact ⟨rfl, (know_lt hI hn).2.2⟩
  obtain ⟨U, ⟨u1, u2, u3⟩, hrU⟩ := loopN (g := GW L xs) (d := d + 13) (mid := 1) (σ := Nat → Nat → Int) (fun n W => (27, [.ref 79, (Value.int (Int32.ofInt (dr))), (Value.int (Int32.ofInt (st))), (Value.int (Int32.ofInt (n)))], [], zS (eV W) J tg)) (fun n W => (∀ c, c ≠ 79 → W c = A c) ∧ W 79 7 = dr ∧ W 79 8 = usf B n) 6 (by
    intro n W hn ⟨u1, u2, u3⟩
    obtain ⟨w8, w9⟩ := e8 W u1 n hn
    have r8 : 0 ≤ B 8 n ∧ B 8 n ≤ 99 := hI.1 8 n (by decide) (by decide)
    have hlt := usf_lt hI n (by omega)
    obtain ⟨-, k2, -⟩ := know_lt hI hn
    have hs := usf_s (B := B) (n := n)
    by_cases c : 0 < B 8 n
    · rw [if_pos c] at hs
      refine ⟨up2 W 79 8 (usf B n ||| (B 9 n).toNat : Nat), ⟨fun c hc => by rw [w_ne _ _ _ _ hc]; exact u1 c hc, by rw [w_at, if_neg (by decide)]; exact u2, by rw [w_eq, hs]⟩, fun r hr => ?_⟩
      apply sg_1_27
      simp (disch := omega) only [w8, w9, u3, eV_at, eV_up, o_lit2, o_add, o_sub, o_mul, o_neg, o_div, o_nat, ix_t, o_lt, o_le, o_eq, o_bi0, o_bi1, o_bib, em_t, o_neg1, o_shl, o_tb, o_tb0, o_tt, o_and, o_xor, o_or, o_max, o_min, an_tb, and_true, true_and, not_true, not_false, if_true, if_false, tn_add, tn_mul, Int.reduceToNat, tn_cast, md_x]
      rw [if_neg (by omega), if_neg (by omega)]
      exact hr
    · rw [if_neg c] at hs
      refine ⟨W, ⟨u1, u2, by rw [hs]; exact u3⟩, fun r hr => ?_⟩
      apply sg_1_27
      simp (disch := omega) only [w8, eV_at, eV_up, o_lit2, o_add, o_sub, o_mul, o_neg, o_div, o_nat, ix_t, o_lt, o_le, o_eq, o_bi0, o_bi1, o_bib, em_t, o_neg1, o_shl, o_tb, o_tb0, o_tt, o_and, o_xor, o_or, o_max, o_min, an_tb, and_true, true_and, not_true, not_false, if_true, if_false, tn_add, tn_mul, Int.reduceToNat, tn_cast, md_x]
      rw [if_neg (by omega), if_pos (by omega)]
      exact hr) 6 0 (up2 A 79 8 0) (by omega) ⟨fun c hc => w_ne _ _ _ _ hc, by rw [w_at, if_neg (by decide), a1 79 (by decide) (by decide), w_eq], by rw [w_eq]; rfl⟩
  have hus : usf B 6 < 4096 := usf_lt hI 6 (by omega)
  have qZ : Qy B (up2 U 79 10 (-1)) := qA.cl fun c q1 q2 => by rw [w_ne _ _ _ _ (by omega)]; exact u1 c (by omega)
  have rT : 0 ≤ B 1 1 ∧ B 1 1 ≤ 12 := hI.1 1 1 (by decide) (by decide)
  have cZ : CS B (up2 U 79 10 (-1)) dr st (usf B 6) [] := by
    refine ⟨qZ, ?_, ?_, fun k hk => ?_, ?_, fun t ht hb s hs => ?_⟩
    · rw [w_ne _ _ _ _ (by decide), u1 75 (by decide)]; exact ⟨a3, a4⟩
    · rw [w_at, if_neg (by decide), w_at, if_neg (by decide)]; exact ⟨u2, u3⟩
    · rw [w_nc _ _ _ _ (by decide), u1 78 (by decide)]; exact aF k (by omega)
    · rw [w_ne _ _ _ _ (by decide), u1 78 (by decide)]; exact aN
    · have r3 : 0 ≤ B 3 (12 + t) ∧ B 3 (12 + t) ≤ 6 := hI.1 3 (12 + t) (by decide) (by decide)
      have h64 := p2_64 (m := (B 3 (12 + t)).toNat) (by omega)
      rw [qZ.2.2.2.2 _ (by rw [List.length_nil]; omega)]
      rfl
  obtain ⟨W, w1, w2, w3⟩ := k_2 (L := L) (xs := xs) (J := J) (tg := tg) (d := d) hI hd hst hus (fun ld hld h0 t ht => usf_in h0 ht 6 hld) hS hBS 6 (V := up2 U 79 10 (-1)) (s := 0) (f := 0) (c := 0) (l := []) (C := fun _ => False) (by
    have : ∀ n, mdL B 0 n = [] := fun n => by
      have h := mdL_len (B := B) (s := 0) n
      have h2 : pcn 0 n = 0 := by
        have := pcn_ext (s := 0) (m := 0) (by decide) n
        rw [Nat.zero_add] at this
        exact this
      rw [h2] at h
      exact List.length_eq_zero_iff.mp h
    exact this S) rfl rfl (by decide) (by omega) cZ (fun u hu => hu.elim) (Or.inl ⟨w_eq _ _ _ _, fun u hu => hu.elim⟩)
  refine ⟨W, w1.1, w2.cg (fun u => ⟨fun hu => ?_, fun hu => Or.inr ⟨hu.1, by rw [Nat.pow_zero]; omega, hu.2⟩⟩), ?_⟩
  · rcases hu with hu | hu
    · exact hu.elim
    · exact ⟨hu.1, hu.2.2⟩
  · have w3 : Runs (GW L xs) (d + 12) 2 (0, [.ref 79, (Value.int (Int32.ofInt (0))), (Value.int (Int32.ofInt (0))), (Value.int (Int32.ofInt (0))), vU, vU], [], zS (eV (up2 U 79 10 (-1))) J tg) (none, zS (eV (W)) J tg) := w3
    apply sg_1
    simp (disch := omega) only [eV_at, eV_up, o_lit2, o_add, o_sub, o_mul, o_neg, o_div, o_nat, ix_t, o_lt, o_le, o_eq, o_bi0, o_bi1, o_bib, em_t, o_neg1, o_shl, o_tb, o_tb0, o_tt, o_and, o_xor, o_or, o_max, o_min, an_tb, and_true, true_and, not_true, not_false, if_true, if_false, tn_add, tn_mul, Int.reduceToNat, tn_cast, md_x]
    refine ⟨_, a6, ?_⟩
    simp (disch := omega) only [eV_at, eV_up, o_lit2, o_add, o_sub, o_mul, o_neg, o_div, o_nat, ix_t, o_lt, o_le, o_eq, o_bi0, o_bi1, o_bib, em_t, o_neg1, o_shl, o_tb, o_tb0, o_tt, o_and, o_xor, o_or, o_max, o_min, an_tb, and_true, true_and, not_true, not_false, if_true, if_false, tn_add, tn_mul, Int.reduceToNat, tn_cast, md_x]
    refine hrU _ ?_
    apply sg_1_27
    simp (disch := omega) only [eV_at, eV_up, o_lit2, o_add, o_sub, o_mul, o_neg, o_div, o_nat, ix_t, o_lt, o_le, o_eq, o_bi0, o_bi1, o_bib, em_t, o_neg1, o_shl, o_tb, o_tb0, o_tt, o_and, o_xor, o_or, o_max, o_min, an_tb, and_true, true_and, not_true, not_false, if_true, if_false, tn_add, tn_mul, Int.reduceToNat, tn_cast, md_x]
    rw [if_pos (by omega)]
    exact ⟨_, w3, rfl⟩
/-- addListed, to the one that is tried -/
theorem m_258 (hI : INV B) (q : Qy B V) (hd : (dr : Int) < B 1 0) (hS : S ≤ 10) (hBS : B 18 2 = S) {s : Nat} (hs : s < 2 ^ S) (hp : pcn s S ≤ 6) (hL : LKm B V 24 dr 0 (lf [])) : ∃ W, TF V W ∧ LKm B W 24 dr (mdL B s S).length (lf (mdL B s S)) ∧ Runs (GW L xs) (d + 1) 258 (0, [.ref 93, (Value.int (Int32.ofInt (24))), (Value.int (Int32.ofInt (s))), vU], [], zS (eV (V)) J tg) (none, zS (eV (W)) J tg) := by
  have h10 : 2 ^ S ≤ 1024 := Nat.pow_le_pow_right (n := 2) (by omega) hS
  have cells : ∀ W, TF V W → W 94 5 = S ∧ ∀ i, i < S → W 94 (800 + i) = B 19 i := fun W f => by
    have qW := q.tf f
    have hIW := hI.q qW
    obtain ⟨⟨-, -, c5, -⟩, c8, -⟩ := hIW.2.1.2.2.2.2.2.2
    have c5 : W 94 5 = W 18 2 := c5
    have e18 : W 18 2 = S := by rw [qW.1 18 (by omega)]; exact hBS
    refine ⟨by rw [c5, e18], fun i hi => ?_⟩
    have : W 94 (800 + i) = W 19 i := c8 i (by rw [e18]; omega)
    rw [this, qW.1 19 (by omega)]
  obtain ⟨W, ⟨i1, i2⟩, hr⟩ := loopN (g := GW L xs) (d := d + 1) (mid := 258) (σ := Nat → Nat → Int) (fun i W => (2, [.ref 93, (Value.int (Int32.ofInt (24))), (Value.int (Int32.ofInt (s))), (Value.int (Int32.ofInt (i)))], [], zS (eV W) J tg)) (fun i W => TF V W ∧ LKm B W 24 dr (mdL B s i).length (lf (mdL B s i))) S (by
    intro i W hi ⟨i1, i2⟩
    obtain ⟨e5, e8⟩ := cells W i1
    have e8 := e8 i hi
    have hms := mdL_s (B := B) (s := s) (n := i)
    cases b : s.testBit i
    · rw [b, if_neg (by decide)] at hms
      refine ⟨W, ⟨i1, by rw [hms]; exact i2⟩, fun r hr => ?_⟩
      apply sg_258_2
      simp (disch := omega) only [e5, b, eV_at, eV_up, o_lit2, o_add, o_sub, o_mul, o_neg, o_div, o_nat, ix_t, o_lt, o_le, o_eq, o_bi0, o_bi1, o_bib, em_t, o_neg1, o_shl, o_tb, o_tb0, o_tt, o_and, o_xor, o_or, o_max, o_min, an_tb, and_true, true_and, not_true, not_false, if_true, if_false, tn_add, tn_mul, Int.reduceToNat, tn_cast, md_x]
      rw [if_neg (by omega)]
      first | exact hr | (rw [if_neg (by decide)]; exact hr)
    · rw [b, if_pos rfl] at hms
      have hlen := mdL_len (B := B) (s := s) i
      have hps := pcn_s (s := s) (n := i)
      rw [b, if_pos rfl] at hps
      obtain ⟨k, hk⟩ : ∃ k, S = i + 1 + k := ⟨S - (i + 1), by omega⟩
      have hpm := pcn_mono (s := s) (m := i + 1) k
      rw [← hk] at hpm
      have rv : 0 ≤ B 19 i ∧ B 19 i ≤ 179 := hI.1 19 i (by decide) (by decide)
      obtain ⟨X, x1, x2, x3, x4⟩ := m_189 (L := L) (xs := xs) (J := J) (tg := tg) (d := d) i2 (by omega) (v := B 19 i) (by omega)
      refine ⟨X, ⟨i1.tr ⟨fun c _ q2 _ _ => x1 c q2, x2⟩, by rw [hms]; exact x3⟩, fun r hr => ?_⟩
      apply sg_258_2
      simp (disch := omega) only [e5, b, e8, eV_at, eV_up, o_lit2, o_add, o_sub, o_mul, o_neg, o_div, o_nat, ix_t, o_lt, o_le, o_eq, o_bi0, o_bi1, o_bib, em_t, o_neg1, o_shl, o_tb, o_tb0, o_tt, o_and, o_xor, o_or, o_max, o_min, an_tb, and_true, true_and, not_true, not_false, if_true, if_false, tn_add, tn_mul, Int.reduceToNat, tn_cast, md_x]
      rw [if_neg (by omega)]
      first | rw [if_pos (by decide)] | skip
      exact ⟨_, _, x4, hr⟩) S 0 V (by omega) ⟨TF.rf, hL⟩
  obtain ⟨e5, -⟩ := cells W i1
  refine ⟨W, i1, i2, ?_⟩
  apply sg_258
  refine hr _ ?_
  apply sg_258_2
  simp (disch := omega) only [e5, eV_at, eV_up, o_lit2, o_add, o_sub, o_mul, o_neg, o_div, o_nat, ix_t, o_lt, o_le, o_eq, o_bi0, o_bi1, o_bib, em_t, o_neg1, o_shl, o_tb, o_tb0, o_tt, o_and, o_xor, o_or, o_max, o_min, an_tb, and_true, true_and, not_true, not_false, if_true, if_false, tn_add, tn_mul, Int.reduceToNat, tn_cast, md_x]
  rw [if_pos (by omega)] <;> first | rfl | trivial
end MK
