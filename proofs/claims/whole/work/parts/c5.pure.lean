/-! What to draw: it is drawn; MADE. -/
theorem inv_made {V W : Nat → Nat → Int} (h : INV V) {n : Nat} (ht : (n : Int) < V 1 0) {l : List Int} (hl : l.length ≤ 6) (hlv : ∀ v, v ∈ l → 0 ≤ v ∧ v < 180) (f : ∀ x, x ≠ 2 ∧ x ≠ 3 ∧ x ≠ 71 ∧ x ≠ 94 → W x = V x) (f2 : ∀ p, W 2 p = if n * 6 ≤ p ∧ p < n * 6 + l.length then lf l (p - n * 6) else V 2 p) (f3 : ∀ x, W 3 x = if x = n then (l.length : Int) else V 3 x) (f94 : ∀ p, ¬ (p = 20 + 22 * n ∨ (20 + 22 * n + 4 ≤ p ∧ p < 20 + 22 * n + 10)) → W 94 p = V 94 p) (f94a : W 94 (20 + 22 * n) = l.length) (f94b : ∀ j, j < l.length → W 94 (20 + 22 * n + (4 + j)) = lf l j) (hca : CA W) : INV W := by
  have h0 := h
  obtain ⟨hR, ⟨hA, hB, hC, hD, hE, hF, hH⟩, h2, h3, h4, h5⟩ := h
  have rD : 0 ≤ V 1 0 ∧ V 1 0 ≤ 12 := hR 1 0 (by decide) (by decide)
  have rT : 0 ≤ V 1 1 ∧ V 1 1 ≤ 12 := hR 1 1 (by decide) (by decide)
  have hRW : RNG W := by
    intro c p q1 q2
    by_cases c2 : c = 2
    · subst c2
      rw [f2]
      split
      · rename_i q
        have := hlv _ (lf_mem (l := l) (j := p - n * 6) (by omega))
        show (0 : Int) ≤ _ ∧ _ ≤ (179 : Int)
        omega
      · exact hR 2 p q1 q2
    · by_cases c3 : c = 3
      · subst c3
        rw [f3]
        split
        · show (0 : Int) ≤ _ ∧ _ ≤ (6 : Int)
          omega
        · exact hR 3 p q1 q2
      · rw [f c (by omega)]; exact hR c p q1 q2
  refine ⟨hRW, ⟨(hA.up (fun p _ => by rw [f 1 (by omega)]) (fun p q => f94 p (by omega))), ?_, (hC.up hR (by rw [f 1 (by omega)]) (f 5 (by omega)) (f 6 (by omega)) (f 12 (by omega)) (fun l w _ _ => f94 _ (by omega)) (fun k _ => f94 _ (by omega))), ?_, (hE.up (by rw [f 1 (by omega)]) (f 7 (by omega)) (f 8 (by omega)) (f 9 (by omega)) (f 10 (by omega)) (f 11 (by omega)) (fun p _ => f94 _ (by omega))), (hF.up hR (by rw [f 1 (by omega)]) (by rw [f 1 (by omega)]) (by rw [f 7 (by omega)]) (fun x _ _ => f x (by omega)) (fun p _ => f94 _ (by omega))), (hH.up hR (by rw [f 1 (by omega)]) (fun x _ _ => f x (by omega)) (fun p _ => f94 _ (by omega)))⟩, (h2.fr fun x _ => f x (by omega)), hca, (h4.fr (fun x _ => f x (by omega)) (by rw [f 93 (by omega)]) (by rw [f 93 (by omega)]) (by rw [f 93 (by omega)])), (h5.fr hR fun x _ => f x (by omega))⟩
  · intro k hk
    rw [f 1 (by omega)] at hk
    have h3 : 0 ≤ V 3 k ∧ V 3 k ≤ 6 := hR 3 k (by decide) (by decide)
    obtain ⟨c1, c2, c3⟩ := hB k hk
    have f3' : W (1 + 2) k = if k = n then (l.length : Int) else V 3 k := f3 k
    have f2' : ∀ p, W (1 + 1) p = if n * 6 ≤ p ∧ p < n * 6 + l.length then lf l (p - n * 6) else V 2 p := f2
    rw [f3', f (1 + 3) (by omega)]
    by_cases q : k = n
    · subst q
      rw [if_pos rfl]
      refine ⟨f94a, by rw [f94 _ (by omega)]; exact c2, fun j hj => ?_⟩
      rw [f2', if_pos (by omega), f94b j (by omega)]
      congr 1
      omega
    · rw [if_neg q]
      refine ⟨by rw [f94 _ (by omega)]; exact c1, by rw [f94 _ (by omega)]; exact c2, fun j hj => ?_⟩
      have hj' : (j : Int) < V 3 k := hj
      rw [f2', if_neg (by omega), f94 _ (by omega)]; exact c3 j hj
  · refine ⟨fun k hk htk => ?_, ?_⟩
    · rw [f 1 (by omega)] at htk
      obtain ⟨c1, c2⟩ := hD.1 k hk htk
      rw [f (1 + 3) (by omega)]
      refine ⟨?_, c2⟩
      show W 3 k = 0
      rw [f3, if_neg (by omega)]; exact c1
    · rw [f 1 (by omega), f (1 + 4) (by omega), f (1 + 5) (by omega), f (7 + 5) (by omega)]; exact hD.2
section MK
variable {L d : Nat} {xs : Nat → Int32} {B V : Nat → Nat → Int} {J : Nat → Nat → Int64} {tg : Option Nat} {dr st S : Nat}
theorem mdL_lt {s i : Nat} (hp : pcn s S ≤ 6) (hi : i < S) (b : s.testBit i = true) : (mdL B s i).length < 6 := by
  have hlen := mdL_len (B := B) (s := s) i
  have hps := pcn_s (s := s) (n := i)
  rw [b, if_pos rfl] at hps
  obtain ⟨k, hk⟩ : ∃ k, S = i + 1 + k := ⟨S - (i + 1), by omega⟩
  have hpm := pcn_mono (s := s) (m := i + 1) k
  rw [← hk] at hpm
  omega
/-- drawMade -/
theorem k_7 (hI : INV B) (q : Qy B V) (hd : dr < 12) (hS : S ≤ 10) (hBS : B 18 2 = S) {s : Nat} (hs : s < 2 ^ S) (hp : pcn s S ≤ 6) (h10 : V 79 10 = s) : ∃ U, (∀ c, c ≠ 2 → c ≠ 3 → c ≠ 71 → U c = V c) ∧ (∀ p, U 2 p = if dr * 6 ≤ p ∧ p < dr * 6 + (mdL B s S).length then lf (mdL B s S) (p - dr * 6) else V 2 p) ∧ (∀ x, U 3 x = if x = dr then ((mdL B s S).length : Int) else V 3 x) ∧ (∀ a b, a < 24 → b < 24 → (a = dr ∨ b = dr → U 71 (a * 24 + b) = -1) ∧ (¬ (a = dr ∨ b = dr) → U 71 (a * 24 + b) = V 71 (a * 24 + b))) ∧ Runs (GW L xs) (d + 1) 7 (0, [.ref 79, (Value.int (Int32.ofInt (dr))), vU, vU], [], zS (eV (V)) J tg) (some (Value.int (Int32.ofInt ((mdL B s S).length))), zS (eV (U)) J tg) := by
  have h10' : 2 ^ S ≤ 1024 := Nat.pow_le_pow_right (n := 2) (by omega) hS
  obtain ⟨W, ⟨i1, i2⟩, hr⟩ := loopN (g := GW L xs) (d := d + 1) (mid := 7) (σ := Nat → Nat → Int) (fun i W => (4, [.ref 79, (Value.int (Int32.ofInt (dr))), (Value.int (Int32.ofInt ((mdL B s i).length))), (Value.int (Int32.ofInt (i)))], [], zS (eV W) J tg)) (fun i W => (∀ c, c ≠ 2 → W c = V c) ∧ ∀ p, W 2 p = if dr * 6 ≤ p ∧ p < dr * 6 + (mdL B s i).length then lf (mdL B s i) (p - dr * 6) else V 2 p) S (by
    intro i W hi ⟨i1, i2⟩
    have e18 : W 18 2 = S := by rw [i1 18 (by decide), q.1 18 (by omega)]; exact hBS
    have e19 : W 19 i = B 19 i := by rw [i1 19 (by decide), q.1 19 (by omega)]
    have e79 : W 79 10 = s := by rw [i1 79 (by decide)]; exact h10
    have hms := mdL_s (B := B) (s := s) (n := i)
    cases b : s.testBit i
    · rw [b, if_neg (by decide)] at hms
      rw [hms]
      have hlen := mdL_len (B := B) (s := s) i
      refine ⟨W, ⟨i1, i2⟩, fun r hr => ?_⟩
      apply sg_7_4
      simp (disch := omega) only [e18, e79, b, eV_at, eV_up, o_lit2, o_add, o_sub, o_mul, o_neg, o_div, o_nat, ix_t, o_lt, o_le, o_eq, o_bi0, o_bi1, o_bib, em_t, o_neg1, o_shl, o_tb, o_tb0, o_tt, o_and, o_xor, o_or, o_max, o_min, an_tb, and_true, true_and, not_true, not_false, if_true, if_false, tn_add, tn_mul, Int.reduceToNat, tn_cast, md_x]
      rw [if_neg (by omega)]
      first | exact hr | (rw [if_pos (by decide)]; exact hr)
    · have hlt := mdL_lt (B := B) hp hi b
      rw [b, if_pos rfl] at hms
      rw [hms]
      generalize mdL B s i = l at *
      have hla : (l ++ [B 19 i]).length = l.length + 1 := by rw [List.length_append, List.length_singleton]
      refine ⟨up2 W 2 (dr * 6 + l.length) (B 19 i), ⟨fun c hc => by rw [w_ne _ _ _ _ hc]; exact i1 c hc, fun p => ?_⟩, fun r hr => ?_⟩
      · rw [w_at, hla]
        by_cases e : p = dr * 6 + l.length
        · rw [if_pos e, if_pos (by omega), lf_last (by omega)]
        · rw [if_neg e, i2 p]
          by_cases c : dr * 6 ≤ p ∧ p < dr * 6 + l.length
          · rw [if_pos c, if_pos (by omega), lf_init (by omega)]
          · rw [if_neg c, if_neg (by omega)]
      · rw [hla] at hr
        apply sg_7_4
        simp (disch := omega) only [e18, e79, b, e19, eV_at, eV_up, o_lit2, o_add, o_sub, o_mul, o_neg, o_div, o_nat, ix_t, o_lt, o_le, o_eq, o_bi0, o_bi1, o_bib, em_t, o_neg1, o_shl, o_tb, o_tb0, o_tt, o_and, o_xor, o_or, o_max, o_min, an_tb, and_true, true_and, not_true, not_false, if_true, if_false, tn_add, tn_mul, Int.reduceToNat, tn_cast, md_x]
        rw [if_neg (by omega)]
        first | rw [if_neg (by decide)] | skip
        rw [if_neg (by omega)]
        exact hr) S 0 V (by omega) ⟨fun _ _ => rfl, fun p => by rw [if_neg (by show ¬ (dr * 6 ≤ p ∧ p < dr * 6 + 0); omega)]⟩
  have hlen := mdL_len (B := B) (s := s) S
  generalize mdL B s S = l at *
  have e18 : W 18 2 = S := by rw [i1 18 (by decide), q.1 18 (by omega)]; exact hBS
  obtain ⟨U, u1, u2, u3⟩ := k_61 (L := L) (xs := xs) (J := J) (tg := tg) (d := d) (V := up2 W 3 dr l.length) (l := dr) (by omega)
  refine ⟨U, fun c h1 h2 h3 => by rw [u1 c h3, w_ne _ _ _ _ h2]; exact i1 c h1, fun p => by rw [u1 2 (by decide), w_ne _ _ _ _ (by decide)]; exact i2 p, fun x => by rw [u1 3 (by decide), w_at, i1 3 (by decide)], fun a b ha hb => ?_, ?_⟩
  · have := u2 a b ha hb
    rw [w_ne _ _ _ _ (by decide : (71 : Nat) ≠ 3), i1 71 (by decide)] at this
    exact this
  · apply sg_7
    refine hr _ ?_
    apply sg_7_4
    simp (disch := omega) only [e18, eV_at, eV_up, o_lit2, o_add, o_sub, o_mul, o_neg, o_div, o_nat, ix_t, o_lt, o_le, o_eq, o_bi0, o_bi1, o_bib, em_t, o_neg1, o_shl, o_tb, o_tb0, o_tt, o_and, o_xor, o_or, o_max, o_min, an_tb, and_true, true_and, not_true, not_false, if_true, if_false, tn_add, tn_mul, Int.reduceToNat, tn_cast, md_x]
    rw [if_pos (by omega)]
    exact ⟨_, u3, rfl⟩
/-- addListed, to the DRAWING -/
theorem m_258d (hS : S ≤ 10) (hd : dr < 12) (h5 : V 94 5 = S) (h8 : ∀ i, i < S → V 94 (800 + i) = B 19 i) (hRB : RNG B) {s : Nat} (hs : s < 2 ^ S) (hp : pcn s S ≤ 6) (h0 : V 94 (20 + 22 * dr) = 0) : ∃ W : Nat → Nat → Int, (∀ c, c ≠ 94 → W c = V c) ∧ (∀ p, ¬ (p = 20 + 22 * dr ∨ (20 + 22 * dr + 4 ≤ p ∧ p < 20 + 22 * dr + 10)) → W 94 p = V 94 p) ∧ W 94 (20 + 22 * dr) = (mdL B s S).length ∧ (∀ j, j < (mdL B s S).length → W 94 (20 + 22 * dr + (4 + j)) = lf (mdL B s S) j) ∧ Runs (GW L xs) (d + 1) 258 (0, [.ref 93, (Value.int (Int32.ofInt (dr))), (Value.int (Int32.ofInt (s))), vU], [], zS (eV (V)) J tg) (none, zS (eV (W)) J tg) := by
  have h10 : 2 ^ S ≤ 1024 := Nat.pow_le_pow_right (n := 2) (by omega) hS
  obtain ⟨W, ⟨i1, i2, i3, i4⟩, hr⟩ := loopN (g := GW L xs) (d := d + 1) (mid := 258) (σ := Nat → Nat → Int) (fun i W => (2, [.ref 93, (Value.int (Int32.ofInt (dr))), (Value.int (Int32.ofInt (s))), (Value.int (Int32.ofInt (i)))], [], zS (eV W) J tg)) (fun i W => (∀ c, c ≠ 94 → W c = V c) ∧ (∀ p, ¬ (p = 20 + 22 * dr ∨ (20 + 22 * dr + 4 ≤ p ∧ p < 20 + 22 * dr + 10)) → W 94 p = V 94 p) ∧ W 94 (20 + 22 * dr) = (mdL B s i).length ∧ ∀ j, j < (mdL B s i).length → W 94 (20 + 22 * dr + (4 + j)) = lf (mdL B s i) j) S (by
    intro i W hi ⟨i1, i2, i3, i4⟩
    have e5 : W 94 5 = S := by rw [i2 5 (by omega)]; exact h5
    have e8 : W 94 (800 + i) = B 19 i := by rw [i2 _ (by omega)]; exact h8 i hi
    have hms := mdL_s (B := B) (s := s) (n := i)
    cases b : s.testBit i
    · rw [b, if_neg (by decide)] at hms
      rw [hms]
      refine ⟨W, ⟨i1, i2, i3, i4⟩, fun r hr => ?_⟩
      apply sg_258_2
      simp (disch := omega) only [e5, b, eV_at, eV_up, o_lit2, o_add, o_sub, o_mul, o_neg, o_div, o_nat, ix_t, o_lt, o_le, o_eq, o_bi0, o_bi1, o_bib, em_t, o_neg1, o_shl, o_tb, o_tb0, o_tt, o_and, o_xor, o_or, o_max, o_min, an_tb, and_true, true_and, not_true, not_false, if_true, if_false, tn_add, tn_mul, Int.reduceToNat, tn_cast, md_x]
      rw [if_neg (by omega)]
      first | exact hr | (rw [if_neg (by decide)]; exact hr)
    · have hlt := mdL_lt (B := B) hp hi b
      rw [b, if_pos rfl] at hms
      rw [hms]
      generalize mdL B s i = l at *
      have hla : (l ++ [B 19 i]).length = l.length + 1 := by rw [List.length_append, List.length_singleton]
      have rv : 0 ≤ B 19 i ∧ B 19 i ≤ 179 := hRB 19 i (by decide) (by decide)
      have k9 := k_189 (L := L) (xs := xs) (J := J) (tg := tg) (d := d) (V := W) (l := dr) (n := l.length) (v := B 19 i) (by omega) i3 (by omega)
      refine ⟨up2 (up2 W 94 (20 + 22 * dr + 4 + l.length) (B 19 i)) 94 (20 + 22 * dr) ((l.length : Int) + 1), ⟨fun c hc => by rw [w_ne _ _ _ _ hc, w_ne _ _ _ _ hc]; exact i1 c hc, fun p hp' => by rw [w_at, if_neg (by omega), w_at, if_neg (by omega)]; exact i2 p hp', by rw [w_eq, hla]; rfl, fun j hj => ?_⟩, fun r hr => ?_⟩
      · rw [hla] at hj
        rw [w_at, if_neg (by omega), w_at]
        by_cases e : j = l.length
        · rw [if_pos (by omega), lf_last e]
        · rw [if_neg (by omega), lf_init (by omega)]; exact i4 j (by omega)
      · apply sg_258_2
        simp (disch := omega) only [e5, b, e8, eV_at, eV_up, o_lit2, o_add, o_sub, o_mul, o_neg, o_div, o_nat, ix_t, o_lt, o_le, o_eq, o_bi0, o_bi1, o_bib, em_t, o_neg1, o_shl, o_tb, o_tb0, o_tt, o_and, o_xor, o_or, o_max, o_min, an_tb, and_true, true_and, not_true, not_false, if_true, if_false, tn_add, tn_mul, Int.reduceToNat, tn_cast, md_x]
        rw [if_neg (by omega)]
        first | rw [if_pos (by decide)] | skip
        exact ⟨_, _, k9, hr⟩) S 0 V (by omega) ⟨fun _ _ => rfl, fun _ _ => rfl, h0, fun j h => absurd h (Nat.not_lt_zero j)⟩
  have e5 : W 94 5 = S := by rw [i2 5 (by omega)]; exact h5
  refine ⟨W, i1, i2, i3, i4, ?_⟩
  apply sg_258
  refine hr _ ?_
  apply sg_258_2
  simp (disch := omega) only [e5, eV_at, eV_up, o_lit2, o_add, o_sub, o_mul, o_neg, o_div, o_nat, ix_t, o_lt, o_le, o_eq, o_bi0, o_bi1, o_bib, em_t, o_neg1, o_shl, o_tb, o_tb0, o_tt, o_and, o_xor, o_or, o_max, o_min, an_tb, and_true, true_and, not_true, not_false, if_true, if_false, tn_add, tn_mul, Int.reduceToNat, tn_cast, md_x]
  rw [if_pos (by omega)] <;> first | rfl | trivial
end MK
