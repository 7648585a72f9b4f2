/-! widen: a row of gains with one PART more. -/
def kst (s : Nat) (g F : Nat → Int) (K : List Nat) (acc : Int) : Int := K.foldl (fun a j => if s.testBit j then max a (F (s ^^^ 2 ^ j) + g j) else a) acc
theorem kst_le {s : Nat} {g F : Nat → Int} {x : Int} : ∀ {K : List Nat} {acc : Int}, kst s g F K acc ≤ x ↔ acc ≤ x ∧ ∀ j, j ∈ K → s.testBit j = true → F (s ^^^ 2 ^ j) + g j ≤ x
  | [], acc => by simp [kst]
  | k :: K, acc => by
    have ih := @kst_le s g F x K (if s.testBit k then max acc (F (s ^^^ 2 ^ k) + g k) else acc)
    show kst s g F K _ ≤ x ↔ _
    rw [ih]
    constructor
    · rintro ⟨h1, h2⟩
      split at h1
      · refine ⟨by omega, fun j hj ht => ?_⟩
        rcases List.mem_cons.mp hj with e | e
        · subst e; omega
        · exact h2 j e ht
      · refine ⟨h1, fun j hj ht => ?_⟩
        rcases List.mem_cons.mp hj with e | e
        · subst e; exact absurd ht (by assumption)
        · exact h2 j e ht
    · rintro ⟨h1, h2⟩
      refine ⟨?_, fun j hj ht => h2 j (List.mem_cons_of_mem _ hj) ht⟩
      split
      · have := h2 k (by simp) (by assumption); omega
      · exact h1
theorem kst_gst {s m : Nat} {g F : Nat → Int} (hm : ∀ j, s.testBit j = true → F (s ^^^ 2 ^ j) ≤ F s) : kst s g F (fgl g m) (F s) = gst s g F m (F s) := by
  refine eq_of_le fun x => ?_
  rw [kst_le, gst_le]
  constructor
  · rintro ⟨h1, h2⟩
    refine ⟨h1, fun j hj ht => ?_⟩
    by_cases hg : 0 < g j
    · exact h2 j ((fgl_mem g m j).mpr ⟨hj, hg⟩) ht
    · have := hm j ht; omega
  · rintro ⟨h1, h2⟩
    exact ⟨h1, fun j hj ht => h2 j ((fgl_mem g m j).mp hj).1 ht⟩
theorem kst_tk {s n : Nat} {g F : Nat → Int} {K : List Nat} {acc : Int} (h : n < K.length) : kst s g F (K.take (n + 1)) acc = if s.testBit (K.getD n 0) then max (kst s g F (K.take n) acc) (F (s ^^^ 2 ^ (K.getD n 0)) + g (K.getD n 0)) else kst s g F (K.take n) acc := by
  have e : K.getD n 0 = K[n] := by simp [List.getD, h]
  rw [e, List.take_add_one, List.getElem?_eq_getElem h]
  unfold kst
  rw [List.foldl_append]
  rfl
theorem x_lt {s j m : Nat} (h : s < 2 ^ m) (hj : j < m) : s ^^^ 2 ^ j < 2 ^ m := Nat.xor_lt_two_pow h (Nat.pow_lt_pow_right (by omega) hj)
theorem p2_64 {m : Nat} (h : m ≤ 6) : 2 ^ m ≤ 64 := Nat.pow_le_pow_right (n := 2) (by omega) h
theorem x_le {s j : Nat} (h : s.testBit j = true) : s ^^^ 2 ^ j ≤ s := by
  have e : s ^^^ 2 ^ j = s &&& (s ^^^ 2 ^ j) := by
    apply Nat.eq_of_testBit_eq
    intro i
    rw [Nat.testBit_and, tb_x]
    by_cases q : j = i
    · subst q; simp [h]
    · simp [q]
  rw [e]; exact Nat.and_le_left
theorem g1_rg {V : Nat → Nat → Int} (hR : RNG V) {p : Int} (q : Nat → Int) (t : Nat) : 0 ≤ g1 V p q t ∧ g1 V p q t ≤ 198 := by
  have w4 : 0 ≤ V 1 4 ∧ V 1 4 ≤ 99 := hR 1 4 (by decide) (by decide)
  have w3 : 0 ≤ V 1 3 ∧ V 1 3 ≤ 99 := hR 1 3 (by decide) (by decide)
  have w2 : 0 ≤ V 1 2 ∧ V 1 2 ≤ 99 := hR 1 2 (by decide) (by decide)
  have := mul_rg w2 (gapZ_rg (P := p / 4 % 9) (Q := q t / 4 % 9) (by omega) (by omega))
  unfold g1 gpr csF cst
  dsimp only
  split
  · split <;> omega
  · omega
theorem k_66i_72 {L d : Nat} {xs : Nat → Int32} {W : Nat → Nat → Int} {J : Nat → Nat → Int64} {tg : Option Nat} {F g : Nat → Int} {K : List Nat} {m s fr : Nat} {x1 x2 x5 : Int32} (hm : m ≤ 6) (hs : s < 2 ^ m) (hK : ∀ j, j ∈ K → j < m) (hl : K.length ≤ 6) (hfr : fr + 64 ≤ 64) (hF : ∀ t, t ≤ s → W 72 (fr + t) = F t) (hFb : ∀ t, 0 ≤ F t ∧ F t ≤ 10000) (hgb : ∀ t, 0 ≤ g t ∧ g t ≤ 10000) (h73 : ∀ t, t < K.length → W 73 t = ((2 ^ (K.getD t 0) : Nat) : Int) ∧ W 74 t = g (K.getD t 0)) : Rch (GW L xs) (d + 1) 66 (32, [.ref 70, .int x1, .int x2, .ref 72, (Value.int (Int32.ofInt (fr))), .int x5, (Value.int (Int32.ofInt (K.length))), (Value.int (Int32.ofInt (s))), (Value.int (Int32.ofInt (F s))), (Value.int (Int32.ofInt (0)))], [], zS (eV W) J tg) (32, [.ref 70, .int x1, .int x2, .ref 72, (Value.int (Int32.ofInt (fr))), .int x5, (Value.int (Int32.ofInt (K.length))), (Value.int (Int32.ofInt (s))), (Value.int (Int32.ofInt (kst s g F K (F s)))), (Value.int (Int32.ofInt (K.length)))], [], zS (eV W) J tg) := by
  have h64 := p2_64 hm
  obtain ⟨z, hi, hr⟩ := loopN (g := GW L xs) (d := d + 1) (mid := 66) (σ := Unit) (fun n _ => (32, [.ref 70, .int x1, .int x2, .ref 72, (Value.int (Int32.ofInt (fr))), .int x5, (Value.int (Int32.ofInt (K.length))), (Value.int (Int32.ofInt (s))), (Value.int (Int32.ofInt (kst s g F (K.take n) (F s)))), (Value.int (Int32.ofInt (n)))], [], zS (eV W) J tg)) (fun n _ => 0 ≤ kst s g F (K.take n) (F s) ∧ kst s g F (K.take n) (F s) ≤ 20000) K.length (by
    intro n _ hn hb
    have hj : K.getD n 0 < m := hK _ (by simp [List.getD, hn])
    have hx := x_lt hs hj
    have h7 := h73 n hn
    have hFs := hFb (s ^^^ 2 ^ K.getD n 0)
    have hg := hgb (K.getD n 0)
    have han : s &&& 2 ^ K.getD n 0 ≤ s := Nat.and_le_left
    refine ⟨(), ?_, ?_⟩
    · rw [kst_tk hn]
      split <;> omega
    · intro r hr
      rw [kst_tk hn] at hr
      refine sg_66c72_32 _ _ _ _ _ _ _ _ _ _ _ ?_
      by_cases hb : s.testBit (K.getD n 0) = true
      · have hxs : s ^^^ 2 ^ K.getD n 0 ≤ s := x_le hb
        rw [if_pos hb] at hr
        simp (disch := omega) only [h7.1, h7.2, eV_at, eV_up, o_lit2, o_add, o_sub, o_mul, o_neg, o_div, o_nat, ix_t, o_lt, o_le, o_eq, o_bi0, o_bi1, o_bib, em_t, o_neg1, o_shl, o_tb, o_tb0, o_tt, o_and, o_xor, o_or, o_max, o_min, an_tb, and_true, true_and, not_true, not_false, if_true, if_false, tn_add, tn_mul, Int.reduceToNat, tn_cast, md_x, hF _ hxs]
        rw [if_neg (by omega), if_neg (by rw [hb]; simp)]
        exact hr
      · rw [if_neg hb] at hr
        simp (disch := omega) only [h7.1, h7.2, eV_at, eV_up, o_lit2, o_add, o_sub, o_mul, o_neg, o_div, o_nat, ix_t, o_lt, o_le, o_eq, o_bi0, o_bi1, o_bib, em_t, o_neg1, o_shl, o_tb, o_tb0, o_tt, o_and, o_xor, o_or, o_max, o_min, an_tb, and_true, true_and, not_true, not_false, if_true, if_false, tn_add, tn_mul, Int.reduceToNat, tn_cast, md_x]
        rw [if_neg (by omega), if_pos (Bool.eq_false_iff.mpr hb)]
        exact hr) K.length 0 () (by omega) (by have := hFb s; simp [kst]; omega)
  have := hr
  simp only [List.take_zero, List.take_length] at this
  exact this
theorem k_66_72 {L d : Nat} {xs : Nat → Int32} {V : Nat → Nat → Int} {J : Nat → Nat → Int64} {tg : Option Nat} (hR : RNG V) {l : Nat} (hl : l < 24) {p : Int} (hp : 0 ≤ p ∧ p < 180) {F : Nat → Int} {fr to : Nat} (hfr : fr + 64 ≤ 64) (hto : to + 64 ≤ 64) (hft : fr = to ∨ fr + 64 ≤ to) (hF : ∀ s, s < 2 ^ (V 3 l).toNat → V 72 (fr + s) = F s) (hFb : ∀ t, 0 ≤ F t ∧ F t ≤ 10000) (hFm : ∀ s j, s.testBit j = true → F (s ^^^ 2 ^ j) ≤ F s) : ∃ W, (∀ c, c ≠ 73 → c ≠ 74 → c ≠ 72 → W c = V c) ∧ (∀ x, x < to ∨ to + 64 ≤ x → W 72 x = V 72 x) ∧ (∀ s, s < 2 ^ (V 3 l).toNat → W 72 (to + s) = gst s (g1 V p (lkc V l)) F (V 3 l).toNat (F s)) ∧ Runs (GW L xs) (d + 1) 66 (0, [.ref 70, (Value.int (Int32.ofInt (p))), (Value.int (Int32.ofInt (l))), .ref 72, (Value.int (Int32.ofInt (fr))), (Value.int (Int32.ofInt (to))), vU, vU, vU, vU], [], zS (eV (V)) J tg) (none, zS (eV (W)) J tg) := by
  have h3 : 0 ≤ V 3 l ∧ V 3 l ≤ 6 := hR 3 l (by decide) (by decide)
  obtain ⟨A, hA, hA2, hA3⟩ := k_67 (L := L) (xs := xs) (J := J) (tg := tg) (d := d) hR hl hp
  have hRA : RNG A := hR.fr fun c hc => hA c (by omega) (by omega)
  have hk := k_65 (L := L) (xs := xs) (J := J) (tg := tg) (d := d) hRA hl
  have e3 : A 3 = V 3 := hA 3 (by decide) (by decide)
  have eC : A 72 = V 72 := hA 72 (by decide) (by decide)
  rw [e3] at hk
  have hm : (V 3 l).toNat ≤ 6 := by omega
  have h64 := p2_64 hm
  have hpos := Nat.pow_pos (a := 2) (n := (V 3 l).toNat) (by omega)
  have hlen := fgl_len (g1 V p (lkc V l)) (V 3 l).toNat
  have hgb : ∀ t, 0 ≤ g1 V p (lkc V l) t ∧ g1 V p (lkc V l) t ≤ 10000 := fun t => by have := g1_rg hR (lkc V l) t (p := p); omega
  obtain ⟨W, hi, hr⟩ := loopN (g := GW L xs) (d := d + 1) (mid := 66) (σ := Nat → Nat → Int) (fun n W => (15, [.ref 70, (Value.int (Int32.ofInt (p))), (Value.int (Int32.ofInt (l))), .ref 72, (Value.int (Int32.ofInt (fr))), (Value.int (Int32.ofInt (to))), (Value.int (Int32.ofInt ((fgl (g1 V p (lkc V l)) (V 3 l).toNat).length))), (Value.int (Int32.ofInt ((2 ^ (V 3 l).toNat : Nat) - 1 - n))), vU, vU], [], zS (eV W) J tg)) (fun n W => (∀ c, c ≠ 72 → W c = A c) ∧ (∀ x, x < to ∨ to + 64 ≤ x → W 72 x = V 72 x) ∧ (∀ s, s < 2 ^ (V 3 l).toNat → 2 ^ (V 3 l).toNat ≤ s + n → W 72 (to + s) = gst s (g1 V p (lkc V l)) F (V 3 l).toNat (F s)) ∧ (∀ s, s + n < 2 ^ (V 3 l).toNat → W 72 (fr + s) = F s)) (2 ^ (V 3 l).toNat) (by
    intro n W hn ⟨i1, i2, i3, i4⟩
    obtain ⟨s, hs⟩ : ∃ s, s + n + 1 = 2 ^ (V 3 l).toNat := ⟨2 ^ (V 3 l).toNat - 1 - n, by omega⟩
    have es : ((2 ^ (V 3 l).toNat : Nat) : Int) - 1 - n = s := by omega
    have es' : ((2 ^ (V 3 l).toNat : Nat) : Int) - 1 - (n + 1 : Nat) = (s : Int) + -1 := by omega
    have hFs := hFb s
    have hks : 0 ≤ kst s (g1 V p (lkc V l)) F (fgl (g1 V p (lkc V l)) (V 3 l).toNat) (F s) := by
      have := (@kst_le s (g1 V p (lkc V l)) F _ (fgl (g1 V p (lkc V l)) (V 3 l).toNat) (F s)).mp (Int.le_refl _)
      omega
    refine ⟨up2 W 72 (to + s) (kst s (g1 V p (lkc V l)) F (fgl (g1 V p (lkc V l)) (V 3 l).toNat) (F s)), ⟨fun c hc => by rw [w_ne _ _ _ _ hc]; exact i1 c hc, fun x hx => by rw [w_at, if_neg (by omega)]; exact i2 x hx, fun t ht h2 => ?_, fun t ht => ?_⟩, ?_⟩
    · rw [w_at]
      by_cases e : t = s
      · subst e; rw [if_pos rfl, kst_gst (hFm t)]
      · rw [if_neg (by omega)]; exact i3 t ht (by omega)
    · rw [w_at, if_neg (by omega)]; exact i4 t (by omega)
    · intro r hr
      rw [es'] at hr
      rw [es]
      refine sg_66c72_15 _ _ _ _ _ _ _ _ _ ?_
      simp (disch := omega) only [eV_at, eV_up, o_lit2, o_add, o_sub, o_mul, o_neg, o_div, o_nat, ix_t, o_lt, o_le, o_eq, o_bi0, o_bi1, o_bib, em_t, o_neg1, o_shl, o_tb, o_tb0, o_tt, o_and, o_xor, o_or, o_max, o_min, an_tb, and_true, true_and, not_true, not_false, if_true, if_false, tn_add, tn_mul, Int.reduceToNat, tn_cast, md_x, i4 s (by omega)]
      rw [if_neg (by omega)]
      refine k_66i_72 hm (m := (V 3 l).toNat) (by omega) (fun j hj => ((fgl_mem _ _ j).mp hj).1) (by omega) hfr (fun t ht => i4 t (by omega)) hFb hgb (fun t ht => by rw [i1 73 (by decide), i1 74 (by decide)]; exact hA2 t ht) r ?_
      refine sg_66c72_32 _ _ _ _ _ _ _ _ _ _ _ ?_
      simp (disch := omega) only [eV_at, eV_up, o_lit2, o_add, o_sub, o_mul, o_neg, o_div, o_nat, ix_t, o_lt, o_le, o_eq, o_bi0, o_bi1, o_bib, em_t, o_neg1, o_shl, o_tb, o_tb0, o_tt, o_and, o_xor, o_or, o_max, o_min, an_tb, and_true, true_and, not_true, not_false, if_true, if_false, tn_add, tn_mul, Int.reduceToNat, tn_cast, md_x]
      rw [if_pos (by omega)]
      exact hr) (2 ^ (V 3 l).toNat) 0 A (by omega) ⟨fun _ _ => rfl, fun x _ => by rw [eC], fun s _ _ => by omega, fun s hs => by rw [eC]; exact hF s (by omega)⟩
  obtain ⟨i1, i2, i3, i4⟩ := hi
  refine ⟨W, fun c h1 h2 h3 => by rw [i1 c h3]; exact hA c h1 h2, i2, fun s hs => i3 s hs (by omega), ?_⟩
  refine sg_66c72 _ _ _ _ _ _ _ ⟨_, _, hA3, _, _, hk, ?_⟩
  rw [cast_pred hpos]
  rw [show ((2 ^ (V 3 l).toNat : Nat) : Int) - 1 = (2 ^ (V 3 l).toNat : Nat) - 1 - (0 : Nat) by omega]
  refine hr _ ?_
  refine sg_66c72_15 _ _ _ _ _ _ _ _ _ ?_
  simp (disch := omega) only [eV_at, eV_up, o_lit2, o_add, o_sub, o_mul, o_neg, o_div, o_nat, ix_t, o_lt, o_le, o_eq, o_bi0, o_bi1, o_bib, em_t, o_neg1, o_shl, o_tb, o_tb0, o_tt, o_and, o_xor, o_or, o_max, o_min, an_tb, and_true, true_and, not_true, not_false, if_true, if_false, tn_add, tn_mul, Int.reduceToNat, tn_cast, md_x]
  rw [if_pos (by omega)]
  trivial
theorem k_66i_81 {L d : Nat} {xs : Nat → Int32} {W : Nat → Nat → Int} {J : Nat → Nat → Int64} {tg : Option Nat} {F g : Nat → Int} {K : List Nat} {m s fr : Nat} {x1 x2 x5 : Int32} (hm : m ≤ 6) (hs : s < 2 ^ m) (hK : ∀ j, j ∈ K → j < m) (hl : K.length ≤ 6) (hfr : fr + 64 ≤ 5376) (hF : ∀ t, t ≤ s → W 81 (fr + t) = F t) (hFb : ∀ t, 0 ≤ F t ∧ F t ≤ 10000) (hgb : ∀ t, 0 ≤ g t ∧ g t ≤ 10000) (h73 : ∀ t, t < K.length → W 73 t = ((2 ^ (K.getD t 0) : Nat) : Int) ∧ W 74 t = g (K.getD t 0)) : Rch (GW L xs) (d + 1) 66 (32, [.ref 70, .int x1, .int x2, .ref 81, (Value.int (Int32.ofInt (fr))), .int x5, (Value.int (Int32.ofInt (K.length))), (Value.int (Int32.ofInt (s))), (Value.int (Int32.ofInt (F s))), (Value.int (Int32.ofInt (0)))], [], zS (eV W) J tg) (32, [.ref 70, .int x1, .int x2, .ref 81, (Value.int (Int32.ofInt (fr))), .int x5, (Value.int (Int32.ofInt (K.length))), (Value.int (Int32.ofInt (s))), (Value.int (Int32.ofInt (kst s g F K (F s)))), (Value.int (Int32.ofInt (K.length)))], [], zS (eV W) J tg) := by
  have h64 := p2_64 hm
  obtain ⟨z, hi, hr⟩ := loopN (g := GW L xs) (d := d + 1) (mid := 66) (σ := Unit) (fun n _ => (32, [.ref 70, .int x1, .int x2, .ref 81, (Value.int (Int32.ofInt (fr))), .int x5, (Value.int (Int32.ofInt (K.length))), (Value.int (Int32.ofInt (s))), (Value.int (Int32.ofInt (kst s g F (K.take n) (F s)))), (Value.int (Int32.ofInt (n)))], [], zS (eV W) J tg)) (fun n _ => 0 ≤ kst s g F (K.take n) (F s) ∧ kst s g F (K.take n) (F s) ≤ 20000) K.length (by
    intro n _ hn hb
    have hj : K.getD n 0 < m := hK _ (by simp [List.getD, hn])
    have hx := x_lt hs hj
    have h7 := h73 n hn
    have hFs := hFb (s ^^^ 2 ^ K.getD n 0)
    have hg := hgb (K.getD n 0)
    have han : s &&& 2 ^ K.getD n 0 ≤ s := Nat.and_le_left
    refine ⟨(), ?_, ?_⟩
    · rw [kst_tk hn]
      split <;> omega
    · intro r hr
      rw [kst_tk hn] at hr
      refine sg_66c81_32 _ _ _ _ _ _ _ _ _ _ _ ?_
      by_cases hb : s.testBit (K.getD n 0) = true
      · have hxs : s ^^^ 2 ^ K.getD n 0 ≤ s := x_le hb
        rw [if_pos hb] at hr
        simp (disch := omega) only [h7.1, h7.2, eV_at, eV_up, o_lit2, o_add, o_sub, o_mul, o_neg, o_div, o_nat, ix_t, o_lt, o_le, o_eq, o_bi0, o_bi1, o_bib, em_t, o_neg1, o_shl, o_tb, o_tb0, o_tt, o_and, o_xor, o_or, o_max, o_min, an_tb, and_true, true_and, not_true, not_false, if_true, if_false, tn_add, tn_mul, Int.reduceToNat, tn_cast, md_x, hF _ hxs]
        rw [if_neg (by omega), if_neg (by rw [hb]; simp)]
        exact hr
      · rw [if_neg hb] at hr
        simp (disch := omega) only [h7.1, h7.2, eV_at, eV_up, o_lit2, o_add, o_sub, o_mul, o_neg, o_div, o_nat, ix_t, o_lt, o_le, o_eq, o_bi0, o_bi1, o_bib, em_t, o_neg1, o_shl, o_tb, o_tb0, o_tt, o_and, o_xor, o_or, o_max, o_min, an_tb, and_true, true_and, not_true, not_false, if_true, if_false, tn_add, tn_mul, Int.reduceToNat, tn_cast, md_x]
        rw [if_neg (by omega), if_pos (Bool.eq_false_iff.mpr hb)]
        exact hr) K.length 0 () (by omega) (by have := hFb s; simp [kst]; omega)
  have := hr
  simp only [List.take_zero, List.take_length] at this
  exact this
theorem k_66_81 {L d : Nat} {xs : Nat → Int32} {V : Nat → Nat → Int} {J : Nat → Nat → Int64} {tg : Option Nat} (hR : RNG V) {l : Nat} (hl : l < 24) {p : Int} (hp : 0 ≤ p ∧ p < 180) {F : Nat → Int} {fr to : Nat} (hfr : fr + 64 ≤ 5376) (hto : to + 64 ≤ 5376) (hft : fr = to ∨ fr + 64 ≤ to) (hF : ∀ s, s < 2 ^ (V 3 l).toNat → V 81 (fr + s) = F s) (hFb : ∀ t, 0 ≤ F t ∧ F t ≤ 10000) (hFm : ∀ s j, s.testBit j = true → F (s ^^^ 2 ^ j) ≤ F s) : ∃ W, (∀ c, c ≠ 73 → c ≠ 74 → c ≠ 81 → W c = V c) ∧ (∀ x, x < to ∨ to + 64 ≤ x → W 81 x = V 81 x) ∧ (∀ s, s < 2 ^ (V 3 l).toNat → W 81 (to + s) = gst s (g1 V p (lkc V l)) F (V 3 l).toNat (F s)) ∧ Runs (GW L xs) (d + 1) 66 (0, [.ref 70, (Value.int (Int32.ofInt (p))), (Value.int (Int32.ofInt (l))), .ref 81, (Value.int (Int32.ofInt (fr))), (Value.int (Int32.ofInt (to))), vU, vU, vU, vU], [], zS (eV (V)) J tg) (none, zS (eV (W)) J tg) := by
  have h3 : 0 ≤ V 3 l ∧ V 3 l ≤ 6 := hR 3 l (by decide) (by decide)
  obtain ⟨A, hA, hA2, hA3⟩ := k_67 (L := L) (xs := xs) (J := J) (tg := tg) (d := d) hR hl hp
  have hRA : RNG A := hR.fr fun c hc => hA c (by omega) (by omega)
  have hk := k_65 (L := L) (xs := xs) (J := J) (tg := tg) (d := d) hRA hl
  have e3 : A 3 = V 3 := hA 3 (by decide) (by decide)
  have eC : A 81 = V 81 := hA 81 (by decide) (by decide)
  rw [e3] at hk
  have hm : (V 3 l).toNat ≤ 6 := by omega
  have h64 := p2_64 hm
  have hpos := Nat.pow_pos (a := 2) (n := (V 3 l).toNat) (by omega)
  have hlen := fgl_len (g1 V p (lkc V l)) (V 3 l).toNat
  have hgb : ∀ t, 0 ≤ g1 V p (lkc V l) t ∧ g1 V p (lkc V l) t ≤ 10000 := fun t => by have := g1_rg hR (lkc V l) t (p := p); omega
  obtain ⟨W, hi, hr⟩ := loopN (g := GW L xs) (d := d + 1) (mid := 66) (σ := Nat → Nat → Int) (fun n W => (15, [.ref 70, (Value.int (Int32.ofInt (p))), (Value.int (Int32.ofInt (l))), .ref 81, (Value.int (Int32.ofInt (fr))), (Value.int (Int32.ofInt (to))), (Value.int (Int32.ofInt ((fgl (g1 V p (lkc V l)) (V 3 l).toNat).length))), (Value.int (Int32.ofInt ((2 ^ (V 3 l).toNat : Nat) - 1 - n))), vU, vU], [], zS (eV W) J tg)) (fun n W => (∀ c, c ≠ 81 → W c = A c) ∧ (∀ x, x < to ∨ to + 64 ≤ x → W 81 x = V 81 x) ∧ (∀ s, s < 2 ^ (V 3 l).toNat → 2 ^ (V 3 l).toNat ≤ s + n → W 81 (to + s) = gst s (g1 V p (lkc V l)) F (V 3 l).toNat (F s)) ∧ (∀ s, s + n < 2 ^ (V 3 l).toNat → W 81 (fr + s) = F s)) (2 ^ (V 3 l).toNat) (by
    intro n W hn ⟨i1, i2, i3, i4⟩
    obtain ⟨s, hs⟩ : ∃ s, s + n + 1 = 2 ^ (V 3 l).toNat := ⟨2 ^ (V 3 l).toNat - 1 - n, by omega⟩
    have es : ((2 ^ (V 3 l).toNat : Nat) : Int) - 1 - n = s := by omega
    have es' : ((2 ^ (V 3 l).toNat : Nat) : Int) - 1 - (n + 1 : Nat) = (s : Int) + -1 := by omega
    have hFs := hFb s
    have hks : 0 ≤ kst s (g1 V p (lkc V l)) F (fgl (g1 V p (lkc V l)) (V 3 l).toNat) (F s) := by
      have := (@kst_le s (g1 V p (lkc V l)) F _ (fgl (g1 V p (lkc V l)) (V 3 l).toNat) (F s)).mp (Int.le_refl _)
      omega
    refine ⟨up2 W 81 (to + s) (kst s (g1 V p (lkc V l)) F (fgl (g1 V p (lkc V l)) (V 3 l).toNat) (F s)), ⟨fun c hc => by rw [w_ne _ _ _ _ hc]; exact i1 c hc, fun x hx => by rw [w_at, if_neg (by omega)]; exact i2 x hx, fun t ht h2 => ?_, fun t ht => ?_⟩, ?_⟩
    · rw [w_at]
      by_cases e : t = s
      · subst e; rw [if_pos rfl, kst_gst (hFm t)]
      · rw [if_neg (by omega)]; exact i3 t ht (by omega)
    · rw [w_at, if_neg (by omega)]; exact i4 t (by omega)
    · intro r hr
      rw [es'] at hr
      rw [es]
      refine sg_66c81_15 _ _ _ _ _ _ _ _ _ ?_
      simp (disch := omega) only [eV_at, eV_up, o_lit2, o_add, o_sub, o_mul, o_neg, o_div, o_nat, ix_t, o_lt, o_le, o_eq, o_bi0, o_bi1, o_bib, em_t, o_neg1, o_shl, o_tb, o_tb0, o_tt, o_and, o_xor, o_or, o_max, o_min, an_tb, and_true, true_and, not_true, not_false, if_true, if_false, tn_add, tn_mul, Int.reduceToNat, tn_cast, md_x, i4 s (by omega)]
      rw [if_neg (by omega)]
      refine k_66i_81 hm (m := (V 3 l).toNat) (by omega) (fun j hj => ((fgl_mem _ _ j).mp hj).1) (by omega) hfr (fun t ht => i4 t (by omega)) hFb hgb (fun t ht => by rw [i1 73 (by decide), i1 74 (by decide)]; exact hA2 t ht) r ?_
      refine sg_66c81_32 _ _ _ _ _ _ _ _ _ _ _ ?_
      simp (disch := omega) only [eV_at, eV_up, o_lit2, o_add, o_sub, o_mul, o_neg, o_div, o_nat, ix_t, o_lt, o_le, o_eq, o_bi0, o_bi1, o_bib, em_t, o_neg1, o_shl, o_tb, o_tb0, o_tt, o_and, o_xor, o_or, o_max, o_min, an_tb, and_true, true_and, not_true, not_false, if_true, if_false, tn_add, tn_mul, Int.reduceToNat, tn_cast, md_x]
      rw [if_pos (by omega)]
      exact hr) (2 ^ (V 3 l).toNat) 0 A (by omega) ⟨fun _ _ => rfl, fun x _ => by rw [eC], fun s _ _ => by omega, fun s hs => by rw [eC]; exact hF s (by omega)⟩
  obtain ⟨i1, i2, i3, i4⟩ := hi
  refine ⟨W, fun c h1 h2 h3 => by rw [i1 c h3]; exact hA c h1 h2, i2, fun s hs => i3 s hs (by omega), ?_⟩
  refine sg_66c81 _ _ _ _ _ _ _ ⟨_, _, hA3, _, _, hk, ?_⟩
  rw [cast_pred hpos]
  rw [show ((2 ^ (V 3 l).toNat : Nat) : Int) - 1 = (2 ^ (V 3 l).toNat : Nat) - 1 - (0 : Nat) by omega]
  refine hr _ ?_
  refine sg_66c81_15 _ _ _ _ _ _ _ _ _ ?_
  simp (disch := omega) only [eV_at, eV_up, o_lit2, o_add, o_sub, o_mul, o_neg, o_div, o_nat, ix_t, o_lt, o_le, o_eq, o_bi0, o_bi1, o_bib, em_t, o_neg1, o_shl, o_tb, o_tb0, o_tt, o_and, o_xor, o_or, o_max, o_min, an_tb, and_true, true_and, not_true, not_false, if_true, if_false, tn_add, tn_mul, Int.reduceToNat, tn_cast, md_x]
  rw [if_pos (by omega)]
  trivial
